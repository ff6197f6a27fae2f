/-! noise, in both ways -/
theorem own_ok : ∀ l, l < 10 → n32 (FP.fmul 1082130432 (FP.i2f (nI l))) = true ∧ n32 (FP.fadd 1112014848 (FP.fmul 1082130432 (FP.i2f (nI l)))) = true ∧ n32 (FP.fadd (FP.fadd 1112014848 (FP.fmul 1082130432 (FP.i2f (nI l)))) 1084227584) = true ∧ (FP.fadd 1112014848 (FP.fmul 1082130432 (FP.i2f (nI l)))).toNat ≤ 1119879168 ∧ (FP.fadd (FP.fadd 1112014848 (FP.fmul 1082130432 (FP.i2f (nI l)))) 1084227584).toNat ≤ 1119879168 := by decide +kernel
def nobF (kin lou : Nat → Int32) (b : Nat) : UInt32 := (f_X3_noiseOfBusker kin lou (nI b)).getD 0
def ownF (kin lou pit : Nat → Int32) (a : Int32) : UInt32 := (f_X3_ownNoiseOn kin lou pit a).getD 0
def noiF (kin lou pit : Nat → Int32) (a : Int32) : UInt32 := (f_X3_noiseOn kin lou pit a).getD 0
section NOISE
variable {n : Nat} {kin lou pit pla cas hrs nws : Nat → Int32} {hat wea : Nat → UInt32}
theorem nob_eq (hn : n ≤ 8) (hK : qK n kin lou) {b : Nat} (hb : b < n) : f_X3_noiseOfBusker kin lou (nI b) = some (nobF kin lou b) ∧ (nobF kin lou b).toNat ≤ 1119879168 := by
  have key : ∃ x, f_X3_noiseOfBusker kin lou (nI b) = some x ∧ x.toNat ≤ 1119879168 := by
    obtain ⟨hk, l, hl1, hl2, hl⟩ := hK b hb
    obtain ⟨g1, g2, g3, g4, g5⟩ := own_ok l (by omega)
    unfold f_X3_noiseOfBusker
    rw [inbN (by omega) (by decide), clN (by omega), hl, g1, g2, og_t, og_t, og_t, og_t]
    rcases hk with h | h
    · rw [h, if_neg (by decide)]
      exact ⟨_, rfl, g4⟩
    · rw [h, if_pos rfl, g3, og_t]
      exact ⟨_, rfl, g5⟩
  obtain ⟨x, h1, h3⟩ := key
  have : nobF kin lou b = x := by unfold nobF; rw [h1]; rfl
  rw [this]
  exact ⟨h1, h3⟩
theorem ownF_none {a : Int32} (h : f_X3_playerOn pit a = some (-1)) : f_X3_ownNoiseOn kin lou pit a = some 0 ∧ ownF kin lou pit a = 0 := by
  have : f_X3_ownNoiseOn kin lou pit a = some 0 := by
    unfold f_X3_ownNoiseOn
    rw [h, ob_s, if_pos rfl]; rfl
  exact ⟨this, by unfold ownF; rw [this]; rfl⟩
theorem ownF_some (hn : n ≤ 8) (hK : qK n kin lou) {a : Int32} {b : Nat} (hb : b < n) (h : f_X3_playerOn pit a = some (nI b)) : f_X3_ownNoiseOn kin lou pit a = some (nobF kin lou b) ∧ ownF kin lou pit a = nobF kin lou b := by
  have : f_X3_ownNoiseOn kin lou pit a = some (nobF kin lou b) := by
    unfold f_X3_ownNoiseOn
    rw [h, ob_s, if_neg (nI_ne_m1 (by omega)), (nob_eq hn hK hb).1]; rfl
  exact ⟨this, by unfold ownF; rw [this]; rfl⟩
theorem own_eq (hn : n ≤ 8) (hK : qK n kin lou) (hE : qE n pit pla cas hrs nws hat wea) (hI : qPi pit) (hJ : qPj pit) (a : Int32) : f_X3_ownNoiseOn kin lou pit a = some (ownF kin lou pit a) ∧ (ownF kin lou pit a).toNat ≤ 1119879168 := by
  rcases pitch_cases a with h1 | ⟨k, hk, rfl, h1⟩
  · obtain ⟨e1, e2⟩ := ownF_none (kin := kin) (lou := lou) (player_out (pit := pit) h1)
    rw [e2]
    exact ⟨e1, by decide⟩
  · rcases pl_cases hE hI hJ hk with ⟨hp, -, -⟩ | ⟨b, hb, -, -, hp, -⟩
    · obtain ⟨e1, e2⟩ := ownF_none (kin := kin) (lou := lou) hp
      rw [e2]
      exact ⟨e1, by decide⟩
    · obtain ⟨e1, e2⟩ := ownF_some hn hK hb hp
      obtain ⟨b1, b3⟩ := nob_eq hn hK hb
      rw [e2]
      exact ⟨e1, b3⟩
theorem quarter {x : UInt32} (hx : x.toNat ≤ 1119879168) : (FP.fmul 1048576000 x).toNat ≤ 1103101952 := by
  refine fmul_le (by decide) (by omega) ?_
  refine Nat.le_trans (Nat.mul_le_mul_left _ (U32_le.mpr hx)) ?_
  decide +kernel
theorem sum1 {x y : UInt32} (hx : x.toNat ≤ 1119879168) (hy : y.toNat ≤ 1103101952) : (FP.fadd x y).toNat ≤ 1123024896 := by
  refine fadd_le (by omega) (by omega) ?_
  refine Nat.le_trans (Nat.add_le_add (U32_le.mpr hx) (U32_le.mpr hy)) ?_
  decide +kernel
theorem sum2 {x y : UInt32} (hx : x.toNat ≤ 1123024896) (hy : y.toNat ≤ 1103101952) : (FP.fadd x y).toNat ≤ 1125122048 := by
  refine fadd_le (by omega) (by omega) ?_
  refine Nat.le_trans (Nat.add_le_add (U32_le.mpr hx) (U32_le.mpr hy)) ?_
  decide +kernel
/-- the noise around: own noise, a quarter of each neighbour's -/
def arF (kin lou pit : Nat → Int32) (a : Int32) (x : UInt32) : UInt32 := FP.fadd (FP.fadd x (FP.fmul 1048576000 (ownF kin lou pit (a - 1)))) (FP.fmul 1048576000 (ownF kin lou pit (a + 1)))
theorem around_eq (hn : n ≤ 8) (hK : qK n kin lou) (hE : qE n pit pla cas hrs nws hat wea) (hI : qPi pit) (hJ : qPj pit) (a : Int32) {x : UInt32} (hx : x.toNat ≤ 1119879168) : f_X3_noiseAround kin lou pit a x = some (arF kin lou pit a x) ∧ (arF kin lou pit a x).toNat ≤ 1125122048 := by
  obtain ⟨l1, l3⟩ := own_eq hn hK hE hI hJ (a - 1)
  obtain ⟨r1, r3⟩ := own_eq hn hK hE hI hJ (a + 1)
  have q1 := quarter l3
  have q2 := quarter r3
  have q3 := sum1 hx q1
  have q4 := sum2 q3 q2
  have g1 := n32_lt (v := FP.fmul 1048576000 (ownF kin lou pit (a - 1))) (by omega)
  have g2 := n32_lt (v := FP.fmul 1048576000 (ownF kin lou pit (a + 1))) (by omega)
  have g3 := n32_lt (v := FP.fadd x (FP.fmul 1048576000 (ownF kin lou pit (a - 1)))) (by omega)
  have g4 := n32_lt (v := FP.fadd (FP.fadd x (FP.fmul 1048576000 (ownF kin lou pit (a - 1)))) (FP.fmul 1048576000 (ownF kin lou pit (a + 1)))) (by omega)
  refine ⟨?_, q4⟩
  unfold f_X3_noiseAround
  rw [l1, ob_s, g1, og_t, g3, og_t, r1, ob_s, g2, og_t, g4, og_t]; rfl
theorem noise_eq (hn : n ≤ 8) (hK : qK n kin lou) (hE : qE n pit pla cas hrs nws hat wea) (hI : qPi pit) (hJ : qPj pit) (a : Int32) : f_X3_noiseOn kin lou pit a = some (noiF kin lou pit a) ∧ (noiF kin lou pit a).toNat ≤ 1125122048 ∧ noiF kin lou pit a = arF kin lou pit a (ownF kin lou pit a) := by
  obtain ⟨l1, l3⟩ := own_eq hn hK hE hI hJ a
  obtain ⟨r1, r3⟩ := around_eq hn hK hE hI hJ a l3
  have e : f_X3_noiseOn kin lou pit a = some (arF kin lou pit a (ownF kin lou pit a)) := by
    unfold f_X3_noiseOn
    rw [l1, ob_s, r1]; rfl
  have e2 : noiF kin lou pit a = arF kin lou pit a (ownF kin lou pit a) := by unfold noiF; rw [e]; rfl
  rw [e2]
  exact ⟨e, r3, rfl⟩
/-- the noise that a pitch would have with a busker -/
def nwF (kin lou pit : Nat → Int32) (a : Int32) (b : Nat) : UInt32 := arF kin lou pit a (nobF kin lou b)
theorem with_eq (hn : n ≤ 8) (hK : qK n kin lou) (hE : qE n pit pla cas hrs nws hat wea) (hI : qPi pit) (hJ : qPj pit) (a : Int32) {b : Nat} (hb : b < n) : f_X3_noiseOf kin lou pit a (nI b) = some (nwF kin lou pit a b) ∧ (nwF kin lou pit a b).toNat ≤ 1125122048 := by
  obtain ⟨l1, l3⟩ := nob_eq hn hK hb
  obtain ⟨r1, r3⟩ := around_eq hn hK hE hI hJ a l3
  refine ⟨?_, r3⟩
  unfold f_X3_noiseOf
  rw [l1, ob_s, r1]; rfl
/-- the noise by a row of own noises -/
def isRow (kin lou pit : Nat → Int32) (row : Nat → UInt32) : Prop := ∀ j, j < 10 → row j = ownF kin lou pit (nI j - 1)
theorem rowAt (hn : n ≤ 8) (hK : qK n kin lou) (hE : qE n pit pla cas hrs nws hat wea) (hI : qPi pit) (hJ : qPj pit) {row : Nat → UInt32} (hr : isRow kin lou pit row) {k : Nat} (hk : k < 8) : n32 (FP.fmul 1048576000 (row k)) = true ∧ n32 (FP.fadd (row (k + 1)) (FP.fmul 1048576000 (row k))) = true ∧ n32 (FP.fmul 1048576000 (row (k + 2))) = true ∧ n32 (FP.fadd (FP.fadd (row (k + 1)) (FP.fmul 1048576000 (row k))) (FP.fmul 1048576000 (row (k + 2)))) = true ∧ FP.fadd (FP.fadd (row (k + 1)) (FP.fmul 1048576000 (row k))) (FP.fmul 1048576000 (row (k + 2))) = noiF kin lou pit (nI k) := by
  have e0 := hr k (by omega)
  have e1 := hr (k + 1) (by omega)
  have e2 := hr (k + 2) (by omega)
  rw [nI_pred] at e1
  rw [show nI (k + 2) - 1 = nI k + 1 by rw [show k + 2 = (k + 1) + 1 from rfl, nI_pred, nI_1]] at e2
  have q1 := quarter (own_eq hn hK hE hI hJ (nI k - 1)).2
  have q2 := quarter (own_eq hn hK hE hI hJ (nI k + 1)).2
  have q3 := sum1 (own_eq hn hK hE hI hJ (nI k)).2 q1
  have q4 := sum2 q3 q2
  rw [e0, e1, e2]
  exact ⟨n32_lt (by omega), n32_lt (by omega), n32_lt (by omega), n32_lt (by omega), ((noise_eq hn hK hE hI hJ (nI k)).2.2).symm⟩
theorem byRow_eq (hn : n ≤ 8) (hK : qK n kin lou) (hE : qE n pit pla cas hrs nws hat wea) (hI : qPi pit) (hJ : qPj pit) {row : Nat → UInt32} (hr : isRow kin lou pit row) {k : Nat} (hk : k < 8) : f_X3_noiseByRow row (nI k) = some (noiF kin lou pit (nI k)) := by
  obtain ⟨g1, g2, g3, g4, g5⟩ := rowAt hn hK hE hI hJ hr hk
  unfold f_X3_noiseByRow
  rw [nI_1, show nI k + 2 = nI (k + 2) from nI_add k 2, inbN (by omega) (by decide), inbN (by omega) (by decide), inbN (by omega) (by decide), clN (by omega), clN (by omega), clN (by omega), og_t, og_t, g1, og_t, g2, og_t, og_t, g3, og_t, g4, og_t, g5]
theorem fill0 (x : UInt32) : ∀ (m fuel i : Nat) (row : Nat → UInt32), i + m = 10 → m < fuel → (∀ j, j < i → row j = x) → ∃ row', f_J7_fill_e525d_c5 10 x fuel (nI i) (nI 10) row = some row' ∧ ∀ j, j < 10 → row' j = x := by
  intro m
  induction m with
  | zero =>
    intro fuel i row hi hf h
    obtain ⟨fuel, rfl⟩ : ∃ z, fuel = z + 1 := ⟨fuel - 1, by omega⟩
    refine ⟨row, ?_, fun j hj => h j (by omega)⟩
    unfold f_J7_fill_e525d_c5
    rw [if_pos (nI_le (by omega) (by omega))]
  | succ m ih =>
    intro fuel i row hi hf h
    obtain ⟨fuel, rfl⟩ : ∃ z, fuel = z + 1 := ⟨fuel - 1, by omega⟩
    unfold f_J7_fill_e525d_c5
    rw [if_neg (nI_ge (by omega) (by omega)), inbN (by omega) (by decide), og_t, clN (by omega), nI_1]
    refine ih fuel (i + 1) _ (by omega) (by omega) (fun j hj => ?_)
    by_cases e : j = i
    · rw [e, vupd_eq]
    · rw [vupd_ne _ _ e]; exact h j (by omega)
theorem layRow' (hn : n ≤ 8) (hK : qK n kin lou) (hE : qE n pit pla cas hrs nws hat wea) (hI : qPi pit) (hJ : qPj pit) : ∀ (m fuel i : Nat) (row : Nat → UInt32), i + m = 8 → m < fuel → (∀ j, j < 10 → row j = ownF kin lou pit (nI j - 1) ∨ (row j = 0 ∧ ∃ k b, j = k + 1 ∧ k < 8 ∧ i ≤ b ∧ b < 8 ∧ pit b = nI k)) → ∃ row', f_X3_layRow_c10 kin lou pit fuel (nI i) row = some row' ∧ isRow kin lou pit row' := by
  intro m
  induction m with
  | zero =>
    intro fuel i row hi hf h
    obtain ⟨fuel, rfl⟩ : ∃ z, fuel = z + 1 := ⟨fuel - 1, by omega⟩
    refine ⟨row, ?_, fun j hj => ?_⟩
    · unfold f_X3_layRow_c10
      rw [if_pos (show (8 : Int32) ≤ nI i from nI_le (a := 8) (by omega) (by omega))]
    · rcases h j hj with h | ⟨-, k, b, -, -, h1, h2, -⟩
      · exact h
      · omega
  | succ m ih =>
    intro fuel i row hi hf h
    obtain ⟨fuel, rfl⟩ : ∃ z, fuel = z + 1 := ⟨fuel - 1, by omega⟩
    unfold f_X3_layRow_c10
    rw [if_neg (show ¬ (8 : Int32) ≤ nI i from nI_ge (b := 8) (by omega) (by decide)), inbN (by omega) (by decide), og_t, clN (by omega), nI_1]
    rcases hI i (by omega) with hp | ⟨k, hk, hp⟩
    · rw [hp, isP_m1, ob_s, if_pos rfl]
      refine ih fuel (i + 1) row (by omega) (by omega) (fun j hj => ?_)
      rcases h j hj with h | ⟨h0, k, b, h1, h2, h3, h4, h5⟩
      · exact Or.inl h
      · refine Or.inr ⟨h0, k, b, h1, h2, ?_, h4, h5⟩
        by_cases e : b = i
        · rw [e, hp] at h5
          exact absurd h5.symm (nI_ne_m1 (by omega))
        · omega
    · have hin : i < n := qE_in hE (by omega) hk hp
      have hnob := nob_eq hn hK hin
      have hpl : f_X3_playerOn pit (nI k) = some (nI i) := by
        rcases pl_cases hE hI hJ hk with ⟨-, -, w⟩ | ⟨b, hb, hb8, w2, w3, -⟩
        · exact absurd hp (w i (by omega))
        · rw [w3, qPj_u hJ hb8 hk w2 i (by omega) hp]
      rw [hp, isP_T hk, ob_s, if_neg n10, og_t, hnob.1, ob_s, nI_1, inbN (by omega) (by decide), og_t, clN (by omega)]
      refine ih fuel (i + 1) _ (by omega) (by omega) (fun j hj => ?_)
      by_cases e : j = k + 1
      · left
        rw [e, vupd_eq, nI_pred, (ownF_some hn hK hin hpl).2]
      · rw [vupd_ne _ _ e]
        rcases h j hj with h | ⟨h0, k', b, h1, h2, h3, h4, h5⟩
        · exact Or.inl h
        · refine Or.inr ⟨h0, k', b, h1, h2, ?_, h4, h5⟩
          by_cases e2 : b = i
          · rw [e2, hp] at h5
            have := (nI_eq (by omega) (by omega)).mp h5
            omega
          · omega
theorem layRow_eq (hn : n ≤ 8) (hK : qK n kin lou) (hE : qE n pit pla cas hrs nws hat wea) (hI : qPi pit) (hJ : qPj pit) (row : Nat → UInt32) : ∃ row', f_X3_layRow kin lou pit row = some row' ∧ isRow kin lou pit row' := by
  obtain ⟨row0, e0, h0⟩ := fill0 FP.fconst0 10 4096 0 row rfl (by decide) (fun j hj => by omega)
  unfold f_X3_layRow f_J7_fill_e525d
  rw [show Int32.ofNat 10 = nI 10 from rfl, show (0 : Int32) = nI 0 from rfl, e0, ob_s]
  refine layRow' hn hK hE hI hJ 8 4096 0 row0 rfl (by decide) (fun j hj => ?_)
  rw [h0 j hj]
  by_cases j0 : j = 0
  · left
    rw [j0]
    exact ((ownF_none (kin := kin) (lou := lou) (player_out (pit := pit) (a := nI 0 - 1) rfl)).2).symm
  · by_cases j9 : j = 9
    · left
      rw [j9]
      exact ((ownF_none (kin := kin) (lou := lou) (player_out (pit := pit) (a := nI 9 - 1) rfl)).2).symm
    · obtain ⟨k, rfl⟩ : ∃ k, j = k + 1 := ⟨j - 1, by omega⟩
      have hk : k < 8 := by omega
      rcases pl_cases hE hI hJ hk with ⟨w, -, -⟩ | ⟨b, hb, hb8, w, -, -⟩
      · left
        rw [nI_pred]
        exact ((ownF_none (kin := kin) (lou := lou) w).2).symm
      · exact Or.inr ⟨rfl, k, b, rfl, hk, by omega, by omega, w⟩
end NOISE
