/-! the mean, the quietest, what comes ahead -/
theorem f2d_ok {b : UInt32} (h : FP.Core.fIsNaN b = false) : n64 (FP.f2d b) = true ∧ Op.cmpValue (FP.dcmp (FP.f2d b) (FP.f2d b)) .l = 0 := by
  have e : FP.f2d b = FP.Core.f2d b := by
    show (if FP.Core.fIsNaN b then _ else _) = _
    rw [h]; rfl
  have h2 := FP.Core.f2d_out h
  rw [← e] at h2
  have h3 := (FP.Core.notNaN_iff _).mp h2
  refine ⟨n64_of ((FP.Core.ne_nan _).mp h3), ?_⟩
  show Op.cmpValue (FP.Core.dcmp (FP.f2d b) (FP.f2d b)) .l = 0
  rw [FP.Core.dcmp_self h3]; rfl
theorem nn32 {b : UInt32} (h : b.toNat < 2139095040) : FP.Core.fIsNaN b = false := (FP.Core.notNaN_iff32 b).mpr (not_nan32 h)
theorem f2d_le {h : UInt32} (hh : h.toNat ≤ 1317011456) : (FP.f2d h).toNat ≤ 4742290407621132288 := by
  have e : FP.f2d h = FP.Core.f2d h := by
    show (if FP.Core.fIsNaN h then _ else _) = _
    rw [nn32 (by omega)]; rfl
  rw [e]
  have e1 : (FP.Core.f2d h).toNat = FP.Core.convert FP.Core.b32 FP.Core.b64 h.toNat := FP.Core.toNat_of64 (FP.Core.round_fits FP.Core.good_b64 _)
  obtain ⟨c, q, a1, a2, a3⟩ := fl_dec FP.Core.good_b32 (x := h.toNat) (by rw [i32]; omega)
  have hq := a2.2.1
  rw [q32] at hq
  have hd : FP.Core.decode FP.Core.b64 (FP.Core.f2d h).toNat = FP.Core.roundRatio FP.Core.b64 false c 1 q := by
    rw [e1]
    unfold FP.Core.convert
    rw [FP.Core.decode_enc FP.Core.good_b64 (FP.Core.round_fits FP.Core.good_b64 _), a1]
    rfl
  refine fl_le FP.Core.good_b64 hd (FP.Core.lt_full64 _) (by decide) (Int.le_refl _) (by rw [q64]; omega) ?_
  rw [Int.sub_self, Int.toNat_zero, Nat.pow_zero, Nat.mul_one, Nat.mul_one]
  have e2 := FP.Core.inUnits_move c (q := q) (e := FP.Core.b64.qmin) (r := FP.Core.b32.qmin) (by rw [q32, q64]; decide) (by rw [q32]; exact hq)
  rw [e2]
  have e3 : FP.Core.inUnits c q FP.Core.b32.qmin = U32 h.toNat := a3
  rw [e3]
  refine Nat.le_trans (Nat.mul_le_mul_right _ (U32_le.mpr hh)) ?_
  decide +kernel
def blv (i : Nat) : Nat := ([0, 4742290407621132288, 4746794007248502784, 4749045807062188032, 4751297606875873280, 4752423506782715904, 4753549406689558528, 4754675306596401152, 4755801206503243776] : List Nat).getD i 0
theorem blv_ok : ∀ i, i < 8 → U64 (blv i) + U64 4742290407621132288 ≤ U64 (blv (i + 1)) := by decide +kernel
theorem blv_lt : ∀ i, i < 9 → blv i < 4800000000000000000 := by decide +kernel
theorem i2d_ok : ∀ n, n < 9 → n = 0 ∨ (4607182418800017408 ≤ (FP.i2d (nI n)).toNat ∧ (FP.i2d (nI n)).toNat < 9218868437227405312) := by decide +kernel
def dS (x : SV) : Nat → UInt64
  | 0 => FP.dconst0
  | i + 1 => FP.dadd (dS x i) (FP.f2d (g_hat x i))
section MEAN
variable {T : Nat} {x : SV} {n w : Nat} {ln : Nat → Nat}
theorem dS_le (h : JV T x n w ln) : ∀ i, i ≤ n → (dS x i).toNat ≤ blv i := by
  have hn8 := h.1.2
  intro i
  induction i with
  | zero => intro _; show (FP.dconst0 : UInt64).toNat ≤ blv 0; decide
  | succ i ih =>
    intro hi
    have ih := ih (by omega)
    have hfd := f2d_le (wea_lt h (b := i) (by omega)).2
    have hb := blv_lt i (by omega)
    refine dadd_le (by omega) (by omega) (Nat.le_trans ?_ (blv_ok i (by omega)))
    exact Nat.add_le_add (U64_le.mpr ih) (U64_le.mpr hfd)
theorem dS_n (h : JV T x n w ln) {i : Nat} (hi : i < n) : n64 (FP.f2d (g_hat x i)) = true ∧ n64 (FP.dadd (dS x i) (FP.f2d (g_hat x i))) = true := by
  have hn8 := h.1.2
  have h1 := (wea_lt h hi).2
  have h2 := dS_le h (i + 1) (by omega)
  have h2 : (FP.dadd (dS x i) (FP.f2d (g_hat x i))).toNat ≤ blv (i + 1) := h2
  have hb := blv_lt (i + 1) (by omega)
  exact ⟨(f2d_ok (nn32 (b := g_hat x i) (by omega))).1, n64_lt (by omega)⟩
def mD (n : Nat) (x : SV) : UInt64 := FP.ddiv (dS x n) (FP.i2d (nI n))
theorem mD_ok (h : JV T x n w ln) (h0 : 0 < n) : n64 (mD n x) = true ∧ f_X0_ofDouble (mD n x) = some (mD n x).toInt64 ∧ f_Jxe99ae_doubleToLongBits_ccdee (mD n x) = some (mD n x).toInt64 := by
  have hn8 := h.1.2
  have hx := dS_le h n (Nat.le_refl _)
  have hb := blv_lt n (by omega)
  obtain ⟨d1, d2⟩ := (i2d_ok n (by omega)).resolve_left (by omega)
  have hle : (mD n x).toNat ≤ (dS x n).toNat := by
    refine ddiv_le (by omega) d2 (by omega) (Nat.mul_le_mul_left _ ?_)
    have : U64 4607182418800017408 = 2 ^ 1074 := by decide +kernel
    rw [← this]
    exact U64_le.mpr d1
  exact ⟨n64_lt (by omega), ofDouble_n (by omega), dToL_n (by omega)⟩
theorem mean_c (h : JV T x n w ln) (h0 : 0 < n) : ∀ (m fuel i : Nat), i + m = 8 → m < fuel → f_X4_meanBits_c25 x fuel (dS x (min i n)) (nI i) = some (.inr (mD n x).toInt64) := by
  have hn8 := h.1.2
  have hbx : g_buskers x = nI n := h.1.1
  obtain ⟨f1, f2, -⟩ := mD_ok h h0
  intro m
  induction m with
  | zero =>
    intro fuel i hi hf
    obtain ⟨fuel, rfl⟩ : ∃ z, fuel = z + 1 := ⟨fuel - 1, by omega⟩
    unfold f_X4_meanBits_c25
    rw [if_pos (show (8 : Int32) ≤ nI i from nI_le (a := 8) (by omega) (by omega)), hbx, show min i n = n by omega, show FP.ddiv (dS x n) (FP.i2d (nI n)) = mD n x from rfl, f1, og_t, f2, ob_s]
  | succ m ih =>
    intro fuel i hi hf
    obtain ⟨fuel, rfl⟩ : ∃ z, fuel = z + 1 := ⟨fuel - 1, by omega⟩
    have ih := ih fuel (i + 1) (by omega) (by omega)
    unfold f_X4_meanBits_c25
    rw [if_neg (show ¬ (8 : Int32) ≤ nI i from nI_ge (b := 8) (by omega) (by decide)), hbx]
    by_cases hin : i < n
    · obtain ⟨g1, g2⟩ := dS_n h hin
      rw [show min (i + 1) n = i + 1 by omega] at ih
      rw [has_T hn8 hin, ob_s, if_neg n10, inbN (by omega) (by decide), og_t, clN (by omega), g1, og_t, show min i n = i by omega, g2, og_t, nI_1]
      exact ih
    · rw [show min (i + 1) n = n by omega] at ih
      rw [has_F hn8 (by omega) (by omega), ob_s, if_pos rfl, nI_1, show min i n = n by omega]
      exact ih
theorem R_mean (h : JV T x n w ln) : f_L_meanBits x = some (if n = 0 then -1 else (mD n x).toInt64) := by
  have hn8 := h.1.2
  have hbx : g_buskers x = nI n := h.1.1
  unfold f_L_meanBits f_X4_meanBits
  rw [hbx]
  by_cases h0 : n = 0
  · rw [if_neg (by rw [h0]; decide), ob_s, os_ln, if_pos rfl, if_pos h0]
  · have e := mean_c h (by omega) 8 4096 0 rfl (by decide)
    rw [show min 0 n = 0 by omega] at e
    have e : f_X4_meanBits_c25 x 4096 FP.dconst0 0 = some (.inr (mD n x).toInt64) := e
    rw [if_pos (show (0 : Int32) < nI n from nI_lt (a := 0) (by omega) (by omega)), e, ob_s, os_rn, if_neg h0]
theorem isMean_c (h : JV T x n w ln) (len cnt : Int32) : ∀ (m fuel i : Nat), i + m = n → m < fuel → f_L_isMean_c4 x len cnt fuel (dS x i) (nI i) = some 1 := by
  have hn8 := h.1.2
  intro m
  induction m with
  | zero =>
    intro fuel i hi hf
    obtain ⟨fuel, rfl⟩ : ∃ z, fuel = z + 1 := ⟨fuel - 1, by omega⟩
    rw [show i = n by omega]
    unfold f_L_isMean_c4
    simp only [A_2 h, ob_n, os_rn]
    rw [if_pos (nI_le (Nat.le_refl _) (by omega)), R_mean h, ob_s]
    by_cases h0 : n = 0
    · rw [if_pos (by rw [h0]; rfl), if_pos h0, if_pos (lgc_s _)]
    · obtain ⟨f1, -, f3⟩ := mD_ok h (by omega)
      rw [if_neg (nI_ne0 (by omega) (by omega)), if_neg h0, show FP.ddiv (dS x n) (FP.i2d (nI n)) = mD n x from rfl, f1, og_t, f3, ob_s, if_pos (lgc_s _)]
  | succ m ih =>
    intro fuel i hi hf
    obtain ⟨fuel, rfl⟩ : ∃ z, fuel = z + 1 := ⟨fuel - 1, by omega⟩
    have ih := ih fuel (i + 1) (by omega) (by omega)
    obtain ⟨g1, g2⟩ := dS_n h (i := i) (by omega)
    unfold f_L_isMean_c4
    rw [A_2 h, ob_s, os_rn, if_neg (nI_ge (by omega) (by omega)), R_hat h (by omega), ob_s, os_rn, g1, og_t, g2, og_t, nI_1]
    exact ih
theorem isMean_1 (h : JV T x n w ln) (len cnt : Int32) : f_L_isMean x len cnt = some 1 := isMean_c h len cnt n 9 0 (by omega) (by have := h.1.2; omega)
theorem isFit_1 (hI : IV T x) (hT : T < 1073741824) {spa : SV} (hs : IV T spa) (len cnt : Int32) : ∃ ρ spa', IV T spa' ∧ f_L_isFit x spa len cnt = some (1, s_row x ρ, spa') := by
  obtain ⟨n, w, ln, h⟩ := hI
  obtain ⟨ρ, spa1, e1, s1⟩ := arePitches_1 h hT (IV_Z hs) len cnt
  obtain ⟨spa2, s2, e2⟩ := areBuskers_1 (JV_row h ρ) s1 len cnt
  have e3 := isMean_1 (JV_row h ρ) len cnt
  refine ⟨ρ, spa2, s2, ?_⟩
  unfold f_L_isFit
  rw [e1, ob_s]
  dsimp only
  rw [if_neg n10, e2, ob_s]
  dsimp only
  rw [if_neg n10, e3, ob_s, if_neg n10]
end MEAN
section QUIET
variable {T : Nat} {x : SV} {n w : Nat} {ln : Nat → Nat}
theorem limitOf_1 {nxt cnt : Int32} {rng : Nat → SV} (hI : IV T x) (hH : HV T nxt cnt rng) {k : Nat} (hk : k < 8) : ∃ ρ nxt' cnt' rng', HV T nxt' cnt' rng' ∧ f_L_limitOf x nxt cnt rng (nI k) = some (g_lim x k, s_row x ρ, nxt', cnt', rng') := by
  obtain ⟨now', nxt1, cnt1, rng1, e1, i1, h1, t1⟩ := S_limit80 hI hH hk
  obtain ⟨c, now2, nxt2, hc, e2, ⟨ρ, rfl⟩, h2⟩ := S_undo_top i1 h1 t1
  have hl : (g_lim x k).toNat ≤ 1123024896 := by
    obtain ⟨n, w, ln, h⟩ := hI
    exact lim_le h hk
  refine ⟨ρ, nxt2, nI c, rng1, h2, ?_⟩
  unfold f_L_limitOf
  rw [e1, ob_s]
  dsimp only
  rw [e2, ob_s, okI_n (by omega), og_t, toI_toU]
def qZ1 (z : Int32) : Int32 := if z = -1 then -1000 else z
def isB (z : Int32) : Prop := z = -1 ∨ ∃ k, k < 8 ∧ z = nI k
theorem qz_m {z : Int32} (h : isB z) : (qZ1 z = -1000) = (z = -1) := by
  rcases h with rfl | ⟨k, hk, rfl⟩
  · exact eq_true (by decide) |>.trans (eq_true rfl).symm
  · have h1 : ¬ nI k = (-1 : Int32) := nI_ne_m1 (by omega)
    have h2 : ¬ nI k = (-1000 : Int32) := fun e => by
      have := congrArg Int32.toInt e
      rw [nI_toInt (by omega)] at this
      have h3 : (-1000 : Int32).toInt = -1000 := by decide
      omega
    unfold qZ1
    rw [if_neg h1]
    exact (eq_false h2).trans (eq_false h1).symm
theorem qz_b {k : Nat} (hk : k < 8) : qZ1 (nI k) = nI k := if_neg (nI_ne_m1 (by omega))
theorem quiet_c (h : JV T x n w ln) {b : Nat} (hb : b < n) {z : Int32} (hz : ∀ ρ, f_L_quietest (s_row x ρ) (nI b) = some (qZ1 z)) : ∀ (m fuel1 fuel2 i : Nat) (ρ : Nat → UInt32) (nxt cnt : Int32) (rng : Nat → SV) (bc : Int32) (least : UInt32), i + m = 8 → m < fuel1 → HV T nxt cnt rng → isB bc → f_X3_quietestFor_c7 (g_lim x) (g_kin x) (g_lou x) (g_pit x) (nI b) fuel2 bc least (nI i) = some z → ∃ ρ' nxt' cnt' rng', HV T nxt' cnt' rng' ∧ f_L_isQuietest_c9 (nI b) fuel1 (qZ1 bc) least (nI i) (s_row x ρ) nxt cnt rng = some (1, s_row x ρ', nxt', cnt', rng') := by
  obtain ⟨hA, hc', hL, hO, hS, hK, hF, hI, hJ, hG, hGj, hE, hN, hD, hY, hZ⟩ := id h
  have hn8 := h.1.2
  intro m
  induction m with
  | zero =>
    intro fuel1 fuel2 i ρ nxt cnt rng bc least hi hf hH hB e
    obtain ⟨fuel1, rfl⟩ : ∃ z, fuel1 = z + 1 := ⟨fuel1 - 1, by omega⟩
    have h8 : (8 : Int32) ≤ nI i := nI_le (a := 8) (by omega) (by omega)
    obtain ⟨fuel2, rfl⟩ : ∃ z, fuel2 = z + 1 := by
      cases fuel2 with
      | zero => cases (show (none : Option Int32) = some z from e)
      | succ f => exact ⟨f, rfl⟩
    unfold f_X3_quietestFor_c7 at e
    rw [if_pos h8] at e
    have e := Option.some.inj e
    refine ⟨ρ, nxt, cnt, rng, hH, ?_⟩
    unfold f_L_isQuietest_c9
    rw [if_pos h8, hz ρ, ob_s, e, if_pos rfl]
  | succ m ih =>
    intro fuel1 fuel2 i ρ nxt cnt rng bc least hi hf hH hB e
    obtain ⟨fuel1, rfl⟩ : ∃ z, fuel1 = z + 1 := ⟨fuel1 - 1, by omega⟩
    have h8 : ¬ (8 : Int32) ≤ nI i := nI_ge (b := 8) (by omega) (by decide)
    obtain ⟨fuel2, rfl⟩ : ∃ z, fuel2 = z + 1 := by
      cases fuel2 with
      | zero => cases (show (none : Option Int32) = some z from e)
      | succ f => exact ⟨f, rfl⟩
    have hi8 : i < 8 := by omega
    obtain ⟨w1, w2, w3⟩ := R_with h hi8 hb
    have w1' : f_X4_noiseWith (s_row x ρ) (nI i) (nI b) = some (.inr (nwF (g_kin x) (g_lou x) (g_pit x) (nI i) b).toInt32) := w1
    have p0 : f_X4_pitchOf (s_row x ρ) (nI i) 0 = some (.inr (plF (g_pit x) (nI i))) := R_p0 (JV_row h ρ) hi8
    unfold f_X3_quietestFor_c7 at e
    rw [if_neg h8, w2, ob_s, pl_eq hE hI hJ hi8, ob_s] at e
    unfold f_L_isQuietest_c9
    rw [if_neg h8, w1', ob_s, os_rn, okI_n (by omega), og_t, toI_toU, p0, ob_s, os_rn]
    have no : ∀ (nw : Nat → UInt32) (nxt cnt : Int32) (rng : Nat → SV), HV T nxt cnt rng → f_X3_quietestFor_c7 (g_lim x) (g_kin x) (g_lou x) (g_pit x) (nI b) fuel2 bc least (nI i + 1) = some z → ∃ ρ' nxt' cnt' rng', HV T nxt' cnt' rng' ∧ f_L_isQuietest_c54 (f_L_isQuietest_c9 (nI b) fuel1) (nI b) (qZ1 bc) least (nI i) (nwF (g_kin x) (g_lou x) (g_pit x) (nI i) b) (s_row x nw) nxt cnt rng = some (1, s_row x ρ', nxt', cnt', rng') := by
      intro nw nxt cnt rng hH e
      rw [nI_1] at e
      obtain ⟨ρ', a1, a2, a3, a4, a5⟩ := ih fuel1 fuel2 (i + 1) nw nxt cnt rng bc least (by omega) (by omega) hH hB e
      refine ⟨ρ', a1, a2, a3, a4, ?_⟩
      unfold f_L_isQuietest_c54 f_L_isQuietest_c55
      rw [if_pos rfl]
      unfold f_L_isQuietest_c80 f_L_isQuietest_c81
      rw [if_pos rfl]
      unfold f_L_isQuietest_c94
      rw [if_pos rfl, nI_1]
      exact a5
    have yes : ∀ (nw : Nat → UInt32) (nxt cnt : Int32) (rng : Nat → SV), HV T nxt cnt rng → f_X3_quietestFor_c7 (g_lim x) (g_kin x) (g_lou x) (g_pit x) (nI b) fuel2 (nI i) (nwF (g_kin x) (g_lou x) (g_pit x) (nI i) b) (nI i + 1) = some z → ∃ ρ' nxt' cnt' rng', HV T nxt' cnt' rng' ∧ f_L_isQuietest_c76 (f_L_isQuietest_c9 (nI b) fuel1) (nI b) (qZ1 bc) least (nI i) (nwF (g_kin x) (g_lou x) (g_pit x) (nI i) b) (s_row x nw) nxt cnt rng = some (1, s_row x ρ', nxt', cnt', rng') := by
      intro nw nxt cnt rng hH e
      rw [nI_1] at e
      obtain ⟨ρ', a1, a2, a3, a4, a5⟩ := ih fuel1 fuel2 (i + 1) nw nxt cnt rng (nI i) (nwF (g_kin x) (g_lou x) (g_pit x) (nI i) b) (by omega) (by omega) hH (Or.inr ⟨i, hi8, rfl⟩) e
      rw [qz_b hi8] at a5
      refine ⟨ρ', a1, a2, a3, a4, ?_⟩
      unfold f_L_isQuietest_c76 f_L_isQuietest_c81
      rw [if_neg n10]
      unfold f_L_isQuietest_c94
      rw [if_neg n10, nI_1]
      exact a5
    rcases pl_cases hE hI hJ hi8 with ⟨q1, q2, -⟩ | ⟨b', hb', hb8, hp, q1, q2⟩
    · rw [q2, if_pos rfl, inbN hi8 (by decide), og_t, clN (by omega)] at e
      obtain ⟨ρ1, nxt1, cnt1, rng1, h1, e1⟩ := limitOf_1 (IV_sm (T := T) ⟨n, w, ln, h⟩ (sm_row x ρ)) hH hi8
      have e1 : f_L_limitOf (s_row x ρ) nxt cnt rng (nI i) = some (g_lim x i, s_row x ρ1, nxt1, cnt1, rng1) := by rw [rw_row] at e1; exact e1
      rw [q2, if_neg (show ¬ (0 : Int32) ≤ -1 by decide), e1, ob_s]
      dsimp only
      by_cases hm : 0 < Op.cmpValue (FP.fcmp (nwF (g_kin x) (g_lou x) (g_pit x) (nI i) b) (g_lim x i)) .g
      · rw [if_pos hm] at e
        unfold f_X3_quietestFor_c50 f_X3_quietestFor_c51 at e
        rw [if_pos rfl] at e
        rw [if_pos hm]
        exact no ρ1 nxt1 cnt1 rng1 h1 e
      · rw [if_neg hm] at e
        unfold f_X3_quietestFor_c51 at e
        rw [if_neg n10] at e
        rw [if_neg hm]
        unfold f_L_isQuietest_c55
        rw [if_neg n10]
        by_cases hb1 : bc = -1
        · rw [if_pos hb1] at e
          rw [if_pos ((qz_m hB).mpr hb1)]
          exact yes ρ1 nxt1 cnt1 rng1 h1 e
        · rw [if_neg hb1] at e
          rw [if_neg (fun z => hb1 ((qz_m hB).mp z))]
          by_cases hc : 0 ≤ Op.cmpValue (FP.fcmp (nwF (g_kin x) (g_lou x) (g_pit x) (nI i) b) least) .g
          · rw [if_pos hc] at e
            rw [if_pos hc]
            have := no ρ1 nxt1 cnt1 rng1 h1 e
            unfold f_L_isQuietest_c54 f_L_isQuietest_c55 at this
            rw [if_pos rfl] at this
            exact this
          · rw [if_neg hc] at e
            rw [if_neg hc]
            exact yes ρ1 nxt1 cnt1 rng1 h1 e
    · rw [q2, if_neg (nI_ne_m1 (by omega))] at e
      unfold f_X3_quietestFor_c50 f_X3_quietestFor_c51 at e
      rw [if_pos rfl] at e
      rw [q2, if_pos (nI_pos' (by omega))]
      exact no ρ nxt cnt rng hH e
theorem quiet_tot (h : JV T x n w ln) {b : Nat} (hb : b < n) : ∀ (m fuel2 i : Nat) (bc : Int32) (least : UInt32), i + m = 8 → m < fuel2 → isB bc → ∃ z, isB z ∧ f_X3_quietestFor_c7 (g_lim x) (g_kin x) (g_lou x) (g_pit x) (nI b) fuel2 bc least (nI i) = some z := by
  obtain ⟨hA, hc', hL, hO, hS, hK, hF, hI, hJ, hG, hGj, hE, hN, hD, hY, hZ⟩ := id h
  intro m
  induction m with
  | zero =>
    intro fuel2 i bc least hi hf hB
    obtain ⟨fuel2, rfl⟩ : ∃ z, fuel2 = z + 1 := ⟨fuel2 - 1, by omega⟩
    refine ⟨bc, hB, ?_⟩
    unfold f_X3_quietestFor_c7
    rw [if_pos (show (8 : Int32) ≤ nI i from nI_le (a := 8) (by omega) (by omega))]
  | succ m ih =>
    intro fuel2 i bc least hi hf hB
    obtain ⟨fuel2, rfl⟩ : ∃ z, fuel2 = z + 1 := ⟨fuel2 - 1, by omega⟩
    have hi8 : i < 8 := by omega
    obtain ⟨w1, w2, w3⟩ := R_with h hi8 hb
    have a := ih fuel2 (i + 1) bc least (by omega) (by omega) hB
    have c := ih fuel2 (i + 1) (nI i) (nwF (g_kin x) (g_lou x) (g_pit x) (nI i) b) (by omega) (by omega) (Or.inr ⟨i, hi8, rfl⟩)
    rw [← nI_1] at a c
    unfold f_X3_quietestFor_c7
    rw [if_neg (show ¬ (8 : Int32) ≤ nI i from nI_ge (b := 8) (by omega) (by decide)), w2, ob_s, pl_eq hE hI hJ hi8, ob_s]
    unfold f_X3_quietestFor_c50 f_X3_quietestFor_c51
    rw [inbN hi8 (by decide), og_t, if_pos rfl, if_neg n10]
    split
    · split
      · exact a
      · split
        · exact c
        · split
          · exact a
          · exact c
    · exact a
theorem isQuietest_1 (h : JV T x n w ln) {b : Nat} (hb : b < n) {nxt cnt : Int32} {rng : Nat → SV} (hH : HV T nxt cnt rng) : ∃ ρ nxt' cnt' rng', HV T nxt' cnt' rng' ∧ f_L_isQuietest x nxt cnt rng (nI b) = some (1, s_row x ρ, nxt', cnt', rng') := by
  obtain ⟨z, z1, z2⟩ := quiet_tot h hb 8 4096 0 (-1) FP.fconst0 rfl (by decide) (Or.inl rfl)
  have z3 : f_X3_quietestFor (g_lim x) (g_kin x) (g_lou x) (g_pit x) (nI b) = some z := z2
  have hz : ∀ ρ, f_L_quietest (s_row x ρ) (nI b) = some (qZ1 z) := fun ρ => by
    have e : f_X3_quietestFor (g_lim (s_row x ρ)) (g_kin (s_row x ρ)) (g_lou (s_row x ρ)) (g_pit (s_row x ρ)) (nI b) = some z := z3
    unfold f_L_quietest f_X4_quietest
    rw [hbn (JV_row h ρ) hb, ob_s, tf0, ob_s, os_rn, e, ob_s]
    by_cases hm : z = -1
    · rw [if_pos hm, ob_s, os_ln, if_neg (by decide), if_pos rfl, hm]; rfl
    · rw [if_neg hm, ob_s, os_rn]
      unfold qZ1
      rw [if_neg hm]
  obtain ⟨ρ', a1, a2, a3, a4, a5⟩ := quiet_c h hb hz 8 9 4096 0 (g_row x) nxt cnt rng (-1) FP.fconst0 rfl (by omega) hH (Or.inl rfl) z2
  exact ⟨ρ', a1, a2, a3, a4, a5⟩
end QUIET
