/-! accounts, ranks, what the digest reads -/
section DIG
variable {T : Nat} {x : SV} {n w : Nat} {ln : Nat → Nat}
def cW (x : SV) : Nat := cn (fun b => decide (¬ Op.cmpValue (FP.fcmp (g_wea x b) FP.fconst1) .l < 0)) 8
def cC (x : SV) : Nat := cn (fun b => decide (¬ g_cas x b = -1)) 8
def cH (n : Nat) (x : SV) : Nat := cn (homP n (g_pit x) (g_pla x)) 8
theorem A_2 (h : JV T x n w ln) (len cnt : Int32) : f_X4_account x len cnt 2 = some (.inr (nI n)) :=
  (show f_X4_account x len cnt 2 = some (.inr (g_buskers x)) from rfl).trans (by rw [show g_buskers x = nI n from h.1.1])
theorem A_3 (h : JV T x n w ln) (len cnt : Int32) : f_X4_account x len cnt 3 = some (.inr (nI (cH n x))) := by
  refine (show f_X4_account x len cnt 3 = ob (f_X3_countAtHome (g_buskers x) (g_pit x) (g_pla x)) fun r6 => some (.inr r6) from rfl).trans ?_
  rw [show g_buskers x = nI n from h.1.1, xhome h.1.2, ob_s]; rfl
theorem A_4 (h : JV T x n w ln) (len cnt : Int32) : f_X4_account x len cnt 4 = some (.inr (nI w)) := by
  obtain ⟨hA, hc, hL, hO, hS, hK, hF, hI, hJ, hG, hGj, hE, hN, hD, hY, hZ⟩ := id h
  refine (show f_X4_account x len cnt 4 = ob (f_X3_countWaiting (g_pla x)) fun r6 => some (.inr r6) from rfl).trans ?_
  rw [cntWaiting, ob_s, hN.2.2]
theorem A_5 (len cnt : Int32) : f_X4_account x len cnt 5 = some (.inr (nI (cP (g_pit x)))) := by
  refine (show f_X4_account x len cnt 5 = ob (f_X3_countPlaying (g_pit x)) fun r6 => some (.inr r6) from rfl).trans ?_
  rw [cntPlaying, ob_s]; rfl
theorem A_6 (len cnt : Int32) : f_X4_account x len cnt 6 = some (.inr (nI (cW x))) := by
  refine (show f_X4_account x len cnt 6 = ob (f_X3_countSnapped (g_wea x)) fun r6 => some (.inr r6) from rfl).trans ?_
  rw [xsnapped, ob_s]; rfl
theorem A_7 (len cnt : Int32) : f_X4_account x len cnt 7 = some (.inr (sI (g_cmp x) 8)) := by
  refine (show f_X4_account x len cnt 7 = ob (f_X4_sum (g_cmp x)) fun r6 => some (.inr r6) from rfl).trans ?_
  rw [sum8, ob_s]
theorem A_8 (len cnt : Int32) : f_X4_account x len cnt 8 = some (.inr (g_answered x)) := rfl
theorem A_9 (len cnt : Int32) : f_X4_account x len cnt 9 = some (.inr (sI (g_sof x) 8)) := by
  refine (show f_X4_account x len cnt 9 = ob (f_X4_sum (g_sof x)) fun r6 => some (.inr r6) from rfl).trans ?_
  rw [sum8, ob_s]
theorem A_10 (len cnt : Int32) : f_X4_account x len cnt 10 = some (.inr (nI (cC x))) := by
  refine (show f_X4_account x len cnt 10 = ob (f_X3_countCases (g_cas x)) fun r6 => some (.inr r6) from rfl).trans ?_
  rw [cntCases, ob_s]; rfl
theorem A_11 (len cnt : Int32) : f_X4_account x len cnt 11 = some (.inr (sI (g_nws x) 8)) := by
  refine (show f_X4_account x len cnt 11 = ob (f_X4_sum (g_nws x)) fun r6 => some (.inr r6) from rfl).trans ?_
  rw [sum8, ob_s]
theorem A_ex (h : JV T x n w ln) {i : Nat} (hi : i < 13) : ∃ v, ∀ len cnt, f_X4_account x len cnt (nI i) = some (.inr v) := by
  rcases (show i = 0 ∨ i = 1 ∨ i = 2 ∨ i = 3 ∨ i = 4 ∨ i = 5 ∨ i = 6 ∨ i = 7 ∨ i = 8 ∨ i = 9 ∨ i = 10 ∨ i = 11 ∨ i = 12 by omega) with rfl | rfl | rfl | rfl | rfl | rfl | rfl | rfl | rfl | rfl | rfl | rfl | rfl
  · exact ⟨g_hour x, fun _ _ => rfl⟩
  · exact ⟨g_crowd x, fun _ _ => rfl⟩
  · exact ⟨_, fun len cnt => A_2 h len cnt⟩
  · exact ⟨_, fun len cnt => A_3 h len cnt⟩
  · exact ⟨_, fun len cnt => A_4 h len cnt⟩
  · exact ⟨_, fun len cnt => A_5 len cnt⟩
  · exact ⟨_, fun len cnt => A_6 len cnt⟩
  · exact ⟨_, fun len cnt => A_7 len cnt⟩
  · exact ⟨_, fun len cnt => A_8 len cnt⟩
  · exact ⟨_, fun len cnt => A_9 len cnt⟩
  · exact ⟨_, fun len cnt => A_10 len cnt⟩
  · exact ⟨_, fun len cnt => A_11 len cnt⟩
  · exact ⟨g_draws x, fun _ _ => rfl⟩
theorem R_waiting (h : JV T x n w ln) {j : Nat} (hj : j < w) : f_L_waiting x (nI j) = some (nI (ln j)) := by
  obtain ⟨hA, hc, hL, hO, hS, hK, hF, hI, hJ, hG, hGj, hE, hN, hD, hY, hZ⟩ := id h
  have := (hN.1 j hj).1
  have hn8 := h.1.2
  unfold f_L_waiting f_X4_waiting
  rw [waiter_in h.1.2 hN hj, ob_s, if_neg (nI_ne_m1 (by omega)), ob_s, os_rn]
theorem R_waiting_no (h : JV T x n w ln) : f_L_waiting x (nI w) = some (-100000000) := by
  obtain ⟨hA, hc, hL, hO, hS, hK, hF, hI, hJ, hG, hGj, hE, hN, hD, hY, hZ⟩ := id h
  have := qN_le hN
  unfold f_L_waiting f_X4_waiting
  rw [waiter_out hN (Or.inr (nI_le (Nat.le_refl _) (by omega))), ob_s, if_pos rfl, ob_s, os_ln, if_pos rfl]
-- the digest
theorem dg183 (h : JV T x n w ln) : ∀ (m fuel i : Nat) (d : Int64), i + m = w → m < fuel → ∃ v, ∀ len cnt, f_L_digest_c183 x len cnt fuel d (nI i) = some v := by
  obtain ⟨hA, hc, hL, hO, hS, hK, hF, hI, hJ, hG, hGj, hE, hN, hD, hY, hZ⟩ := id h
  have hw := qN_le hN
  intro m
  induction m with
  | zero =>
    intro fuel i d hi hf
    obtain ⟨fuel, rfl⟩ : ∃ z, fuel = z + 1 := ⟨fuel - 1, by omega⟩
    refine ⟨d, fun len cnt => ?_⟩
    unfold f_L_digest_c183
    rw [A_4 h, ob_s, os_rn, if_pos (nI_le (by omega) (by omega))]
  | succ m ih =>
    intro fuel i d hi hf
    obtain ⟨fuel, rfl⟩ : ∃ z, fuel = z + 1 := ⟨fuel - 1, by omega⟩
    obtain ⟨v, hv⟩ := ih fuel (i + 1) (31 * d + (nI (ln i)).toInt64) (by omega) (by omega)
    refine ⟨v, fun len cnt => ?_⟩
    unfold f_L_digest_c183
    rw [A_4 h, ob_s, os_rn, if_neg (nI_ge (by omega) (by omega)), R_waiting h (by omega), ob_s, nI_1]
    exact hv len cnt
theorem dg147 (h : JV T x n w ln) {b : Nat} (hb : b < n) : ∀ (m fuel i : Nat) (d : Int64), i + m = 7 → m < fuel → ∃ d', ∀ rec len cnt, f_L_digest_c147 rec x len cnt fuel d (nI b) (nI i) = rec d' (nI (b + 1)) := by
  intro m
  induction m with
  | zero =>
    intro fuel i d hi hf
    obtain ⟨fuel, rfl⟩ : ∃ z, fuel = z + 1 := ⟨fuel - 1, by omega⟩
    refine ⟨d, fun rec len cnt => ?_⟩
    unfold f_L_digest_c147
    rw [if_pos (show (7 : Int32) ≤ nI i from nI_le (a := 7) (by omega) (by omega)), nI_1]
  | succ m ih =>
    intro fuel i d hi hf
    obtain ⟨fuel, rfl⟩ : ∃ z, fuel = z + 1 := ⟨fuel - 1, by omega⟩
    obtain ⟨d', hv⟩ := ih fuel (i + 1) (31 * d + (bF x i b).toInt64) (by omega) (by omega)
    refine ⟨d', fun rec len cnt => ?_⟩
    unfold f_L_digest_c147
    rw [if_neg (show ¬ (7 : Int32) ≤ nI i from nI_ge (b := 7) (by omega) (by decide)), R_b h hb (by omega), ob_s, os_rn, nI_1]
    exact hv rec len cnt
theorem dg106 (h : JV T x n w ln) : ∀ (m fuel i : Nat) (d : Int64), i + m = n → m < fuel → ∃ v, ∀ len cnt, f_L_digest_c106 x len cnt fuel d (nI i) = some v := by
  obtain ⟨hA, hc, hL, hO, hS, hK, hF, hI, hJ, hG, hGj, hE, hN, hD, hY, hZ⟩ := id h
  have hw := qN_le hN
  have hn8 := h.1.2
  intro m
  induction m with
  | zero =>
    intro fuel i d hi hf
    obtain ⟨fuel, rfl⟩ : ∃ z, fuel = z + 1 := ⟨fuel - 1, by omega⟩
    obtain ⟨v, hv⟩ := dg183 h w 9 0 d (by omega) (by omega)
    refine ⟨v, fun len cnt => ?_⟩
    unfold f_L_digest_c106
    rw [A_2 h, ob_s, os_rn, if_pos (nI_le (by omega) (by omega))]
    exact hv len cnt
  | succ m ih =>
    intro fuel i d hi hf
    obtain ⟨fuel, rfl⟩ : ∃ z, fuel = z + 1 := ⟨fuel - 1, by omega⟩
    have hh := (hF i (by omega)).1
    obtain ⟨d', hd⟩ := dg147 h (b := i) (by omega) 7 8 0 (31 * (31 * d + (g_hat x i).toInt32.toInt64) + (g_wea x i).toInt32.toInt64) rfl (by omega)
    obtain ⟨v, hv⟩ := ih fuel (i + 1) d' (by omega) (by omega)
    refine ⟨v, fun len cnt => ?_⟩
    unfold f_L_digest_c106
    rw [A_2 h, ob_s, os_rn, if_neg (nI_ge (by omega) (by omega)), R_hat h (by omega), ob_s, os_rn, fToI_n (by omega), ob_s, R_wear h (by omega), ob_s, os_rn]
    exact (hd _ len cnt).trans (hv len cnt)
theorem dg71 (h : JV T x n w ln) {k : Nat} (hk : k < 8) (d : Int64) : ∃ d', ∀ rec len cnt, f_L_digest_c71 rec x len cnt 4 d (nI k) 0 = rec d' (nI (k + 1)) := by
  refine ⟨31 * (31 * (31 * d + (plF (g_pit x) (nI k)).toInt64) + (g_cmp x k).toInt64) + (g_sof x k).toInt64, fun rec len cnt => ?_⟩
  have e0 : ¬ (3 : Int32) ≤ 0 := by decide
  have e1 : ¬ (3 : Int32) ≤ 1 := by decide
  have e2 : ¬ (3 : Int32) ≤ 2 := by decide
  have e3 : (3 : Int32) ≤ 3 := by decide
  have s1 : (0 : Int32) + 1 = 1 := by decide
  have s2 : (1 : Int32) + 1 = 2 := by decide
  have s3 : (2 : Int32) + 1 = 3 := by decide
  rw [f_L_digest_c71, if_neg e0, R_p0 h hk, ob_s, os_rn, s1, f_L_digest_c71, if_neg e1, R_p1 hk, ob_s, os_rn, s2, f_L_digest_c71, if_neg e2, R_p2 hk, ob_s, os_rn, s3, f_L_digest_c71, if_pos e3, nI_1]
theorem dg33 (h : JV T x n w ln) : ∀ (m fuel i : Nat) (d : Int64), i + m = 8 → m < fuel → ∃ v, ∀ len cnt, f_L_digest_c33 x len cnt fuel d (nI i) = some v := by
  have hn8 := h.1.2
  intro m
  induction m with
  | zero =>
    intro fuel i d hi hf
    obtain ⟨fuel, rfl⟩ : ∃ z, fuel = z + 1 := ⟨fuel - 1, by omega⟩
    obtain ⟨v, hv⟩ := dg106 h n 9 0 d (by omega) (by omega)
    refine ⟨v, fun len cnt => ?_⟩
    unfold f_L_digest_c33
    rw [if_pos (show (8 : Int32) ≤ nI i from nI_le (a := 8) (by omega) (by omega))]
    exact hv len cnt
  | succ m ih =>
    intro fuel i d hi hf
    obtain ⟨fuel, rfl⟩ : ∃ z, fuel = z + 1 := ⟨fuel - 1, by omega⟩
    have l1 := ns_le h i
    have l2 := lim_le h (k := i) (by omega)
    obtain ⟨d', hd⟩ := dg71 h (k := i) (by omega) (31 * (31 * d + (nsF x i).toInt32.toInt64) + (FP.fsub (g_lim x i) (nsF x i)).toInt32.toInt64)
    obtain ⟨v, hv⟩ := ih fuel (i + 1) d' (by omega) (by omega)
    refine ⟨v, fun len cnt => ?_⟩
    unfold f_L_digest_c33
    rw [if_neg (show ¬ (8 : Int32) ≤ nI i from nI_ge (b := 8) (by omega) (by decide)), R_noise h (by omega), ob_s, os_rn, R_below h (by omega), ob_s, os_rn, fToI_nn (nan_sub (by omega) (by omega)).2, ob_s]
    exact (hd _ len cnt).trans (hv len cnt)
theorem dg6 (h : JV T x n w ln) : ∀ (m fuel i : Nat) (d : Int64), i + m = 13 → m < fuel → ∃ v, ∀ len cnt, f_L_digest_c6 x len cnt fuel d (nI i) = some v := by
  intro m
  induction m with
  | zero =>
    intro fuel i d hi hf
    obtain ⟨fuel, rfl⟩ : ∃ z, fuel = z + 1 := ⟨fuel - 1, by omega⟩
    obtain ⟨v, hv⟩ := dg33 h 8 9 0 d rfl (by omega)
    refine ⟨v, fun len cnt => ?_⟩
    unfold f_L_digest_c6
    rw [if_pos (show (13 : Int32) ≤ nI i from nI_le (a := 13) (by omega) (by omega))]
    exact hv len cnt
  | succ m ih =>
    intro fuel i d hi hf
    obtain ⟨fuel, rfl⟩ : ∃ z, fuel = z + 1 := ⟨fuel - 1, by omega⟩
    obtain ⟨a, ha⟩ := A_ex h (i := i) (by omega)
    obtain ⟨v, hv⟩ := ih fuel (i + 1) (31 * d + a.toInt64) (by omega) (by omega)
    refine ⟨v, fun len cnt => ?_⟩
    unfold f_L_digest_c6
    rw [if_neg (show ¬ (13 : Int32) ≤ nI i from nI_ge (b := 13) (by omega) (by decide)), ha len cnt, ob_s, os_rn, nI_1]
    exact hv len cnt
/-- what the digest of an office is, whatever else the object holds -/
def DG (x : SV) (d : Int64) : Prop := ∀ len cnt, f_L_digest x len cnt = some d
theorem DG_ex (h : IV T x) : ∃ d, DG x d := by
  obtain ⟨n, w, ln, h⟩ := h
  obtain ⟨v, hv⟩ := dg6 h 13 14 0 7 rfl (by omega)
  exact ⟨v, fun len cnt => hv len cnt⟩
end DIG
/-! the row of noise is not read by it -/
theorem c71_row (x : SV) (ρ : Nat → UInt32) (rec : Int64 → Int32 → Option Int64) (len cnt : Int32) : ∀ (n : Nat) (a : Int64) (b c : Int32), f_L_digest_c71 rec (s_row x ρ) len cnt n a b c = f_L_digest_c71 rec x len cnt n a b c := by
  intro n
  induction n with
  | zero => intro a b c; rfl
  | succ n ih =>
    intro a b c
    unfold f_L_digest_c71
    rw [show f_X4_pitchOf (s_row x ρ) b c = f_X4_pitchOf x b c from rfl]
    simp only [ih]
theorem c147_row (x : SV) (ρ : Nat → UInt32) (rec : Int64 → Int32 → Option Int64) (len cnt : Int32) : ∀ (n : Nat) (a : Int64) (b c : Int32), f_L_digest_c147 rec (s_row x ρ) len cnt n a b c = f_L_digest_c147 rec x len cnt n a b c := by
  intro n
  induction n with
  | zero => intro a b c; rfl
  | succ n ih =>
    intro a b c
    unfold f_L_digest_c147
    rw [show f_X4_buskerOf (s_row x ρ) b c = f_X4_buskerOf x b c from rfl]
    simp only [ih]
theorem c183_row (x : SV) (ρ : Nat → UInt32) (len cnt : Int32) : ∀ (n : Nat) (a : Int64) (b : Int32), f_L_digest_c183 (s_row x ρ) len cnt n a b = f_L_digest_c183 x len cnt n a b := by
  intro n
  induction n with
  | zero => intro a b; rfl
  | succ n ih =>
    intro a b
    unfold f_L_digest_c183
    rw [show f_X4_account (s_row x ρ) len cnt 4 = f_X4_account x len cnt 4 from rfl, show f_L_waiting (s_row x ρ) b = f_L_waiting x b from rfl]
    simp only [ih]
theorem c106_row (x : SV) (ρ : Nat → UInt32) (len cnt : Int32) : ∀ (n : Nat) (a : Int64) (b : Int32), f_L_digest_c106 (s_row x ρ) len cnt n a b = f_L_digest_c106 x len cnt n a b := by
  intro n
  induction n with
  | zero => intro a b; rfl
  | succ n ih =>
    intro a b
    have e : f_L_digest_c106 (s_row x ρ) len cnt n = f_L_digest_c106 x len cnt n := funext fun a => funext fun b => ih a b
    unfold f_L_digest_c106
    rw [show f_X4_account (s_row x ρ) len cnt 2 = f_X4_account x len cnt 2 from rfl, show f_X4_hat (s_row x ρ) b = f_X4_hat x b from rfl, show f_X4_wear (s_row x ρ) b = f_X4_wear x b from rfl, e]
    simp only [c183_row, c147_row]
theorem c33_row (x : SV) (ρ : Nat → UInt32) (len cnt : Int32) : ∀ (n : Nat) (a : Int64) (b : Int32), f_L_digest_c33 (s_row x ρ) len cnt n a b = f_L_digest_c33 x len cnt n a b := by
  intro n
  induction n with
  | zero => intro a b; rfl
  | succ n ih =>
    intro a b
    have e : f_L_digest_c33 (s_row x ρ) len cnt n = f_L_digest_c33 x len cnt n := funext fun a => funext fun b => ih a b
    unfold f_L_digest_c33
    rw [show f_X4_noise (s_row x ρ) b = f_X4_noise x b from rfl, show f_X4_below (s_row x ρ) b = f_X4_below x b from rfl, e]
    simp only [c106_row, c71_row]
theorem c6_row (x : SV) (ρ : Nat → UInt32) (len cnt : Int32) : ∀ (n : Nat) (a : Int64) (b : Int32), f_L_digest_c6 (s_row x ρ) len cnt n a b = f_L_digest_c6 x len cnt n a b := by
  intro n
  induction n with
  | zero => intro a b; rfl
  | succ n ih =>
    intro a b
    unfold f_L_digest_c6
    rw [show f_X4_account (s_row x ρ) len cnt b = f_X4_account x len cnt b from rfl]
    simp only [ih, c33_row]
theorem DG_sm {x y : SV} {d : Int64} (h : DG x d) (hs : sm y x) : DG y d := by
  obtain ⟨ρ, rfl⟩ := hs
  intro len cnt
  have e := c6_row x ρ len cnt 14 7 0
  exact e.trans (h len cnt)
theorem DG_u {x : SV} {d d' : Int64} (h : DG x d) (h' : DG x d') : d = d' := Option.some.inj ((h 0 0).symm.trans (h' 0 0))
theorem lgc_s (x : Int64) : lg_cmp x x = 0 := by simp [lg_cmp]
