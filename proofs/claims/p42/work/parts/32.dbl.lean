/-! doubles likewise -/
theorem dshl : ∀ E : Nat, E < 2048 → lN E <<< ((52 : Int32).toInt64 &&& 63) = lN (E * 4503599627370496) := by decide +kernel
theorem lgc_le {a b : Nat} (ha : a < 2 ^ 31) (hb : b < 2 ^ 31) : lg_cmp (lN a) (lN b) ≤ 0 ↔ a ≤ b := by
  unfold lg_cmp
  rcases Nat.lt_trichotomy a b with h | h | h
  · rw [if_neg (show ¬ lN a > lN b from fun hh => by have := (lN_lt hb ha).mp hh; omega), if_neg (fun hh => by have := (lN_eq ha hb).mp hh; omega)]
    exact iff_of_true (by decide) (by omega)
  · subst h
    rw [if_neg (show ¬ lN a > lN a from fun hh => by have := (lN_lt hb ha).mp hh; omega), if_pos rfl]
    exact iff_of_true (by decide) (by omega)
  · rw [if_pos (show lN a > lN b from (lN_lt hb ha).mpr h)]
    exact iff_of_false (by decide) (by omega)
theorem lgc_ge {a b : Nat} (ha : a < 2 ^ 31) (hb : b < 2 ^ 31) : 0 ≤ lg_cmp (lN a) (lN b) ↔ b ≤ a := by
  unfold lg_cmp
  rcases Nat.lt_trichotomy a b with h | h | h
  · rw [if_neg (show ¬ lN a > lN b from fun hh => by have := (lN_lt hb ha).mp hh; omega), if_neg (fun hh => by have := (lN_eq ha hb).mp hh; omega)]
    exact iff_of_false (by decide) (by omega)
  · subst h
    rw [if_neg (show ¬ lN a > lN a from fun hh => by have := (lN_lt hb ha).mp hh; omega), if_pos rfl]
    exact iff_of_true (by decide) (by omega)
  · rw [if_pos (show lN a > lN b from (lN_lt hb ha).mpr h)]
    exact iff_of_true (by decide) (by omega)
abbrev U64 (m : Nat) : Nat := FP.Core.unitsOf FP.Core.b64 m
theorem i64 : FP.Core.infBits FP.Core.b64 = 9218868437227405312 := FP.Core.infBits_b64
theorem q64 : FP.Core.b64.qmin = -1074 := FP.Core.qmin_b64
theorem U64_le {a b : Nat} : U64 a ≤ U64 b ↔ a ≤ b := FP.Core.unitsOf_le_iff
theorem U64_lt {a b : Nat} : U64 a < U64 b ↔ a < b := FP.Core.unitsOf_lt_iff
theorem dadd_n (x y : UInt64) : (FP.dadd x y).toNat = FP.Core.add FP.Core.b64 x.toNat y.toNat := FP.Core.toNat_of64 (FP.Core.round_fits FP.Core.good_b64 _)
theorem dsub_n (x y : UInt64) : (FP.dsub x y).toNat = FP.Core.sub FP.Core.b64 x.toNat y.toNat := FP.Core.toNat_of64 (FP.Core.round_fits FP.Core.good_b64 _)
theorem dmul_n (x y : UInt64) : (FP.dmul x y).toNat = FP.Core.mul FP.Core.b64 x.toNat y.toNat := FP.Core.toNat_of64 (FP.Core.round_fits FP.Core.good_b64 _)
theorem ddiv_n (x y : UInt64) : (FP.ddiv x y).toNat = FP.Core.div FP.Core.b64 x.toNat y.toNat := FP.Core.toNat_of64 (FP.Core.quotient_fits FP.Core.good_b64 _ _)
theorem dadd_le {x y : UInt64} {m : Nat} (hx : x.toNat < 9218868437227405312) (hy : y.toNat < 9218868437227405312) (h : U64 x.toNat + U64 y.toNat ≤ U64 m) : (FP.dadd x y).toNat ≤ m := by
  obtain ⟨n, e, h1, h2, h3⟩ := fl_add FP.Core.good_b64 (by rw [i64]; exact hx) (by rw [i64]; exact hy)
  rw [← dadd_n] at h1
  exact fl_le FP.Core.good_b64 h1 (FP.Core.lt_full64 _) (by decide) (Int.le_refl _) h2 (by rw [h3, Int.sub_self, Int.toNat_zero, Nat.pow_zero, Nat.mul_one, Nat.mul_one]; exact h)
theorem dadd_ge {x y : UInt64} {m : Nat} (hx : x.toNat < 9218868437227405312) (hy : y.toNat < 9218868437227405312) (hm : m ≤ 9218868437227405312) (h : U64 m ≤ U64 x.toNat + U64 y.toNat) : m ≤ (FP.dadd x y).toNat := by
  obtain ⟨n, e, h1, h2, h3⟩ := fl_add FP.Core.good_b64 (by rw [i64]; exact hx) (by rw [i64]; exact hy)
  rw [← dadd_n] at h1
  exact fl_ge FP.Core.good_b64 h1 (FP.Core.lt_full64 _) (by decide) (Int.le_refl _) h2 (by rw [i64]; exact hm) (by rw [h3, Int.sub_self, Int.toNat_zero, Nat.pow_zero, Nat.mul_one, Nat.mul_one]; exact h)
theorem dsub_le {x y : UInt64} (hx : x.toNat < 9218868437227405312) (hy : y.toNat ≤ x.toNat) : (FP.dsub x y).toNat ≤ x.toNat := by
  obtain ⟨n, e, h1, h2, h3⟩ := fl_sub FP.Core.good_b64 (by rw [i64]; exact hx) hy
  rw [← dsub_n] at h1
  exact fl_le FP.Core.good_b64 h1 (FP.Core.lt_full64 _) (by decide) (Int.le_refl _) h2 (by rw [h3, Int.sub_self, Int.toNat_zero, Nat.pow_zero, Nat.mul_one, Nat.mul_one]; exact Nat.sub_le _ _)
theorem q64a : (FP.Core.b64.qmin - 2 * FP.Core.b64.qmin).toNat = 1074 := by rw [q64]; rfl
theorem q64b : (-FP.Core.b64.qmin).toNat = 1074 := by rw [q64]; rfl
theorem dmul_le {x y : UInt64} {m : Nat} (hx : x.toNat < 9218868437227405312) (hy : y.toNat < 9218868437227405312) (h : U64 x.toNat * U64 y.toNat ≤ U64 m * 2 ^ 1074) : (FP.dmul x y).toNat ≤ m := by
  obtain ⟨n, e, h1, h2, h3⟩ := fl_mul FP.Core.good_b64 (by rw [i64]; exact hx) (by rw [i64]; exact hy)
  rw [← dmul_n] at h1
  exact fl_le FP.Core.good_b64 h1 (FP.Core.lt_full64 _) (by decide) (by rw [q64]; decide) h2 (by rw [h3, q64a, Nat.mul_one]; exact h)
theorem dmul_ge {x y : UInt64} {m : Nat} (hx : x.toNat < 9218868437227405312) (hy : y.toNat < 9218868437227405312) (hm : m ≤ 9218868437227405312) (h : U64 m * 2 ^ 1074 ≤ U64 x.toNat * U64 y.toNat) : m ≤ (FP.dmul x y).toNat := by
  obtain ⟨n, e, h1, h2, h3⟩ := fl_mul FP.Core.good_b64 (by rw [i64]; exact hx) (by rw [i64]; exact hy)
  rw [← dmul_n] at h1
  exact fl_ge FP.Core.good_b64 h1 (FP.Core.lt_full64 _) (by decide) (by rw [q64]; decide) h2 (by rw [i64]; exact hm) (by rw [h3, q64a, Nat.mul_one]; exact h)
theorem ddiv_le {x y : UInt64} {m : Nat} (hx : x.toNat < 9218868437227405312) (hy : y.toNat < 9218868437227405312) (h0 : 0 < y.toNat) (h : U64 x.toNat * 2 ^ 1074 ≤ U64 m * U64 y.toNat) : (FP.ddiv x y).toNat ≤ m := by
  obtain ⟨n, d, e, e0, h1, h2, h3, h4, h5, h6⟩ := fl_div FP.Core.good_b64 (by rw [i64]; exact hx) (by rw [i64]; exact hy) h0
  rw [← ddiv_n] at h2
  exact fl_le FP.Core.good_b64 h2 (FP.Core.lt_full64 _) h1 h3 h4 (by rw [h5, Nat.mul_assoc, h6, q64b]; exact h)
theorem ddiv_ge {x y : UInt64} {m : Nat} (hx : x.toNat < 9218868437227405312) (hy : y.toNat < 9218868437227405312) (h0 : 0 < y.toNat) (hm : m ≤ 9218868437227405312) (h : U64 m * U64 y.toNat ≤ U64 x.toNat * 2 ^ 1074) : m ≤ (FP.ddiv x y).toNat := by
  obtain ⟨n, d, e, e0, h1, h2, h3, h4, h5, h6⟩ := fl_div FP.Core.good_b64 (by rw [i64]; exact hx) (by rw [i64]; exact hy) h0
  rw [← ddiv_n] at h2
  exact fl_ge FP.Core.good_b64 h2 (FP.Core.lt_full64 _) h1 h3 h4 (by rw [i64]; exact hm) (by rw [h5, Nat.mul_assoc, h6, q64b]; exact h)
theorem n64_of {v : UInt64} (h : v.toNat % 2 ^ 63 ≤ 9218868437227405312) : n64 v = true := by
  unfold n64
  refine decide_eq_true ?_
  rw [UInt64.le_iff_toNat_le, FP.Core.mask_toNat]
  exact h
theorem n64_lt {v : UInt64} (h : v.toNat < 9218868437227405312) : n64 v = true := n64_of (by omega)
theorem not_nan64 {v : UInt64} (h : v.toNat < 9218868437227405312) : FP.Core.val64 v ≠ .nan := (FP.Core.ne_nan v).mpr (by omega)
theorem dcmp_cases {x y : UInt64} (hx : x.toNat < 9218868437227405312) (hy : y.toNat < 9218868437227405312) (o : CmpOp) : (x.toNat < y.toNat ∧ Op.cmpValue (FP.dcmp x y) o = -1) ∨ (x.toNat = y.toNat ∧ Op.cmpValue (FP.dcmp x y) o = 0) ∨ (y.toNat < x.toNat ∧ Op.cmpValue (FP.dcmp x y) o = 1) := by
  obtain ⟨m1, m2, m3⟩ := FP.Core.mono_bits (not_nan64 hx) (not_nan64 hy) (by omega) (by omega)
  rcases Nat.lt_trichotomy x.toNat y.toNat with h | h | h
  · refine Or.inl ⟨h, ?_⟩
    show Op.cmpValue (FP.Core.dcmp x y) o = -1
    rw [m1.mpr h]; rfl
  · refine Or.inr (Or.inl ⟨h, ?_⟩)
    show Op.cmpValue (FP.Core.dcmp x y) o = 0
    rw [m2.mpr h]; rfl
  · refine Or.inr (Or.inr ⟨h, ?_⟩)
    show Op.cmpValue (FP.Core.dcmp x y) o = 1
    rw [m3.mpr h]; rfl
theorem dcmp_ge0 {x y : UInt64} (hx : x.toNat < 9218868437227405312) (hy : y.toNat < 9218868437227405312) (o : CmpOp) : 0 ≤ Op.cmpValue (FP.dcmp x y) o ↔ y.toNat ≤ x.toNat := by
  rcases dcmp_cases hx hy o with ⟨h, e⟩ | ⟨h, e⟩ | ⟨h, e⟩
  · rw [e]; exact iff_of_false (by decide) (by omega)
  · rw [e]; exact iff_of_true (by decide) (by omega)
  · rw [e]; exact iff_of_true (by decide) (by omega)
theorem dcmp_lt0 {x y : UInt64} (hx : x.toNat < 9218868437227405312) (hy : y.toNat < 9218868437227405312) (o : CmpOp) : Op.cmpValue (FP.dcmp x y) o < 0 ↔ x.toNat < y.toNat := by
  rcases dcmp_cases hx hy o with ⟨h, e⟩ | ⟨h, e⟩ | ⟨h, e⟩
  · rw [e]; exact iff_of_true (by decide) (by omega)
  · rw [e]; exact iff_of_false (by decide) (by omega)
  · rw [e]; exact iff_of_false (by decide) (by omega)
theorem dcmp_eq0 {x y : UInt64} (hx : x.toNat < 9218868437227405312) (hy : y.toNat < 9218868437227405312) (o : CmpOp) : Op.cmpValue (FP.dcmp x y) o = 0 ↔ x.toNat = y.toNat := by
  rcases dcmp_cases hx hy o with ⟨h, e⟩ | ⟨h, e⟩ | ⟨h, e⟩
  · rw [e]; exact iff_of_false (by decide) (by omega)
  · rw [e]; exact iff_of_true (by decide) (by omega)
  · rw [e]; exact iff_of_false (by decide) (by omega)
theorem u64_norm {m : Nat} (h : 4503599627370496 ≤ m) : U64 m = (4503599627370496 + m % 4503599627370496) * 2 ^ (m / 4503599627370496 - 1) := by
  show FP.Core.unitsOf FP.Core.b64 m = _
  unfold FP.Core.unitsOf
  rw [FP.Core.tails_b64, if_neg (by omega)]
theorem u64_sub {m : Nat} (h : m < 4503599627370496) : U64 m = m := by
  show FP.Core.unitsOf FP.Core.b64 m = _
  unfold FP.Core.unitsOf
  rw [FP.Core.tails_b64, if_pos (by omega)]
theorem u64_add {m : Nat} (h : 4503599627370496 ≤ m) (j : Nat) : U64 (m + j * 4503599627370496) = 2 ^ j * U64 m := by
  rw [u64_norm h, u64_norm (by omega), Nat.add_mul_mod_self_right, Nat.add_mul_div_right _ _ (by decide), show m / 4503599627370496 + j - 1 = j + (m / 4503599627370496 - 1) by omega, Nat.pow_add]
  ac_rfl
theorem u64_one {m : Nat} (h1 : 4607182418800017408 ≤ m) (h2 : m < 4611686018427387904) : U64 m = (m - 4602678819172646912) * 2 ^ 1022 := by
  rw [u64_norm (by omega), show m / 4503599627370496 = 1023 by omega, show 4503599627370496 + m % 4503599627370496 = m - 4602678819172646912 by omega]
theorem d2l_n {x : UInt64} {v : Nat} (hx : x.toNat < 9218868437227405312) (hv : U64 x.toNat = v * 2 ^ 1074) (hl : v < 2 ^ 63) : FP.d2l x = lN v := by
  have hn := not_nan64 hx
  have h1 := FP.Core.d2l_val hn
  rw [FP.Core.sgn_bits hn, FP.Core.zmag_bits hn, Nat.mod_eq_of_lt (show x.toNat < 2 ^ 63 by omega), decide_eq_false (show ¬ 2 ^ 63 ≤ x.toNat by omega)] at h1
  have h2 : FP.Core.unitsOf FP.Core.b64 x.toNat / FP.Core.one64 = v := by
    rw [show FP.Core.unitsOf FP.Core.b64 x.toNat = v * 2 ^ 1074 from hv]
    exact Nat.mul_div_cancel _ (Nat.two_pow_pos _)
  rw [h2] at h1
  apply Int64.toInt_inj.mp
  rw [pk_lT hl]
  refine h1.trans ?_
  simp only [FP.Core.signed, Bool.false_eq_true, if_false]
  omega
theorem ofD_end {fuel E v : Nat} {x2 : UInt64} (hE : 1 ≤ E) (hE2 : E ≤ 2046) (hx2 : x2.toNat < 4611686018427387904) (hge : 4607182418800017408 ≤ x2.toNat ∨ E = 1) (hv : U64 x2.toNat = v * 2 ^ 1022) (hvv : v < 9007199254740992) : f_X0_ofDouble_c47 (fuel + 1) (lN E) x2 = some (lN ((E - 1) * 4503599627370496 + v)) := by
  obtain ⟨k, hk⟩ := u_shl FP.Core.good_b64 x2.toNat 52
  have hk2 : U64 k = v * 2 ^ 1074 := by
    rw [show U64 k = 2 ^ 52 * U64 x2.toNat from hk, hv, show (2 : Nat) ^ 1074 = 2 ^ 52 * 2 ^ 1022 by rw [← Nat.pow_add]]
    exact Nat.mul_left_comm _ _ _
  have hkl : k < 9218868437227405312 := by
    rw [← U64_lt, hk2]
    have : (9007199254740992 : Nat) * 2 ^ 1074 ≤ U64 9218868437227405312 := by decide +kernel
    refine Nat.lt_of_lt_of_le ?_ this
    exact Nat.mul_lt_mul_of_pos_right hvv (Nat.two_pow_pos _)
  have hc : U64 (4841369599423283200 : UInt64).toNat = 2 ^ 1126 := by decide +kernel
  have hprod : U64 x2.toNat * U64 (4841369599423283200 : UInt64).toNat = U64 k * 2 ^ 1074 := by
    rw [hc, hk2, hv, Nat.mul_assoc, Nat.mul_assoc, ← Nat.pow_add, ← Nat.pow_add]
  have hcl : (4841369599423283200 : UInt64).toNat < 9218868437227405312 := by decide
  have hm : (FP.dmul x2 4841369599423283200).toNat = k := Nat.le_antisymm (dmul_le (by omega) hcl (Nat.le_of_eq hprod)) (dmul_ge (by omega) hcl (by omega) (Nat.le_of_eq hprod.symm))
  have hf : FP.d2l (FP.dmul x2 4841369599423283200) = lN v := d2l_n (by rw [hm]; exact hkl) (by rw [hm]; exact hk2) (by omega)
  have hg : n64 (FP.dmul x2 4841369599423283200) = true := n64_lt (by rw [hm]; exact hkl)
  have he : ((lN E - 1) <<< ((52 : Int32).toInt64 &&& 63)) + lN v = lN ((E - 1) * 4503599627370496 + v) := by
    have h1 : lN E - 1 = lN (E - 1) := lN_sub (a := E) (b := 1) hE
    rw [h1, dshl (E - 1) (by omega), lN_add]
  have hone : (FP.dconst1 : UInt64).toNat = 4607182418800017408 := rfl
  unfold f_X0_ofDouble_c47
  rw [hg, og_t, hf, he]
  rcases hge with h | h
  · rw [if_pos ((dcmp_ge0 (by omega) (by rw [hone]; omega) .g).mpr (by rw [hone]; exact h))]
  · by_cases hq : 4607182418800017408 ≤ x2.toNat
    · rw [if_pos ((dcmp_ge0 (by omega) (by rw [hone]; omega) .g).mpr (by rw [hone]; exact hq))]
    · rw [if_neg (fun hh => hq (by have := (dcmp_ge0 (x := x2) (by omega) (by rw [hone]; omega) .g).mp hh; rw [hone] at this; exact this)), if_pos (by rw [h]; exact (lgc_le (a := 1) (b := 1) (by decide) (by decide)).mpr (by decide))]
theorem ofD_up (N : Nat) (hN0 : 0 < N) (hN : N < 4611686018427387904) : ∀ (k fuel j : Nat) (x2 : UInt64), k < fuel → j + k = 1022 → x2.toNat < 4611686018427387904 → U64 x2.toNat = 2 ^ j * U64 N → f_X0_ofDouble_c47 fuel (lN (1023 - j)) x2 = some (lN N) := by
  have hone : (FP.dconst1 : UInt64).toNat = 4607182418800017408 := rfl
  have htwo : ((4611686018427387904 : UInt64) : UInt64).toNat = 4611686018427387904 := rfl
  have u1 : U64 4607182418800017408 = 2 ^ 1074 := by decide +kernel
  -- at the end
  have fin : ∀ (fuel j : Nat) (x2 : UInt64), j ≤ 1022 → 4607182418800017408 ≤ x2.toNat → x2.toNat < 4611686018427387904 → U64 x2.toNat = 2 ^ j * U64 N → f_X0_ofDouble_c47 (fuel + 1) (lN (1023 - j)) x2 = some (lN N) := by
    intro fuel j x2 hj h1 h2 hU
    have hNn : 4503599627370496 ≤ N := by
      refine Nat.le_of_not_lt fun hs => ?_
      rw [u64_sub hs] at hU
      have a1 : 2 ^ 1074 ≤ U64 x2.toNat := by rw [← u1]; exact U64_le.mpr h1
      have a2 : 2 ^ j * N < 2 ^ 1022 * 2 ^ 52 := Nat.lt_of_le_of_lt (Nat.mul_le_mul_right _ (Nat.pow_le_pow_right (by decide) hj)) (Nat.mul_lt_mul_of_pos_left hs (Nat.two_pow_pos _))
      rw [← Nat.pow_add] at a2
      rw [hU] at a1
      exact absurd a2 (Nat.not_lt.mpr a1)
    have hx : x2.toNat = N + j * 4503599627370496 := u_inj (f := FP.Core.b64) (by rw [show FP.Core.unitsOf FP.Core.b64 x2.toNat = U64 x2.toNat from rfl, hU]; exact (u64_add hNn j).symm)
    rw [ofD_end (v := x2.toNat - 4602678819172646912) (by omega) (by omega) h2 (Or.inl h1) (u64_one h1 h2) (by omega), show (1023 - j - 1) * 4503599627370496 + (x2.toNat - 4602678819172646912) = N by omega]
  intro k
  induction k with
  | zero =>
    intro fuel j x2 hf hj h2 hU
    obtain ⟨fuel, rfl⟩ : ∃ m, fuel = m + 1 := ⟨fuel - 1, by omega⟩
    by_cases h1 : 4607182418800017408 ≤ x2.toNat
    · exact fin fuel j x2 (by omega) h1 h2 hU
    · have hj2 : j = 1022 := by omega
      subst hj2
      have hs : U64 N < 4503599627370496 := by
        have a1 : U64 x2.toNat < 2 ^ 1074 := by rw [← u1]; exact U64_lt.mpr (by omega)
        rw [hU, show (2 : Nat) ^ 1074 = 2 ^ 1022 * 4503599627370496 by decide +kernel] at a1
        exact Nat.lt_of_mul_lt_mul_left a1
      have hNs : N < 4503599627370496 := by
        have : U64 4503599627370496 = 4503599627370496 := by decide +kernel
        rw [← this] at hs
        exact U64_lt.mp hs
      rw [u64_sub hNs] at hU
      rw [ofD_end (v := N) (by omega) (by omega) h2 (Or.inr rfl) (by rw [hU, Nat.mul_comm]) (by omega), show (1023 - 1022 - 1) * 4503599627370496 + N = N by omega]
  | succ k ih =>
    intro fuel j x2 hf hj h2 hU
    obtain ⟨fuel, rfl⟩ : ∃ m, fuel = m + 1 := ⟨fuel - 1, by omega⟩
    by_cases h1 : 4607182418800017408 ≤ x2.toNat
    · exact fin fuel j x2 (by omega) h1 h2 hU
    · obtain ⟨m, hm⟩ := u_dbl FP.Core.good_b64 x2.toNat
      have hm : U64 m = 2 * U64 x2.toNat := hm
      have a1 : U64 x2.toNat < 2 ^ 1074 := by rw [← u1]; exact U64_lt.mpr (by omega)
      have hml : m < 4611686018427387904 := by
        rw [← U64_lt, hm]
        have : U64 4611686018427387904 = 2 * 2 ^ 1074 := by decide +kernel
        rw [this]
        exact Nat.mul_lt_mul_of_pos_left a1 (by decide)
      have hc : U64 ((4611686018427387904 : UInt64) : UInt64).toNat = 2 * 2 ^ 1074 := by decide +kernel
      have hprod : U64 x2.toNat * U64 ((4611686018427387904 : UInt64) : UInt64).toNat = U64 m * 2 ^ 1074 := by rw [hc, hm, ← Nat.mul_assoc, Nat.mul_comm _ 2]
      have hcl : ((4611686018427387904 : UInt64) : UInt64).toNat < 9218868437227405312 := by decide
      have hr : (FP.dmul x2 (4611686018427387904 : UInt64)).toNat = m := Nat.le_antisymm (dmul_le (by omega) hcl (Nat.le_of_eq hprod)) (dmul_ge (by omega) hcl (by omega) (Nat.le_of_eq hprod.symm))
      unfold f_X0_ofDouble_c47
      rw [if_neg (fun hh => h1 (by have := (dcmp_ge0 (by omega) (by rw [hone]; omega) .g).mp hh; rw [hone] at this; exact this)), if_neg (fun hh => by
        have := (lgc_le (a := 1023 - j) (b := 1) (by omega) (by omega)).mp hh
        omega), n64_lt (by rw [hr]; omega), og_t]
      have hx1 : lN (1023 - j) - 1 = lN (1023 - (j + 1)) := by
        rw [show 1023 - (j + 1) = 1023 - j - 1 by omega]
        exact lN_sub (a := 1023 - j) (b := 1) (by omega)
      rw [hx1]
      exact ih fuel (j + 1) _ (by omega) (by omega) (by rw [hr]; exact hml) (by rw [hr, hm, hU, Nat.pow_succ]; ac_rfl)
theorem ofD_down (N : Nat) (hN0 : 0 < N) (hN : N < 9218868437227405312) : ∀ (i fuel k : Nat) (x2 : UInt64), i < fuel → k + i = 1024 → x2.toNat + k * 4503599627370496 = N → (k = 0 ∨ 4607182418800017408 ≤ x2.toNat) → f_X0_ofDouble_c15 fuel (lN (1023 + k)) x2 = some (lN N) := by
  have htwo : ((4611686018427387904 : UInt64) : UInt64).toNat = 4611686018427387904 := rfl
  intro i
  induction i with
  | zero =>
    intro fuel k x2 hf hk hx hge
    omega
  | succ i ih =>
    intro fuel k x2 hf hk hx hge
    obtain ⟨fuel, rfl⟩ : ∃ m, fuel = m + 1 := ⟨fuel - 1, by omega⟩
    unfold f_X0_ofDouble_c15
    by_cases h2 : x2.toNat < 4611686018427387904
    · rw [if_pos ((dcmp_lt0 (by omega) (by rw [htwo]; omega) .l).mpr (by rw [htwo]; exact h2))]
      rcases hge with rfl | hge
      · exact ofD_up N hN0 (by omega) 1022 4096 0 x2 (by decide) rfl h2 (by rw [Nat.pow_zero, Nat.one_mul, show x2.toNat = N by omega])
      · rw [show (4096 : Nat) = 4095 + 1 from rfl, ofD_end (v := x2.toNat - 4602678819172646912) (by omega) (by omega) h2 (Or.inl hge) (u64_one hge h2) (by omega), show (1023 + k - 1) * 4503599627370496 + (x2.toNat - 4602678819172646912) = N by omega]
    · have hkk : k ≤ 1022 := by omega
      rw [if_neg (fun hh => h2 (by have := (dcmp_lt0 (by omega) (by rw [htwo]; omega) .l).mp hh; rw [htwo] at this; exact this)), if_neg (fun hh => by
        have := (lgc_ge (a := 1023 + k) (b := 2046) (by omega) (by omega)).mp hh
        omega)]
      have hm : U64 x2.toNat = 2 * U64 (x2.toNat - 4503599627370496) := by
        have := u64_add (m := x2.toNat - 4503599627370496) (by omega) 1
        rw [show x2.toNat - 4503599627370496 + 1 * 4503599627370496 = x2.toNat by omega] at this
        rw [this]
      have hc : U64 ((4611686018427387904 : UInt64) : UInt64).toNat = 2 * 2 ^ 1074 := by decide +kernel
      have hprod : U64 x2.toNat * 2 ^ 1074 = U64 (x2.toNat - 4503599627370496) * U64 ((4611686018427387904 : UInt64) : UInt64).toNat := by rw [hc, hm, Nat.mul_comm 2, Nat.mul_assoc]
      have hcl : ((4611686018427387904 : UInt64) : UInt64).toNat < 9218868437227405312 := by decide
      have hr : (FP.ddiv x2 (4611686018427387904 : UInt64)).toNat = x2.toNat - 4503599627370496 := Nat.le_antisymm (ddiv_le (by omega) hcl (by decide) (Nat.le_of_eq hprod)) (ddiv_ge (by omega) hcl (by decide) (by omega) (Nat.le_of_eq hprod.symm))
      rw [n64_lt (by rw [hr]; omega), og_t, show lN (1023 + k) + 1 = lN (1023 + (k + 1)) from lN_1 _]
      exact ih fuel (k + 1) _ (by omega) (by omega) (by rw [hr]; omega) (Or.inr (by rw [hr]; omega))
theorem toI64_n (x : UInt64) : x.toInt64 = lN x.toNat := by
  apply Int64.toBitVec_inj.mp
  apply BitVec.eq_of_toNat_eq
  show x.toNat = (BitVec.ofNat 64 x.toNat).toNat
  rw [BitVec.toNat_ofNat, Nat.mod_eq_of_lt x.toNat_lt]
theorem ofDouble_n {x : UInt64} (hx : x.toNat < 9218868437227405312) : f_X0_ofDouble x = some x.toInt64 := by
  have hz : (FP.dconst0 : UInt64).toNat = 0 := rfl
  unfold f_X0_ofDouble
  by_cases h0 : x.toNat = 0
  · rw [if_pos ((dcmp_eq0 hx (by rw [hz]; omega) .l).mpr (by rw [hz]; exact h0)), toI64_n, h0]; rfl
  · rw [if_neg (fun hh => h0 (by have := (dcmp_eq0 hx (by rw [hz]; omega) .l).mp hh; rw [hz] at this; exact this)), toI64_n]
    exact ofD_down x.toNat (by omega) hx 1024 4096 0 x (by decide) rfl (by omega) (Or.inl rfl)
theorem dToL_n {x : UInt64} (hx : x.toNat < 9218868437227405312) : f_Jxe99ae_doubleToLongBits_ccdee x = some x.toInt64 := by
  unfold f_Jxe99ae_doubleToLongBits_ccdee f_Jxe99ae_isNaN_b9ae7
  rw [if_pos ((dcmp_eq0 hx hx .l).mpr rfl), ob_s, if_pos rfl]
