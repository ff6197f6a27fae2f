/-! the bits of floats and doubles, by the class's own way -/
theorem ob_s {α β : Type} (a : α) (k : α → Option β) : ob (some a) k = k a := rfl
theorem og_t {β : Type} (k : Option β) : og true k = k := rfl
theorem u32_norm {m : Nat} (h : 8388608 ≤ m) : U32 m = (8388608 + m % 8388608) * 2 ^ (m / 8388608 - 1) := by
  show FP.Core.unitsOf FP.Core.b32 m = _
  unfold FP.Core.unitsOf
  rw [FP.Core.tails_b32, if_neg (by omega)]
theorem u32_sub {m : Nat} (h : m < 8388608) : U32 m = m := by
  show FP.Core.unitsOf FP.Core.b32 m = _
  unfold FP.Core.unitsOf
  rw [FP.Core.tails_b32, if_pos (by omega)]
theorem u32_add {m : Nat} (h : 8388608 ≤ m) (j : Nat) : U32 (m + j * 8388608) = 2 ^ j * U32 m := by
  rw [u32_norm h, u32_norm (by omega), Nat.add_mul_mod_self_right, Nat.add_mul_div_right _ _ (by decide), show m / 8388608 + j - 1 = j + (m / 8388608 - 1) by omega, Nat.pow_add]
  ac_rfl
theorem u32_one {m : Nat} (h1 : 1065353216 ≤ m) (h2 : m < 1073741824) : U32 m = (m - 1056964608) * 2 ^ 126 := by
  rw [u32_norm (by omega), show m / 8388608 = 127 by omega, show 8388608 + m % 8388608 = m - 1056964608 by omega]
theorem f2i_n {x : UInt32} {v : Nat} (hx : x.toNat < 2139095040) (hv : U32 x.toNat = v * 2 ^ 149) (hl : v < 2 ^ 31) : FP.f2i x = nI v := by
  have hn := not_nan32 hx
  have h1 := FP.Core.f2i_val hn
  rw [FP.Core.sgn_bits32 hn, FP.Core.zmag_bits32 hn, Nat.mod_eq_of_lt (show x.toNat < 2 ^ 31 by omega), decide_eq_false (show ¬ 2 ^ 31 ≤ x.toNat by omega)] at h1
  have h2 : FP.Core.unitsOf FP.Core.b32 x.toNat / FP.Core.one32 = v := by
    rw [show FP.Core.unitsOf FP.Core.b32 x.toNat = v * 2 ^ 149 from hv]
    exact Nat.mul_div_cancel _ (Nat.two_pow_pos _)
  rw [h2] at h1
  apply Int32.toInt_inj.mp
  rw [nI_toInt hl]
  refine h1.trans ?_
  simp only [FP.Core.signed, Bool.false_eq_true, if_false]
  omega
theorem two32 : (1073741824 : UInt32).toNat = 1073741824 := rfl
theorem ofF_end {fuel E v : Nat} {x2 : UInt32} (hE : 1 ≤ E) (hE2 : E ≤ 254) (hx2 : x2.toNat < 1073741824) (hge : 1065353216 ≤ x2.toNat ∨ E = 1) (hv : U32 x2.toNat = v * 2 ^ 126) (hvv : v < 16777216) : f_X0_ofFloat_c36 (fuel + 1) (nI E) x2 = some (nI ((E - 1) * 8388608 + v)) := by
  obtain ⟨k, hk⟩ := u_shl FP.Core.good_b32 x2.toNat 23
  have hk2 : U32 k = v * 2 ^ 149 := by
    rw [show U32 k = 2 ^ 23 * U32 x2.toNat from hk, hv, show (2 : Nat) ^ 149 = 2 ^ 23 * 2 ^ 126 by rw [← Nat.pow_add]]
    ac_rfl
  have hkl : k < 2139095040 := by
    rw [← U32_lt, hk2]
    have : (16777216 : Nat) * 2 ^ 149 ≤ U32 2139095040 := by decide +kernel
    refine Nat.lt_of_lt_of_le ?_ this
    exact Nat.mul_lt_mul_of_pos_right hvv (Nat.two_pow_pos _)
  have hc : U32 (1258291200 : UInt32).toNat = 2 ^ 172 := by decide +kernel
  have hprod : U32 x2.toNat * U32 (1258291200 : UInt32).toNat = U32 k * 2 ^ 149 := by
    rw [hc, hk2, hv, Nat.mul_assoc, Nat.mul_assoc, ← Nat.pow_add]
  have hcl : (1258291200 : UInt32).toNat < 2139095040 := by decide
  have hm : (FP.fmul x2 1258291200).toNat = k := Nat.le_antisymm (fmul_le (by omega) hcl (Nat.le_of_eq hprod)) (fmul_ge (by omega) hcl (by omega) (Nat.le_of_eq hprod.symm))
  have hf : FP.f2i (FP.fmul x2 1258291200) = nI v := f2i_n (by rw [hm]; exact hkl) (by rw [hm]; exact hk2) (by omega)
  have hg : n32 (FP.fmul x2 1258291200) = true := n32_lt (by rw [hm]; exact hkl)
  have he : ((nI E - 1) <<< (23 &&& 31)) + nI v = nI ((E - 1) * 8388608 + v) := by
    have h1 : nI E - 1 = nI (E - 1) := pk_sub (a := E) (b := 1) hE
    rw [h1, pk_shlN (n := E - 1) (23 &&& 31) 23 (by decide) (by omega), nI_add]
  have hone : (FP.fconst1 : UInt32).toNat = 1065353216 := rfl
  unfold f_X0_ofFloat_c36
  rw [hg, og_t, hf, he]
  rcases hge with h | h
  · rw [if_pos ((fcmp_ge0 (by omega) (by rw [hone]; omega) .g).mpr (by rw [hone]; exact h))]
  · by_cases hq : 1065353216 ≤ x2.toNat
    · rw [if_pos ((fcmp_ge0 (by omega) (by rw [hone]; omega) .g).mpr (by rw [hone]; exact hq))]
    · rw [if_neg (fun hh => hq (by have := (fcmp_ge0 (x := x2) (by omega) (by rw [hone]; omega) .g).mp hh; rw [hone] at this; exact this)), if_pos (by rw [h]; decide)]
theorem ofF_up (N : Nat) (hN0 : 0 < N) (hN : N < 1073741824) : ∀ (k fuel j : Nat) (x2 : UInt32), k < fuel → j + k = 126 → x2.toNat < 1073741824 → U32 x2.toNat = 2 ^ j * U32 N → f_X0_ofFloat_c36 fuel (nI (127 - j)) x2 = some (nI N) := by
  have hone : (FP.fconst1 : UInt32).toNat = 1065353216 := rfl
  have htwo : (FP.fconst2 : UInt32).toNat = 1073741824 := rfl
  have u1 : U32 1065353216 = 2 ^ 149 := by decide +kernel
  -- at the end
  have fin : ∀ (fuel j : Nat) (x2 : UInt32), j ≤ 126 → 1065353216 ≤ x2.toNat → x2.toNat < 1073741824 → U32 x2.toNat = 2 ^ j * U32 N → f_X0_ofFloat_c36 (fuel + 1) (nI (127 - j)) x2 = some (nI N) := by
    intro fuel j x2 hj h1 h2 hU
    have hNn : 8388608 ≤ N := by
      refine Nat.le_of_not_lt fun hs => ?_
      rw [u32_sub hs] at hU
      have a1 : 2 ^ 149 ≤ U32 x2.toNat := by rw [← u1]; exact U32_le.mpr h1
      have a2 : 2 ^ j * N < 2 ^ 126 * 2 ^ 23 := Nat.lt_of_le_of_lt (Nat.mul_le_mul_right _ (Nat.pow_le_pow_right (by decide) hj)) (Nat.mul_lt_mul_of_pos_left (by omega) (Nat.two_pow_pos _))
      rw [← Nat.pow_add] at a2
      rw [hU] at a1
      omega
    have hx : x2.toNat = N + j * 8388608 := u_inj (f := FP.Core.b32) (by rw [show FP.Core.unitsOf FP.Core.b32 x2.toNat = U32 x2.toNat from rfl, hU]; exact (u32_add hNn j).symm)
    rw [ofF_end (v := x2.toNat - 1056964608) (by omega) (by omega) h2 (Or.inl h1) (u32_one h1 h2) (by omega), show (127 - j - 1) * 8388608 + (x2.toNat - 1056964608) = N by omega]
  intro k
  induction k with
  | zero =>
    intro fuel j x2 hf hj h2 hU
    obtain ⟨fuel, rfl⟩ : ∃ m, fuel = m + 1 := ⟨fuel - 1, by omega⟩
    by_cases h1 : 1065353216 ≤ x2.toNat
    · exact fin fuel j x2 (by omega) h1 h2 hU
    · have hj2 : j = 126 := by omega
      subst hj2
      have hs : U32 N < 8388608 := by
        have a1 : U32 x2.toNat < 2 ^ 149 := by rw [← u1]; exact U32_lt.mpr (by omega)
        rw [hU, show (2 : Nat) ^ 149 = 2 ^ 126 * 8388608 by decide] at a1
        exact Nat.lt_of_mul_lt_mul_left a1
      have hNs : N < 8388608 := by
        have : U32 8388608 = 8388608 := by decide +kernel
        rw [← this] at hs
        exact U32_lt.mp hs
      rw [u32_sub hNs] at hU
      rw [ofF_end (v := N) (by omega) (by omega) h2 (Or.inr rfl) (by rw [hU, Nat.mul_comm]) (by omega), show (127 - 126 - 1) * 8388608 + N = N by omega]
  | succ k ih =>
    intro fuel j x2 hf hj h2 hU
    obtain ⟨fuel, rfl⟩ : ∃ m, fuel = m + 1 := ⟨fuel - 1, by omega⟩
    by_cases h1 : 1065353216 ≤ x2.toNat
    · exact fin fuel j x2 (by omega) h1 h2 hU
    · obtain ⟨m, hm⟩ := u_dbl FP.Core.good_b32 x2.toNat
      have hm : U32 m = 2 * U32 x2.toNat := hm
      have a1 : U32 x2.toNat < 2 ^ 149 := by rw [← u1]; exact U32_lt.mpr (by omega)
      have hml : m < 1073741824 := by
        rw [← U32_lt, hm]
        have : U32 1073741824 = 2 * 2 ^ 149 := by decide +kernel
        omega
      have hc : U32 (FP.fconst2 : UInt32).toNat = 2 * 2 ^ 149 := by decide +kernel
      have hprod : U32 x2.toNat * U32 (FP.fconst2 : UInt32).toNat = U32 m * 2 ^ 149 := by rw [hc, hm]; ac_rfl
      have hcl : (FP.fconst2 : UInt32).toNat < 2139095040 := by decide
      have hr : (FP.fmul x2 FP.fconst2).toNat = m := Nat.le_antisymm (fmul_le (by omega) hcl (Nat.le_of_eq hprod)) (fmul_ge (by omega) hcl (by omega) (Nat.le_of_eq hprod.symm))
      unfold f_X0_ofFloat_c36
      rw [if_neg (fun hh => h1 (by have := (fcmp_ge0 (by omega) (by rw [hone]; omega) .g).mp hh; rw [hone] at this; exact this)), if_neg (fun hh => by
        have := (nI_leI (a := 127 - j) (b := 1) (by omega) (by omega)).mp hh
        omega), n32_lt (by rw [hr]; omega), og_t]
      have hx1 : nI (127 - j) + (-1) = nI (127 - (j + 1)) := by
        rw [show 127 - j = (127 - (j + 1)) + 1 by omega]
        exact pk_m1 _
      rw [hx1]
      exact ih fuel (j + 1) _ (by omega) (by omega) (by rw [hr]; exact hml) (by rw [hr, hm, hU, Nat.pow_succ]; ac_rfl)
theorem ofF_down (N : Nat) (hN0 : 0 < N) (hN : N < 2139095040) : ∀ (i fuel k : Nat) (x2 : UInt32), i < fuel → k + i = 128 → x2.toNat + k * 8388608 = N → (k = 0 ∨ 1065353216 ≤ x2.toNat) → f_X0_ofFloat_c13 fuel (nI (127 + k)) x2 = some (nI N) := by
  have htwo : (FP.fconst2 : UInt32).toNat = 1073741824 := rfl
  intro i
  induction i with
  | zero =>
    intro fuel k x2 hf hk hx hge
    omega
  | succ i ih =>
    intro fuel k x2 hf hk hx hge
    obtain ⟨fuel, rfl⟩ : ∃ m, fuel = m + 1 := ⟨fuel - 1, by omega⟩
    unfold f_X0_ofFloat_c13
    by_cases h2 : x2.toNat < 1073741824
    · rw [if_pos ((fcmp_lt0 (by omega) (by rw [htwo]; omega) .l).mpr (by rw [htwo]; exact h2))]
      rcases hge with rfl | hge
      · exact ofF_up N hN0 (by omega) 126 4096 0 x2 (by decide) rfl h2 (by rw [Nat.pow_zero, Nat.one_mul, show x2.toNat = N by omega])
      · rw [show (4096 : Nat) = 4095 + 1 from rfl, ofF_end (v := x2.toNat - 1056964608) (by omega) (by omega) h2 (Or.inl hge) (u32_one hge h2) (by omega), show (127 + k - 1) * 8388608 + (x2.toNat - 1056964608) = N by omega]
    · have hkk : k ≤ 126 := by omega
      rw [if_neg (fun hh => h2 (by have := (fcmp_lt0 (by omega) (by rw [htwo]; omega) .l).mp hh; rw [htwo] at this; exact this)), if_neg (fun hh => by
        have := (nI_leI (a := 254) (b := 127 + k) (by omega) (by omega)).mp hh
        omega)]
      have hm : U32 x2.toNat = 2 * U32 (x2.toNat - 8388608) := by
        have := u32_add (m := x2.toNat - 8388608) (by omega) 1
        rw [show x2.toNat - 8388608 + 1 * 8388608 = x2.toNat by omega] at this
        rw [this]
      have hc : U32 (FP.fconst2 : UInt32).toNat = 2 * 2 ^ 149 := by decide +kernel
      have hprod : U32 x2.toNat * 2 ^ 149 = U32 (x2.toNat - 8388608) * U32 (FP.fconst2 : UInt32).toNat := by rw [hc, hm, Nat.mul_comm 2, Nat.mul_assoc]
      have hcl : (FP.fconst2 : UInt32).toNat < 2139095040 := by decide
      have hr : (FP.fdiv x2 FP.fconst2).toNat = x2.toNat - 8388608 := Nat.le_antisymm (fdiv_le (by omega) hcl (by decide) (Nat.le_of_eq hprod)) (fdiv_ge (by omega) hcl (by decide) (by omega) (Nat.le_of_eq hprod.symm))
      rw [n32_lt (by rw [hr]; omega), og_t, show nI (127 + k) + 1 = nI (127 + (k + 1)) from nI_1 _]
      exact ih fuel (k + 1) _ (by omega) (by omega) (by rw [hr]; omega) (Or.inr (by rw [hr]; omega))
theorem toI32_n (x : UInt32) : x.toInt32 = nI x.toNat := by
  apply Int32.toBitVec_inj.mp
  apply BitVec.eq_of_toNat_eq
  rw [pk_tn x.toNat_lt]
  rfl
theorem ofFloat_n {x : UInt32} (hx : x.toNat < 2139095040) : f_X0_ofFloat x = some x.toInt32 := by
  have hz : (FP.fconst0 : UInt32).toNat = 0 := rfl
  unfold f_X0_ofFloat
  by_cases h0 : x.toNat = 0
  · rw [if_pos ((fcmp_eq0 hx (by rw [hz]; omega) .l).mpr (by rw [hz]; exact h0)), toI32_n, h0]; rfl
  · rw [if_neg (fun hh => h0 (by have := (fcmp_eq0 hx (by rw [hz]; omega) .l).mp hh; rw [hz] at this; exact this)), toI32_n]
    exact ofF_down x.toNat (by omega) hx 128 4096 0 x (by decide) rfl (by omega) (Or.inl rfl)
theorem fToI_n {x : UInt32} (hx : x.toNat < 2139095040) : f_Jxf58ca_floatToIntBits_5c35a x = some x.toInt32 := by
  unfold f_Jxf58ca_floatToIntBits_5c35a f_Jxf58ca_isNaN_12338
  rw [if_pos ((fcmp_eq0 hx hx .l).mpr rfl), ob_s, if_pos rfl]
theorem okI_n {x : UInt32} (hx : x.toNat < 2139095040) : okI x.toInt32 = true := by
  unfold okI vn_sni2f
  have h1 : x.toInt32.toUInt32 = x := by simp
  rw [h1]
  have h2 : ¬ (x &&& 0x7fffffff > 0x7f800000) := by
    rw [gt_iff_lt, UInt32.lt_iff_toNat_lt, FP.Core.mask_toNat32]
    show ¬ 2139095040 < x.toNat % 2 ^ 31
    omega
  simp [h2]
theorem toI_toU (x : UInt32) : x.toInt32.toUInt32 = x := by simp
