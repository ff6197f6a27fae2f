/-! floats: what is finite and not below zero, by its bits -/
theorem fl_dec {f : FP.Core.Fmt} (hf : FP.Core.Good f) {x : Nat} (hx : x < FP.Core.infBits f) : ∃ c q, FP.Core.decode f x = .fin false c q ∧ FP.Core.fits f (.fin false c q) ∧ FP.Core.zmag f (.fin false c q) = FP.Core.unitsOf f x := by
  have h2 := FP.Core.infBits_lt f
  have h3 : FP.Core.mag f x = x := FP.Core.mag_of_lt (Nat.lt_trans hx h2)
  obtain ⟨c, q, h4, h5⟩ := FP.Core.decode_fin (f := f) (n := x) (by rw [h3]; exact hx)
  have hs : FP.Core.fieldS f x = false := by
    rw [FP.Core.fieldS_mag f (by omega)]
    exact decide_eq_false (by omega)
  rw [hs] at h4
  refine ⟨c, q, h4, h4 ▸ FP.Core.decode_fits hf x, ?_⟩
  rw [h3] at h5
  exact h5
theorem fl_mag {f : FP.Core.Fmt} {n A B : Nat} {e : Int} (hn : FP.Core.decode f n = FP.Core.roundRatio f false A B e) (hl : n < 2 * FP.Core.half f) : FP.Core.mag f n = n := by
  have h1 : FP.Core.mag f n ≤ FP.Core.infBits f := Nat.le_of_not_lt fun h1 => FP.Core.roundRatio_ne_nan f false A B e (hn ▸ (FP.Core.decode_nan n).mpr h1)
  have h2 := FP.Core.sgn_decode h1 hl
  rw [hn, FP.Core.sgn_roundRatio] at h2
  exact FP.Core.mag_of_lt (by have := of_decide_eq_false h2.symm; omega)
theorem fl_le {f : FP.Core.Fmt} (hf : FP.Core.Good f) {n m A B : Nat} {e e0 : Int} (hn : FP.Core.decode f n = FP.Core.roundRatio f false A B e) (hl : n < 2 * FP.Core.half f) (hB : 0 < B) (h0 : e0 ≤ f.qmin) (h0e : e0 ≤ e)
    (h : FP.Core.inUnits A e e0 ≤ FP.Core.unitsOf f m * 2 ^ (f.qmin - e0).toNat * B) : n ≤ m := by
  have := FP.Core.mag_le hf hn hB h0 h0e h
  rw [fl_mag hn hl] at this
  exact this
theorem fl_ge {f : FP.Core.Fmt} (hf : FP.Core.Good f) {n m A B : Nat} {e e0 : Int} (hn : FP.Core.decode f n = FP.Core.roundRatio f false A B e) (hl : n < 2 * FP.Core.half f) (hB : 0 < B) (h0 : e0 ≤ f.qmin) (h0e : e0 ≤ e) (hm : m ≤ FP.Core.infBits f)
    (h : FP.Core.unitsOf f m * 2 ^ (f.qmin - e0).toNat * B ≤ FP.Core.inUnits A e e0) : m ≤ n := by
  have := FP.Core.mag_ge hf hn hB h0 h0e hm h
  rw [fl_mag hn hl] at this
  exact this
theorem fl_add {f : FP.Core.Fmt} (hf : FP.Core.Good f) {x y : Nat} (hx : x < FP.Core.infBits f) (hy : y < FP.Core.infBits f) :
    ∃ n e, FP.Core.decode f (FP.Core.add f x y) = FP.Core.roundRatio f false n 1 e ∧ f.qmin ≤ e ∧ FP.Core.inUnits n e f.qmin = FP.Core.unitsOf f x + FP.Core.unitsOf f y := by
  obtain ⟨c, q, a1, a2, a3⟩ := fl_dec hf hx
  obtain ⟨d, r, b1, b2, b3⟩ := fl_dec hf hy
  obtain ⟨sg, n, e, p1, p2, p3⟩ := FP.Core.sum_units a2 b2
  have z1 : FP.Core.zval f (.fin false c q) = ((FP.Core.unitsOf f x : Nat) : Int) := by rw [← a3]; rfl
  have z2 : FP.Core.zval f (.fin false d r) = ((FP.Core.unitsOf f y : Nat) : Int) := by rw [← b3]; rfl
  have hs : sg = false := by
    have h9 := p1
    simp only [FP.Core.exactSum] at h9
    injection h9 with i1 i2 i3
    rw [← i1]
    unfold FP.Core.sumSign
    split
    · rfl
    · exact decide_eq_false (by simp only [FP.Core.sumUnits, FP.Core.signed, Bool.false_eq_true, if_false]; omega)
  subst hs
  rw [z1, z2] at p3
  refine ⟨n, e, ?_, p2, ?_⟩
  · unfold FP.Core.add
    rw [FP.Core.decode_enc hf (FP.Core.round_fits hf _), a1, b1, p1]
    rfl
  · simp only [FP.Core.signed, Bool.false_eq_true, if_false] at p3
    omega
theorem fl_sub {f : FP.Core.Fmt} (hf : FP.Core.Good f) {x y : Nat} (hx : x < FP.Core.infBits f) (hy : y ≤ x) :
    ∃ n e, FP.Core.decode f (FP.Core.sub f x y) = FP.Core.roundRatio f false n 1 e ∧ f.qmin ≤ e ∧ FP.Core.inUnits n e f.qmin = FP.Core.unitsOf f x - FP.Core.unitsOf f y := by
  obtain ⟨c, q, a1, a2, a3⟩ := fl_dec hf hx
  obtain ⟨d, r, b1, b2, b3⟩ := fl_dec hf (Nat.lt_of_le_of_lt hy hx)
  have b4 : FP.Core.fits f (.fin true d r) := b2
  obtain ⟨sg, n, e, p1, p2, p3⟩ := FP.Core.sum_units a2 b4
  have hU : FP.Core.unitsOf f y ≤ FP.Core.unitsOf f x := FP.Core.unitsOf_le_iff.mpr hy
  have z1 : FP.Core.zval f (.fin false c q) = ((FP.Core.unitsOf f x : Nat) : Int) := by rw [← a3]; rfl
  have z2 : FP.Core.zval f (.fin true d r) = -((FP.Core.unitsOf f y : Nat) : Int) := by rw [← b3]; rfl
  rw [z1, z2] at p3
  have hs : sg = false := by
    have h9 := p1
    simp only [FP.Core.exactSum] at h9
    injection h9 with i1 i2 i3
    cases sg with
    | false => rfl
    | true =>
      exfalso
      unfold FP.Core.sumSign at i1
      split at i1
      · cases i1
      · rename_i hv
        have hn : 0 < n := by omega
        have : 0 < FP.Core.inUnits n e f.qmin := Nat.mul_pos hn (Nat.two_pow_pos _)
        simp only [FP.Core.signed, if_true] at p3
        omega
  subst hs
  refine ⟨n, e, ?_, p2, ?_⟩
  · unfold FP.Core.sub
    rw [FP.Core.decode_enc hf (FP.Core.round_fits hf _), a1, b1]
    show FP.Core.round f (FP.Core.exactSum (.fin false c q) (.fin true d r)) = _
    rw [p1]
    rfl
  · simp only [FP.Core.signed, Bool.false_eq_true, if_false] at p3
    omega
theorem fl_mul {f : FP.Core.Fmt} (hf : FP.Core.Good f) {x y : Nat} (hx : x < FP.Core.infBits f) (hy : y < FP.Core.infBits f) :
    ∃ n e, FP.Core.decode f (FP.Core.mul f x y) = FP.Core.roundRatio f false n 1 e ∧ 2 * f.qmin ≤ e ∧ FP.Core.inUnits n e (2 * f.qmin) = FP.Core.unitsOf f x * FP.Core.unitsOf f y := by
  obtain ⟨c, q, a1, a2, a3⟩ := fl_dec hf hx
  obtain ⟨d, r, b1, b2, b3⟩ := fl_dec hf hy
  obtain ⟨p1, p2, p3⟩ := FP.Core.product_units a2 b2
  refine ⟨c * d, q + r, ?_, p2, by rw [p3, a3, b3]⟩
  unfold FP.Core.mul
  rw [FP.Core.decode_enc hf (FP.Core.round_fits hf _), a1, b1, p1]
  rfl
theorem fl_div {f : FP.Core.Fmt} (hf : FP.Core.Good f) {x y : Nat} (hx : x < FP.Core.infBits f) (hy : y < FP.Core.infBits f) (h0 : 0 < y) :
    ∃ n d e e0, 0 < d ∧ FP.Core.decode f (FP.Core.div f x y) = FP.Core.roundRatio f false n d e ∧ e0 ≤ f.qmin ∧ e0 ≤ e ∧ FP.Core.inUnits n e e0 = FP.Core.unitsOf f x * 2 ^ (-f.qmin).toNat ∧ 2 ^ (f.qmin - e0).toNat * d = FP.Core.unitsOf f y := by
  obtain ⟨c, q, a1, a2, a3⟩ := fl_dec hf hx
  obtain ⟨d, r, b1, b2, b3⟩ := fl_dec hf hy
  have hq := FP.Core.qmin_neg hf
  have hd0 : d ≠ 0 := by
    rintro rfl
    have h1 : FP.Core.zmag f (.fin false 0 r) = 0 := Nat.zero_mul _
    rw [b3, FP.Core.unitsOf_eq_zero] at h1
    omega
  have hx1 := a2.2.1
  have hy1 := b2.2.1
  refine ⟨c, d, q - r, 2 * f.qmin - r, by omega, ?_, by omega, by omega, ?_, ?_⟩
  · unfold FP.Core.div
    rw [FP.Core.decode_enc hf (FP.Core.quotient_fits hf _ _), a1, b1]
    simp only [FP.Core.quotient, if_neg hd0]
    rfl
  · rw [← a3]
    show c * _ = c * _ * _
    rw [Nat.mul_assoc, ← Nat.pow_add]; congr 2; omega
  · rw [← b3]
    show _ = d * _
    rw [Nat.mul_comm]; congr 2; omega
/-- units may be doubled -/
theorem u_dbl {f : FP.Core.Fmt} (hf : FP.Core.Good f) (m : Nat) : ∃ k, FP.Core.unitsOf f k = 2 * FP.Core.unitsOf f m := by
  have ht := FP.Core.tails_pos f
  unfold FP.Core.unitsOf
  by_cases h1 : m < f.tails
  · refine ⟨2 * m, ?_⟩
    rw [if_pos h1]
    by_cases h2 : 2 * m < f.tails
    · rw [if_pos h2]
    · rw [if_neg h2]
      have h3 : 2 * m / f.tails = 1 := by
        have a1 : 1 ≤ 2 * m / f.tails := (Nat.le_div_iff_mul_le ht).mpr (by omega)
        have a2 : 2 * m / f.tails < 2 := (Nat.div_lt_iff_lt_mul ht).mpr (by omega)
        omega
      have h4 := Nat.div_add_mod (2 * m) f.tails
      rw [h3] at h4 ⊢
      rw [Nat.sub_self, Nat.pow_zero, Nat.mul_one]
      omega
  · refine ⟨m + f.tails, ?_⟩
    have h5 : 1 ≤ m / f.tails := (Nat.le_div_iff_mul_le ht).mpr (by omega)
    rw [if_neg h1, if_neg (by omega), Nat.add_mod_right, Nat.add_div_right _ ht, show (m / f.tails).succ - 1 = (m / f.tails - 1) + 1 by omega, Nat.pow_succ]
    ac_rfl
theorem u_shl {f : FP.Core.Fmt} (hf : FP.Core.Good f) (m : Nat) : ∀ j, ∃ k, FP.Core.unitsOf f k = 2 ^ j * FP.Core.unitsOf f m
  | 0 => ⟨m, by rw [Nat.pow_zero, Nat.one_mul]⟩
  | j + 1 => by
    obtain ⟨k, hk⟩ := u_shl hf m j
    obtain ⟨k2, hk2⟩ := u_dbl hf k
    exact ⟨k2, by rw [hk2, hk, Nat.pow_succ]; ac_rfl⟩
theorem u_inj {f : FP.Core.Fmt} {m k : Nat} (h : FP.Core.unitsOf f m = FP.Core.unitsOf f k) : m = k := by
  have h1 := FP.Core.unitsOf_le_iff (f := f) (m := m) (k := k)
  have h2 := FP.Core.unitsOf_le_iff (f := f) (m := k) (k := m)
  omega
abbrev U32 (m : Nat) : Nat := FP.Core.unitsOf FP.Core.b32 m
theorem i32 : FP.Core.infBits FP.Core.b32 = 2139095040 := FP.Core.infBits_b32
theorem q32 : FP.Core.b32.qmin = -149 := FP.Core.qmin_b32
theorem U32_le {a b : Nat} : U32 a ≤ U32 b ↔ a ≤ b := FP.Core.unitsOf_le_iff
theorem U32_lt {a b : Nat} : U32 a < U32 b ↔ a < b := FP.Core.unitsOf_lt_iff
theorem fadd_n (x y : UInt32) : (FP.fadd x y).toNat = FP.Core.add FP.Core.b32 x.toNat y.toNat := FP.Core.toNat_of32 (FP.Core.round_fits FP.Core.good_b32 _)
theorem fsub_n (x y : UInt32) : (FP.fsub x y).toNat = FP.Core.sub FP.Core.b32 x.toNat y.toNat := FP.Core.toNat_of32 (FP.Core.round_fits FP.Core.good_b32 _)
theorem fmul_n (x y : UInt32) : (FP.fmul x y).toNat = FP.Core.mul FP.Core.b32 x.toNat y.toNat := FP.Core.toNat_of32 (FP.Core.round_fits FP.Core.good_b32 _)
theorem fdiv_n (x y : UInt32) : (FP.fdiv x y).toNat = FP.Core.div FP.Core.b32 x.toNat y.toNat := FP.Core.toNat_of32 (FP.Core.quotient_fits FP.Core.good_b32 _ _)
theorem fadd_le {x y : UInt32} {m : Nat} (hx : x.toNat < 2139095040) (hy : y.toNat < 2139095040) (h : U32 x.toNat + U32 y.toNat ≤ U32 m) : (FP.fadd x y).toNat ≤ m := by
  obtain ⟨n, e, h1, h2, h3⟩ := fl_add FP.Core.good_b32 (by rw [i32]; exact hx) (by rw [i32]; exact hy)
  rw [← fadd_n] at h1
  exact fl_le FP.Core.good_b32 h1 (FP.Core.lt_full32 _) (by decide) (Int.le_refl _) h2 (by rw [h3, Int.sub_self, Int.toNat_zero, Nat.pow_zero, Nat.mul_one, Nat.mul_one]; exact h)
theorem fadd_ge {x y : UInt32} {m : Nat} (hx : x.toNat < 2139095040) (hy : y.toNat < 2139095040) (hm : m ≤ 2139095040) (h : U32 m ≤ U32 x.toNat + U32 y.toNat) : m ≤ (FP.fadd x y).toNat := by
  obtain ⟨n, e, h1, h2, h3⟩ := fl_add FP.Core.good_b32 (by rw [i32]; exact hx) (by rw [i32]; exact hy)
  rw [← fadd_n] at h1
  exact fl_ge FP.Core.good_b32 h1 (FP.Core.lt_full32 _) (by decide) (Int.le_refl _) h2 (by rw [i32]; exact hm) (by rw [h3, Int.sub_self, Int.toNat_zero, Nat.pow_zero, Nat.mul_one, Nat.mul_one]; exact h)
theorem fsub_le {x y : UInt32} (hx : x.toNat < 2139095040) (hy : y.toNat ≤ x.toNat) : (FP.fsub x y).toNat ≤ x.toNat := by
  obtain ⟨n, e, h1, h2, h3⟩ := fl_sub FP.Core.good_b32 (by rw [i32]; exact hx) hy
  rw [← fsub_n] at h1
  exact fl_le FP.Core.good_b32 h1 (FP.Core.lt_full32 _) (by decide) (Int.le_refl _) h2 (by rw [h3, Int.sub_self, Int.toNat_zero, Nat.pow_zero, Nat.mul_one, Nat.mul_one]; exact Nat.sub_le _ _)
theorem q32a : (FP.Core.b32.qmin - 2 * FP.Core.b32.qmin).toNat = 149 := by rw [q32]; rfl
theorem q32b : (-FP.Core.b32.qmin).toNat = 149 := by rw [q32]; rfl
theorem fmul_le {x y : UInt32} {m : Nat} (hx : x.toNat < 2139095040) (hy : y.toNat < 2139095040) (h : U32 x.toNat * U32 y.toNat ≤ U32 m * 2 ^ 149) : (FP.fmul x y).toNat ≤ m := by
  obtain ⟨n, e, h1, h2, h3⟩ := fl_mul FP.Core.good_b32 (by rw [i32]; exact hx) (by rw [i32]; exact hy)
  rw [← fmul_n] at h1
  exact fl_le FP.Core.good_b32 h1 (FP.Core.lt_full32 _) (by decide) (by rw [q32]; decide) h2 (by rw [h3, q32a, Nat.mul_one]; exact h)
theorem fmul_ge {x y : UInt32} {m : Nat} (hx : x.toNat < 2139095040) (hy : y.toNat < 2139095040) (hm : m ≤ 2139095040) (h : U32 m * 2 ^ 149 ≤ U32 x.toNat * U32 y.toNat) : m ≤ (FP.fmul x y).toNat := by
  obtain ⟨n, e, h1, h2, h3⟩ := fl_mul FP.Core.good_b32 (by rw [i32]; exact hx) (by rw [i32]; exact hy)
  rw [← fmul_n] at h1
  exact fl_ge FP.Core.good_b32 h1 (FP.Core.lt_full32 _) (by decide) (by rw [q32]; decide) h2 (by rw [i32]; exact hm) (by rw [h3, q32a, Nat.mul_one]; exact h)
theorem fdiv_le {x y : UInt32} {m : Nat} (hx : x.toNat < 2139095040) (hy : y.toNat < 2139095040) (h0 : 0 < y.toNat) (h : U32 x.toNat * 2 ^ 149 ≤ U32 m * U32 y.toNat) : (FP.fdiv x y).toNat ≤ m := by
  obtain ⟨n, d, e, e0, h1, h2, h3, h4, h5, h6⟩ := fl_div FP.Core.good_b32 (by rw [i32]; exact hx) (by rw [i32]; exact hy) h0
  rw [← fdiv_n] at h2
  exact fl_le FP.Core.good_b32 h2 (FP.Core.lt_full32 _) h1 h3 h4 (by rw [h5, Nat.mul_assoc, h6, q32b]; exact h)
theorem fdiv_ge {x y : UInt32} {m : Nat} (hx : x.toNat < 2139095040) (hy : y.toNat < 2139095040) (h0 : 0 < y.toNat) (hm : m ≤ 2139095040) (h : U32 m * U32 y.toNat ≤ U32 x.toNat * 2 ^ 149) : m ≤ (FP.fdiv x y).toNat := by
  obtain ⟨n, d, e, e0, h1, h2, h3, h4, h5, h6⟩ := fl_div FP.Core.good_b32 (by rw [i32]; exact hx) (by rw [i32]; exact hy) h0
  rw [← fdiv_n] at h2
  exact fl_ge FP.Core.good_b32 h2 (FP.Core.lt_full32 _) h1 h3 h4 (by rw [i32]; exact hm) (by rw [h5, Nat.mul_assoc, h6, q32b]; exact h)
theorem n32_of {v : UInt32} (h : v.toNat % 2 ^ 31 ≤ 2139095040) : n32 v = true := by
  unfold n32
  refine decide_eq_true ?_
  rw [UInt32.le_iff_toNat_le, FP.Core.mask_toNat32]
  exact h
theorem n32_lt {v : UInt32} (h : v.toNat < 2139095040) : n32 v = true := n32_of (by omega)
theorem not_nan32 {v : UInt32} (h : v.toNat < 2139095040) : FP.Core.val32 v ≠ .nan := (FP.Core.ne_nan32 v).mpr (by omega)
theorem fcmp_cases {x y : UInt32} (hx : x.toNat < 2139095040) (hy : y.toNat < 2139095040) (o : CmpOp) : (x.toNat < y.toNat ∧ Op.cmpValue (FP.fcmp x y) o = -1) ∨ (x.toNat = y.toNat ∧ Op.cmpValue (FP.fcmp x y) o = 0) ∨ (y.toNat < x.toNat ∧ Op.cmpValue (FP.fcmp x y) o = 1) := by
  obtain ⟨m1, m2, m3⟩ := FP.Core.mono_bits32 (not_nan32 hx) (not_nan32 hy) (by omega) (by omega)
  rcases Nat.lt_trichotomy x.toNat y.toNat with h | h | h
  · refine Or.inl ⟨h, ?_⟩
    show Op.cmpValue (FP.Core.fcmp x y) o = -1
    rw [m1.mpr h]; rfl
  · refine Or.inr (Or.inl ⟨h, ?_⟩)
    show Op.cmpValue (FP.Core.fcmp x y) o = 0
    rw [m2.mpr h]; rfl
  · refine Or.inr (Or.inr ⟨h, ?_⟩)
    show Op.cmpValue (FP.Core.fcmp x y) o = 1
    rw [m3.mpr h]; rfl
theorem fcmp_ge0 {x y : UInt32} (hx : x.toNat < 2139095040) (hy : y.toNat < 2139095040) (o : CmpOp) : 0 ≤ Op.cmpValue (FP.fcmp x y) o ↔ y.toNat ≤ x.toNat := by
  rcases fcmp_cases hx hy o with ⟨h, e⟩ | ⟨h, e⟩ | ⟨h, e⟩
  · rw [e]; exact iff_of_false (by decide) (by omega)
  · rw [e]; exact iff_of_true (by decide) (by omega)
  · rw [e]; exact iff_of_true (by decide) (by omega)
theorem fcmp_lt0 {x y : UInt32} (hx : x.toNat < 2139095040) (hy : y.toNat < 2139095040) (o : CmpOp) : Op.cmpValue (FP.fcmp x y) o < 0 ↔ x.toNat < y.toNat := by
  rcases fcmp_cases hx hy o with ⟨h, e⟩ | ⟨h, e⟩ | ⟨h, e⟩
  · rw [e]; exact iff_of_true (by decide) (by omega)
  · rw [e]; exact iff_of_false (by decide) (by omega)
  · rw [e]; exact iff_of_false (by decide) (by omega)
theorem fcmp_eq0 {x y : UInt32} (hx : x.toNat < 2139095040) (hy : y.toNat < 2139095040) (o : CmpOp) : Op.cmpValue (FP.fcmp x y) o = 0 ↔ x.toNat = y.toNat := by
  rcases fcmp_cases hx hy o with ⟨h, e⟩ | ⟨h, e⟩ | ⟨h, e⟩
  · rw [e]; exact iff_of_false (by decide) (by omega)
  · rw [e]; exact iff_of_true (by decide) (by omega)
  · rw [e]; exact iff_of_false (by decide) (by omega)
/-- a hat that is full stays as it is -/
theorem fadd_sat {h t : UInt32} (hh : h.toNat ≤ 1317011456) (ht : t.toNat ≤ 1110966272) : (FP.fadd h t).toNat ≤ 1317011456 := by
  have uh := U32_le.mpr hh
  have ut := U32_le.mpr ht
  have hx : h.toNat < 2139095040 := by omega
  have hy : t.toNat < 2139095040 := by omega
  have k0 : U32 1317011456 + U32 1110966272 ≤ U32 1325400064 := by decide +kernel
  have hr := fadd_le hx hy (m := 1325400064) (by omega)
  refine Nat.le_of_not_lt fun hc => ?_
  obtain ⟨n, e, h1, h2, h3⟩ := fl_add FP.Core.good_b32 (by rw [i32]; exact hx) (by rw [i32]; exact hy)
  rw [← fadd_n] at h1
  obtain ⟨c, q, a1, a2, a3⟩ := fl_dec FP.Core.good_b32 (x := (FP.fadd h t).toNat) (by rw [i32]; omega)
  obtain ⟨c', q', b1, b2, b3⟩ := fl_dec FP.Core.good_b32 (x := 1317011456) (by rw [i32]; omega)
  have hd := FP.Core.roundRatio_nearest FP.Core.good_b32 (A := n) (B := 1) (e := e) (by decide) (h1.symm.trans a1) b2.1 b2.2.1 (Int.le_refl _) h2
  unfold FP.Core.distance at hd
  have e1 : FP.Core.inUnits c q FP.Core.b32.qmin = U32 (FP.fadd h t).toNat := a3
  have e2 : FP.Core.inUnits c' q' FP.Core.b32.qmin = U32 1317011456 := b3
  rw [h3, e1, e2] at hd
  have hd : (((U32 h.toNat + U32 t.toNat : Nat) : Int) - ((U32 (FP.fadd h t).toNat : Nat) : Int)).natAbs ≤ (((U32 h.toNat + U32 t.toNat : Nat) : Int) - ((U32 1317011456 : Nat) : Int)).natAbs := by
    simpa only [Int.natCast_one, Int.mul_one] using hd
  have k1 : U32 1317011457 = U32 1317011456 + 2 * 2 ^ 155 := by decide +kernel
  have k2 : U32 1110966272 < 2 ^ 155 := by decide +kernel
  have k3 : U32 1317011457 ≤ U32 (FP.fadd h t).toNat := U32_le.mpr hc
  by_cases hle : U32 h.toNat + U32 t.toNat ≤ U32 1317011456
  · have := fadd_le hx hy hle
    omega
  · generalize U32 (FP.fadd h t).toNat = z at *
    generalize U32 h.toNat = a at *
    generalize U32 t.toNat = b at *
    generalize U32 1317011456 = M at *
    generalize U32 1317011457 = M1 at *
    generalize U32 1110966272 = T at *
    generalize (2 : Nat) ^ 155 = D at *
    omega
