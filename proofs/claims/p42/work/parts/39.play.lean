/-! hours -/
theorem tk_ok : ∀ c, c < 51 → ∀ l, l < 10 → n32 (FP.fmul 1036831949 (FP.i2f (nI c))) = true ∧ n32 (FP.fmul (FP.fmul 1036831949 (FP.i2f (nI c))) (FP.i2f (nI l))) = true ∧ (FP.fmul (FP.fmul 1036831949 (FP.i2f (nI c))) (FP.i2f (nI l))).toNat ≤ 1110966272 := by decide +kernel
theorem den_ok : ∀ c, c < 101 → n32 (FP.fadd FP.fconst1 (FP.i2f (nI c))) = true ∧ 1065353216 ≤ (FP.fadd FP.fconst1 (FP.i2f (nI c))).toNat ∧ (FP.fadd FP.fconst1 (FP.i2f (nI c))).toNat < 2139095040 := by decide +kernel
theorem tak_le {x y : UInt32} (hx : x.toNat ≤ 1110966272) (hy1 : 1065353216 ≤ y.toNat) (hy2 : y.toNat < 2139095040) : (FP.fdiv x y).toNat ≤ 1110966272 := by
  refine Nat.le_trans (fdiv_le (m := x.toNat) (by omega) hy2 (by omega) ?_) hx
  refine Nat.mul_le_mul_left _ ?_
  have : U32 1065353216 = 2 ^ 149 := by decide +kernel
  rw [← this]
  exact U32_le.mpr hy1
section PLAY
variable {B : Nat → Nat} {crowd bus ans : Int32} {lim : Nat → UInt32} {cmp sof kin lou pit pla cas hrs nws : Nat → Int32} {hat wea : Nat → UInt32} {n w : Nat} {ln : Nat → Nat}
/-- the end of an hour of a busker: wear, hours, whether the busker goes home -/
theorem tail_eq (h : Jv B crowd bus ans lim cmp sof kin lou pit pla cas hrs nws hat wea n w ln) {k b : Nat} (hk : k < 8) (hb : b < n) (hp : pit b = nI k) {t : Int32} (ht : t = 0 ∨ t = 1) : ∃ res wea', (∀ row, f_X3_playHour_c91 crowd lim kin lou row (nI k) (nI b) t cmp sof hrs hat wea = some (res, cmp, sof, upd hrs b (hrs b + 1), hat, wea')) ∧ Jv B crowd bus ans lim cmp sof kin lou (if res = 0 then pit else upd pit b (-1)) pla cas (upd hrs b (hrs b + 1)) nws hat wea' n w ln := by
  obtain ⟨hA, hc, hL, hO, hS, hK, hF, hI, hJ, hG, hGj, hE, hN, hD, hY, hZ⟩ := id h
  have hn8 := hA.2
  have hb8 : b < 8 := by omega
  have hi := inbN (k := b) (N := 8) hb8 (by decide)
  have hcl := clN (k := b) (by omega)
  have hik := inbN (k := k) (N := 8) hk (by decide)
  have hclk := clN (k := k) (by omega)
  obtain ⟨hkin, l, hl1, hl2, hl⟩ := hK b hb
  obtain ⟨g1, -, g3⟩ := woh_ok l (by omega)
  have hpm : pit b ≠ -1 := by rw [hp]; exact nI_ne_m1 (by omega)
  have hpla := hD b hb8 hpm
  -- the last stage
  have last : ∀ (wea2 : Nat → UInt32), (wea2 b).toNat ≤ 1317011456 → ((wea2 b).toNat < 1065353216 → Jv B crowd bus ans lim cmp sof kin lou pit pla cas hrs nws hat wea2 n w ln) → Jv B crowd bus ans lim cmp sof kin lou (upd pit b (-1)) pla cas hrs nws hat wea2 n w ln → ∃ res, (∀ row, f_X3_playHour_c118 crowd lim kin lou row (nI k) (nI b) t cmp sof hrs hat wea2 = some (res, cmp, sof, upd hrs b (hrs b + 1), hat, wea2)) ∧ Jv B crowd bus ans lim cmp sof kin lou (if res = 0 then pit else upd pit b (-1)) pla cas (upd hrs b (hrs b + 1)) nws hat wea2 n w ln := by
    intro wea2 hw9 h2 h3
    have hlt := fcmp_lt0 (x := wea2 b) (y := FP.fconst1) (by omega) (by decide) .l
    rw [fc1] at hlt
    by_cases hs : Op.cmpValue (FP.fcmp (wea2 b) FP.fconst1) .l < 0
    · have h2 := h2 (hlt.mp hs)
      rcases ht with rfl | rfl
      · refine ⟨0, fun row => ?_, ?_⟩
        · simp only [f_X3_playHour_c118, f_X3_isSnapped, hi, hcl, hs, ob_s, og_t, i10, i20, i30, im0, if_true, if_false, eq_self]
        · rw [if_pos rfl]; exact T_hrs h2 hb _
      · by_cases h9 : cmp k < 3
        · refine ⟨0, fun row => ?_, ?_⟩
          · simp only [f_X3_playHour_c118, f_X3_isSnapped, hi, hcl, hs, hik, hclk, h9, ob_s, og_t, i10, i20, i30, im0, if_true, if_false, eq_self]
          · rw [if_pos rfl]; exact T_hrs h2 hb _
        · refine ⟨1, fun row => ?_, ?_⟩
          · simp only [f_X3_playHour_c118, f_X3_isSnapped, hi, hcl, hs, hik, hclk, h9, ob_s, og_t, i10, i20, i30, im0, if_true, if_false, eq_self]
          · rw [if_neg n10]; exact T_hrs h3 hb _
    · refine ⟨1, fun row => ?_, ?_⟩
      · simp only [f_X3_playHour_c118, f_X3_isSnapped, hi, hcl, hs, ob_s, og_t, i10, i20, i30, im0, if_true, if_false, eq_self]
      · rw [if_neg n10]; exact T_hrs h3 hb _
  have hw := (hF b hb8).2
  have hH := T_home h hb8
  rcases hkin with hk0 | hk1
  · have hs := fadd_sat (h := wea b) (t := FP.fmul 1028443341 (FP.i2f (nI l))) hw (by omega)
    obtain ⟨res, e1, e3⟩ := last (vf_upd wea b (FP.fadd (wea b) (FP.fmul 1028443341 (FP.i2f (nI l))))) (by rw [vupd_eq]; exact hs) (fun q => T_wear h hb hs hk0 (fun _ => by rw [vupd_eq] at q; exact q)) (T_wear hH hb hs hk0 (fun q => by
      rcases q with q | q
      · rw [upd_eq] at q; exact absurd rfl q
      · exact absurd hpla q))
    refine ⟨res, _, fun row => ?_, e3⟩
    rw [← e1 row]
    simp only [f_X3_playHour_c91, f_X3_wearOfHour, hi, hcl, hk0, hl, g1, n32_lt (show (FP.fadd (wea b) (FP.fmul 1028443341 (FP.i2f (nI l)))).toNat < 2139095040 by omega), ob_s, og_t, i10, i20, i30, im0, if_true, if_false, eq_self]
  · obtain ⟨res, e1, e3⟩ := last wea hw (fun _ => h) hH
    refine ⟨res, _, fun row => ?_, e3⟩
    rw [← e1 row]
    simp only [f_X3_playHour_c91, hi, hcl, hk1, ob_s, og_t, i10, i20, i30, im0, if_true, if_false, eq_self]
theorem play_eq (h : Jv B crowd bus ans lim cmp sof kin lou pit pla cas hrs nws hat wea n w ln) {k b : Nat} (hk : k < 8) (hb : b < n) (hp : pit b = nI k) {v : UInt32} (hv : v.toNat ≤ 1125122048) {B' : Nat → Nat} (hB1 : B k + 1 ≤ B' k) (hB : ∀ i, i < 8 → B i ≤ B' i) : ∃ res cmp' sof' hat' wea', (∀ row, f_X3_noiseByRow row (nI k) = some v → f_X3_playHour crowd lim cmp sof kin lou hrs hat wea row (nI k) (nI b) = some (res, cmp', sof', upd hrs b (hrs b + 1), hat', wea')) ∧ Jv B' crowd bus ans lim cmp' sof' kin lou (if res = 0 then pit else upd pit b (-1)) pla cas (upd hrs b (hrs b + 1)) nws hat' wea' n w ln := by
  obtain ⟨hA, hc, hL, hO, hS, hK, hF, hI, hJ, hG, hGj, hE, hN, hD, hY, hZ⟩ := id h
  have hn8 := hA.2
  have hb8 : b < 8 := by omega
  have hi := inbN (k := b) (N := 8) hb8 (by decide)
  have hcl := clN (k := b) (by omega)
  have hik := inbN (k := k) (N := 8) hk (by decide)
  have hclk := clN (k := k) (by omega)
  obtain ⟨-, l, hl1, hl2, hl⟩ := hK b hb
  obtain ⟨cc, dd, hcc9, hcd, hdB, hcc, hdd⟩ := hO k hk
  by_cases hq : Op.cmpValue (FP.fcmp v (lim k)) .l ≤ 0
  · obtain ⟨c, hc9, hcr⟩ := hc
    obtain ⟨t1, t2, t3⟩ := tk_ok c (by omega) l (by omega)
    obtain ⟨d1, d2, d3⟩ := den_ok cc (by omega)
    have hd := tak_le t3 d2 d3
    have hs := fadd_sat (h := hat b) (hF b hb8).1 hd
    have hh := (hF b hb8).1
    have g4 := n32_lt (v := FP.fdiv (FP.fmul (FP.fmul 1036831949 (FP.i2f (nI c))) (FP.i2f (nI l))) (FP.fadd FP.fconst1 (FP.i2f (nI cc)))) (by omega)
    have g5 := n32_lt (v := FP.fadd (hat b) (FP.fdiv (FP.fmul (FP.fmul 1036831949 (FP.i2f (nI c))) (FP.i2f (nI l))) (FP.fadd FP.fconst1 (FP.i2f (nI cc))))) (by omega)
    obtain ⟨res, wea', e1, e3⟩ := tail_eq (T_B (T_hat h hb hs) hB) hk hb hp (t := 0) (Or.inl rfl)
    refine ⟨res, cmp, sof, _, wea', fun row hrow => ?_, e3⟩
    rw [← e1 row]
    simp only [f_X3_playHour, f_X3_playHour_c20, f_X3_playHour_c40, f_X3_playHour_c41, f_X3_playHour_c68, f_X3_takings, hrow, hi, hcl, hik, hclk, hq, hcr, hl, hcc, t1, t2, d1, g4, g5, ob_s, og_t, i10, i20, i30, im0, if_true, if_false, eq_self]
  · by_cases h99 : (99 : Int32) ≤ cmp k
    · obtain ⟨res, wea', e1, e3⟩ := tail_eq (T_B h hB) hk hb hp (t := 0) (Or.inl rfl)
      refine ⟨res, cmp, sof, hat, wea', fun row hrow => ?_, e3⟩
      rw [← e1 row]
      simp only [f_X3_playHour, f_X3_playHour_c20, f_X3_playHour_c40, f_X3_playHour_c41, f_X3_playHour_c68, hrow, hik, hclk, hq, h99, ob_s, og_t, i10, i20, i30, im0, if_true, if_false, eq_self]
    · have hc98 : cc < 99 := by
        refine Nat.lt_of_not_le fun q => h99 ?_
        rw [hcc]
        exact nI_le (a := 99) q (by omega)
      have hT := T_complain h hk hc98 hcc hdd hcd (B' := B') (by omega) hB
      obtain ⟨res, wea', e1, e3⟩ := tail_eq hT hk hb hp (t := 1) (Or.inr rfl)
      refine ⟨res, _, _, hat, wea', fun row hrow => ?_, e3⟩
      rw [← e1 row]
      simp only [f_X3_playHour, f_X3_playHour_c20, f_X3_playHour_c41, f_X3_playHour_c68, hrow, hik, hclk, hq, h99, hcc, ob_s, og_t, i10, i20, i30, im0, if_true, if_false, eq_self]
      rw [if_neg (show ¬ (99 : Int32) ≤ nI cc by rw [← hcc]; exact h99)]
end PLAY
