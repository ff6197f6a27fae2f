/-! hours, on both sides -/
theorem tk_ok : ∀ c, c < 51 → ∀ l, l < 10 → n32 (FP.fmul 1036831949 (FP.i2f (nI c))) = true ∧ n32 (FP.fmul (FP.fmul 1036831949 (FP.i2f (nI c))) (FP.i2f (nI l))) = true ∧ (FP.fmul (FP.fmul 1036831949 (FP.i2f (nI c))) (FP.i2f (nI l))).toNat ≤ 1110966272 := by decide +kernel
theorem den_ok : ∀ c, c < 101 → n32 (FP.fadd FP.fconst1 (FP.i2f (nI c))) = true ∧ 1065353216 ≤ (FP.fadd FP.fconst1 (FP.i2f (nI c))).toNat ∧ (FP.fadd FP.fconst1 (FP.i2f (nI c))).toNat < 2139095040 := by decide +kernel
theorem tak_le {x y : UInt32} (hx : x.toNat ≤ 1110966272) (hy1 : 1065353216 ≤ y.toNat) (hy2 : y.toNat < 2139095040) : (FP.fdiv x y).toNat ≤ 1110966272 := by
  refine Nat.le_trans (fdiv_le (m := x.toNat) (by omega) hy2 (by omega) ?_) hx
  refine Nat.mul_le_mul_left _ ?_
  have : U32 1065353216 = 2 ^ 149 := by decide +kernel
  rw [← this]
  exact U32_le.mpr hy1
section PLAY
variable {hour crowd bus ans drw : Int32} {lim : Nat → UInt32} {cmp sof kin lou pit pla cas hrs nws : Nat → Int32} {hat wea : Nat → UInt32} {r : Nat → Int32} {n w : Nat} {ln : Nat → Nat}
theorem tail_eq (h : Rl hour crowd bus ans drw lim cmp sof kin lou pit pla cas hrs nws hat wea r n w ln) {k b : Nat} (hk : k < 8) (hb : b < n) (row noi : Nat → UInt32) {t : Int32} (ht : t = 0 ∨ t = 1) : ∃ res hrs' wea' r', f_X3_playHour_c91 crowd lim kin lou row (nI k) (nI b) t cmp sof hrs hat wea = some (res, cmp, sof, hrs', hat, wea') ∧ f_X5_play_c132 noi (nI b) (cmp k) t (FP.i2f (lou b)) r = some (res, r') ∧ Rl hour crowd bus ans drw lim cmp sof kin lou pit pla cas hrs' nws hat wea' r' n w ln := by
  obtain ⟨hA, h0, hc, hP, hL, hC, hS, hB, hK, hF, hW, hI, hG, hE, hN, hD⟩ := id h
  have hn8 := hA.2.1
  have hb8 : b < 8 := by omega
  have hi := inbN (k := b) (N := 8) hb8 (by decide)
  have hcl := clN (k := b) (by omega)
  have hik := inbN (k := k) (N := 8) hk (by decide)
  have hclk := clN (k := k) (by omega)
  obtain ⟨hkin, l, hl1, hl2, hl⟩ := hK b hb
  obtain ⟨g1, -, g3⟩ := woh_ok l (by omega)
  -- the last stage
  have last : ∀ (wea2 : Nat → UInt32) (r2 : Nat → Int32), Rl hour crowd bus ans drw lim cmp sof kin lou pit pla cas hrs nws hat wea2 r2 n w ln → ∃ res hrs' r', f_X3_playHour_c118 crowd lim kin lou row (nI k) (nI b) t cmp sof hrs hat wea2 = some (res, cmp, sof, hrs', hat, wea2) ∧ f_X5_play_c159 noi (nI b) (cmp k) t r2 = some (res, r') ∧ Rl hour crowd bus ans drw lim cmp sof kin lou pit pla cas hrs' nws hat wea2 r' n w ln := by
    intro wea2 r2 h2
    have hB2 := h2.2.2.2.2.2.2.2.1 b hb
    have hF2 := (h2.2.2.2.2.2.2.2.2.2.1 b hb8).2
    obtain ⟨-, -, -, a3, -, -, a6, -⟩ := hB2
    have hT := T_hours h2 hb (hrs b + 1)
    have hB3 := hT.2.2.2.2.2.2.2.1 b hb
    have hsn : f_X5_isSnapped (upd r2 (40 + 8 * b + 6) (hrs b + 1)) (nI b) = some (if Op.cmpValue (FP.fcmp (wea2 b) FP.fconst1) .l < 0 then 0 else 1) := by
      unfold f_X5_isSnapped
      rw [fo3 _ hb8 hB3.2.2.2.1 (by omega), ob_s]
      split <;> rfl
    by_cases hs : Op.cmpValue (FP.fcmp (wea2 b) FP.fconst1) .l < 0
    · rcases ht with rfl | rfl
      · refine ⟨0, _, _, ?_, ?_, hT⟩
        · simp only [f_X3_playHour_c118, f_X3_isSnapped, hi, hcl, hs, ob_s, og_t, fails0, fails1, refuse0, refuse1, i10, i20, i30, im0, if_true, if_false, eq_self]
        · simp only [f_X5_play_c159, of6 _ hb8, a6, pu6 _ hb8, hsn, hs, ob_s, og_t, fails0, fails1, refuse0, refuse1, i10, i20, i30, im0, if_true, if_false, eq_self]
      · by_cases h3 : cmp k < 3
        · refine ⟨0, _, _, ?_, ?_, hT⟩
          · simp only [f_X3_playHour_c118, f_X3_isSnapped, hi, hcl, hs, hik, hclk, h3, ob_s, og_t, fails0, fails1, refuse0, refuse1, i10, i20, i30, im0, if_true, if_false, eq_self]
          · simp only [f_X5_play_c159, of6 _ hb8, a6, pu6 _ hb8, hsn, hs, h3, ob_s, og_t, fails0, fails1, refuse0, refuse1, i10, i20, i30, im0, if_true, if_false, eq_self]
        · refine ⟨1, _, _, ?_, ?_, hT⟩
          · simp only [f_X3_playHour_c118, f_X3_isSnapped, hi, hcl, hs, hik, hclk, h3, ob_s, og_t, fails0, fails1, refuse0, refuse1, i10, i20, i30, im0, if_true, if_false, eq_self]
          · simp only [f_X5_play_c159, of6 _ hb8, a6, pu6 _ hb8, hsn, hs, h3, ob_s, og_t, fails0, fails1, refuse0, refuse1, i10, i20, i30, im0, if_true, if_false, eq_self]
    · refine ⟨1, _, _, ?_, ?_, hT⟩
      · simp only [f_X3_playHour_c118, f_X3_isSnapped, hi, hcl, hs, ob_s, og_t, fails0, fails1, refuse0, refuse1, i10, i20, i30, im0, if_true, if_false, eq_self]
      · simp only [f_X5_play_c159, of6 _ hb8, a6, pu6 _ hb8, hsn, hs, ob_s, og_t, fails0, fails1, refuse0, refuse1, i10, i20, i30, im0, if_true, if_false, eq_self]
  obtain ⟨a0, -, -, a3, -⟩ := hB b hb
  have hw := (hF b hb8).2
  rcases hkin with hk0 | hk1
  · have hs := fadd_sat (h := wea b) (t := FP.fmul 1028443341 (FP.i2f (nI l))) hw (by omega)
    obtain ⟨res, hrs', r', e1, e2, e3⟩ := last _ _ (T_wear h hb hs)
    refine ⟨res, hrs', _, r', ?_, ?_, e3⟩
    · rw [← e1]
      simp only [f_X3_playHour_c91, f_X3_wearOfHour, hi, hcl, hk0, hl, g1, n32_lt (show (FP.fadd (wea b) (FP.fmul 1028443341 (FP.i2f (nI l)))).toNat < 2139095040 by omega), ob_s, og_t, fails0, fails1, refuse0, refuse1, i10, i20, i30, im0, if_true, if_false, eq_self]
    · rw [← e2]
      simp only [f_X5_play_c132, of0 _ hb8, a0, hk0, fo3 _ hb8 a3 (show (wea b).toNat < 2139095040 by omega), hl, g1, n32_lt (show (FP.fadd (wea b) (FP.fmul 1028443341 (FP.i2f (nI l)))).toNat < 2139095040 by omega), pf3 _ hb8 (show (FP.fadd (wea b) (FP.fmul 1028443341 (FP.i2f (nI l)))).toNat < 2139095040 by omega), ob_s, og_t, fails0, fails1, refuse0, refuse1, i10, i20, i30, im0, if_true, if_false, eq_self]
  · obtain ⟨res, hrs', r', e1, e2, e3⟩ := last _ _ h
    refine ⟨res, hrs', _, r', ?_, ?_, e3⟩
    · rw [← e1]
      simp only [f_X3_playHour_c91, hi, hcl, hk1, ob_s, og_t, fails0, fails1, refuse0, refuse1, i10, i20, i30, im0, if_true, if_false, eq_self]
    · rw [← e2]
      simp only [f_X5_play_c132, of0 _ hb8, a0, hk1, ob_s, og_t, fails0, fails1, refuse0, refuse1, i10, i20, i30, im0, if_true, if_false, eq_self]
theorem play_eq (h : Rl hour crowd bus ans drw lim cmp sof kin lou pit pla cas hrs nws hat wea r n w ln) {k b : Nat} (hk : k < 8) (hb : b < n) {row noi : Nat → UInt32} (hrow : f_X3_noiseByRow row (nI k) = some (noi k)) : ∃ res cmp' sof' hrs' hat' wea' r', f_X3_playHour crowd lim cmp sof kin lou hrs hat wea row (nI k) (nI b) = some (res, cmp', sof', hrs', hat', wea') ∧ f_X5_play r noi (nI k) (nI b) = some (res, r') ∧ Rl hour crowd bus ans drw lim cmp' sof' kin lou pit pla cas hrs' nws hat' wea' r' n w ln := by
  obtain ⟨hA, h0, hc, hP, hL, hC, hS, hB, hK, hF, hW, hI, hG, hE, hN, hD⟩ := id h
  have hn8 := hA.2.1
  have hb8 : b < 8 := by omega
  have hi := inbN (k := b) (N := 8) hb8 (by decide)
  have hcl := clN (k := b) (by omega)
  have hik := inbN (k := k) (N := 8) hk (by decide)
  have hclk := clN (k := k) (by omega)
  obtain ⟨-, l, hl1, hl2, hl⟩ := hK b hb
  obtain ⟨p0, p1, p2⟩ := hP k hk
  have hlim := limitOf_n r hk p0 (by have := hL k hk; omega)
  obtain ⟨a0, a1, a2, -⟩ := hB b hb
  obtain ⟨cc, hcc9, hcc⟩ := hC k hk
  by_cases hq : Op.cmpValue (FP.fcmp (noi k) (lim k)) .l ≤ 0
  · -- not too loud
    obtain ⟨c, hc9, hcr⟩ := hc
    obtain ⟨t1, t2, t3⟩ := tk_ok c (by omega) l (by omega)
    obtain ⟨d1, d2, d3⟩ := den_ok cc (by omega)
    have hd := tak_le t3 d2 d3
    have hs := fadd_sat (h := hat b) (hF b hb8).1 hd
    have hh := (hF b hb8).1
    have g4 := n32_lt (v := FP.fdiv (FP.fmul (FP.fmul 1036831949 (FP.i2f (nI c))) (FP.i2f (nI l))) (FP.fadd FP.fconst1 (FP.i2f (nI cc)))) (by omega)
    have g5 := n32_lt (v := FP.fadd (hat b) (FP.fdiv (FP.fmul (FP.fmul 1036831949 (FP.i2f (nI c))) (FP.i2f (nI l))) (FP.fadd FP.fconst1 (FP.i2f (nI cc))))) (by omega)
    obtain ⟨res, hrs', wea', r', e1, e2, e3⟩ := tail_eq (T_hat h hb hs) hk hb row noi (t := 0) (Or.inl rfl)
    refine ⟨res, cmp, sof, hrs', _, wea', r', ?_, ?_, e3⟩
    · rw [← e1]
      simp only [f_X3_playHour, f_X3_playHour_c20, f_X3_playHour_c40, f_X3_playHour_c41, f_X3_playHour_c68, f_X3_takings, hrow, hik, hclk, hq, hi, hcl, hcr, hl, hcc, t1, t2, d1, g4, g5, ob_s, og_t, fails0, fails1, refuse0, refuse1, i10, i20, i30, im0, if_true, if_false, eq_self]
    · rw [← e2]
      simp only [f_X5_play, f_X5_play_c20, f_X5_play_c44, f_X5_play_c45, f_X5_play_c87, hik, hclk, hlim, hq, ofP1 r hk, p1, of1 r hb8, a1, fo2 r hb8 a2 (show (hat b).toNat < 2139095040 by omega), ib1, tc1, h0.2.1, hcr, hl, hcc, t1, t2, d1, g4, g5, pf2 r hb8 (show (FP.fadd (hat b) (FP.fdiv (FP.fmul (FP.fmul 1036831949 (FP.i2f (nI c))) (FP.i2f (nI l))) (FP.fadd FP.fconst1 (FP.i2f (nI cc))))).toNat < 2139095040 by omega), ob_s, og_t, fails0, fails1, refuse0, refuse1, i10, i20, i30, im0, if_true, if_false, eq_self]
  · by_cases h99 : (99 : Int32) ≤ cmp k
    · obtain ⟨res, hrs', wea', r', e1, e2, e3⟩ := tail_eq h hk hb row noi (t := 0) (Or.inl rfl)
      refine ⟨res, cmp, sof, hrs', hat, wea', r', ?_, ?_, e3⟩
      · rw [← e1]
        simp only [f_X3_playHour, f_X3_playHour_c20, f_X3_playHour_c40, f_X3_playHour_c41, f_X3_playHour_c68, hrow, hik, hclk, hq, h99, ob_s, og_t, fails0, fails1, refuse0, refuse1, i10, i20, i30, im0, if_true, if_false, eq_self]
      · rw [← e2]
        simp only [f_X5_play, f_X5_play_c20, f_X5_play_c44, f_X5_play_c45, f_X5_play_c87, hik, hclk, hlim, hq, ofP1 r hk, p1, h99, of1 r hb8, a1, ob_s, og_t, fails0, fails1, refuse0, refuse1, i10, i20, i30, im0, if_true, if_false, eq_self]
    · have hc98 : cc < 99 := by
        refine Nat.lt_of_not_le fun q => h99 ?_
        rw [hcc]
        exact nI_le (a := 99) q (by omega)
      have hT := T_complain h hk hc98 hcc
      obtain ⟨res, hrs', wea', r', e1, e2, e3⟩ := tail_eq hT hk hb row noi (t := 1) (Or.inr rfl)
      refine ⟨res, _, _, hrs', hat, wea', r', ?_, ?_, e3⟩
      · rw [← e1]
        simp only [f_X3_playHour, f_X3_playHour_c20, f_X3_playHour_c41, f_X3_playHour_c68, hrow, hik, hclk, hq, h99, ob_s, og_t, fails0, fails1, refuse0, refuse1, i10, i20, i30, im0, if_true, if_false, eq_self]
      · rw [← e2]
        have u1 : upd r (8 + 4 * k + 1) (nI cc + 1) (8 + 4 * k + 2) = sof k := by rw [upd_ne _ _ (by omega)]; exact p2
        have u2 : upd (upd r (8 + 4 * k + 1) (nI cc + 1)) (8 + 4 * k + 2) (sof k + 1) 5 = sI sof 8 := by rw [upd_ne _ _ (by omega), upd_ne _ _ (by omega)]; exact hS.1
        have u3 : upd (upd (upd r (8 + 4 * k + 1) (nI cc + 1)) (8 + 4 * k + 2) (sof k + 1)) 5 (sI sof 8 + 1) (40 + 8 * b + 1) = lou b := by rw [upd_ne _ _ (by omega), upd_ne _ _ (by omega), upd_ne _ _ (by omega)]; exact a1
        have h99' : ¬ (99 : Int32) ≤ nI cc := by rw [← hcc]; exact h99
        simp only [f_X5_play, f_X5_play_c20, f_X5_play_c45, f_X5_play_c87, hik, hclk, hlim, hq, ofP1 r hk, p1, hcc, h99', puP1 r hk, ofP2 _ hk, u1, puP2 _ hk, ib5, tc5, u2, of1 _ hb8, u3, upd_eq, ob_s, og_t, fails0, fails1, refuse0, refuse1, i10, i20, i30, im0, if_true, if_false, eq_self]
end PLAY
