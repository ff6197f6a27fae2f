/-! texts: what both sides carry out -/
theorem q97_99 : ((97 : Int32) = 99) = False := by decide
theorem q97_100 : ((97 : Int32) = 100) = False := by decide
theorem q97_112 : ((97 : Int32) = 112) = False := by decide
theorem q97_115 : ((97 : Int32) = 115) = False := by decide
theorem q97_119 : ((97 : Int32) = 119) = False := by decide
theorem q97_120 : ((97 : Int32) = 120) = False := by decide
theorem q99_97 : ((99 : Int32) = 97) = False := by decide
theorem q99_100 : ((99 : Int32) = 100) = False := by decide
theorem q99_112 : ((99 : Int32) = 112) = False := by decide
theorem q99_115 : ((99 : Int32) = 115) = False := by decide
theorem q99_119 : ((99 : Int32) = 119) = False := by decide
theorem q99_120 : ((99 : Int32) = 120) = False := by decide
theorem q100_97 : ((100 : Int32) = 97) = False := by decide
theorem q100_99 : ((100 : Int32) = 99) = False := by decide
theorem q100_112 : ((100 : Int32) = 112) = False := by decide
theorem q100_115 : ((100 : Int32) = 115) = False := by decide
theorem q100_119 : ((100 : Int32) = 119) = False := by decide
theorem q100_120 : ((100 : Int32) = 120) = False := by decide
theorem q112_97 : ((112 : Int32) = 97) = False := by decide
theorem q112_99 : ((112 : Int32) = 99) = False := by decide
theorem q112_100 : ((112 : Int32) = 100) = False := by decide
theorem q112_115 : ((112 : Int32) = 115) = False := by decide
theorem q112_119 : ((112 : Int32) = 119) = False := by decide
theorem q112_120 : ((112 : Int32) = 120) = False := by decide
theorem q115_97 : ((115 : Int32) = 97) = False := by decide
theorem q115_99 : ((115 : Int32) = 99) = False := by decide
theorem q115_100 : ((115 : Int32) = 100) = False := by decide
theorem q115_112 : ((115 : Int32) = 112) = False := by decide
theorem q115_119 : ((115 : Int32) = 119) = False := by decide
theorem q115_120 : ((115 : Int32) = 120) = False := by decide
theorem q119_97 : ((119 : Int32) = 97) = False := by decide
theorem q119_99 : ((119 : Int32) = 99) = False := by decide
theorem q119_100 : ((119 : Int32) = 100) = False := by decide
theorem q119_112 : ((119 : Int32) = 112) = False := by decide
theorem q119_115 : ((119 : Int32) = 115) = False := by decide
theorem q119_120 : ((119 : Int32) = 120) = False := by decide
theorem q120_97 : ((120 : Int32) = 97) = False := by decide
theorem q120_99 : ((120 : Int32) = 99) = False := by decide
theorem q120_100 : ((120 : Int32) = 100) = False := by decide
theorem q120_112 : ((120 : Int32) = 112) = False := by decide
theorem q120_115 : ((120 : Int32) = 115) = False := by decide
theorem q120_119 : ((120 : Int32) = 119) = False := by decide
section RUN
variable {L : Nat} {sig inp : Nat → Int32}
theorem as_assoc (a b c : Int32) : a + (b - c) = a + b - c := by
  rw [Int32.sub_eq_add_neg, Int32.sub_eq_add_neg, Int32.add_assoc]
theorem numIn1 (hL : L ≤ 60) (hs : ∀ i, i < L → sig i = inp i ∧ isC (sig i) = true) {a : Nat} (ha : a < L) : f_X2_numberIn (nI L) sig (nI a) (nI (a + 1)) = some (10 * 0 + inp a - 48) := by
  unfold f_X2_numberIn
  rw [show (4096 : Nat) = 4094 + 1 + 1 from rfl]
  unfold f_X2_numberIn_c5
  rw [if_neg (nI_ge (by omega) (by omega)), signAt_n hL hs ha, ob_s, nI_1, as_assoc]
  unfold f_X2_numberIn_c5
  rw [if_pos (nI_le (by omega) (by omega))]
theorem numIn2 (hL : L ≤ 60) (hs : ∀ i, i < L → sig i = inp i ∧ isC (sig i) = true) {a : Nat} (ha : a + 1 < L) : f_X2_numberIn (nI L) sig (nI a) (nI (a + 2)) = some (10 * (10 * 0 + inp a - 48) + inp (a + 1) - 48) := by
  unfold f_X2_numberIn
  rw [show (4096 : Nat) = 4093 + 1 + 1 + 1 from rfl]
  unfold f_X2_numberIn_c5
  rw [if_neg (nI_ge (by omega) (by omega)), signAt_n hL hs (by omega), ob_s, nI_1, as_assoc]
  unfold f_X2_numberIn_c5
  rw [if_neg (nI_ge (by omega) (by omega)), signAt_n hL hs ha, ob_s, nI_1, as_assoc]
  unfold f_X2_numberIn_c5
  rw [if_pos (nI_le (by omega) (by omega))]
theorem dig_semi {c : Int32} (h : digC c) : ¬ c = 59 := fun e => by
  rw [e] at h
  exact absurd h.2 (by decide)
theorem ord_semi {i j : Nat} {cmd t1 t2 : Int32} (hO : Ord L inp i j cmd t1 t2) : ∀ p, i ≤ p → p < j → ¬ inp p = 59 := by
  obtain ⟨-, hc, hO⟩ := hO
  intro p h1 h2
  rcases hO with ⟨k, rfl, d1, -⟩ | ⟨k, d1, ⟨rfl, -⟩ | ⟨rfl, d2, -⟩⟩ | ⟨k, d1, -, hh, d3, ⟨rfl, -⟩ | ⟨rfl, d4, -⟩⟩
  · rcases (show p = i ∨ p = i + 1 by omega) with rfl | rfl
    · rw [hc]; rcases k with rfl | rfl | rfl | rfl <;> decide
    · exact dig_semi d1
  · rcases (show p = i ∨ p = i + 1 by omega) with rfl | rfl
    · rw [hc]; rcases k with rfl | rfl <;> decide
    · exact dig_semi d1
  · rcases (show p = i ∨ p = i + 1 ∨ p = i + 2 by omega) with rfl | rfl | rfl
    · rw [hc]; rcases k with rfl | rfl <;> decide
    · exact dig_semi d1
    · exact dig_semi d2
  · rcases (show p = i ∨ p = i + 1 ∨ p = i + 2 ∨ p = i + 3 by omega) with rfl | rfl | rfl | rfl
    · rw [hc, k]; decide
    · exact dig_semi d1
    · rw [hh]; decide
    · exact dig_semi d3
  · rcases (show p = i ∨ p = i + 1 ∨ p = i + 2 ∨ p = i + 3 ∨ p = i + 4 by omega) with rfl | rfl | rfl | rfl | rfl
    · rw [hc, k]; decide
    · exact dig_semi d1
    · rw [hh]; decide
    · exact dig_semi d3
    · exact dig_semi d4
theorem ord_num (hL : L ≤ 60) (hs : ∀ i, i < L → sig i = inp i ∧ isC (sig i) = true) {i j : Nat} {cmd t1 t2 : Int32} (hO : Ord L inp i j cmd t1 t2) (hn : ¬ cmd = 100) : f_X2_numberIn (nI L) sig (nI (i + 1)) (nI j) = some t1 := by
  obtain ⟨hj, hc, hO⟩ := hO
  rcases hO with ⟨k, rfl, d1, rfl⟩ | ⟨k, d1, ⟨rfl, rfl⟩ | ⟨rfl, d2, rfl⟩⟩ | ⟨k, -⟩
  · exact numIn1 hL hs (a := i + 1) (by omega)
  · exact numIn1 hL hs (a := i + 1) (by omega)
  · exact numIn2 hL hs (a := i + 1) (by omega)
  · exact absurd k hn
theorem ord_num2 (hL : L ≤ 60) (hs : ∀ i, i < L → sig i = inp i ∧ isC (sig i) = true) {i j : Nat} {t1 t2 : Int32} (hO : Ord L inp i j 100 t1 t2) : f_X2_numberIn (nI L) sig (nI (i + 1)) (nI (i + 2)) = some t1 ∧ f_X2_numberIn (nI L) sig (nI (i + 3)) (nI j) = some t2 := by
  obtain ⟨hj, hc, hO⟩ := hO
  rcases hO with ⟨k, -⟩ | ⟨k, -⟩ | ⟨k, d1, rfl, hh, d3, ⟨rfl, rfl⟩ | ⟨rfl, d4, rfl⟩⟩
  · rcases k with h | h | h | h <;> exact absurd h (by decide)
  · rcases k with h | h <;> exact absurd h (by decide)
  · exact ⟨numIn1 hL hs (a := i + 1) (by omega), numIn1 hL hs (a := i + 3) (by omega)⟩
  · exact ⟨numIn1 hL hs (a := i + 1) (by omega), numIn2 hL hs (a := i + 3) (by omega)⟩
theorem ord_cmd {i j : Nat} {cmd t1 t2 : Int32} (hO : Ord L inp i j cmd t1 t2) : cmd = 119 ∨ cmd = 120 ∨ cmd = 115 ∨ cmd = 97 ∨ cmd = 99 ∨ cmd = 112 ∨ cmd = 100 := by
  obtain ⟨-, -, hO⟩ := hO
  rcases hO with ⟨k | k | k | k, -⟩ | ⟨k | k, -⟩ | ⟨k, -⟩
  · exact Or.inl k
  · exact Or.inr (Or.inl k)
  · exact Or.inr (Or.inr (Or.inl k))
  · exact Or.inr (Or.inr (Or.inr (Or.inl k)))
  · exact Or.inr (Or.inr (Or.inr (Or.inr (Or.inl k))))
  · exact Or.inr (Or.inr (Or.inr (Or.inr (Or.inr (Or.inl k)))))
  · exact Or.inr (Or.inr (Or.inr (Or.inr (Or.inr (Or.inr k)))))
theorem exec_eq (hL : L ≤ 60) (hs : ∀ i, i < L → sig i = inp i ∧ isC (sig i) = true) {i j : Nat} {cmd t1 t2 : Int32} (hO : Ord L inp i j cmd t1 t2) (hij : i < j) {x : SV} {r : Nat → Int32} (hR : RE x r) (re de : Int32) (noi : Nat → UInt32) {t2' : Int32} (ht : cmd = 100 → t2' = t2) :
    ∃ hd re' de' x', f_X4_carryOutOrder re de x (nI L) sig (nI i) (nI j) = some (hd, re', de', x') ∧ ∃ rc thr' r' noi', (∀ (thr kept : Int32) (hst : Nat → Nat → Int32), f_X5_carryOut thr kept re de 1 cmd t1 t2' r hst noi = some (rc, thr', kept, re', de', r', hst, noi')) ∧ ((hd = 0 ∧ thr' = 0 ∧ ¬ 0 = rc ∧ RE x' r') ∨ (hd = 3 ∧ ¬ thr' = 0 ∧ thr' = rc) ∨ ((hd = 1 ∨ hd = 2) ∧ ¬ thr' = 0 ∧ ¬ thr' = rc)) := by
  obtain ⟨n, w, ln, hR⟩ := hR
  have hjL := hO.1
  have hsg := signAt_n hL hs (i := i) (by omega)
  rw [hO.2.1] at hsg
  have hcm := ord_cmd hO
  by_cases h100 : cmd = 100
  · subst h100
    obtain ⟨hn1, hn2⟩ := ord_num2 hL hs hO
    have ht := ht rfl
    subst ht
    have e1 : nI i + 2 = nI (i + 2) := nI_add i 2
    have e3 : nI i + 3 = nI (i + 3) := nI_add i 3
    rcases J_draw hR re de t1 t2' with ⟨h1, ret, drw', pit', pla', r', w', ln', h2, h3, h4⟩ | ⟨hd, t, re', de', h1, hcd, h4⟩
    · refine ⟨0, re, de, s_pla (s_pit (s_draws x drw') pit') pla', ?_, 3, 0, r', noi, fun thr kept hst => ?_, Or.inl ⟨rfl, rfl, by decide, ⟨_, _, _, h3⟩⟩⟩
      · simp only [f_X4_carryOutOrder, f_X4_tryDraw, hsg, nI_1, e1, e3, hn1, hn2, h1, h2, ob_n, og_n, fails0n, fails1n, refuse0n, refuse1n, os_ln, os_rn, tf0, tf1, tf2, tf3, i10, i20, i30, im0, e12, e13, e14, e15, e16, e21, e23, e24, e31, e32, e41, e42, e51, e61, if_true, if_false, eq_self, tc0, q97_99, q97_100, q97_112, q97_115, q97_119, q97_120, q99_97, q99_100, q99_112, q99_115, q99_119, q99_120, q100_97, q100_99, q100_112, q100_115, q100_119, q100_120, q112_97, q112_99, q112_100, q112_115, q112_119, q112_120, q115_97, q115_99, q115_100, q115_112, q115_119, q115_120, q119_97, q119_99, q119_100, q119_112, q119_115, q119_120, q120_97, q120_99, q120_100, q120_112, q120_115, q120_119]
      · simp only [f_X5_carryOut, h4 _ _ _ _ _ _ (change_1 kept r hst), ob_n, og_n, fails0n, fails1n, refuse0n, refuse1n, os_ln, os_rn, tf0, tf1, tf2, tf3, i10, i20, i30, im0, e12, e13, e14, e15, e16, e21, e23, e24, e31, e32, e41, e42, e51, e61, if_true, if_false, eq_self, tc0, q97_99, q97_100, q97_112, q97_115, q97_119, q97_120, q99_97, q99_100, q99_112, q99_115, q99_119, q99_120, q100_97, q100_99, q100_112, q100_115, q100_119, q100_120, q112_97, q112_99, q112_100, q112_115, q112_119, q112_120, q115_97, q115_99, q115_100, q115_112, q115_119, q115_120, q119_97, q119_99, q119_100, q119_112, q119_115, q119_120, q120_97, q120_99, q120_100, q120_112, q120_115, q120_119]
    · refine ⟨hd, re', de', x, ?_, 3, t, r, noi, fun thr kept hst => ?_, ?_⟩
      · rcases hcd with ⟨rfl, rfl⟩ | ⟨rfl, rfl⟩ | ⟨rfl, rfl⟩
        · simp only [f_X4_carryOutOrder, f_X4_tryDraw, hsg, nI_1, e1, e3, hn1, hn2, h1, ob_n, og_n, fails0n, fails1n, refuse0n, refuse1n, os_ln, os_rn, tf0, tf1, tf2, tf3, i10, i20, i30, im0, e12, e13, e14, e15, e16, e21, e23, e24, e31, e32, e41, e42, e51, e61, if_true, if_false, eq_self, tc0, q97_99, q97_100, q97_112, q97_115, q97_119, q97_120, q99_97, q99_100, q99_112, q99_115, q99_119, q99_120, q100_97, q100_99, q100_112, q100_115, q100_119, q100_120, q112_97, q112_99, q112_100, q112_115, q112_119, q112_120, q115_97, q115_99, q115_100, q115_112, q115_119, q115_120, q119_97, q119_99, q119_100, q119_112, q119_115, q119_120, q120_97, q120_99, q120_100, q120_112, q120_115, q120_119]
        · simp only [f_X4_carryOutOrder, f_X4_tryDraw, hsg, nI_1, e1, e3, hn1, hn2, h1, ob_n, og_n, fails0n, fails1n, refuse0n, refuse1n, os_ln, os_rn, tf0, tf1, tf2, tf3, i10, i20, i30, im0, e12, e13, e14, e15, e16, e21, e23, e24, e31, e32, e41, e42, e51, e61, if_true, if_false, eq_self, tc0, q97_99, q97_100, q97_112, q97_115, q97_119, q97_120, q99_97, q99_100, q99_112, q99_115, q99_119, q99_120, q100_97, q100_99, q100_112, q100_115, q100_119, q100_120, q112_97, q112_99, q112_100, q112_115, q112_119, q112_120, q115_97, q115_99, q115_100, q115_112, q115_119, q115_120, q119_97, q119_99, q119_100, q119_112, q119_115, q119_120, q120_97, q120_99, q120_100, q120_112, q120_115, q120_119]
        · simp only [f_X4_carryOutOrder, f_X4_tryDraw, hsg, nI_1, e1, e3, hn1, hn2, h1, ob_n, og_n, fails0n, fails1n, refuse0n, refuse1n, os_ln, os_rn, tf0, tf1, tf2, tf3, i10, i20, i30, im0, e12, e13, e14, e15, e16, e21, e23, e24, e31, e32, e41, e42, e51, e61, if_true, if_false, eq_self, tc0, q97_99, q97_100, q97_112, q97_115, q97_119, q97_120, q99_97, q99_100, q99_112, q99_115, q99_119, q99_120, q100_97, q100_99, q100_112, q100_115, q100_119, q100_120, q112_97, q112_99, q112_100, q112_115, q112_119, q112_120, q115_97, q115_99, q115_100, q115_112, q115_119, q115_120, q119_97, q119_99, q119_100, q119_112, q119_115, q119_120, q120_97, q120_99, q120_100, q120_112, q120_115, q120_119]
      · simp only [f_X5_carryOut, h4, ob_n, og_n, fails0n, fails1n, refuse0n, refuse1n, os_ln, os_rn, tf0, tf1, tf2, tf3, i10, i20, i30, im0, e12, e13, e14, e15, e16, e21, e23, e24, e31, e32, e41, e42, e51, e61, if_true, if_false, eq_self, tc0, q97_99, q97_100, q97_112, q97_115, q97_119, q97_120, q99_97, q99_100, q99_112, q99_115, q99_119, q99_120, q100_97, q100_99, q100_112, q100_115, q100_119, q100_120, q112_97, q112_99, q112_100, q112_115, q112_119, q112_120, q115_97, q115_99, q115_100, q115_112, q115_119, q115_120, q119_97, q119_99, q119_100, q119_112, q119_115, q119_120, q120_97, q120_99, q120_100, q120_112, q120_115, q120_119]
      · rcases hcd with ⟨rfl, rfl⟩ | ⟨rfl, rfl⟩ | ⟨rfl, rfl⟩
        · exact Or.inr (Or.inr ⟨Or.inl rfl, by decide, by decide⟩)
        · exact Or.inr (Or.inr ⟨Or.inr rfl, by decide, by decide⟩)
        · exact Or.inr (Or.inl ⟨rfl, by decide, rfl⟩)
  have hnum := ord_num hL hs hO h100
  rcases hcm with rfl | rfl | rfl | rfl | rfl | rfl | h
  · rcases J_join hR re de t1 with ⟨h1, ret, pla', r', w', ln', h2, h3, h4⟩ | ⟨hd, t, re', de', h1, hcd, h4⟩
    · refine ⟨0, re, de, s_pla x pla', ?_, 2, 0, r', noi, fun thr kept hst => ?_, Or.inl ⟨rfl, rfl, by decide, ⟨_, _, _, h3⟩⟩⟩
      · simp only [f_X4_carryOutOrder, hsg, hnum, nI_1, f_X4_hindranceOfOrder, f_X4_doOrder, h1, h2, ob_n, og_n, fails0n, fails1n, refuse0n, refuse1n, os_ln, os_rn, tf0, tf1, tf2, tf3, i10, i20, i30, im0, e12, e13, e14, e15, e16, e21, e23, e24, e31, e32, e41, e42, e51, e61, if_true, if_false, eq_self, tc0, q97_99, q97_100, q97_112, q97_115, q97_119, q97_120, q99_97, q99_100, q99_112, q99_115, q99_119, q99_120, q100_97, q100_99, q100_112, q100_115, q100_119, q100_120, q112_97, q112_99, q112_100, q112_115, q112_119, q112_120, q115_97, q115_99, q115_100, q115_112, q115_119, q115_120, q119_97, q119_99, q119_100, q119_112, q119_115, q119_120, q120_97, q120_99, q120_100, q120_112, q120_115, q120_119]
      · simp only [f_X5_carryOut, h4 _ _ _ _ _ _ (change_1 kept r hst), ob_n, og_n, fails0n, fails1n, refuse0n, refuse1n, os_ln, os_rn, tf0, tf1, tf2, tf3, i10, i20, i30, im0, e12, e13, e14, e15, e16, e21, e23, e24, e31, e32, e41, e42, e51, e61, if_true, if_false, eq_self, tc0, q97_99, q97_100, q97_112, q97_115, q97_119, q97_120, q99_97, q99_100, q99_112, q99_115, q99_119, q99_120, q100_97, q100_99, q100_112, q100_115, q100_119, q100_120, q112_97, q112_99, q112_100, q112_115, q112_119, q112_120, q115_97, q115_99, q115_100, q115_112, q115_119, q115_120, q119_97, q119_99, q119_100, q119_112, q119_115, q119_120, q120_97, q120_99, q120_100, q120_112, q120_115, q120_119]
    · refine ⟨hd, re', de', x, ?_, 2, t, r, noi, fun thr kept hst => ?_, ?_⟩
      · rcases hcd with ⟨rfl, rfl⟩ | ⟨rfl, rfl⟩
        · simp only [f_X4_carryOutOrder, hsg, hnum, nI_1, f_X4_hindranceOfOrder, h1, ob_n, og_n, fails0n, fails1n, refuse0n, refuse1n, os_ln, os_rn, tf0, tf1, tf2, tf3, i10, i20, i30, im0, e12, e13, e14, e15, e16, e21, e23, e24, e31, e32, e41, e42, e51, e61, if_true, if_false, eq_self, tc0, q97_99, q97_100, q97_112, q97_115, q97_119, q97_120, q99_97, q99_100, q99_112, q99_115, q99_119, q99_120, q100_97, q100_99, q100_112, q100_115, q100_119, q100_120, q112_97, q112_99, q112_100, q112_115, q112_119, q112_120, q115_97, q115_99, q115_100, q115_112, q115_119, q115_120, q119_97, q119_99, q119_100, q119_112, q119_115, q119_120, q120_97, q120_99, q120_100, q120_112, q120_115, q120_119]
        · simp only [f_X4_carryOutOrder, hsg, hnum, nI_1, f_X4_hindranceOfOrder, h1, ob_n, og_n, fails0n, fails1n, refuse0n, refuse1n, os_ln, os_rn, tf0, tf1, tf2, tf3, i10, i20, i30, im0, e12, e13, e14, e15, e16, e21, e23, e24, e31, e32, e41, e42, e51, e61, if_true, if_false, eq_self, tc0, q97_99, q97_100, q97_112, q97_115, q97_119, q97_120, q99_97, q99_100, q99_112, q99_115, q99_119, q99_120, q100_97, q100_99, q100_112, q100_115, q100_119, q100_120, q112_97, q112_99, q112_100, q112_115, q112_119, q112_120, q115_97, q115_99, q115_100, q115_112, q115_119, q115_120, q119_97, q119_99, q119_100, q119_112, q119_115, q119_120, q120_97, q120_99, q120_100, q120_112, q120_115, q120_119]
      · simp only [f_X5_carryOut, h4, ob_n, og_n, fails0n, fails1n, refuse0n, refuse1n, os_ln, os_rn, tf0, tf1, tf2, tf3, i10, i20, i30, im0, e12, e13, e14, e15, e16, e21, e23, e24, e31, e32, e41, e42, e51, e61, if_true, if_false, eq_self, tc0, q97_99, q97_100, q97_112, q97_115, q97_119, q97_120, q99_97, q99_100, q99_112, q99_115, q99_119, q99_120, q100_97, q100_99, q100_112, q100_115, q100_119, q100_120, q112_97, q112_99, q112_100, q112_115, q112_119, q112_120, q115_97, q115_99, q115_100, q115_112, q115_119, q115_120, q119_97, q119_99, q119_100, q119_112, q119_115, q119_120, q120_97, q120_99, q120_100, q120_112, q120_115, q120_119]
      · rcases hcd with ⟨rfl, rfl⟩ | ⟨rfl, rfl⟩
        · exact Or.inr (Or.inr ⟨Or.inl rfl, by decide, by decide⟩)
        · exact Or.inr (Or.inl ⟨rfl, by decide, rfl⟩)
  · rcases J_leave hR re de t1 with ⟨h1, ret, pit', r', h2, h3, h4⟩ | ⟨hd, t, re', de', h1, hcd, h4⟩
    · refine ⟨0, re, de, s_pit x pit', ?_, 2, 0, r', noi, fun thr kept hst => ?_, Or.inl ⟨rfl, rfl, by decide, ⟨_, _, _, h3⟩⟩⟩
      · simp only [f_X4_carryOutOrder, hsg, hnum, nI_1, f_X4_hindranceOfOrder, f_X4_doOrder, h1, h2, ob_n, og_n, fails0n, fails1n, refuse0n, refuse1n, os_ln, os_rn, tf0, tf1, tf2, tf3, i10, i20, i30, im0, e12, e13, e14, e15, e16, e21, e23, e24, e31, e32, e41, e42, e51, e61, if_true, if_false, eq_self, tc0, q97_99, q97_100, q97_112, q97_115, q97_119, q97_120, q99_97, q99_100, q99_112, q99_115, q99_119, q99_120, q100_97, q100_99, q100_112, q100_115, q100_119, q100_120, q112_97, q112_99, q112_100, q112_115, q112_119, q112_120, q115_97, q115_99, q115_100, q115_112, q115_119, q115_120, q119_97, q119_99, q119_100, q119_112, q119_115, q119_120, q120_97, q120_99, q120_100, q120_112, q120_115, q120_119]
      · simp only [f_X5_carryOut, h4 _ _ _ _ _ _ (change_1 kept r hst), ob_n, og_n, fails0n, fails1n, refuse0n, refuse1n, os_ln, os_rn, tf0, tf1, tf2, tf3, i10, i20, i30, im0, e12, e13, e14, e15, e16, e21, e23, e24, e31, e32, e41, e42, e51, e61, if_true, if_false, eq_self, tc0, q97_99, q97_100, q97_112, q97_115, q97_119, q97_120, q99_97, q99_100, q99_112, q99_115, q99_119, q99_120, q100_97, q100_99, q100_112, q100_115, q100_119, q100_120, q112_97, q112_99, q112_100, q112_115, q112_119, q112_120, q115_97, q115_99, q115_100, q115_112, q115_119, q115_120, q119_97, q119_99, q119_100, q119_112, q119_115, q119_120, q120_97, q120_99, q120_100, q120_112, q120_115, q120_119]
    · refine ⟨hd, re', de', x, ?_, 2, t, r, noi, fun thr kept hst => ?_, ?_⟩
      · rcases hcd with ⟨rfl, rfl⟩ | ⟨rfl, rfl⟩
        · simp only [f_X4_carryOutOrder, hsg, hnum, nI_1, f_X4_hindranceOfOrder, h1, ob_n, og_n, fails0n, fails1n, refuse0n, refuse1n, os_ln, os_rn, tf0, tf1, tf2, tf3, i10, i20, i30, im0, e12, e13, e14, e15, e16, e21, e23, e24, e31, e32, e41, e42, e51, e61, if_true, if_false, eq_self, tc0, q97_99, q97_100, q97_112, q97_115, q97_119, q97_120, q99_97, q99_100, q99_112, q99_115, q99_119, q99_120, q100_97, q100_99, q100_112, q100_115, q100_119, q100_120, q112_97, q112_99, q112_100, q112_115, q112_119, q112_120, q115_97, q115_99, q115_100, q115_112, q115_119, q115_120, q119_97, q119_99, q119_100, q119_112, q119_115, q119_120, q120_97, q120_99, q120_100, q120_112, q120_115, q120_119]
        · simp only [f_X4_carryOutOrder, hsg, hnum, nI_1, f_X4_hindranceOfOrder, h1, ob_n, og_n, fails0n, fails1n, refuse0n, refuse1n, os_ln, os_rn, tf0, tf1, tf2, tf3, i10, i20, i30, im0, e12, e13, e14, e15, e16, e21, e23, e24, e31, e32, e41, e42, e51, e61, if_true, if_false, eq_self, tc0, q97_99, q97_100, q97_112, q97_115, q97_119, q97_120, q99_97, q99_100, q99_112, q99_115, q99_119, q99_120, q100_97, q100_99, q100_112, q100_115, q100_119, q100_120, q112_97, q112_99, q112_100, q112_115, q112_119, q112_120, q115_97, q115_99, q115_100, q115_112, q115_119, q115_120, q119_97, q119_99, q119_100, q119_112, q119_115, q119_120, q120_97, q120_99, q120_100, q120_112, q120_115, q120_119]
      · simp only [f_X5_carryOut, h4, ob_n, og_n, fails0n, fails1n, refuse0n, refuse1n, os_ln, os_rn, tf0, tf1, tf2, tf3, i10, i20, i30, im0, e12, e13, e14, e15, e16, e21, e23, e24, e31, e32, e41, e42, e51, e61, if_true, if_false, eq_self, tc0, q97_99, q97_100, q97_112, q97_115, q97_119, q97_120, q99_97, q99_100, q99_112, q99_115, q99_119, q99_120, q100_97, q100_99, q100_112, q100_115, q100_119, q100_120, q112_97, q112_99, q112_100, q112_115, q112_119, q112_120, q115_97, q115_99, q115_100, q115_112, q115_119, q115_120, q119_97, q119_99, q119_100, q119_112, q119_115, q119_120, q120_97, q120_99, q120_100, q120_112, q120_115, q120_119]
      · rcases hcd with ⟨rfl, rfl⟩ | ⟨rfl, rfl⟩
        · exact Or.inr (Or.inr ⟨Or.inl rfl, by decide, by decide⟩)
        · exact Or.inr (Or.inl ⟨rfl, by decide, rfl⟩)
  · rcases J_strings hR re de t1 with ⟨h1, b, ret, nws', hat', wea', r', hb, hb2, h2, h5, h3, h4⟩ | ⟨hd, t, re', de', h1, hcd, h4⟩
    · refine ⟨0, re, de, s_wea (s_hat (s_nws x nws') hat') wea', ?_, 2, 0, r', noi, fun thr kept hst => ?_, Or.inl ⟨rfl, rfl, by decide, ⟨_, _, _, h3⟩⟩⟩
      · simp only [f_X4_carryOutOrder, hsg, hnum, nI_1, f_X4_hindranceOfOrder, f_X4_doOrder, h1, h2, ob_n, og_n, fails0n, fails1n, refuse0n, refuse1n, os_ln, os_rn, tf0, tf1, tf2, tf3, i10, i20, i30, im0, e12, e13, e14, e15, e16, e21, e23, e24, e31, e32, e41, e42, e51, e61, if_true, if_false, eq_self, tc0, q97_99, q97_100, q97_112, q97_115, q97_119, q97_120, q99_97, q99_100, q99_112, q99_115, q99_119, q99_120, q100_97, q100_99, q100_112, q100_115, q100_119, q100_120, q112_97, q112_99, q112_100, q112_115, q112_119, q112_120, q115_97, q115_99, q115_100, q115_112, q115_119, q115_120, q119_97, q119_99, q119_100, q119_112, q119_115, q119_120, q120_97, q120_99, q120_100, q120_112, q120_115, q120_119]
      · simp only [f_X5_carryOut, h4 _ _ _ _ _ _ (change_1 kept r hst), ob_n, og_n, fails0n, fails1n, refuse0n, refuse1n, os_ln, os_rn, tf0, tf1, tf2, tf3, i10, i20, i30, im0, e12, e13, e14, e15, e16, e21, e23, e24, e31, e32, e41, e42, e51, e61, if_true, if_false, eq_self, tc0, q97_99, q97_100, q97_112, q97_115, q97_119, q97_120, q99_97, q99_100, q99_112, q99_115, q99_119, q99_120, q100_97, q100_99, q100_112, q100_115, q100_119, q100_120, q112_97, q112_99, q112_100, q112_115, q112_119, q112_120, q115_97, q115_99, q115_100, q115_112, q115_119, q115_120, q119_97, q119_99, q119_100, q119_112, q119_115, q119_120, q120_97, q120_99, q120_100, q120_112, q120_115, q120_119]
    · refine ⟨hd, re', de', x, ?_, 2, t, r, noi, fun thr kept hst => ?_, ?_⟩
      · rcases hcd with ⟨rfl, rfl⟩ | ⟨rfl, rfl⟩
        · simp only [f_X4_carryOutOrder, hsg, hnum, nI_1, f_X4_hindranceOfOrder, h1, ob_n, og_n, fails0n, fails1n, refuse0n, refuse1n, os_ln, os_rn, tf0, tf1, tf2, tf3, i10, i20, i30, im0, e12, e13, e14, e15, e16, e21, e23, e24, e31, e32, e41, e42, e51, e61, if_true, if_false, eq_self, tc0, q97_99, q97_100, q97_112, q97_115, q97_119, q97_120, q99_97, q99_100, q99_112, q99_115, q99_119, q99_120, q100_97, q100_99, q100_112, q100_115, q100_119, q100_120, q112_97, q112_99, q112_100, q112_115, q112_119, q112_120, q115_97, q115_99, q115_100, q115_112, q115_119, q115_120, q119_97, q119_99, q119_100, q119_112, q119_115, q119_120, q120_97, q120_99, q120_100, q120_112, q120_115, q120_119]
        · simp only [f_X4_carryOutOrder, hsg, hnum, nI_1, f_X4_hindranceOfOrder, h1, ob_n, og_n, fails0n, fails1n, refuse0n, refuse1n, os_ln, os_rn, tf0, tf1, tf2, tf3, i10, i20, i30, im0, e12, e13, e14, e15, e16, e21, e23, e24, e31, e32, e41, e42, e51, e61, if_true, if_false, eq_self, tc0, q97_99, q97_100, q97_112, q97_115, q97_119, q97_120, q99_97, q99_100, q99_112, q99_115, q99_119, q99_120, q100_97, q100_99, q100_112, q100_115, q100_119, q100_120, q112_97, q112_99, q112_100, q112_115, q112_119, q112_120, q115_97, q115_99, q115_100, q115_112, q115_119, q115_120, q119_97, q119_99, q119_100, q119_112, q119_115, q119_120, q120_97, q120_99, q120_100, q120_112, q120_115, q120_119]
      · simp only [f_X5_carryOut, h4, ob_n, og_n, fails0n, fails1n, refuse0n, refuse1n, os_ln, os_rn, tf0, tf1, tf2, tf3, i10, i20, i30, im0, e12, e13, e14, e15, e16, e21, e23, e24, e31, e32, e41, e42, e51, e61, if_true, if_false, eq_self, tc0, q97_99, q97_100, q97_112, q97_115, q97_119, q97_120, q99_97, q99_100, q99_112, q99_115, q99_119, q99_120, q100_97, q100_99, q100_112, q100_115, q100_119, q100_120, q112_97, q112_99, q112_100, q112_115, q112_119, q112_120, q115_97, q115_99, q115_100, q115_112, q115_119, q115_120, q119_97, q119_99, q119_100, q119_112, q119_115, q119_120, q120_97, q120_99, q120_100, q120_112, q120_115, q120_119]
      · rcases hcd with ⟨rfl, rfl⟩ | ⟨rfl, rfl⟩
        · exact Or.inr (Or.inr ⟨Or.inl rfl, by decide, by decide⟩)
        · exact Or.inr (Or.inl ⟨rfl, by decide, rfl⟩)
  · rcases J_answer hR re de t1 with ⟨h1, ret, ans', cmp', r', h2, h3, h4⟩ | ⟨hd, t, re', de', h1, hcd, h4⟩
    · refine ⟨0, re, de, s_cmp (s_answered x ans') cmp', ?_, 2, 0, r', noi, fun thr kept hst => ?_, Or.inl ⟨rfl, rfl, by decide, ⟨_, _, _, h3⟩⟩⟩
      · simp only [f_X4_carryOutOrder, hsg, hnum, nI_1, f_X4_hindranceOfOrder, f_X4_doOrder, h1, h2, ob_n, og_n, fails0n, fails1n, refuse0n, refuse1n, os_ln, os_rn, tf0, tf1, tf2, tf3, i10, i20, i30, im0, e12, e13, e14, e15, e16, e21, e23, e24, e31, e32, e41, e42, e51, e61, if_true, if_false, eq_self, tc0, q97_99, q97_100, q97_112, q97_115, q97_119, q97_120, q99_97, q99_100, q99_112, q99_115, q99_119, q99_120, q100_97, q100_99, q100_112, q100_115, q100_119, q100_120, q112_97, q112_99, q112_100, q112_115, q112_119, q112_120, q115_97, q115_99, q115_100, q115_112, q115_119, q115_120, q119_97, q119_99, q119_100, q119_112, q119_115, q119_120, q120_97, q120_99, q120_100, q120_112, q120_115, q120_119]
      · simp only [f_X5_carryOut, h4 _ _ _ _ _ _ (change_1 kept r hst), ob_n, og_n, fails0n, fails1n, refuse0n, refuse1n, os_ln, os_rn, tf0, tf1, tf2, tf3, i10, i20, i30, im0, e12, e13, e14, e15, e16, e21, e23, e24, e31, e32, e41, e42, e51, e61, if_true, if_false, eq_self, tc0, q97_99, q97_100, q97_112, q97_115, q97_119, q97_120, q99_97, q99_100, q99_112, q99_115, q99_119, q99_120, q100_97, q100_99, q100_112, q100_115, q100_119, q100_120, q112_97, q112_99, q112_100, q112_115, q112_119, q112_120, q115_97, q115_99, q115_100, q115_112, q115_119, q115_120, q119_97, q119_99, q119_100, q119_112, q119_115, q119_120, q120_97, q120_99, q120_100, q120_112, q120_115, q120_119]
    · refine ⟨hd, re', de', x, ?_, 2, t, r, noi, fun thr kept hst => ?_, ?_⟩
      · rcases hcd with ⟨rfl, rfl⟩ | ⟨rfl, rfl⟩
        · simp only [f_X4_carryOutOrder, hsg, hnum, nI_1, f_X4_hindranceOfOrder, h1, ob_n, og_n, fails0n, fails1n, refuse0n, refuse1n, os_ln, os_rn, tf0, tf1, tf2, tf3, i10, i20, i30, im0, e12, e13, e14, e15, e16, e21, e23, e24, e31, e32, e41, e42, e51, e61, if_true, if_false, eq_self, tc0, q97_99, q97_100, q97_112, q97_115, q97_119, q97_120, q99_97, q99_100, q99_112, q99_115, q99_119, q99_120, q100_97, q100_99, q100_112, q100_115, q100_119, q100_120, q112_97, q112_99, q112_100, q112_115, q112_119, q112_120, q115_97, q115_99, q115_100, q115_112, q115_119, q115_120, q119_97, q119_99, q119_100, q119_112, q119_115, q119_120, q120_97, q120_99, q120_100, q120_112, q120_115, q120_119]
        · simp only [f_X4_carryOutOrder, hsg, hnum, nI_1, f_X4_hindranceOfOrder, h1, ob_n, og_n, fails0n, fails1n, refuse0n, refuse1n, os_ln, os_rn, tf0, tf1, tf2, tf3, i10, i20, i30, im0, e12, e13, e14, e15, e16, e21, e23, e24, e31, e32, e41, e42, e51, e61, if_true, if_false, eq_self, tc0, q97_99, q97_100, q97_112, q97_115, q97_119, q97_120, q99_97, q99_100, q99_112, q99_115, q99_119, q99_120, q100_97, q100_99, q100_112, q100_115, q100_119, q100_120, q112_97, q112_99, q112_100, q112_115, q112_119, q112_120, q115_97, q115_99, q115_100, q115_112, q115_119, q115_120, q119_97, q119_99, q119_100, q119_112, q119_115, q119_120, q120_97, q120_99, q120_100, q120_112, q120_115, q120_119]
      · simp only [f_X5_carryOut, h4, ob_n, og_n, fails0n, fails1n, refuse0n, refuse1n, os_ln, os_rn, tf0, tf1, tf2, tf3, i10, i20, i30, im0, e12, e13, e14, e15, e16, e21, e23, e24, e31, e32, e41, e42, e51, e61, if_true, if_false, eq_self, tc0, q97_99, q97_100, q97_112, q97_115, q97_119, q97_120, q99_97, q99_100, q99_112, q99_115, q99_119, q99_120, q100_97, q100_99, q100_112, q100_115, q100_119, q100_120, q112_97, q112_99, q112_100, q112_115, q112_119, q112_120, q115_97, q115_99, q115_100, q115_112, q115_119, q115_120, q119_97, q119_99, q119_100, q119_112, q119_115, q119_120, q120_97, q120_99, q120_100, q120_112, q120_115, q120_119]
      · rcases hcd with ⟨rfl, rfl⟩ | ⟨rfl, rfl⟩
        · exact Or.inr (Or.inr ⟨Or.inl rfl, by decide, by decide⟩)
        · exact Or.inr (Or.inl ⟨rfl, by decide, rfl⟩)
  · rcases J_crowd hR t1 with ⟨h1, r', h3, h4⟩ | ⟨h1, h4⟩
    · refine ⟨0, re, de, s_crowd x t1, ?_, -1, 0, r', noi, fun thr kept hst => ?_, Or.inl ⟨rfl, rfl, by decide, ⟨_, _, _, h3⟩⟩⟩
      · simp only [f_X4_carryOutOrder, hsg, hnum, nI_1, f_X4_hindranceOfOrder, f_X4_doOrder, h1, ob_n, og_n, fails0n, fails1n, refuse0n, refuse1n, os_ln, os_rn, tf0, tf1, tf2, tf3, i10, i20, i30, im0, e12, e13, e14, e15, e16, e21, e23, e24, e31, e32, e41, e42, e51, e61, if_true, if_false, eq_self, tc0, q97_99, q97_100, q97_112, q97_115, q97_119, q97_120, q99_97, q99_100, q99_112, q99_115, q99_119, q99_120, q100_97, q100_99, q100_112, q100_115, q100_119, q100_120, q112_97, q112_99, q112_100, q112_115, q112_119, q112_120, q115_97, q115_99, q115_100, q115_112, q115_119, q115_120, q119_97, q119_99, q119_100, q119_112, q119_115, q119_120, q120_97, q120_99, q120_100, q120_112, q120_115, q120_119]
      · simp only [f_X5_carryOut, h4 _ _ _ _ _ _ (change_1 kept r hst), ob_n, og_n, fails0n, fails1n, refuse0n, refuse1n, os_ln, os_rn, tf0, tf1, tf2, tf3, i10, i20, i30, im0, e12, e13, e14, e15, e16, e21, e23, e24, e31, e32, e41, e42, e51, e61, if_true, if_false, eq_self, tc0, q97_99, q97_100, q97_112, q97_115, q97_119, q97_120, q99_97, q99_100, q99_112, q99_115, q99_119, q99_120, q100_97, q100_99, q100_112, q100_115, q100_119, q100_120, q112_97, q112_99, q112_100, q112_115, q112_119, q112_120, q115_97, q115_99, q115_100, q115_112, q115_119, q115_120, q119_97, q119_99, q119_100, q119_112, q119_115, q119_120, q120_97, q120_99, q120_100, q120_112, q120_115, q120_119]
    · refine ⟨2, re, de, x, ?_, -1, 1, r, noi, fun thr kept hst => ?_, Or.inr (Or.inr ⟨Or.inr rfl, by decide, by decide⟩)⟩
      · simp only [f_X4_carryOutOrder, hsg, hnum, nI_1, f_X4_hindranceOfOrder, h1, ob_n, og_n, fails0n, fails1n, refuse0n, refuse1n, os_ln, os_rn, tf0, tf1, tf2, tf3, i10, i20, i30, im0, e12, e13, e14, e15, e16, e21, e23, e24, e31, e32, e41, e42, e51, e61, if_true, if_false, eq_self, tc0, q97_99, q97_100, q97_112, q97_115, q97_119, q97_120, q99_97, q99_100, q99_112, q99_115, q99_119, q99_120, q100_97, q100_99, q100_112, q100_115, q100_119, q100_120, q112_97, q112_99, q112_100, q112_115, q112_119, q112_120, q115_97, q115_99, q115_100, q115_112, q115_119, q115_120, q119_97, q119_99, q119_100, q119_112, q119_115, q119_120, q120_97, q120_99, q120_100, q120_112, q120_115, q120_119]
      · simp only [f_X5_carryOut, h4, ob_n, og_n, fails0n, fails1n, refuse0n, refuse1n, os_ln, os_rn, tf0, tf1, tf2, tf3, i10, i20, i30, im0, e12, e13, e14, e15, e16, e21, e23, e24, e31, e32, e41, e42, e51, e61, if_true, if_false, eq_self, tc0, q97_99, q97_100, q97_112, q97_115, q97_119, q97_120, q99_97, q99_100, q99_112, q99_115, q99_119, q99_120, q100_97, q100_99, q100_112, q100_115, q100_119, q100_120, q112_97, q112_99, q112_100, q112_115, q112_119, q112_120, q115_97, q115_99, q115_100, q115_112, q115_119, q115_120, q119_97, q119_99, q119_100, q119_112, q119_115, q119_120, q120_97, q120_99, q120_100, q120_112, q120_115, q120_119]
  · rcases J_pass hR t1 with ⟨h1, h5⟩ | ⟨h1, h4⟩
    · obtain ⟨g, hour', cmp', sof', pit', hrs', hat', wea', row', r', noi', h2, h3, h4⟩ := h5 noi
      refine ⟨0, re, de, s_row (s_wea (s_hat (s_hrs (s_pit (s_sof (s_cmp (s_hour x hour') cmp') sof') pit') hrs') hat') wea') row', ?_, -1, 0, r', noi', fun thr kept hst => ?_, Or.inl ⟨rfl, rfl, by decide, ⟨_, _, _, h3⟩⟩⟩
      · simp only [f_X4_carryOutOrder, hsg, hnum, nI_1, f_X4_hindranceOfOrder, f_X4_doOrder, h1, h2, ob_n, og_n, fails0n, fails1n, refuse0n, refuse1n, os_ln, os_rn, tf0, tf1, tf2, tf3, i10, i20, i30, im0, e12, e13, e14, e15, e16, e21, e23, e24, e31, e32, e41, e42, e51, e61, if_true, if_false, eq_self, tc0, q97_99, q97_100, q97_112, q97_115, q97_119, q97_120, q99_97, q99_100, q99_112, q99_115, q99_119, q99_120, q100_97, q100_99, q100_112, q100_115, q100_119, q100_120, q112_97, q112_99, q112_100, q112_115, q112_119, q112_120, q115_97, q115_99, q115_100, q115_112, q115_119, q115_120, q119_97, q119_99, q119_100, q119_112, q119_115, q119_120, q120_97, q120_99, q120_100, q120_112, q120_115, q120_119]
      · simp only [f_X5_carryOut, h4 _ _ _ _ _ _ (change_1 kept r hst), ob_n, og_n, fails0n, fails1n, refuse0n, refuse1n, os_ln, os_rn, tf0, tf1, tf2, tf3, i10, i20, i30, im0, e12, e13, e14, e15, e16, e21, e23, e24, e31, e32, e41, e42, e51, e61, if_true, if_false, eq_self, tc0, q97_99, q97_100, q97_112, q97_115, q97_119, q97_120, q99_97, q99_100, q99_112, q99_115, q99_119, q99_120, q100_97, q100_99, q100_112, q100_115, q100_119, q100_120, q112_97, q112_99, q112_100, q112_115, q112_119, q112_120, q115_97, q115_99, q115_100, q115_112, q115_119, q115_120, q119_97, q119_99, q119_100, q119_112, q119_115, q119_120, q120_97, q120_99, q120_100, q120_112, q120_115, q120_119]
    · refine ⟨2, re, de, x, ?_, -1, 1, r, noi, fun thr kept hst => ?_, Or.inr (Or.inr ⟨Or.inr rfl, by decide, by decide⟩)⟩
      · simp only [f_X4_carryOutOrder, hsg, hnum, nI_1, f_X4_hindranceOfOrder, h1, ob_n, og_n, fails0n, fails1n, refuse0n, refuse1n, os_ln, os_rn, tf0, tf1, tf2, tf3, i10, i20, i30, im0, e12, e13, e14, e15, e16, e21, e23, e24, e31, e32, e41, e42, e51, e61, if_true, if_false, eq_self, tc0, q97_99, q97_100, q97_112, q97_115, q97_119, q97_120, q99_97, q99_100, q99_112, q99_115, q99_119, q99_120, q100_97, q100_99, q100_112, q100_115, q100_119, q100_120, q112_97, q112_99, q112_100, q112_115, q112_119, q112_120, q115_97, q115_99, q115_100, q115_112, q115_119, q115_120, q119_97, q119_99, q119_100, q119_112, q119_115, q119_120, q120_97, q120_99, q120_100, q120_112, q120_115, q120_119]
      · simp only [f_X5_carryOut, h4, ob_n, og_n, fails0n, fails1n, refuse0n, refuse1n, os_ln, os_rn, tf0, tf1, tf2, tf3, i10, i20, i30, im0, e12, e13, e14, e15, e16, e21, e23, e24, e31, e32, e41, e42, e51, e61, if_true, if_false, eq_self, tc0, q97_99, q97_100, q97_112, q97_115, q97_119, q97_120, q99_97, q99_100, q99_112, q99_115, q99_119, q99_120, q100_97, q100_99, q100_112, q100_115, q100_119, q100_120, q112_97, q112_99, q112_100, q112_115, q112_119, q112_120, q115_97, q115_99, q115_100, q115_112, q115_119, q115_120, q119_97, q119_99, q119_100, q119_112, q119_115, q119_120, q120_97, q120_99, q120_100, q120_112, q120_115, q120_119]
  · exact absurd h h100
theorem scan_eq (hL : L ≤ 60) (hs : ∀ i, i < L → sig i = inp i ∧ isC (sig i) = true) {i j : Nat} (hj : j ≤ L) (hno : ∀ p, i ≤ p → p < j → ¬ inp p = 59) (x1 x2 re de : Int32) (x : SV) : ∀ (m p fuel : Nat), p + m = j → i ≤ p → f_X4_carryOut_c6 (nI L) sig (fuel + m) x1 x2 (nI p) re de x = f_X4_carryOut_c6 (nI L) sig fuel x1 x2 (nI j) re de x := by
  intro m
  induction m with
  | zero =>
    intro p fuel h1 h2
    obtain rfl : p = j := by omega
    rw [Nat.add_zero]
  | succ m ih =>
    intro p fuel h1 h2
    rw [← ih (p + 1) fuel (by omega) (by omega), show fuel + (m + 1) = fuel + m + 1 by omega]
    conv => lhs; unfold f_X4_carryOut_c6
    rw [if_neg (nI_nlt (by omega) (by omega)), if_neg (nI_ge (by omega) (by omega)), signAt_n hL hs (by omega), ob_s, if_neg (hno p h2 (by omega)), nI_1]
theorem run_eq (hL : L ≤ 60) (hs : ∀ i, i < L → sig i = inp i ∧ isC (sig i) = true) {M : Nat} (hM : M < 200) (bef : Nat → Int32) (hst : Nat → Nat → Int32) (err kept : Int32) : ∀ (k i acc : Nat) (re de : Int32) (x : SV) (r : Nat → Int32) (noi : Nat → UInt32) (c0 a0 b0 x3 thr0 : Int32) (fuel1 fuel2 : Nat), acc + (k + 1) = M → Txt L inp (k + 1) i → RE x r → L + 3 - i ≤ fuel1 → k + 3 ≤ fuel2 →
    ∃ re' de' x' r' noi' cm y1 y2 at' x3' t0, f_X4_carryOut_c6 (nI L) sig fuel1 (nI acc) (nI i) (nI i) re de x = some (t0, re', de', x') ∧
    ((t0 = nI M ∧ RE x' r' ∧ f_X5_read_c71 inp fuel2 (nI M) 1 x3 (nI acc) thr0 kept re de 1 (nI L) (nI i) err 0 c0 a0 b0 r bef hst noi = f_X5_read_c135 inp (nI M) 1 x3' 0 kept re' de' 1 (nI L) at' err 0 cm y1 y2 r' bef hst noi') ∨
     (∃ hd t, t0 = -hd ∧ ((hd = 3 ∧ x3' = 1) ∨ ((hd = 1 ∨ hd = 2) ∧ x3' = 0)) ∧ f_X5_read_c71 inp fuel2 (nI M) 1 x3 (nI acc) thr0 kept re de 1 (nI L) (nI i) err 0 c0 a0 b0 r bef hst noi = f_X5_read_c135 inp (nI M) 0 x3' t kept re' de' 1 (nI L) at' err 0 cm y1 y2 r' bef hst noi')) := by
  -- one order
  have one : ∀ (k i acc j : Nat) (cmd t1 t2 : Int32) (re de : Int32) (x : SV) (r : Nat → Int32) (noi : Nat → UInt32) (c0 a0 b0 x3 thr0 : Int32) (f1 f2 : Nat), acc + (k + 1) = M → i < j → Ord L inp i j cmd t1 t2 → (∀ c0 a0 b0, ∃ t2', f_X5_readOrder (nI L) (nI i) 0 c0 a0 b0 inp = some (nI j, 0, cmd, t1, t2') ∧ (cmd = 100 → t2' = t2)) → (j = L ∨ (j < L ∧ inp j = 59)) → RE x r →
      ∃ hd re' de' x' rc thr' r' noi' y2, f_X4_carryOut_c6 (nI L) sig (f1 + 1 + (j - i)) (nI acc) (nI i) (nI i) re de x = (if hd = 0 then f_X4_carryOut_c6 (nI L) sig f1 (nI (acc + 1)) (nI (j + 1)) (nI (j + 1)) re' de' x' else some (-hd, re', de', x')) ∧
        f_X5_read_c71 inp (f2 + 1) (nI M) 1 x3 (nI acc) thr0 kept re de 1 (nI L) (nI i) err 0 c0 a0 b0 r bef hst noi = f_X5_read_c71 inp f2 (nI M) (if thr' = 0 then 1 else 0) (if thr' = rc then 1 else 0) (nI (acc + 1)) thr' kept re' de' 1 (nI L) (nI (j + 1)) err 0 cmd t1 y2 r' bef hst noi' ∧ ((hd = 0 ∧ thr' = 0 ∧ ¬ 0 = rc ∧ RE x' r') ∨ (hd = 3 ∧ ¬ thr' = 0 ∧ thr' = rc) ∨ ((hd = 1 ∨ hd = 2) ∧ ¬ thr' = 0 ∧ ¬ thr' = rc)) := by
    intro k i acc j cmd t1 t2 re de x r noi c0 a0 b0 x3 thr0 f1 f2 hacc hij hO h1 hend hR
    have hjL := hO.1
    obtain ⟨t2', g1, g2⟩ := h1 c0 a0 b0
    obtain ⟨hd, re', de', x', e1, rc, thr', r', noi', e2, e3⟩ := exec_eq hL hs hO hij hR re de noi g2
    refine ⟨hd, re', de', x', rc, thr', r', noi', t2', ?_, ?_, e3⟩
    · rw [scan_eq hL hs hjL (ord_semi hO) (nI acc) (nI i) re de x (j - i) i (f1 + 1) (by omega) (Nat.le_refl i)]
      have c44 : f_X4_carryOut_c44 (f_X4_carryOut_c6 (nI L) sig f1) (nI L) sig (nI acc) (nI i) (nI j) re de x = (if hd = 0 then f_X4_carryOut_c6 (nI L) sig f1 (nI (acc + 1)) (nI (j + 1)) (nI (j + 1)) re' de' x' else some (-hd, re', de', x')) := by
        unfold f_X4_carryOut_c44
        rw [e1, ob_s, nI_1, nI_1]
      conv => lhs; unfold f_X4_carryOut_c6
      rw [if_neg (nI_nlt hjL (by omega))]
      rcases hend with rfl | ⟨hj, hsc⟩
      · rw [if_pos (nI_le (Nat.le_refl j) (by omega))]; exact c44
      · rw [if_neg (nI_ge hj (by omega)), signAt_n hL hs hj, ob_s, if_pos hsc]; exact c44
    · conv => lhs; unfold f_X5_read_c71
      rw [if_neg (nI_ge (by omega) (by omega)), if_neg n10, g1, ob_s, e2, ob_s, nI_1]
      by_cases ht : thr' = 0
      · rw [if_pos ht, if_pos ht]
        unfold f_X5_read_c113
        rw [nI_1]
        split <;> rfl
      · rw [if_neg ht, if_neg ht]
        unfold f_X5_read_c113
        rw [nI_1]
        split <;> rfl
  -- where it stops
  have stop : ∀ (acc : Nat) (x3 thr' re de : Int32) (at_ cm y1 y2 : Int32) (r : Nat → Int32) (noi : Nat → UInt32) (f2 : Nat), f_X5_read_c71 inp (f2 + 1) (nI M) 0 x3 (nI acc) thr' kept re de 1 (nI L) at_ err 0 cm y1 y2 r bef hst noi = f_X5_read_c135 inp (nI M) 0 x3 thr' kept re de 1 (nI L) at_ err 0 cm y1 y2 r bef hst noi := by
    intro acc x3 thr' re de at_ cm y1 y2 r noi f2
    conv => lhs; unfold f_X5_read_c71
    split
    · rfl
    · rw [if_pos rfl]
  intro k
  induction k with
  | zero =>
    intro i acc re de x r noi c0 a0 b0 x3 thr0 fuel1 fuel2 hacc hT hR hf1 hf2
    obtain ⟨j, cmd, t1, t2, hij, hO, h1, hend⟩ := hT
    have hjL := hO.1
    have hjL2 : j = L := by
      rcases hend with h | ⟨-, -, h⟩
      · exact h.1
      · exact h.elim
    obtain ⟨f1, rfl⟩ : ∃ z, fuel1 = z + 1 + 1 + (j - i) := ⟨fuel1 - 2 - (j - i), by omega⟩
    obtain ⟨f2, rfl⟩ : ∃ z, fuel2 = z + 1 + 1 := ⟨fuel2 - 2, by omega⟩
    obtain ⟨hd, re', de', x', rc, thr', r', noi', y2, p1, p2, p3⟩ := one 0 i acc j cmd t1 t2 re de x r noi c0 a0 b0 x3 thr0 (f1 + 1) (f2 + 1) hacc hij hO h1 (Or.inl hjL2) hR
    rcases p3 with ⟨rfl, rfl, hrc, hR'⟩ | ⟨rfl, ht, rfl⟩ | ⟨hd', ht, hrc⟩
    · refine ⟨re', de', x', r', noi', cmd, t1, y2, nI (j + 1), 0, nI M, ?_, Or.inl ⟨rfl, hR', ?_⟩⟩
      · rw [p1, if_pos rfl]
        unfold f_X4_carryOut_c6
        rw [if_pos (nI_lt (by omega) (by omega)), hacc]
      · rw [p2, if_pos rfl, if_neg hrc]
        conv => lhs; unfold f_X5_read_c71
        rw [if_pos (nI_le (by omega) (by omega))]
    · refine ⟨re', de', x', r', noi', cmd, t1, y2, nI (j + 1), 1, -3, ?_, Or.inr ⟨3, thr', rfl, Or.inl ⟨rfl, rfl⟩, ?_⟩⟩
      · rw [p1, if_neg (by decide)]
      · rw [p2, if_neg ht, if_pos rfl]; exact stop _ _ _ _ _ _ _ _ _ _ _ _
    · refine ⟨re', de', x', r', noi', cmd, t1, y2, nI (j + 1), 0, -hd, ?_, Or.inr ⟨hd, thr', rfl, Or.inr ⟨hd', rfl⟩, ?_⟩⟩
      · rw [p1, if_neg (by rcases hd' with rfl | rfl <;> decide)]
      · rw [p2, if_neg ht, if_neg hrc]; exact stop _ _ _ _ _ _ _ _ _ _ _ _
  | succ k ih =>
    intro i acc re de x r noi c0 a0 b0 x3 thr0 fuel1 fuel2 hacc hT hR hf1 hf2
    obtain ⟨j, cmd, t1, t2, hij, hO, h1, hend⟩ := hT
    have hjL := hO.1
    obtain ⟨hjL2, hsc, hT2⟩ : j < L ∧ inp j = 59 ∧ Txt L inp (k + 1) (j + 1) := by
      rcases hend with h | h
      · omega
      · exact h
    obtain ⟨f1, rfl⟩ : ∃ z, fuel1 = z + 1 + (j - i) := ⟨fuel1 - 1 - (j - i), by omega⟩
    obtain ⟨f2, rfl⟩ : ∃ z, fuel2 = z + 1 + 1 := ⟨fuel2 - 2, by omega⟩
    obtain ⟨hd, re', de', x', rc, thr', r', noi', y2, p1, p2, p3⟩ := one (k + 1) i acc j cmd t1 t2 re de x r noi c0 a0 b0 x3 thr0 f1 (f2 + 1) hacc hij hO h1 (Or.inr ⟨hjL2, hsc⟩) hR
    rcases p3 with ⟨rfl, rfl, hrc, hR'⟩ | ⟨rfl, ht, rfl⟩ | ⟨hd', ht, hrc⟩
    · rw [if_pos rfl] at p1
      rw [if_pos rfl, if_neg hrc] at p2
      rw [p1, p2]
      exact ih (j + 1) (acc + 1) re' de' x' r' noi' cmd t1 y2 0 0 f1 (f2 + 1) (by omega) hT2 hR' (by omega) (by omega)
    · refine ⟨re', de', x', r', noi', cmd, t1, y2, nI (j + 1), 1, -3, ?_, Or.inr ⟨3, thr', rfl, Or.inl ⟨rfl, rfl⟩, ?_⟩⟩
      · rw [p1, if_neg (by decide)]
      · rw [p2, if_neg ht, if_pos rfl]; exact stop _ _ _ _ _ _ _ _ _ _ _ _
    · refine ⟨re', de', x', r', noi', cmd, t1, y2, nI (j + 1), 0, -hd, ?_, Or.inr ⟨hd, thr', rfl, Or.inr ⟨hd', rfl⟩, ?_⟩⟩
      · rw [p1, if_neg (by rcases hd' with rfl | rfl <;> decide)]
      · rw [p2, if_neg ht, if_neg hrc]; exact stop _ _ _ _ _ _ _ _ _ _ _ _
end RUN
