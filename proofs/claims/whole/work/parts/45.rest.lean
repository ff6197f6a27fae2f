/-! what is left of the law's calls but texts, on both sides -/
section REST
variable {isv te re de : Int32} {now sna : SV} {len : Int32} {sig : Nat → Int32} {nxt cnt : Int32} {rng : Nat → SV} {kept rea det misv iit mlen merr : Int32} {mnow msav : Nat → Int32} {hst : Nat → Nat → Int32} {inp : Nat → Int32}
theorem S_noiseAgain (G : GG isv te re de now sna len sig nxt cnt rng kept rea det misv iit mlen merr mnow msav hst inp) (out : Nat → Int64) (thr : Int32) (own : Nat → UInt32) (a1 : Int32) : ∃ k now' out' b own', f_L_noiseAgain now out a1 = some (k, now', out') ∧ f_X5_noiseAgain thr mnow own a1 = some (b, k, own') ∧ (k = 0 → out' 0 = b.toInt64) ∧ GG isv te re de now' sna len sig nxt cnt rng kept rea det misv iit mlen merr mnow msav hst inp := by
  obtain ⟨hisv, rfl, rfl, rfl, rfl, ⟨n, w, ln, hR⟩, hsv, hin, hH⟩ := G
  obtain ⟨hA, h0, hc, hP, hL, hC, hS, hB, hK, hF, hW, hI, hG, hE, hN, hD⟩ := id hR
  have hn8 := hA.2.1
  have hbx : g_buskers now = nI n := hA.1
  rcases pitch_cases a1 with ⟨c1, c2⟩ | ⟨k, hk, rfl, c1, c2⟩
  · refine ⟨1, now, out, 0, own, ?_, ?_, fun e => absurd e (by decide), hisv, rfl, rfl, rfl, rfl, ⟨n, w, ln, hR⟩, hsv, hin, hH⟩
    · simp only [f_L_noiseAgain, f_X4_noiseAgain, f_X4_hindranceOfPitchNumber, c1, ob_n, og_n, fails0n, fails1n, refuse0n, refuse1n, os_ln, os_rn, tf0, tf1, tf2, tf3, i10, i20, i30, im0, e12, e13, e14, e15, e16, e21, e23, e24, e31, e32, e41, e42, e51, e61, if_true, if_false, eq_self, tc0]
    · unfold f_X5_noiseAgain
      rw [c2, ob_s, if_pos rfl, fails1, ob_s, if_neg n10]
  · obtain ⟨row', l1, l2⟩ := layRow_eq hn8 hB hK hW hI hE (g_row now)
    have n3 := (noise_eq hn8 hB hK hW (nI k)).2.2.1
    have hof := ofFloat_n (x := noiF (g_kin now) (g_lou now) (g_pit now) (nI k)) (by omega)
    obtain ⟨own', e1⟩ := again_eq hn8 hB hK hW hk 0 10 4096 0 own rfl (by decide) (fun j hj => by omega)
    have e1 : f_X5_noiseAgain_c24 mnow (nI k) 4096 (-1) 0 own = some ((noiF (g_kin now) (g_lou now) (g_pit now) (nI k)).toInt32, 0, own') := e1
    refine ⟨0, s_row now row', vp_updL out 0 ((noiF (g_kin now) (g_lou now) (g_pit now) (nI k)).toInt32).toInt64, _, own', ?_, ?_, fun _ => updL0 _ _, hisv, rfl, rfl, rfl, rfl, RE_ag ⟨n, w, ln, hR⟩ (ag_row now row') (rowAg_rf _), hsv, hin, hH⟩
    · simp only [f_L_noiseAgain, f_X4_noiseAgain, f_X4_hindranceOfPitchNumber, c1, l1, byRow_eq hn8 hB hK hW l2 hk, hof, ob_n, og_n, fails0n, fails1n, refuse0n, refuse1n, os_ln, os_rn, tf0, tf1, tf2, tf3, i10, i20, i30, im0, e12, e13, e14, e15, e16, e21, e23, e24, e31, e32, e41, e42, e51, e61, if_true, if_false, eq_self, tc0]
    · unfold f_X5_noiseAgain
      rw [c2, ob_s, if_neg n10, fails0, ob_s, if_pos rfl]
      exact e1
theorem loud_eq {now : SV} {mnow : Nat → Int32} {n w : Nat} {ln : Nat → Nat} (hR : RV now mnow n w ln) (thr : Int32) : ∀ (m fuel i : Nat) (best : Int32), i + m = 8 → m < fuel → ∃ v, f_X4_loudest_c4 now fuel best (nI i) = some v ∧ f_X5_loudest_c9 mnow fuel best (nI i) thr = some (v, thr) := by
  obtain ⟨hA, h0, hc, hP, hL, hC, hS, hB, hK, hF, hW, hI, hG, hE, hN, hD⟩ := id hR
  have hn8 := hA.2.1
  intro m
  induction m with
  | zero =>
    intro fuel i best hi hf
    obtain ⟨fuel, rfl⟩ : ∃ z, fuel = z + 1 := ⟨fuel - 1, by omega⟩
    have h8 : (8 : Int32) ≤ nI i := nI_le (a := 8) (by omega) (by omega)
    refine ⟨best, ?_, ?_⟩
    · unfold f_X4_loudest_c4; rw [if_pos h8]
    · unfold f_X5_loudest_c9; rw [if_pos h8]
  | succ m ih =>
    intro fuel i best hi hf
    obtain ⟨fuel, rfl⟩ : ∃ z, fuel = z + 1 := ⟨fuel - 1, by omega⟩
    have h8 : ¬ (8 : Int32) ≤ nI i := nI_ge (b := 8) (by omega) (by decide)
    obtain ⟨n1, n2, -⟩ := noise_eq hn8 hB hK hW (nI i)
    obtain ⟨b1, b2, -⟩ := noise_eq hn8 hB hK hW best
    unfold f_X4_loudest_c4 f_X5_loudest_c9
    rw [if_neg h8, if_neg h8, n1, ob_s, b1, ob_s, n2, ob_s, b2, ob_s, nI_1]
    by_cases h : Op.cmpValue (FP.fcmp (noiF (g_kin now) (g_lou now) (g_pit now) (nI i)) (noiF (g_kin now) (g_lou now) (g_pit now) best)) .l ≤ 0
    · rw [if_pos h, if_pos h]; exact ih fuel (i + 1) _ (by omega) (by omega)
    · rw [if_neg h, if_neg h]; exact ih fuel (i + 1) _ (by omega) (by omega)
theorem S_loudest (G : GG isv te re de now sna len sig nxt cnt rng kept rea det misv iit mlen merr mnow msav hst inp) (thr : Int32) : ∃ v, f_X4_loudest now = some v ∧ f_X5_loudest thr mnow = some (v, 0) := by
  obtain ⟨hisv, rfl, rfl, rfl, rfl, ⟨n, w, ln, hR⟩, hsv, hin, hH⟩ := G
  obtain ⟨hA, h0, hc, hP, hL, hC, hS, hB, hK, hF, hW, hI, hG, hE, hN, hD⟩ := id hR
  have hn8 := hA.2.1
  have hbx : g_buskers now = nI n := hA.1
  exact loud_eq hR 0 7 4096 1 0 rfl (by decide)
theorem S_errorPosition (G : GG isv te re de now sna len sig nxt cnt rng kept rea det misv iit mlen merr mnow msav hst inp) (thr : Int32) : ∃ v, f_X4_errorPosition te = some v ∧ f_X5_errorPosition thr merr = some (v, 0) := by
  obtain ⟨hisv, rfl, rfl, rfl, rfl, ⟨n, w, ln, hR⟩, hsv, hin, hH⟩ := G
  obtain ⟨hA, h0, hc, hP, hL, hC, hS, hB, hK, hF, hW, hI, hG, hE, hN, hD⟩ := id hR
  have hn8 := hA.2.1
  have hbx : g_buskers now = nI n := hA.1
  exact ⟨_, rfl, rfl⟩
theorem S_refusal (G : GG isv te re de now sna len sig nxt cnt rng kept rea det misv iit mlen merr mnow msav hst inp) (out : Nat → Int64) (thr a1 : Int32) : ∃ k out' b, f_L_refusal re de out a1 = some (k, out') ∧ f_X5_refusal thr rea det a1 = some (b, k) ∧ (k = 0 → out' 0 = b.toInt64) := by
  obtain ⟨hisv, rfl, rfl, rfl, rfl, ⟨n, w, ln, hR⟩, hsv, hin, hH⟩ := G
  obtain ⟨hA, h0, hc, hP, hL, hC, hS, hB, hK, hF, hW, hI, hG, hE, hN, hD⟩ := id hR
  have hn8 := hA.2.1
  have hbx : g_buskers now = nI n := hA.1
  by_cases h : re = 0
  · refine ⟨1, out, 0, ?_, ?_, fun e => absurd e (by decide)⟩
    · simp only [f_L_refusal, f_X4_refusal, h, ob_n, og_n, fails0n, fails1n, refuse0n, refuse1n, os_ln, os_rn, tf0, tf1, tf2, tf3, i10, i20, i30, im0, e12, e13, e14, e15, e16, e21, e23, e24, e31, e32, e41, e42, e51, e61, if_true, if_false, eq_self, tc0]
    · simp only [f_X5_refusal, f_X5_refusal_c14, h, ob_n, og_n, fails0n, fails1n, refuse0n, refuse1n, os_ln, os_rn, tf0, tf1, tf2, tf3, i10, i20, i30, im0, e12, e13, e14, e15, e16, e21, e23, e24, e31, e32, e41, e42, e51, e61, if_true, if_false, eq_self, tc0]
  · by_cases h2 : a1 = 0
    · refine ⟨0, vp_updL out 0 re.toInt64, re, ?_, ?_, fun _ => updL0 _ _⟩
      · simp only [f_L_refusal, f_X4_refusal, h, h2, ob_n, og_n, fails0n, fails1n, refuse0n, refuse1n, os_ln, os_rn, tf0, tf1, tf2, tf3, i10, i20, i30, im0, e12, e13, e14, e15, e16, e21, e23, e24, e31, e32, e41, e42, e51, e61, if_true, if_false, eq_self, tc0]
      · simp only [f_X5_refusal, f_X5_refusal_c14, h, h2, ob_n, og_n, fails0n, fails1n, refuse0n, refuse1n, os_ln, os_rn, tf0, tf1, tf2, tf3, i10, i20, i30, im0, e12, e13, e14, e15, e16, e21, e23, e24, e31, e32, e41, e42, e51, e61, if_true, if_false, eq_self, tc0]
    · refine ⟨0, vp_updL out 0 de.toInt64, de, ?_, ?_, fun _ => updL0 _ _⟩
      · simp only [f_L_refusal, f_X4_refusal, h, h2, ob_n, og_n, fails0n, fails1n, refuse0n, refuse1n, os_ln, os_rn, tf0, tf1, tf2, tf3, i10, i20, i30, im0, e12, e13, e14, e15, e16, e21, e23, e24, e31, e32, e41, e42, e51, e61, if_true, if_false, eq_self, tc0]
      · simp only [f_X5_refusal, f_X5_refusal_c14, h, h2, ob_n, og_n, fails0n, fails1n, refuse0n, refuse1n, os_ln, os_rn, tf0, tf1, tf2, tf3, i10, i20, i30, im0, e12, e13, e14, e15, e16, e21, e23, e24, e31, e32, e41, e42, e51, e61, if_true, if_false, eq_self, tc0]
theorem S_account (G : GG isv te re de now sna len sig nxt cnt rng kept rea det misv iit mlen merr mnow msav hst inp) (out : Nat → Int64) (thr a1 : Int32) : ∃ k out' b, f_L_account now len cnt out a1 = some (k, out') ∧ f_X5_account thr kept mlen mnow a1 = some (b, k) ∧ (k = 0 → out' 0 = b.toInt64) := by
  obtain ⟨hisv, rfl, rfl, rfl, rfl, ⟨n, w, ln, hR⟩, hsv, hin, hH⟩ := G
  obtain ⟨hA, h0, hc, hP, hL, hC, hS, hB, hK, hF, hW, hI, hG, hE, hN, hD⟩ := id hR
  have hn8 := hA.2.1
  have hbx : g_buskers now = nI n := hA.1
  obtain ⟨L, hL60, rfl, rfl, hsig⟩ := hin
  have hck : cnt = kept := by
    obtain ⟨c, p, -, -, -, e1, e2, -⟩ := hH
    rw [e1, e2]
  subst hck
  have hcw : f_X3_countWaiting (g_pla now) = some (nI w) := by rw [cntWaiting, hN.2.2.2]
  have hmp := mplaying hn8 hA.2.2 hB hF hE
  have hms := msnapped hn8 hA.2.2 hB hF hE
  have hmc := mcases hn8 hA.2.2 hB hF hE
  have hhome := home_sum hn8 hE hD
  rw [hN.2.2.2] at hhome
  have hsub : nI n - nI w - nI (cn (fun b => decide (¬ g_pit now b = -1)) 8) = nI (cn (homP n (g_pit now) (g_pla now)) 8) := by
    rw [pk_sub (by omega), pk_sub (by omega)]
    congr 1
    omega
  rcases two_cases 0 14 (l := 0) (m := 14) rfl rfl (by decide) (by decide) a1 with ⟨q1, q2⟩ | ⟨q0, q1, q2⟩ | ⟨c, -, hc1, rfl, -, -, q2⟩
  · have y0 : ¬ a1 = 0 := fun e => by rw [e] at q1; exact absurd q1 (by decide)
    have y1 : ¬ a1 = 1 := fun e => by rw [e] at q1; exact absurd q1 (by decide)
    have y2 : ¬ a1 = 2 := fun e => by rw [e] at q1; exact absurd q1 (by decide)
    have y3 : ¬ a1 = 3 := fun e => by rw [e] at q1; exact absurd q1 (by decide)
    have y4 : ¬ a1 = 4 := fun e => by rw [e] at q1; exact absurd q1 (by decide)
    have y5 : ¬ a1 = 5 := fun e => by rw [e] at q1; exact absurd q1 (by decide)
    have y6 : ¬ a1 = 6 := fun e => by rw [e] at q1; exact absurd q1 (by decide)
    have y7 : ¬ a1 = 7 := fun e => by rw [e] at q1; exact absurd q1 (by decide)
    have y8 : ¬ a1 = 8 := fun e => by rw [e] at q1; exact absurd q1 (by decide)
    have y9 : ¬ a1 = 9 := fun e => by rw [e] at q1; exact absurd q1 (by decide)
    have y10 : ¬ a1 = 10 := fun e => by rw [e] at q1; exact absurd q1 (by decide)
    have y11 : ¬ a1 = 11 := fun e => by rw [e] at q1; exact absurd q1 (by decide)
    have y12 : ¬ a1 = 12 := fun e => by rw [e] at q1; exact absurd q1 (by decide)
    have y13 : ¬ a1 = 13 := fun e => by rw [e] at q1; exact absurd q1 (by decide)
    have y14 : ¬ a1 = 14 := fun e => by rw [e] at q1; exact absurd q1 (by decide)
    refine ⟨1, out, 0, ?_, ?_, fun e => absurd e (by decide)⟩
    · simp only [f_L_account, f_X4_account, y0, y1, y2, y3, y4, y5, y6, y7, y8, y9, y10, y11, y12, y13, y14, ob_n, og_n, fails0n, fails1n, refuse0n, refuse1n, os_ln, os_rn, tf0, tf1, tf2, tf3, i10, i20, i30, im0, e12, e13, e14, e15, e16, e21, e23, e24, e31, e32, e41, e42, e51, e61, if_true, if_false, eq_self, tc0]
    · simp only [f_X5_account, f_X5_account_c17, q2, ob_n, og_n, fails0n, fails1n, refuse0n, refuse1n, os_ln, os_rn, tf0, tf1, tf2, tf3, i10, i20, i30, im0, e12, e13, e14, e15, e16, e21, e23, e24, e31, e32, e41, e42, e51, e61, if_true, if_false, eq_self, tc0]
  · have y0 : ¬ a1 = 0 := fun e => by rw [e] at q1; exact q1 (by decide)
    have y1 : ¬ a1 = 1 := fun e => by rw [e] at q1; exact q1 (by decide)
    have y2 : ¬ a1 = 2 := fun e => by rw [e] at q1; exact q1 (by decide)
    have y3 : ¬ a1 = 3 := fun e => by rw [e] at q1; exact q1 (by decide)
    have y4 : ¬ a1 = 4 := fun e => by rw [e] at q1; exact q1 (by decide)
    have y5 : ¬ a1 = 5 := fun e => by rw [e] at q1; exact q1 (by decide)
    have y6 : ¬ a1 = 6 := fun e => by rw [e] at q1; exact q1 (by decide)
    have y7 : ¬ a1 = 7 := fun e => by rw [e] at q1; exact q1 (by decide)
    have y8 : ¬ a1 = 8 := fun e => by rw [e] at q1; exact q1 (by decide)
    have y9 : ¬ a1 = 9 := fun e => by rw [e] at q1; exact q1 (by decide)
    have y10 : ¬ a1 = 10 := fun e => by rw [e] at q1; exact q1 (by decide)
    have y11 : ¬ a1 = 11 := fun e => by rw [e] at q1; exact q1 (by decide)
    have y12 : ¬ a1 = 12 := fun e => by rw [e] at q1; exact q1 (by decide)
    have y13 : ¬ a1 = 13 := fun e => by rw [e] at q1; exact q1 (by decide)
    have y14 : ¬ a1 = 14 := fun e => by rw [e] at q1; exact q1 (by decide)
    refine ⟨1, out, 0, ?_, ?_, fun e => absurd e (by decide)⟩
    · simp only [f_L_account, f_X4_account, y0, y1, y2, y3, y4, y5, y6, y7, y8, y9, y10, y11, y12, y13, y14, ob_n, og_n, fails0n, fails1n, refuse0n, refuse1n, os_ln, os_rn, tf0, tf1, tf2, tf3, i10, i20, i30, im0, e12, e13, e14, e15, e16, e21, e23, e24, e31, e32, e41, e42, e51, e61, if_true, if_false, eq_self, tc0]
    · simp only [f_X5_account, f_X5_account_c17, q2, ob_n, og_n, fails0n, fails1n, refuse0n, refuse1n, os_ln, os_rn, tf0, tf1, tf2, tf3, i10, i20, i30, im0, e12, e13, e14, e15, e16, e21, e23, e24, e31, e32, e41, e42, e51, e61, if_true, if_false, eq_self, tc0]
  · rcases (show c = 0 ∨ c = 1 ∨ c = 2 ∨ c = 3 ∨ c = 4 ∨ c = 5 ∨ c = 6 ∨ c = 7 ∨ c = 8 ∨ c = 9 ∨ c = 10 ∨ c = 11 ∨ c = 12 ∨ c = 13 ∨ c = 14 by omega) with rfl | rfl | rfl | rfl | rfl | rfl | rfl | rfl | rfl | rfl | rfl | rfl | rfl | rfl | rfl
    · refine ⟨0, vp_updL out 0 (g_hour now).toInt64, g_hour now, ?_, ?_, fun _ => updL0 _ _⟩
      · show f_L_account now (nI L) cnt out 0 = _
        simp only [f_L_account, f_X4_account, ob_n, og_n, fails0n, fails1n, refuse0n, refuse1n, os_ln, os_rn, tf0, tf1, tf2, tf3, i10, i20, i30, im0, e12, e13, e14, e15, e16, e21, e23, e24, e31, e32, e41, e42, e51, e61, if_true, if_false, eq_self, tc0]
      · show f_X5_account thr cnt (nI L) mnow 0 = _
        have q2 : f_X5_isBetween 0 0 14 = some 1 := q2
        simp only [f_X5_account, f_X5_account_c17, f_X5_otherAccount, q2, ib0, tc0, h0.1, ob_n, og_n, fails0n, fails1n, refuse0n, refuse1n, os_ln, os_rn, tf0, tf1, tf2, tf3, i10, i20, i30, im0, e12, e13, e14, e15, e16, e21, e23, e24, e31, e32, e41, e42, e51, e61, if_true, if_false, eq_self, tc0]
    · refine ⟨0, vp_updL out 0 (g_crowd now).toInt64, g_crowd now, ?_, ?_, fun _ => updL0 _ _⟩
      · show f_L_account now (nI L) cnt out 1 = _
        simp only [f_L_account, f_X4_account, d1_0, ob_n, og_n, fails0n, fails1n, refuse0n, refuse1n, os_ln, os_rn, tf0, tf1, tf2, tf3, i10, i20, i30, im0, e12, e13, e14, e15, e16, e21, e23, e24, e31, e32, e41, e42, e51, e61, if_true, if_false, eq_self, tc0]
      · show f_X5_account thr cnt (nI L) mnow 1 = _
        have q2 : f_X5_isBetween 1 0 14 = some 1 := q2
        simp only [f_X5_account, f_X5_account_c17, f_X5_otherAccount, q2, ib1, tc1, h0.2.1, d1_0, ob_n, og_n, fails0n, fails1n, refuse0n, refuse1n, os_ln, os_rn, tf0, tf1, tf2, tf3, i10, i20, i30, im0, e12, e13, e14, e15, e16, e21, e23, e24, e31, e32, e41, e42, e51, e61, if_true, if_false, eq_self, tc0]
    · refine ⟨0, vp_updL out 0 (nI n).toInt64, nI n, ?_, ?_, fun _ => updL0 _ _⟩
      · show f_L_account now (nI L) cnt out 2 = _
        simp only [f_L_account, f_X4_account, hbx, d2_0, d2_1, ob_n, og_n, fails0n, fails1n, refuse0n, refuse1n, os_ln, os_rn, tf0, tf1, tf2, tf3, i10, i20, i30, im0, e12, e13, e14, e15, e16, e21, e23, e24, e31, e32, e41, e42, e51, e61, if_true, if_false, eq_self, tc0]
      · show f_X5_account thr cnt (nI L) mnow 2 = _
        have q2 : f_X5_isBetween 2 0 14 = some 1 := q2
        simp only [f_X5_account, f_X5_account_c17, f_X5_otherAccount, q2, ib2, tc2, hA.2.2, d2_0, d2_1, ob_n, og_n, fails0n, fails1n, refuse0n, refuse1n, os_ln, os_rn, tf0, tf1, tf2, tf3, i10, i20, i30, im0, e12, e13, e14, e15, e16, e21, e23, e24, e31, e32, e41, e42, e51, e61, if_true, if_false, eq_self, tc0]
    · refine ⟨0, vp_updL out 0 (nI (cn (homP n (g_pit now) (g_pla now)) 8)).toInt64, nI (cn (homP n (g_pit now) (g_pla now)) 8), ?_, ?_, fun _ => updL0 _ _⟩
      · show f_L_account now (nI L) cnt out 3 = _
        simp only [f_L_account, f_X4_account, hbx, xhome hn8, d3_0, d3_1, d3_2, ob_n, og_n, fails0n, fails1n, refuse0n, refuse1n, os_ln, os_rn, tf0, tf1, tf2, tf3, i10, i20, i30, im0, e12, e13, e14, e15, e16, e21, e23, e24, e31, e32, e41, e42, e51, e61, if_true, if_false, eq_self, tc0]
      · show f_X5_account thr cnt (nI L) mnow 3 = _
        have q2 : f_X5_isBetween 3 0 14 = some 1 := q2
        simp only [f_X5_account, f_X5_account_c17, f_X5_otherAccount, q2, ib2, ib3, tc2, tc3, hA.2.2, hN.1, hmp, hsub, d3_0, d3_1, d3_2, ob_n, og_n, fails0n, fails1n, refuse0n, refuse1n, os_ln, os_rn, tf0, tf1, tf2, tf3, i10, i20, i30, im0, e12, e13, e14, e15, e16, e21, e23, e24, e31, e32, e41, e42, e51, e61, if_true, if_false, eq_self, tc0]
    · refine ⟨0, vp_updL out 0 (nI w).toInt64, nI w, ?_, ?_, fun _ => updL0 _ _⟩
      · show f_L_account now (nI L) cnt out 4 = _
        simp only [f_L_account, f_X4_account, hcw, d4_0, d4_1, d4_2, d4_3, ob_n, og_n, fails0n, fails1n, refuse0n, refuse1n, os_ln, os_rn, tf0, tf1, tf2, tf3, i10, i20, i30, im0, e12, e13, e14, e15, e16, e21, e23, e24, e31, e32, e41, e42, e51, e61, if_true, if_false, eq_self, tc0]
      · show f_X5_account thr cnt (nI L) mnow 4 = _
        have q2 : f_X5_isBetween 4 0 14 = some 1 := q2
        simp only [f_X5_account, f_X5_account_c17, f_X5_otherAccount, q2, ib3, tc3, hN.1, d4_0, d4_1, d4_2, d4_3, ob_n, og_n, fails0n, fails1n, refuse0n, refuse1n, os_ln, os_rn, tf0, tf1, tf2, tf3, i10, i20, i30, im0, e12, e13, e14, e15, e16, e21, e23, e24, e31, e32, e41, e42, e51, e61, if_true, if_false, eq_self, tc0]
    · refine ⟨0, vp_updL out 0 (nI (cn (fun b => decide (¬ g_pit now b = -1)) 8)).toInt64, nI (cn (fun b => decide (¬ g_pit now b = -1)) 8), ?_, ?_, fun _ => updL0 _ _⟩
      · show f_L_account now (nI L) cnt out 5 = _
        simp only [f_L_account, f_X4_account, cntPlaying, d5_0, d5_1, d5_2, d5_3, d5_4, ob_n, og_n, fails0n, fails1n, refuse0n, refuse1n, os_ln, os_rn, tf0, tf1, tf2, tf3, i10, i20, i30, im0, e12, e13, e14, e15, e16, e21, e23, e24, e31, e32, e41, e42, e51, e61, if_true, if_false, eq_self, tc0]
      · show f_X5_account thr cnt (nI L) mnow 5 = _
        have q2 : f_X5_isBetween 5 0 14 = some 1 := q2
        simp only [f_X5_account, f_X5_account_c17, f_X5_otherAccount, q2, hmp, d5_0, d5_1, d5_2, d5_3, d5_4, ob_n, og_n, fails0n, fails1n, refuse0n, refuse1n, os_ln, os_rn, tf0, tf1, tf2, tf3, i10, i20, i30, im0, e12, e13, e14, e15, e16, e21, e23, e24, e31, e32, e41, e42, e51, e61, if_true, if_false, eq_self, tc0]
    · refine ⟨0, vp_updL out 0 (nI (cn (fun b => decide (¬ Op.cmpValue (FP.fcmp (g_wea now b) FP.fconst1) .l < 0)) 8)).toInt64, nI (cn (fun b => decide (¬ Op.cmpValue (FP.fcmp (g_wea now b) FP.fconst1) .l < 0)) 8), ?_, ?_, fun _ => updL0 _ _⟩
      · show f_L_account now (nI L) cnt out 6 = _
        simp only [f_L_account, f_X4_account, xsnapped, d6_0, d6_1, d6_2, d6_3, d6_4, d6_5, ob_n, og_n, fails0n, fails1n, refuse0n, refuse1n, os_ln, os_rn, tf0, tf1, tf2, tf3, i10, i20, i30, im0, e12, e13, e14, e15, e16, e21, e23, e24, e31, e32, e41, e42, e51, e61, if_true, if_false, eq_self, tc0]
      · show f_X5_account thr cnt (nI L) mnow 6 = _
        have q2 : f_X5_isBetween 6 0 14 = some 1 := q2
        simp only [f_X5_account, f_X5_account_c17, f_X5_otherAccount, q2, hms, d6_0, d6_1, d6_2, d6_3, d6_4, d6_5, ob_n, og_n, fails0n, fails1n, refuse0n, refuse1n, os_ln, os_rn, tf0, tf1, tf2, tf3, i10, i20, i30, im0, e12, e13, e14, e15, e16, e21, e23, e24, e31, e32, e41, e42, e51, e61, if_true, if_false, eq_self, tc0]
    · refine ⟨0, vp_updL out 0 (sI (g_cmp now) 8).toInt64, sI (g_cmp now) 8, ?_, ?_, fun _ => updL0 _ _⟩
      · show f_L_account now (nI L) cnt out 7 = _
        simp only [f_L_account, f_X4_account, sum8, d7_0, d7_1, d7_2, d7_3, d7_4, d7_5, d7_6, ob_n, og_n, fails0n, fails1n, refuse0n, refuse1n, os_ln, os_rn, tf0, tf1, tf2, tf3, i10, i20, i30, im0, e12, e13, e14, e15, e16, e21, e23, e24, e31, e32, e41, e42, e51, e61, if_true, if_false, eq_self, tc0]
      · show f_X5_account thr cnt (nI L) mnow 7 = _
        have q2 : f_X5_isBetween 7 0 14 = some 1 := q2
        simp only [f_X5_account, f_X5_account_c17, f_X5_otherAccount, q2, mcomplaints hP, d7_0, d7_1, d7_2, d7_3, d7_4, d7_5, d7_6, ob_n, og_n, fails0n, fails1n, refuse0n, refuse1n, os_ln, os_rn, tf0, tf1, tf2, tf3, i10, i20, i30, im0, e12, e13, e14, e15, e16, e21, e23, e24, e31, e32, e41, e42, e51, e61, if_true, if_false, eq_self, tc0]
    · refine ⟨0, vp_updL out 0 (g_answered now).toInt64, g_answered now, ?_, ?_, fun _ => updL0 _ _⟩
      · show f_L_account now (nI L) cnt out 8 = _
        simp only [f_L_account, f_X4_account, d8_0, d8_1, d8_2, d8_3, d8_4, d8_5, d8_6, d8_7, ob_n, og_n, fails0n, fails1n, refuse0n, refuse1n, os_ln, os_rn, tf0, tf1, tf2, tf3, i10, i20, i30, im0, e12, e13, e14, e15, e16, e21, e23, e24, e31, e32, e41, e42, e51, e61, if_true, if_false, eq_self, tc0]
      · show f_X5_account thr cnt (nI L) mnow 8 = _
        have q2 : f_X5_isBetween 8 0 14 = some 1 := q2
        simp only [f_X5_account, f_X5_account_c17, f_X5_otherAccount, q2, ib4, tc4, h0.2.2.1, d8_0, d8_1, d8_2, d8_3, d8_4, d8_5, d8_6, d8_7, ob_n, og_n, fails0n, fails1n, refuse0n, refuse1n, os_ln, os_rn, tf0, tf1, tf2, tf3, i10, i20, i30, im0, e12, e13, e14, e15, e16, e21, e23, e24, e31, e32, e41, e42, e51, e61, if_true, if_false, eq_self, tc0]
    · refine ⟨0, vp_updL out 0 (sI (g_sof now) 8).toInt64, sI (g_sof now) 8, ?_, ?_, fun _ => updL0 _ _⟩
      · show f_L_account now (nI L) cnt out 9 = _
        simp only [f_L_account, f_X4_account, sum8, d9_0, d9_1, d9_2, d9_3, d9_4, d9_5, d9_6, d9_7, d9_8, ob_n, og_n, fails0n, fails1n, refuse0n, refuse1n, os_ln, os_rn, tf0, tf1, tf2, tf3, i10, i20, i30, im0, e12, e13, e14, e15, e16, e21, e23, e24, e31, e32, e41, e42, e51, e61, if_true, if_false, eq_self, tc0]
      · show f_X5_account thr cnt (nI L) mnow 9 = _
        have q2 : f_X5_isBetween 9 0 14 = some 1 := q2
        simp only [f_X5_account, f_X5_account_c17, f_X5_otherAccount, q2, ib5, tc5, hS.1, d9_0, d9_1, d9_2, d9_3, d9_4, d9_5, d9_6, d9_7, d9_8, ob_n, og_n, fails0n, fails1n, refuse0n, refuse1n, os_ln, os_rn, tf0, tf1, tf2, tf3, i10, i20, i30, im0, e12, e13, e14, e15, e16, e21, e23, e24, e31, e32, e41, e42, e51, e61, if_true, if_false, eq_self, tc0]
    · refine ⟨0, vp_updL out 0 (nI (cn (fun b => decide (¬ g_cas now b = -1)) 8)).toInt64, nI (cn (fun b => decide (¬ g_cas now b = -1)) 8), ?_, ?_, fun _ => updL0 _ _⟩
      · show f_L_account now (nI L) cnt out 10 = _
        simp only [f_L_account, f_X4_account, cntCases, d10_0, d10_1, d10_2, d10_3, d10_4, d10_5, d10_6, d10_7, d10_8, d10_9, ob_n, og_n, fails0n, fails1n, refuse0n, refuse1n, os_ln, os_rn, tf0, tf1, tf2, tf3, i10, i20, i30, im0, e12, e13, e14, e15, e16, e21, e23, e24, e31, e32, e41, e42, e51, e61, if_true, if_false, eq_self, tc0]
      · show f_X5_account thr cnt (nI L) mnow 10 = _
        have q2 : f_X5_isBetween 10 0 14 = some 1 := q2
        simp only [f_X5_account, f_X5_account_c17, f_X5_otherAccount, q2, hmc, d10_0, d10_1, d10_2, d10_3, d10_4, d10_5, d10_6, d10_7, d10_8, d10_9, ob_n, og_n, fails0n, fails1n, refuse0n, refuse1n, os_ln, os_rn, tf0, tf1, tf2, tf3, i10, i20, i30, im0, e12, e13, e14, e15, e16, e21, e23, e24, e31, e32, e41, e42, e51, e61, if_true, if_false, eq_self, tc0]
    · refine ⟨0, vp_updL out 0 (sI (g_nws now) 8).toInt64, sI (g_nws now) 8, ?_, ?_, fun _ => updL0 _ _⟩
      · show f_L_account now (nI L) cnt out 11 = _
        simp only [f_L_account, f_X4_account, sum8, d11_0, d11_1, d11_2, d11_3, d11_4, d11_5, d11_6, d11_7, d11_8, d11_9, d11_10, ob_n, og_n, fails0n, fails1n, refuse0n, refuse1n, os_ln, os_rn, tf0, tf1, tf2, tf3, i10, i20, i30, im0, e12, e13, e14, e15, e16, e21, e23, e24, e31, e32, e41, e42, e51, e61, if_true, if_false, eq_self, tc0]
      · show f_X5_account thr cnt (nI L) mnow 11 = _
        have q2 : f_X5_isBetween 11 0 14 = some 1 := q2
        simp only [f_X5_account, f_X5_account_c17, f_X5_otherAccount, q2, ib6, tc6, hS.2, d11_0, d11_1, d11_2, d11_3, d11_4, d11_5, d11_6, d11_7, d11_8, d11_9, d11_10, ob_n, og_n, fails0n, fails1n, refuse0n, refuse1n, os_ln, os_rn, tf0, tf1, tf2, tf3, i10, i20, i30, im0, e12, e13, e14, e15, e16, e21, e23, e24, e31, e32, e41, e42, e51, e61, if_true, if_false, eq_self, tc0]
    · refine ⟨0, vp_updL out 0 (g_draws now).toInt64, g_draws now, ?_, ?_, fun _ => updL0 _ _⟩
      · show f_L_account now (nI L) cnt out 12 = _
        simp only [f_L_account, f_X4_account, d12_0, d12_1, d12_2, d12_3, d12_4, d12_5, d12_6, d12_7, d12_8, d12_9, d12_10, d12_11, ob_n, og_n, fails0n, fails1n, refuse0n, refuse1n, os_ln, os_rn, tf0, tf1, tf2, tf3, i10, i20, i30, im0, e12, e13, e14, e15, e16, e21, e23, e24, e31, e32, e41, e42, e51, e61, if_true, if_false, eq_self, tc0]
      · show f_X5_account thr cnt (nI L) mnow 12 = _
        have q2 : f_X5_isBetween 12 0 14 = some 1 := q2
        simp only [f_X5_account, f_X5_account_c17, f_X5_otherAccount, q2, ib7, tc7, h0.2.2.2, d12_0, d12_1, d12_2, d12_3, d12_4, d12_5, d12_6, d12_7, d12_8, d12_9, d12_10, d12_11, ob_n, og_n, fails0n, fails1n, refuse0n, refuse1n, os_ln, os_rn, tf0, tf1, tf2, tf3, i10, i20, i30, im0, e12, e13, e14, e15, e16, e21, e23, e24, e31, e32, e41, e42, e51, e61, if_true, if_false, eq_self, tc0]
    · refine ⟨0, vp_updL out 0 (nI L).toInt64, nI L, ?_, ?_, fun _ => updL0 _ _⟩
      · show f_L_account now (nI L) cnt out 13 = _
        simp only [f_L_account, f_X4_account, d13_0, d13_1, d13_2, d13_3, d13_4, d13_5, d13_6, d13_7, d13_8, d13_9, d13_10, d13_11, d13_12, ob_n, og_n, fails0n, fails1n, refuse0n, refuse1n, os_ln, os_rn, tf0, tf1, tf2, tf3, i10, i20, i30, im0, e12, e13, e14, e15, e16, e21, e23, e24, e31, e32, e41, e42, e51, e61, if_true, if_false, eq_self, tc0]
      · show f_X5_account thr cnt (nI L) mnow 13 = _
        have q2 : f_X5_isBetween 13 0 14 = some 1 := q2
        simp only [f_X5_account, f_X5_account_c17, f_X5_otherAccount, q2, d13_0, d13_1, d13_2, d13_3, d13_4, d13_5, d13_6, d13_7, d13_8, d13_9, d13_10, d13_11, d13_12, ob_n, og_n, fails0n, fails1n, refuse0n, refuse1n, os_ln, os_rn, tf0, tf1, tf2, tf3, i10, i20, i30, im0, e12, e13, e14, e15, e16, e21, e23, e24, e31, e32, e41, e42, e51, e61, if_true, if_false, eq_self, tc0]
    · refine ⟨0, vp_updL out 0 (cnt).toInt64, cnt, ?_, ?_, fun _ => updL0 _ _⟩
      · show f_L_account now (nI L) cnt out 14 = _
        simp only [f_L_account, f_X4_account, d14_0, d14_1, d14_2, d14_3, d14_4, d14_5, d14_6, d14_7, d14_8, d14_9, d14_10, d14_11, d14_12, d14_13, ob_n, og_n, fails0n, fails1n, refuse0n, refuse1n, os_ln, os_rn, tf0, tf1, tf2, tf3, i10, i20, i30, im0, e12, e13, e14, e15, e16, e21, e23, e24, e31, e32, e41, e42, e51, e61, if_true, if_false, eq_self, tc0]
      · show f_X5_account thr cnt (nI L) mnow 14 = _
        have q2 : f_X5_isBetween 14 0 14 = some 1 := q2
        simp only [f_X5_account, f_X5_account_c17, f_X5_otherAccount, q2, d14_0, d14_1, d14_2, d14_3, d14_4, d14_5, d14_6, d14_7, d14_8, d14_9, d14_10, d14_11, d14_12, d14_13, ob_n, og_n, fails0n, fails1n, refuse0n, refuse1n, os_ln, os_rn, tf0, tf1, tf2, tf3, i10, i20, i30, im0, e12, e13, e14, e15, e16, e21, e23, e24, e31, e32, e41, e42, e51, e61, if_true, if_false, eq_self, tc0]
theorem nar_c (x : Int32) : isC (vp_nar .char x) = true := by
  have h : vp_nar .char x = nI (x.toBitVec.toNat % 65536) := by
    have e : vp_nar .char x = x.toUInt32.toUInt16.toUInt32.toInt32 := rfl
    rw [e]
    apply Int32.toBitVec_inj.mp
    apply BitVec.eq_of_toNat_eq
    rw [pk_tn (by omega)]
    show x.toUInt32.toUInt16.toUInt32.toNat = _
    rw [UInt16.toNat_toUInt32, UInt32.toNat_toUInt16]
    rfl
  rw [h]
  unfold isC
  obtain ⟨h1, h2⟩ := pk_charN (q := x.toBitVec.toNat % 65536) (by omega)
  rw [decide_eq_true h1, h2]
  rfl
theorem S_append (G : GG isv te re de now sna len sig nxt cnt rng kept rea det misv iit mlen merr mnow msav hst inp) (out : Nat → Int64) (thr a1 : Int32) : ∃ k len' sig' out' b mlen' inp', f_L_append len sig out a1 = some (k, len', sig', out') ∧ f_X5_append thr mlen inp a1 = some (b, k, mlen', inp') ∧ (k = 0 → out' 0 = b.toInt64) ∧ GG isv te re de now sna len' sig' nxt cnt rng kept rea det misv iit mlen' merr mnow msav hst inp' := by
  obtain ⟨hisv, rfl, rfl, rfl, rfl, ⟨n, w, ln, hR⟩, hsv, hin, hH⟩ := G
  obtain ⟨hA, h0, hc, hP, hL, hC, hS, hB, hK, hF, hW, hI, hG, hE, hN, hD⟩ := id hR
  have hn8 := hA.2.1
  have hbx : g_buskers now = nI n := hA.1
  obtain ⟨L, hL60, rfl, rfl, hsig⟩ := hin
  by_cases h : L = 60
  · subst h
    refine ⟨1, nI 60, sig, out, 0, nI 60, inp, ?_, ?_, fun e => absurd e (by decide), hisv, rfl, rfl, rfl, rfl, ⟨n, w, ln, hR⟩, hsv, ⟨60, hL60, rfl, rfl, hsig⟩, hH⟩
    · simp only [f_L_append, f_X4_append, show (nI 60 < (60 : Int32)) = False by decide, ob_n, og_n, fails0n, fails1n, refuse0n, refuse1n, os_ln, os_rn, tf0, tf1, tf2, tf3, i10, i20, i30, im0, e12, e13, e14, e15, e16, e21, e23, e24, e31, e32, e41, e42, e51, e61, if_true, if_false, eq_self, tc0]
    · simp only [f_X5_append, f_X5_append_c16, show (nI 60 = (60 : Int32)) = True by decide, ob_n, og_n, fails0n, fails1n, refuse0n, refuse1n, os_ln, os_rn, tf0, tf1, tf2, tf3, i10, i20, i30, im0, e12, e13, e14, e15, e16, e21, e23, e24, e31, e32, e41, e42, e51, e61, if_true, if_false, eq_self, tc0]
  · have hlt : nI L < (60 : Int32) := nI_lt (b := 60) (by omega) (by decide)
    have hge : ¬ (60 : Int32) ≤ nI L := nI_ge (b := 60) (by omega) (by decide)
    have hne : ¬ nI L = (60 : Int32) := fun e => h ((nI_eq (a := L) (b := 60) (by omega) (by decide)).mp e)
    have hpos : ¬ nI L < (0 : Int32) := nI_pos (by omega)
    refine ⟨0, nI (L + 1), upd sig L (vp_nar .char a1), vp_updL out 0 (nI (L + 1)).toInt64, nI (L + 1), nI (L + 1), upd inp L (vp_nar .char a1), ?_, ?_, fun _ => updL0 _ _, hisv, rfl, rfl, rfl, rfl, ⟨n, w, ln, hR⟩, hsv, ⟨L + 1, by omega, rfl, rfl, fun i hi => ?_⟩, hH⟩
    · simp only [f_L_append, f_X4_append, f_X2_put, hlt, hge, hpos, inbN (k := L) (N := 60) (by omega) (by decide), clN (k := L) (by omega), nI_1, ob_n, og_n, fails0n, fails1n, refuse0n, refuse1n, os_ln, os_rn, tf0, tf1, tf2, tf3, i10, i20, i30, im0, e12, e13, e14, e15, e16, e21, e23, e24, e31, e32, e41, e42, e51, e61, if_true, if_false, eq_self, tc0]
    · simp only [f_X5_append, f_X5_append_c16, hne, inbN (k := L) (N := 60) (by omega) (by decide), clN (k := L) (by omega), nI_1, ob_n, og_n, fails0n, fails1n, refuse0n, refuse1n, os_ln, os_rn, tf0, tf1, tf2, tf3, i10, i20, i30, im0, e12, e13, e14, e15, e16, e21, e23, e24, e31, e32, e41, e42, e51, e61, if_true, if_false, eq_self, tc0]
    · by_cases e : i = L
      · rw [e, upd_eq, upd_eq]; exact ⟨rfl, nar_c a1⟩
      · rw [upd_ne _ _ e, upd_ne _ _ e]; exact hsig i (by omega)
theorem S_undo (G : GG isv te re de now sna len sig nxt cnt rng kept rea det misv iit mlen merr mnow msav hst inp) (out : Nat → Int64) (thr : Int32) : ∃ k now' nxt' cnt' out' b kept' mnow', f_L_undo now nxt cnt rng out = some (k, now', nxt', cnt', out') ∧ f_X5_undo thr kept mnow hst = some (b, k, kept', mnow') ∧ (k = 0 → out' 0 = b.toInt64) ∧ GG isv te re de now' sna len sig nxt' cnt' rng kept' rea det misv iit mlen merr mnow' msav hst inp := by
  obtain ⟨hisv, rfl, rfl, rfl, rfl, ⟨n, w, ln, hR⟩, hsv, hin, hH⟩ := G
  obtain ⟨hA, h0, hc, hP, hL, hC, hS, hB, hK, hF, hW, hI, hG, hE, hN, hD⟩ := id hR
  have hn8 := hA.2.1
  have hbx : g_buskers now = nI n := hA.1
  rcases undo_eq hH now mnow with ⟨rfl, rfl⟩ | ⟨c, nxt', x', r', rfl, rfl, hc8, g1, g2, g3, g4⟩
  · refine ⟨1, now, nxt, 0, out, 0, 0, mnow, ?_, ?_, fun e => absurd e (by decide), hisv, rfl, rfl, rfl, rfl, ⟨n, w, ln, hR⟩, hsv, hin, hH⟩
    · simp only [f_L_undo, f_X4_undo, show ((0 : Int32) < 0) = False by decide, ob_n, og_n, fails0n, fails1n, refuse0n, refuse1n, os_ln, os_rn, tf0, tf1, tf2, tf3, i10, i20, i30, im0, e12, e13, e14, e15, e16, e21, e23, e24, e31, e32, e41, e42, e51, e61, if_true, if_false, eq_self, tc0]
    · simp only [f_X5_undo, f_X5_undo_c14, ob_n, og_n, fails0n, fails1n, refuse0n, refuse1n, os_ln, os_rn, tf0, tf1, tf2, tf3, i10, i20, i30, im0, e12, e13, e14, e15, e16, e21, e23, e24, e31, e32, e41, e42, e51, e61, if_true, if_false, eq_self, tc0]
  · have hp : (0 : Int32) < nI (c + 1) := nI_lt (a := 0) (by omega) (by omega)
    have hne : ¬ nI (c + 1) = (0 : Int32) := nI_ne0 (by omega) (by omega)
    refine ⟨0, x', nxt', nI c, vp_updL out 0 (nI c).toInt64, nI c, nI c, r', ?_, ?_, fun _ => updL0 _ _, hisv, rfl, rfl, rfl, rfl, g3, hsv, hin, g4⟩
    · simp only [f_L_undo, f_X4_undo, hp, g1, ob_n, og_n, fails0n, fails1n, refuse0n, refuse1n, os_ln, os_rn, tf0, tf1, tf2, tf3, i10, i20, i30, im0, e12, e13, e14, e15, e16, e21, e23, e24, e31, e32, e41, e42, e51, e61, if_true, if_false, eq_self, tc0]
    · simp only [f_X5_undo, f_X5_undo_c14, hne, nI_pred, inbN (k := c) (N := 8) hc8 (by decide), clN (k := c) (by omega), g2, ob_n, og_n, fails0n, fails1n, refuse0n, refuse1n, os_ln, os_rn, tf0, tf1, tf2, tf3, i10, i20, i30, im0, e12, e13, e14, e15, e16, e21, e23, e24, e31, e32, e41, e42, e51, e61, if_true, if_false, eq_self, tc0]
theorem S_save (G : GG isv te re de now sna len sig nxt cnt rng kept rea det misv iit mlen merr mnow msav hst inp) (thr : Int32) : ∃ v isv' sna' misv' msav', f_X4_save isv now sna = some (v, isv', sna') ∧ f_X5_save thr misv mnow msav = some (v, 0, misv', msav') ∧ GG isv' te re de now sna' len sig nxt cnt rng kept rea det misv' iit mlen merr mnow msav' hst inp := by
  obtain ⟨hisv, rfl, rfl, rfl, rfl, ⟨n, w, ln, hR⟩, hsv, hin, hH⟩ := G
  obtain ⟨hA, h0, hc, hP, hL, hC, hS, hB, hK, hF, hW, hI, hG, hE, hN, hD⟩ := id hR
  have hn8 := hA.2.1
  have hbx : g_buskers now = nI n := hA.1
  obtain ⟨res, k1, k2⟩ := copy_eq sna now
  obtain ⟨z, z1, z2⟩ := copyRow mnow msav
  refine ⟨nI n, 1, sv_cp sna res, 1, z, ?_, ?_, ⟨rfl, Or.inr rfl⟩, rfl, rfl, rfl, rfl, ⟨n, w, ln, hR⟩, fun _ => RE_ag ⟨n, w, ln, hR⟩ k2 z2, hin, hH⟩
  · unfold f_X4_save
    rw [k1, ob_s, hbx]
  · simp only [f_X5_save, z1, ib2, tc2, hA.2.2, ob_n, og_n, fails0n, fails1n, refuse0n, refuse1n, os_ln, os_rn, tf0, tf1, tf2, tf3, i10, i20, i30, im0, e12, e13, e14, e15, e16, e21, e23, e24, e31, e32, e41, e42, e51, e61, if_true, if_false, eq_self, tc0]
theorem S_restore (G : GG isv te re de now sna len sig nxt cnt rng kept rea det misv iit mlen merr mnow msav hst inp) (out : Nat → Int64) (thr : Int32) : ∃ k now' cnt' out' b kept' mnow', f_L_restore isv now sna cnt out = some (k, now', cnt', out') ∧ f_X5_restore thr kept misv mnow msav = some (b, k, kept', mnow') ∧ (k = 0 → out' 0 = b.toInt64) ∧ GG isv te re de now' sna len sig nxt cnt' rng kept' rea det misv iit mlen merr mnow' msav hst inp := by
  obtain ⟨hisv, rfl, rfl, rfl, rfl, ⟨n, w, ln, hR⟩, hsv, hin, hH⟩ := G
  obtain ⟨hA, h0, hc, hP, hL, hC, hS, hB, hK, hF, hW, hI, hG, hE, hN, hD⟩ := id hR
  have hn8 := hA.2.1
  have hbx : g_buskers now = nI n := hA.1
  obtain ⟨rfl, h01⟩ := hisv
  rcases h01 with rfl | rfl
  · refine ⟨1, now, cnt, out, 0, kept, mnow, ?_, ?_, fun e => absurd e (by decide), ⟨rfl, Or.inl rfl⟩, rfl, rfl, rfl, rfl, ⟨n, w, ln, hR⟩, hsv, hin, hH⟩
    · simp only [f_L_restore, f_X4_restore, ob_n, og_n, fails0n, fails1n, refuse0n, refuse1n, os_ln, os_rn, tf0, tf1, tf2, tf3, i10, i20, i30, im0, e12, e13, e14, e15, e16, e21, e23, e24, e31, e32, e41, e42, e51, e61, if_true, if_false, eq_self, tc0]
    · simp only [f_X5_restore, f_X5_restore_c14, ob_n, og_n, fails0n, fails1n, refuse0n, refuse1n, os_ln, os_rn, tf0, tf1, tf2, tf3, i10, i20, i30, im0, e12, e13, e14, e15, e16, e21, e23, e24, e31, e32, e41, e42, e51, e61, if_true, if_false, eq_self, tc0]
  · obtain ⟨res, k1, k2⟩ := copy_eq now sna
    obtain ⟨z, z1, z2⟩ := copyRow msav mnow
    have hRE := RE_ag (hsv rfl) k2 z2
    obtain ⟨n', w', ln', hR'⟩ := hRE
    have hb' : g_buskers (sv_cp now res) = nI n' := hR'.1.1
    have hz' := hR'.1.2.2
    refine ⟨0, sv_cp now res, 0, vp_updL out 0 (nI n').toInt64, nI n', 0, z, ?_, ?_, fun _ => updL0 _ _, ⟨rfl, Or.inr rfl⟩, rfl, rfl, rfl, rfl, ⟨n', w', ln', hR'⟩, hsv, hin, ?_⟩
    · simp only [f_L_restore, f_X4_restore, k1, hb', ob_n, og_n, fails0n, fails1n, refuse0n, refuse1n, os_ln, os_rn, tf0, tf1, tf2, tf3, i10, i20, i30, im0, e12, e13, e14, e15, e16, e21, e23, e24, e31, e32, e41, e42, e51, e61, if_true, if_false, eq_self, tc0]
    · simp only [f_X5_restore, f_X5_restore_c14, z1, ib2, tc2, hz', ob_n, og_n, fails0n, fails1n, refuse0n, refuse1n, os_ln, os_rn, tf0, tf1, tf2, tf3, i10, i20, i30, im0, e12, e13, e14, e15, e16, e21, e23, e24, e31, e32, e41, e42, e51, e61, if_true, if_false, eq_self, tc0]
    · obtain ⟨c, p, hc, hp, hn, -, -, -⟩ := hH
      exact ⟨0, p, by omega, hp, hn, rfl, rfl, fun j hj => by omega⟩
theorem S_hatIn (G : GG isv te re de now sna len sig nxt cnt rng kept rea det misv iit mlen merr mnow msav hst inp) (spa : SV) (out : Nat → Int64) (thr : Int32) (ahe : Nat → Int32) (noi : Nat → UInt32) (a1 a2 : Int32) : ∃ k spa' out' b mnow' ahe' noi', f_L_hatIn now spa out a1 a2 = some (k, spa', out') ∧ f_X5_hatIn thr mnow ahe noi a1 a2 = some (b, k, mnow', ahe', noi') ∧ (k = 0 → out' 0 = b.toInt64) ∧ GG isv te re de now sna len sig nxt cnt rng kept rea det misv iit mlen merr mnow' msav hst inp := by
  obtain ⟨hisv, rfl, rfl, rfl, rfl, ⟨n, w, ln, hR⟩, hsv, hin, hH⟩ := G
  obtain ⟨hA, h0, hc, hP, hL, hC, hS, hB, hK, hF, hW, hI, hG, hE, hN, hD⟩ := id hR
  have hn8 := hA.2.1
  have hbx : g_buskers now = nI n := hA.1
  rcases busk_cases hn8 hA.2.2 a1 with ⟨c1, c2⟩ | ⟨b, hb, rfl, c1, c2⟩
  · refine ⟨1, spa, out, 0, mnow, ahe, noi, ?_, ?_, fun e => absurd e (by decide), hisv, rfl, rfl, rfl, rfl, ⟨n, w, ln, hR⟩, hsv, hin, hH⟩
    · simp only [f_L_hatIn, f_X4_hatIn, f_X4_hindranceOfBuskerNumber, hbx, c1, ob_n, og_n, fails0n, fails1n, refuse0n, refuse1n, os_ln, os_rn, tf0, tf1, tf2, tf3, i10, i20, i30, im0, e12, e13, e14, e15, e16, e21, e23, e24, e31, e32, e41, e42, e51, e61, if_true, if_false, eq_self, tc0]
    · simp only [f_X5_hatIn, f_X5_hatIn_c15, c2, ob_n, og_n, fails0n, fails1n, refuse0n, refuse1n, os_ln, os_rn, tf0, tf1, tf2, tf3, i10, i20, i30, im0, e12, e13, e14, e15, e16, e21, e23, e24, e31, e32, e41, e42, e51, e61, if_true, if_false, eq_self, tc0]
  · rcases rc_look a2 with ⟨c3, c4⟩ | ⟨H, hH9, rfl, c3, c4⟩
    · refine ⟨2, spa, out, 0, mnow, ahe, noi, ?_, ?_, fun e => absurd e (by decide), hisv, rfl, rfl, rfl, rfl, ⟨n, w, ln, hR⟩, hsv, hin, hH⟩
      · simp only [f_L_hatIn, f_X4_hatIn, f_X4_hindranceOfBuskerNumber, f_X4_hindranceOfLookAhead, hbx, c1, c3, ob_n, og_n, fails0n, fails1n, refuse0n, refuse1n, os_ln, os_rn, tf0, tf1, tf2, tf3, i10, i20, i30, im0, e12, e13, e14, e15, e16, e21, e23, e24, e31, e32, e41, e42, e51, e61, if_true, if_false, eq_self, tc0]
      · simp only [f_X5_hatIn, f_X5_hatIn_c15, f_X5_hatIn_c38, c2, c4, ob_n, og_n, fails0n, fails1n, refuse0n, refuse1n, os_ln, os_rn, tf0, tf1, tf2, tf3, i10, i20, i30, im0, e12, e13, e14, e15, e16, e21, e23, e24, e31, e32, e41, e42, e51, e61, if_true, if_false, eq_self, tc0]
    · have hb8 : b < 8 := by omega
      have hib := inbN (k := b) (N := 8) hb8 (by decide)
      have hcb := clN (k := b) (by omega)
      obtain ⟨res, k1, k2⟩ := copy_eq spa now
      obtain ⟨ahe2, z1, z2⟩ := copyRow mnow ahe
      have hR2 := RV_ag hR k2 (rowAg_rf mnow)
      obtain ⟨g, hour', cmp', sof', pit', hrs', hat', wea', row', r', noi', e1, e2, e3⟩ := J_hours hR2 (H := H) (by omega) noi
      have hB' := e3.2.2.2.2.2.2.2.1 b hb
      have hF' := (e3.2.2.2.2.2.2.2.2.2.1 b hb8).1
      simp only [gs_hour_hour, gs_crowd_hour, gs_buskers_hour, gs_answered_hour, gs_draws_hour, gs_lim_hour, gs_cmp_hour, gs_sof_hour, gs_kin_hour, gs_lou_hour, gs_pit_hour, gs_pla_hour, gs_cas_hour, gs_hrs_hour, gs_nws_hour, gs_hat_hour, gs_wea_hour, gs_hour_cmp, gs_crowd_cmp, gs_buskers_cmp, gs_answered_cmp, gs_draws_cmp, gs_lim_cmp, gs_cmp_cmp, gs_sof_cmp, gs_kin_cmp, gs_lou_cmp, gs_pit_cmp, gs_pla_cmp, gs_cas_cmp, gs_hrs_cmp, gs_nws_cmp, gs_hat_cmp, gs_wea_cmp, gs_hour_sof, gs_crowd_sof, gs_buskers_sof, gs_answered_sof, gs_draws_sof, gs_lim_sof, gs_cmp_sof, gs_sof_sof, gs_kin_sof, gs_lou_sof, gs_pit_sof, gs_pla_sof, gs_cas_sof, gs_hrs_sof, gs_nws_sof, gs_hat_sof, gs_wea_sof, gs_hour_pit, gs_crowd_pit, gs_buskers_pit, gs_answered_pit, gs_draws_pit, gs_lim_pit, gs_cmp_pit, gs_sof_pit, gs_kin_pit, gs_lou_pit, gs_pit_pit, gs_pla_pit, gs_cas_pit, gs_hrs_pit, gs_nws_pit, gs_hat_pit, gs_wea_pit, gs_hour_hrs, gs_crowd_hrs, gs_buskers_hrs, gs_answered_hrs, gs_draws_hrs, gs_lim_hrs, gs_cmp_hrs, gs_sof_hrs, gs_kin_hrs, gs_lou_hrs, gs_pit_hrs, gs_pla_hrs, gs_cas_hrs, gs_hrs_hrs, gs_nws_hrs, gs_hat_hrs, gs_wea_hrs, gs_hour_hat, gs_crowd_hat, gs_buskers_hat, gs_answered_hat, gs_draws_hat, gs_lim_hat, gs_cmp_hat, gs_sof_hat, gs_kin_hat, gs_lou_hat, gs_pit_hat, gs_pla_hat, gs_cas_hat, gs_hrs_hat, gs_nws_hat, gs_hat_hat, gs_wea_hat, gs_hour_wea, gs_crowd_wea, gs_buskers_wea, gs_answered_wea, gs_draws_wea, gs_lim_wea, gs_cmp_wea, gs_sof_wea, gs_kin_wea, gs_lou_wea, gs_pit_wea, gs_pla_wea, gs_cas_wea, gs_hrs_wea, gs_nws_wea, gs_hat_wea, gs_wea_wea, gs_hour_row, gs_crowd_row, gs_buskers_row, gs_answered_row, gs_draws_row, gs_lim_row, gs_cmp_row, gs_sof_row, gs_kin_row, gs_lou_row, gs_pit_row, gs_pla_row, gs_cas_row, gs_hrs_row, gs_nws_row, gs_hat_row, gs_wea_row] at hB' hF'
      have hof := ofFloat_n (x := hat' b) (by omega)
      obtain ⟨z, y1, y2⟩ := copyRow ahe2 r'
      have lp := hatIn_loop (nI b) 0 ahe2 H 0 4096 g mnow r' noi noi' (by omega) (by omega) e2
      rw [Nat.zero_add, of2 r' hb8, ob_s, hB'.2.2.1, y1, ob_s] at lp
      have lp : f_X5_hatIn_c59 (nI b) (nI H) 4096 0 0 mnow ahe2 noi = some ((hat' b).toInt32, 0, z, ahe2, noi') := lp
      refine ⟨0, s_row (s_wea (s_hat (s_hrs (s_pit (s_sof (s_cmp (s_hour (sv_cp spa res) hour') cmp') sof') pit') hrs') hat') wea') row', vp_updL out 0 ((hat' b).toInt32).toInt64, (hat' b).toInt32, z, ahe2, noi', ?_, ?_, fun _ => updL0 _ _, hisv, rfl, rfl, rfl, rfl, RE_ag ⟨n, w, ln, hR⟩ (ag_rf _) (rowAg_tr y2 z2), hsv, hin, hH⟩
      · have c1' : f_X3_hasBusker (g_buskers now) (nI b) = some 1 := by rw [hbx]; exact c1
        simp only [f_L_hatIn, f_X4_hatIn, f_X4_hindranceOfBuskerNumber, f_X4_hindranceOfLookAhead, c1', c3, k1, e1, hib, hcb, hof, ob_n, og_n, fails0n, fails1n, refuse0n, refuse1n, os_ln, os_rn, tf0, tf1, tf2, tf3, i10, i20, i30, im0, e12, e13, e14, e15, e16, e21, e23, e24, e31, e32, e41, e42, e51, e61, if_true, if_false, eq_self, tc0]
      · simp only [f_X5_hatIn, f_X5_hatIn_c15, f_X5_hatIn_c38, c2, c4, z1, ob_n, og_n, fails0n, fails1n, refuse0n, refuse1n, os_ln, os_rn, tf0, tf1, tf2, tf3, i10, i20, i30, im0, e12, e13, e14, e15, e16, e21, e23, e24, e31, e32, e41, e42, e51, e61, if_true, if_false, eq_self, tc0]
        exact lp
theorem S_playingIn (G : GG isv te re de now sna len sig nxt cnt rng kept rea det misv iit mlen merr mnow msav hst inp) (spa : SV) (out : Nat → Int64) (thr : Int32) (ahe : Nat → Int32) (noi : Nat → UInt32) (a1 : Int32) : ∃ k spa' out' b mnow' ahe' noi', f_L_playingIn now spa out a1 = some (k, spa', out') ∧ f_X5_playingIn thr mnow ahe noi a1 = some (b, k, mnow', ahe', noi') ∧ (k = 0 → out' 0 = b.toInt64) ∧ GG isv te re de now sna len sig nxt cnt rng kept rea det misv iit mlen merr mnow' msav hst inp := by
  obtain ⟨hisv, rfl, rfl, rfl, rfl, ⟨n, w, ln, hR⟩, hsv, hin, hH⟩ := G
  obtain ⟨hA, h0, hc, hP, hL, hC, hS, hB, hK, hF, hW, hI, hG, hE, hN, hD⟩ := id hR
  have hn8 := hA.2.1
  have hbx : g_buskers now = nI n := hA.1
  rcases rc_look a1 with ⟨c3, c4⟩ | ⟨H, hH9, rfl, c3, c4⟩
  · refine ⟨1, spa, out, 0, mnow, ahe, noi, ?_, ?_, fun e => absurd e (by decide), hisv, rfl, rfl, rfl, rfl, ⟨n, w, ln, hR⟩, hsv, hin, hH⟩
    · simp only [f_L_playingIn, f_X4_playingIn, f_X4_hindranceOfLookAhead, c3, ob_n, og_n, fails0n, fails1n, refuse0n, refuse1n, os_ln, os_rn, tf0, tf1, tf2, tf3, i10, i20, i30, im0, e12, e13, e14, e15, e16, e21, e23, e24, e31, e32, e41, e42, e51, e61, if_true, if_false, eq_self, tc0]
    · simp only [f_X5_playingIn, f_X5_playingIn_c17, c4, ob_n, og_n, fails0n, fails1n, refuse0n, refuse1n, os_ln, os_rn, tf0, tf1, tf2, tf3, i10, i20, i30, im0, e12, e13, e14, e15, e16, e21, e23, e24, e31, e32, e41, e42, e51, e61, if_true, if_false, eq_self, tc0]
  · obtain ⟨res, k1, k2⟩ := copy_eq spa now
    obtain ⟨ahe2, z1, z2⟩ := copyRow mnow ahe
    have hR2 := RV_ag hR k2 (rowAg_rf mnow)
    obtain ⟨g, hour', cmp', sof', pit', hrs', hat', wea', row', r', noi', e1, e2, e3⟩ := J_hours hR2 (H := H) (by omega) noi
    have hmp := mplaying e3.1.2.1 e3.1.2.2 e3.2.2.2.2.2.2.2.1 e3.2.2.2.2.2.2.2.2.2.1 e3.2.2.2.2.2.2.2.2.2.2.2.2.2.1
    simp only [gs_hour_hour, gs_crowd_hour, gs_buskers_hour, gs_answered_hour, gs_draws_hour, gs_lim_hour, gs_cmp_hour, gs_sof_hour, gs_kin_hour, gs_lou_hour, gs_pit_hour, gs_pla_hour, gs_cas_hour, gs_hrs_hour, gs_nws_hour, gs_hat_hour, gs_wea_hour, gs_hour_cmp, gs_crowd_cmp, gs_buskers_cmp, gs_answered_cmp, gs_draws_cmp, gs_lim_cmp, gs_cmp_cmp, gs_sof_cmp, gs_kin_cmp, gs_lou_cmp, gs_pit_cmp, gs_pla_cmp, gs_cas_cmp, gs_hrs_cmp, gs_nws_cmp, gs_hat_cmp, gs_wea_cmp, gs_hour_sof, gs_crowd_sof, gs_buskers_sof, gs_answered_sof, gs_draws_sof, gs_lim_sof, gs_cmp_sof, gs_sof_sof, gs_kin_sof, gs_lou_sof, gs_pit_sof, gs_pla_sof, gs_cas_sof, gs_hrs_sof, gs_nws_sof, gs_hat_sof, gs_wea_sof, gs_hour_pit, gs_crowd_pit, gs_buskers_pit, gs_answered_pit, gs_draws_pit, gs_lim_pit, gs_cmp_pit, gs_sof_pit, gs_kin_pit, gs_lou_pit, gs_pit_pit, gs_pla_pit, gs_cas_pit, gs_hrs_pit, gs_nws_pit, gs_hat_pit, gs_wea_pit, gs_hour_hrs, gs_crowd_hrs, gs_buskers_hrs, gs_answered_hrs, gs_draws_hrs, gs_lim_hrs, gs_cmp_hrs, gs_sof_hrs, gs_kin_hrs, gs_lou_hrs, gs_pit_hrs, gs_pla_hrs, gs_cas_hrs, gs_hrs_hrs, gs_nws_hrs, gs_hat_hrs, gs_wea_hrs, gs_hour_hat, gs_crowd_hat, gs_buskers_hat, gs_answered_hat, gs_draws_hat, gs_lim_hat, gs_cmp_hat, gs_sof_hat, gs_kin_hat, gs_lou_hat, gs_pit_hat, gs_pla_hat, gs_cas_hat, gs_hrs_hat, gs_nws_hat, gs_hat_hat, gs_wea_hat, gs_hour_wea, gs_crowd_wea, gs_buskers_wea, gs_answered_wea, gs_draws_wea, gs_lim_wea, gs_cmp_wea, gs_sof_wea, gs_kin_wea, gs_lou_wea, gs_pit_wea, gs_pla_wea, gs_cas_wea, gs_hrs_wea, gs_nws_wea, gs_hat_wea, gs_wea_wea, gs_hour_row, gs_crowd_row, gs_buskers_row, gs_answered_row, gs_draws_row, gs_lim_row, gs_cmp_row, gs_sof_row, gs_kin_row, gs_lou_row, gs_pit_row, gs_pla_row, gs_cas_row, gs_hrs_row, gs_nws_row, gs_hat_row, gs_wea_row] at hmp
    obtain ⟨z, y1, y2⟩ := copyRow ahe2 r'
    have lp := playIn_loop 0 ahe2 H 0 4096 g mnow r' noi noi' (by omega) (by omega) e2
    rw [Nat.zero_add, hmp, ob_s, y1, ob_s] at lp
    have lp : f_X5_playingIn_c38 (nI H) 4096 0 0 mnow ahe2 noi = some (nI (cn (fun b => decide (¬ pit' b = -1)) 8), 0, z, ahe2, noi') := lp
    refine ⟨0, s_row (s_wea (s_hat (s_hrs (s_pit (s_sof (s_cmp (s_hour (sv_cp spa res) hour') cmp') sof') pit') hrs') hat') wea') row', vp_updL out 0 (nI (cn (fun b => decide (¬ pit' b = -1)) 8)).toInt64, nI (cn (fun b => decide (¬ pit' b = -1)) 8), z, ahe2, noi', ?_, ?_, fun _ => updL0 _ _, hisv, rfl, rfl, rfl, rfl, RE_ag ⟨n, w, ln, hR⟩ (ag_rf _) (rowAg_tr y2 z2), hsv, hin, hH⟩
    · simp only [f_L_playingIn, f_X4_playingIn, f_X4_hindranceOfLookAhead, c3, k1, e1, cntPlaying, ob_n, og_n, fails0n, fails1n, refuse0n, refuse1n, os_ln, os_rn, tf0, tf1, tf2, tf3, i10, i20, i30, im0, e12, e13, e14, e15, e16, e21, e23, e24, e31, e32, e41, e42, e51, e61, if_true, if_false, eq_self, tc0]
    · simp only [f_X5_playingIn, f_X5_playingIn_c17, c4, z1, ob_n, og_n, fails0n, fails1n, refuse0n, refuse1n, os_ln, os_rn, tf0, tf1, tf2, tf3, i10, i20, i30, im0, e12, e13, e14, e15, e16, e21, e23, e24, e31, e32, e41, e42, e51, e61, if_true, if_false, eq_self, tc0]
      exact lp
end REST
