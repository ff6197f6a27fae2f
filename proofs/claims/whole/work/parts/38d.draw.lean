/-! draw -/
theorem ob_n {α β : Type} (a : α) (k : α → Option β) : ob (some a) k = k a := Eq.trans (ob_s a k) (Eq.refl _)
theorem og_n {β : Type} (k : Option β) : og true k = k := Eq.trans (og_t k) (Eq.refl _)
theorem fails0n (thr k : Int32) : f_X5_fails thr k 0 = some (0, 0) := Eq.trans (fails0 thr k) (Eq.refl _)
theorem fails1n (thr k : Int32) : f_X5_fails thr k 1 = some (1, k) := Eq.trans (fails1 thr k) (Eq.refl _)
theorem refuse0n (re de a b : Int32) : f_X5_refuse re de 0 a b = some (0, re, de) := Eq.trans (refuse0 re de a b) (Eq.refl _)
theorem refuse1n (re de a b : Int32) : f_X5_refuse re de 1 a b = some (1, a, b) := Eq.trans (refuse1 re de a b) (Eq.refl _)
theorem J_draw {x : SV} {r : Nat → Int32} {n w : Nat} {ln : Nat → Nat} (h : RV x r n w ln) (re de a1 a2 : Int32) :
    (f_X4_hindranceOfDraw re de x a1 a2 = some (0, re, de) ∧ ∃ ret drw' pit' pla' r' w' ln', f_X3_drawFor (g_draws x) (g_pit x) (g_pla x) a1 a2 = some (ret, drw', pit', pla') ∧ RV (s_pla (s_pit (s_draws x drw') pit') pla') r' n w' ln' ∧ ∀ (thr kept iit : Int32) (hst : Nat → Nat → Int32) (kept' : Int32) (hst' : Nat → Nat → Int32), f_X5_change kept iit r hst = some (kept', hst') → f_X5_draw thr kept re de iit r hst a1 a2 = some (ret, 0, kept', re, de, r', hst')) ∨
    (∃ hd t re' de', f_X4_hindranceOfDraw re de x a1 a2 = some (hd, re', de') ∧ ((hd = 1 ∧ t = 1) ∨ (hd = 2 ∧ t = 2) ∨ (hd = 3 ∧ t = 3)) ∧ ∀ (thr kept iit : Int32) (hst : Nat → Nat → Int32), f_X5_draw thr kept re de iit r hst a1 a2 = some (0, t, kept, re', de', r, hst)) := by
  obtain ⟨hA, h0, hc, hP, hL, hC, hS, hB, hK, hF, hW, hI, hG, hE, hN, hD⟩ := id h
  have hn8 := hA.2.1
  have hw8 := qN_le hN
  unfold f_X4_hindranceOfDraw
  rcases pitch_cases a1 with ⟨p1, p2⟩ | ⟨k, hk, rfl, p1, p2⟩
  · right
    refine ⟨1, 1, re, de, by rw [p1]; rfl, Or.inl ⟨rfl, rfl⟩, fun thr kept iit hst => ?_⟩
    simp only [f_X5_draw, f_X5_draw_c14, p2, ob_s, og_t, fails0, fails1, refuse0, refuse1, i10, i20, i30, im0, if_true, if_false, eq_self, f_X4_refuse]
  · have hpl := player_eq hn8 hW hk
    have hcw : f_X3_countWaiting (g_pla x) = some (nI w) := by rw [cntWaiting, hN.2.2.2]
    rcases two_cases 0 99 (l := 0) (m := 99) rfl rfl (by decide) (by decide) a2 with ⟨q1, q2⟩ | ⟨q0, q1, q2⟩ | ⟨c, -, hc9, rfl, q0, q1, q2⟩
    · right
      refine ⟨2, 2, re, de, by simp only [p1, q1, ob_s, og_t, fails0, fails1, refuse0, refuse1, i10, i20, i30, im0, if_true, if_false, eq_self, f_X4_refuse], Or.inr (Or.inl ⟨rfl, rfl⟩), fun thr kept iit hst => ?_⟩
      simp only [f_X5_draw, f_X5_draw_c14, f_X5_draw_c37, p2, q2, ob_s, og_t, fails0, fails1, refuse0, refuse1, i10, i20, i30, im0, if_true, if_false, eq_self, f_X4_refuse]
    · right
      refine ⟨2, 2, re, de, by simp only [p1, q0, q1, ob_s, og_t, fails0, fails1, refuse0, refuse1, i10, i20, i30, im0, if_true, if_false, eq_self, f_X4_refuse], Or.inr (Or.inl ⟨rfl, rfl⟩), fun thr kept iit hst => ?_⟩
      simp only [f_X5_draw, f_X5_draw_c14, f_X5_draw_c37, p2, q2, ob_s, og_t, fails0, fails1, refuse0, refuse1, i10, i20, i30, im0, if_true, if_false, eq_self, f_X4_refuse]
    · rcases who_cases hW hk with q | ⟨b, hb, q, hp⟩
      · by_cases hw0 : w = 0
        · right
          have e0 : nI w = (0 : Int32) := by rw [hw0]; rfl
          refine ⟨3, 3, 6, 0, by simp only [p1, q0, q1, hpl, q, hcw, e0, ob_s, og_t, fails0, fails1, refuse0, refuse1, i10, i20, i30, im0, if_true, if_false, eq_self, f_X4_refuse], Or.inr (Or.inr ⟨rfl, rfl⟩), fun thr kept iit hst => ?_⟩
          simp only [f_X5_draw, f_X5_draw_c14, f_X5_draw_c37, f_X5_isDrawRefused, f_X5_isDrawRefused_c18, f_X5_isDrawRefused_c41, p2, q2, ofP3 r hk, q, ib3, tc3, hN.1, e0, ob_s, og_t, fails0, fails1, refuse0, refuse1, i10, i20, i30, im0, if_true, if_false, eq_self, f_X4_refuse]
        · left
          have hwp : 0 < w := by omega
          have e0 : ¬ nI w = (0 : Int32) := nI_ne0 hwp (by omega)
          have hrem : nI c - nI c / nI w * nI w = nI (c % w) := pk_rem (by omega) hwp (by omega)
          have hj : c % w < w := Nat.mod_lt _ hwp
          generalize hjd : c % w = j at hrem hj
          obtain ⟨b1, b2, b3⟩ := hN.2.1 j hj
          have hnz : nz (nI w) = true := decide_eq_true e0
          obtain ⟨pla1, x1, x2⟩ := draw_x (pit := g_pit x) (drw := g_draws x) (a1 := nI k) (b := ln j) (j := j) (by omega) 8 4096 0 (g_pla x) rfl (by decide)
          have x1 : f_X3_drawFor_c42 (nI k) 4096 (nI (ln j)) (nI j) 0 (g_draws x) (g_pit x) (g_pla x) = _ := x1
          obtain ⟨r1, y1, y2, y3, y4⟩ := draw_m (r := r) (w := w) (j := j) (k := k) (b := ln j) hw8 hk (by omega) (w - 1 - j) 4096 j (upd r 3 (nI (w - 1))) (by omega) (by omega) (Nat.le_refl j) (upd_eq _ _ _) (fun t ht => by rw [upd_ne _ _ (by omega), if_neg (by omega)]) (fun t ht h => by rw [upd_ne _ _ h])
          rw [show r 7 = g_draws x from h0.2.2.2] at y1
          refine ⟨by simp only [p1, q0, q1, hpl, q, hcw, e0, ob_s, og_t, fails0, fails1, refuse0, refuse1, i10, i20, i30, im0, if_true, if_false, eq_self, f_X4_refuse], nI (ln j), g_draws x + 1, upd (g_pit x) (ln j) (nI k), upd pla1 (ln j) (-1), upd (upd (upd r1 (8 + 4 * k + 3) (nI (ln j))) (40 + 8 * ln j + 4) (nI k)) 7 (g_draws x + 1), w - 1, (fun i => if i < j then ln i else ln (i + 1)), ?_, ?_, fun thr kept iit hst kept' hst' hch => ?_⟩
          · unfold f_X3_drawFor f_X3_drawFor_c20
            rw [hcw, ob_s, if_pos (show (0 : Int32) < nI w from nI_lt (a := 0) hwp (by omega)), hnz, og_t, hrem, waiter_in hn8 hN hj, ob_s, if_neg (nI_ne_m1 (by omega)), inbN (by omega) (by decide), og_t, clN (by omega), b3]
            exact x1
          · unfold RV
            simp only [gs_hour_pla, gs_crowd_pla, gs_buskers_pla, gs_answered_pla, gs_draws_pla, gs_lim_pla, gs_cmp_pla, gs_sof_pla, gs_kin_pla, gs_lou_pla, gs_pit_pla, gs_pla_pla, gs_cas_pla, gs_hrs_pla, gs_nws_pla, gs_hat_pla, gs_wea_pla, gs_hour_pit, gs_crowd_pit, gs_buskers_pit, gs_answered_pit, gs_draws_pit, gs_lim_pit, gs_cmp_pit, gs_sof_pit, gs_kin_pit, gs_lou_pit, gs_pit_pit, gs_pla_pit, gs_cas_pit, gs_hrs_pit, gs_nws_pit, gs_hat_pit, gs_wea_pit, gs_hour_draws, gs_crowd_draws, gs_buskers_draws, gs_answered_draws, gs_draws_draws, gs_lim_draws, gs_cmp_draws, gs_sof_draws, gs_kin_draws, gs_lou_draws, gs_pit_draws, gs_pla_draws, gs_cas_draws, gs_hrs_draws, gs_nws_draws, gs_hat_draws, gs_wea_draws]
            exact T_draw h hj hk q y2 y3 y4 (pla1 := pla1) (fun b' hb' => by rw [x2 b' hb', if_neg (by omega)])
          · have g1 : (104 : Int32) + nI j = nI (104 + j) := nI_add 104 j
            have g2 := clN (k := 104 + j) (by omega)
            have g3 := inbN (k := 104 + j) (N := 112) (by omega) (by decide)
            have g4 : nI w - 1 = nI (w - 1) := pk_sub (a := w) (b := 1) (by omega)
            have g5 := y1 iit 0 kept' re de hst'
            simp only [f_X5_draw, f_X5_draw_c14, f_X5_draw_c37, f_X5_isDrawRefused, f_X5_isDrawRefused_c18, f_X5_isDrawRefused_c41, p2, q2, ofP3 r hk, q, ib3, tc3, hN.1, e0, hch, hnz, hrem, g1, g2, g3, g4, b2, ob_n, og_n, fails0n, fails1n, refuse0n, refuse1n, i10, i20, i30, im0, if_true, if_false, eq_self, f_X4_refuse]
            exact g5
      · right
        have hm : ¬ nI b = (-1 : Int32) := nI_ne_m1 (by omega)
        refine ⟨3, 3, 5, nI b, by simp only [p1, q0, q1, hpl, q, hm, ob_s, og_t, fails0, fails1, refuse0, refuse1, i10, i20, i30, im0, if_true, if_false, eq_self, f_X4_refuse], Or.inr (Or.inr ⟨rfl, rfl⟩), fun thr kept iit hst => ?_⟩
        simp only [f_X5_draw, f_X5_draw_c14, f_X5_draw_c37, f_X5_isDrawRefused, f_X5_isDrawRefused_c18, p2, q2, ofP3 r hk, q, hm, ob_s, og_t, fails0, fails1, refuse0, refuse1, i10, i20, i30, im0, if_true, if_false, eq_self, f_X4_refuse]
