/-! the law's calls, on both sides -/
theorem os_ln {α β γ : Type} (x : α) (k1 : α → Option γ) (k2 : β → Option γ) : os (.inl x) k1 k2 = k1 x := Eq.trans (Eq.refl _) (Eq.refl _)
theorem os_rn {α β γ : Type} (x : β) (k1 : α → Option γ) (k2 : β → Option γ) : os (.inr x) k1 k2 = k2 x := Eq.trans (Eq.refl _) (Eq.refl _)
theorem tf0 : f_X4_throwFor 0 = some (.inr ()) := rfl
theorem tf1 : f_X4_throwFor 1 = some (.inl 1) := rfl
theorem tf2 : f_X4_throwFor 2 = some (.inl 2) := rfl
theorem tf3 : f_X4_throwFor 3 = some (.inl 3) := rfl
theorem e12 : ((1 : Nat) = 2) = False := by decide
theorem e13 : ((1 : Nat) = 3) = False := by decide
theorem e14 : ((1 : Nat) = 4) = False := by decide
theorem e15 : ((1 : Nat) = 5) = False := by decide
theorem e16 : ((1 : Nat) = 6) = False := by decide
theorem e21 : ((2 : Nat) = 1) = False := by decide
theorem e23 : ((2 : Nat) = 3) = False := by decide
theorem e24 : ((2 : Nat) = 4) = False := by decide
theorem e31 : ((3 : Nat) = 1) = False := by decide
theorem e32 : ((3 : Nat) = 2) = False := by decide
theorem e41 : ((4 : Nat) = 1) = False := by decide
theorem e42 : ((4 : Nat) = 2) = False := by decide
theorem e51 : ((5 : Nat) = 1) = False := by decide
theorem e61 : ((6 : Nat) = 1) = False := by decide
theorem updL0 (f : Nat → Int64) (v : Int64) : vp_updL f 0 v 0 = v := if_pos rfl
def GG (isv te re de : Int32) (now sna : SV) (len : Int32) (sig : Nat → Int32) (nxt cnt : Int32) (rng : Nat → SV) (kept rea det misv iit mlen merr : Int32) (mnow msav : Nat → Int32) (hst : Nat → Nat → Int32) (inp : Nat → Int32) : Prop :=
  (isv = misv ∧ (isv = 0 ∨ isv = 1)) ∧ te = merr ∧ re = rea ∧ de = det ∧ iit = 0 ∧ RE now mnow ∧ (isv = 1 → RE sna msav) ∧ (∃ L, L ≤ 60 ∧ len = nI L ∧ mlen = nI L ∧ ∀ i, i < L → sig i = inp i ∧ isC (sig i) = true) ∧ HS nxt cnt rng kept hst
theorem J_hours {x : SV} {r : Nat → Int32} {n w : Nat} {ln : Nat → Nat} (h : RV x r n w ln) {H : Nat} (hH : H < 100) (noi : Nat → UInt32) : ∃ g hour' cmp' sof' pit' hrs' hat' wea' row' r' noi', f_X3_passHours (g_hour x) (g_crowd x) (g_lim x) (g_cmp x) (g_sof x) (g_kin x) (g_lou x) (g_pit x) (g_hrs x) (g_hat x) (g_wea x) (g_row x) (nI H) = some (g, hour', cmp', sof', pit', hrs', hat', wea', row') ∧ gh H r noi g r' noi' ∧ RV (s_row (s_wea (s_hat (s_hrs (s_pit (s_sof (s_cmp (s_hour x hour') cmp') sof') pit') hrs') hat') wea') row') r' n w ln := by
  obtain ⟨g, hour', cmp', sof', pit', hrs', hat', wea', row', noi', r', e1, e2, e3⟩ := hours_eq H 0 4096 (g_hour x) (g_cmp x) (g_sof x) (g_pit x) (g_hrs x) (g_hat x) (g_wea x) (g_row x) noi r 0 (by omega) (by omega) h
  refine ⟨g, hour', cmp', sof', pit', hrs', hat', wea', row', r', noi', ?_, e2, ?_⟩
  · rw [Nat.zero_add, Int32.zero_add] at e1
    unfold f_X3_passHours
    exact e1
  · unfold RV
    simp only [gs_hour_hour, gs_crowd_hour, gs_buskers_hour, gs_answered_hour, gs_draws_hour, gs_lim_hour, gs_cmp_hour, gs_sof_hour, gs_kin_hour, gs_lou_hour, gs_pit_hour, gs_pla_hour, gs_cas_hour, gs_hrs_hour, gs_nws_hour, gs_hat_hour, gs_wea_hour, gs_hour_cmp, gs_crowd_cmp, gs_buskers_cmp, gs_answered_cmp, gs_draws_cmp, gs_lim_cmp, gs_cmp_cmp, gs_sof_cmp, gs_kin_cmp, gs_lou_cmp, gs_pit_cmp, gs_pla_cmp, gs_cas_cmp, gs_hrs_cmp, gs_nws_cmp, gs_hat_cmp, gs_wea_cmp, gs_hour_sof, gs_crowd_sof, gs_buskers_sof, gs_answered_sof, gs_draws_sof, gs_lim_sof, gs_cmp_sof, gs_sof_sof, gs_kin_sof, gs_lou_sof, gs_pit_sof, gs_pla_sof, gs_cas_sof, gs_hrs_sof, gs_nws_sof, gs_hat_sof, gs_wea_sof, gs_hour_pit, gs_crowd_pit, gs_buskers_pit, gs_answered_pit, gs_draws_pit, gs_lim_pit, gs_cmp_pit, gs_sof_pit, gs_kin_pit, gs_lou_pit, gs_pit_pit, gs_pla_pit, gs_cas_pit, gs_hrs_pit, gs_nws_pit, gs_hat_pit, gs_wea_pit, gs_hour_hrs, gs_crowd_hrs, gs_buskers_hrs, gs_answered_hrs, gs_draws_hrs, gs_lim_hrs, gs_cmp_hrs, gs_sof_hrs, gs_kin_hrs, gs_lou_hrs, gs_pit_hrs, gs_pla_hrs, gs_cas_hrs, gs_hrs_hrs, gs_nws_hrs, gs_hat_hrs, gs_wea_hrs, gs_hour_hat, gs_crowd_hat, gs_buskers_hat, gs_answered_hat, gs_draws_hat, gs_lim_hat, gs_cmp_hat, gs_sof_hat, gs_kin_hat, gs_lou_hat, gs_pit_hat, gs_pla_hat, gs_cas_hat, gs_hrs_hat, gs_nws_hat, gs_hat_hat, gs_wea_hat, gs_hour_wea, gs_crowd_wea, gs_buskers_wea, gs_answered_wea, gs_draws_wea, gs_lim_wea, gs_cmp_wea, gs_sof_wea, gs_kin_wea, gs_lou_wea, gs_pit_wea, gs_pla_wea, gs_cas_wea, gs_hrs_wea, gs_nws_wea, gs_hat_wea, gs_wea_wea, gs_hour_row, gs_crowd_row, gs_buskers_row, gs_answered_row, gs_draws_row, gs_lim_row, gs_cmp_row, gs_sof_row, gs_kin_row, gs_lou_row, gs_pit_row, gs_pla_row, gs_cas_row, gs_hrs_row, gs_nws_row, gs_hat_row, gs_wea_row]
    exact e3
theorem J_pass {x : SV} {r : Nat → Int32} {n w : Nat} {ln : Nat → Nat} (h : RV x r n w ln) (a : Int32) :
    (f_X4_hindranceOfPass a = some 0 ∧ ∀ noi, ∃ g hour' cmp' sof' pit' hrs' hat' wea' row' r' noi', f_X3_passHours (g_hour x) (g_crowd x) (g_lim x) (g_cmp x) (g_sof x) (g_kin x) (g_lou x) (g_pit x) (g_hrs x) (g_hat x) (g_wea x) (g_row x) a = some (g, hour', cmp', sof', pit', hrs', hat', wea', row') ∧ RV (s_row (s_wea (s_hat (s_hrs (s_pit (s_sof (s_cmp (s_hour x hour') cmp') sof') pit') hrs') hat') wea') row') r' n w ln ∧ ∀ (thr kept iit : Int32) (hst : Nat → Nat → Int32) (kept' : Int32) (hst' : Nat → Nat → Int32), f_X5_change kept iit r hst = some (kept', hst') → f_X5_pass thr kept iit r hst noi a = some (g, 0, kept', r', hst', noi')) ∨
    (f_X4_hindranceOfPass a = some 2 ∧ ∀ (thr kept iit : Int32) (hst : Nat → Nat → Int32) (noi : Nat → UInt32), f_X5_pass thr kept iit r hst noi a = some (0, 1, kept, r, hst, noi)) := by
  unfold f_X4_hindranceOfPass
  rcases rc_pass a with ⟨c1, c2⟩ | ⟨c, hc9, rfl, c1, c2⟩
  · right
    refine ⟨by rw [c1]; rfl, fun thr kept iit hst noi => ?_⟩
    simp only [f_X5_pass, f_X5_pass_c17, c2, ob_n, og_n, fails0n, fails1n, refuse0n, refuse1n, os_ln, os_rn, tf0, tf1, tf2, tf3, i10, i20, i30, im0, e12, e13, e14, e15, e16, e21, e23, e24, e31, e32, e41, e42, e51, e61, if_true, if_false, eq_self, tc0]
  · left
    refine ⟨by rw [c1]; rfl, fun noi => ?_⟩
    obtain ⟨g, hour', cmp', sof', pit', hrs', hat', wea', row', r', noi', e1, e2, e3⟩ := J_hours h (H := c) (by omega) noi
    refine ⟨g, hour', cmp', sof', pit', hrs', hat', wea', row', r', noi', e1, e3, fun thr kept iit hst kept' hst' hch => ?_⟩
    have e4 := pass_loop iit 0 kept' hst' c 0 4096 0 g r r' noi noi' (by omega) (by omega) e2
    rw [Nat.zero_add, Int32.zero_add] at e4
    simp only [f_X5_pass, f_X5_pass_c17, c2, hch, ob_n, og_n, fails0n, fails1n, refuse0n, refuse1n, os_ln, os_rn, tf0, tf1, tf2, tf3, i10, i20, i30, im0, e12, e13, e14, e15, e16, e21, e23, e24, e31, e32, e41, e42, e51, e61, if_true, if_false, eq_self, tc0]
    exact e4
section STEPS
variable {isv te re de : Int32} {now sna : SV} {len : Int32} {sig : Nat → Int32} {nxt cnt : Int32} {rng : Nat → SV} {kept rea det misv iit mlen merr : Int32} {mnow msav : Nat → Int32} {hst : Nat → Nat → Int32} {inp : Nat → Int32}
theorem S_busker (G : GG isv te re de now sna len sig nxt cnt rng kept rea det misv iit mlen merr mnow msav hst inp) (out : Nat → Int64) (thr : Int32) (a1 : Int32) (a2 : Int32) : ∃ k re' de' now' nxt' cnt' rng' out' b kept' mnow' hst', f_L_busker re de now nxt cnt rng out a1 a2 = some (k, re', de', now', nxt', cnt', rng', out') ∧ f_X5_busker thr kept rea det iit mnow hst a1 a2 = some (b, k, kept', re', de', mnow', hst') ∧ (k = 0 → out' 0 = b.toInt64) ∧ GG isv te re' de' now' sna len sig nxt' cnt' rng' kept' re' de' misv iit mlen merr mnow' msav hst' inp := by
  obtain ⟨hisv, rfl, rfl, rfl, rfl, ⟨n, w, ln, hR⟩, hsv, hin, hH⟩ := G
  rcases J_busker hR re de a1 a2 with ⟨h1, bus', kin', lou', r', n', h2, h3, h4⟩ | ⟨hd, t, re', de', h1, hcd, h4⟩
  · obtain ⟨nxt', cnt', rng', kept', hst', k1, k2, k3⟩ := remember_now mnow hH ⟨n, w, ln, hR⟩
    refine ⟨0, re, de, s_lou (s_kin (s_buskers now bus') kin') lou', nxt', cnt', rng', vp_updL out 0 (nI n).toInt64, nI n, kept', r', hst', ?_, h4 _ _ _ _ _ _ (change_0 _ _ _ k2), fun _ => updL0 _ _, hisv, rfl, rfl, rfl, rfl, ⟨_, _, _, h3⟩, hsv, hin, k3⟩
    simp only [f_L_busker, f_X4_busker, h1, k1, h2, ob_n, og_n, fails0n, fails1n, refuse0n, refuse1n, os_ln, os_rn, tf0, tf1, tf2, tf3, i10, i20, i30, im0, e12, e13, e14, e15, e16, e21, e23, e24, e31, e32, e41, e42, e51, e61, if_true, if_false, eq_self, tc0]
  · rcases hcd with ⟨rfl, rfl⟩ | ⟨rfl, rfl⟩
    · refine ⟨1, re', de', now, nxt, cnt, rng, out, 0, kept, mnow, hst, ?_, h4 _ _ _ _, fun e => absurd e (by decide), hisv, rfl, rfl, rfl, rfl, ⟨n, w, ln, hR⟩, hsv, hin, hH⟩
      simp only [f_L_busker, f_X4_busker, h1, ob_n, og_n, fails0n, fails1n, refuse0n, refuse1n, os_ln, os_rn, tf0, tf1, tf2, tf3, i10, i20, i30, im0, e12, e13, e14, e15, e16, e21, e23, e24, e31, e32, e41, e42, e51, e61, if_true, if_false, eq_self, tc0]
    · refine ⟨2, re', de', now, nxt, cnt, rng, out, 0, kept, mnow, hst, ?_, h4 _ _ _ _, fun e => absurd e (by decide), hisv, rfl, rfl, rfl, rfl, ⟨n, w, ln, hR⟩, hsv, hin, hH⟩
      simp only [f_L_busker, f_X4_busker, h1, ob_n, og_n, fails0n, fails1n, refuse0n, refuse1n, os_ln, os_rn, tf0, tf1, tf2, tf3, i10, i20, i30, im0, e12, e13, e14, e15, e16, e21, e23, e24, e31, e32, e41, e42, e51, e61, if_true, if_false, eq_self, tc0]
theorem S_join (G : GG isv te re de now sna len sig nxt cnt rng kept rea det misv iit mlen merr mnow msav hst inp) (out : Nat → Int64) (thr : Int32) (a1 : Int32) : ∃ k re' de' now' nxt' cnt' rng' out' b kept' mnow' hst', f_L_join re de now nxt cnt rng out a1 = some (k, re', de', now', nxt', cnt', rng', out') ∧ f_X5_join thr kept rea det iit mnow hst a1 = some (b, k, kept', re', de', mnow', hst') ∧ (k = 0 → out' 0 = b.toInt64) ∧ GG isv te re' de' now' sna len sig nxt' cnt' rng' kept' re' de' misv iit mlen merr mnow' msav hst' inp := by
  obtain ⟨hisv, rfl, rfl, rfl, rfl, ⟨n, w, ln, hR⟩, hsv, hin, hH⟩ := G
  rcases J_join hR re de a1 with ⟨h1, ret, pla', r', w', ln', h2, h3, h4⟩ | ⟨hd, t, re', de', h1, hcd, h4⟩
  · obtain ⟨nxt', cnt', rng', kept', hst', k1, k2, k3⟩ := remember_now mnow hH ⟨n, w, ln, hR⟩
    refine ⟨0, re, de, s_pla now pla', nxt', cnt', rng', vp_updL out 0 (ret).toInt64, ret, kept', r', hst', ?_, h4 _ _ _ _ _ _ (change_0 _ _ _ k2), fun _ => updL0 _ _, hisv, rfl, rfl, rfl, rfl, ⟨_, _, _, h3⟩, hsv, hin, k3⟩
    simp only [f_L_join, f_X4_join, h1, k1, h2, ob_n, og_n, fails0n, fails1n, refuse0n, refuse1n, os_ln, os_rn, tf0, tf1, tf2, tf3, i10, i20, i30, im0, e12, e13, e14, e15, e16, e21, e23, e24, e31, e32, e41, e42, e51, e61, if_true, if_false, eq_self, tc0]
  · rcases hcd with ⟨rfl, rfl⟩ | ⟨rfl, rfl⟩
    · refine ⟨1, re', de', now, nxt, cnt, rng, out, 0, kept, mnow, hst, ?_, h4 _ _ _ _, fun e => absurd e (by decide), hisv, rfl, rfl, rfl, rfl, ⟨n, w, ln, hR⟩, hsv, hin, hH⟩
      simp only [f_L_join, f_X4_join, h1, ob_n, og_n, fails0n, fails1n, refuse0n, refuse1n, os_ln, os_rn, tf0, tf1, tf2, tf3, i10, i20, i30, im0, e12, e13, e14, e15, e16, e21, e23, e24, e31, e32, e41, e42, e51, e61, if_true, if_false, eq_self, tc0]
    · refine ⟨2, re', de', now, nxt, cnt, rng, out, 0, kept, mnow, hst, ?_, h4 _ _ _ _, fun e => absurd e (by decide), hisv, rfl, rfl, rfl, rfl, ⟨n, w, ln, hR⟩, hsv, hin, hH⟩
      simp only [f_L_join, f_X4_join, h1, ob_n, og_n, fails0n, fails1n, refuse0n, refuse1n, os_ln, os_rn, tf0, tf1, tf2, tf3, i10, i20, i30, im0, e12, e13, e14, e15, e16, e21, e23, e24, e31, e32, e41, e42, e51, e61, if_true, if_false, eq_self, tc0]
theorem S_draw (G : GG isv te re de now sna len sig nxt cnt rng kept rea det misv iit mlen merr mnow msav hst inp) (out : Nat → Int64) (thr : Int32) (a1 : Int32) (a2 : Int32) : ∃ k re' de' now' nxt' cnt' rng' out' b kept' mnow' hst', f_L_draw re de now nxt cnt rng out a1 a2 = some (k, re', de', now', nxt', cnt', rng', out') ∧ f_X5_draw thr kept rea det iit mnow hst a1 a2 = some (b, k, kept', re', de', mnow', hst') ∧ (k = 0 → out' 0 = b.toInt64) ∧ GG isv te re' de' now' sna len sig nxt' cnt' rng' kept' re' de' misv iit mlen merr mnow' msav hst' inp := by
  obtain ⟨hisv, rfl, rfl, rfl, rfl, ⟨n, w, ln, hR⟩, hsv, hin, hH⟩ := G
  rcases J_draw hR re de a1 a2 with ⟨h1, ret, drw', pit', pla', r', w', ln', h2, h3, h4⟩ | ⟨hd, t, re', de', h1, hcd, h4⟩
  · obtain ⟨nxt', cnt', rng', kept', hst', k1, k2, k3⟩ := remember_now mnow hH ⟨n, w, ln, hR⟩
    refine ⟨0, re, de, s_pla (s_pit (s_draws now drw') pit') pla', nxt', cnt', rng', vp_updL out 0 (ret).toInt64, ret, kept', r', hst', ?_, h4 _ _ _ _ _ _ (change_0 _ _ _ k2), fun _ => updL0 _ _, hisv, rfl, rfl, rfl, rfl, ⟨_, _, _, h3⟩, hsv, hin, k3⟩
    simp only [f_L_draw, f_X4_draw, h1, k1, h2, ob_n, og_n, fails0n, fails1n, refuse0n, refuse1n, os_ln, os_rn, tf0, tf1, tf2, tf3, i10, i20, i30, im0, e12, e13, e14, e15, e16, e21, e23, e24, e31, e32, e41, e42, e51, e61, if_true, if_false, eq_self, tc0]
  · rcases hcd with ⟨rfl, rfl⟩ | ⟨rfl, rfl⟩ | ⟨rfl, rfl⟩
    · refine ⟨1, re', de', now, nxt, cnt, rng, out, 0, kept, mnow, hst, ?_, h4 _ _ _ _, fun e => absurd e (by decide), hisv, rfl, rfl, rfl, rfl, ⟨n, w, ln, hR⟩, hsv, hin, hH⟩
      simp only [f_L_draw, f_X4_draw, h1, ob_n, og_n, fails0n, fails1n, refuse0n, refuse1n, os_ln, os_rn, tf0, tf1, tf2, tf3, i10, i20, i30, im0, e12, e13, e14, e15, e16, e21, e23, e24, e31, e32, e41, e42, e51, e61, if_true, if_false, eq_self, tc0]
    · refine ⟨2, re', de', now, nxt, cnt, rng, out, 0, kept, mnow, hst, ?_, h4 _ _ _ _, fun e => absurd e (by decide), hisv, rfl, rfl, rfl, rfl, ⟨n, w, ln, hR⟩, hsv, hin, hH⟩
      simp only [f_L_draw, f_X4_draw, h1, ob_n, og_n, fails0n, fails1n, refuse0n, refuse1n, os_ln, os_rn, tf0, tf1, tf2, tf3, i10, i20, i30, im0, e12, e13, e14, e15, e16, e21, e23, e24, e31, e32, e41, e42, e51, e61, if_true, if_false, eq_self, tc0]
    · refine ⟨3, re', de', now, nxt, cnt, rng, out, 0, kept, mnow, hst, ?_, h4 _ _ _ _, fun e => absurd e (by decide), hisv, rfl, rfl, rfl, rfl, ⟨n, w, ln, hR⟩, hsv, hin, hH⟩
      simp only [f_L_draw, f_X4_draw, h1, ob_n, og_n, fails0n, fails1n, refuse0n, refuse1n, os_ln, os_rn, tf0, tf1, tf2, tf3, i10, i20, i30, im0, e12, e13, e14, e15, e16, e21, e23, e24, e31, e32, e41, e42, e51, e61, if_true, if_false, eq_self, tc0]
theorem S_leave (G : GG isv te re de now sna len sig nxt cnt rng kept rea det misv iit mlen merr mnow msav hst inp) (out : Nat → Int64) (thr : Int32) (a1 : Int32) : ∃ k re' de' now' nxt' cnt' rng' out' b kept' mnow' hst', f_L_leave re de now nxt cnt rng out a1 = some (k, re', de', now', nxt', cnt', rng', out') ∧ f_X5_leave thr kept rea det iit mnow hst a1 = some (b, k, kept', re', de', mnow', hst') ∧ (k = 0 → out' 0 = b.toInt64) ∧ GG isv te re' de' now' sna len sig nxt' cnt' rng' kept' re' de' misv iit mlen merr mnow' msav hst' inp := by
  obtain ⟨hisv, rfl, rfl, rfl, rfl, ⟨n, w, ln, hR⟩, hsv, hin, hH⟩ := G
  rcases J_leave hR re de a1 with ⟨h1, ret, pit', r', h2, h3, h4⟩ | ⟨hd, t, re', de', h1, hcd, h4⟩
  · obtain ⟨nxt', cnt', rng', kept', hst', k1, k2, k3⟩ := remember_now mnow hH ⟨n, w, ln, hR⟩
    refine ⟨0, re, de, s_pit now pit', nxt', cnt', rng', vp_updL out 0 (ret).toInt64, ret, kept', r', hst', ?_, h4 _ _ _ _ _ _ (change_0 _ _ _ k2), fun _ => updL0 _ _, hisv, rfl, rfl, rfl, rfl, ⟨_, _, _, h3⟩, hsv, hin, k3⟩
    simp only [f_L_leave, f_X4_leave, h1, k1, h2, ob_n, og_n, fails0n, fails1n, refuse0n, refuse1n, os_ln, os_rn, tf0, tf1, tf2, tf3, i10, i20, i30, im0, e12, e13, e14, e15, e16, e21, e23, e24, e31, e32, e41, e42, e51, e61, if_true, if_false, eq_self, tc0]
  · rcases hcd with ⟨rfl, rfl⟩ | ⟨rfl, rfl⟩
    · refine ⟨1, re', de', now, nxt, cnt, rng, out, 0, kept, mnow, hst, ?_, h4 _ _ _ _, fun e => absurd e (by decide), hisv, rfl, rfl, rfl, rfl, ⟨n, w, ln, hR⟩, hsv, hin, hH⟩
      simp only [f_L_leave, f_X4_leave, h1, ob_n, og_n, fails0n, fails1n, refuse0n, refuse1n, os_ln, os_rn, tf0, tf1, tf2, tf3, i10, i20, i30, im0, e12, e13, e14, e15, e16, e21, e23, e24, e31, e32, e41, e42, e51, e61, if_true, if_false, eq_self, tc0]
    · refine ⟨2, re', de', now, nxt, cnt, rng, out, 0, kept, mnow, hst, ?_, h4 _ _ _ _, fun e => absurd e (by decide), hisv, rfl, rfl, rfl, rfl, ⟨n, w, ln, hR⟩, hsv, hin, hH⟩
      simp only [f_L_leave, f_X4_leave, h1, ob_n, og_n, fails0n, fails1n, refuse0n, refuse1n, os_ln, os_rn, tf0, tf1, tf2, tf3, i10, i20, i30, im0, e12, e13, e14, e15, e16, e21, e23, e24, e31, e32, e41, e42, e51, e61, if_true, if_false, eq_self, tc0]
theorem S_swap (G : GG isv te re de now sna len sig nxt cnt rng kept rea det misv iit mlen merr mnow msav hst inp) (out : Nat → Int64) (thr : Int32) (a1 : Int32) (a2 : Int32) : ∃ k re' de' now' nxt' cnt' rng' out' b kept' mnow' hst', f_L_swap re de now nxt cnt rng out a1 a2 = some (k, re', de', now', nxt', cnt', rng', out') ∧ f_X5_swap thr kept rea det iit mnow hst a1 a2 = some (b, k, kept', re', de', mnow', hst') ∧ (k = 0 → out' 0 = b.toInt64) ∧ GG isv te re' de' now' sna len sig nxt' cnt' rng' kept' re' de' misv iit mlen merr mnow' msav hst' inp := by
  obtain ⟨hisv, rfl, rfl, rfl, rfl, ⟨n, w, ln, hR⟩, hsv, hin, hH⟩ := G
  rcases J_swap hR re de a1 a2 with ⟨h1, ret, pit', r', h2, h3, h4⟩ | ⟨hd, t, re', de', h1, hcd, h4⟩
  · obtain ⟨nxt', cnt', rng', kept', hst', k1, k2, k3⟩ := remember_now mnow hH ⟨n, w, ln, hR⟩
    refine ⟨0, re, de, s_pit now pit', nxt', cnt', rng', vp_updL out 0 (ret).toInt64, ret, kept', r', hst', ?_, h4 _ _ _ _ _ _ (change_0 _ _ _ k2), fun _ => updL0 _ _, hisv, rfl, rfl, rfl, rfl, ⟨_, _, _, h3⟩, hsv, hin, k3⟩
    simp only [f_L_swap, f_X4_swap, h1, k1, h2, ob_n, og_n, fails0n, fails1n, refuse0n, refuse1n, os_ln, os_rn, tf0, tf1, tf2, tf3, i10, i20, i30, im0, e12, e13, e14, e15, e16, e21, e23, e24, e31, e32, e41, e42, e51, e61, if_true, if_false, eq_self, tc0]
  · rcases hcd with ⟨rfl, rfl⟩ | ⟨rfl, rfl⟩
    · refine ⟨1, re', de', now, nxt, cnt, rng, out, 0, kept, mnow, hst, ?_, h4 _ _ _ _, fun e => absurd e (by decide), hisv, rfl, rfl, rfl, rfl, ⟨n, w, ln, hR⟩, hsv, hin, hH⟩
      simp only [f_L_swap, f_X4_swap, h1, ob_n, og_n, fails0n, fails1n, refuse0n, refuse1n, os_ln, os_rn, tf0, tf1, tf2, tf3, i10, i20, i30, im0, e12, e13, e14, e15, e16, e21, e23, e24, e31, e32, e41, e42, e51, e61, if_true, if_false, eq_self, tc0]
    · refine ⟨2, re', de', now, nxt, cnt, rng, out, 0, kept, mnow, hst, ?_, h4 _ _ _ _, fun e => absurd e (by decide), hisv, rfl, rfl, rfl, rfl, ⟨n, w, ln, hR⟩, hsv, hin, hH⟩
      simp only [f_L_swap, f_X4_swap, h1, ob_n, og_n, fails0n, fails1n, refuse0n, refuse1n, os_ln, os_rn, tf0, tf1, tf2, tf3, i10, i20, i30, im0, e12, e13, e14, e15, e16, e21, e23, e24, e31, e32, e41, e42, e51, e61, if_true, if_false, eq_self, tc0]
theorem S_answer (G : GG isv te re de now sna len sig nxt cnt rng kept rea det misv iit mlen merr mnow msav hst inp) (out : Nat → Int64) (thr : Int32) (a1 : Int32) : ∃ k re' de' now' nxt' cnt' rng' out' b kept' mnow' hst', f_L_answer re de now nxt cnt rng out a1 = some (k, re', de', now', nxt', cnt', rng', out') ∧ f_X5_answer thr kept rea det iit mnow hst a1 = some (b, k, kept', re', de', mnow', hst') ∧ (k = 0 → out' 0 = b.toInt64) ∧ GG isv te re' de' now' sna len sig nxt' cnt' rng' kept' re' de' misv iit mlen merr mnow' msav hst' inp := by
  obtain ⟨hisv, rfl, rfl, rfl, rfl, ⟨n, w, ln, hR⟩, hsv, hin, hH⟩ := G
  rcases J_answer hR re de a1 with ⟨h1, ret, ans', cmp', r', h2, h3, h4⟩ | ⟨hd, t, re', de', h1, hcd, h4⟩
  · obtain ⟨nxt', cnt', rng', kept', hst', k1, k2, k3⟩ := remember_now mnow hH ⟨n, w, ln, hR⟩
    refine ⟨0, re, de, s_cmp (s_answered now ans') cmp', nxt', cnt', rng', vp_updL out 0 (ret).toInt64, ret, kept', r', hst', ?_, h4 _ _ _ _ _ _ (change_0 _ _ _ k2), fun _ => updL0 _ _, hisv, rfl, rfl, rfl, rfl, ⟨_, _, _, h3⟩, hsv, hin, k3⟩
    simp only [f_L_answer, f_X4_answer, h1, k1, h2, ob_n, og_n, fails0n, fails1n, refuse0n, refuse1n, os_ln, os_rn, tf0, tf1, tf2, tf3, i10, i20, i30, im0, e12, e13, e14, e15, e16, e21, e23, e24, e31, e32, e41, e42, e51, e61, if_true, if_false, eq_self, tc0]
  · rcases hcd with ⟨rfl, rfl⟩ | ⟨rfl, rfl⟩
    · refine ⟨1, re', de', now, nxt, cnt, rng, out, 0, kept, mnow, hst, ?_, h4 _ _ _ _, fun e => absurd e (by decide), hisv, rfl, rfl, rfl, rfl, ⟨n, w, ln, hR⟩, hsv, hin, hH⟩
      simp only [f_L_answer, f_X4_answer, h1, ob_n, og_n, fails0n, fails1n, refuse0n, refuse1n, os_ln, os_rn, tf0, tf1, tf2, tf3, i10, i20, i30, im0, e12, e13, e14, e15, e16, e21, e23, e24, e31, e32, e41, e42, e51, e61, if_true, if_false, eq_self, tc0]
    · refine ⟨2, re', de', now, nxt, cnt, rng, out, 0, kept, mnow, hst, ?_, h4 _ _ _ _, fun e => absurd e (by decide), hisv, rfl, rfl, rfl, rfl, ⟨n, w, ln, hR⟩, hsv, hin, hH⟩
      simp only [f_L_answer, f_X4_answer, h1, ob_n, og_n, fails0n, fails1n, refuse0n, refuse1n, os_ln, os_rn, tf0, tf1, tf2, tf3, i10, i20, i30, im0, e12, e13, e14, e15, e16, e21, e23, e24, e31, e32, e41, e42, e51, e61, if_true, if_false, eq_self, tc0]
theorem S_rack (G : GG isv te re de now sna len sig nxt cnt rng kept rea det misv iit mlen merr mnow msav hst inp) (out : Nat → Int64) (thr : Int32) (a1 : Int32) (a2 : Int32) : ∃ k re' de' now' nxt' cnt' rng' out' b kept' mnow' hst', f_L_rack re de now nxt cnt rng out a1 a2 = some (k, re', de', now', nxt', cnt', rng', out') ∧ f_X5_rack thr kept rea det iit mnow hst a1 a2 = some (b, k, kept', re', de', mnow', hst') ∧ (k = 0 → out' 0 = b.toInt64) ∧ GG isv te re' de' now' sna len sig nxt' cnt' rng' kept' re' de' misv iit mlen merr mnow' msav hst' inp := by
  obtain ⟨hisv, rfl, rfl, rfl, rfl, ⟨n, w, ln, hR⟩, hsv, hin, hH⟩ := G
  rcases J_rack hR re de a1 a2 with ⟨h1, ret, cas', r', h2, h3, h4⟩ | ⟨hd, t, re', de', h1, hcd, h4⟩
  · obtain ⟨nxt', cnt', rng', kept', hst', k1, k2, k3⟩ := remember_now mnow hH ⟨n, w, ln, hR⟩
    refine ⟨0, re, de, s_cas now cas', nxt', cnt', rng', vp_updL out 0 (ret).toInt64, ret, kept', r', hst', ?_, h4 _ _ _ _ _ _ (change_0 _ _ _ k2), fun _ => updL0 _ _, hisv, rfl, rfl, rfl, rfl, ⟨_, _, _, h3⟩, hsv, hin, k3⟩
    simp only [f_L_rack, f_X4_rack, h1, k1, h2, ob_n, og_n, fails0n, fails1n, refuse0n, refuse1n, os_ln, os_rn, tf0, tf1, tf2, tf3, i10, i20, i30, im0, e12, e13, e14, e15, e16, e21, e23, e24, e31, e32, e41, e42, e51, e61, if_true, if_false, eq_self, tc0]
  · rcases hcd with ⟨rfl, rfl⟩ | ⟨rfl, rfl⟩
    · refine ⟨1, re', de', now, nxt, cnt, rng, out, 0, kept, mnow, hst, ?_, h4 _ _ _ _, fun e => absurd e (by decide), hisv, rfl, rfl, rfl, rfl, ⟨n, w, ln, hR⟩, hsv, hin, hH⟩
      simp only [f_L_rack, f_X4_rack, h1, ob_n, og_n, fails0n, fails1n, refuse0n, refuse1n, os_ln, os_rn, tf0, tf1, tf2, tf3, i10, i20, i30, im0, e12, e13, e14, e15, e16, e21, e23, e24, e31, e32, e41, e42, e51, e61, if_true, if_false, eq_self, tc0]
    · refine ⟨2, re', de', now, nxt, cnt, rng, out, 0, kept, mnow, hst, ?_, h4 _ _ _ _, fun e => absurd e (by decide), hisv, rfl, rfl, rfl, rfl, ⟨n, w, ln, hR⟩, hsv, hin, hH⟩
      simp only [f_L_rack, f_X4_rack, h1, ob_n, og_n, fails0n, fails1n, refuse0n, refuse1n, os_ln, os_rn, tf0, tf1, tf2, tf3, i10, i20, i30, im0, e12, e13, e14, e15, e16, e21, e23, e24, e31, e32, e41, e42, e51, e61, if_true, if_false, eq_self, tc0]
theorem S_strings (G : GG isv te re de now sna len sig nxt cnt rng kept rea det misv iit mlen merr mnow msav hst inp) (out : Nat → Int64) (thr : Int32) (a1 : Int32) : ∃ k re' de' now' nxt' cnt' rng' out' b kept' mnow' hst', f_L_strings re de now nxt cnt rng out a1 = some (k, re', de', now', nxt', cnt', rng', out') ∧ f_X5_strings thr kept rea det iit mnow hst a1 = some (b, k, kept', re', de', mnow', hst') ∧ (k = 0 → out' 0 = b.toInt64) ∧ GG isv te re' de' now' sna len sig nxt' cnt' rng' kept' re' de' misv iit mlen merr mnow' msav hst' inp := by
  obtain ⟨hisv, rfl, rfl, rfl, rfl, ⟨n, w, ln, hR⟩, hsv, hin, hH⟩ := G
  rcases J_strings hR re de a1 with ⟨h1, b, ret, nws', hat', wea', r', hb, rfl, h2, h5, h3, h4⟩ | ⟨hd, t, re', de', h1, hcd, h4⟩
  · obtain ⟨nxt', cnt', rng', kept', hst', k1, k2, k3⟩ := remember_now mnow hH ⟨n, w, ln, hR⟩
    have hib := inbN (k := b) (N := 8) hb (by decide)
    have hcb := clN (k := b) (by omega)
    refine ⟨0, re, de, s_wea (s_hat (s_nws now nws') hat') wea', nxt', cnt', rng', vp_updL out 0 (ret).toInt64, ret, kept', r', hst', ?_, h4 _ _ _ _ _ _ (change_0 _ _ _ k2), fun _ => updL0 _ _, hisv, rfl, rfl, rfl, rfl, ⟨_, _, _, h3⟩, hsv, hin, k3⟩
    simp only [f_L_strings, f_X4_strings, h1, k1, h2, hib, hcb, h5, ob_n, og_n, fails0n, fails1n, refuse0n, refuse1n, os_ln, os_rn, tf0, tf1, tf2, tf3, i10, i20, i30, im0, e12, e13, e14, e15, e16, e21, e23, e24, e31, e32, e41, e42, e51, e61, if_true, if_false, eq_self, tc0]
  · rcases hcd with ⟨rfl, rfl⟩ | ⟨rfl, rfl⟩
    · refine ⟨1, re', de', now, nxt, cnt, rng, out, 0, kept, mnow, hst, ?_, h4 _ _ _ _, fun e => absurd e (by decide), hisv, rfl, rfl, rfl, rfl, ⟨n, w, ln, hR⟩, hsv, hin, hH⟩
      simp only [f_L_strings, f_X4_strings, h1, ob_n, og_n, fails0n, fails1n, refuse0n, refuse1n, os_ln, os_rn, tf0, tf1, tf2, tf3, i10, i20, i30, im0, e12, e13, e14, e15, e16, e21, e23, e24, e31, e32, e41, e42, e51, e61, if_true, if_false, eq_self, tc0]
    · refine ⟨2, re', de', now, nxt, cnt, rng, out, 0, kept, mnow, hst, ?_, h4 _ _ _ _, fun e => absurd e (by decide), hisv, rfl, rfl, rfl, rfl, ⟨n, w, ln, hR⟩, hsv, hin, hH⟩
      simp only [f_L_strings, f_X4_strings, h1, ob_n, og_n, fails0n, fails1n, refuse0n, refuse1n, os_ln, os_rn, tf0, tf1, tf2, tf3, i10, i20, i30, im0, e12, e13, e14, e15, e16, e21, e23, e24, e31, e32, e41, e42, e51, e61, if_true, if_false, eq_self, tc0]
theorem S_unrack (G : GG isv te re de now sna len sig nxt cnt rng kept rea det misv iit mlen merr mnow msav hst inp) (out : Nat → Int64) (thr : Int32) (a1 : Int32) : ∃ k re' de' now' nxt' cnt' rng' out' b kept' mnow' hst', f_L_unrack re de now nxt cnt rng out a1 = some (k, re', de', now', nxt', cnt', rng', out') ∧ f_X5_unrack thr kept rea det iit mnow hst a1 = some (b, k, kept', re', de', mnow', hst') ∧ (k = 0 → out' 0 = b.toInt64) ∧ GG isv te re' de' now' sna len sig nxt' cnt' rng' kept' re' de' misv iit mlen merr mnow' msav hst' inp := by
  obtain ⟨hisv, rfl, rfl, rfl, rfl, ⟨n, w, ln, hR⟩, hsv, hin, hH⟩ := G
  rcases J_unrack hR re de a1 with ⟨h1, b, r', hb, rfl, h3, h4⟩ | ⟨hd, t, re', de', h1, hcd, h4⟩
  · obtain ⟨nxt', cnt', rng', kept', hst', k1, k2, k3⟩ := remember_now mnow hH ⟨n, w, ln, hR⟩
    have hib := inbN (k := b) (N := 8) hb (by decide)
    have hcb := clN (k := b) (by omega)
    refine ⟨0, re, de, s_cas now (upd (g_cas now) b (-1)), nxt', cnt', rng', vp_updL out 0 (g_cas now b).toInt64, g_cas now b, kept', r', hst', ?_, h4 _ _ _ _ _ _ (change_0 _ _ _ k2), fun _ => updL0 _ _, hisv, rfl, rfl, rfl, rfl, ⟨_, _, _, h3⟩, hsv, hin, k3⟩
    simp only [f_L_unrack, f_X4_unrack, h1, k1, hib, hcb, ob_n, og_n, fails0n, fails1n, refuse0n, refuse1n, os_ln, os_rn, tf0, tf1, tf2, tf3, i10, i20, i30, im0, e12, e13, e14, e15, e16, e21, e23, e24, e31, e32, e41, e42, e51, e61, if_true, if_false, eq_self, tc0]
  · rcases hcd with ⟨rfl, rfl⟩ | ⟨rfl, rfl⟩
    · refine ⟨1, re', de', now, nxt, cnt, rng, out, 0, kept, mnow, hst, ?_, h4 _ _ _ _, fun e => absurd e (by decide), hisv, rfl, rfl, rfl, rfl, ⟨n, w, ln, hR⟩, hsv, hin, hH⟩
      simp only [f_L_unrack, f_X4_unrack, h1, ob_n, og_n, fails0n, fails1n, refuse0n, refuse1n, os_ln, os_rn, tf0, tf1, tf2, tf3, i10, i20, i30, im0, e12, e13, e14, e15, e16, e21, e23, e24, e31, e32, e41, e42, e51, e61, if_true, if_false, eq_self, tc0]
    · refine ⟨2, re', de', now, nxt, cnt, rng, out, 0, kept, mnow, hst, ?_, h4 _ _ _ _, fun e => absurd e (by decide), hisv, rfl, rfl, rfl, rfl, ⟨n, w, ln, hR⟩, hsv, hin, hH⟩
      simp only [f_L_unrack, f_X4_unrack, h1, ob_n, og_n, fails0n, fails1n, refuse0n, refuse1n, os_ln, os_rn, tf0, tf1, tf2, tf3, i10, i20, i30, im0, e12, e13, e14, e15, e16, e21, e23, e24, e31, e32, e41, e42, e51, e61, if_true, if_false, eq_self, tc0]
theorem S_crowd (G : GG isv te re de now sna len sig nxt cnt rng kept rea det misv iit mlen merr mnow msav hst inp) (out : Nat → Int64) (thr a1 : Int32) : ∃ k now' nxt' cnt' rng' out' b kept' mnow' hst', f_L_crowd now nxt cnt rng out a1 = some (k, now', nxt', cnt', rng', out') ∧ f_X5_crowd thr kept iit mnow hst a1 = some (b, k, kept', mnow', hst') ∧ (k = 0 → out' 0 = b.toInt64) ∧ GG isv te re de now' sna len sig nxt' cnt' rng' kept' rea det misv iit mlen merr mnow' msav hst' inp := by
  obtain ⟨hisv, rfl, rfl, rfl, rfl, ⟨n, w, ln, hR⟩, hsv, hin, hH⟩ := G
  rcases J_crowd hR a1 with ⟨h1, r', h3, h4⟩ | ⟨h1, h4⟩
  · obtain ⟨nxt', cnt', rng', kept', hst', k1, k2, k3⟩ := remember_now mnow hH ⟨n, w, ln, hR⟩
    refine ⟨0, s_crowd now a1, nxt', cnt', rng', vp_updL out 0 (g_crowd now).toInt64, g_crowd now, kept', r', hst', ?_, h4 _ _ _ _ _ _ (change_0 _ _ _ k2), fun _ => updL0 _ _, hisv, rfl, rfl, rfl, rfl, ⟨_, _, _, h3⟩, hsv, hin, k3⟩
    simp only [f_L_crowd, f_X4_crowd, h1, k1, ob_n, og_n, fails0n, fails1n, refuse0n, refuse1n, os_ln, os_rn, tf0, tf1, tf2, tf3, i10, i20, i30, im0, e12, e13, e14, e15, e16, e21, e23, e24, e31, e32, e41, e42, e51, e61, if_true, if_false, eq_self, tc0]
  · refine ⟨1, now, nxt, cnt, rng, out, 0, kept, mnow, hst, ?_, h4 _ _ _ _, fun e => absurd e (by decide), hisv, rfl, rfl, rfl, rfl, ⟨n, w, ln, hR⟩, hsv, hin, hH⟩
    simp only [f_L_crowd, f_X4_crowd, h1, ob_n, og_n, fails0n, fails1n, refuse0n, refuse1n, os_ln, os_rn, tf0, tf1, tf2, tf3, i10, i20, i30, im0, e12, e13, e14, e15, e16, e21, e23, e24, e31, e32, e41, e42, e51, e61, if_true, if_false, eq_self, tc0]
theorem S_limit (G : GG isv te re de now sna len sig nxt cnt rng kept rea det misv iit mlen merr mnow msav hst inp) (out : Nat → Int64) (thr a1 a2 : Int32) : ∃ k now' nxt' cnt' rng' out' b kept' mnow' hst', f_L_limit now nxt cnt rng out a1 a2 = some (k, now', nxt', cnt', rng', out') ∧ f_X5_limit thr kept iit mnow hst a1 a2 = some (b, k, kept', mnow', hst') ∧ (k = 0 → out' 0 = b.toInt64) ∧ GG isv te re de now' sna len sig nxt' cnt' rng' kept' rea det misv iit mlen merr mnow' msav hst' inp := by
  obtain ⟨hisv, rfl, rfl, rfl, rfl, ⟨n, w, ln, hR⟩, hsv, hin, hH⟩ := G
  rcases J_limit hR a1 a2 with ⟨b, hb, rfl, h1, h2, r', h3, h4⟩ | ⟨hd, t, h1, hcd, h4⟩
  · obtain ⟨nxt', cnt', rng', kept', hst', k1, k2, k3⟩ := remember_now mnow hH ⟨n, w, ln, hR⟩
    have hib := inbN (k := b) (N := 8) hb (by decide)
    have hcb := clN (k := b) (by omega)
    refine ⟨0, s_lim now (vf_upd (g_lim now) b (FP.i2f a2)), nxt', cnt', rng', vp_updL out 0 ((g_lim now b).toInt32).toInt64, (g_lim now b).toInt32, kept', r', hst', ?_, h4 _ _ _ _ _ _ (change_0 _ _ _ k2), fun _ => updL0 _ _, hisv, rfl, rfl, rfl, rfl, ⟨_, _, _, h3⟩, hsv, hin, k3⟩
    simp only [f_L_limit, f_X4_limit, h1, k1, hib, hcb, h2, ob_n, og_n, fails0n, fails1n, refuse0n, refuse1n, os_ln, os_rn, tf0, tf1, tf2, tf3, i10, i20, i30, im0, e12, e13, e14, e15, e16, e21, e23, e24, e31, e32, e41, e42, e51, e61, if_true, if_false, eq_self, tc0]
  · rcases hcd with ⟨rfl, rfl⟩ | ⟨rfl, rfl⟩
    · refine ⟨1, now, nxt, cnt, rng, out, 0, kept, mnow, hst, ?_, h4 _ _ _ _, fun e => absurd e (by decide), hisv, rfl, rfl, rfl, rfl, ⟨n, w, ln, hR⟩, hsv, hin, hH⟩
      simp only [f_L_limit, f_X4_limit, h1, ob_n, og_n, fails0n, fails1n, refuse0n, refuse1n, os_ln, os_rn, tf0, tf1, tf2, tf3, i10, i20, i30, im0, e12, e13, e14, e15, e16, e21, e23, e24, e31, e32, e41, e42, e51, e61, if_true, if_false, eq_self, tc0]
    · refine ⟨2, now, nxt, cnt, rng, out, 0, kept, mnow, hst, ?_, h4 _ _ _ _, fun e => absurd e (by decide), hisv, rfl, rfl, rfl, rfl, ⟨n, w, ln, hR⟩, hsv, hin, hH⟩
      simp only [f_L_limit, f_X4_limit, h1, ob_n, og_n, fails0n, fails1n, refuse0n, refuse1n, os_ln, os_rn, tf0, tf1, tf2, tf3, i10, i20, i30, im0, e12, e13, e14, e15, e16, e21, e23, e24, e31, e32, e41, e42, e51, e61, if_true, if_false, eq_self, tc0]
theorem S_pass (G : GG isv te re de now sna len sig nxt cnt rng kept rea det misv iit mlen merr mnow msav hst inp) (out : Nat → Int64) (thr : Int32) (noi : Nat → UInt32) (a1 : Int32) : ∃ k now' nxt' cnt' rng' out' b kept' mnow' hst' noi', f_L_pass now nxt cnt rng out a1 = some (k, now', nxt', cnt', rng', out') ∧ f_X5_pass thr kept iit mnow hst noi a1 = some (b, k, kept', mnow', hst', noi') ∧ (k = 0 → out' 0 = b.toInt64) ∧ GG isv te re de now' sna len sig nxt' cnt' rng' kept' rea det misv iit mlen merr mnow' msav hst' inp := by
  obtain ⟨hisv, rfl, rfl, rfl, rfl, ⟨n, w, ln, hR⟩, hsv, hin, hH⟩ := G
  rcases J_pass hR a1 with ⟨h1, h5⟩ | ⟨h1, h4⟩
  · obtain ⟨nxt', cnt', rng', kept', hst', k1, k2, k3⟩ := remember_now mnow hH ⟨n, w, ln, hR⟩
    obtain ⟨g, hour', cmp', sof', pit', hrs', hat', wea', row', r', noi', h2, h3, h4⟩ := h5 noi
    refine ⟨0, _, nxt', cnt', rng', vp_updL out 0 g.toInt64, g, kept', r', hst', noi', ?_, h4 _ _ _ _ _ _ (change_0 _ _ _ k2), fun _ => updL0 _ _, hisv, rfl, rfl, rfl, rfl, ⟨_, _, _, h3⟩, hsv, hin, k3⟩
    simp only [f_L_pass, f_X4_pass, h1, k1, h2, ob_n, og_n, fails0n, fails1n, refuse0n, refuse1n, os_ln, os_rn, tf0, tf1, tf2, tf3, i10, i20, i30, im0, e12, e13, e14, e15, e16, e21, e23, e24, e31, e32, e41, e42, e51, e61, if_true, if_false, eq_self, tc0]
  · refine ⟨1, now, nxt, cnt, rng, out, 0, kept, mnow, hst, noi, ?_, h4 _ _ _ _ _, fun e => absurd e (by decide), hisv, rfl, rfl, rfl, rfl, ⟨n, w, ln, hR⟩, hsv, hin, hH⟩
    simp only [f_L_pass, f_X4_pass, h1, ob_n, og_n, fails0n, fails1n, refuse0n, refuse1n, os_ln, os_rn, tf0, tf1, tf2, tf3, i10, i20, i30, im0, e12, e13, e14, e15, e16, e21, e23, e24, e31, e32, e41, e42, e51, e61, if_true, if_false, eq_self, tc0]
end STEPS
