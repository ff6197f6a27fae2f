/-! orders and other changes, on both sides -/
def RV (x : SV) (r : Nat → Int32) (n w : Nat) (ln : Nat → Nat) : Prop := Rl (g_hour x) (g_crowd x) (g_buskers x) (g_answered x) (g_draws x) (g_lim x) (g_cmp x) (g_sof x) (g_kin x) (g_lou x) (g_pit x) (g_pla x) (g_cas x) (g_hrs x) (g_nws x) (g_hat x) (g_wea x) r n w ln
theorem rc_crowd (a : Int32) : (f_X4_hindranceOfRange a 0 50 = some 2 ∧ f_X5_isBetween a 0 50 = some 0) ∨ ∃ c, c ≤ 50 ∧ a = nI c ∧ f_X4_hindranceOfRange a 0 50 = some 0 ∧ f_X5_isBetween a 0 50 = some 1 := by
  rcases range_cases (lo := 0) (hi := 50) (by decide) (by decide) a with h | ⟨c, -, h1, h2, h3⟩
  · exact Or.inl h
  · exact Or.inr ⟨c, h1, h2, h3⟩
theorem rc_pass (a : Int32) : (f_X4_hindranceOfRange a 1 60 = some 2 ∧ f_X5_isBetween a 1 60 = some 0) ∨ ∃ c, c ≤ 60 ∧ a = nI c ∧ f_X4_hindranceOfRange a 1 60 = some 0 ∧ f_X5_isBetween a 1 60 = some 1 := by
  rcases range_cases (lo := 1) (hi := 60) (by decide) (by decide) a with h | ⟨c, -, h1, h2, h3⟩
  · exact Or.inl h
  · exact Or.inr ⟨c, h1, h2, h3⟩
theorem rc_look (a : Int32) : (f_X4_hindranceOfRange a 0 60 = some 2 ∧ f_X5_isBetween a 0 60 = some 0) ∨ ∃ c, c ≤ 60 ∧ a = nI c ∧ f_X4_hindranceOfRange a 0 60 = some 0 ∧ f_X5_isBetween a 0 60 = some 1 := by
  rcases range_cases (lo := 0) (hi := 60) (by decide) (by decide) a with h | ⟨c, -, h1, h2, h3⟩
  · exact Or.inl h
  · exact Or.inr ⟨c, h1, h2, h3⟩
theorem rc_limit (a : Int32) : (f_X4_hindranceOfRange a 40 120 = some 2 ∧ f_X5_isBetween a 40 120 = some 0) ∨ ∃ c, c ≤ 120 ∧ a = nI c ∧ f_X4_hindranceOfRange a 40 120 = some 0 ∧ f_X5_isBetween a 40 120 = some 1 := by
  rcases range_cases (lo := 40) (hi := 120) (by decide) (by decide) a with h | ⟨c, -, h1, h2, h3⟩
  · exact Or.inl h
  · exact Or.inr ⟨c, h1, h2, h3⟩
/-- a range asked by two comparisons -/
theorem two_cases (lo hi : Int32) {l m : Nat} (hl : lo = nI l) (hm : hi = nI m) (hl9 : l < 1000) (hm9 : m < 1000) (a : Int32) : (a < lo ∧ f_X5_isBetween a lo hi = some 0) ∨ (¬ a < lo ∧ ¬ a ≤ hi ∧ f_X5_isBetween a lo hi = some 0) ∨ ∃ c, l ≤ c ∧ c ≤ m ∧ a = nI c ∧ ¬ a < lo ∧ a ≤ hi ∧ f_X5_isBetween a lo hi = some 1 := by
  subst hl
  subst hm
  rw [between]
  by_cases h1 : a < nI l
  · left; exact ⟨h1, by rw [if_neg (fun h => absurd h1 (Int32.not_lt.mpr h.1))]⟩
  · by_cases h2 : a ≤ nI m
    · right; right
      have h0 : ¬ a < 0 := fun h => h1 (by
        rw [Int32.lt_iff_toInt_lt] at h ⊢
        rw [nI_toInt (by omega)]
        have : (0 : Int32).toInt = 0 := rfl
        omega)
      obtain ⟨c, hc, rfl⟩ := nI_of2 (n := m) (nI_toInt (by omega)) h0 h2
      refine ⟨c, ?_, hc, rfl, h1, h2, by rw [if_pos ⟨Int32.not_lt.mp h1, h2⟩]⟩
      rw [nI_ltI (by omega) (by omega)] at h1; omega
    · right; left; exact ⟨h1, h2, by rw [if_neg (fun h => h2 h.2)]⟩
theorem i2f_ok : ∀ c, c ≤ 120 → (FP.i2f (nI c)).toNat ≤ 1123024896 := by decide +kernel
theorem J_crowd {x : SV} {r : Nat → Int32} {n w : Nat} {ln : Nat → Nat} (h : RV x r n w ln) (a : Int32) :
    (f_X4_hindranceOfCrowd a = some 0 ∧ ∃ r', RV (s_crowd x a) r' n w ln ∧ ∀ (thr kept iit : Int32) (hst : Nat → Nat → Int32) (kept' : Int32) (hst' : Nat → Nat → Int32), f_X5_change kept iit r hst = some (kept', hst') → f_X5_crowd thr kept iit r hst a = some (g_crowd x, 0, kept', r', hst')) ∨
    (f_X4_hindranceOfCrowd a = some 2 ∧ ∀ (thr kept iit : Int32) (hst : Nat → Nat → Int32), f_X5_crowd thr kept iit r hst a = some (0, 1, kept, r, hst)) := by
  obtain ⟨hA, h0, hc, hP, hL, hC, hS, hB, hK, hF, hW, hI, hG, hE, hN, hD⟩ := id h
  unfold f_X4_hindranceOfCrowd
  rcases rc_crowd a with ⟨c1, c2⟩ | ⟨c, hc9, rfl, c1, c2⟩
  · right
    refine ⟨by rw [c1]; rfl, fun thr kept iit hst => ?_⟩
    simp only [f_X5_crowd, f_X5_crowd_c17, c2, ob_s, og_t, fails0, fails1, refuse0, refuse1, i10, i20, i30, im0, if_true, if_false, eq_self, f_X4_refuse]
  · left
    refine ⟨by rw [c1]; rfl, _, T_crowd h hc9, fun thr kept iit hst kept' hst' hch => ?_⟩
    simp only [f_X5_crowd, f_X5_crowd_c17, c2, hch, ib1, tc1, h0.2.1, ob_s, og_t, fails0, fails1, refuse0, refuse1, i10, i20, i30, im0, if_true, if_false, eq_self, f_X4_refuse]
theorem J_limit {x : SV} {r : Nat → Int32} {n w : Nat} {ln : Nat → Nat} (h : RV x r n w ln) (a1 a2 : Int32) :
    (∃ k, k < 8 ∧ a1 = nI k ∧ f_X4_hindranceOfLimit a1 a2 = some 0 ∧ f_X0_ofFloat (g_lim x k) = some (g_lim x k).toInt32 ∧ ∃ r', RV (s_lim x (vf_upd (g_lim x) k (FP.i2f a2))) r' n w ln ∧ ∀ (thr kept iit : Int32) (hst : Nat → Nat → Int32) (kept' : Int32) (hst' : Nat → Nat → Int32), f_X5_change kept iit r hst = some (kept', hst') → f_X5_limit thr kept iit r hst a1 a2 = some ((g_lim x k).toInt32, 0, kept', r', hst')) ∨
    (∃ hd t, f_X4_hindranceOfLimit a1 a2 = some hd ∧ ((hd = 1 ∧ t = 1) ∨ (hd = 2 ∧ t = 2)) ∧ ∀ (thr kept iit : Int32) (hst : Nat → Nat → Int32), f_X5_limit thr kept iit r hst a1 a2 = some (0, t, kept, r, hst)) := by
  obtain ⟨hA, h0, hc, hP, hL, hC, hS, hB, hK, hF, hW, hI, hG, hE, hN, hD⟩ := id h
  unfold f_X4_hindranceOfLimit
  rcases pitch_cases a1 with ⟨p1, p2⟩ | ⟨k, hk, rfl, p1, p2⟩
  · right
    refine ⟨1, 1, by rw [p1]; rfl, Or.inl ⟨rfl, rfl⟩, fun thr kept iit hst => ?_⟩
    simp only [f_X5_limit, f_X5_limit_c14, p2, ob_s, og_t, fails0, fails1, refuse0, refuse1, i10, i20, i30, im0, if_true, if_false, eq_self, f_X4_refuse]
  · rcases rc_limit a2 with ⟨c1, c2⟩ | ⟨c, hc9, rfl, c1, c2⟩
    · right
      refine ⟨2, 2, by simp only [p1, c1, ob_s, og_t, fails0, fails1, refuse0, refuse1, i10, i20, i30, im0, if_true, if_false, eq_self, f_X4_refuse], Or.inr ⟨rfl, rfl⟩, fun thr kept iit hst => ?_⟩
      simp only [f_X5_limit, f_X5_limit_c14, f_X5_limit_c38, p2, c2, ob_s, og_t, fails0, fails1, refuse0, refuse1, i10, i20, i30, im0, if_true, if_false, eq_self, f_X4_refuse]
    · left
      have hx := i2f_ok c hc9
      have hl := hL k hk
      refine ⟨k, hk, rfl, by simp only [p1, c1, ob_s, og_t, fails0, fails1, refuse0, refuse1, i10, i20, i30, im0, if_true, if_false, eq_self, f_X4_refuse], ofFloat_n (by omega), _, T_limit h hk hx, fun thr kept iit hst kept' hst' hch => ?_⟩
      simp only [f_X5_limit, f_X5_limit_c14, f_X5_limit_c38, p2, c2, hch, ofP0 r hk, puP0 r hk, (hP k hk).1, fToI_n (x := FP.i2f (nI c)) (by omega), ob_s, og_t, fails0, fails1, refuse0, refuse1, i10, i20, i30, im0, if_true, if_false, eq_self, f_X4_refuse]
theorem J_busker {x : SV} {r : Nat → Int32} {n w : Nat} {ln : Nat → Nat} (h : RV x r n w ln) (re de a1 a2 : Int32) :
    (f_X4_hindranceOfBusker re de x a1 a2 = some (0, re, de) ∧ ∃ bus' kin' lou' r' n', f_X3_addBusker (g_buskers x) (g_kin x) (g_lou x) a1 a2 = some (nI n, bus', kin', lou') ∧ RV (s_lou (s_kin (s_buskers x bus') kin') lou') r' n' w ln ∧ ∀ (thr kept iit : Int32) (hst : Nat → Nat → Int32) (kept' : Int32) (hst' : Nat → Nat → Int32), f_X5_change kept iit r hst = some (kept', hst') → f_X5_busker thr kept re de iit r hst a1 a2 = some (nI n, 0, kept', re, de, r', hst')) ∨
    (∃ hd t re' de', f_X4_hindranceOfBusker re de x a1 a2 = some (hd, re', de') ∧ ((hd = 2 ∧ t = 1) ∨ (hd = 3 ∧ t = 2)) ∧ ∀ (thr kept iit : Int32) (hst : Nat → Nat → Int32), f_X5_busker thr kept re de iit r hst a1 a2 = some (0, t, kept, re', de', r, hst)) := by
  obtain ⟨hA, h0, hc, hP, hL, hC, hS, hB, hK, hF, hW, hI, hG, hE, hN, hD⟩ := id h
  have hn8 := hA.2.1
  have hbx : g_buskers x = nI n := hA.1
  have hb2 := hA.2.2
  -- the kind
  have hkind : (f_X5_isBetween a1 0 1 = some 0 ∧ ¬ a1 = 0 ∧ ¬ a1 = 1) ∨ (f_X5_isBetween a1 0 1 = some 1 ∧ (a1 = 0 ∨ a1 = 1)) := by
    rcases two_cases 0 1 (l := 0) (m := 1) rfl rfl (by decide) (by decide) a1 with ⟨q1, q2⟩ | ⟨q0, q1, q2⟩ | ⟨c, -, hc1, rfl, -, -, q2⟩
    · exact Or.inl ⟨q2, fun e => by rw [e] at q1; exact absurd q1 (by decide), fun e => by rw [e] at q1; exact absurd q1 (by decide)⟩
    · exact Or.inl ⟨q2, fun e => by rw [e] at q1; exact q1 (by decide), fun e => by rw [e] at q1; exact q1 (by decide)⟩
    · right
      refine ⟨q2, ?_⟩
      rcases (show c = 0 ∨ c = 1 by omega) with rfl | rfl
      · exact Or.inl rfl
      · exact Or.inr rfl
  rcases hkind with ⟨k1, k2, k3⟩ | ⟨k1, k2⟩
  · right
    refine ⟨2, 1, re, de, by unfold f_X4_hindranceOfBusker; rw [if_neg k2, if_neg k3], Or.inl ⟨rfl, rfl⟩, fun thr kept iit hst => ?_⟩
    simp only [f_X5_busker, f_X5_busker_c21, f_X5_busker_c26, k1, ob_s, og_t, fails0, fails1, refuse0, refuse1, i10, i20, i30, im0, if_true, if_false, eq_self, f_X4_refuse]
  · have hcls : f_X4_hindranceOfBusker re de x a1 a2 = f_X4_hindranceOfBusker_c11 x a2 re de := by
      unfold f_X4_hindranceOfBusker
      rcases k2 with e | e
      · rw [if_pos e]
      · rw [if_neg (by rw [e]; decide), if_pos e]
    rw [hcls]
    unfold f_X4_hindranceOfBusker_c11
    rcases two_cases 1 9 (l := 1) (m := 9) rfl rfl (by decide) (by decide) a2 with ⟨q1, q2⟩ | ⟨q0, q1, q2⟩ | ⟨l, hl1, hl2, rfl, q0, q1, q2⟩
    · right
      refine ⟨2, 1, re, de, by rw [if_pos q1], Or.inl ⟨rfl, rfl⟩, fun thr kept iit hst => ?_⟩
      simp only [f_X5_busker, f_X5_busker_c21, f_X5_busker_c26, k1, q2, ob_s, og_t, fails0, fails1, refuse0, refuse1, i10, i20, i30, im0, if_true, if_false, eq_self, f_X4_refuse]
    · right
      refine ⟨2, 1, re, de, by rw [if_neg q0, if_neg q1], Or.inl ⟨rfl, rfl⟩, fun thr kept iit hst => ?_⟩
      simp only [f_X5_busker, f_X5_busker_c21, f_X5_busker_c26, k1, q2, ob_s, og_t, fails0, fails1, refuse0, refuse1, i10, i20, i30, im0, if_true, if_false, eq_self, f_X4_refuse]
    · rw [if_neg q0, if_pos q1, hbx]
      by_cases h8 : n < 8
      · left
        rw [if_pos (show nI n < (8 : Int32) from nI_lt (b := 8) h8 (by decide))]
        have hne : ¬ nI n = (8 : Int32) := fun e => by
          have := (nI_eq (a := n) (b := 8) (by omega) (by decide)).mp e
          omega
        refine ⟨rfl, nI (n + 1), upd (g_kin x) n a1, upd (g_lou x) n (nI l), _, n + 1, ?_, T_busker h h8 (a := a1) k2 hl1 hl2, fun thr kept iit hst kept' hst' hch => ?_⟩
        · unfold f_X3_addBusker
          rw [if_neg (nI_pos (by omega)), if_pos (show nI n < (8 : Int32) from nI_lt (b := 8) h8 (by decide)), inbN h8 (by decide), og_t, og_t, clN (by omega), nI_1, nI_pred]
        · have hz : (FP.fconst0 : UInt32).toNat < 2139095040 := by decide
          simp only [f_X5_busker, f_X5_busker_c26, f_X5_busker_c51, k1, q2, hch, ib2, tc2, hb2, hne, ob_s, og_t, fails0, fails1, refuse0, refuse1, i10, i20, i30, im0, if_true, if_false, eq_self, f_X4_refuse, nI_1, pu0 _ h8, pu1 _ h8, pf2 _ h8 hz, pf3 _ h8 hz, pu4 _ h8, pu5 _ h8, pu6 _ h8, pu7 _ h8]
      · right
        have h9 : n = 8 := by omega
        rw [if_neg (show ¬ nI n < (8 : Int32) from nI_nlt (b := 8) (by omega) (by omega))]
        refine ⟨3, 2, 1, 8, rfl, Or.inr ⟨rfl, rfl⟩, fun thr kept iit hst => ?_⟩
        have he : nI n = (8 : Int32) := by rw [h9]; rfl
        simp only [f_X5_busker, f_X5_busker_c26, f_X5_busker_c51, k1, q2, ib2, tc2, hb2, he, ob_s, og_t, fails0, fails1, refuse0, refuse1, i10, i20, i30, im0, if_true, if_false, eq_self, f_X4_refuse]
theorem J_join {x : SV} {r : Nat → Int32} {n w : Nat} {ln : Nat → Nat} (h : RV x r n w ln) (re de a : Int32) :
    (f_X4_hindranceOfJoin re de x a = some (0, re, de) ∧ ∃ ret pla' r' w' ln', f_X3_putInLine (g_pla x) a = some (ret, pla') ∧ RV (s_pla x pla') r' n w' ln' ∧ ∀ (thr kept iit : Int32) (hst : Nat → Nat → Int32) (kept' : Int32) (hst' : Nat → Nat → Int32), f_X5_change kept iit r hst = some (kept', hst') → f_X5_join thr kept re de iit r hst a = some (ret, 0, kept', re, de, r', hst')) ∨
    (∃ hd t re' de', f_X4_hindranceOfJoin re de x a = some (hd, re', de') ∧ ((hd = 1 ∧ t = 1) ∨ (hd = 3 ∧ t = 2)) ∧ ∀ (thr kept iit : Int32) (hst : Nat → Nat → Int32), f_X5_join thr kept re de iit r hst a = some (0, t, kept, re', de', r, hst)) := by
  obtain ⟨hA, h0, hc, hP, hL, hC, hS, hB, hK, hF, hW, hI, hG, hE, hN, hD⟩ := id h
  have hn8 := hA.2.1
  have hbx : g_buskers x = nI n := hA.1
  unfold f_X4_hindranceOfJoin
  rw [hbx]
  rcases busk_cases hn8 hA.2.2 a with ⟨c1, c2⟩ | ⟨b, hb, rfl, c1, c2⟩
  · right
    refine ⟨1, 1, re, de, by rw [c1]; rfl, Or.inl ⟨rfl, rfl⟩, fun thr kept iit hst => ?_⟩
    simp only [f_X5_join, f_X5_join_c15, c2, ob_s, og_t, fails0, fails1, refuse0, refuse1, i10, i20, i30, im0, if_true, if_false, eq_self, f_X4_refuse]
  · have hpl := place_eq hn8 hN (b := b) (by omega)
    obtain ⟨-, -, -, a3, a4, -⟩ := hB b hb
    have hsn : f_X5_isSnapped r (nI b) = some (if Op.cmpValue (FP.fcmp (g_wea x b) FP.fconst1) .l < 0 then 0 else 1) := by
      unfold f_X5_isSnapped
      rw [fo3 r (by omega) a3 (by have := (hF b (by omega)).2; omega), ob_s]
      split <;> rfl
    have hi := inbN (k := b) (N := 8) (by omega) (by decide)
    have hcl := clN (k := b) (by omega)
    by_cases h1 : g_pla x b = -1
    · by_cases h2 : g_pit x b = -1
      · by_cases h3 : Op.cmpValue (FP.fcmp (g_wea x b) FP.fconst1) .l < 0
        · left
          have hw8 := T_room h (b := b) (by omega) h1
          refine ⟨by simp only [f_X3_isSnapped, c1, hi, hcl, h1, h2, h3, ob_s, og_t, fails0, fails1, refuse0, refuse1, i10, i20, i30, im0, if_true, if_false, eq_self, f_X4_refuse], nI (w + 1), upd (g_pla x) b (nI w), _, w + 1, _, ?_, T_join h hb h1 h2, fun thr kept iit hst kept' hst' hch => ?_⟩
          · have hJ := (T_join h hb h1 h2).2.2.2.2.2.2.2.2.2.2.2.2.2.2.1.2.2.2
            unfold f_X3_putInLine
            rw [cntWaiting, hN.2.2.2, ob_s, hi, og_t, hcl, cntWaiting, hJ, ob_s]
          · have e1 : (104 : Int32) + nI w = nI (104 + w) := nI_add 104 w
            have e2 := clN (k := 104 + w) (by omega)
            have e3 := inbN (k := 104 + w) (N := 112) (by omega) (by decide)
            have e4 : upd r (104 + w) (nI b) 3 = nI w := by rw [upd_ne _ _ (by omega)]; exact hN.1
            simp only [f_X5_join, f_X5_join_c15, f_X5_isJoinRefused, f_X5_isJoinRefused_c24, f_X5_isJoinRefused_c43, c2, hpl, of4 r (show b < 8 by omega), a4, hsn, h1, h2, h3, hch, ib3, tc3, hN.1, e1, e2, e3, e4, upd_eq, nI_1, ob_s, og_t, fails0, fails1, refuse0, refuse1, i10, i20, i30, im0, if_true, if_false, eq_self, f_X4_refuse]
        · right
          refine ⟨3, 2, 4, nI b, by simp only [f_X3_isSnapped, c1, hi, hcl, h1, h2, h3, ob_s, og_t, fails0, fails1, refuse0, refuse1, i10, i20, i30, im0, if_true, if_false, eq_self, f_X4_refuse], Or.inr ⟨rfl, rfl⟩, fun thr kept iit hst => ?_⟩
          simp only [f_X5_join, f_X5_join_c15, f_X5_isJoinRefused, f_X5_isJoinRefused_c24, f_X5_isJoinRefused_c43, c2, hpl, of4 r (show b < 8 by omega), a4, hsn, h1, h2, h3, ob_s, og_t, fails0, fails1, refuse0, refuse1, i10, i20, i30, im0, if_true, if_false, eq_self, f_X4_refuse]
      · right
        refine ⟨3, 2, 3, g_pit x b, by simp only [c1, hi, hcl, h1, h2, ob_s, og_t, fails0, fails1, refuse0, refuse1, i10, i20, i30, im0, if_true, if_false, eq_self, f_X4_refuse], Or.inr ⟨rfl, rfl⟩, fun thr kept iit hst => ?_⟩
        simp only [f_X5_join, f_X5_join_c15, f_X5_isJoinRefused, f_X5_isJoinRefused_c24, f_X5_isJoinRefused_c43, c2, hpl, of4 r (show b < 8 by omega), a4, h1, h2, ob_s, og_t, fails0, fails1, refuse0, refuse1, i10, i20, i30, im0, if_true, if_false, eq_self, f_X4_refuse]
    · right
      refine ⟨3, 2, 2, g_pla x b, by simp only [c1, hi, hcl, h1, ob_s, og_t, fails0, fails1, refuse0, refuse1, i10, i20, i30, im0, if_true, if_false, eq_self, f_X4_refuse], Or.inr ⟨rfl, rfl⟩, fun thr kept iit hst => ?_⟩
      simp only [f_X5_join, f_X5_join_c15, f_X5_isJoinRefused, f_X5_isJoinRefused_c24, c2, hpl, of4 r (show b < 8 by omega), a4, h1, ob_s, og_t, fails0, fails1, refuse0, refuse1, i10, i20, i30, im0, if_true, if_false, eq_self, f_X4_refuse]
theorem home_eq {x : SV} {r : Nat → Int32} {n w : Nat} {ln : Nat → Nat} (h : RV x r n w ln) {k b : Nat} (hk : k < 8) (hb : b < n) (hr : r (8 + 4 * k + 3) = nI b) : f_X5_goHome r (nI k) = some (upd (upd r (40 + 8 * b + 4) (-1)) (8 + 4 * k + 3) (-1)) := by
  have hn8 := h.1.2.1
  unfold f_X5_goHome
  rw [ofP3 r hk, ob_s, hr, pu4 r (by omega), ob_s, puP3 _ hk, ob_s]
theorem who_cases {n : Nat} {pit r : Nat → Int32} (hW : qW n pit r) {k : Nat} (hk : k < 8) : r (8 + 4 * k + 3) = -1 ∨ ∃ b, b < n ∧ r (8 + 4 * k + 3) = nI b ∧ pit b = nI k := by
  rcases hW k hk with ⟨q, -⟩ | ⟨b, q1, q2, q3, -⟩
  · exact Or.inl q
  · exact Or.inr ⟨b, q1, q2, q3⟩
theorem J_leave {x : SV} {r : Nat → Int32} {n w : Nat} {ln : Nat → Nat} (h : RV x r n w ln) (re de a : Int32) :
    (f_X4_hindranceOfLeave re de x a = some (0, re, de) ∧ ∃ ret pit' r', f_X3_sendHomeFrom (g_pit x) a = some (ret, pit') ∧ RV (s_pit x pit') r' n w ln ∧ ∀ (thr kept iit : Int32) (hst : Nat → Nat → Int32) (kept' : Int32) (hst' : Nat → Nat → Int32), f_X5_change kept iit r hst = some (kept', hst') → f_X5_leave thr kept re de iit r hst a = some (ret, 0, kept', re, de, r', hst')) ∨
    (∃ hd t re' de', f_X4_hindranceOfLeave re de x a = some (hd, re', de') ∧ ((hd = 1 ∧ t = 1) ∨ (hd = 3 ∧ t = 2)) ∧ ∀ (thr kept iit : Int32) (hst : Nat → Nat → Int32), f_X5_leave thr kept re de iit r hst a = some (0, t, kept, re', de', r, hst)) := by
  obtain ⟨hA, h0, hc, hP, hL, hC, hS, hB, hK, hF, hW, hI, hG, hE, hN, hD⟩ := id h
  have hn8 := hA.2.1
  unfold f_X4_hindranceOfLeave
  rcases pitch_cases a with ⟨p1, p2⟩ | ⟨k, hk, rfl, p1, p2⟩
  · right
    refine ⟨1, 1, re, de, by rw [p1]; rfl, Or.inl ⟨rfl, rfl⟩, fun thr kept iit hst => ?_⟩
    simp only [f_X5_leave, f_X5_leave_c14, p2, ob_s, og_t, fails0, fails1, refuse0, refuse1, i10, i20, i30, im0, if_true, if_false, eq_self, f_X4_refuse]
  · have hpl := player_eq hn8 hW hk
    rcases who_cases hW hk with q | ⟨b, hb, q, hp⟩
    · right
      refine ⟨3, 2, 7, nI k, by simp only [p1, hpl, q, ob_s, og_t, fails0, fails1, refuse0, refuse1, i10, i20, i30, im0, if_true, if_false, eq_self, f_X4_refuse], Or.inr ⟨rfl, rfl⟩, fun thr kept iit hst => ?_⟩
      simp only [f_X5_leave, f_X5_leave_c14, f_X5_leave_c38, p2, ofP3 r hk, q, ob_s, og_t, fails0, fails1, refuse0, refuse1, i10, i20, i30, im0, if_true, if_false, eq_self, f_X4_refuse]
    · left
      have hm : ¬ nI b = (-1 : Int32) := nI_ne_m1 (by omega)
      refine ⟨by simp only [p1, hpl, q, hm, ob_s, og_t, fails0, fails1, refuse0, refuse1, i10, i20, i30, im0, if_true, if_false, eq_self, f_X4_refuse], nI b, upd (g_pit x) b (-1), _, ?_, T_home h hk hb hp, fun thr kept iit hst kept' hst' hch => ?_⟩
      · unfold f_X3_sendHomeFrom
        rw [hpl, ob_s, q, if_neg hm, inbN (by omega) (by decide), og_t, clN (by omega)]
      · simp only [f_X5_leave, f_X5_leave_c14, f_X5_leave_c38, p2, ofP3 r hk, q, hm, hch, home_eq h hk hb q, ob_s, og_t, fails0, fails1, refuse0, refuse1, i10, i20, i30, im0, if_true, if_false, eq_self, f_X4_refuse]
theorem J_swap {x : SV} {r : Nat → Int32} {n w : Nat} {ln : Nat → Nat} (h : RV x r n w ln) (re de a1 a2 : Int32) :
    (f_X4_hindranceOfSwap re de x a1 a2 = some (0, re, de) ∧ ∃ ret pit' r', f_X3_exchange (g_pit x) a1 a2 = some (ret, pit') ∧ RV (s_pit x pit') r' n w ln ∧ ∀ (thr kept iit : Int32) (hst : Nat → Nat → Int32) (kept' : Int32) (hst' : Nat → Nat → Int32), f_X5_change kept iit r hst = some (kept', hst') → f_X5_swap thr kept re de iit r hst a1 a2 = some (ret, 0, kept', re, de, r', hst')) ∨
    (∃ hd t re' de', f_X4_hindranceOfSwap re de x a1 a2 = some (hd, re', de') ∧ ((hd = 1 ∧ t = 1) ∨ (hd = 3 ∧ t = 2)) ∧ ∀ (thr kept iit : Int32) (hst : Nat → Nat → Int32), f_X5_swap thr kept re de iit r hst a1 a2 = some (0, t, kept, re', de', r, hst)) := by
  obtain ⟨hA, h0, hc, hP, hL, hC, hS, hB, hK, hF, hW, hI, hG, hE, hN, hD⟩ := id h
  have hn8 := hA.2.1
  unfold f_X4_hindranceOfSwap
  rcases pitch_cases a1 with ⟨p1, p2⟩ | ⟨k1, hk1, rfl, p1, p2⟩
  · right
    refine ⟨1, 1, re, de, by rw [p1]; rfl, Or.inl ⟨rfl, rfl⟩, fun thr kept iit hst => ?_⟩
    simp only [f_X5_swap, f_X5_swap_c16, f_X5_swap_c21, p2, ob_s, og_t, fails0, fails1, refuse0, refuse1, i10, i20, i30, im0, if_true, if_false, eq_self, f_X4_refuse]
  · rcases pitch_cases a2 with ⟨p3, p4⟩ | ⟨k2, hk2, rfl, p3, p4⟩
    · right
      refine ⟨1, 1, re, de, by simp only [p1, p3, ob_s, og_t, fails0, fails1, refuse0, refuse1, i10, i20, i30, im0, if_true, if_false, eq_self, f_X4_refuse], Or.inl ⟨rfl, rfl⟩, fun thr kept iit hst => ?_⟩
      simp only [f_X5_swap, f_X5_swap_c16, f_X5_swap_c21, p2, p4, ob_s, og_t, fails0, fails1, refuse0, refuse1, i10, i20, i30, im0, if_true, if_false, eq_self, f_X4_refuse]
    · have hl1 := player_eq hn8 hW hk1
      have hl2 := player_eq hn8 hW hk2
      rcases who_cases hW hk1 with q1 | ⟨b1, hb1, q1, hp1⟩
      · right
        refine ⟨3, 2, 7, nI k1, by simp only [p1, p3, hl1, q1, ob_s, og_t, fails0, fails1, refuse0, refuse1, i10, i20, i30, im0, if_true, if_false, eq_self, f_X4_refuse], Or.inr ⟨rfl, rfl⟩, fun thr kept iit hst => ?_⟩
        simp only [f_X5_swap, f_X5_swap_c21, f_X5_isSwapRefused, f_X5_isSwapRefused_c16, p2, p4, ofP3 r hk1, q1, ob_s, og_t, fails0, fails1, refuse0, refuse1, i10, i20, i30, im0, if_true, if_false, eq_self, f_X4_refuse]
      · have hm1 : ¬ nI b1 = (-1 : Int32) := nI_ne_m1 (by omega)
        rcases who_cases hW hk2 with q2 | ⟨b2, hb2, q2, hp2⟩
        · right
          refine ⟨3, 2, 7, nI k2, by simp only [p1, p3, hl1, q1, hl2, q2, hm1, ob_s, og_t, fails0, fails1, refuse0, refuse1, i10, i20, i30, im0, if_true, if_false, eq_self, f_X4_refuse], Or.inr ⟨rfl, rfl⟩, fun thr kept iit hst => ?_⟩
          simp only [f_X5_swap, f_X5_swap_c21, f_X5_isSwapRefused, f_X5_isSwapRefused_c16, f_X5_isSwapRefused_c41, p2, p4, ofP3 r hk1, q1, ofP3 r hk2, q2, hm1, ob_s, og_t, fails0, fails1, refuse0, refuse1, i10, i20, i30, im0, if_true, if_false, eq_self, f_X4_refuse]
        · left
          have hm2 : ¬ nI b2 = (-1 : Int32) := nI_ne_m1 (by omega)
          refine ⟨by simp only [p1, p3, hl1, q1, hl2, q2, hm1, hm2, ob_s, og_t, fails0, fails1, refuse0, refuse1, i10, i20, i30, im0, if_true, if_false, eq_self, f_X4_refuse], nI b2, upd (upd (g_pit x) b1 (nI k2)) b2 (nI k1), _, ?_, T_swap h hk1 hk2 hb1 hb2 hp1 hp2 q1 q2, fun thr kept iit hst kept' hst' hch => ?_⟩
          · unfold f_X3_exchange
            rw [hl1, ob_s, hl2, ob_s, q1, q2, if_neg hm1, if_neg hm2, inbN (by omega) (by decide), og_t, inbN (by omega) (by decide), og_t, clN (by omega), clN (by omega)]
          · simp only [f_X5_swap, f_X5_swap_c21, f_X5_isSwapRefused, f_X5_isSwapRefused_c16, f_X5_isSwapRefused_c41, p2, p4, ofP3 r hk1, q1, ofP3 r hk2, q2, hm1, hm2, hch, puP3 _ hk1, puP3 _ hk2, pu4 _ (show b1 < 8 by omega), pu4 _ (show b2 < 8 by omega), ob_s, og_t, fails0, fails1, refuse0, refuse1, i10, i20, i30, im0, if_true, if_false, eq_self, f_X4_refuse]
theorem J_answer {x : SV} {r : Nat → Int32} {n w : Nat} {ln : Nat → Nat} (h : RV x r n w ln) (re de a : Int32) :
    (f_X4_hindranceOfAnswer re de x a = some (0, re, de) ∧ ∃ ret ans' cmp' r', f_X3_answerComplaints (g_answered x) (g_cmp x) a = some (ret, ans', cmp') ∧ RV (s_cmp (s_answered x ans') cmp') r' n w ln ∧ ∀ (thr kept iit : Int32) (hst : Nat → Nat → Int32) (kept' : Int32) (hst' : Nat → Nat → Int32), f_X5_change kept iit r hst = some (kept', hst') → f_X5_answer thr kept re de iit r hst a = some (ret, 0, kept', re, de, r', hst')) ∨
    (∃ hd t re' de', f_X4_hindranceOfAnswer re de x a = some (hd, re', de') ∧ ((hd = 1 ∧ t = 1) ∨ (hd = 3 ∧ t = 2)) ∧ ∀ (thr kept iit : Int32) (hst : Nat → Nat → Int32), f_X5_answer thr kept re de iit r hst a = some (0, t, kept, re', de', r, hst)) := by
  obtain ⟨hA, h0, hc, hP, hL, hC, hS, hB, hK, hF, hW, hI, hG, hE, hN, hD⟩ := id h
  unfold f_X4_hindranceOfAnswer
  rcases pitch_cases a with ⟨p1, p2⟩ | ⟨k, hk, rfl, p1, p2⟩
  · right
    refine ⟨1, 1, re, de, by rw [p1]; rfl, Or.inl ⟨rfl, rfl⟩, fun thr kept iit hst => ?_⟩
    simp only [f_X5_answer, f_X5_answer_c14, p2, ob_s, og_t, fails0, fails1, refuse0, refuse1, i10, i20, i30, im0, if_true, if_false, eq_self, f_X4_refuse]
  · have hi := inbN (k := k) (N := 8) (by omega) (by decide)
    have hcl := clN (k := k) (by omega)
    have hcm := (hP k hk).2.1
    by_cases h1 : g_cmp x k = 0
    · right
      refine ⟨3, 2, 9, nI k, by simp only [p1, hi, hcl, h1, ob_s, og_t, fails0, fails1, refuse0, refuse1, i10, i20, i30, im0, if_true, if_false, eq_self, f_X4_refuse], Or.inr ⟨rfl, rfl⟩, fun thr kept iit hst => ?_⟩
      simp only [f_X5_answer, f_X5_answer_c14, f_X5_answer_c37, p2, ofP1 r hk, hcm, h1, ob_s, og_t, fails0, fails1, refuse0, refuse1, i10, i20, i30, im0, if_true, if_false, eq_self, f_X4_refuse]
    · left
      refine ⟨by simp only [p1, hi, hcl, h1, ob_s, og_t, fails0, fails1, refuse0, refuse1, i10, i20, i30, im0, if_true, if_false, eq_self, f_X4_refuse], g_cmp x k, g_answered x + g_cmp x k, upd (g_cmp x) k 0, upd (upd r (8 + 4 * k + 1) 0) 4 (g_answered x + g_cmp x k), ?_, by unfold RV; simp only [gs_hour_cmp, gs_crowd_cmp, gs_buskers_cmp, gs_answered_cmp, gs_draws_cmp, gs_lim_cmp, gs_cmp_cmp, gs_sof_cmp, gs_kin_cmp, gs_lou_cmp, gs_pit_cmp, gs_pla_cmp, gs_cas_cmp, gs_hrs_cmp, gs_nws_cmp, gs_hat_cmp, gs_wea_cmp, gs_hour_answered, gs_crowd_answered, gs_buskers_answered, gs_answered_answered, gs_draws_answered, gs_lim_answered, gs_cmp_answered, gs_sof_answered, gs_kin_answered, gs_lou_answered, gs_pit_answered, gs_pla_answered, gs_cas_answered, gs_hrs_answered, gs_nws_answered, gs_hat_answered, gs_wea_answered]; exact T_answer h hk _ rfl, fun thr kept iit hst kept' hst' hch => ?_⟩
      · unfold f_X3_answerComplaints
        rw [hi, og_t, og_t, hcl]
      · have e4 : upd r (8 + 4 * k + 1) 0 4 = g_answered x := by rw [upd_ne _ _ (by omega)]; exact h0.2.2.1
        simp only [f_X5_answer, f_X5_answer_c14, f_X5_answer_c37, p2, ofP1 r hk, puP1 r hk, hcm, h1, hch, ib4, tc4, e4, ob_s, og_t, fails0, fails1, refuse0, refuse1, i10, i20, i30, im0, if_true, if_false, eq_self, f_X4_refuse]
theorem J_strings {x : SV} {r : Nat → Int32} {n w : Nat} {ln : Nat → Nat} (h : RV x r n w ln) (re de a : Int32) :
    (f_X4_hindranceOfStrings re de x a = some (0, re, de) ∧ ∃ b ret nws' hat' wea' r', b < 8 ∧ a = nI b ∧ f_X3_buyStrings (g_nws x) (g_hat x) (g_wea x) a = some (nws', hat', wea') ∧ f_X0_ofFloat (hat' b) = some ret ∧ RV (s_wea (s_hat (s_nws x nws') hat') wea') r' n w ln ∧ ∀ (thr kept iit : Int32) (hst : Nat → Nat → Int32) (kept' : Int32) (hst' : Nat → Nat → Int32), f_X5_change kept iit r hst = some (kept', hst') → f_X5_strings thr kept re de iit r hst a = some (ret, 0, kept', re, de, r', hst')) ∨
    (∃ hd t re' de', f_X4_hindranceOfStrings re de x a = some (hd, re', de') ∧ ((hd = 1 ∧ t = 1) ∨ (hd = 3 ∧ t = 2)) ∧ ∀ (thr kept iit : Int32) (hst : Nat → Nat → Int32), f_X5_strings thr kept re de iit r hst a = some (0, t, kept, re', de', r, hst)) := by
  obtain ⟨hA, h0, hc, hP, hL, hC, hS, hB, hK, hF, hW, hI, hG, hE, hN, hD⟩ := id h
  have hn8 := hA.2.1
  have hbx : g_buskers x = nI n := hA.1
  unfold f_X4_hindranceOfStrings
  rw [hbx]
  rcases busk_cases hn8 hA.2.2 a with ⟨c1, c2⟩ | ⟨b, hb, rfl, c1, c2⟩
  · right
    refine ⟨1, 1, re, de, by rw [c1]; rfl, Or.inl ⟨rfl, rfl⟩, fun thr kept iit hst => ?_⟩
    simp only [f_X5_strings, f_X5_strings_c15, c2, ob_s, og_t, fails0, fails1, refuse0, refuse1, i10, i20, i30, im0, if_true, if_false, eq_self, f_X4_refuse]
  · obtain ⟨-, -, a2, a3, -, -, -, a7⟩ := hB b hb
    have hf := (hF b (by omega)).1
    have hi := inbN (k := b) (N := 8) (by omega) (by decide)
    have hcl := clN (k := b) (by omega)
    have hb8 : b < 8 := by omega
    have two : (FP.fconst2 : UInt32).toNat = 1073741824 := rfl
    have hz : (FP.fconst0 : UInt32).toNat < 2139095040 := by decide
    by_cases h1 : 0 ≤ Op.cmpValue (FP.fcmp (g_hat x b) FP.fconst2) .g
    · left
      have hge : 1073741824 ≤ (g_hat x b).toNat := (fcmp_ge0 (by omega) (by rw [two]; omega) .g).mp h1
      have hs := fsub_le (x := g_hat x b) (y := FP.fconst2) (by omega) (by rw [two]; exact hge)
      have hg := n32_lt (v := FP.fsub (g_hat x b) FP.fconst2) (by omega)
      refine ⟨by simp only [c1, hi, hcl, h1, ob_s, og_t, fails0, fails1, refuse0, refuse1, i10, i20, i30, im0, if_true, if_false, eq_self, f_X4_refuse], b, (FP.fsub (g_hat x b) FP.fconst2).toInt32, upd (g_nws x) b (g_nws x b + 1), vf_upd (g_hat x) b (FP.fsub (g_hat x b) FP.fconst2), vf_upd (g_wea x) b FP.fconst0, upd (upd (upd (upd r (40 + 8 * b + 2) (FP.fsub (g_hat x b) FP.fconst2).toInt32) (40 + 8 * b + 3) (FP.fconst0 : UInt32).toInt32) (40 + 8 * b + 7) (g_nws x b + 1)) 6 (sI (g_nws x) 8 + 1), hb8, rfl, ?_, ?_, by unfold RV; simp only [gs_hour_nws, gs_crowd_nws, gs_buskers_nws, gs_answered_nws, gs_draws_nws, gs_lim_nws, gs_cmp_nws, gs_sof_nws, gs_kin_nws, gs_lou_nws, gs_pit_nws, gs_pla_nws, gs_cas_nws, gs_hrs_nws, gs_nws_nws, gs_hat_nws, gs_wea_nws, gs_hour_hat, gs_crowd_hat, gs_buskers_hat, gs_answered_hat, gs_draws_hat, gs_lim_hat, gs_cmp_hat, gs_sof_hat, gs_kin_hat, gs_lou_hat, gs_pit_hat, gs_pla_hat, gs_cas_hat, gs_hrs_hat, gs_nws_hat, gs_hat_hat, gs_wea_hat, gs_hour_wea, gs_crowd_wea, gs_buskers_wea, gs_answered_wea, gs_draws_wea, gs_lim_wea, gs_cmp_wea, gs_sof_wea, gs_kin_wea, gs_lou_wea, gs_pit_wea, gs_pla_wea, gs_cas_wea, gs_hrs_wea, gs_nws_wea, gs_hat_wea, gs_wea_wea]; exact T_new (T_wear (T_hat h hb (x := FP.fsub (g_hat x b) FP.fconst2) (by omega)) hb (x := FP.fconst0) (by decide)) hb, fun thr kept iit hst kept' hst' hch => ?_⟩
      · unfold f_X3_buyStrings
        rw [hi, og_t, hcl, hg, og_t, og_t, og_t, og_t, og_t]
      · rw [vupd_eq]; exact ofFloat_n (by omega)
      · have e7 : upd (upd r (40 + 8 * b + 2) (FP.fsub (g_hat x b) FP.fconst2).toInt32) (40 + 8 * b + 3) (FP.fconst0 : UInt32).toInt32 (40 + 8 * b + 7) = g_nws x b := by
          rw [upd_ne _ _ (by omega), upd_ne _ _ (by omega)]; exact a7
        have e6 : upd (upd (upd r (40 + 8 * b + 2) (FP.fsub (g_hat x b) FP.fconst2).toInt32) (40 + 8 * b + 3) (FP.fconst0 : UInt32).toInt32) (40 + 8 * b + 7) (g_nws x b + 1) 6 = sI (g_nws x) 8 := by
          rw [upd_ne _ _ (by omega), upd_ne _ _ (by omega), upd_ne _ _ (by omega)]; exact hS.2
        have e2 : upd (upd (upd (upd r (40 + 8 * b + 2) (FP.fsub (g_hat x b) FP.fconst2).toInt32) (40 + 8 * b + 3) (FP.fconst0 : UInt32).toInt32) (40 + 8 * b + 7) (g_nws x b + 1)) 6 (sI (g_nws x) 8 + 1) (40 + 8 * b + 2) = (FP.fsub (g_hat x b) FP.fconst2).toInt32 := by
          rw [upd_ne _ _ (by omega), upd_ne _ _ (by omega), upd_ne _ _ (by omega), upd_eq]
        simp only [f_X5_strings, f_X5_strings_c15, f_X5_strings_c44, c2, fo2 r hb8 a2 (show (g_hat x b).toNat < 2139095040 by omega), h1, hch, hg, pf2 _ hb8 (show (FP.fsub (g_hat x b) FP.fconst2).toNat < 2139095040 by omega), pf3 _ hb8 hz, of7 _ hb8, e7, pu7 _ hb8, ib6, tc6, e6, of2 _ hb8, e2, ob_s, og_t, fails0, fails1, refuse0, refuse1, i10, i20, i30, im0, if_true, if_false, eq_self, f_X4_refuse]
    · right
      refine ⟨3, 2, 8, FP.f2i (g_hat x b), by simp only [c1, hi, hcl, h1, ob_s, og_t, fails0, fails1, refuse0, refuse1, i10, i20, i30, im0, if_true, if_false, eq_self, f_X4_refuse], Or.inr ⟨rfl, rfl⟩, fun thr kept iit hst => ?_⟩
      simp only [f_X5_strings, f_X5_strings_c15, f_X5_strings_c44, c2, fo2 r hb8 a2 (show (g_hat x b).toNat < 2139095040 by omega), h1, ob_s, og_t, fails0, fails1, refuse0, refuse1, i10, i20, i30, im0, if_true, if_false, eq_self, f_X4_refuse]
theorem J_unrack {x : SV} {r : Nat → Int32} {n w : Nat} {ln : Nat → Nat} (h : RV x r n w ln) (re de a : Int32) :
    (f_X4_hindranceOfUnrack re de x a = some (0, re, de) ∧ ∃ b r', b < 8 ∧ a = nI b ∧ RV (s_cas x (upd (g_cas x) b (-1))) r' n w ln ∧ ∀ (thr kept iit : Int32) (hst : Nat → Nat → Int32) (kept' : Int32) (hst' : Nat → Nat → Int32), f_X5_change kept iit r hst = some (kept', hst') → f_X5_unrack thr kept re de iit r hst a = some (g_cas x b, 0, kept', re, de, r', hst')) ∨
    (∃ hd t re' de', f_X4_hindranceOfUnrack re de x a = some (hd, re', de') ∧ ((hd = 1 ∧ t = 1) ∨ (hd = 3 ∧ t = 2)) ∧ ∀ (thr kept iit : Int32) (hst : Nat → Nat → Int32), f_X5_unrack thr kept re de iit r hst a = some (0, t, kept, re', de', r, hst)) := by
  obtain ⟨hA, h0, hc, hP, hL, hC, hS, hB, hK, hF, hW, hI, hG, hE, hN, hD⟩ := id h
  have hn8 := hA.2.1
  have hbx : g_buskers x = nI n := hA.1
  unfold f_X4_hindranceOfUnrack
  rw [hbx]
  rcases busk_cases hn8 hA.2.2 a with ⟨c1, c2⟩ | ⟨b, hb, rfl, c1, c2⟩
  · right
    refine ⟨1, 1, re, de, by rw [c1]; rfl, Or.inl ⟨rfl, rfl⟩, fun thr kept iit hst => ?_⟩
    simp only [f_X5_unrack, f_X5_unrack_c15, c2, ob_s, og_t, fails0, fails1, refuse0, refuse1, i10, i20, i30, im0, if_true, if_false, eq_self, f_X4_refuse]
  · obtain ⟨-, -, -, -, -, a5, -⟩ := hB b hb
    have hi := inbN (k := b) (N := 8) (by omega) (by decide)
    have hcl := clN (k := b) (by omega)
    have hb8 : b < 8 := by omega
    by_cases h1 : g_cas x b = -1
    · right
      refine ⟨3, 2, 13, nI b, by simp only [c1, hi, hcl, h1, ob_s, og_t, fails0, fails1, refuse0, refuse1, i10, i20, i30, im0, if_true, if_false, eq_self, f_X4_refuse], Or.inr ⟨rfl, rfl⟩, fun thr kept iit hst => ?_⟩
      simp only [f_X5_unrack, f_X5_unrack_c15, f_X5_unrack_c39, c2, of5 r hb8, a5, h1, ob_s, og_t, fails0, fails1, refuse0, refuse1, i10, i20, i30, im0, if_true, if_false, eq_self, f_X4_refuse]
    · left
      refine ⟨by simp only [c1, hi, hcl, h1, ob_s, og_t, fails0, fails1, refuse0, refuse1, i10, i20, i30, im0, if_true, if_false, eq_self, f_X4_refuse], b, _, hb8, rfl, T_case h hb (x := -1) (Or.inl rfl), fun thr kept iit hst kept' hst' hch => ?_⟩
      simp only [f_X5_unrack, f_X5_unrack_c15, f_X5_unrack_c39, c2, of5 r hb8, a5, h1, hch, pu5 r hb8, ob_s, og_t, fails0, fails1, refuse0, refuse1, i10, i20, i30, im0, if_true, if_false, eq_self, f_X4_refuse]
theorem J_rack {x : SV} {r : Nat → Int32} {n w : Nat} {ln : Nat → Nat} (h : RV x r n w ln) (re de a1 a2 : Int32) :
    (f_X4_hindranceOfRack re de x a1 a2 = some (0, re, de) ∧ ∃ ret cas' r', f_X3_putCase (g_kin x) (g_cas x) a1 = some (ret, cas') ∧ RV (s_cas x cas') r' n w ln ∧ ∀ (thr kept iit : Int32) (hst : Nat → Nat → Int32) (kept' : Int32) (hst' : Nat → Nat → Int32), f_X5_change kept iit r hst = some (kept', hst') → f_X5_rack thr kept re de iit r hst a1 a2 = some (ret, 0, kept', re, de, r', hst')) ∨
    (∃ hd t re' de', f_X4_hindranceOfRack re de x a1 a2 = some (hd, re', de') ∧ ((hd = 1 ∧ t = 1) ∨ (hd = 3 ∧ t = 2)) ∧ ∀ (thr kept iit : Int32) (hst : Nat → Nat → Int32), f_X5_rack thr kept re de iit r hst a1 a2 = some (0, t, kept, re', de', r, hst)) := by
  obtain ⟨hA, h0, hc, hP, hL, hC, hS, hB, hK, hF, hW, hI, hG, hE, hN, hD⟩ := id h
  have hn8 := hA.2.1
  have hbx : g_buskers x = nI n := hA.1
  unfold f_X4_hindranceOfRack
  rw [hbx]
  rcases busk_cases hn8 hA.2.2 a1 with ⟨c1, c2⟩ | ⟨b, hb, rfl, c1, c2⟩
  · right
    refine ⟨1, 1, re, de, by rw [c1]; rfl, Or.inl ⟨rfl, rfl⟩, fun thr kept iit hst => ?_⟩
    simp only [f_X5_rack, f_X5_rack_c17, f_X5_rack_c22, c2, ob_s, og_t, fails0, fails1, refuse0, refuse1, i10, i20, i30, im0, if_true, if_false, eq_self, f_X4_refuse]
  · have hi := inbN (k := b) (N := 8) (by omega) (by decide)
    have hcl := clN (k := b) (by omega)
    have hb8 : b < 8 := by omega
    have hrk : ∀ v, f_X5_isBetween a2 0 1 = some v → (v = 0 ∨ v = 1) → f_X5_isRack a2 = some v := by
      intro v hv h01
      unfold f_X5_isRack
      rw [hv, ob_s]
      rcases h01 with rfl | rfl <;> rfl
    have hsame : ¬ a2 < 0 → (a2 < 2 ↔ a2 ≤ 1) := by
      intro _
      rw [Int32.lt_iff_toInt_lt, Int32.le_iff_toInt_le]
      have z2 : (2 : Int32).toInt = 2 := rfl
      have z1 : (1 : Int32).toInt = 1 := rfl
      omega
    rcases two_cases 0 1 (l := 0) (m := 1) rfl rfl (by decide) (by decide) a2 with ⟨q1, q2⟩ | ⟨q0, q1, q2⟩ | ⟨k, -, hk1, rfl, q0, q1, q2⟩
    · right
      have hr0 := hrk 0 q2 (Or.inl rfl)
      refine ⟨1, 1, re, de, by simp only [c1, q1, ob_s, og_t, fails0, fails1, refuse0, refuse1, i10, i20, i30, im0, if_true, if_false, eq_self, f_X4_refuse], Or.inl ⟨rfl, rfl⟩, fun thr kept iit hst => ?_⟩
      simp only [f_X5_rack, f_X5_rack_c17, f_X5_rack_c22, c2, hr0, ob_s, og_t, fails0, fails1, refuse0, refuse1, i10, i20, i30, im0, if_true, if_false, eq_self, f_X4_refuse]
    · right
      have hr0 := hrk 0 q2 (Or.inl rfl)
      have q1' : ¬ a2 < 2 := fun e => q1 ((hsame q0).mp e)
      refine ⟨1, 1, re, de, by simp only [c1, q0, q1', ob_s, og_t, fails0, fails1, refuse0, refuse1, i10, i20, i30, im0, if_true, if_false, eq_self, f_X4_refuse], Or.inl ⟨rfl, rfl⟩, fun thr kept iit hst => ?_⟩
      simp only [f_X5_rack, f_X5_rack_c17, f_X5_rack_c22, c2, hr0, ob_s, og_t, fails0, fails1, refuse0, refuse1, i10, i20, i30, im0, if_true, if_false, eq_self, f_X4_refuse]
    · have hr1 := hrk 1 q2 (Or.inr rfl)
      have q1' : nI k < (2 : Int32) := (hsame q0).mpr q1
      obtain ⟨a0, -, -, -, -, a5, -⟩ := hB b hb
      by_cases h1 : g_cas x b = -1
      · obtain ⟨fx, fy, f1, f2, f3⟩ := free_eq hn8 hA.2.2 hB hE (nI k)
        rcases f3 with ⟨rfl, rfl⟩ | ⟨p, hp, rfl, rfl⟩
        · right
          refine ⟨3, 2, 11, nI k, by simp only [c1, q0, q1', hi, hcl, h1, f1, ob_s, og_t, fails0, fails1, refuse0, refuse1, i10, i20, i30, im0, if_true, if_false, eq_self, f_X4_refuse], Or.inr ⟨rfl, rfl⟩, fun thr kept iit hst => ?_⟩
          simp only [f_X5_rack, f_X5_rack_c22, f_X5_isRackRefused, f_X5_isRackRefused_c16, f_X5_isRackRefused_c45, c2, hr1, of5 r hb8, a5, h1, f2, ob_s, og_t, fails0, fails1, refuse0, refuse1, i10, i20, i30, im0, if_true, if_false, eq_self, f_X4_refuse]
        · have hpm : ¬ nI p = (-1 : Int32) := nI_ne_m1 (by omega)
          have hp3 : ¬ nI p = (3 : Int32) := fun e => by
            have := (nI_eq (a := p) (b := 3) (by omega) (by decide)).mp e
            omega
          by_cases h2 : g_kin x b = nI k
          · left
            refine ⟨by simp only [c1, q0, q1', hi, hcl, h1, f1, hpm, h2, ob_s, og_t, fails0, fails1, refuse0, refuse1, i10, i20, i30, im0, if_true, if_false, eq_self, f_X4_refuse], nI p, upd (g_cas x) b (nI p), _, ?_, T_case h hb (x := nI p) (Or.inr ⟨p, hp, rfl⟩), fun thr kept iit hst kept' hst' hch => ?_⟩
            · unfold f_X3_putCase
              rw [hi, og_t, hcl, h2, f1, ob_s, og_t, og_t, upd_eq]
            · simp only [f_X5_rack, f_X5_rack_c22, f_X5_isRackRefused, f_X5_isRackRefused_c16, f_X5_isRackRefused_c45, c2, hr1, of5 r hb8, a5, h1, f2, hp3, of0 r hb8, a0, h2, isZ0, hch, pu5 r hb8, of5 (upd r (40 + 8 * b + 5) (nI p)) hb8, upd_eq, ob_s, og_t, fails0, fails1, refuse0, refuse1, i10, i20, i30, im0, if_true, if_false, eq_self, f_X4_refuse]
          · right
            refine ⟨3, 2, 12, nI k, by simp only [c1, q0, q1', hi, hcl, h1, f1, hpm, h2, ob_s, og_t, fails0, fails1, refuse0, refuse1, i10, i20, i30, im0, if_true, if_false, eq_self, f_X4_refuse], Or.inr ⟨rfl, rfl⟩, fun thr kept iit hst => ?_⟩
            simp only [f_X5_rack, f_X5_rack_c22, f_X5_isRackRefused, f_X5_isRackRefused_c16, f_X5_isRackRefused_c45, c2, hr1, of5 r hb8, a5, h1, f2, hp3, of0 r hb8, a0, h2, isZ1, ob_s, og_t, fails0, fails1, refuse0, refuse1, i10, i20, i30, im0, if_true, if_false, eq_self, f_X4_refuse]
      · right
        refine ⟨3, 2, 10, g_cas x b, by simp only [c1, q0, q1', hi, hcl, h1, ob_s, og_t, fails0, fails1, refuse0, refuse1, i10, i20, i30, im0, if_true, if_false, eq_self, f_X4_refuse], Or.inr ⟨rfl, rfl⟩, fun thr kept iit hst => ?_⟩
        simp only [f_X5_rack, f_X5_rack_c22, f_X5_isRackRefused, f_X5_isRackRefused_c16, c2, hr1, of5 r hb8, a5, h1, ob_s, og_t, fails0, fails1, refuse0, refuse1, i10, i20, i30, im0, if_true, if_false, eq_self, f_X4_refuse]
theorem draw_x {pit : Nat → Int32} {drw a1 : Int32} {b j : Nat} (hb : b < 8) : ∀ (m fuel i : Nat) (pla : Nat → Int32), i + m = 8 → m < fuel → ∃ pla1, f_X3_drawFor_c42 a1 fuel (nI b) (nI j) (nI i) drw pit pla = some (nI b, drw + 1, upd pit b a1, upd pla1 b (-1)) ∧ ∀ b', b' < 8 → pla1 b' = if b' < i then pla b' else if pla b' ≤ nI j then pla b' else pla b' - 1 := by
  intro m
  induction m with
  | zero =>
    intro fuel i pla hi hf
    obtain ⟨fuel, rfl⟩ : ∃ z, fuel = z + 1 := ⟨fuel - 1, by omega⟩
    refine ⟨pla, ?_, fun b' hb' => by rw [if_pos (by omega)]⟩
    unfold f_X3_drawFor_c42
    rw [if_pos (show (8 : Int32) ≤ nI i from nI_le (a := 8) (by omega) (by omega)), inbN hb (by decide), og_t, og_t, clN (by omega)]
  | succ m ih =>
    intro fuel i pla hi hf
    obtain ⟨fuel, rfl⟩ : ∃ z, fuel = z + 1 := ⟨fuel - 1, by omega⟩
    unfold f_X3_drawFor_c42
    rw [if_neg (show ¬ (8 : Int32) ≤ nI i from nI_ge (b := 8) (by omega) (by decide)), inbN (k := i) (by omega) (by decide), og_t, og_t, og_t, clN (k := i) (by omega), nI_1]
    by_cases h : pla i ≤ nI j
    · rw [if_pos h]
      obtain ⟨pla1, e1, e2⟩ := ih fuel (i + 1) pla (by omega) (by omega)
      refine ⟨pla1, e1, fun b' hb' => ?_⟩
      rw [e2 b' hb']
      by_cases e : b' = i
      · rw [e, if_pos (by omega), if_neg (by omega), if_pos h]
      · by_cases e3 : b' < i
        · rw [if_pos (by omega), if_pos e3]
        · rw [if_neg (by omega), if_neg e3]
    · rw [if_neg h]
      obtain ⟨pla1, e1, e2⟩ := ih fuel (i + 1) (upd pla i (pla i - 1)) (by omega) (by omega)
      refine ⟨pla1, e1, fun b' hb' => ?_⟩
      rw [e2 b' hb']
      by_cases e : b' = i
      · rw [e, if_pos (by omega), if_neg (by omega), if_neg h, upd_eq]
      · rw [upd_ne _ _ e]
        by_cases e3 : b' < i
        · rw [if_pos (by omega), if_pos e3]
        · rw [if_neg (by omega), if_neg e3]
theorem draw_m {r : Nat → Int32} {w j k b : Nat} (hw : w ≤ 8) (hk : k < 8) (hb : b < 8) : ∀ (m fuel i : Nat) (ri : Nat → Int32), i + m = w - 1 → m < fuel → j ≤ i → ri 3 = nI (w - 1) → (∀ t, t < 8 → ri (104 + t) = if j ≤ t ∧ t < i then r (104 + (t + 1)) else r (104 + t)) → (∀ t, t < 104 → t ≠ 3 → ri t = r t) → ∃ r1, (∀ (iit thr kept re de : Int32) (hst : Nat → Nat → Int32), f_X5_draw_c95 iit (nI k) fuel (nI b) (nI i) thr kept re de ri hst = some (nI b, thr, kept, re, de, upd (upd (upd r1 (8 + 4 * k + 3) (nI b)) (40 + 8 * b + 4) (nI k)) 7 (r 7 + 1), hst)) ∧ r1 3 = nI (w - 1) ∧ (∀ t, t < w - 1 → r1 (104 + t) = if t < j then r (104 + t) else r (104 + (t + 1))) ∧ (∀ t, t < 104 → t ≠ 3 → r1 t = r t) := by
  intro m
  induction m with
  | zero =>
    intro fuel i ri hi hf hji h3 hl ho
    obtain ⟨fuel, rfl⟩ : ∃ z, fuel = z + 1 := ⟨fuel - 1, by omega⟩
    refine ⟨ri, fun iit thr kept re de hst => ?_, h3, fun t ht => ?_, ho⟩
    · have e7 : upd (upd ri (8 + 4 * k + 3) (nI b)) (40 + 8 * b + 4) (nI k) 7 = r 7 := by
        rw [upd_ne _ _ (by omega), upd_ne _ _ (by omega)]; exact ho 7 (by omega) (by omega)
      unfold f_X5_draw_c95
      rw [ib3, og_t, tc3, h3, if_pos (nI_le (by omega) (by omega)), puP3 _ hk, ob_s, pu4 _ hb, ob_s, ib7, og_t, og_t, tc7, e7]
    · rw [hl t (by omega)]
      by_cases e : t < j
      · rw [if_neg (by omega), if_pos e]
      · rw [if_pos (by omega), if_neg e]
  | succ m ih =>
    intro fuel i ri hi hf hji h3 hl ho
    obtain ⟨fuel, rfl⟩ : ∃ z, fuel = z + 1 := ⟨fuel - 1, by omega⟩
    obtain ⟨r1, e1, e2, e3, e4⟩ := ih fuel (i + 1) (upd ri (104 + i) (ri (104 + (i + 1)))) (by omega) (by omega) (by omega) (by rw [upd_ne _ _ (by omega)]; exact h3) (fun t ht => by
      by_cases e : t = i
      · rw [e, upd_eq, hl (i + 1) (by omega), if_neg (by omega), if_pos (by omega)]
      · rw [upd_ne _ _ (by omega), hl t ht]
        by_cases e5 : j ≤ t ∧ t < i
        · rw [if_pos e5, if_pos (by omega)]
        · rw [if_neg e5, if_neg (by omega)]) (fun t ht h => by rw [upd_ne _ _ (by omega)]; exact ho t ht h)
    refine ⟨r1, fun iit thr kept re de hst => ?_, e2, e3, e4⟩
    unfold f_X5_draw_c95
    rw [ib3, og_t, tc3, h3, if_neg (nI_ge (by omega) (by omega)), show (104 : Int32) + nI i = nI (104 + i) from nI_add 104 i, nI_1, nI_1, inbN (k := 104 + i + 1) (by omega) (by decide), og_t, inbN (k := 104 + i) (by omega) (by decide), og_t, clN (k := 104 + i) (by omega), clN (k := 104 + i + 1) (by omega)]
    exact e1 _ _ _ _ _ _
