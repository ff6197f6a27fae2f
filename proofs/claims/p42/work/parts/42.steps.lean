/-! the law's wrappers: what each call makes of an office that keeps the rules -/
theorem tf0 : f_X4_throwFor 0 = some (.inr ()) := rfl
theorem tf1 : f_X4_throwFor 1 = some (.inl 1) := rfl
theorem tf2 : f_X4_throwFor 2 = some (.inl 2) := rfl
theorem tf3 : f_X4_throwFor 3 = some (.inl 3) := rfl
theorem e21 : ((2 : Nat) = 1) = False := by decide
theorem e31 : ((3 : Nat) = 1) = False := by decide
theorem e32 : ((3 : Nat) = 2) = False := by decide
theorem e23 : ((2 : Nat) = 3) = False := by decide
theorem e41 : ((4 : Nat) = 1) = False := by decide
theorem bits_n (x : UInt32) (hx : x.toNat < 2139095040) : ∃ m, m < 2 ^ 31 ∧ f_X0_ofFloat x = some (nI m) ∧ m = x.toNat := ⟨x.toNat, by omega, by rw [ofFloat_n hx, toI32_n], rfl⟩
def Rs (T : Nat) (now : SV) (nxt cnt : Int32) (rng : Nat → SV) (k : Int32) (now' : SV) (nxt' cnt' : Int32) (rng' : Nat → SV) : Prop :=
  (k = -100000000 ∧ now' = now ∧ nxt' = nxt ∧ cnt' = cnt ∧ rng' = rng) ∨ ((∃ m, m < 2 ^ 31 ∧ k = nI m) ∧ IV T now' ∧ HV T nxt' cnt' rng' ∧ TopV nxt' cnt' rng' now)
theorem nI_ne_ref {m : Nat} (h : m < 2 ^ 31) : ¬ nI m = -100000000 := fun e => by
  have := congrArg Int32.toInt e
  rw [nI_toInt h] at this
  have h2 : (-100000000 : Int32).toInt = -100000000 := by decide
  omega
section STEPS
variable {T : Nat} {now : SV} {nxt cnt : Int32} {rng : Nat → SV}
theorem S_busker (hI : IV T now) (hH : HV T nxt cnt rng) (re de a1 a2 : Int32) : ∃ k re' de' now' nxt' cnt' rng', f_L_busker re de now nxt cnt rng a1 a2 = some (k, re', de', now', nxt', cnt', rng') ∧ Rs T now nxt cnt rng k now' nxt' cnt' rng' := by
  obtain ⟨n, w, ln, h⟩ := id hI
  rcases J_busker h re de a1 a2 with ⟨hd, re', de', e1, e2⟩ | ⟨l, hn8, ha, hl1, hl2, rfl, e1, e4, e3⟩
  · refine ⟨-100000000, re', de', now, nxt, cnt, rng, ?_, Or.inl ⟨rfl, rfl, rfl, rfl, rfl⟩⟩
    rcases e2 with rfl | rfl <;> simp only [f_L_busker, f_X4_busker, e1, ob_n, og_n, os_ln, os_rn, tf0, tf1, tf2, tf3, e21, e31, e32, e23, if_true, if_false, eq_self]
  · obtain ⟨nxt', cnt', rng', k1, k2, k3⟩ := keep_eq hH hI
    refine ⟨nI n, re, de, _, nxt', cnt', rng', ?_, Or.inr ⟨⟨n, by omega, rfl⟩, e3, k2, k3⟩⟩
    simp only [f_L_busker, f_X4_busker, e1, k1, e4, ob_n, og_n, os_ln, os_rn, tf0, tf1, tf2, tf3, e21, e31, e32, e23, if_true, if_false, eq_self]
theorem S_join (hI : IV T now) (hH : HV T nxt cnt rng) (re de a1 : Int32) : ∃ k re' de' now' nxt' cnt' rng', f_L_join re de now nxt cnt rng a1 = some (k, re', de', now', nxt', cnt', rng') ∧ Rs T now nxt cnt rng k now' nxt' cnt' rng' := by
  obtain ⟨n, w, ln, h⟩ := id hI
  rcases J_join h re de a1 with ⟨hd, re', de', e1, e2⟩ | ⟨b, hb, rfl, e1, e4, hw8, e3⟩
  · refine ⟨-100000000, re', de', now, nxt, cnt, rng, ?_, Or.inl ⟨rfl, rfl, rfl, rfl, rfl⟩⟩
    rcases e2 with rfl | rfl <;> simp only [f_L_join, f_X4_join, e1, ob_n, og_n, os_ln, os_rn, tf0, tf1, tf2, tf3, e21, e31, e32, e23, if_true, if_false, eq_self]
  · obtain ⟨nxt', cnt', rng', k1, k2, k3⟩ := keep_eq hH hI
    refine ⟨nI (w + 1), re, de, _, nxt', cnt', rng', ?_, Or.inr ⟨⟨w + 1, by omega, rfl⟩, e3, k2, k3⟩⟩
    simp only [f_L_join, f_X4_join, e1, k1, e4, ob_n, og_n, os_ln, os_rn, tf0, tf1, tf2, tf3, e21, e31, e32, e23, if_true, if_false, eq_self]
theorem S_draw (hI : IV T now) (hH : HV T nxt cnt rng) (re de a1 a2 : Int32) : ∃ k re' de' now' nxt' cnt' rng', f_L_draw re de now nxt cnt rng a1 a2 = some (k, re', de', now', nxt', cnt', rng') ∧ Rs T now nxt cnt rng k now' nxt' cnt' rng' := by
  obtain ⟨n, w, ln, h⟩ := id hI
  rcases J_draw h re de a1 a2 with ⟨hd, re', de', e1, e2⟩ | ⟨b, pit', pla', hb, e1, e4, e3⟩
  · refine ⟨-100000000, re', de', now, nxt, cnt, rng, ?_, Or.inl ⟨rfl, rfl, rfl, rfl, rfl⟩⟩
    rcases e2 with rfl | rfl | rfl <;> simp only [f_L_draw, f_X4_draw, e1, ob_n, og_n, os_ln, os_rn, tf0, tf1, tf2, tf3, e21, e31, e32, e23, if_true, if_false, eq_self]
  · obtain ⟨nxt', cnt', rng', k1, k2, k3⟩ := keep_eq hH hI
    refine ⟨nI b, re, de, _, nxt', cnt', rng', ?_, Or.inr ⟨⟨b, by omega, rfl⟩, e3, k2, k3⟩⟩
    simp only [f_L_draw, f_X4_draw, e1, k1, e4, ob_n, og_n, os_ln, os_rn, tf0, tf1, tf2, tf3, e21, e31, e32, e23, if_true, if_false, eq_self]
theorem S_leave (hI : IV T now) (hH : HV T nxt cnt rng) (re de a1 : Int32) : ∃ k re' de' now' nxt' cnt' rng', f_L_leave re de now nxt cnt rng a1 = some (k, re', de', now', nxt', cnt', rng') ∧ Rs T now nxt cnt rng k now' nxt' cnt' rng' := by
  obtain ⟨n, w, ln, h⟩ := id hI
  rcases J_leave h re de a1 with ⟨hd, re', de', e1, e2⟩ | ⟨b, hb, e1, e4, e3⟩
  · refine ⟨-100000000, re', de', now, nxt, cnt, rng, ?_, Or.inl ⟨rfl, rfl, rfl, rfl, rfl⟩⟩
    rcases e2 with rfl | rfl <;> simp only [f_L_leave, f_X4_leave, e1, ob_n, og_n, os_ln, os_rn, tf0, tf1, tf2, tf3, e21, e31, e32, e23, if_true, if_false, eq_self]
  · obtain ⟨nxt', cnt', rng', k1, k2, k3⟩ := keep_eq hH hI
    refine ⟨nI b, re, de, _, nxt', cnt', rng', ?_, Or.inr ⟨⟨b, by omega, rfl⟩, e3, k2, k3⟩⟩
    simp only [f_L_leave, f_X4_leave, e1, k1, e4, ob_n, og_n, os_ln, os_rn, tf0, tf1, tf2, tf3, e21, e31, e32, e23, if_true, if_false, eq_self]
theorem S_swap (hI : IV T now) (hH : HV T nxt cnt rng) (re de a1 a2 : Int32) : ∃ k re' de' now' nxt' cnt' rng', f_L_swap re de now nxt cnt rng a1 a2 = some (k, re', de', now', nxt', cnt', rng') ∧ Rs T now nxt cnt rng k now' nxt' cnt' rng' := by
  obtain ⟨n, w, ln, h⟩ := id hI
  rcases J_swap h re de a1 a2 with ⟨hd, re', de', e1, e2⟩ | ⟨b, pit', hb, e1, e4, e3⟩
  · refine ⟨-100000000, re', de', now, nxt, cnt, rng, ?_, Or.inl ⟨rfl, rfl, rfl, rfl, rfl⟩⟩
    rcases e2 with rfl | rfl <;> simp only [f_L_swap, f_X4_swap, e1, ob_n, og_n, os_ln, os_rn, tf0, tf1, tf2, tf3, e21, e31, e32, e23, if_true, if_false, eq_self]
  · obtain ⟨nxt', cnt', rng', k1, k2, k3⟩ := keep_eq hH hI
    refine ⟨nI b, re, de, _, nxt', cnt', rng', ?_, Or.inr ⟨⟨b, by omega, rfl⟩, e3, k2, k3⟩⟩
    simp only [f_L_swap, f_X4_swap, e1, k1, e4, ob_n, og_n, os_ln, os_rn, tf0, tf1, tf2, tf3, e21, e31, e32, e23, if_true, if_false, eq_self]
theorem S_answer (hI : IV T now) (hH : HV T nxt cnt rng) (re de a1 : Int32) : ∃ k re' de' now' nxt' cnt' rng', f_L_answer re de now nxt cnt rng a1 = some (k, re', de', now', nxt', cnt', rng') ∧ Rs T now nxt cnt rng k now' nxt' cnt' rng' := by
  obtain ⟨n, w, ln, h⟩ := id hI
  rcases J_answer h re de a1 with ⟨hd, re', de', e1, e2⟩ | ⟨c, kk, hc, hk, e1, e4, e3⟩
  · refine ⟨-100000000, re', de', now, nxt, cnt, rng, ?_, Or.inl ⟨rfl, rfl, rfl, rfl, rfl⟩⟩
    rcases e2 with rfl | rfl <;> simp only [f_L_answer, f_X4_answer, e1, ob_n, og_n, os_ln, os_rn, tf0, tf1, tf2, tf3, e21, e31, e32, e23, if_true, if_false, eq_self]
  · obtain ⟨nxt', cnt', rng', k1, k2, k3⟩ := keep_eq hH hI
    refine ⟨nI c, re, de, _, nxt', cnt', rng', ?_, Or.inr ⟨⟨c, by omega, rfl⟩, e3, k2, k3⟩⟩
    simp only [f_L_answer, f_X4_answer, e1, k1, e4, ob_n, og_n, os_ln, os_rn, tf0, tf1, tf2, tf3, e21, e31, e32, e23, if_true, if_false, eq_self]
theorem S_rack (hI : IV T now) (hH : HV T nxt cnt rng) (re de a1 a2 : Int32) : ∃ k re' de' now' nxt' cnt' rng', f_L_rack re de now nxt cnt rng a1 a2 = some (k, re', de', now', nxt', cnt', rng') ∧ Rs T now nxt cnt rng k now' nxt' cnt' rng' := by
  obtain ⟨n, w, ln, h⟩ := id hI
  rcases J_rack h re de a1 a2 with ⟨hd, re', de', e1, e2⟩ | ⟨b, p, hb, hp, e1, e4, e3⟩
  · refine ⟨-100000000, re', de', now, nxt, cnt, rng, ?_, Or.inl ⟨rfl, rfl, rfl, rfl, rfl⟩⟩
    rcases e2 with rfl | rfl <;> simp only [f_L_rack, f_X4_rack, e1, ob_n, og_n, os_ln, os_rn, tf0, tf1, tf2, tf3, e21, e31, e32, e23, if_true, if_false, eq_self]
  · obtain ⟨nxt', cnt', rng', k1, k2, k3⟩ := keep_eq hH hI
    refine ⟨nI p, re, de, _, nxt', cnt', rng', ?_, Or.inr ⟨⟨p, by omega, rfl⟩, e3, k2, k3⟩⟩
    simp only [f_L_rack, f_X4_rack, e1, k1, e4, ob_n, og_n, os_ln, os_rn, tf0, tf1, tf2, tf3, e21, e31, e32, e23, if_true, if_false, eq_self]
theorem S_strings (hI : IV T now) (hH : HV T nxt cnt rng) (re de a1 : Int32) : ∃ k re' de' now' nxt' cnt' rng', f_L_strings re de now nxt cnt rng a1 = some (k, re', de', now', nxt', cnt', rng') ∧ Rs T now nxt cnt rng k now' nxt' cnt' rng' := by
  obtain ⟨n, w, ln, h⟩ := id hI
  rcases J_strings h re de a1 with ⟨hd, re', de', e1, e2⟩ | ⟨b, v, hbn, hb, rfl, hv, e1, e4, e3⟩
  · refine ⟨-100000000, re', de', now, nxt, cnt, rng, ?_, Or.inl ⟨rfl, rfl, rfl, rfl, rfl⟩⟩
    rcases e2 with rfl | rfl <;> simp only [f_L_strings, f_X4_strings, e1, ob_n, og_n, os_ln, os_rn, tf0, tf1, tf2, tf3, e21, e31, e32, e23, if_true, if_false, eq_self]
  · obtain ⟨nxt', cnt', rng', k1, k2, k3⟩ := keep_eq hH hI
    obtain ⟨mv, m1, m2, -⟩ := bits_n v (by omega)
    have hi := inbN (k := b) (N := 8) hb (by decide)
    have hcl := clN (k := b) (by omega)
    have hvu : vf_upd (g_hat now) b v b = v := vupd_eq _ _ _
    refine ⟨nI mv, re, de, _, nxt', cnt', rng', ?_, Or.inr ⟨⟨mv, by omega, rfl⟩, e3, k2, k3⟩⟩
    simp only [f_L_strings, f_X4_strings, e1, k1, e4, hi, hcl, hvu, m2, ob_n, og_n, os_ln, os_rn, tf0, tf1, tf2, tf3, e21, e31, e32, e23, if_true, if_false, eq_self]
theorem S_unrack (hI : IV T now) (hH : HV T nxt cnt rng) (re de a1 : Int32) : ∃ k re' de' now' nxt' cnt' rng', f_L_unrack re de now nxt cnt rng a1 = some (k, re', de', now', nxt', cnt', rng') ∧ Rs T now nxt cnt rng k now' nxt' cnt' rng' := by
  obtain ⟨n, w, ln, h⟩ := id hI
  rcases J_unrack h re de a1 with ⟨hd, re', de', e1, e2⟩ | ⟨b, p, hb, hp, rfl, e1, e4, e3⟩
  · refine ⟨-100000000, re', de', now, nxt, cnt, rng, ?_, Or.inl ⟨rfl, rfl, rfl, rfl, rfl⟩⟩
    rcases e2 with rfl | rfl <;> simp only [f_L_unrack, f_X4_unrack, e1, ob_n, og_n, os_ln, os_rn, tf0, tf1, tf2, tf3, e21, e31, e32, e23, if_true, if_false, eq_self]
  · obtain ⟨nxt', cnt', rng', k1, k2, k3⟩ := keep_eq hH hI
    have hi := inbN (k := b) (N := 8) hb (by decide)
    have hcl := clN (k := b) (by omega)
    refine ⟨nI p, re, de, _, nxt', cnt', rng', ?_, Or.inr ⟨⟨p, by omega, rfl⟩, e3, k2, k3⟩⟩
    simp only [f_L_unrack, f_X4_unrack, e1, k1, e4, hi, hcl, ob_n, og_n, os_ln, os_rn, tf0, tf1, tf2, tf3, e21, e31, e32, e23, if_true, if_false, eq_self]
theorem S_crowd (hI : IV T now) (hH : HV T nxt cnt rng) (a1 : Int32) : ∃ k now' nxt' cnt' rng', f_L_crowd now nxt cnt rng a1 = some (k, now', nxt', cnt', rng') ∧ Rs T now nxt cnt rng k now' nxt' cnt' rng' := by
  obtain ⟨n, w, ln, h⟩ := id hI
  rcases J_crowd h a1 with e1 | ⟨c, hc, rfl, e1, e3⟩
  · refine ⟨-100000000, now, nxt, cnt, rng, ?_, Or.inl ⟨rfl, rfl, rfl, rfl, rfl⟩⟩
    simp only [f_L_crowd, f_X4_crowd, e1, ob_n, og_n, os_ln, os_rn, tf0, tf1, tf2, tf3, e21, e31, e32, e23, if_true, if_false, eq_self]
  · obtain ⟨nxt', cnt', rng', k1, k2, k3⟩ := keep_eq hH hI
    obtain ⟨c0, h0, h1⟩ := h.2.1
    refine ⟨nI c0, _, nxt', cnt', rng', ?_, Or.inr ⟨⟨c0, by omega, rfl⟩, e3, k2, k3⟩⟩
    simp only [f_L_crowd, f_X4_crowd, e1, k1, h1, ob_n, og_n, os_ln, os_rn, tf0, tf1, tf2, tf3, e21, e31, e32, e23, if_true, if_false, eq_self]
theorem S_limit (hI : IV T now) (hH : HV T nxt cnt rng) (a1 a2 : Int32) : ∃ k now' nxt' cnt' rng', f_L_limit now nxt cnt rng a1 a2 = some (k, now', nxt', cnt', rng') ∧ Rs T now nxt cnt rng k now' nxt' cnt' rng' := by
  obtain ⟨n, w, ln, h⟩ := id hI
  rcases J_limit h a1 a2 with ⟨hd, e1, e2⟩ | ⟨kk, c, hk, hc1, hc2, rfl, rfl, e1, e3⟩
  · refine ⟨-100000000, now, nxt, cnt, rng, ?_, Or.inl ⟨rfl, rfl, rfl, rfl, rfl⟩⟩
    rcases e2 with rfl | rfl <;> simp only [f_L_limit, f_X4_limit, e1, ob_n, og_n, os_ln, os_rn, tf0, tf1, tf2, tf3, e21, e31, e32, e23, if_true, if_false, eq_self]
  · obtain ⟨nxt', cnt', rng', k1, k2, k3⟩ := keep_eq hH hI
    have hL := h.2.2.1 kk hk
    obtain ⟨mv, m1, m2, -⟩ := bits_n (g_lim now kk) (by omega)
    have hi := inbN (k := kk) (N := 8) hk (by decide)
    have hcl := clN (k := kk) (by omega)
    refine ⟨nI mv, _, nxt', cnt', rng', ?_, Or.inr ⟨⟨mv, m1, rfl⟩, e3, k2, k3⟩⟩
    simp only [f_L_limit, f_X4_limit, e1, k1, hi, hcl, m2, ob_n, og_n, os_ln, os_rn, tf0, tf1, tf2, tf3, e21, e31, e32, e23, if_true, if_false, eq_self]
/-- the limit of a pitch, told as it is set -/
theorem S_limit80 (hI : IV T now) (hH : HV T nxt cnt rng) {k : Nat} (hk : k < 8) : ∃ now' nxt' cnt' rng', f_L_limit now nxt cnt rng (nI k) 80 = some ((g_lim now k).toInt32, now', nxt', cnt', rng') ∧ IV T now' ∧ HV T nxt' cnt' rng' ∧ TopV nxt' cnt' rng' now := by
  obtain ⟨n, w, ln, h⟩ := id hI
  rcases J_limit h (nI k) 80 with ⟨hd, e1, e2⟩ | ⟨kk, c, hk', hc1, hc2, e5, e6, e1, e3⟩
  · exfalso
    unfold f_X4_hindranceOfLimit at e1
    rw [isP_T hk, ob_s, if_neg n10, show f_X4_hindranceOfRange 80 40 120 = some 0 from rfl, ob_s] at e1
    cases e1
    rcases e2 with q | q <;> exact absurd q (by decide)
  · obtain ⟨nxt', cnt', rng', k1, k2, k3⟩ := keep_eq hH hI
    have e7 : kk = k := ((nI_eq (by omega) (by omega)).mp e5).symm
    subst e7
    have hL := h.2.2.1 kk hk
    have m2 := ofFloat_n (x := g_lim now kk) (by omega)
    have hi := inbN (k := kk) (N := 8) hk (by decide)
    have hcl := clN (k := kk) (by omega)
    refine ⟨_, nxt', cnt', rng', ?_, e3, k2, k3⟩
    simp only [f_L_limit, f_X4_limit, e1, k1, hi, hcl, m2, ob_n, og_n, os_ln, os_rn, tf0, tf1, tf2, tf3, e21, e31, e32, e23, if_true, if_false, eq_self]
/-- hours that go by: who is gone, who played how long; a look ahead sees the same -/
def Ps (now now' : SV) (H g : Nat) : Prop := (∀ b, b < 8 → ∃ m, m ≤ H ∧ g_hrs now' b = g_hrs now b + nI m ∧ (g_pit now' b ≠ -1 → m = H)) ∧ cP (g_pit now') + g = cP (g_pit now)
theorem S_pass (hI : IV T now) (hH : HV T nxt cnt rng) (a1 : Int32) : ∃ k now' nxt' cnt' rng', f_L_pass now nxt cnt rng a1 = some (k, now', nxt', cnt', rng') ∧ Rs (T + 60) now nxt cnt rng k now' nxt' cnt' rng' := by
  obtain ⟨n, w, ln, h⟩ := id hI
  rcases J_pass h a1 with e1 | ⟨H, hH1, hH2, rfl, e1⟩
  · refine ⟨-100000000, now, nxt, cnt, rng, ?_, Or.inl ⟨rfl, rfl, rfl, rfl, rfl⟩⟩
    simp only [f_L_pass, f_X4_pass, e1, ob_n, og_n, os_ln, os_rn, tf0, tf1, tf2, tf3, e21, e31, e32, e23, if_true, if_false, eq_self]
  · obtain ⟨nxt', cnt', rng', k1, k2, k3⟩ := keep_eq hH hI
    obtain ⟨g, cmp', sof', pit', hrs', hat', wea', p1, p2, p3, p4, p5⟩ := J_hours h (H := H) (by omega)
    obtain ⟨row', p1⟩ := p1 (g_row now)
    have hg : g ≤ 8 := by have := cn_le (fun b => decide (¬ g_pit now b = -1)) 8; unfold cP at p5; omega
    refine ⟨nI g, _, nxt', cnt', rng', ?_, Or.inr ⟨⟨g, by omega, rfl⟩, IV_le ⟨n, w, ln, p2 row'⟩ (by omega), HV_le k2 (by omega), k3⟩⟩
    simp only [f_L_pass, f_X4_pass, e1, k1, p1, ob_n, og_n, os_ln, os_rn, tf0, tf1, tf2, tf3, e21, e31, e32, e23, if_true, if_false, eq_self]
/-- H hours on, from any row -/
theorem S_hours (hI : IV T now) {H : Nat} (hH9 : H < 900) : ∃ (g : Nat) (x : SV), g ≤ 8 ∧ IV (T + H) x ∧ Ps now x H g ∧ ∀ row, ∃ row', f_X3_passHours (g_hour now) (g_crowd now) (g_lim now) (g_cmp now) (g_sof now) (g_kin now) (g_lou now) (g_pit now) (g_hrs now) (g_hat now) (g_wea now) row (nI H) = some (nI g, g_hour x, g_cmp x, g_sof x, g_pit x, g_hrs x, g_hat x, g_wea x, row') ∧ s_row (s_wea (s_hat (s_hrs (s_pit (s_sof (s_cmp (s_hour now (g_hour x)) (g_cmp x)) (g_sof x)) (g_pit x)) (g_hrs x)) (g_hat x)) (g_wea x)) row' = s_row x row' := by
  obtain ⟨n, w, ln, h⟩ := id hI
  obtain ⟨g, cmp', sof', pit', hrs', hat', wea', p1, p2, p3, p4, p5⟩ := J_hours h (H := H) hH9
  have hg : g ≤ 8 := by have := cn_le (fun b => decide (¬ g_pit now b = -1)) 8; unfold cP at p5; omega
  have hx0 : IV (T + H) (s_row (s_wea (s_hat (s_hrs (s_pit (s_sof (s_cmp (s_hour now (g_hour now + nI H)) cmp') sof') pit') hrs') hat') wea') (g_row now)) := ⟨n, w, ln, p2 (g_row now)⟩
  have hx1 := IV_sm hx0 (sm_sy (sm_row (s_wea (s_hat (s_hrs (s_pit (s_sof (s_cmp (s_hour now (g_hour now + nI H)) cmp') sof') pit') hrs') hat') wea') (g_row now)))
  refine ⟨g, s_wea (s_hat (s_hrs (s_pit (s_sof (s_cmp (s_hour now (g_hour now + nI H)) cmp') sof') pit') hrs') hat') wea', hg, hx1, ⟨p3, p5⟩, fun row => ?_⟩
  obtain ⟨row', q⟩ := p1 row
  exact ⟨row', q, rfl⟩
theorem S_passN (hI : IV T now) (hH : HV T nxt cnt rng) {H : Nat} (h1 : 1 ≤ H) (h2 : H ≤ 60) {g : Nat} {x : SV} (hx : ∀ row, ∃ row', f_X3_passHours (g_hour now) (g_crowd now) (g_lim now) (g_cmp now) (g_sof now) (g_kin now) (g_lou now) (g_pit now) (g_hrs now) (g_hat now) (g_wea now) row (nI H) = some (nI g, g_hour x, g_cmp x, g_sof x, g_pit x, g_hrs x, g_hat x, g_wea x, row') ∧ s_row (s_wea (s_hat (s_hrs (s_pit (s_sof (s_cmp (s_hour now (g_hour x)) (g_cmp x)) (g_sof x)) (g_pit x)) (g_hrs x)) (g_hat x)) (g_wea x)) row' = s_row x row') : ∃ now' nxt' cnt' rng', f_L_pass now nxt cnt rng (nI H) = some (nI g, now', nxt', cnt', rng') ∧ sm now' x ∧ HV T nxt' cnt' rng' ∧ TopV nxt' cnt' rng' now := by
  obtain ⟨nxt', cnt', rng', k1, k2, k3⟩ := keep_eq hH hI
  obtain ⟨row', p1, p2⟩ := hx (g_row now)
  have e1 : f_X4_hindranceOfPass (nI H) = some 0 := by
    unfold f_X4_hindranceOfPass
    rw [show f_X4_hindranceOfRange (nI H) 1 60 = some 0 from range_T (lo := 1) (hi := 60) h1 h2 (by decide)]; rfl
  refine ⟨s_row x row', nxt', cnt', rng', ?_, sm_row _ _, k2, k3⟩
  rw [← p2]
  simp only [f_L_pass, f_X4_pass, e1, k1, p1, ob_n, og_n, os_ln, os_rn, tf0, tf1, tf2, tf3, e21, e31, e32, e23, if_true, if_false, eq_self]
theorem S_undo (hI : IV T now) (hH : HV T nxt cnt rng) : (cnt = 0 ∧ f_L_undo now nxt cnt rng = some (-100000000, now, nxt, cnt)) ∨ ∃ c now' nxt', c < 8 ∧ f_L_undo now nxt cnt rng = some (nI c, now', nxt', nI c) ∧ IV T now' ∧ HV T nxt' (nI c) rng := by
  rcases back_eq hH hI with q | ⟨c, p, nxt', x', q1, q2, q3, q4, q5, q6, q7⟩
  · left
    refine ⟨q, ?_⟩
    rw [q]
    have h0 : ¬ (0 : Int32) < 0 := by decide
    simp only [f_L_undo, f_X4_undo, if_neg h0, ob_n, og_n, os_ln, os_rn, tf0, tf1, tf2, tf3, e21, e31, e32, e23, if_true, if_false, eq_self]
  · right
    obtain ⟨c0, p0, -, -, -, -, hj⟩ := id hH
    refine ⟨c, x', nxt', q2, ?_, IV_sm (hj p q3) q6, q7⟩
    have h0 : (0 : Int32) < cnt := by rw [q1]; exact nI_lt (a := 0) (by omega) (by omega)
    simp only [f_L_undo, f_X4_undo, if_pos h0, q5, ob_n, og_n, os_ln, os_rn, tf0, tf1, tf2, tf3, e21, e31, e32, e23, if_true, if_false, eq_self]
theorem S_undo_top (hI : IV T now) (hH : HV T nxt cnt rng) {z : SV} (ht : TopV nxt cnt rng z) : ∃ c now' nxt', c < 8 ∧ f_L_undo now nxt cnt rng = some (nI c, now', nxt', nI c) ∧ sm now' z ∧ HV T nxt' (nI c) rng := by
  obtain ⟨c, nxt', x', q1, q2, q5, q6, q7⟩ := back_top hH hI ht
  refine ⟨c, x', nxt', q2, ?_, q6, q7⟩
  have h0 : (0 : Int32) < cnt := by rw [q1]; exact nI_lt (a := 0) (by omega) (by omega)
  simp only [f_L_undo, f_X4_undo, if_pos h0, q5, ob_n, og_n, os_ln, os_rn, tf0, tf1, tf2, tf3, e21, e31, e32, e23, if_true, if_false, eq_self]
theorem S_save {isv : Int32} {sna : SV} (hI : IV T now) (hs : IV T sna) : ∃ n sna', n ≤ 8 ∧ f_X4_save isv now sna = some (nI n, 1, sna') ∧ sm sna' now ∧ g_buskers now = nI n := by
  obtain ⟨n, w, ln, h⟩ := id hI
  obtain ⟨r, k1, k2⟩ := copy_z (IV_Z hs) (IV_Z hI)
  refine ⟨n, sv_cp sna r, h.1.2, ?_, by rw [k2]; exact sm_row _ _, h.1.1⟩
  unfold f_X4_save
  unfold cpF at k1
  rw [k1, ob_s, h.1.1]
theorem S_restore {isv : Int32} {sna : SV} (hI : IV T now) (hs : IV T sna) : (isv = 0 ∧ f_L_restore isv now sna cnt = some (-100000000, now, cnt)) ∨ (¬ isv = 0 ∧ ∃ n now', n ≤ 8 ∧ f_L_restore isv now sna cnt = some (nI n, now', 0) ∧ sm now' sna ∧ g_buskers sna = nI n) := by
  by_cases h0 : isv = 0
  · left
    refine ⟨h0, ?_⟩
    simp only [f_L_restore, f_X4_restore, if_pos h0, ob_n, og_n, os_ln, os_rn, tf0, tf1, tf2, tf3, e21, e31, e32, e23, if_true, if_false, eq_self]
  · right
    obtain ⟨n, w, ln, h⟩ := id hs
    obtain ⟨r, k1, k2⟩ := copy_z (IV_Z hI) (IV_Z hs)
    have hb : g_buskers (sv_cp now r) = nI n := by rw [k2]; exact h.1.1
    refine ⟨h0, n, sv_cp now r, h.1.2, ?_, by rw [k2]; exact sm_row _ _, h.1.1⟩
    unfold cpF at k1
    simp only [f_L_restore, f_X4_restore, if_neg h0, k1, hb, ob_n, og_n, os_ln, os_rn, tf0, tf1, tf2, tf3, e21, e31, e32, e23, if_true, if_false, eq_self]
end STEPS
