/-! copies, the changes that are kept -/
def ag (y x : SV) : Prop := g_hour y = g_hour x ∧ g_crowd y = g_crowd x ∧ g_buskers y = g_buskers x ∧ g_answered y = g_answered x ∧ g_draws y = g_draws x ∧ (∀ i, i < 8 → g_lim y i = g_lim x i ∧ g_cmp y i = g_cmp x i ∧ g_sof y i = g_sof x i ∧ g_kin y i = g_kin x i ∧ g_lou y i = g_lou x i ∧ g_pit y i = g_pit x i ∧ g_pla y i = g_pla x i ∧ g_cas y i = g_cas x i ∧ g_hrs y i = g_hrs x i ∧ g_nws y i = g_nws x i ∧ g_hat y i = g_hat x i ∧ g_wea y i = g_wea x i)
def rowAg (b a : Nat → Int32) : Prop := ∀ i, i < 112 → b i = a i
def RE (x : SV) (r : Nat → Int32) : Prop := ∃ n w ln, RV x r n w ln
theorem RV_ag {x y : SV} {r r' : Nat → Int32} {n w : Nat} {ln : Nat → Nat} (h : RV x r n w ln) (hy : ag y x) (hr : rowAg r' r) : RV y r' n w ln := by
  obtain ⟨hA, h0, hc, hP, hL, hC, hS, hB, hK, hF, hW, hI, hG, hE, hN, hD⟩ := h
  obtain ⟨y0, y1, y2, y3, y4, ya⟩ := hy
  have hn8 := hA.2.1
  have hw8 := qN_le hN
  have yl : ∀ i, i < 8 → g_lim y i = g_lim x i := fun i hi => (ya i hi).1
  have yc : ∀ i, i < 8 → g_cmp y i = g_cmp x i := fun i hi => (ya i hi).2.1
  have ys : ∀ i, i < 8 → g_sof y i = g_sof x i := fun i hi => (ya i hi).2.2.1
  have yk : ∀ i, i < 8 → g_kin y i = g_kin x i := fun i hi => (ya i hi).2.2.2.1
  have yo : ∀ i, i < 8 → g_lou y i = g_lou x i := fun i hi => (ya i hi).2.2.2.2.1
  have yp : ∀ i, i < 8 → g_pit y i = g_pit x i := fun i hi => (ya i hi).2.2.2.2.2.1
  have yw : ∀ i, i < 8 → g_pla y i = g_pla x i := fun i hi => (ya i hi).2.2.2.2.2.2.1
  have yg : ∀ i, i < 8 → g_cas y i = g_cas x i := fun i hi => (ya i hi).2.2.2.2.2.2.2.1
  have yh : ∀ i, i < 8 → g_hrs y i = g_hrs x i := fun i hi => (ya i hi).2.2.2.2.2.2.2.2.1
  have yn : ∀ i, i < 8 → g_nws y i = g_nws x i := fun i hi => (ya i hi).2.2.2.2.2.2.2.2.2.1
  have yt : ∀ i, i < 8 → g_hat y i = g_hat x i := fun i hi => (ya i hi).2.2.2.2.2.2.2.2.2.2.1
  have yv : ∀ i, i < 8 → g_wea y i = g_wea x i := fun i hi => (ya i hi).2.2.2.2.2.2.2.2.2.2.2
  refine ⟨⟨y2.trans hA.1, hA.2.1, (hr 2 (by omega)).trans hA.2.2⟩, ⟨?_, ?_, ?_, ?_⟩, ?_, fun k hk => ?_, fun k hk => ?_, fun k hk => ?_, ⟨?_, ?_⟩, fun b hb => ?_, fun b hb => ?_, fun b hb => ?_, fun k hk => ?_, fun b hb => ?_, fun b hb => ?_, fun b h1 h2 => ?_, ⟨?_, fun j hj => ?_, fun b hb => ?_, ?_⟩, fun b hb hq => ?_⟩
  · rw [hr 0 (by omega), y0]; exact h0.1
  · rw [hr 1 (by omega), y1]; exact h0.2.1
  · rw [hr 4 (by omega), y3]; exact h0.2.2.1
  · rw [hr 7 (by omega), y4]; exact h0.2.2.2
  · rw [y1]; exact hc
  · rw [hr _ (by omega), hr _ (by omega), hr _ (by omega), yl k hk, yc k hk, ys k hk]; exact hP k hk
  · rw [yl k hk]; exact hL k hk
  · rw [yc k hk]; exact hC k hk
  · rw [hr 5 (by omega), sI_congr ys]; exact hS.1
  · rw [hr 6 (by omega), sI_congr yn]; exact hS.2
  · have hb8 : b < 8 := by omega
    rw [hr _ (by omega), hr _ (by omega), hr _ (by omega), hr _ (by omega), hr _ (by omega), hr _ (by omega), hr _ (by omega), hr _ (by omega), yk b hb8, yo b hb8, yp b hb8, yg b hb8, yh b hb8, yn b hb8, yt b hb8, yv b hb8]
    exact hB b hb
  · rw [yk b (by omega), yo b (by omega)]; exact hK b hb
  · rw [yt b hb, yv b hb]; exact hF b hb
  · rw [hr _ (by omega)]
    rcases hW k hk with ⟨q1, q2⟩ | ⟨b, q1, q2, q3, q4⟩
    · exact Or.inl ⟨q1, fun b hb => by rw [yp b hb]; exact q2 b hb⟩
    · exact Or.inr ⟨b, q1, q2, by rw [yp b (by omega)]; exact q3, fun b' hb' => by rw [yp b' hb']; exact q4 b' hb'⟩
  · rw [yp b hb]; exact hI b hb
  · rw [yg b hb]; exact hG b hb
  · rw [yp b h2, yw b h2, yg b h2, yh b h2, yn b h2, yt b h2, yv b h2]; exact hE b h1 h2
  · rw [hr 3 (by omega)]; exact hN.1
  · obtain ⟨q1, q2, q3⟩ := hN.2.1 j hj
    rw [hr _ (by omega), yw _ (by omega)]; exact ⟨q1, q2, q3⟩
  · rw [yw b hb]; exact hN.2.2.1 b hb
  · rw [cn_congr (q := fun b => decide (¬ g_pla x b = -1)) (fun i hi => by show decide (¬ g_pla y i = -1) = _; rw [yw i hi])]; exact hN.2.2.2
  · rw [yw b hb]; rw [yp b hb] at hq; exact hD b hb hq
theorem RE_ag {x y : SV} {r r' : Nat → Int32} (h : RE x r) (hy : ag y x) (hr : rowAg r' r) : RE y r' := by
  obtain ⟨n, w, ln, h⟩ := h
  exact ⟨n, w, ln, RV_ag h hy hr⟩
theorem ag_rf (x : SV) : ag x x := ⟨rfl, rfl, rfl, rfl, rfl, fun i hi => ⟨rfl, rfl, rfl, rfl, rfl, rfl, rfl, rfl, rfl, rfl, rfl, rfl⟩⟩
theorem ag_row (x : SV) (v : Nat → UInt32) : ag (s_row x v) x := ⟨rfl, rfl, rfl, rfl, rfl, fun i hi => ⟨rfl, rfl, rfl, rfl, rfl, rfl, rfl, rfl, rfl, rfl, rfl, rfl⟩⟩
theorem rowAg_rf (r : Nat → Int32) : rowAg r r := fun _ _ => rfl
theorem rowAg_tr {a b c : Nat → Int32} (h1 : rowAg a b) (h2 : rowAg b c) : rowAg a c := fun i hi => (h1 i hi).trans (h2 i hi)
theorem cpy8 {α : Type} (f g : Nat → α) {i : Nat} (hi : i < 8) : va_cpy f g (0 : Int32).toNatClampNeg (0 : Int32).toNatClampNeg (8 : Int32).toNatClampNeg i = f i := by
  unfold va_cpy
  rw [tc0, tc8, if_pos ⟨by omega, by omega⟩]
  congr 1
  omega
theorem copy_eq (σ τ : SV) : ∃ res, f_X3_copyFrom (g_hour σ) (g_crowd σ) (g_buskers σ) (g_answered σ) (g_draws σ) (g_lim σ) (g_cmp σ) (g_sof σ) (g_kin σ) (g_lou σ) (g_pit σ) (g_pla σ) (g_cas σ) (g_hrs σ) (g_nws σ) (g_hat σ) (g_wea σ) (g_hour τ) (g_crowd τ) (g_buskers τ) (g_answered τ) (g_draws τ) (g_lim τ) (g_cmp τ) (g_sof τ) (g_kin τ) (g_lou τ) (g_pit τ) (g_pla τ) (g_cas τ) (g_hrs τ) (g_nws τ) (g_hat τ) (g_wea τ) = some res ∧ ag (sv_cp σ res) τ := by
  refine ⟨_, rfl, rfl, rfl, rfl, rfl, rfl, fun i hi => ⟨cpy8 _ _ hi, cpy8 _ _ hi, cpy8 _ _ hi, cpy8 _ _ hi, cpy8 _ _ hi, cpy8 _ _ hi, cpy8 _ _ hi, cpy8 _ _ hi, cpy8 _ _ hi, cpy8 _ _ hi, cpy8 _ _ hi, cpy8 _ _ hi⟩⟩
theorem copyRow' (a : Nat → Int32) : ∀ (m fuel i : Nat) (b : Nat → Int32), i + m = 112 → m < fuel → (∀ j, j < i → b j = a j) → ∃ c, f_X5_copyRow_c2 a fuel (nI i) b = some c ∧ rowAg c a := by
  intro m
  induction m with
  | zero =>
    intro fuel i b hi hf h
    obtain ⟨fuel, rfl⟩ : ∃ z, fuel = z + 1 := ⟨fuel - 1, by omega⟩
    refine ⟨b, ?_, fun j hj => h j (by omega)⟩
    unfold f_X5_copyRow_c2
    rw [if_pos (show (112 : Int32) ≤ nI i from nI_le (a := 112) (by omega) (by omega))]
  | succ m ih =>
    intro fuel i b hi hf h
    obtain ⟨fuel, rfl⟩ : ∃ z, fuel = z + 1 := ⟨fuel - 1, by omega⟩
    unfold f_X5_copyRow_c2
    rw [if_neg (show ¬ (112 : Int32) ≤ nI i from nI_ge (b := 112) (by omega) (by decide)), inbN (by omega) (by decide), og_t, og_t, clN (by omega), nI_1]
    refine ih fuel (i + 1) _ (by omega) (by omega) (fun j hj => ?_)
    by_cases e : j = i
    · rw [e, upd_eq]
    · rw [upd_ne _ _ e]; exact h j (by omega)
theorem copyRow (a b : Nat → Int32) : ∃ c, f_X5_copyRow a b = some c ∧ rowAg c a := copyRow' a 112 4096 0 b rfl (by decide) (fun j hj => by omega)
def HS (nxt cnt : Int32) (rng : Nat → SV) (kept : Int32) (hst : Nat → Nat → Int32) : Prop := ∃ c p, c ≤ 8 ∧ p < 8 ∧ nxt = nI p ∧ cnt = nI c ∧ kept = nI c ∧ ∀ j, j < c → RE (rng ((p + 8 - c + j) % 8)) (hst j)
theorem shift_now (a : Nat → Int32) (hst : Nat → Nat → Int32) : ∀ (m fuel i : Nat) (hi : Nat → Nat → Int32), i + m = 7 → m < fuel → (∀ j, j < 8 → rowAg (hi j) (if j < i then hst (j + 1) else hst j)) → ∃ hst', f_X5_remember_now_c21 a fuel (nI i) (nI 7) hi = f_X5_remember_now_c52 a (nI 7) hst' ∧ ∀ j, j < 7 → rowAg (hst' j) (hst (j + 1)) := by
  intro m
  induction m with
  | zero =>
    intro fuel i h9 hi hf h
    obtain ⟨fuel, rfl⟩ : ∃ z, fuel = z + 1 := ⟨fuel - 1, by omega⟩
    refine ⟨h9, ?_, fun j hj => ?_⟩
    · unfold f_X5_remember_now_c21
      rw [if_pos (nI_le (by omega) (by omega))]
    · have := h j (by omega)
      rw [if_pos (by omega)] at this
      exact this
  | succ m ih =>
    intro fuel i h9 hi hf h
    obtain ⟨fuel, rfl⟩ : ∃ z, fuel = z + 1 := ⟨fuel - 1, by omega⟩
    obtain ⟨c, c1, c2⟩ := copyRow (h9 (i + 1)) (h9 i)
    obtain ⟨hst', e1, e2⟩ := ih fuel (i + 1) (vf_upd h9 i c) (by omega) (by omega) (fun j hj => by
      by_cases e : j = i
      · rw [e, vupd_eq, if_pos (by omega)]
        have := h (i + 1) (by omega)
        rw [if_neg (by omega)] at this
        exact rowAg_tr c2 this
      · rw [vupd_ne _ _ e]
        have := h j hj
        by_cases e2 : j < i
        · rw [if_pos e2] at this; rw [if_pos (by omega)]; exact this
        · rw [if_neg e2] at this; rw [if_neg (by omega)]; exact this)
    refine ⟨hst', ?_, e2⟩
    unfold f_X5_remember_now_c21
    rw [if_neg (nI_ge (by omega) (by omega)), nI_1, inbN (by omega) (by decide), inbN (by omega) (by decide), og_t, og_t, clN (by omega), clN (by omega), decide_eq_true (by omega), og_t, c1, ob_s]
    exact e1
theorem remember_now (a : Nat → Int32) {nxt cnt : Int32} {rng : Nat → SV} {kept : Int32} {hst : Nat → Nat → Int32} (h : HS nxt cnt rng kept hst) {x : SV} (hx : RE x a) : ∃ nxt' cnt' rng' kept' hst', f_X1_keep nxt cnt rng x = some (nxt', cnt', rng') ∧ f_X5_remember_now kept a hst = some (kept', hst') ∧ HS nxt' cnt' rng' kept' hst' := by
  obtain ⟨c, p, hc, hp, rfl, rfl, rfl, hj⟩ := h
  obtain ⟨res, k1, k2⟩ := copy_eq (rng p) x
  have hrem : nI (p + 1) - nI (p + 1) / 8 * 8 = nI ((p + 1) % 8) := pk_rem (a := p + 1) (d := 8) (by omega) (by decide) (by decide)
  have hnz : nz 8 = true := by decide
  by_cases h8 : c = 8
  · subst h8
    obtain ⟨h7, s1, s2⟩ := shift_now a hst 7 4096 0 hst rfl (by decide) (fun j hj => by rw [if_neg (by omega)]; exact rowAg_rf _)
    obtain ⟨z, z1, z2⟩ := copyRow a (h7 7)
    refine ⟨nI ((p + 1) % 8), nI 8, vf_upd rng p (sv_cp (rng p) res), nI 8, vf_upd h7 7 z, ?_, ?_, 8, (p + 1) % 8, by omega, by omega, rfl, rfl, rfl, ?_⟩
    · unfold f_X1_keep
      rw [inbN hp (by decide), og_t, clN (by omega), k1, ob_s, hnz, og_t, if_pos (by decide), nI_1, hrem]; rfl
    · unfold f_X5_remember_now
      rw [if_pos (show nI 8 = (8 : Int32) from rfl), show nI 8 - 1 = nI 7 from rfl]
      have s1 : f_X5_remember_now_c21 a 4096 0 (nI 7) hst = _ := s1
      rw [s1]
      unfold f_X5_remember_now_c52
      rw [inbN (by decide) (by decide), og_t, clN (by decide), z1, ob_s]; rfl
    · intro j hj8
      by_cases e : j = 7
      · rw [e, vupd_eq, show ((p + 1) % 8 + 8 - 8 + 7) % 8 = p by omega, vupd_eq]
        exact RE_ag hx k2 z2
      · rw [vupd_ne _ _ e, vupd_ne _ _ (by omega)]
        have := hj (j + 1) (by omega)
        rw [show (p + 8 - 8 + (j + 1)) % 8 = ((p + 1) % 8 + 8 - 8 + j) % 8 by omega] at this
        exact RE_ag this (ag_rf _) (s2 j (by omega))
  · obtain ⟨z, z1, z2⟩ := copyRow a (hst c)
    refine ⟨nI ((p + 1) % 8), nI (c + 1), vf_upd rng p (sv_cp (rng p) res), nI (c + 1), vf_upd hst c z, ?_, ?_, c + 1, (p + 1) % 8, by omega, by omega, rfl, rfl, rfl, ?_⟩
    · unfold f_X1_keep
      rw [inbN hp (by decide), og_t, clN (by omega), k1, ob_s, hnz, og_t, if_neg (show ¬ (8 : Int32) ≤ nI c from nI_ge (b := 8) (by omega) (by decide)), nI_1 p, nI_1 c, hrem]
    · unfold f_X5_remember_now
      rw [if_neg (show ¬ nI c = (8 : Int32) from fun e => h8 ((nI_eq (a := c) (b := 8) (by omega) (by decide)).mp e))]
      unfold f_X5_remember_now_c52
      rw [inbN (by omega) (by decide), og_t, clN (by omega), z1, ob_s, nI_1]
    · intro j hj8
      by_cases e : j = c
      · rw [e, vupd_eq, show ((p + 1) % 8 + 8 - (c + 1) + c) % 8 = p by omega, vupd_eq]
        exact RE_ag hx k2 z2
      · rw [vupd_ne _ _ e, vupd_ne _ _ (by omega)]
        have := hj j (by omega)
        rw [show (p + 8 - c + j) % 8 = ((p + 1) % 8 + 8 - (c + 1) + j) % 8 by omega] at this
        exact this
theorem shift_bef (a : Nat → Int32) (hst : Nat → Nat → Int32) : ∀ (m fuel i : Nat) (hi : Nat → Nat → Int32), i + m = 7 → m < fuel → (∀ j, j < 8 → rowAg (hi j) (if j < i then hst (j + 1) else hst j)) → ∃ hst', f_X5_remember_bef_c21 a fuel (nI i) (nI 7) hi = f_X5_remember_bef_c52 a (nI 7) hst' ∧ ∀ j, j < 7 → rowAg (hst' j) (hst (j + 1)) := by
  intro m
  induction m with
  | zero =>
    intro fuel i h9 hi hf h
    obtain ⟨fuel, rfl⟩ : ∃ z, fuel = z + 1 := ⟨fuel - 1, by omega⟩
    refine ⟨h9, ?_, fun j hj => ?_⟩
    · unfold f_X5_remember_bef_c21
      rw [if_pos (nI_le (by omega) (by omega))]
    · have := h j (by omega)
      rw [if_pos (by omega)] at this
      exact this
  | succ m ih =>
    intro fuel i h9 hi hf h
    obtain ⟨fuel, rfl⟩ : ∃ z, fuel = z + 1 := ⟨fuel - 1, by omega⟩
    obtain ⟨c, c1, c2⟩ := copyRow (h9 (i + 1)) (h9 i)
    obtain ⟨hst', e1, e2⟩ := ih fuel (i + 1) (vf_upd h9 i c) (by omega) (by omega) (fun j hj => by
      by_cases e : j = i
      · rw [e, vupd_eq, if_pos (by omega)]
        have := h (i + 1) (by omega)
        rw [if_neg (by omega)] at this
        exact rowAg_tr c2 this
      · rw [vupd_ne _ _ e]
        have := h j hj
        by_cases e2 : j < i
        · rw [if_pos e2] at this; rw [if_pos (by omega)]; exact this
        · rw [if_neg e2] at this; rw [if_neg (by omega)]; exact this)
    refine ⟨hst', ?_, e2⟩
    unfold f_X5_remember_bef_c21
    rw [if_neg (nI_ge (by omega) (by omega)), nI_1, inbN (by omega) (by decide), inbN (by omega) (by decide), og_t, og_t, clN (by omega), clN (by omega), decide_eq_true (by omega), og_t, c1, ob_s]
    exact e1
theorem remember_bef (a : Nat → Int32) {nxt cnt : Int32} {rng : Nat → SV} {kept : Int32} {hst : Nat → Nat → Int32} (h : HS nxt cnt rng kept hst) {x : SV} (hx : RE x a) : ∃ nxt' cnt' rng' kept' hst', f_X1_keep nxt cnt rng x = some (nxt', cnt', rng') ∧ f_X5_remember_bef kept a hst = some (kept', hst') ∧ HS nxt' cnt' rng' kept' hst' := by
  obtain ⟨c, p, hc, hp, rfl, rfl, rfl, hj⟩ := h
  obtain ⟨res, k1, k2⟩ := copy_eq (rng p) x
  have hrem : nI (p + 1) - nI (p + 1) / 8 * 8 = nI ((p + 1) % 8) := pk_rem (a := p + 1) (d := 8) (by omega) (by decide) (by decide)
  have hnz : nz 8 = true := by decide
  by_cases h8 : c = 8
  · subst h8
    obtain ⟨h7, s1, s2⟩ := shift_bef a hst 7 4096 0 hst rfl (by decide) (fun j hj => by rw [if_neg (by omega)]; exact rowAg_rf _)
    obtain ⟨z, z1, z2⟩ := copyRow a (h7 7)
    refine ⟨nI ((p + 1) % 8), nI 8, vf_upd rng p (sv_cp (rng p) res), nI 8, vf_upd h7 7 z, ?_, ?_, 8, (p + 1) % 8, by omega, by omega, rfl, rfl, rfl, ?_⟩
    · unfold f_X1_keep
      rw [inbN hp (by decide), og_t, clN (by omega), k1, ob_s, hnz, og_t, if_pos (by decide), nI_1, hrem]; rfl
    · unfold f_X5_remember_bef
      rw [if_pos (show nI 8 = (8 : Int32) from rfl), show nI 8 - 1 = nI 7 from rfl]
      have s1 : f_X5_remember_bef_c21 a 4096 0 (nI 7) hst = _ := s1
      rw [s1]
      unfold f_X5_remember_bef_c52
      rw [inbN (by decide) (by decide), og_t, clN (by decide), z1, ob_s]; rfl
    · intro j hj8
      by_cases e : j = 7
      · rw [e, vupd_eq, show ((p + 1) % 8 + 8 - 8 + 7) % 8 = p by omega, vupd_eq]
        exact RE_ag hx k2 z2
      · rw [vupd_ne _ _ e, vupd_ne _ _ (by omega)]
        have := hj (j + 1) (by omega)
        rw [show (p + 8 - 8 + (j + 1)) % 8 = ((p + 1) % 8 + 8 - 8 + j) % 8 by omega] at this
        exact RE_ag this (ag_rf _) (s2 j (by omega))
  · obtain ⟨z, z1, z2⟩ := copyRow a (hst c)
    refine ⟨nI ((p + 1) % 8), nI (c + 1), vf_upd rng p (sv_cp (rng p) res), nI (c + 1), vf_upd hst c z, ?_, ?_, c + 1, (p + 1) % 8, by omega, by omega, rfl, rfl, rfl, ?_⟩
    · unfold f_X1_keep
      rw [inbN hp (by decide), og_t, clN (by omega), k1, ob_s, hnz, og_t, if_neg (show ¬ (8 : Int32) ≤ nI c from nI_ge (b := 8) (by omega) (by decide)), nI_1 p, nI_1 c, hrem]
    · unfold f_X5_remember_bef
      rw [if_neg (show ¬ nI c = (8 : Int32) from fun e => h8 ((nI_eq (a := c) (b := 8) (by omega) (by decide)).mp e))]
      unfold f_X5_remember_bef_c52
      rw [inbN (by omega) (by decide), og_t, clN (by omega), z1, ob_s, nI_1]
    · intro j hj8
      by_cases e : j = c
      · rw [e, vupd_eq, show ((p + 1) % 8 + 8 - (c + 1) + c) % 8 = p by omega, vupd_eq]
        exact RE_ag hx k2 z2
      · rw [vupd_ne _ _ e, vupd_ne _ _ (by omega)]
        have := hj j (by omega)
        rw [show (p + 8 - c + j) % 8 = ((p + 1) % 8 + 8 - (c + 1) + j) % 8 by omega] at this
        exact this
theorem change_0 (kept : Int32) (r : Nat → Int32) (hst : Nat → Nat → Int32) {kept' : Int32} {hst' : Nat → Nat → Int32} (h : f_X5_remember_now kept r hst = some (kept', hst')) : f_X5_change kept 0 r hst = some (kept', hst') := by
  unfold f_X5_change
  rw [if_pos rfl, h, ob_s]
theorem change_1 (kept : Int32) (r : Nat → Int32) (hst : Nat → Nat → Int32) : f_X5_change kept 1 r hst = some (kept, hst) := by
  unfold f_X5_change
  rw [if_neg n10]
theorem undo_eq {nxt cnt : Int32} {rng : Nat → SV} {kept : Int32} {hst : Nat → Nat → Int32} (h : HS nxt cnt rng kept hst) (x : SV) (r : Nat → Int32) : (cnt = 0 ∧ kept = 0) ∨ ∃ c nxt' x' r', cnt = nI (c + 1) ∧ kept = nI (c + 1) ∧ c < 8 ∧ f_X1_giveBack nxt cnt rng x = some (nxt', nI c, x') ∧ f_X5_copyRow (hst c) r = some r' ∧ RE x' r' ∧ HS nxt' (nI c) rng (nI c) hst := by
  obtain ⟨c, p, hc, hp, rfl, rfl, rfl, hj⟩ := h
  by_cases h0 : c = 0
  · subst h0; exact Or.inl ⟨rfl, rfl⟩
  · right
    obtain ⟨c, rfl⟩ : ∃ z, c = z + 1 := ⟨c - 1, by omega⟩
    have hrem : nI (p + 7) - nI (p + 7) / 8 * 8 = nI ((p + 7) % 8) := pk_rem (a := p + 7) (d := 8) (by omega) (by decide) (by decide)
    have hnz : nz 8 = true := by decide
    have e8 : nI p + 8 - 1 = nI (p + 7) := by
      rw [show nI p + 8 = nI (p + 8) from nI_add p 8]
      exact pk_sub (a := p + 8) (b := 1) (by omega)
    obtain ⟨res, k1, k2⟩ := copy_eq x (rng ((p + 7) % 8))
    obtain ⟨z, z1, z2⟩ := copyRow (hst c) r
    refine ⟨c, nI ((p + 7) % 8), sv_cp x res, z, rfl, rfl, by omega, ?_, z1, ?_, c, (p + 7) % 8, by omega, by omega, rfl, rfl, rfl, ?_⟩
    · unfold f_X1_giveBack
      rw [hnz, og_t, e8, hrem, inbN (by omega) (by decide), og_t, clN (by omega), k1, ob_s, nI_pred]
    · have := hj c (by omega)
      rw [show (p + 8 - (c + 1) + c) % 8 = (p + 7) % 8 by omega] at this
      exact RE_ag this k2 z2
    · intro j hj8
      have := hj j (by omega)
      rw [show (p + 8 - (c + 1) + j) % 8 = ((p + 7) % 8 + 8 - c + j) % 8 by omega] at this
      exact this
