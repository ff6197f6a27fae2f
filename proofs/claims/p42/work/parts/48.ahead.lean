/-! what comes ahead -/
section AHEAD
variable {T : Nat} {x : SV} {n w : Nat} {ln : Nat → Nat}
theorem gb_row {x y : SV} {ρ : Nat → UInt32} (e : s_row (s_wea (s_hat (s_hrs (s_pit (s_sof (s_cmp (s_hour x (g_hour y)) (g_cmp y)) (g_sof y)) (g_pit y)) (g_hrs y)) (g_hat y)) (g_wea y)) ρ = s_row y ρ) : g_buskers y = g_buskers x := by
  have e1 := congrArg g_buskers e
  simp only [gs_buskers_row, gs_buskers_wea, gs_buskers_hat, gs_buskers_hrs, gs_buskers_pit, gs_buskers_sof, gs_buskers_cmp, gs_buskers_hour] at e1
  exact e1.symm
theorem c204_1 {nxt cnt : Int32} {rng : Nat → SV} {y : SV} (hy : IV T y) (hH : HV T nxt cnt rng) (ht : TopV nxt cnt rng x) {d : Int64} (hd : DG x d) (len : Int32) (spa : SV) (wa wb : Nat → Int32) : ∃ ρ nxt' cnt', HV T nxt' cnt' rng ∧ f_L_isAhead_c204 len d 1 y spa nxt cnt rng wa wb = some (1, s_row x ρ, spa, nxt', cnt', rng) := by
  obtain ⟨c, now2, nxt2, hc, e2, ⟨ρ, rfl⟩, h2⟩ := S_undo_top hy hH ht
  refine ⟨ρ, nxt2, nI c, h2, ?_⟩
  have hd' := DG_sm hd (sm_row x ρ) len (nI c)
  unfold f_L_isAhead_c204
  rw [if_neg n10, e2, ob_s]
  dsimp only
  rw [if_neg (nI_pos (by omega)), hd', ob_s, if_pos (lgc_s d)]
theorem c117_1 {nxt cnt : Int32} {rng : Nat → SV} {y : SV} {n w : Nat} {ln : Nat → Nat} (hJ : JV T y n w ln) (hH : HV T nxt cnt rng) (ht : TopV nxt cnt rng x) {d : Int64} (hd : DG x d) (len : Int32) (spa : SV) {H : Nat} (hH9 : H < 900) {wa wb : Nat → Int32} (hwa : ∀ j, j < n → wa j = (g_hat y j).toInt32) (hwb : ∀ j, j < n → ∃ m, m ≤ H ∧ g_hrs y j = wb j + nI m ∧ (g_pit y j ≠ -1 → m = H)) : ∀ (m fuel i : Nat), i + m = n → m < fuel → ∃ ρ nxt' cnt', HV T nxt' cnt' rng ∧ f_L_isAhead_c117 len (nI H) fuel d 1 (nI i) y spa nxt cnt rng wa wb = some (1, s_row x ρ, spa, nxt', cnt', rng) := by
  have hn8 := hJ.1.2
  have hI : qPi (g_pit y) := by
    obtain ⟨hA, hc', hL, hO, hS, hK, hF, hI, hJ', hG, hGj, hE, hN, hD, hY, hZ⟩ := id hJ
    exact hI
  intro m
  induction m with
  | zero =>
    intro fuel i hi hf
    obtain ⟨fuel, rfl⟩ : ∃ z, fuel = z + 1 := ⟨fuel - 1, by omega⟩
    obtain ⟨ρ, a1, a2, a3, a4⟩ := c204_1 (y := y) ⟨n, w, ln, hJ⟩ hH ht hd len spa wa wb
    refine ⟨ρ, a1, a2, a3, ?_⟩
    unfold f_L_isAhead_c117
    rw [if_neg n10, A_2 hJ, ob_s, os_rn, if_pos (nI_le (by omega) (by omega))]
    exact a4
  | succ m ih =>
    intro fuel i hi hf
    obtain ⟨fuel, rfl⟩ : ∃ z, fuel = z + 1 := ⟨fuel - 1, by omega⟩
    have hb : i < n := by omega
    have hh := (wea_lt hJ hb).2
    obtain ⟨z, z1, z2, z3⟩ := hwb i hb
    obtain ⟨ρ, a1, a2, a3, a4⟩ := ih fuel (i + 1) (by omega) (by omega)
    refine ⟨ρ, a1, a2, a3, ?_⟩
    have e5 : f_X4_buskerOf y (nI i) 5 = some (.inr (g_hrs y i)) := R_b hJ hb (j := 5) (by decide)
    have e2 : f_X4_buskerOf y (nI i) 2 = some (.inr (g_pit y i)) := R_b hJ hb (j := 2) (by decide)
    have hmore : g_hrs y i - wb i = nI z := by rw [z2, Int32.add_comm, Int32.add_sub_cancel]
    unfold f_L_isAhead_c117
    rw [if_neg n10, A_2 hJ, ob_s, os_rn, if_neg (nI_ge (by omega) (by omega)), e5, ob_s, os_rn, inbN (by omega) (by decide), og_t, R_hat hJ hb, ob_s, os_rn, fToI_n (by omega), ob_s, og_t, clN (by omega), if_pos (hwa i hb).symm, hmore, if_neg (nI_pos (by omega)), if_neg (nI_nlt z1 (by omega)), e2, ob_s, os_rn, nI_1]
    rcases hI i (by omega) with q | ⟨k, hk, q⟩
    · rw [if_pos (by rw [q]; decide)]; exact a4
    · rw [if_neg (by rw [q]; exact nI_pos (by omega)), if_pos (by rw [z3 (by rw [q]; exact nI_ne_m1 (by omega))])]; exact a4
theorem isAhead_1 (hx0 : IV T x) (hT : T < 1073740000) {spa : SV} (hs : IV T spa) {nxt cnt : Int32} {rng : Nat → SV} (hH : HV T nxt cnt rng) (len : Int32) {H : Nat} (h1 : 1 ≤ H) (h2 : H ≤ 60) : ∃ ρ spa' nxt' cnt' rng', IV (T + H) spa' ∧ HV (T + H) nxt' cnt' rng' ∧ f_L_isAhead x spa len nxt cnt rng (nI H) = some (1, s_row x ρ, spa', nxt', cnt', rng') := by
  obtain ⟨n, w, ln, h⟩ := id hx0
  have hn8 := h.1.2
  obtain ⟨d, hd⟩ := DG_ex hx0
  obtain ⟨g, y, hg, hy, hp, hx, hpl, hat⟩ := R_hours h h2
  obtain ⟨row0, -, hrow0⟩ := hx (fun _ => 0)
  have hgb := gb_row hrow0
  obtain ⟨ny, wy, lny, hJy⟩ := id hy
  have hny : ny = n := by
    have e : nI ny = nI n := hJy.1.1.symm.trans (hgb.trans h.1.1)
    have := hJy.1.2
    exact (nI_eq (by omega) (by omega)).mp e
  subst hny
  obtain ⟨now1, nxt1, cnt1, rng1, p1, ⟨ρ1, rfl⟩, p2, p3⟩ := S_passN hx0 hH h1 h2 hx
  -- from the pass on
  have fin : ∀ (wa wb : Nat → Int32) (spa : SV), IV (T + H) spa → (∀ j, j < ny → wa j = (g_hat y j).toInt32 ∧ wb j = g_hrs x j) → ∃ ρ spa' nxt' cnt' rng', IV (T + H) spa' ∧ HV (T + H) nxt' cnt' rng' ∧ ∀ fuel, f_L_isAhead_c34 len (nI H) (fuel + 1) d (nI (cP (g_pit y))) (nI (cP (g_pit x))) (nI ny) x spa nxt cnt rng wa wb = some (1, s_row x ρ, spa', nxt', cnt', rng') := by
    intro wa wb spa hs hw
    obtain ⟨ρ2, spa', s1, s2⟩ := isFit_1 (IV_sm hy (sm_row y ρ1)) (by omega) hs len cnt1
    rw [rw_row] at s2
    obtain ⟨ρ3, nxt2, cnt2, v1, v2⟩ := c117_1 (x := x) (JV_row hJy ρ2) (HV_le p2 (by omega)) p3 hd len spa' (H := H) (by omega) (wa := wa) (wb := wb) (fun j hj => (hw j hj).1) (fun j hj => by
      obtain ⟨m, m1, m2, m3⟩ := hp.1 j (by omega)
      exact ⟨m, m1, by rw [(hw j hj).2]; exact m2, m3⟩) ny 9 0 (by omega) (by omega)
    have v2 : f_L_isAhead_c117 len (nI H) 9 d 1 0 (s_row y ρ2) spa' nxt1 cnt1 rng1 wa wb = some (1, s_row x ρ3, spa', nxt2, cnt2, rng1) := v2
    refine ⟨ρ3, spa', nxt2, cnt2, rng1, s1, v1, fun fuel => ?_⟩
    have a5 : f_X4_account (s_row y ρ1) len cnt1 5 = some (.inr (nI (cP (g_pit y)))) := A_5 len cnt1
    have hcp := hp.2
    unfold f_L_isAhead_c34
    rw [A_2 h, ob_s, os_rn, if_pos (nI_le (Nat.le_refl _) (by omega)), p1, ob_s]
    dsimp only
    rw [a5, ob_s, os_rn, if_pos (by rw [nI_sub (by omega)]; congr 1; omega), ob_s, os_rn, if_pos rfl, s2, ob_s]
    dsimp only
    rw [if_neg n10]
    exact v2
  have loop : ∀ (m fuel i : Nat) (ρ : Nat → UInt32) (wa wb : Nat → Int32), i + m = ny → m < fuel → (∀ j, j < i → wa j = (g_hat y j).toInt32 ∧ wb j = g_hrs x j) → ∃ ρ' spa' nxt' cnt' rng', IV (T + H) spa' ∧ HV (T + H) nxt' cnt' rng' ∧ f_L_isAhead_c34 len (nI H) fuel d (nI (cP (g_pit y))) (nI (cP (g_pit x))) (nI i) x (s_row y ρ) nxt cnt rng wa wb = some (1, s_row x ρ', spa', nxt', cnt', rng') := by
    intro m
    induction m with
    | zero =>
      intro fuel i ρ wa wb hi hf hw
      obtain ⟨fuel, rfl⟩ : ∃ z, fuel = z + 1 := ⟨fuel - 1, by omega⟩
      have hi2 : i = ny := by omega
      subst hi2
      obtain ⟨ρ', b1, b2, b3, b4, b5, b6, b7⟩ := fin wa wb (s_row y ρ) (IV_sm hy (sm_row y ρ)) hw
      exact ⟨ρ', b1, b2, b3, b4, b5, b6, b7 fuel⟩
    | succ m ih =>
      intro fuel i ρ wa wb hi hf hw
      obtain ⟨fuel, rfl⟩ : ∃ z, fuel = z + 1 := ⟨fuel - 1, by omega⟩
      have hb : i < ny := by omega
      obtain ⟨ρ1', e1⟩ := hat (s_row y ρ) i (IV_Z (IV_sm hy (sm_row y ρ))) hb
      have e5 : f_X4_buskerOf x (nI i) 5 = some (.inr (g_hrs x i)) := R_b h hb (j := 5) (by decide)
      obtain ⟨ρ', b1, b2, b3, b4, b5, b6, b7⟩ := ih fuel (i + 1) ρ1' (upd wa i (g_hat y i).toInt32) (upd wb i (g_hrs x i)) (by omega) (by omega) (fun j hj => by
        by_cases e : j = i
        · rw [e, upd_eq, upd_eq]; exact ⟨rfl, rfl⟩
        · rw [upd_ne _ _ e, upd_ne _ _ e]; exact hw j (by omega))
      refine ⟨ρ', b1, b2, b3, b4, b5, b6, ?_⟩
      unfold f_L_isAhead_c34
      rw [A_2 h, ob_s, os_rn, if_neg (nI_ge (by omega) (by omega)), e1, ob_s, os_rn, inbN (by omega) (by decide), og_t, e5, ob_s, os_rn, og_t, clN (by omega), nI_1]
      exact b7
  obtain ⟨ρ0, e0⟩ := hpl spa (IV_Z hs)
  obtain ⟨ρ', b1, b2, b3, b4, b5, b6, b7⟩ := loop ny 9 0 ρ0 (fun _ => 0) (fun _ => 0) (by omega) (by omega) (fun j hj => by omega)
  refine ⟨ρ', b1, b2, b3, b4, b5, b6, ?_⟩
  have b7 : f_L_isAhead_c34 len (nI H) 9 d (nI (cP (g_pit y))) (nI (cP (g_pit x))) 0 x (s_row y ρ0) nxt cnt rng (fun _ => 0) (fun _ => 0) = some (1, s_row x ρ', b1, b2, b3, b4) := b7
  unfold f_L_isAhead
  rw [hd len cnt, ob_s, e0, ob_s, os_rn, A_5, ob_s, os_rn]
  exact b7
end AHEAD
