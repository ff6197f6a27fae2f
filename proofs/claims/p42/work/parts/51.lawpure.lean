/-! the law, as a pure program, answers 1 -/
theorem undo_0 (now : SV) (nxt : Int32) (rng : Nat → SV) : f_L_undo now nxt 0 rng = some (-100000000, now, nxt, 0) := by
  have h0 : ¬ (0 : Int32) < 0 := by decide
  simp only [f_L_undo, f_X4_undo, if_neg h0, ob_n, og_n, os_ln, os_rn, tf0, tf1, tf2, tf3, e21, e31, e32, e23, if_true, if_false, eq_self]
section LAWP
variable {L : Nat} {xs : Nat → Int32}
/-- the end: what was saved is there again -/
theorem c373_1 {T : Nat} {now sna x0 : SV} {nxt cnt : Int32} {rng : Nat → SV} (hI : IV T now) (hs : IV T sna) {isv : Int32} (hv : ¬ isv = 0) (hx : sm sna x0) {d : Int64} (hd : DG x0 d) {n : Nat} (hb : g_buskers x0 = nI n) (te re de : Int32) (spa : SV) (sig : Nat → Int32) : f_L_law_c373 L xs 1 d (nI n) isv te re de now spa sna 0 sig nxt cnt rng = some 1 := by
  rcases S_restore (isv := isv) (cnt := cnt) hI hs with ⟨q, -⟩ | ⟨-, n', now', hn8, e, s1, s2⟩
  · exact absurd q hv
  · have hb2 : g_buskers sna = nI n := by
      obtain ⟨ρ, rfl⟩ := hx
      exact hb
    have hd2 := DG_sm (DG_sm hd hx) s1 0 0
    unfold f_L_law_c373
    rw [if_neg n10, e, ob_s]
    dsimp only
    rw [if_pos (s2.symm.trans hb2), hd2, ob_s, if_pos (lgc_s d), undo_0, ob_s, if_pos rfl]
/-- joins, draws, hours -/
theorem c300_1 {T0 : Nat} (hT : T0 < 1073000000) {sna x0 : SV} {isv : Int32} (hv : ¬ isv = 0) (hx : sm sna x0) {d : Int64} (hd : DG x0 d) {n : Nat} (hb : g_buskers x0 = nI n) : ∀ (m fuel i : Nat) (te re de : Int32) (now spa : SV) (sig : Nat → Int32) (nxt cnt : Int32) (rng : Nat → SV), i + m = 8 → m < fuel → Ob (T0 + 100 * i) now spa sna nxt cnt rng → f_L_law_c300 L xs fuel 1 d (nI n) (nI i) isv te re de now spa sna 0 sig nxt cnt rng = some 1 := by
  have z4 : nz 4 = true := by decide
  intro m
  induction m with
  | zero =>
    intro fuel i te re de now spa sig nxt cnt rng hi hf hO
    obtain ⟨fuel, rfl⟩ : ∃ z, fuel = z + 1 := ⟨fuel - 1, by omega⟩
    unfold f_L_law_c300
    rw [if_neg n10, if_pos (show (8 : Int32) ≤ nI i from nI_le (a := 8) (by omega) (by omega))]
    exact c373_1 hO.1 hO.2.2.1 hv hx hd hb te re de spa sig
  | succ m ih =>
    intro fuel i te re de now spa sig nxt cnt rng hi hf hO
    obtain ⟨fuel, rfl⟩ : ∃ z, fuel = z + 1 := ⟨fuel - 1, by omega⟩
    obtain ⟨k1, re1, de1, now1, nxt1, cnt1, rng1, e1, r1⟩ := S_join hO.1 hO.2.2.2 re de (nI i - nI i / 4 * 4)
    obtain ⟨o1, -⟩ := Rs_ob hO (Nat.le_refl _) (by omega) r1
    have o1 : Ob (T0 + 100 * i) now1 spa sna nxt1 cnt1 rng1 := by
      rcases r1 with ⟨-, rfl, rfl, rfl, rfl⟩ | ⟨-, h2, h3, -⟩
      · exact hO
      · exact ⟨h2, hO.2.1, hO.2.2.1, h3⟩
    obtain ⟨k2, re2, de2, now2, nxt2, cnt2, rng2, e2, r2⟩ := S_draw o1.1 o1.2.2.2 re1 de1 (nI i) ((13 : Int32) * nI i)
    have o2 : Ob (T0 + 100 * i) now2 spa sna nxt2 cnt2 rng2 := by
      rcases r2 with ⟨-, rfl, rfl, rfl, rfl⟩ | ⟨-, h2, h3, -⟩
      · exact o1
      · exact ⟨h2, o1.2.1, o1.2.2.1, h3⟩
    have hr : nI i - nI i / 4 * 4 = nI (i % 4) := rem_n (L := 4) (by omega) (by decide) (by decide)
    have h4 : i % 4 < 4 := Nat.mod_lt _ (by decide)
    obtain ⟨g, y, hg, hy, hp, hxx⟩ := S_hours o2.1 (H := 1 + i % 4) (by omega)
    obtain ⟨now3, nxt3, cnt3, rng3, e3, ⟨ρ3, rfl⟩, h3, -⟩ := S_passN o2.1 o2.2.2.2 (H := 1 + i % 4) (by omega) (by omega) hxx
    have e3 : f_L_pass now2 nxt2 cnt2 rng2 ((1 : Int32) + (nI i - nI i / 4 * 4)) = some (nI g, s_row y ρ3, nxt3, cnt3, rng3) := by
      rw [hr, show (1 : Int32) + nI (i % 4) = nI (1 + i % 4) from nI_add 1 (i % 4)]
      exact e3
    obtain ⟨ρ4, spa4, s4, e4⟩ := isFit_1 (T := T0 + 100 * i + 5) (IV_le (IV_sm hy (sm_row y ρ3)) (by omega)) (by omega) (IV_le o2.2.1 (by omega)) 0 cnt3
    rw [rw_row] at e4
    have i4 : IV (T0 + 100 * i + 5) (s_row y ρ4) := IV_le (IV_sm hy (sm_row y ρ4)) (by omega)
    have h4v : HV (T0 + 100 * i + 5) nxt3 cnt3 rng3 := HV_le h3 (by omega)
    obtain ⟨k5, re5, de5, now5, nxt5, cnt5, rng5, e5, r5⟩ := S_strings i4 h4v re2 de2 (nI i - nI i / 4 * 4)
    have o5 : Ob (T0 + 100 * (i + 1)) now5 spa4 sna nxt5 cnt5 rng5 := by
      rcases r5 with ⟨-, rfl, rfl, rfl, rfl⟩ | ⟨-, h2, h3, -⟩
      · exact ⟨IV_le i4 (by omega), IV_le s4 (by omega), IV_le hO.2.2.1 (by omega), HV_le h4v (by omega)⟩
      · exact ⟨IV_le h2 (by omega), IV_le s4 (by omega), IV_le hO.2.2.1 (by omega), HV_le h3 (by omega)⟩
    unfold f_L_law_c300
    rw [if_neg n10, if_neg (show ¬ (8 : Int32) ≤ nI i from nI_ge (b := 8) (by omega) (by decide)), z4, og_t, e1, ob_s]
    dsimp only
    rw [e2, ob_s, og_t]
    dsimp only
    rw [e3, ob_s]
    dsimp only
    rw [if_neg (nI_pos (by omega)), e4, ob_s]
    dsimp only
    rw [if_neg n10]
    unfold f_L_law_c357
    rw [z4, og_t, e5, ob_s]
    dsimp only
    rw [nI_1]
    exact ih fuel (i + 1) te re5 de5 now5 spa4 sig nxt5 cnt5 rng5 (by omega) (by omega) o5
/-- texts -/
theorem c218_1 {T0 : Nat} (hT : T0 < 1070000000) {sna x0 : SV} {isv : Int32} (hv : ¬ isv = 0) (hx : sm sna x0) {d : Int64} (hd : DG x0 d) {n : Nat} (hb : g_buskers x0 = nI n) (h0 : IV T0 x0) : ∀ (m fuel i : Nat) (te re de : Int32) (now spa : SV) (sig : Nat → Int32) (nxt cnt : Int32) (rng : Nat → SV), i + m = 18 → m < fuel → Ob (T0 + 2000 * i) now spa sna nxt cnt rng → sm now x0 → f_L_law_c218 L xs fuel 1 d (nI n) (nI i) isv te re de now spa sna 0 sig nxt cnt rng = some 1 := by
  intro m
  induction m with
  | zero =>
    intro fuel i te re de now spa sig nxt cnt rng hi hf hO hsm
    obtain ⟨fuel, rfl⟩ : ∃ z, fuel = z + 1 := ⟨fuel - 1, by omega⟩
    unfold f_L_law_c218
    rw [if_neg n10, if_pos (show (18 : Int32) ≤ nI i from nI_le (a := 18) (by omega) (by omega))]
    exact c300_1 (L := L) (xs := xs) (T0 := T0 + 2000 * i) (by omega) hv hx hd hb 8 9 0 te re de now spa sig nxt cnt rng rfl (by omega) (Ob_le hO (by omega))
  | succ m ih =>
    intro fuel i te re de now spa sig nxt cnt rng hi hf hO hsm
    obtain ⟨fuel, rfl⟩ : ∃ z, fuel = z + 1 := ⟨fuel - 1, by omega⟩
    have ht : i < 18 := by omega
    obtain ⟨sig', w1, w2⟩ := S_write ht sig
    obtain ⟨k, re', de', now', ρ, nxt', cnt', rng', e1, e2⟩ := S_read hO.1 hO.2.1 hO.2.2.2 ht w2 te re de
    unfold f_L_law_c218
    rw [if_neg n10, if_neg (show ¬ (18 : Int32) ≤ nI i from nI_ge (b := 18) (by omega) (by decide)), inbN ht (by decide), og_t, clN (by omega), w1, ob_s]
    dsimp only
    rw [e1, ob_s]
    dsimp only
    rw [show f_X4_errorPosition (-1) = some (-1) from rfl, ob_s, if_pos rfl]
    rcases e2 with ⟨rfl, s1, rfl, rfl, rfl⟩ | ⟨⟨m', hm, rfl⟩, s1, s2, s3⟩
    · have hsm' := sm_tr s1 hsm
      have hd' := DG_sm hd hsm' 0 cnt'
      rw [if_pos rfl]
      unfold f_L_law_c275
      rw [hd', ob_s, if_pos (lgc_s d), nI_1]
      exact ih fuel (i + 1) (-1) re' de' now' (s_row now ρ) sig' nxt' cnt' rng' (by omega) (by omega) ⟨IV_le (IV_sm hO.1 s1) (by omega), IV_le (IV_sm hO.1 (sm_row now ρ)) (by omega), IV_le hO.2.2.1 (by omega), HV_le hO.2.2.2 (by omega)⟩ hsm'
    · obtain ⟨ρ2, spa2, q1, q2⟩ := isFit_1 (T := T0 + 2000 * i + 2000) s1 (by omega) (IV_le (IV_sm hO.1 (sm_row now ρ)) (by omega)) 0 cnt'
      obtain ⟨c, now3, nxt3, hc, u1, u2, u3⟩ := S_undo_top (IV_sm s1 (sm_row now' ρ2)) s2 s3
      have hsm' := sm_tr u2 hsm
      have hd' := DG_sm hd hsm' 0 (nI c)
      rw [if_neg (nI_ne_ref hm), q2, ob_s]
      dsimp only
      rw [if_neg n10, u1, ob_s]
      dsimp only
      rw [if_neg (nI_pos (by omega))]
      unfold f_L_law_c275
      rw [hd', ob_s, if_pos (lgc_s d), nI_1]
      exact ih fuel (i + 1) (-1) re' de' now3 spa2 sig' nxt3 (nI c) rng' (by omega) (by omega) ⟨IV_le (IV_sm hO.1 u2) (by omega), IV_le q1 (by omega), IV_le hO.2.2.1 (by omega), HV_le u3 (by omega)⟩ hsm'
/-- looks ahead -/
theorem c163_1 {T0 : Nat} (hT : T0 < 1060000000) {now spa sna : SV} {nxt cnt : Int32} {rng : Nat → SV} (hO : Ob T0 now spa sna nxt cnt rng) (isv te re de : Int32) (sig : Nat → Int32) : f_L_law_c163 L xs 1 isv te re de now spa sna 0 sig nxt cnt rng = some 1 := by
  obtain ⟨hI, hs, hn, hH⟩ := id hO
  obtain ⟨re', de', ρ1, ρ2, e1⟩ := S_read0 (nxt := nxt) (cnt := cnt) (rng := rng) hI hs sig te re de
  have hI1 : IV T0 (s_row now ρ1) := IV_sm hI (sm_row now ρ1)
  have hs1 : IV T0 (s_row now ρ2) := IV_sm hI (sm_row now ρ2)
  obtain ⟨d, hd⟩ := DG_ex hI1
  obtain ⟨n, sna', hn8, e2, s1, hb⟩ := S_save (isv := isv) hI1 hn
  obtain ⟨ρ3, spa3, nxt3, cnt3, rng3, a1, a2, a3⟩ := isAhead_1 hI1 (by omega) hs1 hH 0 (H := 1) (by omega) (by omega)
  rw [rw_row] at a3
  obtain ⟨ρ4, spa4, nxt4, cnt4, rng4, b1, b2, b3⟩ := isAhead_1 (T := T0 + 1) (IV_le (IV_sm hI (sm_row now ρ3)) (by omega)) (by omega) a1 a2 0 (H := 5) (by omega) (by omega)
  rw [rw_row] at b3
  obtain ⟨ρ5, spa5, nxt5, cnt5, rng5, c1, c2, c3⟩ := isAhead_1 (T := T0 + 1 + 5) (IV_le (IV_sm hI (sm_row now ρ4)) (by omega)) (by omega) b1 b2 0 (H := 60) (by omega) (by omega)
  rw [rw_row] at c3
  have a3 : f_L_isAhead (s_row now ρ1) (s_row now ρ2) 0 nxt cnt rng 1 = some (1, s_row now ρ3, spa3, nxt3, cnt3, rng3) := a3
  have b3 : f_L_isAhead (s_row now ρ3) spa3 0 nxt3 cnt3 rng3 5 = some (1, s_row now ρ4, spa4, nxt4, cnt4, rng4) := b3
  have c3 : f_L_isAhead (s_row now ρ4) spa4 0 nxt4 cnt4 rng4 60 = some (1, s_row now ρ5, spa5, nxt5, cnt5, rng5) := c3
  have v1 : ¬ (1 : Int32) = 0 := n10
  have fin := c218_1 (L := L) (xs := xs) (T0 := T0 + 1 + 5 + 60) (by omega) v1 s1 hd hb (IV_le hI1 (by omega)) 18 19 0 0 re' de' (s_row now ρ5) spa5 sig nxt5 cnt5 rng5 rfl (by omega) ⟨IV_le (IV_sm hI (sm_row now ρ5)) (by omega), IV_le c1 (by omega), IV_le (IV_sm hI1 s1) (by omega), HV_le c2 (by omega)⟩ (sm_tr (sm_row now ρ5) (sm_sy (sm_row now ρ1)))
  unfold f_L_law_c163
  rw [e1, ob_s]
  dsimp only
  rw [hd 0 cnt, ob_s, e2, ob_s]
  dsimp only
  rw [if_neg n10, a3, ob_s]
  dsimp only
  rw [if_neg n10, b3, ob_s]
  dsimp only
  rw [if_neg n10, c3, ob_s]
  dsimp only
  rw [if_neg n10]
  exact fin
/-- the quietest pitches -/
theorem c136_1 {T0 : Nat} (hT : T0 < 1060000000) {x : SV} {n w : Nat} {ln : Nat → Nat} (h : JV T0 x n w ln) {spa sna : SV} (hs : IV T0 spa) (hn : IV T0 sna) (isv te re de : Int32) (sig : Nat → Int32) : ∀ (m fuel i : Nat) (ρ : Nat → UInt32) (nxt cnt : Int32) (rng : Nat → SV), i + m = n → m < fuel → HV T0 nxt cnt rng → f_L_law_c136 L xs fuel 1 (nI i) isv te re de (s_row x ρ) spa sna 0 sig nxt cnt rng = some 1 := by
  have hn8 := h.1.2
  intro m
  induction m with
  | zero =>
    intro fuel i ρ nxt cnt rng hi hf hH
    obtain ⟨fuel, rfl⟩ : ∃ z, fuel = z + 1 := ⟨fuel - 1, by omega⟩
    unfold f_L_law_c136
    rw [if_neg n10, A_2 (JV_row h ρ), ob_s, os_rn, if_pos (nI_le (by omega) (by omega))]
    exact c163_1 hT ⟨⟨n, w, ln, JV_row h ρ⟩, hs, hn, hH⟩ isv te re de sig
  | succ m ih =>
    intro fuel i ρ nxt cnt rng hi hf hH
    obtain ⟨fuel, rfl⟩ : ∃ z, fuel = z + 1 := ⟨fuel - 1, by omega⟩
    obtain ⟨ρ', nxt', cnt', rng', q1, q2⟩ := isQuietest_1 (JV_row h ρ) (b := i) (by omega) hH
    rw [rw_row] at q2
    unfold f_L_law_c136
    rw [if_neg n10, A_2 (JV_row h ρ), ob_s, os_rn, if_neg (nI_ge (by omega) (by omega)), q2, ob_s]
    dsimp only
    rw [nI_1]
    exact ih fuel (i + 1) ρ' nxt' cnt' rng' (by omega) (by omega) q1
theorem cell_1 {i : Nat} (hi : i < L) (h44 : i < 64) (hL : L ≤ 260) : f_L_cell L xs (nI i) = some (xs i) := by
  have ha : nI i &&& 65535 = nI i := (by decide +kernel : ∀ k, k < 64 → nI k &&& 65535 = nI k) i h44
  have hz : nz (nI L) = true := by
    unfold nz
    exact decide_eq_true (nI_ne0 (by omega) (by omega))
  unfold f_L_cell
  rw [if_neg (nI_ne0 (by omega) (by omega)), hz, og_t, ha, rem_n (by omega) (by omega) (by omega), Nat.mod_eq_of_lt hi, inbN hi (by omega), og_t, clN (by omega)]
/-- the acts -/
theorem c85_1 (hL : L ≤ 260) {N : Nat} (hN : N ≤ 44) (hNL : N ≤ L) : ∀ (m fuel i : Nat) (isv te re de : Int32) (now spa sna : SV) (sig : Nat → Int32) (nxt cnt : Int32) (rng : Nat → SV), i + m = N → m < fuel → Ob (2000 * i) now spa sna nxt cnt rng → f_L_law_c85 L xs fuel (nI N) (nI i) isv te re de now spa sna 0 sig nxt cnt rng = some 1 := by
  intro m
  induction m with
  | zero =>
    intro fuel i isv te re de now spa sna sig nxt cnt rng hi hf hO
    obtain ⟨fuel, rfl⟩ : ∃ z, fuel = z + 1 := ⟨fuel - 1, by omega⟩
    obtain ⟨hI, hs, hn, hH⟩ := id hO
    obtain ⟨ρ, spa', q1, q2⟩ := isFit_1 hI (by omega) hs 0 cnt
    obtain ⟨n, w, ln, h⟩ := hI
    have hn8 := h.1.2
    unfold f_L_law_c85
    rw [if_pos (nI_le (by omega) (by omega)), q2, ob_s]
    dsimp only
    exact c136_1 (by omega) h q1 hn isv te re de sig n 9 0 ρ nxt cnt rng (by omega) (by omega) hH
  | succ m ih =>
    intro fuel i isv te re de now spa sna sig nxt cnt rng hi hf hO
    obtain ⟨fuel, rfl⟩ : ∃ z, fuel = z + 1 := ⟨fuel - 1, by omega⟩
    obtain ⟨d, hd⟩ := DG_ex hO.1
    obtain ⟨k, isv', te', re', de', now', spa', sna', sig', nxt', cnt', rng', e1, e2, e3⟩ := act_1 hO isv te re de sig (xs i)
    have hrec := ih fuel (i + 1) isv' te' re' de' now' spa' sna' sig' nxt' cnt' rng' (by omega) (by omega) (Ob_le e2 (by omega))
    unfold f_L_law_c85
    rw [if_neg (nI_ge (by omega) (by omega)), hd 0 cnt, ob_s, cell_1 (by omega) (by omega) hL, ob_s, e1, ob_s]
    dsimp only
    by_cases hk : k = -100000000
    · have hd' := DG_sm hd (e3 hk) 0 cnt'
      rw [if_pos hk, hd', ob_s, if_pos (lgc_s d), nI_1]
      exact hrec
    · rw [if_neg hk, nI_1]
      exact hrec
theorem Rs_O {T : Nat} {now spa sna : SV} {nxt cnt : Int32} {rng : Nat → SV} (hO : Ob T now spa sna nxt cnt rng) {k : Int32} {now' : SV} {nxt' cnt' : Int32} {rng' : Nat → SV} (h : Rs T now nxt cnt rng k now' nxt' cnt' rng') : Ob T now' spa sna nxt' cnt' rng' := by
  rcases h with ⟨-, rfl, rfl, rfl, rfl⟩ | ⟨-, h2, h3, -⟩
  · exact hO
  · exact ⟨h2, hO.2.1, hO.2.2.1, h3⟩
/-- the beginning -/
theorem c10_1 (hL : L ≤ 260) : ∀ (m fuel i : Nat) (isv te re de : Int32) (now spa sna : SV) (sig : Nat → Int32) (nxt cnt : Int32) (rng : Nat → SV), i + m = 4 → m < fuel → Ob 0 now spa sna nxt cnt rng → f_L_law_c10 L xs fuel (nI i) isv te re de now spa sna 0 sig nxt cnt rng = some 1 := by
  have z2 : nz 2 = true := by decide
  intro m
  induction m with
  | zero =>
    intro fuel i isv te re de now spa sna sig nxt cnt rng hi hf hO
    obtain ⟨fuel, rfl⟩ : ∃ z, fuel = z + 1 := ⟨fuel - 1, by omega⟩
    obtain ⟨k1, re1, de1, now1, nxt1, cnt1, rng1, e1, r1⟩ := S_draw hO.1 hO.2.2.2 re de 0 0
    have o1 := Rs_O hO r1
    obtain ⟨k2, re2, de2, now2, nxt2, cnt2, rng2, e2, r2⟩ := S_draw o1.1 o1.2.2.2 re1 de1 1 1
    have o2 := Rs_O o1 r2
    obtain ⟨k3, re3, de3, now3, nxt3, cnt3, rng3, e3, r3⟩ := S_rack o2.1 o2.2.2.2 re2 de2 0 0
    have o3 := Rs_O o2 r3
    obtain ⟨k4, now4, nxt4, cnt4, rng4, e4, r4⟩ := S_crowd o3.1 o3.2.2.2 30
    have o4 := Rs_O o3 r4
    unfold f_L_law_c10
    rw [if_pos (show (4 : Int32) ≤ nI i from nI_le (a := 4) (by omega) (by omega)), e1, ob_s]
    dsimp only
    rw [e2, ob_s]
    dsimp only
    rw [e3, ob_s]
    dsimp only
    rw [e4, ob_s]
    dsimp only
    by_cases h44 : 44 ≤ L
    · rw [if_pos (show (44 : Int32) ≤ nI L from nI_le (a := 44) h44 (by omega))]
      exact c85_1 hL (N := 44) (by omega) h44 44 45 0 isv te re3 de3 now4 spa sna sig nxt4 cnt4 rng4 rfl (by omega) o4
    · rw [if_neg (show ¬ (44 : Int32) ≤ nI L from nI_ge (b := 44) (by omega) (by decide))]
      exact c85_1 hL (N := L) (by omega) (Nat.le_refl _) L 45 0 isv te re3 de3 now4 spa sna sig nxt4 cnt4 rng4 (by omega) (by omega) o4
  | succ m ih =>
    intro fuel i isv te re de now spa sna sig nxt cnt rng hi hf hO
    obtain ⟨fuel, rfl⟩ : ∃ z, fuel = z + 1 := ⟨fuel - 1, by omega⟩
    obtain ⟨k1, re1, de1, now1, nxt1, cnt1, rng1, e1, r1⟩ := S_busker hO.1 hO.2.2.2 re de (nI i - nI i / 2 * 2) ((1 : Int32) + ((2 : Int32) * nI i))
    have o1 := Rs_O hO r1
    obtain ⟨k2, re2, de2, now2, nxt2, cnt2, rng2, e2, r2⟩ := S_join o1.1 o1.2.2.2 re1 de1 (nI i)
    have o2 := Rs_O o1 r2
    unfold f_L_law_c10
    rw [if_neg (show ¬ (4 : Int32) ≤ nI i from nI_ge (b := 4) (by omega) (by decide)), z2, og_t, e1, ob_s]
    dsimp only
    rw [e2, ob_s]
    dsimp only
    rw [nI_1]
    exact ih fuel (i + 1) isv te re2 de2 now2 spa sna sig nxt2 cnt2 rng2 (by omega) (by omega) o2
end LAWP
