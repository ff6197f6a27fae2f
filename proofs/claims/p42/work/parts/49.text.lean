/-! texts: written, read, carried out -/
theorem tB_nar : ∀ i, i < 18 → ∀ j, j < tL i → vp_nar .char (tB i j) = tB i j := by decide +kernel
theorem tB_isC : ∀ i, i < 18 → ∀ j, j < tL i → isC (tB i j) = true := by decide +kernel
theorem tL_12 : ∀ i, i < 18 → tL i < 12 := by decide +kernel
theorem write_c {t : Nat} (ht : t < 18) : ∀ (m fuel i : Nat) (sig : Nat → Int32), i + m = tL t → m < fuel → (∀ j, j < i → sig j = tB t j) → ∃ sig', f_L_write_c2 t fuel (nI i) (nI i) sig = some (nI (tL t), sig') ∧ ∀ j, j < tL t → sig' j = tB t j := by
  have hL := tL_12 t ht
  have hd : decide (t < 18) = true := decide_eq_true ht
  intro m
  induction m with
  | zero =>
    intro fuel i sig hi hf hs
    obtain ⟨fuel, rfl⟩ : ∃ z, fuel = z + 1 := ⟨fuel - 1, by omega⟩
    refine ⟨sig, ?_, fun j hj => hs j (by omega)⟩
    unfold f_L_write_c2
    rw [hd, og_t, if_pos (nI_le (by omega) (by omega)), show i = tL t by omega]
  | succ m ih =>
    intro fuel i sig hi hf hs
    obtain ⟨fuel, rfl⟩ : ∃ z, fuel = z + 1 := ⟨fuel - 1, by omega⟩
    have hn := tB_nar t ht i (by omega)
    obtain ⟨sig', e1, e2⟩ := ih fuel (i + 1) (upd sig i (tB t i)) (by omega) (by omega) (fun j hj => by
      by_cases e : j = i
      · rw [e, upd_eq]
      · rw [upd_ne _ _ e]; exact hs j (by omega))
    refine ⟨sig', ?_, e2⟩
    have ep : f_L_type (nI i) sig (tB t i) = some (1, nI (i + 1), upd sig i (tB t i)) := by
      unfold f_L_type f_X4_append
      rw [if_pos (show nI i < (60 : Int32) from nI_lt (b := 60) (by omega) (by decide))]
      unfold f_X2_put
      rw [if_neg (nI_pos (by omega)), if_neg (show ¬ (60 : Int32) ≤ nI i from nI_ge (b := 60) (by omega) (by decide)), inbN (by omega) (by decide), og_t, ob_s, ob_s, os_rn, clN (by omega), hn, nI_1]
    unfold f_L_write_c2
    rw [hd, og_t, if_neg (nI_ge (by omega) (by omega)), og_t, inbN (by omega) (by omega), og_t, clN (by omega), ep, ob_s, nI_1]
    exact e1
theorem S_write {t : Nat} (ht : t < 18) (sig : Nat → Int32) : ∃ sig', f_L_write 0 sig t = some (nI (tL t), sig') ∧ ∀ j, j < tL t → sig' j = tB t j := by
  have hL := tL_12 t ht
  exact write_c ht (tL t) 12 0 sig (by omega) hL (fun j hj => by omega)
theorem sign_cg {L : Nat} (hL : L ≤ 60) {sig sig' : Nat → Int32} (h : ∀ j, j < L → sig j = sig' j) (a : Int32) : f_X2_signAt (nI L) sig a = f_X2_signAt (nI L) sig' a := by
  unfold f_X2_signAt
  by_cases h1 : a < 0
  · rw [if_pos h1, if_pos h1]
  · obtain ⟨j, hj, rfl⟩ := nI_of h1
    rw [if_neg h1, if_neg h1]
    by_cases h2 : nI L ≤ nI j
    · rw [if_pos h2, if_pos h2]
    · have h3 : j < L := Classical.byContradiction fun q => h2 (nI_le (by omega) hj)
      rw [clN hj, h j h3]
theorem find_cg {L : Nat} (hL : L ≤ 60) {sig sig' : Nat → Int32} (h : ∀ j, j < L → sig j = sig' j) : ∀ (n : Nat) (a b : Int32), f_X2_findError_c4 (nI L) sig n a b = f_X2_findError_c4 (nI L) sig' n a b := by
  intro n
  induction n with
  | zero => intro a b; rfl
  | succ n ih =>
    intro a b
    unfold f_X2_findError_c4
    rw [sign_cg hL h b]
    simp only [ih]
theorem find_t : ∀ t, t < 18 → f_X2_findError (nI (tL t)) (tB t) = some (-1) := by decide +kernel
theorem find_1 {t : Nat} (ht : t < 18) {sig : Nat → Int32} (h : ∀ j, j < tL t → sig j = tB t j) : f_X2_findError (nI (tL t)) sig = some (-1) := by
  have hL := tL_12 t ht
  exact (find_cg (L := tL t) (by omega) h 4096 0 0).trans (find_t t ht)
section TXT
variable {L : Nat} {sig : Nat → Int32}
theorem sign_tot (hL : L ≤ 60) (hc : ∀ j, j < L → isC (sig j) = true) (a : Int32) : ∃ v, f_X2_signAt (nI L) sig a = some v := by
  unfold f_X2_signAt
  by_cases h1 : a < 0
  · rw [if_pos h1]; exact ⟨_, rfl⟩
  · obtain ⟨j, hj, rfl⟩ := nI_of h1
    rw [if_neg h1]
    by_cases h2 : nI L ≤ nI j
    · rw [if_pos h2]; exact ⟨_, rfl⟩
    · have h3 : j < L := Classical.byContradiction fun q => h2 (nI_le (by omega) hj)
      rw [if_neg h2, if_neg (show ¬ (60 : Int32) ≤ nI j from nI_ge (b := 60) (by omega) (by decide)), inbN (by omega) (by decide), og_t, clN hj, hc j h3, og_t]
      exact ⟨_, rfl⟩
theorem num_tot (hL : L ≤ 60) (hc : ∀ j, j < L → isC (sig j) = true) {j : Nat} (hj : j ≤ 100) : ∀ (m fuel i : Nat) (acc : Int32), j ≤ i + m → m < fuel → i ≤ 200 → ∃ v, f_X2_numberIn_c5 (nI L) sig (nI j) fuel acc (nI i) = some v := by
  intro m
  induction m with
  | zero =>
    intro fuel i acc hi hf h2
    obtain ⟨fuel, rfl⟩ : ∃ z, fuel = z + 1 := ⟨fuel - 1, by omega⟩
    unfold f_X2_numberIn_c5
    rw [if_pos (nI_le (by omega) (by omega))]
    exact ⟨_, rfl⟩
  | succ m ih =>
    intro fuel i acc hi hf h2
    obtain ⟨fuel, rfl⟩ : ∃ z, fuel = z + 1 := ⟨fuel - 1, by omega⟩
    unfold f_X2_numberIn_c5
    by_cases h : j ≤ i
    · rw [if_pos (nI_le h (by omega))]; exact ⟨_, rfl⟩
    · obtain ⟨v, hv⟩ := sign_tot hL hc (nI i)
      rw [if_neg (nI_ge (by omega) (by omega)), hv, ob_s, nI_1]
      exact ih fuel (i + 1) _ (by omega) (by omega) (by omega)
theorem num_1 (hL : L ≤ 60) (hc : ∀ j, j < L → isC (sig j) = true) {i j : Nat} (hj : j ≤ 100) (hi : i ≤ 100) : ∃ v, f_X2_numberIn (nI L) sig (nI i) (nI j) = some v :=
  num_tot hL hc hj 100 4096 i 0 (by omega) (by decide) (by omega)
variable {T : Nat} {now : SV}
theorem try_1 (hI : IV T now) (re de a1 a2 : Int32) : ∃ hd re' de' now', f_X4_tryDraw re de now a1 a2 = some (hd, re', de', now') ∧ IV T now' ∧ (hd = 0 ∨ hdr hd) := by
  obtain ⟨n, w, ln, h⟩ := id hI
  unfold f_X4_tryDraw
  rcases J_draw h re de a1 a2 with ⟨hd, re', de', e1, e2⟩ | ⟨b, pit', pla', hb, e1, e4, e3⟩
  · refine ⟨hd, re', de', now, ?_, hI, Or.inr e2⟩
    rw [e1, ob_s]
    dsimp only
    rw [if_neg (hdr_ne e2)]
  · refine ⟨0, re, de, _, ?_, e3, Or.inl rfl⟩
    rw [e1, ob_s]
    dsimp only
    rw [if_pos rfl, e4, ob_s]
theorem ord_1 (hI : IV T now) (re de a1 a2 : Int32) : ∃ hd re' de', f_X4_hindranceOfOrder re de now a1 a2 = some (hd, re', de') ∧ (hdr hd ∨ (hd = 0 ∧ ∃ now', f_X4_doOrder now a1 a2 = some now' ∧ IV (T + 60) now')) := by
  obtain ⟨n, w, ln, h⟩ := id hI
  unfold f_X4_hindranceOfOrder f_X4_doOrder
  by_cases c1 : a1 = 97
  · rw [if_pos c1, if_pos c1]
    rcases J_answer h re de a2 with ⟨hd, re', de', e1, e2⟩ | ⟨c, k, hc, hk, e1, e4, e3⟩
    · exact ⟨hd, re', de', by rw [e1, ob_s], Or.inl (hdA_r e2)⟩
    · exact ⟨0, re, de, by rw [e1, ob_s], Or.inr ⟨rfl, _, by rw [e4, ob_s], IV_le e3 (by omega)⟩⟩
  rw [if_neg c1, if_neg c1]
  by_cases c2 : a1 = 99
  · rw [if_pos c2, if_pos c2]
    rcases J_crowd h a2 with e1 | ⟨c, hc, rfl, e1, e3⟩
    · exact ⟨2, re, de, by rw [e1, ob_s], Or.inl hdr2⟩
    · exact ⟨0, re, de, by rw [e1, ob_s], Or.inr ⟨rfl, _, rfl, IV_le e3 (by omega)⟩⟩
  rw [if_neg c2, if_neg c2]
  by_cases c3 : a1 = 112
  · rw [if_pos c3, if_pos c3]
    rcases J_pass h a2 with e1 | ⟨H, hH1, hH2, rfl, e1⟩
    · exact ⟨2, re, de, by rw [e1, ob_s], Or.inl hdr2⟩
    · obtain ⟨g, y, hg, hy, hp, hx⟩ := S_hours hI (H := H) (by omega)
      obtain ⟨row', p1, p2⟩ := hx (g_row now)
      exact ⟨0, re, de, by rw [e1, ob_s], Or.inr ⟨rfl, s_row y row', by rw [p1, ob_s]; dsimp only; rw [p2], IV_le (IV_sm hy (sm_row y row')) (by omega)⟩⟩
  rw [if_neg c3, if_neg c3]
  by_cases c4 : a1 = 115
  · rw [if_pos c4, if_pos c4]
    rcases J_strings h re de a2 with ⟨hd, re', de', e1, e2⟩ | ⟨b, v, hb, hb8, rfl, hv, e1, e4, e3⟩
    · exact ⟨hd, re', de', by rw [e1, ob_s], Or.inl (hdA_r e2)⟩
    · exact ⟨0, re, de, by rw [e1, ob_s], Or.inr ⟨rfl, _, by rw [e4, ob_s], IV_le e3 (by omega)⟩⟩
  rw [if_neg c4, if_neg c4]
  by_cases c5 : a1 = 119
  · rw [if_pos c5, if_pos c5]
    rcases J_join h re de a2 with ⟨hd, re', de', e1, e2⟩ | ⟨b, hb, rfl, e1, e4, hw8, e3⟩
    · exact ⟨hd, re', de', by rw [e1, ob_s], Or.inl (hdA_r e2)⟩
    · exact ⟨0, re, de, by rw [e1, ob_s], Or.inr ⟨rfl, _, by rw [e4, ob_s], IV_le e3 (by omega)⟩⟩
  rw [if_neg c5, if_neg c5]
  by_cases c6 : a1 = 120
  · rw [if_pos c6, if_pos c6]
    rcases J_leave h re de a2 with ⟨hd, re', de', e1, e2⟩ | ⟨b, hb8, e1, e4, e3⟩
    · exact ⟨hd, re', de', by rw [e1, ob_s], Or.inl (hdA_r e2)⟩
    · exact ⟨0, re, de, by rw [e1, ob_s], Or.inr ⟨rfl, _, by rw [e4, ob_s], IV_le e3 (by omega)⟩⟩
  rw [if_neg c6, if_neg c6]
  exact ⟨2, re, de, rfl, Or.inl hdr2⟩
theorem cOrd_1 (hL : L ≤ 60) (hc : ∀ j, j < L → isC (sig j) = true) (hI : IV T now) (re de : Int32) {i j : Nat} (hi : i ≤ 90) (hj : j ≤ 90) : ∃ hd re' de' now', f_X4_carryOutOrder re de now (nI L) sig (nI i) (nI j) = some (hd, re', de', now') ∧ IV (T + 60) now' ∧ (hd = 0 ∨ hdr hd) := by
  obtain ⟨s, hs⟩ := sign_tot hL hc (nI i)
  obtain ⟨v1, n1⟩ := num_1 hL hc (i := i + 1) (j := i + 2) (by omega) (by omega)
  obtain ⟨v2, n2⟩ := num_1 hL hc (i := i + 3) (j := j) (by omega) (by omega)
  obtain ⟨v3, n3⟩ := num_1 hL hc (i := i + 1) (j := j) (by omega) (by omega)
  have a1 : nI i + 1 = nI (i + 1) := nI_add i 1
  have a2 : nI i + 2 = nI (i + 2) := nI_add i 2
  have a3 : nI i + 3 = nI (i + 3) := nI_add i 3
  unfold f_X4_carryOutOrder
  rw [hs, ob_s]
  by_cases hd : s = 100
  · obtain ⟨hd', re', de', now', e1, e2, e3⟩ := try_1 hI re de v1 v2
    refine ⟨hd', re', de', now', ?_, IV_le e2 (by omega), e3⟩
    rw [if_pos hd, a1, a2, a3, n1, ob_s, n2, ob_s, e1, ob_s]
  · obtain ⟨hd', re', de', e1, e2⟩ := ord_1 hI re de s v3
    rw [if_neg hd, a1, n3, ob_s, e1, ob_s]
    dsimp only
    rcases e2 with e2 | ⟨rfl, now', e3, e4⟩
    · exact ⟨hd', re', de', now, by rw [if_neg (hdr_ne e2)], IV_le hI (by omega), Or.inr e2⟩
    · exact ⟨0, re', de', now', by rw [if_pos rfl, e3, ob_s], e4, Or.inl rfl⟩
theorem carry_c (hL : L ≤ 60) (hc : ∀ j, j < L → isC (sig j) = true) {T0 : Nat} : ∀ (m fuel c i j : Nat) (re de : Int32) (now : SV), j + m = L + 1 → m < fuel → i ≤ j → c ≤ j → IV (T0 + 60 * j) now → ∃ r re' de' now', f_X4_carryOut_c6 (nI L) sig fuel (nI c) (nI i) (nI j) re de now = some (r, re', de', now') ∧ IV (T0 + 60 * (L + 1)) now' ∧ ((∃ z, z < 100 ∧ r = nI z) ∨ r = -1 ∨ r = -2 ∨ r = -3) := by
  intro m
  induction m with
  | zero =>
    intro fuel c i j re de now hj hf hi hcj hI
    obtain ⟨fuel, rfl⟩ : ∃ z, fuel = z + 1 := ⟨fuel - 1, by omega⟩
    refine ⟨nI c, re, de, now, ?_, IV_le hI (by omega), Or.inl ⟨c, by omega, rfl⟩⟩
    unfold f_X4_carryOut_c6
    rw [if_pos (nI_lt (by omega) (by omega))]
  | succ m ih =>
    intro fuel c i j re de now hj hf hi hcj hI
    obtain ⟨fuel, rfl⟩ : ∃ z, fuel = z + 1 := ⟨fuel - 1, by omega⟩
    have stop : ∃ r re' de' now', f_X4_carryOut_c44 (f_X4_carryOut_c6 (nI L) sig fuel) (nI L) sig (nI c) (nI i) (nI j) re de now = some (r, re', de', now') ∧ IV (T0 + 60 * (L + 1)) now' ∧ ((∃ z, z < 100 ∧ r = nI z) ∨ r = -1 ∨ r = -2 ∨ r = -3) := by
      obtain ⟨hd, re', de', now', e1, e2, e3⟩ := cOrd_1 hL hc hI re de (i := i) (j := j) (by omega) (by omega)
      unfold f_X4_carryOut_c44
      rw [e1, ob_s]
      dsimp only
      by_cases h0 : hd = 0
      · obtain ⟨r, re2, de2, now2, q1, q2, q3⟩ := ih fuel (c + 1) (j + 1) (j + 1) re' de' now' (by omega) (by omega) (by omega) (by omega) (IV_le e2 (by omega))
        refine ⟨r, re2, de2, now2, ?_, q2, q3⟩
        rw [if_pos h0, nI_1, nI_1]
        exact q1
      · refine ⟨-hd, re', de', now', by rw [if_neg h0], IV_le e2 (by omega), Or.inr ?_⟩
        rcases e3.resolve_left h0 with rfl | rfl | rfl
        · exact Or.inl rfl
        · exact Or.inr (Or.inl rfl)
        · exact Or.inr (Or.inr rfl)
    unfold f_X4_carryOut_c6
    rw [if_neg (nI_nlt (by omega) (by omega))]
    by_cases hLj : L ≤ j
    · rw [if_pos (nI_le hLj (by omega))]; exact stop
    · obtain ⟨s, hs⟩ := sign_tot hL hc (nI j)
      rw [if_neg (nI_ge (by omega) (by omega)), hs, ob_s]
      by_cases h59 : s = 59
      · rw [if_pos h59]; exact stop
      · obtain ⟨r, re2, de2, now2, q1, q2, q3⟩ := ih fuel c i (j + 1) re de now (by omega) (by omega) (by omega) (by omega) (IV_le hI (by omega))
        refine ⟨r, re2, de2, now2, ?_, q2, q3⟩
        rw [if_neg h59, nI_1]
        exact q1
end TXT
section READ
variable {T : Nat} {now spa : SV} {nxt cnt : Int32} {rng : Nat → SV}
/-- what a call of read leaves -/
def Rd (T : Nat) (now : SV) (nxt cnt : Int32) (rng : Nat → SV) (k : Int32) (now' : SV) (nxt' cnt' : Int32) (rng' : Nat → SV) : Prop :=
  (k = -100000000 ∧ sm now' now ∧ nxt' = nxt ∧ cnt' = cnt ∧ rng' = rng) ∨ ((∃ m, m < 2 ^ 31 ∧ k = nI m) ∧ IV T now' ∧ HV T nxt' cnt' rng' ∧ TopV nxt' cnt' rng' now)
theorem c39_no (hI : IV T now) {now' : SV} {T' : Nat} (hn : IV T' now') (ρ : Nat → UInt32) {t0 : Int32} (ht : t0 = -1 ∨ t0 = -2 ∨ t0 = -3) (sig : Nat → Int32) (te re de len : Int32) : ∃ ρ' e, (e = 2 ∨ e = 3) ∧ f_X4_read_c39 sig t0 te re de now' (s_row now ρ) len nxt cnt rng = some (.inl (e, te, re, de, s_row now ρ', s_row now ρ, 0, nxt, cnt, rng)) := by
  obtain ⟨r, k1, k2⟩ := copy_z (IV_Z hn) (IV_Z (IV_sm hI (sm_row now ρ)))
  rw [rw_row] at k2
  unfold cpF at k1
  refine ⟨g_row now', if t0 = -3 then 3 else 2, by split <;> simp, ?_⟩
  unfold f_X4_read_c39
  rw [if_pos (by rcases ht with rfl | rfl | rfl <;> decide), k1, ob_s, k2]
  by_cases h3 : t0 = -3
  · rw [if_pos h3, if_pos h3]
  · rw [if_neg h3, if_neg h3]
theorem S_read (hI : IV T now) (hs : IV T spa) (hH : HV T nxt cnt rng) {t : Nat} (ht : t < 18) {sig : Nat → Int32} (hsig : ∀ j, j < tL t → sig j = tB t j) (te re de : Int32) : ∃ k re' de' now' ρ nxt' cnt' rng', f_L_read te re de now spa (nI (tL t)) sig nxt cnt rng = some (k, -1, re', de', now', s_row now ρ, 0, nxt', cnt', rng') ∧ Rd (T + 2000) now nxt cnt rng k now' nxt' cnt' rng' := by
  have hL := tL_12 t ht
  have hc : ∀ j, j < tL t → isC (sig j) = true := fun j hj => by rw [hsig j hj]; exact tB_isC t ht j hj
  obtain ⟨r4, k1, k2⟩ := copy_z (IV_Z hs) (IV_Z hI)
  obtain ⟨t0, re', de', now', c1, c2, c3⟩ := carry_c (L := tL t) (by omega) hc (T0 := T) (tL t + 1) 4096 0 0 0 re de now (by omega) (by omega) (by omega) (by omega) (IV_le hI (by omega))
  have c1 : f_X4_carryOut re de now (nI (tL t)) sig = some (t0, re', de', now') := c1
  have hrd : f_X4_read te re de now spa (nI (tL t)) sig nxt cnt rng = f_X4_read_c39 sig t0 (-1) re' de' now' (s_row now (g_row spa)) (nI (tL t)) nxt cnt rng := by
    unfold f_X4_read
    unfold cpF at k1
    rw [find_1 ht hsig, ob_s, k1, ob_s, if_pos rfl, c1, ob_s, k2]
  unfold f_L_read
  rw [hrd]
  rcases c3 with ⟨z, hz, rfl⟩ | hneg
  · obtain ⟨nxt', cnt', rng', q1, q2, q3⟩ := keep_eq hH (IV_sm hI (sm_row now (g_row spa)))
    refine ⟨nI z, re', de', now', g_row spa, nxt', cnt', rng', ?_, Or.inr ⟨⟨z, by omega, rfl⟩, IV_le c2 (by omega), HV_le q2 (by omega), TopV_sm q3 (sm_row now _)⟩⟩
    unfold f_X4_read_c39
    rw [if_neg (nI_pos (by omega)), q1, ob_s, ob_s, os_rn]
  · obtain ⟨ρ', e, he, q⟩ := c39_no (nxt := nxt) (cnt := cnt) (rng := rng) hI c2 (g_row spa) hneg sig (-1) re' de' (nI (tL t))
    refine ⟨-100000000, re', de', s_row now ρ', g_row spa, nxt, cnt, rng, ?_, Or.inl ⟨rfl, sm_row now ρ', rfl, rfl, rfl⟩⟩
    rw [q, ob_s, os_ln]
    rcases he with rfl | rfl
    · rw [if_pos rfl]
    · rw [if_neg (show ¬ (3 : Nat) = 2 by decide), if_pos rfl]
theorem S_read0 (hI : IV T now) (hs : IV T spa) (sig : Nat → Int32) (te re de : Int32) : ∃ re' de' ρ' ρ, f_L_read te re de now spa 0 sig nxt cnt rng = some (-100000000, 0, re', de', s_row now ρ', s_row now ρ, 0, nxt, cnt, rng) := by
  obtain ⟨r4, k1, k2⟩ := copy_z (IV_Z hs) (IV_Z hI)
  have hf : ∀ fuel : Nat, f_X2_findError_c4 0 sig (fuel + 1) 0 0 = some 0 := fun fuel => by
    unfold f_X2_findError_c4
    rw [if_pos (by decide), if_neg (by decide), if_neg (by decide)]
  have hf : f_X2_findError 0 sig = some 0 := hf 4095
  obtain ⟨ρ', e, he, q⟩ := c39_no (nxt := nxt) (cnt := cnt) (rng := rng) hI hI (g_row spa) (t0 := -2) (Or.inr (Or.inl rfl)) sig 0 re de 0
  refine ⟨re, de, ρ', g_row spa, ?_⟩
  unfold f_L_read f_X4_read
  unfold cpF at k1
  rw [hf, ob_s, k1, ob_s, if_neg (by decide), k2, q, ob_s, os_ln]
  rcases he with rfl | rfl
  · rw [if_pos rfl]
  · rw [if_neg (show ¬ (3 : Nat) = 2 by decide), if_pos rfl]
end READ
