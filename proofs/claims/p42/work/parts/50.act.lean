/-! one of the law's acts -/
theorem rem_n {m L : Nat} (hm : m < 2 ^ 31) (h0 : 0 < L) (hL : L < 2 ^ 31) : nI m - nI m / nI L * nI L = nI (m % L) := by
  have h1 : m % L < L := Nat.mod_lt _ h0
  rw [irem_eq_mod]
  apply Int32.toInt_inj.mp
  rw [Int32.toInt_mod, nI_toInt hm, nI_toInt hL, nI_toInt (by omega)]
  exact (Int.ofNat_tmod m L).symm
theorem and65 (z : Int32) : ∃ m, m < 65536 ∧ z &&& 65535 = nI m := by
  have h1 : (z &&& 65535).toBitVec.toNat ≤ 65535 := by
    rw [Int32.toBitVec_and, BitVec.toNat_and]
    exact Nat.and_le_right
  refine ⟨(z &&& 65535).toBitVec.toNat, by omega, ?_⟩
  apply Int32.toInt_inj.mp
  rw [nI_toInt (by omega)]
  show (z &&& 65535).toBitVec.toInt = _
  rw [BitVec.toInt_eq_toNat_of_lt (by omega)]
def Ob (T : Nat) (now spa sna : SV) (nxt cnt : Int32) (rng : Nat → SV) : Prop := IV T now ∧ IV T spa ∧ IV T sna ∧ HV T nxt cnt rng
theorem Ob_le {T T' : Nat} {now spa sna : SV} {nxt cnt : Int32} {rng : Nat → SV} (h : Ob T now spa sna nxt cnt rng) (hT : T ≤ T') : Ob T' now spa sna nxt cnt rng := ⟨IV_le h.1 hT, IV_le h.2.1 hT, IV_le h.2.2.1 hT, HV_le h.2.2.2 hT⟩
abbrev OT : Type := Int32 × Int32 × Int32 × Int32 × Int32 × SV × SV × SV × Int32 × (Nat → Int32) × Int32 × Int32 × (Nat → SV)
/-- a good end of an act -/
def Gd (T : Nat) (now : SV) (F : Option OT) : Prop := ∃ k isv' te' re' de' now' spa' sna' sig' nxt' cnt' rng', F = some (k, isv', te', re', de', now', spa', sna', 0, sig', nxt', cnt', rng') ∧ Ob (T + 2000) now' spa' sna' nxt' cnt' rng' ∧ (k = -100000000 → sm now' now)
section ACT
variable {T : Nat} {now spa sna : SV} {nxt cnt : Int32} {rng : Nat → SV}
theorem Rs_ob (hO : Ob T now spa sna nxt cnt rng) {T' : Nat} (hT : T ≤ T') (hT2 : T' ≤ T + 2000) {k : Int32} {now' : SV} {nxt' cnt' : Int32} {rng' : Nat → SV} (h : Rs T' now nxt cnt rng k now' nxt' cnt' rng') : Ob (T + 2000) now' spa sna nxt' cnt' rng' ∧ (k = -100000000 → sm now' now) := by
  rcases h with ⟨rfl, rfl, rfl, rfl, rfl⟩ | ⟨⟨m, hm, rfl⟩, h2, h3, h4⟩
  · exact ⟨Ob_le hO (by omega), fun _ => sm_rf _⟩
  · exact ⟨⟨IV_le h2 hT2, IV_le hO.2.1 (by omega), IV_le hO.2.2.1 (by omega), HV_le h3 hT2⟩, fun e => absurd e (nI_ne_ref hm)⟩
theorem GA (hO : Ob T now spa sna nxt cnt rng) {G : Option (Int32 × Int32 × Int32 × SV × Int32 × Int32 × (Nat → SV))} (hG : ∃ k re' de' now' nxt' cnt' rng', G = some (k, re', de', now', nxt', cnt', rng') ∧ Rs T now nxt cnt rng k now' nxt' cnt' rng') (isv te : Int32) (sig : Nat → Int32) : Gd T now (ob G fun r => some (r.1, isv, te, r.2.1, r.2.2.1, r.2.2.2.1, spa, sna, 0, sig, r.2.2.2.2.1, r.2.2.2.2.2.1, r.2.2.2.2.2.2)) := by
  obtain ⟨k, re', de', now', nxt', cnt', rng', e, h⟩ := hG
  obtain ⟨q1, q2⟩ := Rs_ob hO (Nat.le_refl _) (by omega) h
  exact ⟨k, isv, te, re', de', now', spa, sna, sig, nxt', cnt', rng', by rw [e, ob_s], q1, q2⟩
theorem GB (hO : Ob T now spa sna nxt cnt rng) {T' : Nat} (hT : T ≤ T') (hT2 : T' ≤ T + 2000) {G : Option (Int32 × SV × Int32 × Int32 × (Nat → SV))} (hG : ∃ k now' nxt' cnt' rng', G = some (k, now', nxt', cnt', rng') ∧ Rs T' now nxt cnt rng k now' nxt' cnt' rng') (isv te re de : Int32) (sig : Nat → Int32) : Gd T now (ob G fun r => some (r.1, isv, te, re, de, r.2.1, spa, sna, 0, sig, r.2.2.1, r.2.2.2.1, r.2.2.2.2)) := by
  obtain ⟨k, now', nxt', cnt', rng', e, h⟩ := hG
  obtain ⟨q1, q2⟩ := Rs_ob hO hT hT2 h
  exact ⟨k, isv, te, re, de, now', spa, sna, sig, nxt', cnt', rng', by rw [e, ob_s], q1, q2⟩
theorem act_1 (hO : Ob T now spa sna nxt cnt rng) (isv te re de : Int32) (sig : Nat → Int32) (a : Int32) : Gd T now (f_L_act isv te re de now spa sna 0 sig nxt cnt rng a) := by
  obtain ⟨hI, hs, hn, hH⟩ := id hO
  have z5 : nz 5 = true := by decide
  have z9 : nz 9 = true := by decide
  have z3 : nz 3 = true := by decide
  have z11 : nz 11 = true := by decide
  have z53 : nz 53 = true := by decide
  have z84 : nz 84 = true := by decide
  have z102 : nz 102 = true := by decide
  have z8 : nz 8 = true := by decide
  have z18 : nz 18 = true := by decide
  have z62 : nz 62 = true := by decide
  have z7 : nz 7 = true := by decide
  obtain ⟨y, hy, ey⟩ := and65 (a >>> ((4 : Int32) &&& 31))
  unfold f_L_act
  rw [z5, og_t, z9, og_t, ey]
  by_cases c0 : a &&& 15 = 0
  · rw [if_pos c0]
    by_cases d : nI y &&& 1 = 0
    · rw [if_pos d, z3, og_t, z11, og_t]
      exact GA hO (S_busker hI hH re de _ _) isv te sig
    · rw [if_neg d, z53, og_t]
      exact GB hO (Nat.le_refl _) (by omega) (S_crowd hI hH _) isv te re de sig
  rw [if_neg c0]
  by_cases c1 : a &&& 15 = 1
  · rw [if_pos c1, z84, og_t]
    exact GB hO (Nat.le_refl _) (by omega) (S_limit hI hH _ _) isv te re de sig
  rw [if_neg c1]
  by_cases c2 : a &&& 15 = 2
  · rw [if_pos c2]; exact GA hO (S_join hI hH re de _) isv te sig
  rw [if_neg c2]
  by_cases c3 : a &&& 15 = 3
  · rw [if_pos c3]; exact GA hO (S_join hI hH re de _) isv te sig
  rw [if_neg c3]
  by_cases c4 : a &&& 15 = 4
  · rw [if_pos c4, z102, og_t]; exact GA hO (S_draw hI hH re de _ _) isv te sig
  rw [if_neg c4]
  by_cases c5 : a &&& 15 = 5
  · rw [if_pos c5, z102, og_t]; exact GA hO (S_draw hI hH re de _ _) isv te sig
  rw [if_neg c5]
  by_cases c6 : a &&& 15 = 6
  · rw [if_pos c6, z102, og_t]; exact GA hO (S_draw hI hH re de _ _) isv te sig
  rw [if_neg c6]
  by_cases c7 : a &&& 15 = 7
  · rw [if_pos c7]
    by_cases d : nI y &&& 1 = 0
    · rw [if_pos d]; exact GA hO (S_leave hI hH re de _) isv te sig
    · rw [if_neg d, z8, og_t]; exact GA hO (S_swap hI hH re de _ _) isv te sig
  rw [if_neg c7]
  by_cases c8 : a &&& 15 = 8
  · rw [if_pos c8]; exact GA hO (S_strings hI hH re de _) isv te sig
  rw [if_neg c8]
  by_cases c9 : a &&& 15 = 9
  · rw [if_pos c9]; exact GA hO (S_answer hI hH re de _) isv te sig
  rw [if_neg c9]
  by_cases c10 : a &&& 15 = 10
  · rw [if_pos c10]
    by_cases d : nI y &&& 1 = 0
    · rw [if_pos d, z3, og_t]; exact GA hO (S_rack hI hH re de _ _) isv te sig
    · rw [if_neg d]; exact GA hO (S_unrack hI hH re de _) isv te sig
  rw [if_neg c10]
  by_cases c11 : a &&& 15 = 11
  · have ht : y % 18 < 18 := Nat.mod_lt _ (by decide)
    have er : nI y - nI y / 18 * 18 = nI (y % 18) := rem_n (L := 18) (by omega) (by decide) (by decide)
    obtain ⟨sig', w1, w2⟩ := S_write ht sig
    obtain ⟨k, re', de', now', ρ, nxt', cnt', rng', e1, e2⟩ := S_read hI hs hH ht w2 te re de
    rw [if_pos c11, z18, og_t, er, inbN ht (by decide), og_t, clN (by omega), w1, ob_s]
    dsimp only
    rw [e1, ob_s]
    refine ⟨k, isv, -1, re', de', now', s_row now ρ, sna, sig', nxt', cnt', rng', rfl, ?_⟩
    rcases e2 with ⟨rfl, s1, rfl, rfl, rfl⟩ | ⟨⟨m, hm, rfl⟩, s1, s2, s3⟩
    · exact ⟨⟨IV_le (IV_sm hI s1) (by omega), IV_le (IV_sm hI (sm_row now ρ)) (by omega), IV_le hn (by omega), HV_le hH (by omega)⟩, fun _ => s1⟩
    · exact ⟨⟨s1, IV_le (IV_sm hI (sm_row now ρ)) (by omega), IV_le hn (by omega), s2⟩, fun e => absurd e (nI_ne_ref hm)⟩
  rw [if_neg c11]
  by_cases c12 : a &&& 15 = 12
  · rw [if_pos c12]
    by_cases d : nI y &&& 3 = 0
    · obtain ⟨n, sna', hn8, e, s1, -⟩ := S_save (isv := isv) hI hn
      rw [if_pos d, e, ob_s]
      exact ⟨nI n, 1, te, re, de, now, spa, sna', sig, nxt, cnt, rng, rfl, ⟨IV_le hI (by omega), IV_le hs (by omega), IV_le (IV_sm hI s1) (by omega), HV_le hH (by omega)⟩, fun _ => sm_rf _⟩
    · rw [if_neg d]
      by_cases d1 : nI y &&& 3 = 1
      · rw [if_pos d1]
        rcases S_restore (isv := isv) (cnt := cnt) hI hn with ⟨-, e⟩ | ⟨-, n, now', hn8, e, s1, -⟩
        · rw [e, ob_s]
          exact ⟨_, isv, te, re, de, now, spa, sna, sig, nxt, cnt, rng, rfl, Ob_le hO (by omega), fun _ => sm_rf _⟩
        · rw [e, ob_s]
          obtain ⟨c, p, h1, h2, h3, h4, h5⟩ := hH
          exact ⟨nI n, isv, te, re, de, now', spa, sna, sig, nxt, 0, rng, rfl, ⟨IV_le (IV_sm hn s1) (by omega), IV_le hs (by omega), IV_le hn (by omega), ⟨0, p, by omega, h2, h3, rfl, fun j hj => IV_le (h5 j hj) (by omega)⟩⟩, fun e => absurd e (nI_ne_ref (by omega))⟩
      · rw [if_neg d1]
        rcases S_undo hI hH with ⟨-, e⟩ | ⟨c, now', nxt', hc, e, s1, s2⟩
        · rw [e, ob_s]
          exact ⟨_, isv, te, re, de, now, spa, sna, sig, nxt, cnt, rng, rfl, Ob_le hO (by omega), fun _ => sm_rf _⟩
        · rw [e, ob_s]
          exact ⟨nI c, isv, te, re, de, now', spa, sna, sig, nxt', nI c, rng, rfl, ⟨IV_le s1 (by omega), IV_le hs (by omega), IV_le hn (by omega), HV_le s2 (by omega)⟩, fun e => absurd e (nI_ne_ref (by omega))⟩
  rw [if_neg c12]
  by_cases d : nI y &&& 3 = 0
  · rw [if_pos d, z62, og_t]
    exact GB hO (by omega) (by omega) (S_pass hI hH _) isv te re de sig
  · rw [if_neg d, z7, og_t]
    exact GB hO (by omega) (by omega) (S_pass hI hH _) isv te re de sig
end ACT
