/-! what the law asks of the pitches; looks ahead -/
theorem cmp_nle {x y : UInt32} (hx : x.toNat < 2139095040) (hy : y.toNat < 2139095040) (h : x.toNat ≤ y.toNat) (o : CmpOp) : ¬ 0 < Op.cmpValue (FP.fcmp x y) o := by
  rcases fcmp_cases hx hy o with ⟨q1, q2⟩ | ⟨q1, q2⟩ | ⟨q1, q2⟩
  · rw [q2]; decide
  · rw [q2]; decide
  · omega
theorem cmp_gt {x y : UInt32} (hx : x.toNat < 2139095040) (hy : y.toNat < 2139095040) (h : y.toNat < x.toNat) (o : CmpOp) : 0 < Op.cmpValue (FP.fcmp x y) o := by
  rcases fcmp_cases hx hy o with ⟨q1, q2⟩ | ⟨q1, q2⟩ | ⟨q1, q2⟩
  · omega
  · omega
  · rw [q2]; decide
theorem rw_hour (σ : SV) (ρ : Nat → UInt32) (v : Int32) : s_hour (s_row σ ρ) v = s_row (s_hour σ v) ρ := by simp only [s_hour, s_row]
theorem rw_cmp (σ : SV) (ρ : Nat → UInt32) (v : Nat → Int32) : s_cmp (s_row σ ρ) v = s_row (s_cmp σ v) ρ := by simp only [s_cmp, s_row]
theorem rw_sof (σ : SV) (ρ : Nat → UInt32) (v : Nat → Int32) : s_sof (s_row σ ρ) v = s_row (s_sof σ v) ρ := by simp only [s_sof, s_row]
theorem rw_pit (σ : SV) (ρ : Nat → UInt32) (v : Nat → Int32) : s_pit (s_row σ ρ) v = s_row (s_pit σ v) ρ := by simp only [s_pit, s_row]
theorem rw_hrs (σ : SV) (ρ : Nat → UInt32) (v : Nat → Int32) : s_hrs (s_row σ ρ) v = s_row (s_hrs σ v) ρ := by simp only [s_hrs, s_row]
theorem rw_hat (σ : SV) (ρ : Nat → UInt32) (v : Nat → UInt32) : s_hat (s_row σ ρ) v = s_row (s_hat σ v) ρ := by simp only [s_hat, s_row]
theorem rw_wea (σ : SV) (ρ : Nat → UInt32) (v : Nat → UInt32) : s_wea (s_row σ ρ) v = s_row (s_wea σ v) ρ := by simp only [s_wea, s_row]
theorem rw_row (σ : SV) (ρ τ : Nat → UInt32) : s_row (s_row σ ρ) τ = s_row σ τ := by simp only [s_row]
section PIT
variable {T : Nat} {x : SV} {n w : Nat} {ln : Nat → Nat}
theorem JV_row (h : JV T x n w ln) (ρ : Nat → UInt32) : JV T (s_row x ρ) n w ln := h
theorem hla {H : Nat} (hH : H ≤ 60) : f_X4_hindranceOfLookAhead (nI H) = some 0 := by
  unfold f_X4_hindranceOfLookAhead
  rw [show f_X4_hindranceOfRange (nI H) 0 60 = some 0 from range_T (lo := 0) (hi := 60) (by omega) hH (by decide), ob_s]
/-- hours ahead, in the three ways that they are told -/
theorem R_hours (h : JV T x n w ln) {H : Nat} (hH : H ≤ 60) : ∃ (g : Nat) (y : SV), g ≤ 8 ∧ IV (T + H) y ∧ Ps x y H g ∧ (∀ row, ∃ row', f_X3_passHours (g_hour x) (g_crowd x) (g_lim x) (g_cmp x) (g_sof x) (g_kin x) (g_lou x) (g_pit x) (g_hrs x) (g_hat x) (g_wea x) row (nI H) = some (nI g, g_hour y, g_cmp y, g_sof y, g_pit y, g_hrs y, g_hat y, g_wea y, row') ∧ s_row (s_wea (s_hat (s_hrs (s_pit (s_sof (s_cmp (s_hour x (g_hour y)) (g_cmp y)) (g_sof y)) (g_pit y)) (g_hrs y)) (g_hat y)) (g_wea y)) row' = s_row y row') ∧ (∀ spa, ZV spa → ∃ ρ, f_X4_playingIn x spa (nI H) = some (.inr (nI (cP (g_pit y)), s_row y ρ))) ∧ (∀ spa b, ZV spa → b < n → ∃ ρ, f_X4_hatIn x spa (nI b) (nI H) = some (.inr ((g_hat y b).toInt32, s_row y ρ))) := by
  have hI : IV T x := ⟨n, w, ln, h⟩
  have hn8 := h.1.2
  obtain ⟨g, y, hg, hy, hp, hx⟩ := S_hours hI (H := H) (by omega)
  refine ⟨g, y, hg, hy, hp, hx, fun spa hs => ?_, fun spa b hs hb => ?_⟩
  · obtain ⟨r, k1, k2⟩ := copy_z hs (IV_Z hI)
    obtain ⟨row', p1, p2⟩ := hx (g_row spa)
    refine ⟨row', ?_⟩
    unfold f_X4_playingIn
    unfold cpF at k1
    rw [hla hH, ob_s, tf0, ob_s, os_rn, k1, ob_s, k2]
    have p1 : f_X3_passHours (g_hour (s_row x (g_row spa))) (g_crowd (s_row x (g_row spa))) (g_lim (s_row x (g_row spa))) (g_cmp (s_row x (g_row spa))) (g_sof (s_row x (g_row spa))) (g_kin (s_row x (g_row spa))) (g_lou (s_row x (g_row spa))) (g_pit (s_row x (g_row spa))) (g_hrs (s_row x (g_row spa))) (g_hat (s_row x (g_row spa))) (g_wea (s_row x (g_row spa))) (g_row (s_row x (g_row spa))) (nI H) = some (nI g, g_hour y, g_cmp y, g_sof y, g_pit y, g_hrs y, g_hat y, g_wea y, row') := p1
    rw [p1, ob_s]
    dsimp only
    rw [cntPlaying, ob_s, rw_hour, rw_cmp, rw_sof, rw_pit, rw_hrs, rw_hat, rw_wea, rw_row, p2]
    rfl
  · obtain ⟨r, k1, k2⟩ := copy_z hs (IV_Z hI)
    obtain ⟨row', p1, p2⟩ := hx (g_row spa)
    have hhy : (g_hat y b).toNat ≤ 1317011456 := by
      obtain ⟨n', w', ln', hy'⟩ := hy
      obtain ⟨hA, hc, hL, hO, hS, hK, hF, hI, hJ, hG, hGj, hE, hN, hD, hY, hZ⟩ := hy'
      exact (hF b (by omega)).1
    refine ⟨row', ?_⟩
    unfold f_X4_hatIn
    unfold cpF at k1
    rw [hbn h hb, ob_s, tf0, ob_s, os_rn, hla hH, ob_s, tf0, ob_s, os_rn, k1, ob_s, k2]
    have p1 : f_X3_passHours (g_hour (s_row x (g_row spa))) (g_crowd (s_row x (g_row spa))) (g_lim (s_row x (g_row spa))) (g_cmp (s_row x (g_row spa))) (g_sof (s_row x (g_row spa))) (g_kin (s_row x (g_row spa))) (g_lou (s_row x (g_row spa))) (g_pit (s_row x (g_row spa))) (g_hrs (s_row x (g_row spa))) (g_hat (s_row x (g_row spa))) (g_wea (s_row x (g_row spa))) (g_row (s_row x (g_row spa))) (nI H) = some (nI g, g_hour y, g_cmp y, g_sof y, g_pit y, g_hrs y, g_hat y, g_wea y, row') := p1
    rw [p1, ob_s, inbN (by omega) (by decide), og_t, clN (by omega)]
    dsimp only
    rw [ofFloat_n (by omega), ob_s, rw_hour, rw_cmp, rw_sof, rw_pit, rw_hrs, rw_hat, rw_wea, rw_row, p2]
/-- no hour changes nothing -/
theorem pass_0 {y : SV} {g : Nat} {row row' : Nat → UInt32} (e : f_X3_passHours (g_hour x) (g_crowd x) (g_lim x) (g_cmp x) (g_sof x) (g_kin x) (g_lou x) (g_pit x) (g_hrs x) (g_hat x) (g_wea x) row (nI 0) = some (nI g, g_hour y, g_cmp y, g_sof y, g_pit y, g_hrs y, g_hat y, g_wea y, row')) : g_pit y = g_pit x ∧ g_hat y = g_hat x := by
  have z : ∀ fuel : Nat, f_X3_passHours_c4 (g_crowd x) (g_lim x) (g_kin x) (g_lou x) (nI 0) (fuel + 1) 0 0 (g_hour x) (g_cmp x) (g_sof x) (g_pit x) (g_hrs x) (g_hat x) (g_wea x) row = some (0, g_hour x, g_cmp x, g_sof x, g_pit x, g_hrs x, g_hat x, g_wea x, row) := fun fuel => by
    unfold f_X3_passHours_c4
    rw [if_pos (show nI 0 ≤ (0 : Int32) by decide)]
  have e := Option.some.inj ((z 4095).symm.trans e)
  simp only [Prod.mk.injEq] at e
  obtain ⟨-, -, -, -, e1, -, e2, -⟩ := e
  exact ⟨e1.symm, e2.symm⟩
theorem same_eq (h : JV T x n w ln) {ρ : Nat → UInt32} (hrow : isRow (g_kin x) (g_lou x) (g_pit x) ρ) : ∀ (m fuel i : Nat), i + m = 8 → m < fuel → f_X4_isNoiseTheSameTwice_c9 fuel (nI i) (s_row x ρ) = some (1, s_row x ρ) := by
  obtain ⟨hA, hc, hL, hO, hS, hK, hF, hI, hJ, hG, hGj, hE, hN, hD, hY, hZ⟩ := id h
  intro m
  induction m with
  | zero =>
    intro fuel i hi hf
    obtain ⟨fuel, rfl⟩ : ∃ z, fuel = z + 1 := ⟨fuel - 1, by omega⟩
    unfold f_X4_isNoiseTheSameTwice_c9
    rw [if_pos (show (8 : Int32) ≤ nI i from nI_le (a := 8) (by omega) (by omega))]
  | succ m ih =>
    intro fuel i hi hf
    obtain ⟨fuel, rfl⟩ : ∃ z, fuel = z + 1 := ⟨fuel - 1, by omega⟩
    have l1 := ns_le h i
    have e1 : f_X3_noiseOn (g_kin (s_row x ρ)) (g_lou (s_row x ρ)) (g_pit (s_row x ρ)) (nI i) = some (nsF x i) := ns_eq h i
    have e2 : f_X3_noiseByRow (g_row (s_row x ρ)) (nI i) = some (nsF x i) := byRow_eq h.1.2 hK hE hI hJ hrow (by omega)
    unfold f_X4_isNoiseTheSameTwice_c9
    rw [if_neg (show ¬ (8 : Int32) ≤ nI i from nI_ge (b := 8) (by omega) (by decide)), e1, ob_s, e2, ob_s, if_pos ((fcmp_eq0 (by omega) (by omega) .l).mpr rfl), nI_1]
    exact ih fuel (i + 1) (by omega) (by omega)
theorem nob_share (h : JV T x n w ln) : ∀ (m fuel i : Nat), i + m = 8 → m < fuel → f_X4_isNobodySharing_c2 x fuel (nI i) = some 1 := by
  obtain ⟨hA, hc, hL, hO, hS, hK, hF, hI, hJ, hG, hGj, hE, hN, hD, hY, hZ⟩ := id h
  intro m
  induction m with
  | zero =>
    intro fuel i hi hf
    obtain ⟨fuel, rfl⟩ : ∃ z, fuel = z + 1 := ⟨fuel - 1, by omega⟩
    unfold f_X4_isNobodySharing_c2
    rw [if_pos (show (8 : Int32) ≤ nI i from nI_le (a := 8) (by omega) (by omega))]
  | succ m ih =>
    intro fuel i hi hf
    obtain ⟨fuel, rfl⟩ : ∃ z, fuel = z + 1 := ⟨fuel - 1, by omega⟩
    have ih := ih fuel (i + 1) (by omega) (by omega)
    unfold f_X4_isNobodySharing_c2
    rw [if_neg (show ¬ (8 : Int32) ≤ nI i from nI_ge (b := 8) (by omega) (by decide)), inbN (by omega) (by decide), og_t, clN (by omega), nI_1]
    rcases hI i (by omega) with q | ⟨k, hk, q⟩
    · rw [if_pos q]; exact ih
    · rw [q, if_neg (nI_ne_m1 (by omega))]
      have : f_X3_playerOn (g_pit x) (nI k) = some (nI i) := by
        rcases pl_cases hE hI hJ hk with ⟨-, -, z⟩ | ⟨b, -, hb8, z1, z2, -⟩
        · exact absurd q (z i (by omega))
        · rw [z2, qPj_u hJ hb8 hk z1 i (by omega) q]
      rw [this, ob_s, if_pos rfl]; exact ih
theorem R_well (h : JV T x n w ln) : ∃ ρ, f_X4_isWell x = some (1, s_row x ρ) := by
  obtain ⟨hA, hc, hL, hO, hS, hK, hF, hI, hJ, hG, hGj, hE, hN, hD, hY, hZ⟩ := id h
  obtain ⟨row', l1, l2⟩ := layRow_eq h.1.2 hK hE hI hJ (g_row x)
  have hsame := same_eq h l2 8 4096 0 rfl (by decide)
  have hsame : f_X4_isNoiseTheSameTwice_c9 4096 0 (s_row x row') = some (1, s_row x row') := hsame
  have hns := nob_share (JV_row h row') 8 4096 0 rfl (by decide)
  have hns : f_X4_isNobodySharing (s_row x row') = some 1 := hns
  have hhome := home_sum h.1.2 hE hD
  have hsumx : (nI (cn (homP n (g_pit x) (g_pla x)) 8) + nI (cn (fun b => decide (¬ g_pla x b = -1)) 8)) + nI (cn (fun b => decide (¬ g_pit x b = -1)) 8) = nI n := by
    rw [nI_add, nI_add, hhome]
  refine ⟨row', ?_⟩
  unfold f_X4_isWell f_X4_isNoiseTheSameTwice
  rw [l1, ob_s, hsame, ob_s, if_neg n10, hns, ob_s, if_neg n10]
  rw [show g_buskers (s_row x row') = g_buskers x from rfl, show g_buskers x = nI n from h.1.1, show g_pit (s_row x row') = g_pit x from rfl, show g_pla (s_row x row') = g_pla x from rfl, xhome h.1.2, ob_s, cntWaiting, ob_s, cntPlaying, ob_s, if_pos hsumx, show g_cmp (s_row x row') = g_cmp x from rfl, show g_sof (s_row x row') = g_sof x from rfl, sum8, ob_s, sum8, ob_s, show g_answered (s_row x row') = g_answered x from rfl, if_pos hS]
-- a pitch
theorem c150_1 (h : JV T x n w ln) (hT : T < 1073741824) {k : Nat} (hk : k < 8) : f_L_isPitch_c150 (nI k) (nsF x k) 1 x = some (1, x) := by
  obtain ⟨hA, hc, hL, hO, hS, hK, hF, hI, hJ, hG, hGj, hE, hN, hD, hY, hZ⟩ := id h
  obtain ⟨v, hv, e, hmax⟩ := R_loud h
  obtain ⟨c, d, c1, c2, c3, c4, c5⟩ := hO k hk
  have c3 : d ≤ T := c3
  have l1 := ns_le h k
  have l2 := ns_le h v
  have h1 : ¬ Op.cmpValue (FP.fcmp (nsF x k) FP.fconst0) .l < 0 := fun q => by
    have := (fcmp_lt0 (by omega) (by rw [fc0]; omega) .l).mp q
    rw [fc0] at this; omega
  have h2 := cmp_nle (x := nsF x k) (y := nsF x v) (by omega) (by omega) (hmax k hk) .g
  unfold f_L_isPitch_c150
  rw [if_neg n10, if_neg h1, e, ob_s, R_noiseOf h hv, ob_s, if_neg h2]
  simp only [R_p1 hk, R_p2 hk, ob_n, os_rn]
  rw [if_neg (by rw [c4, c5]; exact nI_nlt c2 (by omega)), if_neg (by rw [c4]; exact nI_pos (by omega)), if_neg (by rw [c4]; exact nI_nlt (b := c) (a := 99) c1 (by omega))]
theorem c114_1 (h : JV T x n w ln) (hT : T < 1073741824) {k : Nat} (hk : k < 8) (s : Int32) : f_L_isPitch_c114 (nI k) (plF (g_pit x) (nI k)) (nsF x k) s s x = some (1, x) := by
  obtain ⟨hA, hc, hL, hO, hS, hK, hF, hI, hJ, hG, hGj, hE, hN, hD, hY, hZ⟩ := id h
  unfold f_L_isPitch_c114
  rw [if_pos rfl]
  rcases pl_cases hE hI hJ hk with ⟨q1, q2, -⟩ | ⟨b, hb, hb8, hp, q1, q2⟩
  · rw [q2, if_pos (by decide)]; exact c150_1 h hT hk
  · have e2 : f_X4_buskerOf x (nI b) 2 = some (.inr (g_pit x b)) := R_b h hb (j := 2) (by decide)
    rw [q2, if_neg (nI_pos (by omega)), e2, ob_s, os_rn, if_pos hp, (R_with h hk hb).1, ob_s, os_rn, R_noise h hk, ob_s, os_rn, with_own h hk hb q1, if_pos rfl]
    exact c150_1 h hT hk
theorem c82_1 (h : JV T x n w ln) (hT : T < 1073741824) {k : Nat} (hk : k < 8) {s t pl lo : Int32} (hs : f_X4_sign x (nI k) = some (.inr s)) (h0 : t = 0 → s = pl) (h1 : ¬ t = 0 → s = lo) : ∃ ρ, f_L_isPitch_c82 (nI k) (plF (g_pit x) (nI k)) (nsF x k) t pl lo x = some (1, s_row x ρ) := by
  obtain ⟨ρ, e⟩ := R_again h hk
  refine ⟨ρ, ?_⟩
  have hs' : f_X4_sign (s_row x ρ) (nI k) = some (.inr s) := hs
  have hz : f_L_isPitch_c114 (nI k) (plF (g_pit x) (nI k)) (nsF x k) s s (s_row x ρ) = some (1, s_row x ρ) := c114_1 (JV_row h ρ) hT hk s
  unfold f_L_isPitch_c82
  rw [R_noise h hk, ob_s, os_rn, e, ob_s, os_rn]
  dsimp only
  rw [if_pos rfl, hs', ob_s, os_rn]
  by_cases ht : t = 0
  · rw [if_pos ht, ← h0 ht]; exact hz
  · rw [if_neg ht, ← h1 ht]; exact hz
theorem c28_1 (h : JV T x n w ln) (hT : T < 1073741824) {k : Nat} (hk : k < 8) {t : Int32} (ht : t = if (g_lim x k).toNat < (nsF x k).toNat then 1 else 0) : ∃ ρ, f_L_isPitch_c28 (nI k) (plF (g_pit x) (nI k)) (nsF x k) t x = some (1, s_row x ρ) := by
  obtain ⟨hA, hc, hL, hO, hS, hK, hF, hI, hJ, hG, hGj, hE, hN, hD, hY, hZ⟩ := id h
  obtain ⟨s, s1, s2⟩ := R_sign h hk
  have m1 : ¬ (0 : Int32) ≤ -1 := by decide
  rcases pl_cases hE hI hJ hk with ⟨q1, q2, -⟩ | ⟨b, hb, hb8, hp, q1, q2⟩
  · have hz := c82_1 h hT hk (s := s) (t := t) (pl := 46) (lo := 33) s1 (fun e => by
      rw [s2, if_neg (fun hlt => by rw [if_pos hlt] at ht; rw [ht] at e; exact absurd e (by decide)), q2, if_pos (by decide)]) (fun e => by
      rw [s2, if_pos (Classical.byContradiction fun hlt => by rw [if_neg hlt] at ht; exact e ht), q2, if_pos (by decide)])
    obtain ⟨ρ, hz⟩ := hz
    refine ⟨ρ, ?_⟩
    unfold f_L_isPitch_c28 f_L_isPitch_c55
    rw [q2, if_neg m1, if_neg m1, ← q2]
    exact hz
  · have e0 : f_X4_buskerOf x (nI b) 0 = some (.inr (g_kin x b)) := R_b h hb (j := 0) (by decide)
    have hnn : (0 : Int32) ≤ nI b := nI_pos' (by omega)
    have hcl : (nI b).toNatClampNeg = b := clN (by omega)
    by_cases hk0 : g_kin x b = 0
    · have hz := c82_1 h hT hk (s := s) (t := t) (pl := 102) (lo := 70) s1 (fun e => by
        rw [s2, if_neg (fun hlt => by rw [if_pos hlt] at ht; rw [ht] at e; exact absurd e (by decide)), q2, if_neg (nI_pos (by omega)), hcl, if_pos hk0]) (fun e => by
        rw [s2, if_pos (Classical.byContradiction fun hlt => by rw [if_neg hlt] at ht; exact e ht), q2, if_neg (nI_pos (by omega)), hcl, if_pos hk0])
      obtain ⟨ρ, hz⟩ := hz
      refine ⟨ρ, ?_⟩
      rw [q2] at hz
      unfold f_L_isPitch_c28
      rw [q2, if_pos hnn, e0, ob_s, os_rn, if_pos hk0]
      unfold f_L_isPitch_c55
      rw [if_pos hnn, e0, ob_s, os_rn, if_pos hk0]
      exact hz
    · have hz := c82_1 h hT hk (s := s) (t := t) (pl := 97) (lo := 65) s1 (fun e => by
        rw [s2, if_neg (fun hlt => by rw [if_pos hlt] at ht; rw [ht] at e; exact absurd e (by decide)), q2, if_neg (nI_pos (by omega)), hcl, if_neg hk0]) (fun e => by
        rw [s2, if_pos (Classical.byContradiction fun hlt => by rw [if_neg hlt] at ht; exact e ht), q2, if_neg (nI_pos (by omega)), hcl, if_neg hk0])
      obtain ⟨ρ, hz⟩ := hz
      refine ⟨ρ, ?_⟩
      rw [q2] at hz
      unfold f_L_isPitch_c28
      rw [q2, if_pos hnn, e0, ob_s, os_rn, if_neg hk0]
      unfold f_L_isPitch_c55
      rw [if_pos hnn, e0, ob_s, os_rn, if_neg hk0]
      exact hz
theorem isPitch_1 (h : JV T x n w ln) (hT : T < 1073741824) {k : Nat} (hk : k < 8) : ∃ ρ, f_L_isPitch x (nI k) = some (1, s_row x ρ) := by
  have l1 := ns_le h k
  have l2 := lim_le h hk
  unfold f_L_isPitch
  rw [R_p0 h hk, ob_s, os_rn, R_noiseOf h hk, ob_s, R_below h hk, ob_s, os_rn]
  by_cases hlt : (g_lim x k).toNat < (nsF x k).toNat
  · rw [if_neg (by rw [sub_lt (by omega) (by omega) hlt]; decide)]
    exact c28_1 h hT hk (if_pos hlt).symm
  · rw [if_pos (sub_ge (by omega) (by omega) .g)]
    exact c28_1 h hT hk (if_neg hlt).symm
-- how many play
theorem cn_inj {f : Nat → Nat} {M : Nat} {p : Nat → Bool} : ∀ (m : Nat) (q : Nat → Bool), (∀ i, i < m → p i = true → f i < M ∧ q (f i) = true) → (∀ i j, i < m → j < m → p i = true → p j = true → f i = f j → i = j) → cn p m ≤ cn q M
  | 0, q, _, _ => Nat.zero_le _
  | m + 1, q, h1, h2 => by
    show cn p m + (p m).toNat ≤ cn q M
    by_cases hp : p m = true
    · obtain ⟨a1, a2⟩ := h1 m (by omega) hp
      have ih := cn_inj m (fun j => q j && decide (j ≠ f m)) (fun i hi hpi => by
        obtain ⟨b1, b2⟩ := h1 i (by omega) hpi
        refine ⟨b1, ?_⟩
        rw [b2, Bool.true_and]
        exact decide_eq_true fun e => by have := h2 i m (by omega) (by omega) hpi hp e; omega) (fun i j hi hj => h2 i j (by omega) (by omega))
      have e := cn_upd (p := q) (q := fun j => q j && decide (j ≠ f m)) (k := f m) a1 (fun i _ hne => by
        show (q i && decide (i ≠ f m)) = q i
        rw [decide_eq_true hne, Bool.and_true])
      have e2 : (q (f m) && decide (f m ≠ f m)) = false := by rw [decide_eq_false (fun z => z rfl), Bool.and_false]
      have e : cn (fun j => q j && decide (j ≠ f m)) M + (q (f m)).toNat = cn q M + (q (f m) && decide (f m ≠ f m)).toNat := e
      rw [e2, a2] at e
      rw [hp]
      have t1 : true.toNat = 1 := rfl
      have t0 : false.toNat = 0 := rfl
      omega
    · have ih := cn_inj m q (fun i hi => h1 i (by omega)) (fun i j hi hj => h2 i j (by omega) (by omega))
      have e : p m = false := by cases hq : p m with | false => rfl | true => exact absurd hq hp
      rw [e]; exact ih
def cq (x : SV) : Nat → Nat := cn (fun k => decide (¬ plF (g_pit x) (nI k) < 0))
theorem cq_8 (h : JV T x n w ln) : cq x 8 = cP (g_pit x) := by
  obtain ⟨hA, hc, hL, hO, hS, hK, hF, hI, hJ, hG, hGj, hE, hN, hD, hY, hZ⟩ := id h
  have m1 : (-1 : Int32) < 0 := by decide
  refine Nat.le_antisymm ?_ ?_
  · have ex : ∀ k, k < 8 → ¬ plF (g_pit x) (nI k) < 0 → ∃ b, b < 8 ∧ g_pit x b = nI k ∧ (plF (g_pit x) (nI k)).toNatClampNeg = b := fun k hk q => by
      rcases pl_cases hE hI hJ hk with ⟨-, q2, -⟩ | ⟨b, hb, hb8, hp, q1, q2⟩
      · rw [q2] at q; exact absurd m1 q
      · exact ⟨b, hb8, hp, by rw [q2]; exact clN (by omega)⟩
    refine cn_inj (f := fun k => (plF (g_pit x) (nI k)).toNatClampNeg) 8 _ (fun i hi hp => ?_) (fun i j hi hj pi pj e => ?_)
    · obtain ⟨b, b1, b2, b3⟩ := ex i hi (of_decide_eq_true hp)
      show (plF (g_pit x) (nI i)).toNatClampNeg < 8 ∧ _
      rw [b3]
      exact ⟨b1, decide_eq_true (by rw [b2]; exact nI_ne_m1 (by omega))⟩
    · obtain ⟨b, b1, b2, b3⟩ := ex i hi (of_decide_eq_true pi)
      obtain ⟨b', c1, c2, c3⟩ := ex j hj (of_decide_eq_true pj)
      have e : (plF (g_pit x) (nI i)).toNatClampNeg = (plF (g_pit x) (nI j)).toNatClampNeg := e
      have e4 : b = b' := by omega
      rw [e4] at b2
      exact (nI_eq (by omega) (by omega)).mp (b2.symm.trans c2)
  · have ex : ∀ b, b < 8 → ¬ g_pit x b = -1 → ∃ k, k < 8 ∧ g_pit x b = nI k ∧ (g_pit x b).toNatClampNeg = k := fun b hb q => by
      rcases hI b hb with q2 | ⟨k, hk, q2⟩
      · exact absurd q2 q
      · exact ⟨k, hk, q2, by rw [q2]; exact clN (by omega)⟩
    refine cn_inj (f := fun b => (g_pit x b).toNatClampNeg) 8 _ (fun i hi hp => ?_) (fun i j hi hj pi pj e => ?_)
    · obtain ⟨k, k1, k2, k3⟩ := ex i hi (of_decide_eq_true hp)
      show (g_pit x i).toNatClampNeg < 8 ∧ decide (¬ plF (g_pit x) (nI (g_pit x i).toNatClampNeg) < 0) = true
      rw [k3]
      refine ⟨k1, decide_eq_true ?_⟩
      rcases pl_cases hE hI hJ k1 with ⟨-, -, q3⟩ | ⟨b, hb, hb8, hp, q1, q2⟩
      · exact absurd k2 (q3 i hi)
      · rw [q2]; exact nI_pos (by omega)
    · obtain ⟨k, k1, k2, k3⟩ := ex i hi (of_decide_eq_true pi)
      obtain ⟨k', c1, c2, c3⟩ := ex j hj (of_decide_eq_true pj)
      have e : (g_pit x i).toNatClampNeg = (g_pit x j).toNatClampNeg := e
      have e4 : k = k' := by omega
      rw [← e4] at c2
      exact qPj_u hJ hj k1 c2 i hi k2
-- all of them
theorem aP15 (h : JV T x n w ln) (hT : T < 1073741824) (spa : SV) (len cnt : Int32) : ∀ (m fuel i : Nat) (ρ : Nat → UInt32), i + m = 8 → m < fuel → ∃ ρ', f_L_arePitches_c15 len cnt fuel (sI (g_cmp x) i) (sI (g_sof x) i) (nI (cq x i)) 1 (nI i) (s_row x ρ) spa = f_L_arePitches_c79 len cnt (sI (g_cmp x) 8) (sI (g_sof x) 8) (nI (cq x 8)) 1 (s_row x ρ') spa := by
  obtain ⟨hA, hc, hL, hO, hS, hK, hF, hI, hJ, hG, hGj, hE, hN, hD, hY, hZ⟩ := id h
  intro m
  induction m with
  | zero =>
    intro fuel i ρ hi hf
    obtain ⟨fuel, rfl⟩ : ∃ z, fuel = z + 1 := ⟨fuel - 1, by omega⟩
    refine ⟨ρ, ?_⟩
    rw [show i = 8 by omega]
    unfold f_L_arePitches_c15
    rw [if_neg n10, if_pos (show (8 : Int32) ≤ nI 8 by decide)]
  | succ m ih =>
    intro fuel i ρ hi hf
    obtain ⟨fuel, rfl⟩ : ∃ z, fuel = z + 1 := ⟨fuel - 1, by omega⟩
    have hi8 : i < 8 := by omega
    have e0 : f_X4_pitchOf (s_row x ρ) (nI i) 0 = some (.inr (plF (g_pit x) (nI i))) := R_p0 (JV_row h ρ) hi8
    have e1 : f_X4_pitchOf (s_row x ρ) (nI i) 1 = some (.inr (g_cmp x i)) := R_p1 hi8
    have e2 : f_X4_pitchOf (s_row x ρ) (nI i) 2 = some (.inr (g_sof x i)) := R_p2 hi8
    obtain ⟨ρ1, e3⟩ := isPitch_1 (JV_row h ρ) hT hi8
    rw [rw_row] at e3
    obtain ⟨ρ', e4⟩ := ih fuel (i + 1) ρ1 (by omega) (by omega)
    refine ⟨ρ', ?_⟩
    unfold f_L_arePitches_c15
    rw [if_neg n10, if_neg (show ¬ (8 : Int32) ≤ nI i from nI_ge (b := 8) (by omega) (by decide)), e1, ob_s, os_rn, e2, ob_s, os_rn, e0, ob_s, os_rn]
    by_cases hp : (0 : Int32) ≤ plF (g_pit x) (nI i)
    · have hq : cq x (i + 1) = cq x i + 1 := by
        show cq x i + (decide (¬ plF (g_pit x) (nI i) < 0)).toNat = _
        rw [decide_eq_true (show ¬ plF (g_pit x) (nI i) < 0 from fun z => by
          have a1 := Int32.le_iff_toInt_le.mp hp
          have a2 := Int32.lt_iff_toInt_lt.mp z
          omega)]; rfl
      rw [if_pos hp]
      unfold f_L_arePitches_c63
      rw [e3, ob_s]
      dsimp only
      rw [nI_1, nI_1, ← hq]
      exact e4
    · have hq : cq x (i + 1) = cq x i := by
        show cq x i + (decide (¬ plF (g_pit x) (nI i) < 0)).toNat = _
        rw [decide_eq_false (show ¬ ¬ plF (g_pit x) (nI i) < 0 from fun z => z (by
          rw [Int32.lt_iff_toInt_lt]
          have a1 : ¬ (0 : Int32).toInt ≤ (plF (g_pit x) (nI i)).toInt := fun q => hp (Int32.le_iff_toInt_le.mpr q)
          omega))]; rfl
      rw [if_neg hp]
      unfold f_L_arePitches_c63
      rw [e3, ob_s]
      dsimp only
      rw [Int32.add_zero, nI_1, ← hq]
      exact e4
theorem arePitches_1 (h : JV T x n w ln) (hT : T < 1073741824) {spa : SV} (hs : ZV spa) (len cnt : Int32) : ∃ ρ spa', f_L_arePitches x spa len cnt = some (1, s_row x ρ, spa') ∧ IV T spa' := by
  obtain ⟨hA, hc, hL, hO, hS, hK, hF, hI, hJ, hG, hGj, hE, hN, hD, hY, hZ⟩ := id h
  obtain ⟨ρ, e1⟩ := R_well h
  obtain ⟨ρ', e2⟩ := aP15 h hT spa len cnt 8 9 0 ρ rfl (by omega)
  obtain ⟨g, y, -, hy, -, hx, hpl, -⟩ := R_hours (JV_row h ρ') (H := 0) (by omega)
  obtain ⟨row', hx1, -⟩ := hx (fun _ => 0)
  obtain ⟨hp1, -⟩ := pass_0 hx1
  obtain ⟨ρ2, e3⟩ := hpl spa hs
  refine ⟨ρ', s_row y ρ2, ?_, IV_sm (T := T) hy (sm_row y ρ2)⟩
  have e3 : f_X4_playingIn (s_row x ρ') spa 0 = some (.inr (nI (cP (g_pit y)), s_row y ρ2)) := e3
  have hcp : cP (g_pit y) = cq x 8 := by rw [hp1, cq_8 h]; rfl
  have e2 : f_L_arePitches_c15 len cnt 9 0 0 0 1 0 (s_row x ρ) spa = f_L_arePitches_c79 len cnt (sI (g_cmp x) 8) (sI (g_sof x) 8) (nI (cq x 8)) 1 (s_row x ρ') spa := e2
  have a7 : f_X4_account (s_row x ρ') len cnt 7 = some (.inr (sI (g_cmp x) 8)) := A_7 len cnt
  have a9 : f_X4_account (s_row x ρ') len cnt 9 = some (.inr (sI (g_sof x) 8)) := A_9 len cnt
  have a8 : f_X4_account (s_row x ρ') len cnt 8 = some (.inr (g_answered x)) := A_8 len cnt
  have a5 : f_X4_account (s_row x ρ') len cnt 5 = some (.inr (nI (cP (g_pit x)))) := A_5 len cnt
  unfold f_L_arePitches
  rw [e1, ob_s]
  dsimp only
  rw [e2]
  unfold f_L_arePitches_c79
  rw [if_neg n10, a7, ob_s, os_rn, if_pos rfl, a9, ob_s, os_rn, if_pos rfl, a8, ob_s, os_rn, if_pos hS, a5, ob_s, os_rn, if_pos (by rw [cq_8 h]), e3, ob_s, os_rn]
  dsimp only
  rw [if_pos (by rw [hcp])]
end PIT
