/-! states as one value; copies, the changes that are kept -/
def JV (T : Nat) (x : SV) (n w : Nat) (ln : Nat → Nat) : Prop := Jv (fun _ => T) (g_crowd x) (g_buskers x) (g_answered x) (g_lim x) (g_cmp x) (g_sof x) (g_kin x) (g_lou x) (g_pit x) (g_pla x) (g_cas x) (g_hrs x) (g_nws x) (g_hat x) (g_wea x) n w ln
def IV (T : Nat) (x : SV) : Prop := ∃ n w ln, JV T x n w ln
def ZV (x : SV) : Prop := qZ (g_lim x) (g_cmp x) (g_sof x) (g_kin x) (g_lou x) (g_pit x) (g_pla x) (g_cas x) (g_hrs x) (g_nws x) (g_hat x) (g_wea x)
/-- the same but for the row that is laid anew for each use -/
def sm (y x : SV) : Prop := ∃ ρ, y = s_row x ρ
theorem sm_rf (x : SV) : sm x x := ⟨g_row x, rfl⟩
theorem sm_row (x : SV) (ρ : Nat → UInt32) : sm (s_row x ρ) x := ⟨ρ, rfl⟩
theorem sm_tr {a b c : SV} (h1 : sm a b) (h2 : sm b c) : sm a c := by
  obtain ⟨ρ, rfl⟩ := h1
  obtain ⟨σ, rfl⟩ := h2
  exact ⟨ρ, rfl⟩
theorem sm_sy {a b : SV} (h : sm a b) : sm b a := by
  obtain ⟨ρ, rfl⟩ := h
  exact ⟨g_row b, rfl⟩
theorem IV_sm {T : Nat} {x y : SV} (h : IV T x) (hs : sm y x) : IV T y := by
  obtain ⟨ρ, rfl⟩ := hs
  exact h
theorem IV_le {T T' : Nat} {x : SV} (h : IV T x) (hT : T ≤ T') : IV T' x := by
  obtain ⟨n, w, ln, h⟩ := h
  exact ⟨n, w, ln, T_B h (fun _ _ => hT)⟩
theorem IV_Z {T : Nat} {x : SV} (h : IV T x) : ZV x := by
  obtain ⟨n, w, ln, h⟩ := h
  exact h.2.2.2.2.2.2.2.2.2.2.2.2.2.2.2
theorem cpz {α : Type} {f g : Nat → α} (h : ∀ i, 8 ≤ i → f i = g i) : va_cpy f g (0 : Int32).toNatClampNeg (0 : Int32).toNatClampNeg (8 : Int32).toNatClampNeg = f := by
  funext i
  unfold va_cpy
  rw [tc0, tc8]
  by_cases hi : i < 8
  · rw [if_pos ⟨by omega, by omega⟩]
    congr 1
    omega
  · rw [if_neg (by omega)]
    exact (h i (by omega)).symm
theorem zz {f g : Nat → Int32} (hf : zI f) (hg : zI g) : ∀ i, 8 ≤ i → f i = g i := fun i hi => (hf i hi).trans (hg i hi).symm
theorem zzF {f g : Nat → UInt32} (hf : zF f) (hg : zF g) : ∀ i, 8 ≤ i → f i = g i := fun i hi => (hf i hi).trans (hg i hi).symm
def cpF (σ τ : SV) : Option (Int32 × Int32 × Int32 × Int32 × Int32 × (Nat → UInt32) × (Nat → Int32) × (Nat → Int32) × (Nat → Int32) × (Nat → Int32) × (Nat → Int32) × (Nat → Int32) × (Nat → Int32) × (Nat → Int32) × (Nat → Int32) × (Nat → UInt32) × (Nat → UInt32)) := f_X3_copyFrom (g_hour σ) (g_crowd σ) (g_buskers σ) (g_answered σ) (g_draws σ) (g_lim σ) (g_cmp σ) (g_sof σ) (g_kin σ) (g_lou σ) (g_pit σ) (g_pla σ) (g_cas σ) (g_hrs σ) (g_nws σ) (g_hat σ) (g_wea σ) (g_hour τ) (g_crowd τ) (g_buskers τ) (g_answered τ) (g_draws τ) (g_lim τ) (g_cmp τ) (g_sof τ) (g_kin τ) (g_lou τ) (g_pit τ) (g_pla τ) (g_cas τ) (g_hrs τ) (g_nws τ) (g_hat τ) (g_wea τ)
theorem copy_z {σ τ : SV} (hσ : ZV σ) (hτ : ZV τ) : ∃ r, cpF σ τ = some r ∧ sv_cp σ r = s_row τ (g_row σ) := by
  obtain ⟨a1, a2, a3, a4, a5, a6, a7, a8, a9, a10, a11, a12⟩ := hσ
  obtain ⟨b1, b2, b3, b4, b5, b6, b7, b8, b9, b10, b11, b12⟩ := hτ
  refine ⟨_, rfl, ?_⟩
  have e0 : va_cpy (g_lim τ) (g_lim σ) (0 : Int32).toNatClampNeg (0 : Int32).toNatClampNeg (8 : Int32).toNatClampNeg = g_lim τ := cpz (zzF b1 a1)
  have e1 : va_cpy (g_cmp τ) (g_cmp σ) (0 : Int32).toNatClampNeg (0 : Int32).toNatClampNeg (8 : Int32).toNatClampNeg = g_cmp τ := cpz (zz b2 a2)
  have e2 : va_cpy (g_sof τ) (g_sof σ) (0 : Int32).toNatClampNeg (0 : Int32).toNatClampNeg (8 : Int32).toNatClampNeg = g_sof τ := cpz (zz b3 a3)
  have e3 : va_cpy (g_kin τ) (g_kin σ) (0 : Int32).toNatClampNeg (0 : Int32).toNatClampNeg (8 : Int32).toNatClampNeg = g_kin τ := cpz (zz b4 a4)
  have e4 : va_cpy (g_lou τ) (g_lou σ) (0 : Int32).toNatClampNeg (0 : Int32).toNatClampNeg (8 : Int32).toNatClampNeg = g_lou τ := cpz (zz b5 a5)
  have e5 : va_cpy (g_pit τ) (g_pit σ) (0 : Int32).toNatClampNeg (0 : Int32).toNatClampNeg (8 : Int32).toNatClampNeg = g_pit τ := cpz (zz b6 a6)
  have e6 : va_cpy (g_pla τ) (g_pla σ) (0 : Int32).toNatClampNeg (0 : Int32).toNatClampNeg (8 : Int32).toNatClampNeg = g_pla τ := cpz (zz b7 a7)
  have e7 : va_cpy (g_cas τ) (g_cas σ) (0 : Int32).toNatClampNeg (0 : Int32).toNatClampNeg (8 : Int32).toNatClampNeg = g_cas τ := cpz (zz b8 a8)
  have e8 : va_cpy (g_hrs τ) (g_hrs σ) (0 : Int32).toNatClampNeg (0 : Int32).toNatClampNeg (8 : Int32).toNatClampNeg = g_hrs τ := cpz (zz b9 a9)
  have e9 : va_cpy (g_nws τ) (g_nws σ) (0 : Int32).toNatClampNeg (0 : Int32).toNatClampNeg (8 : Int32).toNatClampNeg = g_nws τ := cpz (zz b10 a10)
  have e10 : va_cpy (g_hat τ) (g_hat σ) (0 : Int32).toNatClampNeg (0 : Int32).toNatClampNeg (8 : Int32).toNatClampNeg = g_hat τ := cpz (zzF b11 a11)
  have e11 : va_cpy (g_wea τ) (g_wea σ) (0 : Int32).toNatClampNeg (0 : Int32).toNatClampNeg (8 : Int32).toNatClampNeg = g_wea τ := cpz (zzF b12 a12)
  show ((g_hour τ, g_crowd τ, g_buskers τ, g_answered τ, g_draws τ, va_cpy (g_lim τ) (g_lim σ) (0 : Int32).toNatClampNeg (0 : Int32).toNatClampNeg (8 : Int32).toNatClampNeg, va_cpy (g_cmp τ) (g_cmp σ) (0 : Int32).toNatClampNeg (0 : Int32).toNatClampNeg (8 : Int32).toNatClampNeg, va_cpy (g_sof τ) (g_sof σ) (0 : Int32).toNatClampNeg (0 : Int32).toNatClampNeg (8 : Int32).toNatClampNeg, va_cpy (g_kin τ) (g_kin σ) (0 : Int32).toNatClampNeg (0 : Int32).toNatClampNeg (8 : Int32).toNatClampNeg, va_cpy (g_lou τ) (g_lou σ) (0 : Int32).toNatClampNeg (0 : Int32).toNatClampNeg (8 : Int32).toNatClampNeg, va_cpy (g_pit τ) (g_pit σ) (0 : Int32).toNatClampNeg (0 : Int32).toNatClampNeg (8 : Int32).toNatClampNeg, va_cpy (g_pla τ) (g_pla σ) (0 : Int32).toNatClampNeg (0 : Int32).toNatClampNeg (8 : Int32).toNatClampNeg, va_cpy (g_cas τ) (g_cas σ) (0 : Int32).toNatClampNeg (0 : Int32).toNatClampNeg (8 : Int32).toNatClampNeg, va_cpy (g_hrs τ) (g_hrs σ) (0 : Int32).toNatClampNeg (0 : Int32).toNatClampNeg (8 : Int32).toNatClampNeg, va_cpy (g_nws τ) (g_nws σ) (0 : Int32).toNatClampNeg (0 : Int32).toNatClampNeg (8 : Int32).toNatClampNeg, va_cpy (g_hat τ) (g_hat σ) (0 : Int32).toNatClampNeg (0 : Int32).toNatClampNeg (8 : Int32).toNatClampNeg, va_cpy (g_wea τ) (g_wea σ) (0 : Int32).toNatClampNeg (0 : Int32).toNatClampNeg (8 : Int32).toNatClampNeg, g_row σ) : SV) = _
  rw [e0, e1, e2, e3, e4, e5, e6, e7, e8, e9, e10, e11]
  rfl
/-- the changes that can be undone -/
def HV (T : Nat) (nxt cnt : Int32) (rng : Nat → SV) : Prop := ∃ c p, c ≤ 8 ∧ p < 8 ∧ nxt = nI p ∧ cnt = nI c ∧ ∀ j, j < 8 → IV T (rng j)
/-- undo gives x back -/
def TopV (nxt cnt : Int32) (rng : Nat → SV) (x : SV) : Prop := ∃ c p, c < 8 ∧ p < 8 ∧ cnt = nI (c + 1) ∧ nxt = nI ((p + 1) % 8) ∧ sm (rng p) x
theorem HV_le {T T' : Nat} {nxt cnt : Int32} {rng : Nat → SV} (h : HV T nxt cnt rng) (hT : T ≤ T') : HV T' nxt cnt rng := by
  obtain ⟨c, p, h1, h2, h3, h4, h5⟩ := h
  exact ⟨c, p, h1, h2, h3, h4, fun j hj => IV_le (h5 j hj) hT⟩
theorem TopV_sm {nxt cnt : Int32} {rng : Nat → SV} {x y : SV} (h : TopV nxt cnt rng x) (hs : sm x y) : TopV nxt cnt rng y := by
  obtain ⟨c, p, h1, h2, h3, h4, h5⟩ := h
  exact ⟨c, p, h1, h2, h3, h4, sm_tr h5 hs⟩
theorem keep_eq {T : Nat} {nxt cnt : Int32} {rng : Nat → SV} {x : SV} (h : HV T nxt cnt rng) (hx : IV T x) : ∃ nxt' cnt' rng', f_X1_keep nxt cnt rng x = some (nxt', cnt', rng') ∧ HV T nxt' cnt' rng' ∧ TopV nxt' cnt' rng' x := by
  obtain ⟨c, p, hc, hp, rfl, rfl, hj⟩ := h
  obtain ⟨res, k1, k2⟩ := copy_z (IV_Z (hj p hp)) (IV_Z hx)
  have hrem : nI (p + 1) - nI (p + 1) / 8 * 8 = nI ((p + 1) % 8) := pk_rem (a := p + 1) (d := 8) (by omega) (by decide) (by decide)
  have hnz : nz 8 = true := by decide
  have hsm : sm (sv_cp (rng p) res) x := by rw [k2]; exact sm_row _ _
  have hI : ∀ j, j < 8 → IV T (vf_upd rng p (sv_cp (rng p) res) j) := fun j hj8 => by
    by_cases e : j = p
    · rw [e, vupd_eq]; exact IV_sm hx hsm
    · rw [vupd_ne _ _ e]; exact hj j hj8
  have k1 : f_X3_copyFrom (g_hour (rng p)) (g_crowd (rng p)) (g_buskers (rng p)) (g_answered (rng p)) (g_draws (rng p)) (g_lim (rng p)) (g_cmp (rng p)) (g_sof (rng p)) (g_kin (rng p)) (g_lou (rng p)) (g_pit (rng p)) (g_pla (rng p)) (g_cas (rng p)) (g_hrs (rng p)) (g_nws (rng p)) (g_hat (rng p)) (g_wea (rng p)) (g_hour x) (g_crowd x) (g_buskers x) (g_answered x) (g_draws x) (g_lim x) (g_cmp x) (g_sof x) (g_kin x) (g_lou x) (g_pit x) (g_pla x) (g_cas x) (g_hrs x) (g_nws x) (g_hat x) (g_wea x) = some res := k1
  by_cases h8 : c = 8
  · subst h8
    refine ⟨nI ((p + 1) % 8), nI 8, vf_upd rng p (sv_cp (rng p) res), ?_, ⟨8, (p + 1) % 8, by omega, by omega, rfl, rfl, hI⟩, ⟨7, p, by omega, hp, rfl, rfl, by rw [vupd_eq]; exact hsm⟩⟩
    unfold f_X1_keep
    rw [inbN hp (by decide), og_t, clN (by omega), k1, ob_s, hnz, og_t, if_pos (by decide), nI_1, hrem]; rfl
  · refine ⟨nI ((p + 1) % 8), nI (c + 1), vf_upd rng p (sv_cp (rng p) res), ?_, ⟨c + 1, (p + 1) % 8, by omega, by omega, rfl, rfl, hI⟩, ⟨c, p, by omega, hp, rfl, rfl, by rw [vupd_eq]; exact hsm⟩⟩
    unfold f_X1_keep
    rw [inbN hp (by decide), og_t, clN (by omega), k1, ob_s, hnz, og_t, if_neg (show ¬ (8 : Int32) ≤ nI c from nI_ge (b := 8) (by omega) (by decide)), nI_1 p, nI_1 c, hrem]
theorem back_eq {T : Nat} {nxt cnt : Int32} {rng : Nat → SV} {x : SV} (h : HV T nxt cnt rng) (hx : IV T x) : (cnt = 0) ∨ ∃ c p nxt' x', cnt = nI (c + 1) ∧ c < 8 ∧ p < 8 ∧ nxt = nI ((p + 1) % 8) ∧ f_X1_giveBack nxt cnt rng x = some (nxt', nI c, x') ∧ sm x' (rng p) ∧ HV T nxt' (nI c) rng := by
  obtain ⟨c, p, hc, hp, rfl, rfl, hj⟩ := h
  by_cases h0 : c = 0
  · subst h0; exact Or.inl rfl
  · right
    obtain ⟨c, rfl⟩ : ∃ z, c = z + 1 := ⟨c - 1, by omega⟩
    have hrem : nI (p + 7) - nI (p + 7) / 8 * 8 = nI ((p + 7) % 8) := pk_rem (a := p + 7) (d := 8) (by omega) (by decide) (by decide)
    have hnz : nz 8 = true := by decide
    have e8 : nI p + 8 - 1 = nI (p + 7) := by
      rw [show nI p + 8 = nI (p + 8) from nI_add p 8]
      exact pk_sub (a := p + 8) (b := 1) (by omega)
    obtain ⟨res, k1, k2⟩ := copy_z (IV_Z hx) (IV_Z (hj ((p + 7) % 8) (by omega)))
    have k1 : f_X3_copyFrom (g_hour x) (g_crowd x) (g_buskers x) (g_answered x) (g_draws x) (g_lim x) (g_cmp x) (g_sof x) (g_kin x) (g_lou x) (g_pit x) (g_pla x) (g_cas x) (g_hrs x) (g_nws x) (g_hat x) (g_wea x) (g_hour (rng ((p + 7) % 8))) (g_crowd (rng ((p + 7) % 8))) (g_buskers (rng ((p + 7) % 8))) (g_answered (rng ((p + 7) % 8))) (g_draws (rng ((p + 7) % 8))) (g_lim (rng ((p + 7) % 8))) (g_cmp (rng ((p + 7) % 8))) (g_sof (rng ((p + 7) % 8))) (g_kin (rng ((p + 7) % 8))) (g_lou (rng ((p + 7) % 8))) (g_pit (rng ((p + 7) % 8))) (g_pla (rng ((p + 7) % 8))) (g_cas (rng ((p + 7) % 8))) (g_hrs (rng ((p + 7) % 8))) (g_nws (rng ((p + 7) % 8))) (g_hat (rng ((p + 7) % 8))) (g_wea (rng ((p + 7) % 8))) = some res := k1
    refine ⟨c, (p + 7) % 8, nI ((p + 7) % 8), sv_cp x res, rfl, by omega, by omega, by rw [show ((p + 7) % 8 + 1) % 8 = p by omega], ?_, by rw [k2]; exact sm_row _ _, ⟨c, (p + 7) % 8, by omega, by omega, rfl, rfl, hj⟩⟩
    unfold f_X1_giveBack
    rw [hnz, og_t, e8, hrem, inbN (by omega) (by decide), og_t, clN (by omega), k1, ob_s, nI_pred]
theorem back_top {T : Nat} {nxt cnt : Int32} {rng : Nat → SV} {x z : SV} (h : HV T nxt cnt rng) (hx : IV T x) (ht : TopV nxt cnt rng z) : ∃ c nxt' x', cnt = nI (c + 1) ∧ c < 8 ∧ f_X1_giveBack nxt cnt rng x = some (nxt', nI c, x') ∧ sm x' z ∧ HV T nxt' (nI c) rng := by
  obtain ⟨c0, p0, h1, h2, h3, h4, h5⟩ := ht
  rcases back_eq h hx with q | ⟨c, p, nxt', x', q1, q2, q3, q4, q5, q6, q7⟩
  · rw [h3] at q; exact absurd q (nI_ne0 (by omega) (by omega))
  · have : (p + 1) % 8 = (p0 + 1) % 8 := (nI_eq (by omega) (by omega)).mp (q4.symm.trans h4)
    have e : p = p0 := by omega
    subst e
    exact ⟨c, nxt', x', q1, q2, q5, sm_tr q6 h5, q7⟩
