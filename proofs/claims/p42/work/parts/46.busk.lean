/-! what the law asks of the buskers -/
theorem sI_ext {f : Nat → Int32} {n : Nat} : ∀ {m : Nat}, n ≤ m → (∀ i, n ≤ i → i < m → f i = 0) → sI f m = sI f n
  | 0, h, _ => by rw [show n = 0 by omega]
  | m + 1, h, he => by
    by_cases e : n = m + 1
    · rw [e]
    · show sI f m + f m = _
      rw [he m (by omega) (by omega), Int32.add_zero]
      exact sI_ext (by omega) (fun i h1 h2 => he i h1 (by omega))
theorem nI_sub {a b : Nat} (h : b ≤ a) : nI a - nI b = nI (a - b) := by
  rw [show nI a = nI (a - b) + nI b from by rw [nI_add]; congr 1; omega, Int32.add_sub_cancel]
abbrev RecB : Type := Int32 → Int32 → Int32 → Int32 → Int32 → Int32 → Int32 → SV → Option (Int32 × SV)
section BUS
variable {T : Nat} {x : SV} {n w : Nat} {ln : Nat → Nat}
theorem rank_c (h : JV T x n w ln) {b p : Nat} (hb : b < n) (hp : p < n) (hc : cn (ahP (g_hat x) b) n = p) : ∀ (m fuel i : Nat), i + m = b → m < fuel → f_X4_ranked_c2 x (nI p) fuel (nI i) = some (.inr (nI b)) := by
  obtain ⟨hA, hc', hL, hO, hS, hK, hF, hI, hJ, hG, hGj, hE, hN, hD, hY, hZ⟩ := id h
  have hn8 := h.1.2
  have hbx : g_buskers x = nI n := h.1.1
  intro m
  induction m with
  | zero =>
    intro fuel i hi hf
    obtain ⟨fuel, rfl⟩ : ∃ z, fuel = z + 1 := ⟨fuel - 1, by omega⟩
    rw [show i = b by omega]
    unfold f_X4_ranked_c2
    rw [if_neg (show ¬ (8 : Int32) ≤ nI b from nI_ge (b := 8) (by omega) (by decide)), hbx, has_T hn8 hb, ob_s, if_neg n10, xahead hn8 (g_hat x) (b := b) (by omega), ob_s, hc, if_pos rfl]
  | succ m ih =>
    intro fuel i hi hf
    obtain ⟨fuel, rfl⟩ : ∃ z, fuel = z + 1 := ⟨fuel - 1, by omega⟩
    have hne : ¬ nI (cn (ahP (g_hat x) i) n) = nI p := fun e => by
      have h1 := cn_le (ahP (g_hat x) i) n
      have e2 := (nI_eq (by omega) (by omega)).mp e
      have := cnt_inj hF hn8 (i := i) (j := b) (by omega) hb (e2.trans hc.symm)
      omega
    unfold f_X4_ranked_c2
    rw [if_neg (show ¬ (8 : Int32) ≤ nI i from nI_ge (b := 8) (by omega) (by decide)), hbx, has_T hn8 (by omega), ob_s, if_neg n10, xahead hn8 (g_hat x) (b := i) (by omega), ob_s, if_neg hne, nI_1]
    exact ih fuel (i + 1) (by omega) (by omega)
theorem rank_n (h : JV T x n w ln) : ∀ (m fuel i : Nat), i + m = 8 → m < fuel → f_X4_ranked_c2 x (nI n) fuel (nI i) = some (.inl 4) := by
  obtain ⟨hA, hc', hL, hO, hS, hK, hF, hI, hJ, hG, hGj, hE, hN, hD, hY, hZ⟩ := id h
  have hn8 := h.1.2
  have hbx : g_buskers x = nI n := h.1.1
  intro m
  induction m with
  | zero =>
    intro fuel i hi hf
    obtain ⟨fuel, rfl⟩ : ∃ z, fuel = z + 1 := ⟨fuel - 1, by omega⟩
    unfold f_X4_ranked_c2
    rw [if_pos (show (8 : Int32) ≤ nI i from nI_le (a := 8) (by omega) (by omega))]
  | succ m ih =>
    intro fuel i hi hf
    obtain ⟨fuel, rfl⟩ : ∃ z, fuel = z + 1 := ⟨fuel - 1, by omega⟩
    have ih := ih fuel (i + 1) (by omega) (by omega)
    unfold f_X4_ranked_c2
    rw [if_neg (show ¬ (8 : Int32) ≤ nI i from nI_ge (b := 8) (by omega) (by decide)), hbx]
    by_cases hin : i < n
    · have hlt := cnt_lt hF hn8 hin
      rw [has_T hn8 hin, ob_s, if_neg n10, xahead hn8 (g_hat x) (b := i) (by omega), ob_s, if_neg (fun e => by have := (nI_eq (by omega) (by omega)).mp e; omega), nI_1]
      exact ih
    · rw [has_F hn8 (by omega) (by omega), ob_s, if_pos rfl, nI_1]
      exact ih
theorem R_ranked (h : JV T x n w ln) {p : Nat} (hp : p < n) : ∃ b, b < n ∧ cn (ahP (g_hat x) b) n = p ∧ f_L_ranked x (nI p) = some (nI b) := by
  obtain ⟨hA, hc', hL, hO, hS, hK, hF, hI, hJ, hG, hGj, hE, hN, hD, hY, hZ⟩ := id h
  obtain ⟨b, hb, hc⟩ := rank_ex hF h.1.2 hp
  have hn8 := h.1.2
  have e := rank_c h hb hp hc b 4096 0 (by omega) (by omega)
  have e : f_X4_ranked x (nI p) = some (.inr (nI b)) := e
  refine ⟨b, hb, hc, ?_⟩
  unfold f_L_ranked
  rw [e, ob_s, os_rn]
theorem R_ranked_no (h : JV T x n w ln) : f_L_ranked x (nI n) = some (-1000) := by
  have e := rank_n h 8 4096 0 rfl (by decide)
  have e : f_X4_ranked x (nI n) = some (.inl 4) := e
  unfold f_L_ranked
  rw [e, ob_s, os_ln, if_pos rfl]
theorem R_onRack (h : JV T x n w ln) {b p : Nat} (hb : b < n) (hp : p < 3) (hc : g_cas x b = nI p) : f_L_onRack x (g_kin x b) (nI p) = some (nI b) := by
  obtain ⟨hA, hc', hL, hO, hS, hK, hF, hI, hJ, hG, hGj, hE, hN, hD, hY, hZ⟩ := id h
  have hn8 := h.1.2
  have e := case_some (kin := g_kin x) (cas := g_cas x) (rk := g_kin x b) (p := p) (b := b) (by omega) (by omega) hc rfl (fun b' hb' e1 e2 => hGj b' b hb' (by omega) (e1.trans hc.symm) e2 (by rw [e1]; exact nI_ne_m1 (by omega))) b 4096 0 (by omega) (by omega)
  have e : f_X3_caseAt (g_kin x) (g_cas x) (g_kin x b) (nI p) = some (nI b) := e
  have k1 : ¬ g_kin x b < 0 := by rcases (hK b hb).1 with q | q <;> rw [q] <;> decide
  have k2 : ¬ (2 : Int32) ≤ g_kin x b := by rcases (hK b hb).1 with q | q <;> rw [q] <;> decide
  have k3 : nI p < (3 : Int32) := nI_lt (b := 3) hp (by decide)
  unfold f_L_onRack f_X4_onRack
  rw [if_neg k1, if_neg k2, if_neg (nI_pos (by omega)), if_pos k3, e, ob_s, if_neg (nI_ne_m1 (by omega)), ob_s, os_rn]
theorem R_snaps1 (h : JV T x n w ln) {b : Nat} (hb : b < n) (hk : g_kin x b = 1) : f_L_snapsIn x (nI b) = some (-1000) := by
  have hn8 := h.1.2
  unfold f_L_snapsIn f_X4_snapsIn
  rw [hbn h hb, ob_s, tf0, ob_s, os_rn, inbN (by omega) (by decide), og_t, clN (by omega), if_pos hk, ob_s, os_ln, if_neg (by decide), if_pos rfl]
theorem R_snaps0 (h : JV T x n w ln) {b : Nat} (hb : b < n) (hk : ¬ g_kin x b = 1) : ∃ z, z ≤ 1000 ∧ f_L_snapsIn x (nI b) = some (nI z) ∧ (z = 0 ↔ 1065353216 ≤ (g_wea x b).toNat) := by
  obtain ⟨hA, hc', hL, hO, hS, hK, hF, hI, hJ, hG, hGj, hE, hN, hD, hY, hZ⟩ := id h
  have hn8 := h.1.2
  obtain ⟨z, z1, z2, z3, z4⟩ := snaps_eq' hn8 hK (wea := g_wea x) hb 1000 4096 0 (g_wea x b) rfl (by decide) (hF b (by omega)).2
  have z3 : f_X3_hoursUntilSnapped_c9 (g_lou x) (g_wea x) (nI b) 4096 0 (g_wea x b) = some (nI z) := z3
  refine ⟨z, z2, ?_, z4 (by decide)⟩
  unfold f_L_snapsIn f_X4_snapsIn
  rw [hbn h hb, ob_s, tf0, ob_s, os_rn, inbN (by omega) (by decide), og_t, clN (by omega), if_neg hk]
  unfold f_X3_hoursUntilSnapped
  rw [inbN (by omega) (by decide), og_t, clN (by omega), z3, ob_s, ob_s, os_rn]
theorem wea_lt (h : JV T x n w ln) {b : Nat} (hb : b < n) : (g_wea x b).toNat ≤ 1317011456 ∧ (g_hat x b).toNat ≤ 1317011456 := by
  obtain ⟨hA, hc', hL, hO, hS, hK, hF, hI, hJ, hG, hGj, hE, hN, hD, hY, hZ⟩ := id h
  have hn8 := h.1.2
  exact ⟨(hF b (by omega)).2, (hF b (by omega)).1⟩
theorem c296_1 (h : JV T x n w ln) {b : Nat} (hb : b < n) (rec : RecB) (len cnt x1 x2 x3 x4 x5 : Int32) (spa : SV) : f_L_areBuskers_c296 rec x len cnt x1 x2 x3 x4 x5 (nI b) (g_wea x b) spa = rec x1 x2 x3 x4 x5 1 (nI (b + 1)) spa := by
  obtain ⟨hA, hc', hL, hO, hS, hK, hF, hI, hJ, hG, hGj, hE, hN, hD, hY, hZ⟩ := id h
  have hn8 := h.1.2
  have hw := (wea_lt h hb).1
  have e0 : f_X4_buskerOf x (nI b) 0 = some (.inr (g_kin x b)) := R_b h hb (j := 0) (by decide)
  unfold f_L_areBuskers_c296
  rw [e0, ob_s, os_rn]
  by_cases hk : g_kin x b = 1
  · have hz := (hY b (by omega)).2 hk
    rw [if_pos hk, R_snaps1 h hb hk, ob_s, if_pos rfl, if_pos ((fcmp_eq0 (by omega) (by rw [fc0]; omega) .l).mpr (by rw [hz, fc0]; rfl)), nI_1]
  · obtain ⟨z, z1, z2, z3⟩ := R_snaps0 h hb hk
    rw [if_neg hk, z2, ob_s]
    by_cases hz : z = 0
    · have hge := z3.mp hz
      rw [if_pos (by rw [hz]; rfl)]
      unfold f_L_areBuskers_c343
      rw [if_neg (fun q => by have := (fcmp_lt0 (by omega) (by rw [fc1]; omega) .l).mp q; rw [fc1] at this; omega), if_pos rfl, nI_1]
    · have hge : ¬ 1065353216 ≤ (g_wea x b).toNat := fun q => hz (z3.mpr q)
      rw [if_neg (nI_ne0 (by omega) (by omega))]
      unfold f_L_areBuskers_c343
      rw [if_pos ((fcmp_lt0 (by omega) (by rw [fc1]; omega) .l).mpr (by rw [fc1]; omega)), if_pos rfl, nI_1]
theorem c256_1 (h : JV T x n w ln) {b : Nat} (hb : b < n) (rec : RecB) (len cnt x1 x2 x3 x4 x5 : Int32) (spa : SV) : f_L_areBuskers_c256 rec x len cnt x1 x2 x3 x4 x5 (nI b) (g_wea x b) 1 spa = rec x1 x2 x3 x4 x5 1 (nI (b + 1)) spa := by
  obtain ⟨hA, hc', hL, hO, hS, hK, hF, hI, hJ, hG, hGj, hE, hN, hD, hY, hZ⟩ := id h
  have hn8 := h.1.2
  have e0 : f_X4_buskerOf x (nI b) 0 = some (.inr (g_kin x b)) := R_b h hb (j := 0) (by decide)
  have e4 : f_X4_buskerOf x (nI b) 4 = some (.inr (g_cas x b)) := R_b h hb (j := 4) (by decide)
  unfold f_L_areBuskers_c256
  rw [if_neg n10]
  simp only [e4, e0, ob_n, os_rn]
  rcases hG b (by omega) with q | ⟨p, hp, q⟩
  · rw [if_pos (by rw [q]; decide)]; exact c296_1 h hb rec len cnt x1 x2 x3 x4 x5 spa
  · rw [q, if_neg (nI_pos (by omega)), R_onRack h hb hp q, ob_s, if_pos rfl]
    exact c296_1 h hb rec len cnt x1 x2 x3 x4 x5 spa
theorem c232_1 (h : JV T x n w ln) {b : Nat} (hb : b < n) (rec : RecB) (len cnt x1 x2 x3 x4 x5 : Int32) {spa : SV} (hs : IV T spa) : ∃ spa', IV T spa' ∧ f_L_areBuskers_c232 rec x len cnt x1 x2 x3 x4 x5 (nI b) (g_wea x b) spa = rec x1 x2 x3 x4 x5 1 (nI (b + 1)) spa' := by
  have hh := (wea_lt h hb).2
  obtain ⟨g, y, -, hy, -, hx, -, hat⟩ := R_hours h (H := 0) (by omega)
  obtain ⟨row', hx1, -⟩ := hx (fun _ => 0)
  obtain ⟨-, hp1⟩ := pass_0 hx1
  obtain ⟨ρ, e⟩ := hat spa b (IV_Z hs) hb
  have e : f_X4_hatIn x spa (nI b) 0 = some (.inr ((g_hat y b).toInt32, s_row y ρ)) := e
  refine ⟨s_row y ρ, IV_sm (T := T) hy (sm_row y ρ), ?_⟩
  unfold f_L_areBuskers_c232
  rw [e, ob_s, os_rn, R_hat h hb, ob_s, os_rn, fToI_n (by omega), ob_s]
  dsimp only
  rw [hp1, if_pos rfl]
  exact c256_1 h hb rec len cnt x1 x2 x3 x4 x5 _
theorem c208_1 (h : JV T x n w ln) {b : Nat} (hb : b < n) (rec : RecB) (len cnt x1 x2 x3 x4 x5 : Int32) {spa : SV} (hs : IV T spa) : ∃ spa', IV T spa' ∧ f_L_areBuskers_c208 rec x len cnt x1 x2 x3 x4 x5 (nI b) (g_pit x b) (g_wea x b) spa = rec x1 x2 x3 x4 x5 1 (nI (b + 1)) spa' := by
  obtain ⟨hA, hc', hL, hO, hS, hK, hF, hI, hJ, hG, hGj, hE, hN, hD, hY, hZ⟩ := id h
  have hn8 := h.1.2
  have hw := (wea_lt h hb).1
  obtain ⟨spa', s1, s2⟩ := c232_1 h hb rec len cnt x1 x2 x3 x4 x5 hs
  refine ⟨spa', s1, ?_⟩
  unfold f_L_areBuskers_c208
  rcases hI b (by omega) with q | ⟨k, hk, q⟩
  · rw [if_pos (by rw [q]; decide)]; exact s2
  · have hpl : plF (g_pit x) (nI k) = nI b := by
      rcases pl_cases hE hI hJ hk with ⟨-, -, z⟩ | ⟨b', -, hb8, z1, -, z2⟩
      · exact absurd q (z b (by omega))
      · rw [z2, qPj_u hJ hb8 hk z1 b (by omega) q]
    have hlt := (hY b (by omega)).1 (Or.inl (by rw [q]; exact nI_ne_m1 (by omega)))
    rw [if_neg (by rw [q]; exact nI_pos (by omega)), q, R_p0 h hk, ob_s, os_rn, if_pos hpl, if_neg (fun z => by have := (fcmp_ge0 (by omega) (by rw [fc1]; omega) .g).mp z; rw [fc1] at this; omega)]
    exact s2
theorem c153_1 (h : JV T x n w ln) {b : Nat} (hb : b < n) (rec : RecB) (len cnt x1 x2 x3 x5 t0 t1 : Int32) {spa : SV} (hs : IV T spa) : ∃ spa', IV T spa' ∧ f_L_areBuskers_c153 rec x len cnt x1 x2 x3 x5 (nI b) (g_pla x b) (g_pit x b) (g_wea x b) t0 t1 spa = rec x1 x2 x3 (t1 + t0) (x5 + g_nws x b) 1 (nI (b + 1)) spa' := by
  obtain ⟨hA, hc', hL, hO, hS, hK, hF, hI, hJ, hG, hGj, hE, hN, hD, hY, hZ⟩ := id h
  have hn8 := h.1.2
  obtain ⟨hw, hh⟩ := wea_lt h hb
  obtain ⟨spa', s1, s2⟩ := c208_1 h hb rec len cnt x1 x2 x3 (t1 + t0) (x5 + g_nws x b) hs
  refine ⟨spa', s1, ?_⟩
  have e6 : f_X4_buskerOf x (nI b) 6 = some (.inr (g_nws x b)) := R_b h hb (j := 6) (by decide)
  unfold f_L_areBuskers_c153
  rw [e6, ob_s, os_rn, R_hat h hb, ob_s, os_rn, if_neg (fun q => by have := (fcmp_lt0 (by omega) (by rw [fc0]; omega) .l).mp q; rw [fc0] at this; omega), if_neg (fun q => by have := (fcmp_lt0 (by omega) (by rw [fc0]; omega) .l).mp q; rw [fc0] at this; omega)]
  rcases hN.2.1 b (by omega) with q | ⟨j, hj, q, q2⟩
  · rw [if_pos (by rw [q]; decide)]; exact s2
  · have hw8 := qN_le hN
    have hp : g_pit x b = -1 := Classical.byContradiction fun z => by
      have := hD b (by omega) z
      rw [q] at this
      exact nI_ne_m1 (by omega) this
    rw [if_neg (by rw [q]; exact nI_pos (by omega)), if_neg (by rw [hp]; decide), q, R_waiting h hj, ob_s, if_pos (by rw [q2])]
    exact s2
def cnw (x : SV) : Nat → Nat := cn (fun b => decide (¬ g_pla x b = -1))
def cnp (x : SV) : Nat → Nat := cn (fun b => decide (¬ g_pit x b = -1))
def cns (x : SV) : Nat → Nat := cn (fun b => decide (¬ Op.cmpValue (FP.fcmp (g_wea x b) FP.fconst1) .l < 0))
def cnc (x : SV) : Nat → Nat := cn (fun b => decide (¬ g_cas x b = -1))
theorem st_1 {f : Nat → Int32} {b : Nat} (h : f b = -1 ∨ ∃ k, k < 2 ^ 31 ∧ f b = nI k) (c : Nat) : (0 ≤ f b → nI c + 1 = nI (c + (decide (¬ f b = -1)).toNat)) ∧ (¬ 0 ≤ f b → nI c + 0 = nI (c + (decide (¬ f b = -1)).toNat)) := by
  rcases h with q | ⟨k, hk, q⟩
  · rw [q]
    refine ⟨fun z => absurd z (by decide), fun _ => ?_⟩
    rw [Int32.add_zero, decide_eq_false (show ¬ ¬ (-1 : Int32) = -1 from fun z => z rfl)]; rfl
  · rw [q]
    refine ⟨fun _ => ?_, fun z => absurd (nI_pos' hk) z⟩
    rw [nI_1, decide_eq_true (nI_ne_m1 hk)]; rfl
theorem aB51 (h : JV T x n w ln) (len cnt : Int32) : ∀ (m fuel i : Nat) (spa : SV), i + m = n → m < fuel → IV T spa → ∃ spa', IV T spa' ∧ f_L_areBuskers_c51 x len cnt fuel (nI (cnw x i)) (nI (cnp x i)) (nI (cns x i)) (nI (cnc x i)) (sI (g_nws x) i) 1 (nI i) spa = f_L_areBuskers_c374 x len cnt 9 (nI (cnw x n)) (nI (cnp x n)) (nI (cns x n)) (nI (cnc x n)) (sI (g_nws x) n) 1 1 spa' := by
  obtain ⟨hA, hc', hL, hO, hS, hK, hF, hI, hJ, hG, hGj, hE, hN, hD, hY, hZ⟩ := id h
  have hn8 := h.1.2
  have hw8 := qN_le hN
  intro m
  induction m with
  | zero =>
    intro fuel i spa hi hf hs
    obtain ⟨fuel, rfl⟩ : ∃ z, fuel = z + 1 := ⟨fuel - 1, by omega⟩
    refine ⟨spa, hs, ?_⟩
    rw [show i = n by omega]
    unfold f_L_areBuskers_c51
    rw [if_neg n10, A_2 h, ob_s, os_rn, if_pos (nI_le (Nat.le_refl _) (by omega))]
  | succ m ih =>
    intro fuel i spa hi hf hs
    obtain ⟨fuel, rfl⟩ : ∃ z, fuel = z + 1 := ⟨fuel - 1, by omega⟩
    have hb : i < n := by omega
    obtain ⟨hw, hh⟩ := wea_lt h hb
    have e3 : f_X4_buskerOf x (nI i) 3 = some (.inr (g_pla x i)) := R_b h hb (j := 3) (by decide)
    have e2 : f_X4_buskerOf x (nI i) 2 = some (.inr (g_pit x i)) := R_b h hb (j := 2) (by decide)
    have e4 : f_X4_buskerOf x (nI i) 4 = some (.inr (g_cas x i)) := R_b h hb (j := 4) (by decide)
    have p1 := st_1 (f := g_pla x) (b := i) (by
      rcases hN.2.1 i (by omega) with q | ⟨j, hj, q, -⟩
      · exact Or.inl q
      · exact Or.inr ⟨j, by omega, q⟩) (cnw x i)
    have p2 := st_1 (f := g_pit x) (b := i) (by
      rcases hI i (by omega) with q | ⟨j, hj, q⟩
      · exact Or.inl q
      · exact Or.inr ⟨j, by omega, q⟩) (cnp x i)
    have p4 := st_1 (f := g_cas x) (b := i) (by
      rcases hG i (by omega) with q | ⟨j, hj, q⟩
      · exact Or.inl q
      · exact Or.inr ⟨j, by omega, q⟩) (cnc x i)
    have f1 : cnw x (i + 1) = cnw x i + (decide (¬ g_pla x i = -1)).toNat := rfl
    have f2 : cnp x (i + 1) = cnp x i + (decide (¬ g_pit x i = -1)).toNat := rfl
    have f4 : cnc x (i + 1) = cnc x i + (decide (¬ g_cas x i = -1)).toNat := rfl
    have f3 : cns x (i + 1) = cns x i + (decide (¬ Op.cmpValue (FP.fcmp (g_wea x i) FP.fconst1) .l < 0)).toNat := rfl
    -- from the fourth flag up
    have d4 : ∀ (rec : RecB) (x1 x2 x5 t0 t1 : Int32), ∃ spa', IV T spa' ∧ f_L_areBuskers_c134 rec x len cnt x1 x2 (nI (cnc x i)) x5 (nI i) (g_pla x i) (g_pit x i) (g_wea x i) t0 t1 spa = rec x1 x2 (t1 + t0) (nI (cnc x (i + 1))) (x5 + g_nws x i) 1 (nI (i + 1)) spa' := by
      intro rec x1 x2 x5 t0 t1
      unfold f_L_areBuskers_c134
      rw [e4, ob_s, os_rn]
      by_cases hz : (0 : Int32) ≤ g_cas x i
      · obtain ⟨spa', s1, s2⟩ := c153_1 h hb rec len cnt x1 x2 (t1 + t0) x5 1 (nI (cnc x i)) hs
        refine ⟨spa', s1, ?_⟩
        rw [if_pos hz, f4, ← p4.1 hz]; exact s2
      · obtain ⟨spa', s1, s2⟩ := c153_1 h hb rec len cnt x1 x2 (t1 + t0) x5 0 (nI (cnc x i)) hs
        refine ⟨spa', s1, ?_⟩
        rw [if_neg hz, f4, ← p4.2 hz]; exact s2
    have d3 : ∀ (rec : RecB) (x1 x5 t0 t1 : Int32), ∃ spa', IV T spa' ∧ f_L_areBuskers_c119 rec x len cnt x1 (nI (cns x i)) (nI (cnc x i)) x5 (nI i) (g_pla x i) (g_pit x i) (g_wea x i) t0 t1 spa = rec x1 (t1 + t0) (nI (cns x (i + 1))) (nI (cnc x (i + 1))) (x5 + g_nws x i) 1 (nI (i + 1)) spa' := by
      intro rec x1 x5 t0 t1
      unfold f_L_areBuskers_c119
      by_cases hz : Op.cmpValue (FP.fcmp (g_wea x i) FP.fconst1) .l < 0
      · obtain ⟨spa', s1, s2⟩ := d4 rec x1 (t1 + t0) x5 0 (nI (cns x i))
        refine ⟨spa', s1, ?_⟩
        rw [if_pos hz, f3, decide_eq_false (show ¬ ¬ Op.cmpValue (FP.fcmp (g_wea x i) FP.fconst1) .l < 0 from fun z => z hz)]
        rw [Int32.add_zero] at s2
        exact s2
      · obtain ⟨spa', s1, s2⟩ := d4 rec x1 (t1 + t0) x5 1 (nI (cns x i))
        refine ⟨spa', s1, ?_⟩
        rw [if_neg hz, f3, decide_eq_true (show ¬ Op.cmpValue (FP.fcmp (g_wea x i) FP.fconst1) .l < 0 from hz)]
        rw [nI_1] at s2
        exact s2
    have d2 : ∀ (rec : RecB) (x5 t0 t1 : Int32), ∃ spa', IV T spa' ∧ f_L_areBuskers_c106 rec x len cnt (nI (cnp x i)) (nI (cns x i)) (nI (cnc x i)) x5 (nI i) (g_pla x i) (g_pit x i) (g_wea x i) t0 t1 spa = rec (t1 + t0) (nI (cnp x (i + 1))) (nI (cns x (i + 1))) (nI (cnc x (i + 1))) (x5 + g_nws x i) 1 (nI (i + 1)) spa' := by
      intro rec x5 t0 t1
      unfold f_L_areBuskers_c106
      by_cases hz : (0 : Int32) ≤ g_pit x i
      · obtain ⟨spa', s1, s2⟩ := d3 rec (t1 + t0) x5 1 (nI (cnp x i))
        refine ⟨spa', s1, ?_⟩
        rw [if_pos hz, f2, ← p2.1 hz]; exact s2
      · obtain ⟨spa', s1, s2⟩ := d3 rec (t1 + t0) x5 0 (nI (cnp x i))
        refine ⟨spa', s1, ?_⟩
        rw [if_neg hz, f2, ← p2.2 hz]; exact s2
    unfold f_L_areBuskers_c51
    rw [if_neg n10, A_2 h, ob_s, os_rn, if_neg (nI_ge (by omega) (by omega)), e3, ob_s, os_rn, e2, ob_s, os_rn, R_wear h hb, ob_s, os_rn, okI_n (by omega), og_t, toI_toU]
    by_cases hz : (0 : Int32) ≤ g_pla x i
    · obtain ⟨spa1, s1, s2⟩ := d2 (f_L_areBuskers_c51 x len cnt fuel) (sI (g_nws x) i) 1 (nI (cnw x i))
      obtain ⟨spa', t1, t2⟩ := ih fuel (i + 1) spa1 (by omega) (by omega) s1
      refine ⟨spa', t1, ?_⟩
      rw [if_pos hz]
      refine s2.trans ?_
      rw [p1.1 hz, ← f1]
      exact t2
    · obtain ⟨spa1, s1, s2⟩ := d2 (f_L_areBuskers_c51 x len cnt fuel) (sI (g_nws x) i) 0 (nI (cnw x i))
      obtain ⟨spa', t1, t2⟩ := ih fuel (i + 1) spa1 (by omega) (by omega) s1
      refine ⟨spa', t1, ?_⟩
      rw [if_neg hz]
      refine s2.trans ?_
      rw [p1.2 hz, ← f1]
      exact t2
theorem aB374 (h : JV T x n w ln) (len cnt x1 x2 x3 x4 x5 : Int32) (spa : SV) : ∀ (m fuel i : Nat), n ≤ i + 1 + m → m < fuel → i + 1 < 100 → f_L_areBuskers_c374 x len cnt fuel x1 x2 x3 x4 x5 1 (nI (i + 1)) spa = f_L_areBuskers_c459 x len cnt x1 x2 x3 x4 x5 1 spa := by
  obtain ⟨hA, hc', hL, hO, hS, hK, hF, hI, hJ, hG, hGj, hE, hN, hD, hY, hZ⟩ := id h
  have hn8 := h.1.2
  intro m
  induction m with
  | zero =>
    intro fuel i hi hf h100
    obtain ⟨fuel, rfl⟩ : ∃ z, fuel = z + 1 := ⟨fuel - 1, by omega⟩
    unfold f_L_areBuskers_c374
    rw [if_neg n10, A_2 h, ob_s, os_rn, if_pos (nI_le (by omega) (by omega))]
  | succ m ih =>
    intro fuel i hi hf h100
    obtain ⟨fuel, rfl⟩ : ∃ z, fuel = z + 1 := ⟨fuel - 1, by omega⟩
    unfold f_L_areBuskers_c374
    rw [if_neg n10, A_2 h, ob_s, os_rn]
    by_cases hin : n ≤ i + 1
    · rw [if_pos (nI_le hin (by omega))]
    · have ih := ih fuel (i + 1) (by omega) (by omega) (by omega)
      obtain ⟨a, a1, a2, a3⟩ := R_ranked h (p := i) (by omega)
      obtain ⟨b, b1, b2, b3⟩ := R_ranked h (p := i + 1) (by omega)
      have hah := (ah_iff hF (o := a) (b := b) (by omega) (by omega)).mp (rank_next hF hn8 a1 b1 (by omega))
      have la := (wea_lt h a1).2
      have lb := (wea_lt h b1).2
      rw [if_neg (nI_ge (by omega) (by omega)), nI_pred, a3, ob_s, b3, ob_s]
      simp only [R_hat h a1, R_hat h b1, ob_n, os_rn]
      rcases hah with q | ⟨q, q2⟩
      · rw [if_pos (cmp_gt (by omega) (by omega) q .l), nI_1]
        exact ih
      · rw [if_neg (cmp_nle (by omega) (by omega) (by omega) .l), if_pos ((fcmp_eq0 (by omega) (by omega) .l).mpr q), if_neg (nI_ge q2 (by omega)), nI_1]
        exact ih
theorem areBuskers_1 (h : JV T x n w ln) {spa : SV} (hs : IV T spa) (len cnt : Int32) : ∃ spa', IV T spa' ∧ f_L_areBuskers x spa len cnt = some (1, spa') := by
  obtain ⟨hA, hc', hL, hO, hS, hK, hF, hI, hJ, hG, hGj, hE, hN, hD, hY, hZ⟩ := id h
  have hn8 := h.1.2
  have hw8 := qN_le hN
  obtain ⟨spa', s1, s2⟩ := aB51 h len cnt n 9 0 spa (by omega) (by omega) hs
  have s2 : f_L_areBuskers_c51 x len cnt 9 0 0 0 0 0 1 0 spa = f_L_areBuskers_c374 x len cnt 9 (nI (cnw x n)) (nI (cnp x n)) (nI (cns x n)) (nI (cnc x n)) (sI (g_nws x) n) 1 1 spa' := s2
  have s3 := aB374 h len cnt (nI (cnw x n)) (nI (cnp x n)) (nI (cns x n)) (nI (cnc x n)) (sI (g_nws x) n) spa' 8 9 0 (by omega) (by omega) (by omega)
  have s3 : f_L_areBuskers_c374 x len cnt 9 (nI (cnw x n)) (nI (cnp x n)) (nI (cns x n)) (nI (cnc x n)) (sI (g_nws x) n) 1 1 spa' = f_L_areBuskers_c459 x len cnt (nI (cnw x n)) (nI (cnp x n)) (nI (cns x n)) (nI (cnc x n)) (sI (g_nws x) n) 1 spa' := s3
  have q1 : cnw x n = w := by
    have e := cn_ext (p := fun b => decide (¬ g_pla x b = -1)) (n := n) (m := 8) hn8 (fun i h1 h2 => decide_eq_false (show ¬ ¬ g_pla x i = -1 from fun z => z (hE i h1 h2).2.1))
    exact e.symm.trans hN.2.2
  have q2 : cnp x n = cP (g_pit x) := by
    have e := cn_ext (p := fun b => decide (¬ g_pit x b = -1)) (n := n) (m := 8) hn8 (fun i h1 h2 => decide_eq_false (show ¬ ¬ g_pit x i = -1 from fun z => z (hE i h1 h2).1))
    exact e.symm
  have q3 : cns x n = cW x := by
    have e := cn_ext (p := fun b => decide (¬ Op.cmpValue (FP.fcmp (g_wea x b) FP.fconst1) .l < 0)) (n := n) (m := 8) hn8 (fun i h1 h2 => decide_eq_false (show ¬ ¬ Op.cmpValue (FP.fcmp (g_wea x i) FP.fconst1) .l < 0 from fun z => z (by
      rw [(hE i h1 h2).2.2.2.2.2.2]; decide)))
    exact e.symm
  have q4 : cnc x n = cC x := by
    have e := cn_ext (p := fun b => decide (¬ g_cas x b = -1)) (n := n) (m := 8) hn8 (fun i h1 h2 => decide_eq_false (show ¬ ¬ g_cas x i = -1 from fun z => z (hE i h1 h2).2.2.1))
    exact e.symm
  have q5 : sI (g_nws x) n = sI (g_nws x) 8 := (sI_ext hn8 (fun i h1 h2 => (hE i h1 h2).2.2.2.2.1)).symm
  have hhome := home_sum hn8 hE hD
  have hw' : cn (fun b => decide (¬ g_pla x b = -1)) 8 = w := hN.2.2
  have hhome : cH n x + w + cP (g_pit x) = n := by rw [hw'] at hhome; exact hhome
  refine ⟨spa', s1, ?_⟩
  unfold f_L_areBuskers
  rw [A_2 h, ob_s, os_rn, R_ranked_no h, ob_s, if_pos rfl, A_4 h, ob_s, os_rn, R_waiting_no h, ob_s, if_pos rfl, s2, s3]
  unfold f_L_areBuskers_c459
  rw [if_neg n10, A_4 h, ob_s, os_rn, if_pos (by rw [q1]), A_5, ob_s, os_rn, if_pos (by rw [q2]), A_6, ob_s, os_rn, if_pos (by rw [q3]), A_10, ob_s, os_rn, if_pos (by rw [q4]), A_11, ob_s, os_rn, if_pos q5, A_3 h, ob_s, os_rn, A_2 h, ob_s, os_rn, if_pos (by
    rw [q1, q2, nI_sub (by omega), nI_sub (by omega)]
    congr 1
    omega)]
end BUS
