/-! the states as one value each, the worlds of the ring and of the face -/
abbrev SV : Type := Int32 × Int32 × Int32 × Int32 × Int32 × (Nat → UInt32) × (Nat → Int32) × (Nat → Int32) × (Nat → Int32) × (Nat → Int32) × (Nat → Int32) × (Nat → Int32) × (Nat → Int32) × (Nat → Int32) × (Nat → Int32) × (Nat → UInt32) × (Nat → UInt32) × (Nat → UInt32)
def g_hour (σ : SV) : Int32 := σ.1
def g_crowd (σ : SV) : Int32 := σ.2.1
def g_buskers (σ : SV) : Int32 := σ.2.2.1
def g_answered (σ : SV) : Int32 := σ.2.2.2.1
def g_draws (σ : SV) : Int32 := σ.2.2.2.2.1
def g_lim (σ : SV) : Nat → UInt32 := σ.2.2.2.2.2.1
def g_cmp (σ : SV) : Nat → Int32 := σ.2.2.2.2.2.2.1
def g_sof (σ : SV) : Nat → Int32 := σ.2.2.2.2.2.2.2.1
def g_kin (σ : SV) : Nat → Int32 := σ.2.2.2.2.2.2.2.2.1
def g_lou (σ : SV) : Nat → Int32 := σ.2.2.2.2.2.2.2.2.2.1
def g_pit (σ : SV) : Nat → Int32 := σ.2.2.2.2.2.2.2.2.2.2.1
def g_pla (σ : SV) : Nat → Int32 := σ.2.2.2.2.2.2.2.2.2.2.2.1
def g_cas (σ : SV) : Nat → Int32 := σ.2.2.2.2.2.2.2.2.2.2.2.2.1
def g_hrs (σ : SV) : Nat → Int32 := σ.2.2.2.2.2.2.2.2.2.2.2.2.2.1
def g_nws (σ : SV) : Nat → Int32 := σ.2.2.2.2.2.2.2.2.2.2.2.2.2.2.1
def g_hat (σ : SV) : Nat → UInt32 := σ.2.2.2.2.2.2.2.2.2.2.2.2.2.2.2.1
def g_wea (σ : SV) : Nat → UInt32 := σ.2.2.2.2.2.2.2.2.2.2.2.2.2.2.2.2.1
def g_row (σ : SV) : Nat → UInt32 := σ.2.2.2.2.2.2.2.2.2.2.2.2.2.2.2.2.2
def s_hour (σ : SV) (x : Int32) : SV := (x, σ.2)
def s_crowd (σ : SV) (x : Int32) : SV := (σ.1, x, σ.2.2)
def s_buskers (σ : SV) (x : Int32) : SV := (σ.1, σ.2.1, x, σ.2.2.2)
def s_answered (σ : SV) (x : Int32) : SV := (σ.1, σ.2.1, σ.2.2.1, x, σ.2.2.2.2)
def s_draws (σ : SV) (x : Int32) : SV := (σ.1, σ.2.1, σ.2.2.1, σ.2.2.2.1, x, σ.2.2.2.2.2)
def s_lim (σ : SV) (x : Nat → UInt32) : SV := (σ.1, σ.2.1, σ.2.2.1, σ.2.2.2.1, σ.2.2.2.2.1, x, σ.2.2.2.2.2.2)
def s_cmp (σ : SV) (x : Nat → Int32) : SV := (σ.1, σ.2.1, σ.2.2.1, σ.2.2.2.1, σ.2.2.2.2.1, σ.2.2.2.2.2.1, x, σ.2.2.2.2.2.2.2)
def s_sof (σ : SV) (x : Nat → Int32) : SV := (σ.1, σ.2.1, σ.2.2.1, σ.2.2.2.1, σ.2.2.2.2.1, σ.2.2.2.2.2.1, σ.2.2.2.2.2.2.1, x, σ.2.2.2.2.2.2.2.2)
def s_kin (σ : SV) (x : Nat → Int32) : SV := (σ.1, σ.2.1, σ.2.2.1, σ.2.2.2.1, σ.2.2.2.2.1, σ.2.2.2.2.2.1, σ.2.2.2.2.2.2.1, σ.2.2.2.2.2.2.2.1, x, σ.2.2.2.2.2.2.2.2.2)
def s_lou (σ : SV) (x : Nat → Int32) : SV := (σ.1, σ.2.1, σ.2.2.1, σ.2.2.2.1, σ.2.2.2.2.1, σ.2.2.2.2.2.1, σ.2.2.2.2.2.2.1, σ.2.2.2.2.2.2.2.1, σ.2.2.2.2.2.2.2.2.1, x, σ.2.2.2.2.2.2.2.2.2.2)
def s_pit (σ : SV) (x : Nat → Int32) : SV := (σ.1, σ.2.1, σ.2.2.1, σ.2.2.2.1, σ.2.2.2.2.1, σ.2.2.2.2.2.1, σ.2.2.2.2.2.2.1, σ.2.2.2.2.2.2.2.1, σ.2.2.2.2.2.2.2.2.1, σ.2.2.2.2.2.2.2.2.2.1, x, σ.2.2.2.2.2.2.2.2.2.2.2)
def s_pla (σ : SV) (x : Nat → Int32) : SV := (σ.1, σ.2.1, σ.2.2.1, σ.2.2.2.1, σ.2.2.2.2.1, σ.2.2.2.2.2.1, σ.2.2.2.2.2.2.1, σ.2.2.2.2.2.2.2.1, σ.2.2.2.2.2.2.2.2.1, σ.2.2.2.2.2.2.2.2.2.1, σ.2.2.2.2.2.2.2.2.2.2.1, x, σ.2.2.2.2.2.2.2.2.2.2.2.2)
def s_cas (σ : SV) (x : Nat → Int32) : SV := (σ.1, σ.2.1, σ.2.2.1, σ.2.2.2.1, σ.2.2.2.2.1, σ.2.2.2.2.2.1, σ.2.2.2.2.2.2.1, σ.2.2.2.2.2.2.2.1, σ.2.2.2.2.2.2.2.2.1, σ.2.2.2.2.2.2.2.2.2.1, σ.2.2.2.2.2.2.2.2.2.2.1, σ.2.2.2.2.2.2.2.2.2.2.2.1, x, σ.2.2.2.2.2.2.2.2.2.2.2.2.2)
def s_hrs (σ : SV) (x : Nat → Int32) : SV := (σ.1, σ.2.1, σ.2.2.1, σ.2.2.2.1, σ.2.2.2.2.1, σ.2.2.2.2.2.1, σ.2.2.2.2.2.2.1, σ.2.2.2.2.2.2.2.1, σ.2.2.2.2.2.2.2.2.1, σ.2.2.2.2.2.2.2.2.2.1, σ.2.2.2.2.2.2.2.2.2.2.1, σ.2.2.2.2.2.2.2.2.2.2.2.1, σ.2.2.2.2.2.2.2.2.2.2.2.2.1, x, σ.2.2.2.2.2.2.2.2.2.2.2.2.2.2)
def s_nws (σ : SV) (x : Nat → Int32) : SV := (σ.1, σ.2.1, σ.2.2.1, σ.2.2.2.1, σ.2.2.2.2.1, σ.2.2.2.2.2.1, σ.2.2.2.2.2.2.1, σ.2.2.2.2.2.2.2.1, σ.2.2.2.2.2.2.2.2.1, σ.2.2.2.2.2.2.2.2.2.1, σ.2.2.2.2.2.2.2.2.2.2.1, σ.2.2.2.2.2.2.2.2.2.2.2.1, σ.2.2.2.2.2.2.2.2.2.2.2.2.1, σ.2.2.2.2.2.2.2.2.2.2.2.2.2.1, x, σ.2.2.2.2.2.2.2.2.2.2.2.2.2.2.2)
def s_hat (σ : SV) (x : Nat → UInt32) : SV := (σ.1, σ.2.1, σ.2.2.1, σ.2.2.2.1, σ.2.2.2.2.1, σ.2.2.2.2.2.1, σ.2.2.2.2.2.2.1, σ.2.2.2.2.2.2.2.1, σ.2.2.2.2.2.2.2.2.1, σ.2.2.2.2.2.2.2.2.2.1, σ.2.2.2.2.2.2.2.2.2.2.1, σ.2.2.2.2.2.2.2.2.2.2.2.1, σ.2.2.2.2.2.2.2.2.2.2.2.2.1, σ.2.2.2.2.2.2.2.2.2.2.2.2.2.1, σ.2.2.2.2.2.2.2.2.2.2.2.2.2.2.1, x, σ.2.2.2.2.2.2.2.2.2.2.2.2.2.2.2.2)
def s_wea (σ : SV) (x : Nat → UInt32) : SV := (σ.1, σ.2.1, σ.2.2.1, σ.2.2.2.1, σ.2.2.2.2.1, σ.2.2.2.2.2.1, σ.2.2.2.2.2.2.1, σ.2.2.2.2.2.2.2.1, σ.2.2.2.2.2.2.2.2.1, σ.2.2.2.2.2.2.2.2.2.1, σ.2.2.2.2.2.2.2.2.2.2.1, σ.2.2.2.2.2.2.2.2.2.2.2.1, σ.2.2.2.2.2.2.2.2.2.2.2.2.1, σ.2.2.2.2.2.2.2.2.2.2.2.2.2.1, σ.2.2.2.2.2.2.2.2.2.2.2.2.2.2.1, σ.2.2.2.2.2.2.2.2.2.2.2.2.2.2.2.1, x, σ.2.2.2.2.2.2.2.2.2.2.2.2.2.2.2.2.2)
def s_row (σ : SV) (x : Nat → UInt32) : SV := (σ.1, σ.2.1, σ.2.2.1, σ.2.2.2.1, σ.2.2.2.2.1, σ.2.2.2.2.2.1, σ.2.2.2.2.2.2.1, σ.2.2.2.2.2.2.2.1, σ.2.2.2.2.2.2.2.2.1, σ.2.2.2.2.2.2.2.2.2.1, σ.2.2.2.2.2.2.2.2.2.2.1, σ.2.2.2.2.2.2.2.2.2.2.2.1, σ.2.2.2.2.2.2.2.2.2.2.2.2.1, σ.2.2.2.2.2.2.2.2.2.2.2.2.2.1, σ.2.2.2.2.2.2.2.2.2.2.2.2.2.2.1, σ.2.2.2.2.2.2.2.2.2.2.2.2.2.2.2.1, σ.2.2.2.2.2.2.2.2.2.2.2.2.2.2.2.2.1, x)
/-- a copy of another state, its own row kept -/
def sv_cp (σ : SV) (r : Int32 × Int32 × Int32 × Int32 × Int32 × (Nat → UInt32) × (Nat → Int32) × (Nat → Int32) × (Nat → Int32) × (Nat → Int32) × (Nat → Int32) × (Nat → Int32) × (Nat → Int32) × (Nat → Int32) × (Nat → Int32) × (Nat → UInt32) × (Nat → UInt32)) : SV := (r.1, r.2.1, r.2.2.1, r.2.2.2.1, r.2.2.2.2.1, r.2.2.2.2.2.1, r.2.2.2.2.2.2.1, r.2.2.2.2.2.2.2.1, r.2.2.2.2.2.2.2.2.1, r.2.2.2.2.2.2.2.2.2.1, r.2.2.2.2.2.2.2.2.2.2.1, r.2.2.2.2.2.2.2.2.2.2.2.1, r.2.2.2.2.2.2.2.2.2.2.2.2.1, r.2.2.2.2.2.2.2.2.2.2.2.2.2.1, r.2.2.2.2.2.2.2.2.2.2.2.2.2.2.1, r.2.2.2.2.2.2.2.2.2.2.2.2.2.2.2.1, r.2.2.2.2.2.2.2.2.2.2.2.2.2.2.2.2, g_row σ)
def wSV (q : Nat → Nat) (cy : Nat → ClassId) (σ : SV) : va_W := wX3 q cy (g_hour σ) (g_crowd σ) (g_buskers σ) (g_answered σ) (g_draws σ) (g_lim σ) (g_cmp σ) (g_sof σ) (g_kin σ) (g_lou σ) (g_pit σ) (g_pla σ) (g_cas σ) (g_hrs σ) (g_nws σ) (g_hat σ) (g_wea σ) (g_row σ)
def srows (q : Nat → Nat → Nat) (cy : Nat → ClassId) (ring : Nat → SV) : va_W := (List.range 8).flatMap (fun i => wSV (q (6 + i)) cy (ring i))
def wX1 (q : Nat → Nat → Nat) (cy : Nat → ClassId) (next count : Int32) (ring : Nat → SV) : va_W :=
  [(q 4 0, .inr (2, [.ref (q 4 1), .int next, .int count])),
   (q 4 1, .inl (cy 3, 8, .inr (.inr (.inr (.inr (fun i => some (q (6 + i) 0)))))))] ++ srows q cy ring
def wX4 (q : Nat → Nat → Nat) (cy : Nat → ClassId) (isv te re de : Int32) (now spare snap : SV) (len : Int32) (sig : Nat → Int32) (next count : Int32) (ring : Nat → SV) : va_W :=
  [(q 0 0, .inr (5, [.ref (q 1 0), .ref (q 2 0), .ref (q 3 0), .int isv, .ref (q 4 0), .ref (q 5 0), .int te, .int re, .int de]))] ++ (wSV (q 1) cy now ++ (wSV (q 2) cy spare ++ (wSV (q 3) cy snap ++ (wX2 (q 5) cy len sig ++ wX1 q cy next count ring))))
theorem vaP_perm {D : va_G} {cl : List vw_C} {ws ws' : va_W} {H : Heap} (h : ws.Perm ws') (hP : va_P D cl ws H) : va_P D cl ws' H := fun k q hk => by
  obtain ⟨i, hi⟩ := List.getElem?_of_mem (h.mem_iff.mpr (List.mem_of_getElem? hk))
  exact hP i q hi
theorem vaP_l {D : va_G} {cl : List vw_C} {a b : va_W} {H : Heap} (hP : va_P D cl (a ++ b) H) : va_P D cl a H := fun k q hk => hP k q (by rw [List.getElem?_append_left (List.getElem?_eq_some_iff.mp hk).1]; exact hk)
theorem vaP_r {D : va_G} {cl : List vw_C} {a b : va_W} {H : Heap} (hP : va_P D cl (a ++ b) H) : va_P D cl b H := fun k q hk => hP (a.length + k) q (by rw [List.getElem?_append_right (by omega)]; rw [show a.length + k - a.length = k by omega]; exact hk)
theorem vaP_1 {D : va_G} {cl : List vw_C} {ws : va_W} {H : Heap} {x : Nat × va_E} (hP : va_P D cl ws H) (k : Nat) (hk : ws[k]? = some x) : va_P D cl [x] H := fun i q hi => by
  have h0 : i < 1 := (List.getElem?_eq_some_iff.mp hi).1
  rw [show i = 0 by omega] at hi
  cases hi
  exact hP k _ hk
theorem vaD_iff {A : Nat → Prop} {ws : va_W} : va_D A ws ↔ (ws.map (fun q => q.1)).Nodup ∧ ∀ q ∈ ws, A q.1 := by
  constructor
  · intro h
    refine ⟨?_, fun q hq => ?_⟩
    · rw [List.nodup_iff_pairwise_ne, List.pairwise_iff_getElem]
      intro i j hi hj hij e
      rw [List.length_map] at hi hj
      rw [List.getElem_map, List.getElem_map] at e
      have := h.1 i j ws[i] ws[j] (List.getElem?_eq_getElem hi) (List.getElem?_eq_getElem hj) e
      omega
    · obtain ⟨k, hk⟩ := List.getElem?_of_mem hq
      exact h.2 k q hk
  · rintro ⟨h1, h2⟩
    refine ⟨fun i j p q hi hj e => ?_, fun k q hk => h2 q (List.mem_of_getElem? hk)⟩
    rw [List.nodup_iff_pairwise_ne, List.pairwise_iff_getElem] at h1
    obtain ⟨hi1, hi2⟩ := List.getElem?_eq_some_iff.mp hi
    obtain ⟨hj1, hj2⟩ := List.getElem?_eq_some_iff.mp hj
    rcases Nat.lt_trichotomy i j with g | g | g
    · exact absurd (by rw [List.getElem_map, List.getElem_map, hi2, hj2]; exact e) (h1 i j (by rw [List.length_map]; exact hi1) (by rw [List.length_map]; exact hj1) g)
    · exact g
    · exact absurd (by rw [List.getElem_map, List.getElem_map, hi2, hj2]; exact e.symm) (h1 j i (by rw [List.length_map]; exact hj1) (by rw [List.length_map]; exact hi1) g)
theorem vaD_perm {A : Nat → Prop} {ws ws' : va_W} (h : ws.Perm ws') (hD : va_D A ws) : va_D A ws' := by
  rw [vaD_iff] at hD ⊢
  exact ⟨(h.map _).nodup_iff.mp hD.1, fun q hq => hD.2 q (h.mem_iff.mpr hq)⟩
theorem vaD_l {A : Nat → Prop} {a b : va_W} (hD : va_D A (a ++ b)) : va_D A a := by
  rw [vaD_iff] at hD ⊢
  rw [List.map_append, List.nodup_append] at hD
  exact ⟨hD.1.1, fun q hq => hD.2 q (List.mem_append_left _ hq)⟩
theorem vaD_r {A : Nat → Prop} {a b : va_W} (hD : va_D A (a ++ b)) : va_D A b := by
  rw [vaD_iff] at hD ⊢
  rw [List.map_append, List.nodup_append] at hD
  exact ⟨hD.1.2.1, fun q hq => hD.2 q (List.mem_append_right _ hq)⟩
/-- behind a call over a part of the world -/
theorem back_part {A : Nat → Prop} {D : va_G} {cl : List vw_C} {wc wr w1 : va_W} {H H1 H0 : Heap} {locs : List Loc} (hP : va_P D cl (wc ++ wr) H) (hD : va_D A (wc ++ wr)) (hS : va_S A H0 H locs) (hA : ∀ q, H0.size ≤ q → A q) (hk : ∀ q : Nat, q < H.size → ¬ va_A wc H.size q → H1[q]? = H[q]?) (hP1 : va_P D cl w1 H1) (hD1 : va_D (va_A wc H.size) w1) : va_P D cl (w1 ++ wr) H1 ∧ va_D A (w1 ++ wr) := by
  have hFc := fc_of (vaD_l hD) hS hA
  have apart : ∀ (k : Nat) (q : Nat × va_E), wr[k]? = some q → q.1 < H.size ∧ ¬ va_A wc H.size q.1 := by
    intro k q hq
    have hl := (vaP_r hP k q hq).lt
    refine ⟨hl, fun h => ?_⟩
    rcases h with ⟨k2, e, h⟩ | h
    · have h1 : (wc ++ wr)[k2]? = some (q.1, e) := by rw [List.getElem?_append_left (List.getElem?_eq_some_iff.mp h).1]; exact h
      have h2 : (wc ++ wr)[wc.length + k]? = some q := by rw [List.getElem?_append_right (by omega), show wc.length + k - wc.length = k by omega]; exact hq
      have := hD.1 k2 (wc.length + k) _ _ h1 h2 rfl
      have h3 := (List.getElem?_eq_some_iff.mp h).1
      omega
    · omega
  refine ⟨hP1.app (fun k q hq => (vaP_r hP k q hq).kept (hk q.1 (apart k q hq).1 (apart k q hq).2)), va_D.app (hD1.weaken (fun k q _ h => hFc q.1 h)) (vaD_r hD) (fun i j x y hx hy hxy => ?_)⟩
  exact (apart j y hy).2 (by rw [← hxy]; exact hD1.2 i x hx)
section PERM
variable (x n s p i h : va_W)
theorem pm_n : (x ++ (n ++ (s ++ (p ++ (i ++ h))))).Perm (n ++ (x ++ (s ++ (p ++ (i ++ h))))) := List.perm_append_comm_assoc _ _ _
theorem pm_s : (x ++ (n ++ (s ++ (p ++ (i ++ h))))).Perm (s ++ (x ++ (n ++ (p ++ (i ++ h))))) := ((List.perm_append_comm_assoc n s _).append_left x).trans (List.perm_append_comm_assoc _ _ _)
theorem pm_p : (x ++ (n ++ (s ++ (p ++ (i ++ h))))).Perm (p ++ (x ++ (n ++ (s ++ (i ++ h))))) := ((((List.perm_append_comm_assoc s p _).append_left n).trans (List.perm_append_comm_assoc _ _ _)).append_left x).trans (List.perm_append_comm_assoc _ _ _)
theorem pm_i : (x ++ (n ++ (s ++ (p ++ (i ++ h))))).Perm (i ++ (x ++ (n ++ (s ++ (p ++ h))))) := ((((((List.perm_append_comm_assoc p i _).append_left s).trans (List.perm_append_comm_assoc _ _ _)).append_left n).trans (List.perm_append_comm_assoc _ _ _)).append_left x).trans (List.perm_append_comm_assoc _ _ _)
theorem pm_h : (x ++ (n ++ (s ++ (p ++ (i ++ h))))).Perm (h ++ (x ++ (n ++ (s ++ (p ++ i))))) := by
  have e : x ++ (n ++ (s ++ (p ++ (i ++ h)))) = (x ++ (n ++ (s ++ (p ++ i)))) ++ h := by simp only [List.append_assoc]
  rw [e]
  exact List.perm_append_comm
theorem pm_sn : (x ++ (n ++ (s ++ (p ++ (i ++ h))))).Perm ((s ++ n) ++ (x ++ (p ++ (i ++ h)))) := by
  rw [List.append_assoc]
  exact (pm_s x n s p i h).trans ((List.perm_append_comm_assoc x n _).append_left s)
theorem pm_ns : (x ++ (n ++ (s ++ (p ++ (i ++ h))))).Perm ((n ++ s) ++ (x ++ (p ++ (i ++ h)))) := (pm_sn x n s p i h).trans (List.perm_append_comm.append_right _)
theorem pm_pn : (x ++ (n ++ (s ++ (p ++ (i ++ h))))).Perm ((p ++ n) ++ (x ++ (s ++ (i ++ h)))) := by
  rw [List.append_assoc]
  exact (pm_p x n s p i h).trans ((List.perm_append_comm_assoc x n _).append_left p)
theorem pm_np : (x ++ (n ++ (s ++ (p ++ (i ++ h))))).Perm ((n ++ p) ++ (x ++ (s ++ (i ++ h)))) := (pm_pn x n s p i h).trans (List.perm_append_comm.append_right _)
theorem pm_hn : (x ++ (n ++ (s ++ (p ++ (i ++ h))))).Perm ((h ++ n) ++ (x ++ (s ++ (p ++ i)))) := by
  rw [List.append_assoc]
  exact (pm_h x n s p i h).trans ((List.perm_append_comm_assoc x n _).append_left h)
theorem pm_hs : (x ++ (n ++ (s ++ (p ++ (i ++ h))))).Perm ((h ++ s) ++ (x ++ (n ++ (p ++ i)))) := by
  rw [List.append_assoc]
  refine (pm_h x n s p i h).trans (List.Perm.append_left h ?_)
  exact ((List.perm_append_comm_assoc n s _).append_left x).trans (List.perm_append_comm_assoc _ _ _)
end PERM
/-- the ring without its place k -/
def srowX (q : Nat → Nat → Nat) (cy : Nat → ClassId) (ring : Nat → SV) (k : Nat) : va_W := ((List.range 8).filter (fun i => decide (¬ i = k))).flatMap (fun i => wSV (q (6 + i)) cy (ring i))
theorem srow_split {q : Nat → Nat → Nat} {cy : Nat → ClassId} {ring : Nat → SV} {k : Nat} (hk : k < 8) : (srows q cy ring).Perm (wSV (q (6 + k)) cy (ring k) ++ srowX q cy ring k) := by
  have h : (List.range 8).Perm (k :: (List.range 8).filter (fun i => decide (¬ i = k))) := by
    rcases (show k = 0 ∨ k = 1 ∨ k = 2 ∨ k = 3 ∨ k = 4 ∨ k = 5 ∨ k = 6 ∨ k = 7 by omega) with rfl | rfl | rfl | rfl | rfl | rfl | rfl | rfl <;> decide
  exact h.flatMap_right _
theorem fm_congr {l : List Nat} {f g : Nat → va_W} (h : ∀ a ∈ l, f a = g a) : l.flatMap f = l.flatMap g := by
  rw [List.flatMap_def, List.flatMap_def, List.map_congr_left h]
theorem srowX_upd {q : Nat → Nat → Nat} {cy : Nat → ClassId} {ring : Nat → SV} {k : Nat} {v : SV} : srowX q cy (vf_upd ring k v) k = srowX q cy ring k := by
  unfold srowX
  refine fm_congr (fun i hi => ?_)
  have h := of_decide_eq_true (List.mem_filter.mp hi).2
  simp only [vf_upd, if_neg h]
def rK (q : Nat → Nat → Nat) (cy : Nat → ClassId) (next count : Int32) (ring : Nat → SV) (k : Nat) : va_W := [(q 4 0, .inr (2, [.ref (q 4 1), .int next, .int count])), (q 4 1, .inl (cy 3, 8, .inr (.inr (.inr (.inr (fun i => some (q (6 + i) 0)))))))] ++ srowX q cy ring k
theorem pk_1 {q : Nat → Nat → Nat} {cy : Nat → ClassId} {next count : Int32} {ring : Nat → SV} {qs : Nat → Nat} {σ : SV} {k : Nat} (hk : k < 8) : (wX1 q cy next count ring ++ wSV qs cy σ).Perm ((wSV (q (6 + k)) cy (ring k) ++ wSV qs cy σ) ++ rK q cy next count ring k) := by
  unfold wX1 rK
  refine ((((srow_split hk).append_left _).append_right _)).trans ?_
  generalize wSV (q (6 + k)) cy (ring k) = a
  generalize srowX q cy ring k = b
  generalize wSV qs cy σ = d
  generalize ([(q 4 0, .inr (2, [.ref (q 4 1), .int next, .int count])), (q 4 1, .inl (cy 3, 8, .inr (.inr (.inr (.inr (fun i => some (q (6 + i) 0)))))))] : va_W) = x
  have e1 : (x ++ (a ++ b)) ++ d = x ++ (a ++ (b ++ d)) := by simp only [List.append_assoc]
  have e2 : (a ++ d) ++ (x ++ b) = a ++ (d ++ (x ++ b)) := by simp only [List.append_assoc]
  rw [e1, e2]
  refine (List.perm_append_comm_assoc x a _).trans (List.Perm.append_left a ?_)
  rw [← List.append_assoc]
  exact List.perm_append_comm
theorem pk_2 {q : Nat → Nat → Nat} {cy : Nat → ClassId} {next count : Int32} {ring : Nat → SV} {qs : Nat → Nat} {σ v : SV} {k : Nat} (hk : k < 8) : ((wSV (q (6 + k)) cy v ++ wSV qs cy σ) ++ rK q cy next count ring k).Perm (wX1 q cy next count (vf_upd ring k v) ++ wSV qs cy σ) := by
  have h := (pk_1 (q := q) (cy := cy) (next := next) (count := count) (ring := vf_upd ring k v) (qs := qs) (σ := σ) hk).symm
  unfold rK at h ⊢
  rw [srowX_upd, show vf_upd ring k v k = v by simp [vf_upd]] at h
  exact h
theorem pk_3 {q : Nat → Nat → Nat} {cy : Nat → ClassId} {next count : Int32} {ring : Nat → SV} {qs : Nat → Nat} {σ : SV} {k : Nat} (hk : k < 8) : (wX1 q cy next count ring ++ wSV qs cy σ).Perm ((wSV qs cy σ ++ wSV (q (6 + k)) cy (ring k)) ++ rK q cy next count ring k) := (pk_1 hk).trans (List.perm_append_comm.append_right _)
theorem vf_same {ring : Nat → SV} {k : Nat} : vf_upd ring k (ring k) = ring := by
  funext j
  unfold vf_upd
  by_cases h : j = k
  · rw [if_pos h, h]
  · rw [if_neg h]
section CRF
variable {p : Program} {l : Launch} {e : Env} {R : Room} {s : State} {m : MethodId} {args : Array Value} {below : List Frame} {meth : Method} {c : Code} {H : Heap} {locs : List Loc} {cells slots : Nat} {Q : State → Prop}
variable {cc : ByteArray} {pc : Nat} {ls : Array Slot} {rest st0 : List Value} {D : va_G} {A : Nat → Prop} {ws wsn wc wr ws' : va_W} {cy : Nat → ClassId} {own : String}
variable {is : List Nat} {y : MethodName} {bytes : ByteArray} {maxL n nL idx : Nat} {ret : Option FieldType} {rm : Room} {b ci : Nat} {As fs : List Value}
theorem crf_vi {x : Int32} (CX : Cx p s m c args cc own) (hml : c.maxLocals = nL) (hM : Met l y (.code y bytes maxL ret :: lw_all) rm (va_Pc (.ref b :: As) (sW D cy wc H.size)) (qI D ws' x (va_A wc H.size)) 0 0 (va_A wc H.size)) (hk : lkV own idx y bytes maxL ret n is = true) (hrc : rm.cells = 0) (hrs : rm.slots = 0) (hR : rm.frames + 1 ≤ R.frames ∧ 8 + (maxL + 11) + rm.locals ≤ R.locals) (hP : va_P D vwCl ws H) (hD : va_D A ws) (hS : va_S A s.heap H locs) (hA : ∀ q, s.heap.size ≤ q → A q) (hK : va_K D vwCl (tyA cy) s) (hN : nst s) (hp : ws.Perm (wc ++ wr)) (hp2 : (ws' ++ wr).Perm wsn) (q0 : Nat) (he : wc[q0]? = some (b, .inr (ci, fs))) (hc : (vwCl[ci]?).map (fun r => r.1) = some y.cls) (hn : As.length = n) (hsz : ls.size = nL) (hst : st0 = As.reverse ++ .ref b :: rest) (hW : (rest.map fun v => v.category).sum ≤ 8) (hcs : cells ≤ R.cells ∧ slots ≤ R.slots) (hdg : decode cc pc = .ok (.invokevirtual idx, 3)) (kk : ∀ (H1 : Heap) (locs1 : List Loc), va_P D vwCl wsn H1 → va_D A wsn → va_S A s.heap H1 locs1 → W p l e R s m args below meth c H1 locs1 cells slots Q (F0 m (pc + 3) ls (.int x :: rest))) : W p l e R s m args below meth c H locs cells slots Q (F0 m pc ls st0) := by
  have hP9 := vaP_perm hp hP
  have hD9 := vaD_perm hp hD
  have hFc := fc_of (vaD_l hD9) hS hA
  exact va_calli (va_runV (As := As) (rest := rest) ⟨CX.1, CX.2.1, hml, CX.2.2.2, CX.2.2.1⟩ hM (lkV_cw hk CX.2.2.1 hrc hrs hR) ⟨sW_blind _ _ _ _ _, rcv_at hK (vaP_l hP9) q0 he hc, sW_at (vaP_l hP9) (vaD_l hD9) hK hN⟩ rfl hn hsz hst (lv_room hW) hdg hcs) hS (fun q _ h => hFc q h) hFc (fun r u t H1 locs1 ht hvm hw hB hz1 hk1 hS1 => by
    rw [hw]
    obtain ⟨g1, g2⟩ := back_part hP9 hD9 hS hA hk1 (by rw [← ht]; exact hB.1) hB.2
    exact kk H1 locs1 (vaP_perm hp2 g1) (vaD_perm hp2 g2) hS1)
theorem crf_vf {x : UInt32} (CX : Cx p s m c args cc own) (hml : c.maxLocals = nL) (hM : Met l y (.code y bytes maxL ret :: lw_all) rm (va_Pc (.ref b :: As) (sW D cy wc H.size)) (qF D ws' x (va_A wc H.size)) 0 0 (va_A wc H.size)) (hk : lkV own idx y bytes maxL ret n is = true) (hrc : rm.cells = 0) (hrs : rm.slots = 0) (hR : rm.frames + 1 ≤ R.frames ∧ 8 + (maxL + 11) + rm.locals ≤ R.locals) (hP : va_P D vwCl ws H) (hD : va_D A ws) (hS : va_S A s.heap H locs) (hA : ∀ q, s.heap.size ≤ q → A q) (hK : va_K D vwCl (tyA cy) s) (hN : nst s) (hp : ws.Perm (wc ++ wr)) (hp2 : (ws' ++ wr).Perm wsn) (q0 : Nat) (he : wc[q0]? = some (b, .inr (ci, fs))) (hc : (vwCl[ci]?).map (fun r => r.1) = some y.cls) (hn : As.length = n) (hsz : ls.size = nL) (hst : st0 = As.reverse ++ .ref b :: rest) (hW : (rest.map fun v => v.category).sum ≤ 8) (hcs : cells ≤ R.cells ∧ slots ≤ R.slots) (hdg : decode cc pc = .ok (.invokevirtual idx, 3)) (kk : ∀ (H1 : Heap) (locs1 : List Loc), va_P D vwCl wsn H1 → va_D A wsn → va_S A s.heap H1 locs1 → W p l e R s m args below meth c H1 locs1 cells slots Q (F0 m (pc + 3) ls (.float x :: rest))) : W p l e R s m args below meth c H locs cells slots Q (F0 m pc ls st0) := by
  have hP9 := vaP_perm hp hP
  have hD9 := vaD_perm hp hD
  have hFc := fc_of (vaD_l hD9) hS hA
  exact va_callf (va_runV (As := As) (rest := rest) ⟨CX.1, CX.2.1, hml, CX.2.2.2, CX.2.2.1⟩ hM (lkV_cw hk CX.2.2.1 hrc hrs hR) ⟨sW_blind _ _ _ _ _, rcv_at hK (vaP_l hP9) q0 he hc, sW_at (vaP_l hP9) (vaD_l hD9) hK hN⟩ rfl hn hsz hst (lv_room hW) hdg hcs) hS (fun q _ h => hFc q h) hFc (fun r u t H1 locs1 ht hvm hw hB hz1 hk1 hS1 => by
    rw [hw]
    obtain ⟨g1, g2⟩ := back_part hP9 hD9 hS hA hk1 (by rw [← ht]; exact hB.1) hB.2
    exact kk H1 locs1 (vaP_perm hp2 g1) (vaD_perm hp2 g2) hS1)
theorem crf_vl {x : Int64} (CX : Cx p s m c args cc own) (hml : c.maxLocals = nL) (hM : Met l y (.code y bytes maxL ret :: lw_all) rm (va_Pc (.ref b :: As) (sW D cy wc H.size)) (qL D ws' x (va_A wc H.size)) 0 0 (va_A wc H.size)) (hk : lkV own idx y bytes maxL ret n is = true) (hrc : rm.cells = 0) (hrs : rm.slots = 0) (hR : rm.frames + 1 ≤ R.frames ∧ 8 + (maxL + 11) + rm.locals ≤ R.locals) (hP : va_P D vwCl ws H) (hD : va_D A ws) (hS : va_S A s.heap H locs) (hA : ∀ q, s.heap.size ≤ q → A q) (hK : va_K D vwCl (tyA cy) s) (hN : nst s) (hp : ws.Perm (wc ++ wr)) (hp2 : (ws' ++ wr).Perm wsn) (q0 : Nat) (he : wc[q0]? = some (b, .inr (ci, fs))) (hc : (vwCl[ci]?).map (fun r => r.1) = some y.cls) (hn : As.length = n) (hsz : ls.size = nL) (hst : st0 = As.reverse ++ .ref b :: rest) (hW : (rest.map fun v => v.category).sum ≤ 8) (hcs : cells ≤ R.cells ∧ slots ≤ R.slots) (hdg : decode cc pc = .ok (.invokevirtual idx, 3)) (kk : ∀ (H1 : Heap) (locs1 : List Loc), va_P D vwCl wsn H1 → va_D A wsn → va_S A s.heap H1 locs1 → W p l e R s m args below meth c H1 locs1 cells slots Q (F0 m (pc + 3) ls (.long x :: rest))) : W p l e R s m args below meth c H locs cells slots Q (F0 m pc ls st0) := by
  have hP9 := vaP_perm hp hP
  have hD9 := vaD_perm hp hD
  have hFc := fc_of (vaD_l hD9) hS hA
  exact va_calll (va_runV (As := As) (rest := rest) ⟨CX.1, CX.2.1, hml, CX.2.2.2, CX.2.2.1⟩ hM (lkV_cw hk CX.2.2.1 hrc hrs hR) ⟨sW_blind _ _ _ _ _, rcv_at hK (vaP_l hP9) q0 he hc, sW_at (vaP_l hP9) (vaD_l hD9) hK hN⟩ rfl hn hsz hst (lv_room hW) hdg hcs) hS (fun q _ h => hFc q h) hFc (fun r u t H1 locs1 ht hvm hw hB hz1 hk1 hS1 => by
    rw [hw]
    obtain ⟨g1, g2⟩ := back_part hP9 hD9 hS hA hk1 (by rw [← ht]; exact hB.1) hB.2
    exact kk H1 locs1 (vaP_perm hp2 g1) (vaD_perm hp2 g2) hS1)
theorem crf_vv (CX : Cx p s m c args cc own) (hml : c.maxLocals = nL) (hM : Met l y (.code y bytes maxL ret :: lw_all) rm (va_Pc (.ref b :: As) (sW D cy wc H.size)) (qV D ws' (va_A wc H.size)) 0 0 (va_A wc H.size)) (hk : lkV own idx y bytes maxL ret n is = true) (hrc : rm.cells = 0) (hrs : rm.slots = 0) (hR : rm.frames + 1 ≤ R.frames ∧ 8 + (maxL + 11) + rm.locals ≤ R.locals) (hP : va_P D vwCl ws H) (hD : va_D A ws) (hS : va_S A s.heap H locs) (hA : ∀ q, s.heap.size ≤ q → A q) (hK : va_K D vwCl (tyA cy) s) (hN : nst s) (hp : ws.Perm (wc ++ wr)) (hp2 : (ws' ++ wr).Perm wsn) (q0 : Nat) (he : wc[q0]? = some (b, .inr (ci, fs))) (hc : (vwCl[ci]?).map (fun r => r.1) = some y.cls) (hn : As.length = n) (hsz : ls.size = nL) (hst : st0 = As.reverse ++ .ref b :: rest) (hW : (rest.map fun v => v.category).sum ≤ 8) (hcs : cells ≤ R.cells ∧ slots ≤ R.slots) (hdg : decode cc pc = .ok (.invokevirtual idx, 3)) (kk : ∀ (H1 : Heap) (locs1 : List Loc), va_P D vwCl wsn H1 → va_D A wsn → va_S A s.heap H1 locs1 → W p l e R s m args below meth c H1 locs1 cells slots Q (F0 m (pc + 3) ls (rest))) : W p l e R s m args below meth c H locs cells slots Q (F0 m pc ls st0) := by
  have hP9 := vaP_perm hp hP
  have hD9 := vaD_perm hp hD
  have hFc := fc_of (vaD_l hD9) hS hA
  exact va_callv (va_runV (As := As) (rest := rest) ⟨CX.1, CX.2.1, hml, CX.2.2.2, CX.2.2.1⟩ hM (lkV_cw hk CX.2.2.1 hrc hrs hR) ⟨sW_blind _ _ _ _ _, rcv_at hK (vaP_l hP9) q0 he hc, sW_at (vaP_l hP9) (vaD_l hD9) hK hN⟩ rfl hn hsz hst (lv_room hW) hdg hcs) hS (fun q _ h => hFc q h) hFc (fun u t H1 locs1 ht hvm hw hB hz1 hk1 hS1 => by
    skip
    obtain ⟨g1, g2⟩ := back_part hP9 hD9 hS hA hk1 (by rw [← ht]; exact hB.1) hB.2
    exact kk H1 locs1 (vaP_perm hp2 g1) (vaD_perm hp2 g2) hS1)
end CRF
