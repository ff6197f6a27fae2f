/-! constructors: History, the face -/
def sv0 : SV := (0, 10, 0, 0, 0, lim0, z0, z0, z0, z0, pm0, pm0, pm0, z0, z0, fz0, fz0, fz0)
def W1_ (cy : Nat → ClassId) (q : Nat → Nat → Nat) : va_W := wX1 q cy 0 0 (fun _ => sv0)
def W4_ (cy : Nat → ClassId) (q : Nat → Nat → Nat) : va_W := wX4 q cy 0 (-1) 0 0 sv0 sv0 sv0 0 z0 0 0 (fun _ => sv0)
def fr (Ls : List (Nat → Nat)) : Nat → Option Nat := fun j => (Ls[j]?).map (fun q => q 0)
theorem fr_app (Ls : List (Nat → Nat)) (q : Nat → Nat) {i : Nat} (hi : Ls.length = i) : va_up (fr Ls) i (some (q 0)) = fr (Ls ++ [q]) := by
  subst hi
  funext j
  unfold va_up fr
  by_cases e : j = Ls.length
  · subst e
    simp
  · rw [if_neg e]
    by_cases h : j < Ls.length
    · rw [List.getElem?_append_left h]
    · rw [List.getElem?_eq_none (by omega), List.getElem?_eq_none (by rw [List.length_append]; simp only [List.length_singleton]; omega)]
theorem len8 {α : Type} (L : List α) (h : L.length = 8) : ∃ a0 a1 a2 a3 a4 a5 a6 a7 : α, L = [a0, a1, a2, a3, a4, a5, a6, a7] := by
  rcases L with _ | ⟨a0, L⟩
  · simp at h
  rcases L with _ | ⟨a1, L⟩
  · simp at h
  rcases L with _ | ⟨a2, L⟩
  · simp at h
  rcases L with _ | ⟨a3, L⟩
  · simp at h
  rcases L with _ | ⟨a4, L⟩
  · simp at h
  rcases L with _ | ⟨a5, L⟩
  · simp at h
  rcases L with _ | ⟨a6, L⟩
  · simp at h
  rcases L with _ | ⟨a7, L⟩
  · simp at h
  rcases L with _ | ⟨a8, L⟩
  · exact ⟨a0, a1, a2, a3, a4, a5, a6, a7, rfl⟩
  · simp at h
theorem arrV_cg {cA : ClassId} {n : Nat} {f g : Nat → Value} (h : ∀ j, j < n → f j = g j) : arrV cA n f = arrV cA n g := by
  unfold arrV
  congr 1
  congr 1
  funext j
  exact h j.val j.isLt
theorem vaP_aq {D : va_G} {cl : List vw_C} {ws : va_W} {H : Heap} {k a n : Nat} {cA : ClassId} {f g : Nat → Option Nat} (hP : va_P D cl ws H) (hk : ws[k]? = some (a, .inl (cA, n, .inr (.inr (.inr (.inr f)))))) (h : ∀ j, j < n → f j = g j) : va_P D cl (ws.set k (a, .inl (cA, n, .inr (.inr (.inr (.inr g)))))) H := by
  intro i x hx
  rw [List.getElem?_set] at hx
  by_cases e : k = i
  · subst e
    rw [if_pos rfl] at hx
    have hlt := (List.getElem?_eq_some_iff.mp hk).1
    rw [if_pos hlt] at hx
    cases hx
    have h1 : H[a]? = some (vp_cell cA (n, .inr (.inr (.inr (.inr f))))) := hP k _ hk
    show H[a]? = some (vp_cell cA (n, .inr (.inr (.inr (.inr g)))))
    rw [h1, vp_cell_q, vp_cell_q]
    exact congrArg some (arrV_cg (fun j hj => by rw [h j hj]))
  · rw [if_neg e] at hx
    exact hP i x hx
theorem flat_app (pre : va_W) (Ls : List (Nat → Nat)) (q : Nat → Nat) (W : (Nat → Nat) → va_W) : (pre ++ Ls.flatMap W) ++ W q = pre ++ (Ls ++ [q]).flatMap W := by
  rw [List.flatMap_append, List.flatMap_singleton, List.append_assoc]
theorem vaD_set {A : Nat → Prop} {ws : va_W} {k a : Nat} {e0 e : va_E} (hD : va_D A ws) (h : ws[k]? = some (a, e0)) : va_D A (ws.set k (a, e)) := va_D.set hD h
theorem wX1_cg {q q' : Nat → Nat → Nat} {cy : Nat → ClassId} {n c : Int32} {r : Nat → SV} (h4 : q 4 = q' 4) (h6 : ∀ i, q (6 + i) = q' (6 + i)) : wX1 q cy n c r = wX1 q' cy n c r := by
  have e : (fun i => q (6 + i)) = (fun i => q' (6 + i)) := funext h6
  unfold wX1 srows
  simp only [h4, h6]
def qq (b : Nat) (q1 q2 q3 : Nat → Nat) (q4 : Nat → Nat → Nat) (q5 : Nat → Nat) : Nat → Nat → Nat := fun k => if k = 0 then (fun _ => b) else if k = 1 then q1 else if k = 2 then q2 else if k = 3 then q3 else if k = 5 then q5 else q4 k

theorem lk_RX1_24 : lkI RX1 24 yX3_init cX3_init 1 [151, 59, 25, 60] = true := by decide +kernel
theorem lk_RX4_9 : lkI RX4 9 yX3_init cX3_init 1 [58, 59, 25, 60] = true := by decide +kernel
theorem lk_RX4_28 : lkI RX4 28 yX1_init cX1_init 2 [145, 146, 27, 147] = true := by decide +kernel
theorem lk_RL_258 : lkI RL 258 yX4_init cX4_init 1 [50, 51, 24, 52] = true := by decide +kernel
theorem lk_RX4_35 : lkJ yX2_init cX2_init 1 [166, 28, 167] = true := by decide +kernel
set_option maxHeartbeats 4000000 in
set_option maxRecDepth 100000 in
theorem c_X1_init (l : Launch) (D : va_G) (cy : Nat → ClassId) (b sz : Nat) : Met l yX1_init (.code yX1_init cX1_init 2 none :: lw_all) ⟨3, 113, 1000, 55⟩ (va_Pc [.ref b] (sZ D cy [(b, .inr (2, [.null, .int 0, .int 0]))] sz)) (qU D (fun q : Nat → Nat → Nat => q 4 0) b (W1_ cy) (va_A [(b, .inr (2, [.null, .int 0, .int 0]))] sz)) 113 1000 (va_A [(b, .inr (2, [.null, .int 0, .int 0]))] sz) := by
  refine mk_ct (Qc := qU D (fun q : Nat → Nat → Nat => q 4 0) b (W1_ cy)) (Rc := RX1) (by decide +kernel) rfl rfl (Nat.le_of_ble_eq_true rfl) ?_
  intro p e s m args below meth c ls A CX hml hr hlk hin hK hN hE hP hD hS hA hl
  have hx := CX.1
  have hb := CX.2.1
  have hRM : (⟨2, 13, 106, 35⟩ : Room).frames + 1 ≤ (⟨3, 113, 1000, 55⟩ : Room).frames ∧ 8 + (1 + 11) + (⟨2, 13, 106, 35⟩ : Room).locals ≤ (⟨3, 113, 1000, 55⟩ : Room).locals := ⟨Nat.le_of_ble_eq_true rfl, Nat.le_of_ble_eq_true rfl⟩
  have K : ∀ (n i : Nat) (q1 : Nat) (Ls : List (Nat → Nat)) (H : Heap) (locs : List Loc) (ls : Array Slot), i + n = 8 → Ls.length = i → lv_has ls 2 [(0, .ref b), (1, .int (nI i))] → va_P D vwCl ([(b, .inr (2, [.ref q1, .int 0, .int 0])), (q1, .inl (cy 3, 8, .inr (.inr (.inr (.inr (fr Ls))))))] ++ Ls.flatMap (W3 cy)) H → va_D A ([(b, .inr (2, [.ref q1, .int 0, .int 0])), (q1, .inl (cy 3, 8, .inr (.inr (.inr (.inr (fr Ls))))))] ++ Ls.flatMap (W3 cy)) → va_S A s.heap H locs → W p l e ⟨3, 113, 1000, 55⟩ s m args below meth c H locs (1 + 14 * i) (8 + 124 * i) (MQ below (qU D (fun q : Nat → Nat → Nat => q 4 0) b (W1_ cy) A) args s 113 1000 A) (F0 m 25 ls []) := by
    intro n
    induction n with
    | zero =>
      intro i q1 Ls H locs ls hi hL hl hP hD hS
      obtain rfl : i = 8 := by omega
      refine lv_iload_n hx hb (dg ddX1_init 14 rfl) rfl (lv_at hl 1 rfl) ?_
      refine lv_bipush (v := 8) hx hb (dg ddX1_init 15 rfl) (by decide) ?_
      refine lv_icmp_ge (tgt := 50) hx hb (dg ddX1_init 16 rfl) (by decide) (fun h1 => ?_) (fun h1 => absurd (by decide) h1)
      refine W.widen (k := 113) (n := 1000) (by omega) (by omega) ?_
      obtain ⟨a0, a1, a2, a3, a4, a5, a6, a7, rfl⟩ := len8 Ls hL
      have hP := vaP_aq (k := 1) (g := fun i => some ((([a0, a1, a2, a3, a4, a5, a6, a7] : List (Nat → Nat))[i]?).getD a0 0)) hP rfl (fun j hj => by
        rcases (show j = 0 ∨ j = 1 ∨ j = 2 ∨ j = 3 ∨ j = 4 ∨ j = 5 ∨ j = 6 ∨ j = 7 by omega) with rfl | rfl | rfl | rfl | rfl | rfl | rfl | rfl <;> rfl)
      have hD := vaD_set (k := 1) (e := .inl (cy 3, 8, .inr (.inr (.inr (.inr (fun i => some ((([a0, a1, a2, a3, a4, a5, a6, a7] : List (Nat → Nat))[i]?).getD a0 0))))))) hD rfl
      obtain ⟨q, hq⟩ : ∃ q : Nat → Nat → Nat, q = fun k => if k = 4 then (fun j => if j = 0 then b else q1) else ((([a0, a1, a2, a3, a4, a5, a6, a7] : List (Nat → Nat))[k - 6]?).getD a0) := ⟨_, rfl⟩
      have h6 : ∀ i, q (6 + i) = ((([a0, a1, a2, a3, a4, a5, a6, a7] : List (Nat → Nat))[i]?).getD a0) := fun i => by rw [hq]; show (if 6 + i = 4 then _ else _) = _; rw [if_neg (by omega), Nat.add_sub_cancel_left]
      have h40 : q 4 0 = b := by rw [hq]; rfl
      have h41 : q 4 1 = q1 := by rw [hq]; rfl
      have e : W1_ cy q = [(b, .inr (2, [.ref q1, .int 0, .int 0])), (q1, .inl (cy 3, 8, .inr (.inr (.inr (.inr (fun i => some ((([a0, a1, a2, a3, a4, a5, a6, a7] : List (Nat → Nat))[i]?).getD a0 0)))))))] ++ ([a0, a1, a2, a3, a4, a5, a6, a7] : List (Nat → Nat)).flatMap (W3 cy) := by
        unfold W1_ wX1 srows
        simp only [h40, h41, h6]
        rfl
      exact e_ct (g := fun q : Nat → Nat → Nat => q 4 0) (W1 := W1_ cy) CX hr hlk q h40 (by rw [e]; exact hP) (by rw [e]; exact hD) hS (dg ddX1_init 26 rfl)
    | succ n ih =>
      intro i q1 Ls H locs ls hi hL hl hP hD hS
      refine lv_iload_n hx hb (dg ddX1_init 14 rfl) rfl (lv_at hl 1 rfl) ?_
      refine lv_bipush (v := 8) hx hb (dg ddX1_init 15 rfl) (by decide) ?_
      refine lv_icmp_ge (tgt := 50) hx hb (dg ddX1_init 16 rfl) (by decide) (fun h1 => absurd (show nI 8 ≤ nI i from h1) (nI_ge (by omega) (by omega))) (fun h1 => ?_)
      refine lv_aload_n hx hb (dg ddX1_init 17 rfl) rfl (lv_at hl 0 rfl) ?_
      refine gf_RX1_11 CX hK hP 0 rfl rfl (dg ddX1_init 18 rfl) ?_
      refine lv_iload_n hx hb (dg ddX1_init 19 rfl) rfl (lv_at hl 1 rfl) ?_
      refine nw_RX1_9 CX hK hP hD hS hA (show 1 + 14 * i + 1 ≤ 113 by omega) (show 8 + 124 * i + 18 ≤ 1000 by omega) (dg ddX1_init 20 rfl) (fun q9 H hP hD hS => ?_)
      refine lv_dup hx hb (dg ddX1_init 21 rfl) rfl ?_
      refine cr_ct (rest := [.ref q9, .int (nI i), .ref q1]) CX hml (c_X3_init l D cy q9 H.size) rfl lk_RX1_24 rfl rfl hRM hP hD hS hA hK hN hE hl.1 (Nat.le_of_ble_eq_true rfl) ⟨show 1 + 14 * i + 1 + 13 ≤ 113 by omega, show 8 + 124 * i + 18 + 106 ≤ 1000 by omega⟩ (dg ddX1_init 22 rfl) (fun q H locs hq hP hD hS => ?_)
      obtain ⟨k, hk⟩ : ∃ k, ((([(b, .inr (2, [.ref q1, .int 0, .int 0])), (q1, .inl (cy 3, 8, .inr (.inr (.inr (.inr (fr Ls))))))] : va_W) ++ Ls.flatMap (W3 cy)) ++ W3 cy q : va_W)[k]? = some ((q 0, .inr (4, [.int 0, .int 10, .int 0, .int 0, .int 0, .ref (q 1), .ref (q 2), .ref (q 3), .ref (q 4), .ref (q 5), .ref (q 6), .ref (q 7), .ref (q 8), .ref (q 9), .ref (q 10), .ref (q 11), .ref (q 12), .ref (q 13)])) : Nat × va_E) := List.getElem?_of_mem (List.mem_append_right _ List.mem_cons_self)
      have hq : q 0 = q9 := hq
      rw [hq] at hk
      refine va_astq hx hb hK hP hD hS 1 3 k 4 (r := (RX3, TX3, 18)) rfl rfl hk rfl (i := nI i) (inb_in (inbN (by omega) (by decide))) (dg ddX1_init 23 rfl) (fun H locs hP hD hS => ?_)
      rw [clN (by omega), ← hq, fr_app Ls q hL] at hP hD
      have hP : va_P D vwCl ([(b, .inr (2, [.ref q1, .int 0, .int 0])), (q1, .inl (cy 3, 8, .inr (.inr (.inr (.inr (fr (Ls ++ [q])))))))] ++ (Ls ++ [q]).flatMap (W3 cy)) H := by rw [← flat_app]; exact hP
      have hD : va_D A ([(b, .inr (2, [.ref q1, .int 0, .int 0])), (q1, .inl (cy 3, 8, .inr (.inr (.inr (.inr (fr (Ls ++ [q])))))))] ++ (Ls ++ [q]).flatMap (W3 cy)) := by rw [← flat_app]; exact hD
      refine lv_iinc (v := nI (i + 1)) (lv' := [(1, .int (nI (i + 1))), (0, .ref b)]) hx hb (dg ddX1_init 24 rfl) hl (k := 1) rfl (by rw [← nI_1]; exact congrArg (HAdd.hAdd (nI i)) (by decide)) (by decide) rfl (fun ls hl => ?_)
      refine lv_goto (tgt := 25) hx hb (dg ddX1_init 25 rfl) (by decide) ?_
      refine W.widen (k := 1 + 14 * (i + 1)) (n := 8 + 124 * (i + 1)) (by omega) (by omega) ?_
      exact ih (i + 1) q1 (Ls ++ [q]) H locs ls (by omega) (by rw [List.length_append, hL]; rfl) (lv_sub hl [1, 0] rfl) hP hD hS
  refine lv_aload_n hx hb (dg ddX1_init 0 rfl) rfl (lv_at hl 0 rfl) ?_
  refine oI CX (hml.trans hl.1.symm) (lw_at 148 (by decide +kernel)) (lw_at 54 (by decide +kernel)) (lw_at 55 (by decide +kernel)) (Nat.le_of_ble_eq_true rfl) (Nat.le_of_ble_eq_true rfl) (dg ddX1_init 1 rfl) ?_
  refine lv_aload_n hx hb (dg ddX1_init 2 rfl) rfl (lv_at hl 0 rfl) ?_
  refine lv_bipush (v := 8) hx hb (dg ddX1_init 3 rfl) (by decide) ?_
  refine va_newq (own := RX1) (C := RX3) (N' := 8) hx hb CX.2.2.2 (CX.2.2.1 (.classLink RX1 9 RX3) (lw_at 149 (by decide +kernel))) hE.1 hK hP hD hS hA (by decide) rfl (Nat.le_of_ble_eq_true rfl) (Nat.le_of_ble_eq_true rfl) (Nat.le_of_ble_eq_true rfl) (dg ddX1_init 4 rfl) (fun q1 cA H hK1 hP hD hS => ?_)
  obtain ⟨kA, cp, -, -, -, hc1⟩ : va_RA s cA (.object RX3) := (hK1.2 4 _ rfl).2
  obtain ⟨kB, cq, -, -, -, hc2⟩ : va_RA s (cy 3) (.object RX3) := (hK.2 3 _ rfl).2
  obtain rfl : cA = cy 3 := Option.some.inj (hc1.symm.trans hc2)
  clear hK1
  have hP : va_P D vwCl [(b, .inr (2, [.null, .int 0, .int 0])), (q1, .inl (cy 3, 8, .inr (.inr (.inr (.inr (fun _ => none))))))] H := hP
  have hD : va_D A [(b, .inr (2, [.null, .int 0, .int 0])), (q1, .inl (cy 3, 8, .inr (.inr (.inr (.inr (fun _ => none))))))] := hD
  refine W.widen (k := 1) (n := 8) (Nat.le_of_ble_eq_true rfl) (Nat.le_of_ble_eq_true rfl) ?_
  refine va_putF (D := D) (ci := 2) (v := .ref q1) (ty := (.array (.object "BuskPitches$State"))) (C := RX1) (T := TX1) (N := 3) hx hb CX.2.2.1 inX1 tyX1 tyX1_ok nmX1 CX.2.2.2 hK hP hD hS 0 rfl rfl 0 (by decide) (CX.2.2.1 (.fieldLink RX1 11 "BuskPitches$History" "ring" "[LBuskPitches$State;") (lw_at 152 (by decide +kernel))) (fun _ h9 => h9) rfl hin rfl (by decide +kernel) rfl rfl (Nat.le_of_ble_eq_true rfl) (dg ddX1_init 5 rfl) (fun H locs hP hD hS => ?_)
  have hP : va_P D vwCl [(b, .inr (2, [.ref q1, .int 0, .int 0])), (q1, .inl (cy 3, 8, .inr (.inr (.inr (.inr (fun _ => none))))))] H := hP
  have hD : va_D A [(b, .inr (2, [.ref q1, .int 0, .int 0])), (q1, .inl (cy 3, 8, .inr (.inr (.inr (.inr (fun _ => none))))))] := hD
  refine lv_aload_n hx hb (dg ddX1_init 6 rfl) rfl (lv_at hl 0 rfl) ?_
  refine lv_iconst (v := 0) hx hb (dg ddX1_init 7 rfl) (by decide) ?_
  refine pf_RX1_17 CX hK hP hD hS 0 rfl (dg ddX1_init 8 rfl) (Nat.le_of_ble_eq_true rfl) (fun H locs hP hD hS => ?_)
  have hP : va_P D vwCl [(b, .inr (2, [.ref q1, .int 0, .int 0])), (q1, .inl (cy 3, 8, .inr (.inr (.inr (.inr (fun _ => none))))))] H := hP
  have hD : va_D A [(b, .inr (2, [.ref q1, .int 0, .int 0])), (q1, .inl (cy 3, 8, .inr (.inr (.inr (.inr (fun _ => none))))))] := hD
  refine lv_aload_n hx hb (dg ddX1_init 9 rfl) rfl (lv_at hl 0 rfl) ?_
  refine lv_iconst (v := 0) hx hb (dg ddX1_init 10 rfl) (by decide) ?_
  refine pf_RX1_21 CX hK hP hD hS 0 rfl (dg ddX1_init 11 rfl) (Nat.le_of_ble_eq_true rfl) (fun H locs hP hD hS => ?_)
  have hP : va_P D vwCl [(b, .inr (2, [.ref q1, .int 0, .int 0])), (q1, .inl (cy 3, 8, .inr (.inr (.inr (.inr (fun _ => none))))))] H := hP
  have hD : va_D A [(b, .inr (2, [.ref q1, .int 0, .int 0])), (q1, .inl (cy 3, 8, .inr (.inr (.inr (.inr (fun _ => none))))))] := hD
  refine lv_iconst (v := 0) hx hb (dg ddX1_init 12 rfl) (by decide) ?_
  refine lv_istore_n (lv' := [(1, .int 0), (0, .ref b)]) hx hb (dg ddX1_init 13 rfl) rfl hl (by decide) rfl (fun ls hl => ?_)
  exact K 8 0 q1 [] H locs ls rfl rfl (lv_sub hl [1, 0] rfl) hP hD hS
set_option maxHeartbeats 4000000 in
set_option maxRecDepth 100000 in
theorem c_X4_init (l : Launch) (D : va_G) (cy : Nat → ClassId) (b sz : Nat) : Met l yX4_init (.code yX4_init cX4_init 1 none :: lw_all) ⟨4, 158, 1437, 76⟩ (va_Pc [.ref b] (sZ D cy [(b, .inr (5, [.null, .null, .null, .int 0, .null, .null, .int 0, .int 0, .int 0]))] sz)) (qU D (fun q : Nat → Nat → Nat => q 0 0) b (W4_ cy) (va_A [(b, .inr (5, [.null, .null, .null, .int 0, .null, .null, .int 0, .int 0, .int 0]))] sz)) 158 1437 (va_A [(b, .inr (5, [.null, .null, .null, .int 0, .null, .null, .int 0, .int 0, .int 0]))] sz) := by
  refine mk_ct (Qc := qU D (fun q : Nat → Nat → Nat => q 0 0) b (W4_ cy)) (Rc := RX4) (by decide +kernel) rfl rfl (Nat.le_of_ble_eq_true rfl) ?_
  intro p e s m args below meth c ls A CX hml hr hlk hin hK hN hE hP hD hS hA hl
  have hx := CX.1
  have hb := CX.2.1
  have hR3 : (⟨2, 13, 106, 35⟩ : Room).frames + 1 ≤ (⟨4, 158, 1437, 76⟩ : Room).frames ∧ 8 + (1 + 11) + (⟨2, 13, 106, 35⟩ : Room).locals ≤ (⟨4, 158, 1437, 76⟩ : Room).locals := ⟨Nat.le_of_ble_eq_true rfl, Nat.le_of_ble_eq_true rfl⟩
  have hR1 : (⟨3, 113, 1000, 55⟩ : Room).frames + 1 ≤ (⟨4, 158, 1437, 76⟩ : Room).frames ∧ 8 + (2 + 11) + (⟨3, 113, 1000, 55⟩ : Room).locals ≤ (⟨4, 158, 1437, 76⟩ : Room).locals := ⟨Nat.le_of_ble_eq_true rfl, Nat.le_of_ble_eq_true rfl⟩
  have hR2 : (⟨1, 1, 60, 12⟩ : Room).frames + 1 ≤ (⟨4, 158, 1437, 76⟩ : Room).frames ∧ 8 + (1 + 11) + (⟨1, 1, 60, 12⟩ : Room).locals ≤ (⟨4, 158, 1437, 76⟩ : Room).locals := ⟨Nat.le_of_ble_eq_true rfl, Nat.le_of_ble_eq_true rfl⟩
  refine lv_aload_n hx hb (dg ddX4_init 0 rfl) rfl (lv_at hl 0 rfl) ?_
  refine oI CX (hml.trans hl.1.symm) (lw_at 53 (by decide +kernel)) (lw_at 54 (by decide +kernel)) (lw_at 55 (by decide +kernel)) (Nat.le_of_ble_eq_true rfl) (Nat.le_of_ble_eq_true rfl) (dg ddX4_init 1 rfl) ?_
  refine lv_aload_n hx hb (dg ddX4_init 2 rfl) rfl (lv_at hl 0 rfl) ?_
  refine nw_RX4_7 CX hK hP hD hS hA (Nat.le_of_ble_eq_true rfl) (Nat.le_of_ble_eq_true rfl) (dg ddX4_init 3 rfl) (fun rq1 H hP hD hS => ?_)
  refine lv_dup hx hb (dg ddX4_init 4 rfl) rfl ?_
  refine cr_ct (rest := [.ref rq1, .ref b]) CX hml (c_X3_init l D cy rq1 H.size) rfl lk_RX4_9 rfl rfl hR3 hP hD hS hA hK hN hE hl.1 (Nat.le_of_ble_eq_true rfl) ⟨Nat.le_of_ble_eq_true rfl, Nat.le_of_ble_eq_true rfl⟩ (dg ddX4_init 5 rfl) (fun q1 H locs hq hP hD hS => ?_)
  rw [← (show q1 0 = rq1 from hq)]
  refine W.widen (k := 14) (n := 124) (Nat.le_of_ble_eq_true rfl) (Nat.le_of_ble_eq_true rfl) ?_
  refine va_putF (D := D) (ci := 5) (v := .ref (q1 0)) (ty := .object "BuskPitches$State") (C := RX4) (T := TX4) (N := 9) hx hb CX.2.2.1 inX4 tyX4 tyX4_ok nmX4 CX.2.2.2 hK hP hD hS 0 rfl rfl 0 (by decide) (CX.2.2.1 (.fieldLink RX4 10 "BuskPitches" "now" "LBuskPitches$State;") (lw_at 178 (by decide +kernel))) (fun _ h9 => h9) rfl hin rfl (by decide +kernel) rfl rfl (Nat.le_of_ble_eq_true rfl) (dg ddX4_init 6 rfl) (fun H locs hP hD hS => ?_)
  have hP : va_P D vwCl ((([(b, .inr (5, [.ref (q1 0), .null, .null, .int 0, .null, .null, .int 0, .int 0, .int 0]))] : va_W) ++ W3 cy q1)) H := hP
  have hD : va_D A ((([(b, .inr (5, [.ref (q1 0), .null, .null, .int 0, .null, .null, .int 0, .int 0, .int 0]))] : va_W) ++ W3 cy q1)) := hD
  refine lv_aload_n hx hb (dg ddX4_init 7 rfl) rfl (lv_at hl 0 rfl) ?_
  refine nw_RX4_7 CX hK hP hD hS hA (Nat.le_of_ble_eq_true rfl) (Nat.le_of_ble_eq_true rfl) (dg ddX4_init 8 rfl) (fun rq2 H hP hD hS => ?_)
  refine lv_dup hx hb (dg ddX4_init 9 rfl) rfl ?_
  refine cr_ct (rest := [.ref rq2, .ref b]) CX hml (c_X3_init l D cy rq2 H.size) rfl lk_RX4_9 rfl rfl hR3 hP hD hS hA hK hN hE hl.1 (Nat.le_of_ble_eq_true rfl) ⟨Nat.le_of_ble_eq_true rfl, Nat.le_of_ble_eq_true rfl⟩ (dg ddX4_init 10 rfl) (fun q2 H locs hq hP hD hS => ?_)
  rw [← (show q2 0 = rq2 from hq)]
  refine W.widen (k := 28) (n := 248) (Nat.le_of_ble_eq_true rfl) (Nat.le_of_ble_eq_true rfl) ?_
  refine va_putF (D := D) (ci := 5) (v := .ref (q2 0)) (ty := .object "BuskPitches$State") (C := RX4) (T := TX4) (N := 9) hx hb CX.2.2.1 inX4 tyX4 tyX4_ok nmX4 CX.2.2.2 hK hP hD hS 0 rfl rfl 1 (by decide) (CX.2.2.1 (.fieldLink RX4 16 "BuskPitches" "spare" "LBuskPitches$State;") (lw_at 179 (by decide +kernel))) (fun _ h9 => h9) rfl hin rfl (by decide +kernel) rfl rfl (Nat.le_of_ble_eq_true rfl) (dg ddX4_init 11 rfl) (fun H locs hP hD hS => ?_)
  have hP : va_P D vwCl (((([(b, .inr (5, [.ref (q1 0), .ref (q2 0), .null, .int 0, .null, .null, .int 0, .int 0, .int 0]))] : va_W) ++ W3 cy q1) ++ W3 cy q2)) H := hP
  have hD : va_D A (((([(b, .inr (5, [.ref (q1 0), .ref (q2 0), .null, .int 0, .null, .null, .int 0, .int 0, .int 0]))] : va_W) ++ W3 cy q1) ++ W3 cy q2)) := hD
  refine lv_aload_n hx hb (dg ddX4_init 12 rfl) rfl (lv_at hl 0 rfl) ?_
  refine nw_RX4_7 CX hK hP hD hS hA (Nat.le_of_ble_eq_true rfl) (Nat.le_of_ble_eq_true rfl) (dg ddX4_init 13 rfl) (fun rq3 H hP hD hS => ?_)
  refine lv_dup hx hb (dg ddX4_init 14 rfl) rfl ?_
  refine cr_ct (rest := [.ref rq3, .ref b]) CX hml (c_X3_init l D cy rq3 H.size) rfl lk_RX4_9 rfl rfl hR3 hP hD hS hA hK hN hE hl.1 (Nat.le_of_ble_eq_true rfl) ⟨Nat.le_of_ble_eq_true rfl, Nat.le_of_ble_eq_true rfl⟩ (dg ddX4_init 15 rfl) (fun q3 H locs hq hP hD hS => ?_)
  rw [← (show q3 0 = rq3 from hq)]
  refine W.widen (k := 42) (n := 372) (Nat.le_of_ble_eq_true rfl) (Nat.le_of_ble_eq_true rfl) ?_
  refine va_putF (D := D) (ci := 5) (v := .ref (q3 0)) (ty := .object "BuskPitches$State") (C := RX4) (T := TX4) (N := 9) hx hb CX.2.2.1 inX4 tyX4 tyX4_ok nmX4 CX.2.2.2 hK hP hD hS 0 rfl rfl 2 (by decide) (CX.2.2.1 (.fieldLink RX4 19 "BuskPitches" "snapshot" "LBuskPitches$State;") (lw_at 180 (by decide +kernel))) (fun _ h9 => h9) rfl hin rfl (by decide +kernel) rfl rfl (Nat.le_of_ble_eq_true rfl) (dg ddX4_init 16 rfl) (fun H locs hP hD hS => ?_)
  have hP : va_P D vwCl ((((([(b, .inr (5, [.ref (q1 0), .ref (q2 0), .ref (q3 0), .int 0, .null, .null, .int 0, .int 0, .int 0]))] : va_W) ++ W3 cy q1) ++ W3 cy q2) ++ W3 cy q3)) H := hP
  have hD : va_D A ((((([(b, .inr (5, [.ref (q1 0), .ref (q2 0), .ref (q3 0), .int 0, .null, .null, .int 0, .int 0, .int 0]))] : va_W) ++ W3 cy q1) ++ W3 cy q2) ++ W3 cy q3)) := hD
  refine lv_aload_n hx hb (dg ddX4_init 17 rfl) rfl (lv_at hl 0 rfl) ?_
  refine lv_iconst (v := 0) hx hb (dg ddX4_init 18 rfl) (by decide) ?_
  refine pf_RX4_22 CX hK hP hD hS 0 rfl (by decide) (by decide) (dg ddX4_init 19 rfl) (Nat.le_of_ble_eq_true rfl) (fun H locs hP hD hS => ?_)
  have hP : va_P D vwCl ((((([(b, .inr (5, [.ref (q1 0), .ref (q2 0), .ref (q3 0), .int 0, .null, .null, .int 0, .int 0, .int 0]))] : va_W) ++ W3 cy q1) ++ W3 cy q2) ++ W3 cy q3)) H := hP
  have hD : va_D A ((((([(b, .inr (5, [.ref (q1 0), .ref (q2 0), .ref (q3 0), .int 0, .null, .null, .int 0, .int 0, .int 0]))] : va_W) ++ W3 cy q1) ++ W3 cy q2) ++ W3 cy q3)) := hD
  refine lv_aload_n hx hb (dg ddX4_init 20 rfl) rfl (lv_at hl 0 rfl) ?_
  refine nw_RX4_26 CX hK hP hD hS hA (Nat.le_of_ble_eq_true rfl) (Nat.le_of_ble_eq_true rfl) (dg ddX4_init 21 rfl) (fun rq4 H hP hD hS => ?_)
  refine lv_dup hx hb (dg ddX4_init 22 rfl) rfl ?_
  refine cr_ct (rest := [.ref rq4, .ref b]) CX hml (c_X1_init l D cy rq4 H.size) rfl lk_RX4_28 rfl rfl hR1 hP hD hS hA hK hN hE hl.1 (Nat.le_of_ble_eq_true rfl) ⟨Nat.le_of_ble_eq_true rfl, Nat.le_of_ble_eq_true rfl⟩ (dg ddX4_init 23 rfl) (fun q4 H locs hq hP hD hS => ?_)
  rw [← (show q4 4 0 = rq4 from hq)]
  refine W.widen (k := 156) (n := 1375) (Nat.le_of_ble_eq_true rfl) (Nat.le_of_ble_eq_true rfl) ?_
  refine va_putF (D := D) (ci := 5) (v := .ref (q4 4 0)) (ty := .object "BuskPitches$History") (C := RX4) (T := TX4) (N := 9) hx hb CX.2.2.1 inX4 tyX4 tyX4_ok nmX4 CX.2.2.2 hK hP hD hS 0 rfl rfl 4 (by decide) (CX.2.2.1 (.fieldLink RX4 29 "BuskPitches" "history" "LBuskPitches$History;") (lw_at 182 (by decide +kernel))) (fun _ h9 => h9) rfl hin rfl (by decide +kernel) rfl rfl (Nat.le_of_ble_eq_true rfl) (dg ddX4_init 24 rfl) (fun H locs hP hD hS => ?_)
  have hP : va_P D vwCl (((((([(b, .inr (5, [.ref (q1 0), .ref (q2 0), .ref (q3 0), .int 0, .ref (q4 4 0), .null, .int 0, .int 0, .int 0]))] : va_W) ++ W3 cy q1) ++ W3 cy q2) ++ W3 cy q3) ++ W1_ cy q4)) H := hP
  have hD : va_D A (((((([(b, .inr (5, [.ref (q1 0), .ref (q2 0), .ref (q3 0), .int 0, .ref (q4 4 0), .null, .int 0, .int 0, .int 0]))] : va_W) ++ W3 cy q1) ++ W3 cy q2) ++ W3 cy q3) ++ W1_ cy q4)) := hD
  refine lv_aload_n hx hb (dg ddX4_init 25 rfl) rfl (lv_at hl 0 rfl) ?_
  refine nw_RX4_33 CX hK hP hD hS hA (Nat.le_of_ble_eq_true rfl) (Nat.le_of_ble_eq_true rfl) (dg ddX4_init 26 rfl) (fun rq5 H hP hD hS => ?_)
  refine lv_dup hx hb (dg ddX4_init 27 rfl) rfl ?_
  refine cr_ctN (rest := [.ref rq5, .ref b]) CX hml (c_X2_init l D cy rq5 H.size)  lk_RX4_35 rfl rfl hR2 hP hD hS hA hK hN hE hl.1 (Nat.le_of_ble_eq_true rfl) ⟨Nat.le_of_ble_eq_true rfl, Nat.le_of_ble_eq_true rfl⟩ (dg ddX4_init 28 rfl) (fun q5 H locs hq hP hD hS => ?_)
  rw [← (show q5 0 = rq5 from hq)]
  refine W.widen (k := 158) (n := 1437) (Nat.le_of_ble_eq_true rfl) (Nat.le_of_ble_eq_true rfl) ?_
  refine va_putF (D := D) (ci := 5) (v := .ref (q5 0)) (ty := .object "BuskPitches$Input") (C := RX4) (T := TX4) (N := 9) hx hb CX.2.2.1 inX4 tyX4 tyX4_ok nmX4 CX.2.2.2 hK hP hD hS 0 rfl rfl 5 (by decide) (CX.2.2.1 (.fieldLink RX4 36 "BuskPitches" "input" "LBuskPitches$Input;") (lw_at 183 (by decide +kernel))) (fun _ h9 => h9) rfl hin rfl (by decide +kernel) rfl rfl (Nat.le_of_ble_eq_true rfl) (dg ddX4_init 29 rfl) (fun H locs hP hD hS => ?_)
  have hP : va_P D vwCl ((((((([(b, .inr (5, [.ref (q1 0), .ref (q2 0), .ref (q3 0), .int 0, .ref (q4 4 0), .ref (q5 0), .int 0, .int 0, .int 0]))] : va_W) ++ W3 cy q1) ++ W3 cy q2) ++ W3 cy q3) ++ W1_ cy q4) ++ W2 cy q5)) H := hP
  have hD : va_D A ((((((([(b, .inr (5, [.ref (q1 0), .ref (q2 0), .ref (q3 0), .int 0, .ref (q4 4 0), .ref (q5 0), .int 0, .int 0, .int 0]))] : va_W) ++ W3 cy q1) ++ W3 cy q2) ++ W3 cy q3) ++ W1_ cy q4) ++ W2 cy q5)) := hD
  refine lv_aload_n hx hb (dg ddX4_init 30 rfl) rfl (lv_at hl 0 rfl) ?_
  refine lv_iconst (v := -1) hx hb (dg ddX4_init 31 rfl) (by decide) ?_
  refine pf_RX4_40 CX hK hP hD hS 0 rfl (dg ddX4_init 32 rfl) (Nat.le_of_ble_eq_true rfl) (fun H locs hP hD hS => ?_)
  have hP : va_P D vwCl ((((((([(b, .inr (5, [.ref (q1 0), .ref (q2 0), .ref (q3 0), .int 0, .ref (q4 4 0), .ref (q5 0), .int (-1), .int 0, .int 0]))] : va_W) ++ W3 cy q1) ++ W3 cy q2) ++ W3 cy q3) ++ W1_ cy q4) ++ W2 cy q5)) H := hP
  have hD : va_D A ((((((([(b, .inr (5, [.ref (q1 0), .ref (q2 0), .ref (q3 0), .int 0, .ref (q4 4 0), .ref (q5 0), .int (-1), .int 0, .int 0]))] : va_W) ++ W3 cy q1) ++ W3 cy q2) ++ W3 cy q3) ++ W1_ cy q4) ++ W2 cy q5)) := hD
  refine lv_aload_n hx hb (dg ddX4_init 33 rfl) rfl (lv_at hl 0 rfl) ?_
  refine lv_iconst (v := 0) hx hb (dg ddX4_init 34 rfl) (by decide) ?_
  refine pf_RX4_44 CX hK hP hD hS 0 rfl (dg ddX4_init 35 rfl) (Nat.le_of_ble_eq_true rfl) (fun H locs hP hD hS => ?_)
  have hP : va_P D vwCl ((((((([(b, .inr (5, [.ref (q1 0), .ref (q2 0), .ref (q3 0), .int 0, .ref (q4 4 0), .ref (q5 0), .int (-1), .int 0, .int 0]))] : va_W) ++ W3 cy q1) ++ W3 cy q2) ++ W3 cy q3) ++ W1_ cy q4) ++ W2 cy q5)) H := hP
  have hD : va_D A ((((((([(b, .inr (5, [.ref (q1 0), .ref (q2 0), .ref (q3 0), .int 0, .ref (q4 4 0), .ref (q5 0), .int (-1), .int 0, .int 0]))] : va_W) ++ W3 cy q1) ++ W3 cy q2) ++ W3 cy q3) ++ W1_ cy q4) ++ W2 cy q5)) := hD
  refine lv_aload_n hx hb (dg ddX4_init 36 rfl) rfl (lv_at hl 0 rfl) ?_
  refine lv_iconst (v := 0) hx hb (dg ddX4_init 37 rfl) (by decide) ?_
  refine pf_RX4_47 CX hK hP hD hS 0 rfl (dg ddX4_init 38 rfl) (Nat.le_of_ble_eq_true rfl) (fun H locs hP hD hS => ?_)
  have hP : va_P D vwCl ((((((([(b, .inr (5, [.ref (q1 0), .ref (q2 0), .ref (q3 0), .int 0, .ref (q4 4 0), .ref (q5 0), .int (-1), .int 0, .int 0]))] : va_W) ++ W3 cy q1) ++ W3 cy q2) ++ W3 cy q3) ++ W1_ cy q4) ++ W2 cy q5)) H := hP
  have hD : va_D A ((((((([(b, .inr (5, [.ref (q1 0), .ref (q2 0), .ref (q3 0), .int 0, .ref (q4 4 0), .ref (q5 0), .int (-1), .int 0, .int 0]))] : va_W) ++ W3 cy q1) ++ W3 cy q2) ++ W3 cy q3) ++ W1_ cy q4) ++ W2 cy q5)) := hD
  have pm : ((((((([(b, .inr (5, [.ref (q1 0), .ref (q2 0), .ref (q3 0), .int 0, .ref (q4 4 0), .ref (q5 0), .int (-1), .int 0, .int 0]))] : va_W) ++ W3 cy q1) ++ W3 cy q2) ++ W3 cy q3) ++ W1_ cy q4) ++ W2 cy q5)).Perm (W4_ cy (qq b q1 q2 q3 q4 q5)) := by
    have e : W4_ cy (qq b q1 q2 q3 q4 q5) = ([(b, .inr (5, [.ref (q1 0), .ref (q2 0), .ref (q3 0), .int 0, .ref (q4 4 0), .ref (q5 0), .int (-1), .int 0, .int 0]))] : va_W) ++ (W3 cy q1 ++ (W3 cy q2 ++ (W3 cy q3 ++ (W2 cy q5 ++ W1_ cy q4)))) := by
      have e1 : wX1 (qq b q1 q2 q3 q4 q5) cy 0 0 (fun _ => sv0) = W1_ cy q4 := wX1_cg rfl (fun i => by unfold qq; rw [if_neg (by omega), if_neg (by omega), if_neg (by omega), if_neg (by omega), if_neg (by omega)])
      show wX4 (qq b q1 q2 q3 q4 q5) cy 0 (-1) 0 0 sv0 sv0 sv0 0 z0 0 0 (fun _ => sv0) = _
      unfold wX4
      rw [e1]
      rfl
    rw [e, List.append_assoc, List.append_assoc, List.append_assoc, List.append_assoc]
    exact ((((List.perm_append_comm.append_left _).append_left _).append_left _).append_left _)
  exact e_ct (g := fun q : Nat → Nat → Nat => q 0 0) (W1 := W4_ cy) CX hr hlk (qq b q1 q2 q3 q4 q5) rfl (vaP_perm pm hP) (vaD_perm pm hD) hS (dg ddX4_init 39 rfl)
