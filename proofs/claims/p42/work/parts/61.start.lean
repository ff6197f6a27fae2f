/-! the law's start: what the tables say of it -/
theorem str_at {own tx : String} {k : Nat} {a : Array Value} {U : State} (h : (Cond.stringRef own k tx).before a U = true) : ∃ q : Nat, vk_R own k tx q U := by
  have h1 : (Cond.stringRef own k tx).before #[] U = true := h
  have h2 := h1
  simp only [Cond.before, Cond.holds, Cond.value] at h2
  cases hc : U.vm.findClass own with
  | none => rw [hc] at h2; cases h2
  | some cC =>
    rw [hc] at h2
    cases hr : U.resolvedAt? own k with
    | none => rw [hr] at h2; simp at h2
    | some r =>
      rw [hr] at h2
      cases r with
      | string q =>
        refine ⟨q, h1, ?_⟩
        simp only [State.resolvedAt?, hc, Option.bind_eq_bind, Option.bind_some] at hr
        cases hk : U.vm.classes[cC]? with
        | none => rw [hk] at hr; cases hr
        | some kC =>
          rw [hk, Option.bind_some] at hr
          simp [Term.eval, hc, hk, hr]
      | _ => simp at h2
-- GEN
theorem inJ0 : ∀ w ∈ wsJ00, w ∈ lw_all := lw_ats [428, 430] (by decide +kernel)
theorem inJx00060 : ∀ w ∈ wsJx000600, w ∈ lw_all := lw_ats [416, 417, 418, 419, 420, 421] (by decide +kernel)
theorem arr_k {args : Array Value} {s : State} {t : FieldType} (h : (Cond.arrayClass t).before args s = true) (ho : ∀ C, t ≠ .object C) : ∃ c : ClassId, ArrOfT s c t ∧ va_RA s c t := by
  obtain ⟨c, k, comp, h1, h2, h3⟩ := Cond.arrayClass_spec h
  refine ⟨c, fun N z => ⟨(fun q hq => by cases hq), k, h2, comp, h3⟩, ?_⟩
  cases t <;> first | exact h1 | exact absurd rfl (ho _)
theorem st_K {args : Array Value} {s : State} (hts : ∀ w ∈ lw_all, w.before args s = true) (hO : (Cond.arrayOver (.object "BuskPitches$State")).before args s = true) : ∃ (D : va_G) (cy : Nat → ClassId), va_K D vwCl (tyA cy) s := by
  obtain ⟨c0, i0, h0⟩ := u_known (C := RJ0) (T := TJ0) (N := 2) (n := 4) hts inJ0 (hts (.instantiable RJ0 4) (lw_at 427 (by decide +kernel)))
  obtain ⟨c1, i1, h1⟩ := u_known (C := RJx00060) (T := TJx00060) (N := 6) (n := 6) hts inJx00060 (hts (.instantiable RJx00060 6) (lw_at 412 (by decide +kernel)))
  obtain ⟨c2, i2, h2⟩ := u_known (C := RX1) (T := TX1) (N := 3) (n := 3) hts inX1 (hts (.instantiable RX1 3) (lw_at 144 (by decide +kernel)))
  obtain ⟨c3, i3, h3⟩ := u_known (C := RX2) (T := TX2) (N := 2) (n := 2) hts inX2 (hts (.instantiable RX2 2) (lw_at 164 (by decide +kernel)))
  obtain ⟨c4, i4, h4⟩ := u_known (C := RX3) (T := TX3) (N := 18) (n := 18) hts inX3 (hts (.instantiable RX3 18) (lw_at 57 (by decide +kernel)))
  obtain ⟨c5, i5, h5⟩ := u_known (C := RX4) (T := TX4) (N := 9) (n := 9) hts inX4 (hts (.instantiable RX4 9) (lw_at 49 (by decide +kernel)))
  obtain ⟨a0, e0⟩ := arr_k (hts (.arrayClass .int) (lw_at 142 (by decide +kernel))) (fun _ h => by cases h)
  obtain ⟨a1, e1⟩ := arr_k (hts (.arrayClass .float) (lw_at 141 (by decide +kernel))) (fun _ h => by cases h)
  obtain ⟨a2, e2⟩ := arr_k (hts (.arrayClass .char) (lw_at 177 (by decide +kernel))) (fun _ h => by cases h)
  obtain ⟨p3, a3, k3, q1, q2, q3, q4, q5⟩ := Cond.arrayOver_spec hO
  have e3 : ArrOfT s a3 (.object "BuskPitches$State") ∧ va_RA s a3 (.object "BuskPitches$State") := ⟨fun N z => ⟨(fun q hq => by cases hq), k3, q3, p3, q4⟩, k3, p3, q3, q4, q1, q5⟩
  refine ⟨(fun k => match k with | 0 => c0 | 1 => c1 | 2 => c2 | 3 => c3 | 4 => c4 | _ => c5, fun k => match k with | 0 => i0 | 1 => i1 | 2 => i2 | 3 => i3 | 4 => i4 | _ => i5), (fun k => match k with | 0 => a0 | 1 => a1 | 2 => a2 | _ => a3), ?_, ?_⟩
  · intro k q hq
    match k, hq with
    | 0, hq => cases hq; exact h0
    | 1, hq => cases hq; exact h1
    | 2, hq => cases hq; exact h2
    | 3, hq => cases hq; exact h3
    | 4, hq => cases hq; exact h4
    | 5, hq => cases hq; exact h5
    | k + 6, hq => simp [vwCl] at hq
  · intro k q hq
    match k, hq with
    | 0, hq => cases hq; exact e0
    | 1, hq => cases hq; exact e1
    | 2, hq => cases hq; exact e2
    | 3, hq => cases hq; exact e3
    | k + 4, hq => simp [tyA] at hq
theorem lw_t {w : Cond} (i : Nat) (h : lw_tbl[i]? = some w) : w ∈ lw_tbl := List.mem_of_getElem? h
theorem exL_in : ∀ w ∈ exL, w ∈ lw_tbl := by
  intro w hw
  simp only [exL, List.mem_cons, List.not_mem_nil, or_false] at hw
  rcases hw with rfl | rfl | rfl | rfl | rfl | rfl | rfl | rfl | rfl
  · exact lw_t 352 (by decide +kernel)
  · exact lw_t 247 (by decide +kernel)
  · exact lw_t 369 (by decide +kernel)
  · exact lw_t 854 (by decide +kernel)
  · exact lw_t 639 (by decide +kernel)
  · exact lw_t 1002 (by decide +kernel)
  · exact lw_t 249 (by decide +kernel)
  · exact lw_t 251 (by decide +kernel)
  · exact lw_t 253 (by decide +kernel)
theorem exS_in : ∀ q ∈ exS, (Cond.stringRef RX4 q.1 q.2) ∈ lw_tbl := by
  intro q hq
  simp only [exS, List.mem_cons, List.not_mem_nil, or_false] at hq
  rcases hq with rfl | rfl | rfl | rfl | rfl | rfl | rfl | rfl | rfl | rfl | rfl | rfl | rfl | rfl | rfl | rfl | rfl | rfl
  · exact lw_t 290 (by decide +kernel)
  · exact lw_t 359 (by decide +kernel)
  · exact lw_t 366 (by decide +kernel)
  · exact lw_t 376 (by decide +kernel)
  · exact lw_t 627 (by decide +kernel)
  · exact lw_t 628 (by decide +kernel)
  · exact lw_t 646 (by decide +kernel)
  · exact lw_t 664 (by decide +kernel)
  · exact lw_t 723 (by decide +kernel)
  · exact lw_t 825 (by decide +kernel)
  · exact lw_t 842 (by decide +kernel)
  · exact lw_t 861 (by decide +kernel)
  · exact lw_t 897 (by decide +kernel)
  · exact lw_t 957 (by decide +kernel)
  · exact lw_t 969 (by decide +kernel)
  · exact lw_t 971 (by decide +kernel)
  · exact lw_t 979 (by decide +kernel)
  · exact lw_t 1010 (by decide +kernel)
theorem st_X {b : Nat} {s : State} (hts : ∀ w ∈ lw_tbl, w.before #[Value.ref b] s = true) (hgv : (Jvm.Cond.and given_1 narrow_1).before #[Value.ref b] s = true) : exF (fun q => s.heap.size ≤ q) s s.heap := by
  have hs := flat_of_before _ hgv
  have hA : ∀ a : Nat, a < s.heap.size → ¬ s.heap.size ≤ a := fun a h => Nat.not_le.mpr h
  refine ⟨fun w hw => va_Nw.of (exL_tab w hw) (hts w (exL_in w hw)), fun q hq => str_at (hts _ (exS_in q hq)), ?_, ?_⟩
  · exact vx_Zqof (hts (.laysStatic Bundle.tN "UNASSIGNED_STACK" Bundle.steD) (lw_t 272 (by decide +kernel))) (hts (.initialized Bundle.tN) (lw_t 29 (by decide +kernel))) (hs _ (by decide +kernel)) hA
  · exact vx_Zqof (hts (.laysStatic Bundle.tN "SUPPRESSED_SENTINEL" Bundle.listD) (lw_t 274 (by decide +kernel))) (hts (.initialized Bundle.tN) (lw_t 29 (by decide +kernel))) (hs _ (by decide +kernel)) hA
theorem st_C {b : Nat} {s : State} (hgv : (Jvm.Cond.and given_1 narrow_1).before #[Value.ref b] s = true) : ncF s := by
  have hs := flat_of_before _ hgv
  intro q hq
  simp only [ncL, List.mem_cons, List.not_mem_nil, or_false] at hq
  rcases hq with rfl | rfl | rfl | rfl <;> exact va_Nc.of (args := #[Value.ref b]) (hs _ (by decide +kernel))
theorem st_N {b : Nat} {s : State} (hts : ∀ w ∈ lw_tbl, w.before #[Value.ref b] s = true) : nst s := va_Nw.of rfl (hts (.methodLinkNest RX3 84 yX4_isPitch RX4) (lw_t 465 (by decide +kernel)))
theorem st_O {b : Nat} {s : State} (hts : ∀ w ∈ lw_tbl, w.before #[Value.ref b] s = true) : (Cond.arrayOver (.object "BuskPitches$State")).before #[Value.ref b] s = true := hts _ (lw_t 150 (by decide +kernel))
theorem st_E {b : Nat} {s : State} (hts : ∀ w ∈ lw_tbl, w.before #[Value.ref b] s = true) : eZ s := ⟨va_AO.of (st_O hts), va_Nw.of rfl (hts (.methodLinkNest RX4 35 yX2_init RX4) (lw_t 165 (by decide +kernel)))⟩
theorem st_T {l : Launch} (hflags : l.flags = flags0) : l.stackTraces = false := by
  unfold Launch.stackTraces
  rw [hflags]
  decide +kernel
-- the texts
def tmT (i : Nat) : Term := .string "BuskPitchesLaw" (275 + 2 * i)
def tmV (i : Nat) : Term := .field (tmT i) "java/lang/String" "value" "[B"
def tmX : Term := .static "BuskPitchesLaw" "TEXTS" "[Ljava/lang/String;"
theorem m_ex_0 : Cond.exactly (tmT 0) "java/lang/String" ∈ flatC (Jvm.Cond.and given_1 narrow_1) := List.mem_of_getElem? (i := 556) (by decide +kernel)
theorem m_ex_1 : Cond.exactly (tmT 1) "java/lang/String" ∈ flatC (Jvm.Cond.and given_1 narrow_1) := List.mem_of_getElem? (i := 562) (by decide +kernel)
theorem m_ex_2 : Cond.exactly (tmT 2) "java/lang/String" ∈ flatC (Jvm.Cond.and given_1 narrow_1) := List.mem_of_getElem? (i := 569) (by decide +kernel)
theorem m_ex_3 : Cond.exactly (tmT 3) "java/lang/String" ∈ flatC (Jvm.Cond.and given_1 narrow_1) := List.mem_of_getElem? (i := 575) (by decide +kernel)
theorem m_ex_4 : Cond.exactly (tmT 4) "java/lang/String" ∈ flatC (Jvm.Cond.and given_1 narrow_1) := List.mem_of_getElem? (i := 586) (by decide +kernel)
theorem m_ex_5 : Cond.exactly (tmT 5) "java/lang/String" ∈ flatC (Jvm.Cond.and given_1 narrow_1) := List.mem_of_getElem? (i := 595) (by decide +kernel)
theorem m_ex_6 : Cond.exactly (tmT 6) "java/lang/String" ∈ flatC (Jvm.Cond.and given_1 narrow_1) := List.mem_of_getElem? (i := 610) (by decide +kernel)
theorem m_ex_7 : Cond.exactly (tmT 7) "java/lang/String" ∈ flatC (Jvm.Cond.and given_1 narrow_1) := List.mem_of_getElem? (i := 616) (by decide +kernel)
theorem m_ex_8 : Cond.exactly (tmT 8) "java/lang/String" ∈ flatC (Jvm.Cond.and given_1 narrow_1) := List.mem_of_getElem? (i := 625) (by decide +kernel)
theorem m_ex_9 : Cond.exactly (tmT 9) "java/lang/String" ∈ flatC (Jvm.Cond.and given_1 narrow_1) := List.mem_of_getElem? (i := 631) (by decide +kernel)
theorem m_ex_10 : Cond.exactly (tmT 10) "java/lang/String" ∈ flatC (Jvm.Cond.and given_1 narrow_1) := List.mem_of_getElem? (i := 640) (by decide +kernel)
theorem m_ex_11 : Cond.exactly (tmT 11) "java/lang/String" ∈ flatC (Jvm.Cond.and given_1 narrow_1) := List.mem_of_getElem? (i := 646) (by decide +kernel)
theorem m_ex_12 : Cond.exactly (tmT 12) "java/lang/String" ∈ flatC (Jvm.Cond.and given_1 narrow_1) := List.mem_of_getElem? (i := 655) (by decide +kernel)
theorem m_ex_13 : Cond.exactly (tmT 13) "java/lang/String" ∈ flatC (Jvm.Cond.and given_1 narrow_1) := List.mem_of_getElem? (i := 661) (by decide +kernel)
theorem m_ex_14 : Cond.exactly (tmT 14) "java/lang/String" ∈ flatC (Jvm.Cond.and given_1 narrow_1) := List.mem_of_getElem? (i := 671) (by decide +kernel)
theorem m_ex_15 : Cond.exactly (tmT 15) "java/lang/String" ∈ flatC (Jvm.Cond.and given_1 narrow_1) := List.mem_of_getElem? (i := 678) (by decide +kernel)
theorem m_ex_16 : Cond.exactly (tmT 16) "java/lang/String" ∈ flatC (Jvm.Cond.and given_1 narrow_1) := List.mem_of_getElem? (i := 684) (by decide +kernel)
theorem m_ex_17 : Cond.exactly (tmT 17) "java/lang/String" ∈ flatC (Jvm.Cond.and given_1 narrow_1) := List.mem_of_getElem? (i := 690) (by decide +kernel)
theorem m_ex : ∀ i, i < 18 → Cond.exactly (tmT i) "java/lang/String" ∈ flatC (Jvm.Cond.and given_1 narrow_1) := by
  intro i hi
  match i, hi with
  | 0, _ => exact m_ex_0
  | 1, _ => exact m_ex_1
  | 2, _ => exact m_ex_2
  | 3, _ => exact m_ex_3
  | 4, _ => exact m_ex_4
  | 5, _ => exact m_ex_5
  | 6, _ => exact m_ex_6
  | 7, _ => exact m_ex_7
  | 8, _ => exact m_ex_8
  | 9, _ => exact m_ex_9
  | 10, _ => exact m_ex_10
  | 11, _ => exact m_ex_11
  | 12, _ => exact m_ex_12
  | 13, _ => exact m_ex_13
  | 14, _ => exact m_ex_14
  | 15, _ => exact m_ex_15
  | 16, _ => exact m_ex_16
  | 17, _ => exact m_ex_17
  | n + 18, h => omega
theorem m_co_0 : Cond.eq (.field (tmT 0) "java/lang/String" "coder" "B") (.int 0) ∈ flatC (Jvm.Cond.and given_1 narrow_1) := List.mem_of_getElem? (i := 557) (by decide +kernel)
theorem m_co_1 : Cond.eq (.field (tmT 1) "java/lang/String" "coder" "B") (.int 0) ∈ flatC (Jvm.Cond.and given_1 narrow_1) := List.mem_of_getElem? (i := 563) (by decide +kernel)
theorem m_co_2 : Cond.eq (.field (tmT 2) "java/lang/String" "coder" "B") (.int 0) ∈ flatC (Jvm.Cond.and given_1 narrow_1) := List.mem_of_getElem? (i := 570) (by decide +kernel)
theorem m_co_3 : Cond.eq (.field (tmT 3) "java/lang/String" "coder" "B") (.int 0) ∈ flatC (Jvm.Cond.and given_1 narrow_1) := List.mem_of_getElem? (i := 576) (by decide +kernel)
theorem m_co_4 : Cond.eq (.field (tmT 4) "java/lang/String" "coder" "B") (.int 0) ∈ flatC (Jvm.Cond.and given_1 narrow_1) := List.mem_of_getElem? (i := 587) (by decide +kernel)
theorem m_co_5 : Cond.eq (.field (tmT 5) "java/lang/String" "coder" "B") (.int 0) ∈ flatC (Jvm.Cond.and given_1 narrow_1) := List.mem_of_getElem? (i := 596) (by decide +kernel)
theorem m_co_6 : Cond.eq (.field (tmT 6) "java/lang/String" "coder" "B") (.int 0) ∈ flatC (Jvm.Cond.and given_1 narrow_1) := List.mem_of_getElem? (i := 611) (by decide +kernel)
theorem m_co_7 : Cond.eq (.field (tmT 7) "java/lang/String" "coder" "B") (.int 0) ∈ flatC (Jvm.Cond.and given_1 narrow_1) := List.mem_of_getElem? (i := 617) (by decide +kernel)
theorem m_co_8 : Cond.eq (.field (tmT 8) "java/lang/String" "coder" "B") (.int 0) ∈ flatC (Jvm.Cond.and given_1 narrow_1) := List.mem_of_getElem? (i := 626) (by decide +kernel)
theorem m_co_9 : Cond.eq (.field (tmT 9) "java/lang/String" "coder" "B") (.int 0) ∈ flatC (Jvm.Cond.and given_1 narrow_1) := List.mem_of_getElem? (i := 632) (by decide +kernel)
theorem m_co_10 : Cond.eq (.field (tmT 10) "java/lang/String" "coder" "B") (.int 0) ∈ flatC (Jvm.Cond.and given_1 narrow_1) := List.mem_of_getElem? (i := 641) (by decide +kernel)
theorem m_co_11 : Cond.eq (.field (tmT 11) "java/lang/String" "coder" "B") (.int 0) ∈ flatC (Jvm.Cond.and given_1 narrow_1) := List.mem_of_getElem? (i := 647) (by decide +kernel)
theorem m_co_12 : Cond.eq (.field (tmT 12) "java/lang/String" "coder" "B") (.int 0) ∈ flatC (Jvm.Cond.and given_1 narrow_1) := List.mem_of_getElem? (i := 656) (by decide +kernel)
theorem m_co_13 : Cond.eq (.field (tmT 13) "java/lang/String" "coder" "B") (.int 0) ∈ flatC (Jvm.Cond.and given_1 narrow_1) := List.mem_of_getElem? (i := 662) (by decide +kernel)
theorem m_co_14 : Cond.eq (.field (tmT 14) "java/lang/String" "coder" "B") (.int 0) ∈ flatC (Jvm.Cond.and given_1 narrow_1) := List.mem_of_getElem? (i := 672) (by decide +kernel)
theorem m_co_15 : Cond.eq (.field (tmT 15) "java/lang/String" "coder" "B") (.int 0) ∈ flatC (Jvm.Cond.and given_1 narrow_1) := List.mem_of_getElem? (i := 679) (by decide +kernel)
theorem m_co_16 : Cond.eq (.field (tmT 16) "java/lang/String" "coder" "B") (.int 0) ∈ flatC (Jvm.Cond.and given_1 narrow_1) := List.mem_of_getElem? (i := 685) (by decide +kernel)
theorem m_co_17 : Cond.eq (.field (tmT 17) "java/lang/String" "coder" "B") (.int 0) ∈ flatC (Jvm.Cond.and given_1 narrow_1) := List.mem_of_getElem? (i := 691) (by decide +kernel)
theorem m_co : ∀ i, i < 18 → Cond.eq (.field (tmT i) "java/lang/String" "coder" "B") (.int 0) ∈ flatC (Jvm.Cond.and given_1 narrow_1) := by
  intro i hi
  match i, hi with
  | 0, _ => exact m_co_0
  | 1, _ => exact m_co_1
  | 2, _ => exact m_co_2
  | 3, _ => exact m_co_3
  | 4, _ => exact m_co_4
  | 5, _ => exact m_co_5
  | 6, _ => exact m_co_6
  | 7, _ => exact m_co_7
  | 8, _ => exact m_co_8
  | 9, _ => exact m_co_9
  | 10, _ => exact m_co_10
  | 11, _ => exact m_co_11
  | 12, _ => exact m_co_12
  | 13, _ => exact m_co_13
  | 14, _ => exact m_co_14
  | 15, _ => exact m_co_15
  | 16, _ => exact m_co_16
  | 17, _ => exact m_co_17
  | n + 18, h => omega
theorem m_ar_0 : Cond.arrayOf (tmV 0) .byte ∈ flatC (Jvm.Cond.and given_1 narrow_1) := List.mem_of_getElem? (i := 558) (by decide +kernel)
theorem m_ar_1 : Cond.arrayOf (tmV 1) .byte ∈ flatC (Jvm.Cond.and given_1 narrow_1) := List.mem_of_getElem? (i := 564) (by decide +kernel)
theorem m_ar_2 : Cond.arrayOf (tmV 2) .byte ∈ flatC (Jvm.Cond.and given_1 narrow_1) := List.mem_of_getElem? (i := 571) (by decide +kernel)
theorem m_ar_3 : Cond.arrayOf (tmV 3) .byte ∈ flatC (Jvm.Cond.and given_1 narrow_1) := List.mem_of_getElem? (i := 577) (by decide +kernel)
theorem m_ar_4 : Cond.arrayOf (tmV 4) .byte ∈ flatC (Jvm.Cond.and given_1 narrow_1) := List.mem_of_getElem? (i := 588) (by decide +kernel)
theorem m_ar_5 : Cond.arrayOf (tmV 5) .byte ∈ flatC (Jvm.Cond.and given_1 narrow_1) := List.mem_of_getElem? (i := 597) (by decide +kernel)
theorem m_ar_6 : Cond.arrayOf (tmV 6) .byte ∈ flatC (Jvm.Cond.and given_1 narrow_1) := List.mem_of_getElem? (i := 612) (by decide +kernel)
theorem m_ar_7 : Cond.arrayOf (tmV 7) .byte ∈ flatC (Jvm.Cond.and given_1 narrow_1) := List.mem_of_getElem? (i := 618) (by decide +kernel)
theorem m_ar_8 : Cond.arrayOf (tmV 8) .byte ∈ flatC (Jvm.Cond.and given_1 narrow_1) := List.mem_of_getElem? (i := 627) (by decide +kernel)
theorem m_ar_9 : Cond.arrayOf (tmV 9) .byte ∈ flatC (Jvm.Cond.and given_1 narrow_1) := List.mem_of_getElem? (i := 633) (by decide +kernel)
theorem m_ar_10 : Cond.arrayOf (tmV 10) .byte ∈ flatC (Jvm.Cond.and given_1 narrow_1) := List.mem_of_getElem? (i := 642) (by decide +kernel)
theorem m_ar_11 : Cond.arrayOf (tmV 11) .byte ∈ flatC (Jvm.Cond.and given_1 narrow_1) := List.mem_of_getElem? (i := 648) (by decide +kernel)
theorem m_ar_12 : Cond.arrayOf (tmV 12) .byte ∈ flatC (Jvm.Cond.and given_1 narrow_1) := List.mem_of_getElem? (i := 657) (by decide +kernel)
theorem m_ar_13 : Cond.arrayOf (tmV 13) .byte ∈ flatC (Jvm.Cond.and given_1 narrow_1) := List.mem_of_getElem? (i := 663) (by decide +kernel)
theorem m_ar_14 : Cond.arrayOf (tmV 14) .byte ∈ flatC (Jvm.Cond.and given_1 narrow_1) := List.mem_of_getElem? (i := 673) (by decide +kernel)
theorem m_ar_15 : Cond.arrayOf (tmV 15) .byte ∈ flatC (Jvm.Cond.and given_1 narrow_1) := List.mem_of_getElem? (i := 680) (by decide +kernel)
theorem m_ar_16 : Cond.arrayOf (tmV 16) .byte ∈ flatC (Jvm.Cond.and given_1 narrow_1) := List.mem_of_getElem? (i := 686) (by decide +kernel)
theorem m_ar_17 : Cond.arrayOf (tmV 17) .byte ∈ flatC (Jvm.Cond.and given_1 narrow_1) := List.mem_of_getElem? (i := 692) (by decide +kernel)
theorem m_ar : ∀ i, i < 18 → Cond.arrayOf (tmV i) .byte ∈ flatC (Jvm.Cond.and given_1 narrow_1) := by
  intro i hi
  match i, hi with
  | 0, _ => exact m_ar_0
  | 1, _ => exact m_ar_1
  | 2, _ => exact m_ar_2
  | 3, _ => exact m_ar_3
  | 4, _ => exact m_ar_4
  | 5, _ => exact m_ar_5
  | 6, _ => exact m_ar_6
  | 7, _ => exact m_ar_7
  | 8, _ => exact m_ar_8
  | 9, _ => exact m_ar_9
  | 10, _ => exact m_ar_10
  | 11, _ => exact m_ar_11
  | 12, _ => exact m_ar_12
  | 13, _ => exact m_ar_13
  | 14, _ => exact m_ar_14
  | 15, _ => exact m_ar_15
  | 16, _ => exact m_ar_16
  | 17, _ => exact m_ar_17
  | n + 18, h => omega
theorem m_le_0 : Cond.eq (.length (tmV 0)) (.int (Int32.ofNat (tL 0))) ∈ flatC (Jvm.Cond.and given_1 narrow_1) := List.mem_of_getElem? (i := 559) (by decide +kernel)
theorem m_le_1 : Cond.eq (.length (tmV 1)) (.int (Int32.ofNat (tL 1))) ∈ flatC (Jvm.Cond.and given_1 narrow_1) := List.mem_of_getElem? (i := 565) (by decide +kernel)
theorem m_le_2 : Cond.eq (.length (tmV 2)) (.int (Int32.ofNat (tL 2))) ∈ flatC (Jvm.Cond.and given_1 narrow_1) := List.mem_of_getElem? (i := 572) (by decide +kernel)
theorem m_le_3 : Cond.eq (.length (tmV 3)) (.int (Int32.ofNat (tL 3))) ∈ flatC (Jvm.Cond.and given_1 narrow_1) := List.mem_of_getElem? (i := 578) (by decide +kernel)
theorem m_le_4 : Cond.eq (.length (tmV 4)) (.int (Int32.ofNat (tL 4))) ∈ flatC (Jvm.Cond.and given_1 narrow_1) := List.mem_of_getElem? (i := 589) (by decide +kernel)
theorem m_le_5 : Cond.eq (.length (tmV 5)) (.int (Int32.ofNat (tL 5))) ∈ flatC (Jvm.Cond.and given_1 narrow_1) := List.mem_of_getElem? (i := 598) (by decide +kernel)
theorem m_le_6 : Cond.eq (.length (tmV 6)) (.int (Int32.ofNat (tL 6))) ∈ flatC (Jvm.Cond.and given_1 narrow_1) := List.mem_of_getElem? (i := 613) (by decide +kernel)
theorem m_le_7 : Cond.eq (.length (tmV 7)) (.int (Int32.ofNat (tL 7))) ∈ flatC (Jvm.Cond.and given_1 narrow_1) := List.mem_of_getElem? (i := 619) (by decide +kernel)
theorem m_le_8 : Cond.eq (.length (tmV 8)) (.int (Int32.ofNat (tL 8))) ∈ flatC (Jvm.Cond.and given_1 narrow_1) := List.mem_of_getElem? (i := 628) (by decide +kernel)
theorem m_le_9 : Cond.eq (.length (tmV 9)) (.int (Int32.ofNat (tL 9))) ∈ flatC (Jvm.Cond.and given_1 narrow_1) := List.mem_of_getElem? (i := 634) (by decide +kernel)
theorem m_le_10 : Cond.eq (.length (tmV 10)) (.int (Int32.ofNat (tL 10))) ∈ flatC (Jvm.Cond.and given_1 narrow_1) := List.mem_of_getElem? (i := 643) (by decide +kernel)
theorem m_le_11 : Cond.eq (.length (tmV 11)) (.int (Int32.ofNat (tL 11))) ∈ flatC (Jvm.Cond.and given_1 narrow_1) := List.mem_of_getElem? (i := 649) (by decide +kernel)
theorem m_le_12 : Cond.eq (.length (tmV 12)) (.int (Int32.ofNat (tL 12))) ∈ flatC (Jvm.Cond.and given_1 narrow_1) := List.mem_of_getElem? (i := 658) (by decide +kernel)
theorem m_le_13 : Cond.eq (.length (tmV 13)) (.int (Int32.ofNat (tL 13))) ∈ flatC (Jvm.Cond.and given_1 narrow_1) := List.mem_of_getElem? (i := 664) (by decide +kernel)
theorem m_le_14 : Cond.eq (.length (tmV 14)) (.int (Int32.ofNat (tL 14))) ∈ flatC (Jvm.Cond.and given_1 narrow_1) := List.mem_of_getElem? (i := 674) (by decide +kernel)
theorem m_le_15 : Cond.eq (.length (tmV 15)) (.int (Int32.ofNat (tL 15))) ∈ flatC (Jvm.Cond.and given_1 narrow_1) := List.mem_of_getElem? (i := 681) (by decide +kernel)
theorem m_le_16 : Cond.eq (.length (tmV 16)) (.int (Int32.ofNat (tL 16))) ∈ flatC (Jvm.Cond.and given_1 narrow_1) := List.mem_of_getElem? (i := 687) (by decide +kernel)
theorem m_le_17 : Cond.eq (.length (tmV 17)) (.int (Int32.ofNat (tL 17))) ∈ flatC (Jvm.Cond.and given_1 narrow_1) := List.mem_of_getElem? (i := 693) (by decide +kernel)
theorem m_le : ∀ i, i < 18 → Cond.eq (.length (tmV i)) (.int (Int32.ofNat (tL i))) ∈ flatC (Jvm.Cond.and given_1 narrow_1) := by
  intro i hi
  match i, hi with
  | 0, _ => exact m_le_0
  | 1, _ => exact m_le_1
  | 2, _ => exact m_le_2
  | 3, _ => exact m_le_3
  | 4, _ => exact m_le_4
  | 5, _ => exact m_le_5
  | 6, _ => exact m_le_6
  | 7, _ => exact m_le_7
  | 8, _ => exact m_le_8
  | 9, _ => exact m_le_9
  | 10, _ => exact m_le_10
  | 11, _ => exact m_le_11
  | 12, _ => exact m_le_12
  | 13, _ => exact m_le_13
  | 14, _ => exact m_le_14
  | 15, _ => exact m_le_15
  | 16, _ => exact m_le_16
  | 17, _ => exact m_le_17
  | n + 18, h => omega
theorem m_tx_0 : Cond.eq (.elem tmX (.int (Int32.ofNat 0))) (tmT 0) ∈ flatC (Jvm.Cond.and given_1 narrow_1) := List.mem_of_getElem? (i := 14) (by decide +kernel)
theorem m_tx_1 : Cond.eq (.elem tmX (.int (Int32.ofNat 1))) (tmT 1) ∈ flatC (Jvm.Cond.and given_1 narrow_1) := List.mem_of_getElem? (i := 15) (by decide +kernel)
theorem m_tx_2 : Cond.eq (.elem tmX (.int (Int32.ofNat 2))) (tmT 2) ∈ flatC (Jvm.Cond.and given_1 narrow_1) := List.mem_of_getElem? (i := 16) (by decide +kernel)
theorem m_tx_3 : Cond.eq (.elem tmX (.int (Int32.ofNat 3))) (tmT 3) ∈ flatC (Jvm.Cond.and given_1 narrow_1) := List.mem_of_getElem? (i := 17) (by decide +kernel)
theorem m_tx_4 : Cond.eq (.elem tmX (.int (Int32.ofNat 4))) (tmT 4) ∈ flatC (Jvm.Cond.and given_1 narrow_1) := List.mem_of_getElem? (i := 18) (by decide +kernel)
theorem m_tx_5 : Cond.eq (.elem tmX (.int (Int32.ofNat 5))) (tmT 5) ∈ flatC (Jvm.Cond.and given_1 narrow_1) := List.mem_of_getElem? (i := 19) (by decide +kernel)
theorem m_tx_6 : Cond.eq (.elem tmX (.int (Int32.ofNat 6))) (tmT 6) ∈ flatC (Jvm.Cond.and given_1 narrow_1) := List.mem_of_getElem? (i := 20) (by decide +kernel)
theorem m_tx_7 : Cond.eq (.elem tmX (.int (Int32.ofNat 7))) (tmT 7) ∈ flatC (Jvm.Cond.and given_1 narrow_1) := List.mem_of_getElem? (i := 21) (by decide +kernel)
theorem m_tx_8 : Cond.eq (.elem tmX (.int (Int32.ofNat 8))) (tmT 8) ∈ flatC (Jvm.Cond.and given_1 narrow_1) := List.mem_of_getElem? (i := 22) (by decide +kernel)
theorem m_tx_9 : Cond.eq (.elem tmX (.int (Int32.ofNat 9))) (tmT 9) ∈ flatC (Jvm.Cond.and given_1 narrow_1) := List.mem_of_getElem? (i := 23) (by decide +kernel)
theorem m_tx_10 : Cond.eq (.elem tmX (.int (Int32.ofNat 10))) (tmT 10) ∈ flatC (Jvm.Cond.and given_1 narrow_1) := List.mem_of_getElem? (i := 24) (by decide +kernel)
theorem m_tx_11 : Cond.eq (.elem tmX (.int (Int32.ofNat 11))) (tmT 11) ∈ flatC (Jvm.Cond.and given_1 narrow_1) := List.mem_of_getElem? (i := 25) (by decide +kernel)
theorem m_tx_12 : Cond.eq (.elem tmX (.int (Int32.ofNat 12))) (tmT 12) ∈ flatC (Jvm.Cond.and given_1 narrow_1) := List.mem_of_getElem? (i := 26) (by decide +kernel)
theorem m_tx_13 : Cond.eq (.elem tmX (.int (Int32.ofNat 13))) (tmT 13) ∈ flatC (Jvm.Cond.and given_1 narrow_1) := List.mem_of_getElem? (i := 27) (by decide +kernel)
theorem m_tx_14 : Cond.eq (.elem tmX (.int (Int32.ofNat 14))) (tmT 14) ∈ flatC (Jvm.Cond.and given_1 narrow_1) := List.mem_of_getElem? (i := 28) (by decide +kernel)
theorem m_tx_15 : Cond.eq (.elem tmX (.int (Int32.ofNat 15))) (tmT 15) ∈ flatC (Jvm.Cond.and given_1 narrow_1) := List.mem_of_getElem? (i := 29) (by decide +kernel)
theorem m_tx_16 : Cond.eq (.elem tmX (.int (Int32.ofNat 16))) (tmT 16) ∈ flatC (Jvm.Cond.and given_1 narrow_1) := List.mem_of_getElem? (i := 30) (by decide +kernel)
theorem m_tx_17 : Cond.eq (.elem tmX (.int (Int32.ofNat 17))) (tmT 17) ∈ flatC (Jvm.Cond.and given_1 narrow_1) := List.mem_of_getElem? (i := 31) (by decide +kernel)
theorem m_tx : ∀ i, i < 18 → Cond.eq (.elem tmX (.int (Int32.ofNat i))) (tmT i) ∈ flatC (Jvm.Cond.and given_1 narrow_1) := by
  intro i hi
  match i, hi with
  | 0, _ => exact m_tx_0
  | 1, _ => exact m_tx_1
  | 2, _ => exact m_tx_2
  | 3, _ => exact m_tx_3
  | 4, _ => exact m_tx_4
  | 5, _ => exact m_tx_5
  | 6, _ => exact m_tx_6
  | 7, _ => exact m_tx_7
  | 8, _ => exact m_tx_8
  | 9, _ => exact m_tx_9
  | 10, _ => exact m_tx_10
  | 11, _ => exact m_tx_11
  | 12, _ => exact m_tx_12
  | 13, _ => exact m_tx_13
  | 14, _ => exact m_tx_14
  | 15, _ => exact m_tx_15
  | 16, _ => exact m_tx_16
  | 17, _ => exact m_tx_17
  | n + 18, h => omega
theorem m_el_0_0 : Cond.eq (.elem (tmV 0) (.int (Int32.ofNat 0))) (.int (tB 0 0)) ∈ flatC (Jvm.Cond.and given_1 narrow_1) := List.mem_of_getElem? (i := 560) (by decide +kernel)
theorem m_el_0_1 : Cond.eq (.elem (tmV 0) (.int (Int32.ofNat 1))) (.int (tB 0 1)) ∈ flatC (Jvm.Cond.and given_1 narrow_1) := List.mem_of_getElem? (i := 561) (by decide +kernel)
theorem m_el_0 : ∀ j, j < 2 → Cond.eq (.elem (tmV 0) (.int (Int32.ofNat j))) (.int (tB 0 j)) ∈ flatC (Jvm.Cond.and given_1 narrow_1) := by
  intro j hj
  match j, hj with
  | 0, _ => exact m_el_0_0
  | 1, _ => exact m_el_0_1
  | n + 2, h => omega
theorem m_el_1_0 : Cond.eq (.elem (tmV 1) (.int (Int32.ofNat 0))) (.int (tB 1 0)) ∈ flatC (Jvm.Cond.and given_1 narrow_1) := List.mem_of_getElem? (i := 566) (by decide +kernel)
theorem m_el_1_1 : Cond.eq (.elem (tmV 1) (.int (Int32.ofNat 1))) (.int (tB 1 1)) ∈ flatC (Jvm.Cond.and given_1 narrow_1) := List.mem_of_getElem? (i := 567) (by decide +kernel)
theorem m_el_1_2 : Cond.eq (.elem (tmV 1) (.int (Int32.ofNat 2))) (.int (tB 1 2)) ∈ flatC (Jvm.Cond.and given_1 narrow_1) := List.mem_of_getElem? (i := 568) (by decide +kernel)
theorem m_el_1 : ∀ j, j < 3 → Cond.eq (.elem (tmV 1) (.int (Int32.ofNat j))) (.int (tB 1 j)) ∈ flatC (Jvm.Cond.and given_1 narrow_1) := by
  intro j hj
  match j, hj with
  | 0, _ => exact m_el_1_0
  | 1, _ => exact m_el_1_1
  | 2, _ => exact m_el_1_2
  | n + 3, h => omega
theorem m_el_2_0 : Cond.eq (.elem (tmV 2) (.int (Int32.ofNat 0))) (.int (tB 2 0)) ∈ flatC (Jvm.Cond.and given_1 narrow_1) := List.mem_of_getElem? (i := 573) (by decide +kernel)
theorem m_el_2_1 : Cond.eq (.elem (tmV 2) (.int (Int32.ofNat 1))) (.int (tB 2 1)) ∈ flatC (Jvm.Cond.and given_1 narrow_1) := List.mem_of_getElem? (i := 574) (by decide +kernel)
theorem m_el_2 : ∀ j, j < 2 → Cond.eq (.elem (tmV 2) (.int (Int32.ofNat j))) (.int (tB 2 j)) ∈ flatC (Jvm.Cond.and given_1 narrow_1) := by
  intro j hj
  match j, hj with
  | 0, _ => exact m_el_2_0
  | 1, _ => exact m_el_2_1
  | n + 2, h => omega
theorem m_el_3_0 : Cond.eq (.elem (tmV 3) (.int (Int32.ofNat 0))) (.int (tB 3 0)) ∈ flatC (Jvm.Cond.and given_1 narrow_1) := List.mem_of_getElem? (i := 579) (by decide +kernel)
theorem m_el_3_1 : Cond.eq (.elem (tmV 3) (.int (Int32.ofNat 1))) (.int (tB 3 1)) ∈ flatC (Jvm.Cond.and given_1 narrow_1) := List.mem_of_getElem? (i := 580) (by decide +kernel)
theorem m_el_3_2 : Cond.eq (.elem (tmV 3) (.int (Int32.ofNat 2))) (.int (tB 3 2)) ∈ flatC (Jvm.Cond.and given_1 narrow_1) := List.mem_of_getElem? (i := 581) (by decide +kernel)
theorem m_el_3_3 : Cond.eq (.elem (tmV 3) (.int (Int32.ofNat 3))) (.int (tB 3 3)) ∈ flatC (Jvm.Cond.and given_1 narrow_1) := List.mem_of_getElem? (i := 582) (by decide +kernel)
theorem m_el_3_4 : Cond.eq (.elem (tmV 3) (.int (Int32.ofNat 4))) (.int (tB 3 4)) ∈ flatC (Jvm.Cond.and given_1 narrow_1) := List.mem_of_getElem? (i := 583) (by decide +kernel)
theorem m_el_3_5 : Cond.eq (.elem (tmV 3) (.int (Int32.ofNat 5))) (.int (tB 3 5)) ∈ flatC (Jvm.Cond.and given_1 narrow_1) := List.mem_of_getElem? (i := 584) (by decide +kernel)
theorem m_el_3_6 : Cond.eq (.elem (tmV 3) (.int (Int32.ofNat 6))) (.int (tB 3 6)) ∈ flatC (Jvm.Cond.and given_1 narrow_1) := List.mem_of_getElem? (i := 585) (by decide +kernel)
theorem m_el_3 : ∀ j, j < 7 → Cond.eq (.elem (tmV 3) (.int (Int32.ofNat j))) (.int (tB 3 j)) ∈ flatC (Jvm.Cond.and given_1 narrow_1) := by
  intro j hj
  match j, hj with
  | 0, _ => exact m_el_3_0
  | 1, _ => exact m_el_3_1
  | 2, _ => exact m_el_3_2
  | 3, _ => exact m_el_3_3
  | 4, _ => exact m_el_3_4
  | 5, _ => exact m_el_3_5
  | 6, _ => exact m_el_3_6
  | n + 7, h => omega
theorem m_el_4_0 : Cond.eq (.elem (tmV 4) (.int (Int32.ofNat 0))) (.int (tB 4 0)) ∈ flatC (Jvm.Cond.and given_1 narrow_1) := List.mem_of_getElem? (i := 590) (by decide +kernel)
theorem m_el_4_1 : Cond.eq (.elem (tmV 4) (.int (Int32.ofNat 1))) (.int (tB 4 1)) ∈ flatC (Jvm.Cond.and given_1 narrow_1) := List.mem_of_getElem? (i := 591) (by decide +kernel)
theorem m_el_4_2 : Cond.eq (.elem (tmV 4) (.int (Int32.ofNat 2))) (.int (tB 4 2)) ∈ flatC (Jvm.Cond.and given_1 narrow_1) := List.mem_of_getElem? (i := 592) (by decide +kernel)
theorem m_el_4_3 : Cond.eq (.elem (tmV 4) (.int (Int32.ofNat 3))) (.int (tB 4 3)) ∈ flatC (Jvm.Cond.and given_1 narrow_1) := List.mem_of_getElem? (i := 593) (by decide +kernel)
theorem m_el_4_4 : Cond.eq (.elem (tmV 4) (.int (Int32.ofNat 4))) (.int (tB 4 4)) ∈ flatC (Jvm.Cond.and given_1 narrow_1) := List.mem_of_getElem? (i := 594) (by decide +kernel)
theorem m_el_4 : ∀ j, j < 5 → Cond.eq (.elem (tmV 4) (.int (Int32.ofNat j))) (.int (tB 4 j)) ∈ flatC (Jvm.Cond.and given_1 narrow_1) := by
  intro j hj
  match j, hj with
  | 0, _ => exact m_el_4_0
  | 1, _ => exact m_el_4_1
  | 2, _ => exact m_el_4_2
  | 3, _ => exact m_el_4_3
  | 4, _ => exact m_el_4_4
  | n + 5, h => omega
theorem m_el_5_0 : Cond.eq (.elem (tmV 5) (.int (Int32.ofNat 0))) (.int (tB 5 0)) ∈ flatC (Jvm.Cond.and given_1 narrow_1) := List.mem_of_getElem? (i := 599) (by decide +kernel)
theorem m_el_5_1 : Cond.eq (.elem (tmV 5) (.int (Int32.ofNat 1))) (.int (tB 5 1)) ∈ flatC (Jvm.Cond.and given_1 narrow_1) := List.mem_of_getElem? (i := 600) (by decide +kernel)
theorem m_el_5_2 : Cond.eq (.elem (tmV 5) (.int (Int32.ofNat 2))) (.int (tB 5 2)) ∈ flatC (Jvm.Cond.and given_1 narrow_1) := List.mem_of_getElem? (i := 601) (by decide +kernel)
theorem m_el_5_3 : Cond.eq (.elem (tmV 5) (.int (Int32.ofNat 3))) (.int (tB 5 3)) ∈ flatC (Jvm.Cond.and given_1 narrow_1) := List.mem_of_getElem? (i := 602) (by decide +kernel)
theorem m_el_5_4 : Cond.eq (.elem (tmV 5) (.int (Int32.ofNat 4))) (.int (tB 5 4)) ∈ flatC (Jvm.Cond.and given_1 narrow_1) := List.mem_of_getElem? (i := 603) (by decide +kernel)
theorem m_el_5_5 : Cond.eq (.elem (tmV 5) (.int (Int32.ofNat 5))) (.int (tB 5 5)) ∈ flatC (Jvm.Cond.and given_1 narrow_1) := List.mem_of_getElem? (i := 604) (by decide +kernel)
theorem m_el_5_6 : Cond.eq (.elem (tmV 5) (.int (Int32.ofNat 6))) (.int (tB 5 6)) ∈ flatC (Jvm.Cond.and given_1 narrow_1) := List.mem_of_getElem? (i := 605) (by decide +kernel)
theorem m_el_5_7 : Cond.eq (.elem (tmV 5) (.int (Int32.ofNat 7))) (.int (tB 5 7)) ∈ flatC (Jvm.Cond.and given_1 narrow_1) := List.mem_of_getElem? (i := 606) (by decide +kernel)
theorem m_el_5_8 : Cond.eq (.elem (tmV 5) (.int (Int32.ofNat 8))) (.int (tB 5 8)) ∈ flatC (Jvm.Cond.and given_1 narrow_1) := List.mem_of_getElem? (i := 607) (by decide +kernel)
theorem m_el_5_9 : Cond.eq (.elem (tmV 5) (.int (Int32.ofNat 9))) (.int (tB 5 9)) ∈ flatC (Jvm.Cond.and given_1 narrow_1) := List.mem_of_getElem? (i := 608) (by decide +kernel)
theorem m_el_5_10 : Cond.eq (.elem (tmV 5) (.int (Int32.ofNat 10))) (.int (tB 5 10)) ∈ flatC (Jvm.Cond.and given_1 narrow_1) := List.mem_of_getElem? (i := 609) (by decide +kernel)
theorem m_el_5 : ∀ j, j < 11 → Cond.eq (.elem (tmV 5) (.int (Int32.ofNat j))) (.int (tB 5 j)) ∈ flatC (Jvm.Cond.and given_1 narrow_1) := by
  intro j hj
  match j, hj with
  | 0, _ => exact m_el_5_0
  | 1, _ => exact m_el_5_1
  | 2, _ => exact m_el_5_2
  | 3, _ => exact m_el_5_3
  | 4, _ => exact m_el_5_4
  | 5, _ => exact m_el_5_5
  | 6, _ => exact m_el_5_6
  | 7, _ => exact m_el_5_7
  | 8, _ => exact m_el_5_8
  | 9, _ => exact m_el_5_9
  | 10, _ => exact m_el_5_10
  | n + 11, h => omega
theorem m_el_6_0 : Cond.eq (.elem (tmV 6) (.int (Int32.ofNat 0))) (.int (tB 6 0)) ∈ flatC (Jvm.Cond.and given_1 narrow_1) := List.mem_of_getElem? (i := 614) (by decide +kernel)
theorem m_el_6_1 : Cond.eq (.elem (tmV 6) (.int (Int32.ofNat 1))) (.int (tB 6 1)) ∈ flatC (Jvm.Cond.and given_1 narrow_1) := List.mem_of_getElem? (i := 615) (by decide +kernel)
theorem m_el_6 : ∀ j, j < 2 → Cond.eq (.elem (tmV 6) (.int (Int32.ofNat j))) (.int (tB 6 j)) ∈ flatC (Jvm.Cond.and given_1 narrow_1) := by
  intro j hj
  match j, hj with
  | 0, _ => exact m_el_6_0
  | 1, _ => exact m_el_6_1
  | n + 2, h => omega
theorem m_el_7_0 : Cond.eq (.elem (tmV 7) (.int (Int32.ofNat 0))) (.int (tB 7 0)) ∈ flatC (Jvm.Cond.and given_1 narrow_1) := List.mem_of_getElem? (i := 620) (by decide +kernel)
theorem m_el_7_1 : Cond.eq (.elem (tmV 7) (.int (Int32.ofNat 1))) (.int (tB 7 1)) ∈ flatC (Jvm.Cond.and given_1 narrow_1) := List.mem_of_getElem? (i := 621) (by decide +kernel)
theorem m_el_7_2 : Cond.eq (.elem (tmV 7) (.int (Int32.ofNat 2))) (.int (tB 7 2)) ∈ flatC (Jvm.Cond.and given_1 narrow_1) := List.mem_of_getElem? (i := 622) (by decide +kernel)
theorem m_el_7_3 : Cond.eq (.elem (tmV 7) (.int (Int32.ofNat 3))) (.int (tB 7 3)) ∈ flatC (Jvm.Cond.and given_1 narrow_1) := List.mem_of_getElem? (i := 623) (by decide +kernel)
theorem m_el_7_4 : Cond.eq (.elem (tmV 7) (.int (Int32.ofNat 4))) (.int (tB 7 4)) ∈ flatC (Jvm.Cond.and given_1 narrow_1) := List.mem_of_getElem? (i := 624) (by decide +kernel)
theorem m_el_7 : ∀ j, j < 5 → Cond.eq (.elem (tmV 7) (.int (Int32.ofNat j))) (.int (tB 7 j)) ∈ flatC (Jvm.Cond.and given_1 narrow_1) := by
  intro j hj
  match j, hj with
  | 0, _ => exact m_el_7_0
  | 1, _ => exact m_el_7_1
  | 2, _ => exact m_el_7_2
  | 3, _ => exact m_el_7_3
  | 4, _ => exact m_el_7_4
  | n + 5, h => omega
theorem m_el_8_0 : Cond.eq (.elem (tmV 8) (.int (Int32.ofNat 0))) (.int (tB 8 0)) ∈ flatC (Jvm.Cond.and given_1 narrow_1) := List.mem_of_getElem? (i := 629) (by decide +kernel)
theorem m_el_8_1 : Cond.eq (.elem (tmV 8) (.int (Int32.ofNat 1))) (.int (tB 8 1)) ∈ flatC (Jvm.Cond.and given_1 narrow_1) := List.mem_of_getElem? (i := 630) (by decide +kernel)
theorem m_el_8 : ∀ j, j < 2 → Cond.eq (.elem (tmV 8) (.int (Int32.ofNat j))) (.int (tB 8 j)) ∈ flatC (Jvm.Cond.and given_1 narrow_1) := by
  intro j hj
  match j, hj with
  | 0, _ => exact m_el_8_0
  | 1, _ => exact m_el_8_1
  | n + 2, h => omega
theorem m_el_9_0 : Cond.eq (.elem (tmV 9) (.int (Int32.ofNat 0))) (.int (tB 9 0)) ∈ flatC (Jvm.Cond.and given_1 narrow_1) := List.mem_of_getElem? (i := 635) (by decide +kernel)
theorem m_el_9_1 : Cond.eq (.elem (tmV 9) (.int (Int32.ofNat 1))) (.int (tB 9 1)) ∈ flatC (Jvm.Cond.and given_1 narrow_1) := List.mem_of_getElem? (i := 636) (by decide +kernel)
theorem m_el_9_2 : Cond.eq (.elem (tmV 9) (.int (Int32.ofNat 2))) (.int (tB 9 2)) ∈ flatC (Jvm.Cond.and given_1 narrow_1) := List.mem_of_getElem? (i := 637) (by decide +kernel)
theorem m_el_9_3 : Cond.eq (.elem (tmV 9) (.int (Int32.ofNat 3))) (.int (tB 9 3)) ∈ flatC (Jvm.Cond.and given_1 narrow_1) := List.mem_of_getElem? (i := 638) (by decide +kernel)
theorem m_el_9_4 : Cond.eq (.elem (tmV 9) (.int (Int32.ofNat 4))) (.int (tB 9 4)) ∈ flatC (Jvm.Cond.and given_1 narrow_1) := List.mem_of_getElem? (i := 639) (by decide +kernel)
theorem m_el_9 : ∀ j, j < 5 → Cond.eq (.elem (tmV 9) (.int (Int32.ofNat j))) (.int (tB 9 j)) ∈ flatC (Jvm.Cond.and given_1 narrow_1) := by
  intro j hj
  match j, hj with
  | 0, _ => exact m_el_9_0
  | 1, _ => exact m_el_9_1
  | 2, _ => exact m_el_9_2
  | 3, _ => exact m_el_9_3
  | 4, _ => exact m_el_9_4
  | n + 5, h => omega
theorem m_el_10_0 : Cond.eq (.elem (tmV 10) (.int (Int32.ofNat 0))) (.int (tB 10 0)) ∈ flatC (Jvm.Cond.and given_1 narrow_1) := List.mem_of_getElem? (i := 644) (by decide +kernel)
theorem m_el_10_1 : Cond.eq (.elem (tmV 10) (.int (Int32.ofNat 1))) (.int (tB 10 1)) ∈ flatC (Jvm.Cond.and given_1 narrow_1) := List.mem_of_getElem? (i := 645) (by decide +kernel)
theorem m_el_10 : ∀ j, j < 2 → Cond.eq (.elem (tmV 10) (.int (Int32.ofNat j))) (.int (tB 10 j)) ∈ flatC (Jvm.Cond.and given_1 narrow_1) := by
  intro j hj
  match j, hj with
  | 0, _ => exact m_el_10_0
  | 1, _ => exact m_el_10_1
  | n + 2, h => omega
theorem m_el_11_0 : Cond.eq (.elem (tmV 11) (.int (Int32.ofNat 0))) (.int (tB 11 0)) ∈ flatC (Jvm.Cond.and given_1 narrow_1) := List.mem_of_getElem? (i := 650) (by decide +kernel)
theorem m_el_11_1 : Cond.eq (.elem (tmV 11) (.int (Int32.ofNat 1))) (.int (tB 11 1)) ∈ flatC (Jvm.Cond.and given_1 narrow_1) := List.mem_of_getElem? (i := 651) (by decide +kernel)
theorem m_el_11_2 : Cond.eq (.elem (tmV 11) (.int (Int32.ofNat 2))) (.int (tB 11 2)) ∈ flatC (Jvm.Cond.and given_1 narrow_1) := List.mem_of_getElem? (i := 652) (by decide +kernel)
theorem m_el_11_3 : Cond.eq (.elem (tmV 11) (.int (Int32.ofNat 3))) (.int (tB 11 3)) ∈ flatC (Jvm.Cond.and given_1 narrow_1) := List.mem_of_getElem? (i := 653) (by decide +kernel)
theorem m_el_11_4 : Cond.eq (.elem (tmV 11) (.int (Int32.ofNat 4))) (.int (tB 11 4)) ∈ flatC (Jvm.Cond.and given_1 narrow_1) := List.mem_of_getElem? (i := 654) (by decide +kernel)
theorem m_el_11 : ∀ j, j < 5 → Cond.eq (.elem (tmV 11) (.int (Int32.ofNat j))) (.int (tB 11 j)) ∈ flatC (Jvm.Cond.and given_1 narrow_1) := by
  intro j hj
  match j, hj with
  | 0, _ => exact m_el_11_0
  | 1, _ => exact m_el_11_1
  | 2, _ => exact m_el_11_2
  | 3, _ => exact m_el_11_3
  | 4, _ => exact m_el_11_4
  | n + 5, h => omega
theorem m_el_12_0 : Cond.eq (.elem (tmV 12) (.int (Int32.ofNat 0))) (.int (tB 12 0)) ∈ flatC (Jvm.Cond.and given_1 narrow_1) := List.mem_of_getElem? (i := 659) (by decide +kernel)
theorem m_el_12_1 : Cond.eq (.elem (tmV 12) (.int (Int32.ofNat 1))) (.int (tB 12 1)) ∈ flatC (Jvm.Cond.and given_1 narrow_1) := List.mem_of_getElem? (i := 660) (by decide +kernel)
theorem m_el_12 : ∀ j, j < 2 → Cond.eq (.elem (tmV 12) (.int (Int32.ofNat j))) (.int (tB 12 j)) ∈ flatC (Jvm.Cond.and given_1 narrow_1) := by
  intro j hj
  match j, hj with
  | 0, _ => exact m_el_12_0
  | 1, _ => exact m_el_12_1
  | n + 2, h => omega
theorem m_el_13_0 : Cond.eq (.elem (tmV 13) (.int (Int32.ofNat 0))) (.int (tB 13 0)) ∈ flatC (Jvm.Cond.and given_1 narrow_1) := List.mem_of_getElem? (i := 665) (by decide +kernel)
theorem m_el_13_1 : Cond.eq (.elem (tmV 13) (.int (Int32.ofNat 1))) (.int (tB 13 1)) ∈ flatC (Jvm.Cond.and given_1 narrow_1) := List.mem_of_getElem? (i := 666) (by decide +kernel)
theorem m_el_13_2 : Cond.eq (.elem (tmV 13) (.int (Int32.ofNat 2))) (.int (tB 13 2)) ∈ flatC (Jvm.Cond.and given_1 narrow_1) := List.mem_of_getElem? (i := 667) (by decide +kernel)
theorem m_el_13_3 : Cond.eq (.elem (tmV 13) (.int (Int32.ofNat 3))) (.int (tB 13 3)) ∈ flatC (Jvm.Cond.and given_1 narrow_1) := List.mem_of_getElem? (i := 668) (by decide +kernel)
theorem m_el_13_4 : Cond.eq (.elem (tmV 13) (.int (Int32.ofNat 4))) (.int (tB 13 4)) ∈ flatC (Jvm.Cond.and given_1 narrow_1) := List.mem_of_getElem? (i := 669) (by decide +kernel)
theorem m_el_13_5 : Cond.eq (.elem (tmV 13) (.int (Int32.ofNat 5))) (.int (tB 13 5)) ∈ flatC (Jvm.Cond.and given_1 narrow_1) := List.mem_of_getElem? (i := 670) (by decide +kernel)
theorem m_el_13 : ∀ j, j < 6 → Cond.eq (.elem (tmV 13) (.int (Int32.ofNat j))) (.int (tB 13 j)) ∈ flatC (Jvm.Cond.and given_1 narrow_1) := by
  intro j hj
  match j, hj with
  | 0, _ => exact m_el_13_0
  | 1, _ => exact m_el_13_1
  | 2, _ => exact m_el_13_2
  | 3, _ => exact m_el_13_3
  | 4, _ => exact m_el_13_4
  | 5, _ => exact m_el_13_5
  | n + 6, h => omega
theorem m_el_14_0 : Cond.eq (.elem (tmV 14) (.int (Int32.ofNat 0))) (.int (tB 14 0)) ∈ flatC (Jvm.Cond.and given_1 narrow_1) := List.mem_of_getElem? (i := 675) (by decide +kernel)
theorem m_el_14_1 : Cond.eq (.elem (tmV 14) (.int (Int32.ofNat 1))) (.int (tB 14 1)) ∈ flatC (Jvm.Cond.and given_1 narrow_1) := List.mem_of_getElem? (i := 676) (by decide +kernel)
theorem m_el_14_2 : Cond.eq (.elem (tmV 14) (.int (Int32.ofNat 2))) (.int (tB 14 2)) ∈ flatC (Jvm.Cond.and given_1 narrow_1) := List.mem_of_getElem? (i := 677) (by decide +kernel)
theorem m_el_14 : ∀ j, j < 3 → Cond.eq (.elem (tmV 14) (.int (Int32.ofNat j))) (.int (tB 14 j)) ∈ flatC (Jvm.Cond.and given_1 narrow_1) := by
  intro j hj
  match j, hj with
  | 0, _ => exact m_el_14_0
  | 1, _ => exact m_el_14_1
  | 2, _ => exact m_el_14_2
  | n + 3, h => omega
theorem m_el_15_0 : Cond.eq (.elem (tmV 15) (.int (Int32.ofNat 0))) (.int (tB 15 0)) ∈ flatC (Jvm.Cond.and given_1 narrow_1) := List.mem_of_getElem? (i := 682) (by decide +kernel)
theorem m_el_15_1 : Cond.eq (.elem (tmV 15) (.int (Int32.ofNat 1))) (.int (tB 15 1)) ∈ flatC (Jvm.Cond.and given_1 narrow_1) := List.mem_of_getElem? (i := 683) (by decide +kernel)
theorem m_el_15 : ∀ j, j < 2 → Cond.eq (.elem (tmV 15) (.int (Int32.ofNat j))) (.int (tB 15 j)) ∈ flatC (Jvm.Cond.and given_1 narrow_1) := by
  intro j hj
  match j, hj with
  | 0, _ => exact m_el_15_0
  | 1, _ => exact m_el_15_1
  | n + 2, h => omega
theorem m_el_16_0 : Cond.eq (.elem (tmV 16) (.int (Int32.ofNat 0))) (.int (tB 16 0)) ∈ flatC (Jvm.Cond.and given_1 narrow_1) := List.mem_of_getElem? (i := 688) (by decide +kernel)
theorem m_el_16_1 : Cond.eq (.elem (tmV 16) (.int (Int32.ofNat 1))) (.int (tB 16 1)) ∈ flatC (Jvm.Cond.and given_1 narrow_1) := List.mem_of_getElem? (i := 689) (by decide +kernel)
theorem m_el_16 : ∀ j, j < 2 → Cond.eq (.elem (tmV 16) (.int (Int32.ofNat j))) (.int (tB 16 j)) ∈ flatC (Jvm.Cond.and given_1 narrow_1) := by
  intro j hj
  match j, hj with
  | 0, _ => exact m_el_16_0
  | 1, _ => exact m_el_16_1
  | n + 2, h => omega
theorem m_el_17_0 : Cond.eq (.elem (tmV 17) (.int (Int32.ofNat 0))) (.int (tB 17 0)) ∈ flatC (Jvm.Cond.and given_1 narrow_1) := List.mem_of_getElem? (i := 694) (by decide +kernel)
theorem m_el_17_1 : Cond.eq (.elem (tmV 17) (.int (Int32.ofNat 1))) (.int (tB 17 1)) ∈ flatC (Jvm.Cond.and given_1 narrow_1) := List.mem_of_getElem? (i := 695) (by decide +kernel)
theorem m_el_17_2 : Cond.eq (.elem (tmV 17) (.int (Int32.ofNat 2))) (.int (tB 17 2)) ∈ flatC (Jvm.Cond.and given_1 narrow_1) := List.mem_of_getElem? (i := 696) (by decide +kernel)
theorem m_el_17_3 : Cond.eq (.elem (tmV 17) (.int (Int32.ofNat 3))) (.int (tB 17 3)) ∈ flatC (Jvm.Cond.and given_1 narrow_1) := List.mem_of_getElem? (i := 697) (by decide +kernel)
theorem m_el_17 : ∀ j, j < 4 → Cond.eq (.elem (tmV 17) (.int (Int32.ofNat j))) (.int (tB 17 j)) ∈ flatC (Jvm.Cond.and given_1 narrow_1) := by
  intro j hj
  match j, hj with
  | 0, _ => exact m_el_17_0
  | 1, _ => exact m_el_17_1
  | 2, _ => exact m_el_17_2
  | 3, _ => exact m_el_17_3
  | n + 4, h => omega
theorem m_el : ∀ i, i < 18 → ∀ j, j < tL i → Cond.eq (.elem (tmV i) (.int (Int32.ofNat j))) (.int (tB i j)) ∈ flatC (Jvm.Cond.and given_1 narrow_1) := by
  intro i hi
  match i, hi with
  | 0, _ => exact m_el_0
  | 1, _ => exact m_el_1
  | 2, _ => exact m_el_2
  | 3, _ => exact m_el_3
  | 4, _ => exact m_el_4
  | 5, _ => exact m_el_5
  | 6, _ => exact m_el_6
  | 7, _ => exact m_el_7
  | 8, _ => exact m_el_8
  | 9, _ => exact m_el_9
  | 10, _ => exact m_el_10
  | 11, _ => exact m_el_11
  | 12, _ => exact m_el_12
  | 13, _ => exact m_el_13
  | 14, _ => exact m_el_14
  | 15, _ => exact m_el_15
  | 16, _ => exact m_el_16
  | 17, _ => exact m_el_17
  | n + 18, h => omega
theorem m_xa : Cond.arrayOf tmX (.object "java/lang/String") ∈ flatC (Jvm.Cond.and given_1 narrow_1) := List.mem_of_getElem? (i := 12) (by decide +kernel)
theorem m_xl : Cond.eq (.length tmX) (.int 18) ∈ flatC (Jvm.Cond.and given_1 narrow_1) := List.mem_of_getElem? (i := 13) (by decide +kernel)
theorem m_cs : Cond.eq (.static "java/lang/String" "COMPACT_STRINGS" "Z") (.int 1) ∈ flatC (Jvm.Cond.and given_1 narrow_1) := List.mem_of_getElem? (i := 6) (by decide +kernel)
theorem m_sf : Cond.isRef (.static "jdk/internal/util/Preconditions" "SIOOBE_FORMATTER" "Ljava/util/function/BiFunction;") ∈ flatC (Jvm.Cond.and given_1 narrow_1) := List.mem_of_getElem? (i := 7) (by decide +kernel)
theorem st_TX {b : Nat} {s : State} (hts : ∀ w ∈ lw_tbl, w.before #[Value.ref b] s = true) (hgv : (Jvm.Cond.and given_1 narrow_1).before #[Value.ref b] s = true) : ∃ (tK tV : Nat → Nat) (ta : Nat), tXF tK tV ta (fun q => s.heap.size ≤ q) s s.heap := by
  have hs := flat_of_before _ hgv
  have hA : ∀ a : Nat, a < s.heap.size → ¬ (fun q : Nat => s.heap.size ≤ q) a := fun a h => Nat.not_le.mpr h
  have h0 : ∀ i : Nat, ∃ q : Nat × Nat, i < 18 → (tmT i).eval #[Value.ref b] s none [] s = some (.ref q.1) ∧ va_O "java/lang/String" q.1 (fun q => s.heap.size ≤ q) s s.heap ∧ va_OF "java/lang/String" "coder" "B" (.int 0) q.1 (fun q => s.heap.size ≤ q) s s.heap ∧ va_OF "java/lang/String" "value" "[B" (.ref q.2) q.1 (fun q => s.heap.size ≤ q) s s.heap ∧ va_T .byte q.2 (tL i) (fun j => .int (tB i j)) (fun q => s.heap.size ≤ q) s s.heap := by
    intro i
    by_cases hi : i < 18
    · have hex := hs _ (m_ex i hi)
      obtain ⟨a, c, cA, kA, q1, -⟩ := Cond.exactly_spec (args := #[Value.ref b]) (first := s) (o := none) (s := s) (idx := []) (t := tmT i) (cls := "java/lang/String") hex
      obtain ⟨t, ht, hT⟩ := va_Tof (f := fun j => .int (tB i j)) (A := fun q => s.heap.size ≤ q) (by have := tL_all i hi; omega) (hs _ (m_ar i hi)) (va_eqt (hs _ (m_le i hi))) (fun j hj => va_eqt (hs _ (m_el i hi j hj))) hA
      exact ⟨(a, t), fun _ => ⟨q1, va_Oof hex q1 hA, vk_OFof q1 (va_eqt (hs _ (m_co i hi))) hA, vk_OFof q1 ht hA, hT⟩⟩
    · exact ⟨(0, 0), fun h => absurd h hi⟩
  obtain ⟨ad, had⟩ := Classical.axiomOfChoice h0
  obtain ⟨ta, ht, hT⟩ := va_Tof (f := fun j => .ref (ad j).1) (N := 18) (A := fun q => s.heap.size ≤ q) (by decide) (hs _ m_xa) (va_eqt (hs _ m_xl)) (fun j hj => va_eqv (hs _ (m_tx j hj)) (had j hj).1) hA
  have hZ := va_Zof (A := fun q => s.heap.size ≤ q) (hts (.laysStatic "BuskPitchesLaw" "TEXTS" "[Ljava/lang/String;") (lw_t 782 (by decide +kernel))) (hts (.initialized "BuskPitchesLaw") (lw_t 23 (by decide +kernel))) ht hA
  have hC := va_Zof (A := fun q => s.heap.size ≤ q) (hts (.laysStatic "java/lang/String" "COMPACT_STRINGS" "Z") (lw_t 677 (by decide +kernel))) (hts (.initialized "java/lang/String") (lw_t 37 (by decide +kernel))) (va_eqi (hs _ m_cs)) hA
  have hQ := va_Zqof (A := fun q => s.heap.size ≤ q) (hts (.laysStatic "jdk/internal/util/Preconditions" "SIOOBE_FORMATTER" "Ljava/util/function/BiFunction;") (lw_t 693 (by decide +kernel))) (hts (.initialized "jdk/internal/util/Preconditions") (lw_t 43 (by decide +kernel))) (hs _ m_sf) hA
  refine ⟨fun i => (ad i).1, fun i => (ad i).2, ta, hZ, hT, fun i hi => (had i hi).2, hC, ?_⟩
  rcases hQ with h | ⟨t, h⟩
  · exact ⟨.null, Or.inl rfl, h⟩
  · exact ⟨.ref t, Or.inr ⟨t, rfl⟩, h⟩
