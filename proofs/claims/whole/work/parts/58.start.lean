/-! the law's start: what the tables say of it -/
theorem str_at {own tx : String} {k : Nat} {a : Array Value} {U : State} (h : (Cond.stringRef own k tx).before a U = true) : ∃ q : Nat, vk_R own k tx q U := by
  have h1 : (Cond.stringRef own k tx).before #[] U = true := h
  have h2 := h1
  simp only [Cond.before, Cond.holds, Cond.value] at h2
  cases hc : U.vm.findClass own with
  | none => rw [hc] at h2; cases h2
  | some cC =>
    rw [hc] at h2
    cases hr : U.resolvedAt? own k with
    | none => rw [hr] at h2; simp at h2
    | some r =>
      rw [hr] at h2
      cases r with
      | string q =>
        refine ⟨q, h1, ?_⟩
        simp only [State.resolvedAt?, hc, Option.bind_eq_bind, Option.bind_some] at hr
        cases hk : U.vm.classes[cC]? with
        | none => rw [hk] at hr; cases hr
        | some kC =>
          rw [hk, Option.bind_some] at hr
          simp [Term.eval, hc, hk, hr]
      | _ => simp at h2
-- GEN
theorem inJ0 : ∀ w ∈ wsJ00, w ∈ lw_all := lw_ats [475, 477] (by decide +kernel)
theorem inJx00060 : ∀ w ∈ wsJx000600, w ∈ lw_all := lw_ats [463, 464, 465, 466, 467, 468] (by decide +kernel)
theorem arr_k {args : Array Value} {s : State} {t : FieldType} (h : (Cond.arrayClass t).before args s = true) (ho : ∀ C, t ≠ .object C) : ∃ c : ClassId, ArrOfT s c t ∧ va_RA s c t := by
  obtain ⟨c, k, comp, h1, h2, h3⟩ := Cond.arrayClass_spec h
  refine ⟨c, fun N z => ⟨(fun q hq => by cases hq), k, h2, comp, h3⟩, ?_⟩
  cases t <;> first | exact h1 | exact absurd rfl (ho _)
theorem st_K {args : Array Value} {s : State} (hts : ∀ w ∈ lw_all, w.before args s = true) (hO : (Cond.arrayOver (.object "BuskPitches$State")).before args s = true) (hOA : (Cond.arrayOver (.array .int)).before args s = true) : ∃ (D : va_G) (cy : Nat → ClassId), va_K D vwCl (tyA cy) s := by
  obtain ⟨c0, i0, h0⟩ := u_known (C := RJ0) (T := TJ0) (N := 2) (n := 4) hts inJ0 (hts (.instantiable RJ0 4) (lw_at 474 (by decide +kernel)))
  obtain ⟨c1, i1, h1⟩ := u_known (C := RJx00060) (T := TJx00060) (N := 6) (n := 6) hts inJx00060 (hts (.instantiable RJx00060 6) (lw_at 459 (by decide +kernel)))
  obtain ⟨c2, i2, h2⟩ := u_known (C := RX1) (T := TX1) (N := 3) (n := 3) hts inX1 (hts (.instantiable RX1 3) (lw_at 181 (by decide +kernel)))
  obtain ⟨c3, i3, h3⟩ := u_known (C := RX2) (T := TX2) (N := 2) (n := 2) hts inX2 (hts (.instantiable RX2 2) (lw_at 201 (by decide +kernel)))
  obtain ⟨c4, i4, h4⟩ := u_known (C := RX3) (T := TX3) (N := 18) (n := 18) hts inX3 (hts (.instantiable RX3 18) (lw_at 94 (by decide +kernel)))
  obtain ⟨c5, i5, h5⟩ := u_known (C := RX4) (T := TX4) (N := 9) (n := 9) hts inX4 (hts (.instantiable RX4 9) (lw_at 86 (by decide +kernel)))
  obtain ⟨c6, i6, h6⟩ := u_known (C := RX5) (T := TX5) (N := 21) (n := 21) hts inX5 (hts (.instantiable RX5 21) (lw_at 997 (by decide +kernel)))
  obtain ⟨a0, e0⟩ := arr_k (hts (.arrayClass .int) (lw_at 179 (by decide +kernel))) (fun _ h => by cases h)
  obtain ⟨a1, e1⟩ := arr_k (hts (.arrayClass .float) (lw_at 178 (by decide +kernel))) (fun _ h => by cases h)
  obtain ⟨a2, e2⟩ := arr_k (hts (.arrayClass .char) (lw_at 214 (by decide +kernel))) (fun _ h => by cases h)
  obtain ⟨a5, e5⟩ := arr_k (hts (.arrayClass .long) (lw_at 1436 (by decide +kernel))) (fun _ h => by cases h)
  obtain ⟨a6, e6⟩ := arr_k (hts (.arrayClass .double) (lw_at 1437 (by decide +kernel))) (fun _ h => by cases h)
  obtain ⟨p3, a3, k3, q1, q2, q3, q4, q5⟩ := Cond.arrayOver_spec hO
  obtain ⟨p4, a4, k4, r1, r2, r3, r4, r5⟩ := arrayOverA_spec hOA
  have e3 : ArrOfT s a3 (.object "BuskPitches$State") ∧ va_RA s a3 (.object "BuskPitches$State") := ⟨fun N z => ⟨(fun q hq => by cases hq), k3, q3, p3, q4⟩, k3, p3, q3, q4, q1, q5⟩
  have e4 : ArrOfT s a4 (.array .int) ∧ va_RA s a4 (.array .int) := ⟨fun N z => ⟨(fun q hq => by cases hq), k4, r3, p4, r4⟩, r5⟩
  refine ⟨(fun k => match k with | 0 => c0 | 1 => c1 | 2 => c2 | 3 => c3 | 4 => c4 | 5 => c5 | _ => c6, fun k => match k with | 0 => i0 | 1 => i1 | 2 => i2 | 3 => i3 | 4 => i4 | 5 => i5 | _ => i6), (fun k => match k with | 0 => a0 | 1 => a1 | 2 => a2 | 3 => a3 | 4 => a4 | 5 => a5 | _ => a6), ?_, ?_⟩
  · intro k q hq
    match k, hq with
    | 0, hq => cases hq; exact h0
    | 1, hq => cases hq; exact h1
    | 2, hq => cases hq; exact h2
    | 3, hq => cases hq; exact h3
    | 4, hq => cases hq; exact h4
    | 5, hq => cases hq; exact h5
    | 6, hq => cases hq; exact h6
    | k + 7, hq => simp [vwCl] at hq
  · intro k q hq
    match k, hq with
    | 0, hq => cases hq; exact e0
    | 1, hq => cases hq; exact e1
    | 2, hq => cases hq; exact e2
    | 3, hq => cases hq; exact e3
    | 4, hq => cases hq; exact e4
    | 5, hq => cases hq; exact e5
    | 6, hq => cases hq; exact e6
    | k + 7, hq => simp [tyA] at hq
theorem exL_in : ∀ w ∈ exL, w ∈ lw_tbl := by
  intro w hw
  simp only [exL, List.mem_cons, List.not_mem_nil, or_false] at hw
  rcases hw with rfl | rfl | rfl | rfl | rfl | rfl | rfl | rfl | rfl
  · exact List.mem_of_getElem? (i := 348) (by decide +kernel)
  · exact List.mem_of_getElem? (i := 420) (by decide +kernel)
  · exact List.mem_of_getElem? (i := 436) (by decide +kernel)
  · exact List.mem_of_getElem? (i := 599) (by decide +kernel)
  · exact List.mem_of_getElem? (i := 852) (by decide +kernel)
  · exact List.mem_of_getElem? (i := 960) (by decide +kernel)
  · exact List.mem_of_getElem? (i := 350) (by decide +kernel)
  · exact List.mem_of_getElem? (i := 352) (by decide +kernel)
  · exact List.mem_of_getElem? (i := 354) (by decide +kernel)
theorem exS_in : ∀ q ∈ exS, (Cond.stringRef RX4 q.1 q.2) ∈ lw_tbl := by
  intro q hq
  simp only [exS, List.mem_cons, List.not_mem_nil, or_false] at hq
  rcases hq with rfl | rfl | rfl | rfl | rfl | rfl | rfl | rfl | rfl | rfl | rfl | rfl | rfl | rfl | rfl | rfl | rfl | rfl | rfl
  · exact List.mem_of_getElem? (i := 391) (by decide +kernel)
  · exact List.mem_of_getElem? (i := 427) (by decide +kernel)
  · exact List.mem_of_getElem? (i := 443) (by decide +kernel)
  · exact List.mem_of_getElem? (i := 523) (by decide +kernel)
  · exact List.mem_of_getElem? (i := 548) (by decide +kernel)
  · exact List.mem_of_getElem? (i := 606) (by decide +kernel)
  · exact List.mem_of_getElem? (i := 687) (by decide +kernel)
  · exact List.mem_of_getElem? (i := 710) (by decide +kernel)
  · exact List.mem_of_getElem? (i := 777) (by decide +kernel)
  · exact List.mem_of_getElem? (i := 779) (by decide +kernel)
  · exact List.mem_of_getElem? (i := 791) (by decide +kernel)
  · exact List.mem_of_getElem? (i := 859) (by decide +kernel)
  · exact List.mem_of_getElem? (i := 919) (by decide +kernel)
  · exact List.mem_of_getElem? (i := 920) (by decide +kernel)
  · exact List.mem_of_getElem? (i := 928) (by decide +kernel)
  · exact List.mem_of_getElem? (i := 944) (by decide +kernel)
  · exact List.mem_of_getElem? (i := 967) (by decide +kernel)
  · exact List.mem_of_getElem? (i := 983) (by decide +kernel)
  · exact List.mem_of_getElem? (i := 995) (by decide +kernel)
theorem st_X {b : Nat} {s : State} (hts : ∀ w ∈ lw_tbl, w.before #[Value.ref b] s = true) (hgv : (Jvm.Cond.and given_1 narrow_1).before #[Value.ref b] s = true) : exF (fun q => s.heap.size ≤ q) s s.heap := by
  have hs := flat_of_before _ hgv
  have hA : ∀ a : Nat, a < s.heap.size → ¬ s.heap.size ≤ a := fun a h => Nat.not_le.mpr h
  refine ⟨fun w hw => va_Nw.of (exL_tab w hw) (hts w (exL_in w hw)), fun q hq => str_at (hts _ (exS_in q hq)), ?_, ?_⟩
  · exact vx_Zqof (hts (.laysStatic Bundle.tN "UNASSIGNED_STACK" Bundle.steD) (List.mem_of_getElem? (i := 373) (by decide +kernel))) (hts (.initialized Bundle.tN) (List.mem_of_getElem? (i := 71) (by decide +kernel))) (hs _ (by decide +kernel)) hA
  · exact vx_Zqof (hts (.laysStatic Bundle.tN "SUPPRESSED_SENTINEL" Bundle.listD) (List.mem_of_getElem? (i := 375) (by decide +kernel))) (hts (.initialized Bundle.tN) (List.mem_of_getElem? (i := 71) (by decide +kernel))) (hs _ (by decide +kernel)) hA
theorem st_C {b : Nat} {s : State} (hgv : (Jvm.Cond.and given_1 narrow_1).before #[Value.ref b] s = true) : ncF s := by
  have hs := flat_of_before _ hgv
  intro q hq
  simp only [ncL, List.mem_cons, List.not_mem_nil, or_false] at hq
  rcases hq with rfl | rfl | rfl | rfl <;> exact va_Nc.of (args := #[Value.ref b]) (hs _ (by decide +kernel))
theorem st_N {b : Nat} {s : State} (hts : ∀ w ∈ lw_tbl, w.before #[Value.ref b] s = true) : nst s := va_Nw.of rfl (hts (.methodLinkNest RX3 84 yX4_isPitch RX4) (List.mem_of_getElem? (i := 259) (by decide +kernel)))
theorem st_O {b : Nat} {s : State} (hts : ∀ w ∈ lw_tbl, w.before #[Value.ref b] s = true) : (Cond.arrayOver (.object "BuskPitches$State")).before #[Value.ref b] s = true := hts _ (List.mem_of_getElem? (i := 187) (by decide +kernel))
theorem st_OA {b : Nat} {s : State} (hts : ∀ w ∈ lw_tbl, w.before #[Value.ref b] s = true) : (Cond.arrayOver (.array .int)).before #[Value.ref b] s = true := hts _ (List.mem_of_getElem? (i := 1003) (by decide +kernel))
theorem st_E {b : Nat} {s : State} (hts : ∀ w ∈ lw_tbl, w.before #[Value.ref b] s = true) : eZ s := ⟨va_AO.of (st_O hts), st_OA hts, va_Nw.of rfl (hts (.methodLinkNest RX4 35 yX2_init RX4) (List.mem_of_getElem? (i := 202) (by decide +kernel)))⟩
theorem st_T {l : Launch} (hflags : l.flags = flags0) : l.stackTraces = false := by
  unfold Launch.stackTraces
  rw [hflags]
  decide +kernel
