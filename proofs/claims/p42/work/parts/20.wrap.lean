/-! the law's wrappers -/
def ncL : List (String × String) := [("java/lang/IllegalArgumentException", "java/lang/IndexOutOfBoundsException"), ("java/lang/UnsupportedOperationException", "java/lang/IllegalArgumentException"), ("java/lang/UnsupportedOperationException", "java/lang/IndexOutOfBoundsException"), ("java/util/NoSuchElementException", "java/lang/IndexOutOfBoundsException")]
def ncF (U : State) : Prop := ∀ q ∈ ncL, va_Nc q.1 q.2 U
theorem ncF_moved {u U : State} (hvm : u.vm.Alike U.vm) (h : ncF u) : ncF U := fun q hq => va_Nc.moved hvm (h q hq)
def sY (D : va_G) (cy : Nat → ClassId) (ws : va_W) (sz : Nat) : State → Prop := fun U => sX D cy ws sz U ∧ ncF U
theorem sY_blind (av : List Value) (D : va_G) (cy : Nat → ClassId) (ws : va_W) (sz : Nat) : FrameBlind (va_Pc av (sY D cy ws sz)) := fun a U g mk q => ⟨q.1, (sX_blind av D cy ws sz a U g mk ⟨q.1, q.2.1⟩).2, ncF_moved (u := U) (U := U.calling g mk a) (Vm.Alike.refl U.vm) q.2.2⟩
section WB
variable {p : Program} {l : Launch} {e : Env} {R : Room} {s : State} {m : MethodId} {args : Array Value} {below : List Frame} {meth : Method} {c : Code} {H : Heap} {locs : List Loc} {cells slots : Nat} {Q : State → Prop}
variable {cc : ByteArray} {pc : Nat} {ls : Array Slot} {rest st0 : List Value} {D : va_G} {A : Nat → Prop} {a : Nat} {ws : va_W} {cy : Nat → ClassId} {own : String} {α β : Type}
theorem sY_at {av : List Value} (hP : va_P D vwCl ws H) (hD : va_D A ws) (hK : va_K D vwCl (tyA cy) s) (hN : nst s) (hX : exF A s s.heap) (hC : ncF s) (hS : va_S A s.heap H locs) (hA : ∀ q, s.heap.size ≤ q → A q) : ∀ U : State, U.heap = H → s.WarmedH U.vm → va_Pc av (sY D cy ws H.size) av.toArray U := fun U hU hW => ⟨rfl, (sX_at (av := av) hP hD hK hN hX hS hA U hU hW).2, ncF_moved hW.alike hC⟩
set_option maxHeartbeats 1000000 in
theorem mk_l {y : MethodName} {maxL : Nat} {ret : Option FieldType} {hh : List (Nat × Nat × Nat × Nat)} {rm : Room} {av : List Value} {Qc : (Nat → Prop) → Array Value → State → Outcome → State → Prop} {Rc : String} {mc ms sz : Nat}
    (hy : plainName y.cls = true) (hRc : y.cls = Rc) (hn : (lg_sl av).length ≤ maxL)
    (body : ∀ (p : Program) (e : Env) (s : State) (m : MethodId) (args : Array Value) (below : List Frame) (meth : Method) (c : Code) (ls : Array Slot) (A : Nat → Prop), Cx p s m c args cc Rc → c.maxLocals = maxL → meth.sig.returnType = ret → meth.locks = false → va_K D vwCl (tyA cy) s → nst s → va_P D vwCl ws s.heap → va_D A ws → va_S A s.heap s.heap [] → (∀ q, s.heap.size ≤ q → A q) → lv_has ls maxL (lv_args 0 av) → c.exceptionTable.toList = tableOf hh → exF A s s.heap → ncF s →
      W p l e rm s m args below meth c s.heap [] 0 0 (MQ below (Qc A) args s mc ms A) (F0 m 0 ls [])) :
    Met l y (.codeWith y cc maxL ret hh :: lw_all) rm (va_Pc av (sY D cy ws sz)) (Qc (va_A ws sz)) mc ms (va_A ws sz) := by
  refine va_MetW (cc := cc) (maxL := maxL) (ret := ret) (hh := hh) hy rfl ?_
  intro p e s m args below meth c s₁ B hml hv
  obtain ⟨rfl, ⟨⟨hsz, hP, hK, hD, hN⟩, hX⟩, hC⟩ := hv
  subst hsz
  have hts := atoms_spec (ws := .codeWith y cc maxL ret hh :: lw_all) B.pre
  have htab := vx_table (x := y) B (hts _ List.mem_cons_self)
  have hown : s.vm.findClass y.cls = some m.cls := findClass_of_methodNamed B.named
  have hl := lv_entry av (n := maxL) hn
  rw [lg_entry_eq]
  exact body p e s m av.toArray below meth c _ _ ⟨B.exec, B.bytes, fun w hw => hts w (List.mem_cons_of_mem _ hw), hRc ▸ hown⟩ hml B.returns B.notSynchronized hK hN hP (hD.self (sz := s.heap.size)) va_S.rf (fun q h => Or.inr h) hl htab hX hC
def lkW (own : String) (idx : Nat) (y : MethodName) (bytes : ByteArray) (maxL : Nat) (ret : Option FieldType) (hh : List (Nat × Nat × Nat × Nat)) (n : Nat) (is : List Nat) : Bool := chk ([.methodLink own idx y, .static y, .initialized y.cls, .codeWith y bytes maxL ret hh] : List Cond) is && (decide (y.cls ≠ "java/lang/invoke/MethodHandle") && (decide (y.cls ≠ "java/lang/invoke/VarHandle") && decide ((parseMethodDescriptor y.desc).map (fun d => d.parameters.length) = some n)))
theorem lkW_cw {is : List Nat} {idx maxL mc ms n : Nat} {y : MethodName} {bytes : ByteArray} {ret : Option FieldType} {hh : List (Nat × Nat × Nat × Nat)} {rm : Room} (hk : lkW own idx y bytes maxL ret hh n is = true) (ht : ∀ w ∈ lw_all, w.before args s = true) (hrc : rm.cells = mc) (hrs : rm.slots = ms) (hR : rm.frames + 1 ≤ R.frames ∧ 8 + (maxL + 11) + rm.locals ≤ R.locals) : vx_CSW R s args own idx y bytes maxL ret hh (.codeWith y bytes maxL ret hh :: lw_all) rm mc ms n := by
  simp only [lkW, Bool.and_eq_true, decide_eq_true_eq] at hk
  have hin := lw_ats (ws := ([.methodLink own idx y, .static y, .initialized y.cls, .codeWith y bytes maxL ret hh] : List Cond)) is hk.1
  refine vx_cwSW n ht ?_ rfl hrc hrs hk.2 hR
  have hG := lw_gi ([.methodLink own idx y, .static y, .initialized y.cls, .codeWith y bytes maxL ret hh] : List Cond) hin
  intro w hw
  refine hG w ?_
  unfold va_wsS at hw
  simpa [List.mem_append, List.mem_cons, or_assoc] using hw
section XCALLV
variable {is : List Nat} {y : MethodName} {bytes : ByteArray} {maxL n nL idx mc ms b ci : Nat} {ret : Option FieldType} {rm : Room} {As fs : List Value} {Q : State → Prop} {wc wr wsn : va_W}
theorem crv_ti {x : α} {wT : α → va_W} {wR : β → va_W} {val : β → Int32} {code : α → Nat} (CX : Cx p s m c args cc own) (hml : c.maxLocals = nL) (hM : vx_Met l y (.code y bytes maxL ret :: lw_all) rm (va_Pc (.ref b :: As) (sX D cy wc H.size)) (xI (α := α) D wR val (.inl x) (va_A wc H.size)) (xX (β := β) D wT code (.inl x) (va_A wc H.size)) mc ms (va_A wc H.size)) (hk : lkV own idx y bytes maxL ret n is = true) (hrc : rm.cells = mc) (hrs : rm.slots = ms) (hR : rm.frames + 1 ≤ R.frames ∧ 8 + (maxL + 11) + rm.locals ≤ R.locals) (hP : va_P D vwCl ws H) (hD : va_D A ws) (hS : va_S A s.heap H locs) (hA : ∀ q, s.heap.size ≤ q → A q) (hK : va_K D vwCl (tyA cy) s) (hN : nst s) (hX : exF A s s.heap) (hp : ws.Perm (wc ++ wr)) (hp2 : (wT x ++ wr).Perm wsn) (q0 : Nat) (he : wc[q0]? = some (b, .inr (ci, fs))) (hc : (vwCl[ci]?).map (fun r => r.1) = some y.cls) (hn : As.length = n) (hsz : ls.size = nL) (hst : st0 = As.reverse ++ .ref b :: rest) (hW : (rest.map fun v => v.category).sum ≤ 8) (hcs : cells + mc ≤ R.cells ∧ slots + ms ≤ R.slots) (hdg : decode cc pc = .ok (.invokevirtual idx, 3)) (kx : ∀ (ce : Cell) (q9 : Nat) (H1 : Heap) (locs1 : List Loc), va_P D vwCl wsn H1 → va_D A wsn → va_S A s.heap H1 locs1 → H1[q9]? = some ce → ce.vm = .none → s.vm.findClass (exn (code x)) = some ce.cls → vx_W p l e R s m args below meth c H1 locs1 (cells + mc) (slots + ms) Q (F0 m pc ls rest) q9) : W p l e R s m args below meth c H locs cells slots Q (F0 m pc ls st0) := by
  have hP9 := vaP_perm hp hP
  have hD9 := vaD_perm hp hD
  have hFc := fc_of (vaD_l hD9) hS hA
  refine vx_calli (vx_runV (As := As) (rest := rest) ⟨CX.1, CX.2.1, hml, CX.2.2.2, CX.2.2.1⟩ hM (lkV_cw hk CX.2.2.1 hrc hrs hR) ⟨sX_blind _ _ _ _ _, rcv_at hK (vaP_l hP9) q0 he hc, sX_at (vaP_l hP9) (vaD_l hD9) hK hN hX hS hA⟩ rfl hn hsz hst (lv_room hW) hdg hcs) hS (fun q _ h => hFc q h) hFc (fun q _ h => hFc q h) ?_ ?_
  · intro E ce q9 u t H1 locs1 ht hvm hpx hBX hz hk1 hS1 hcell hv hcl
    obtain ⟨x', hx', hE, hP1, hD1⟩ := hBX
    cases hx'
    obtain ⟨g1, g2⟩ := back_part hP9 hD9 hS hA hk1 (by rw [← ht]; exact hP1) hD1
    exact kx ce q9 H1 locs1 (vaP_perm hp2 g1) (vaD_perm hp2 g2) hS1 hcell hv (hE ▸ hcl)
  · intro r u t H1 locs1 ht hvm hpo
    obtain ⟨x', hx', -⟩ := hpo
    cases hx'
theorem crv_ri {x : β} {wT : α → va_W} {wR : β → va_W} {val : β → Int32} {code : α → Nat} (CX : Cx p s m c args cc own) (hml : c.maxLocals = nL) (hM : vx_Met l y (.code y bytes maxL ret :: lw_all) rm (va_Pc (.ref b :: As) (sX D cy wc H.size)) (xI (α := α) D wR val (.inr x) (va_A wc H.size)) (xX (β := β) D wT code (.inr x) (va_A wc H.size)) mc ms (va_A wc H.size)) (hk : lkV own idx y bytes maxL ret n is = true) (hrc : rm.cells = mc) (hrs : rm.slots = ms) (hR : rm.frames + 1 ≤ R.frames ∧ 8 + (maxL + 11) + rm.locals ≤ R.locals) (hP : va_P D vwCl ws H) (hD : va_D A ws) (hS : va_S A s.heap H locs) (hA : ∀ q, s.heap.size ≤ q → A q) (hK : va_K D vwCl (tyA cy) s) (hN : nst s) (hX : exF A s s.heap) (hp : ws.Perm (wc ++ wr)) (hp2 : (wR x ++ wr).Perm wsn) (q0 : Nat) (he : wc[q0]? = some (b, .inr (ci, fs))) (hc : (vwCl[ci]?).map (fun r => r.1) = some y.cls) (hn : As.length = n) (hsz : ls.size = nL) (hst : st0 = As.reverse ++ .ref b :: rest) (hW : (rest.map fun v => v.category).sum ≤ 8) (hcs : cells + mc ≤ R.cells ∧ slots + ms ≤ R.slots) (hdg : decode cc pc = .ok (.invokevirtual idx, 3)) (kk : ∀ (H1 : Heap) (locs1 : List Loc), va_P D vwCl wsn H1 → va_D A wsn → va_S A s.heap H1 locs1 → W p l e R s m args below meth c H1 locs1 (cells + mc) (slots + ms) Q (F0 m (pc + 3) ls (.int (val x) :: rest))) : W p l e R s m args below meth c H locs cells slots Q (F0 m pc ls st0) := by
  have hP9 := vaP_perm hp hP
  have hD9 := vaD_perm hp hD
  have hFc := fc_of (vaD_l hD9) hS hA
  refine vx_calli (vx_runV (As := As) (rest := rest) ⟨CX.1, CX.2.1, hml, CX.2.2.2, CX.2.2.1⟩ hM (lkV_cw hk CX.2.2.1 hrc hrs hR) ⟨sX_blind _ _ _ _ _, rcv_at hK (vaP_l hP9) q0 he hc, sX_at (vaP_l hP9) (vaD_l hD9) hK hN hX hS hA⟩ rfl hn hsz hst (lv_room hW) hdg hcs) hS (fun q _ h => hFc q h) hFc (fun q _ h => hFc q h) ?_ ?_
  · intro E ce q9 u t H1 locs1 ht hvm hpx hBX
    obtain ⟨x', hx', -⟩ := hBX
    cases hx'
  · intro r u t H1 locs1 ht hvm hpo hB hz hk1 hS1
    obtain ⟨x', hx', hr⟩ := hpo
    cases hx'
    obtain ⟨x', hx', hP1, hD1⟩ := hB
    cases hx'
    obtain ⟨g1, g2⟩ := back_part hP9 hD9 hS hA hk1 (by rw [← ht]; exact hP1) hD1
    rw [hr]
    exact kk H1 locs1 (vaP_perm hp2 g1) (vaD_perm hp2 g2) hS1
theorem crv_tl {x : α} {wT : α → va_W} {wR : β → va_W} {val : β → Int64} {code : α → Nat} (CX : Cx p s m c args cc own) (hml : c.maxLocals = nL) (hM : vx_Met l y (.code y bytes maxL ret :: lw_all) rm (va_Pc (.ref b :: As) (sX D cy wc H.size)) (xL (α := α) D wR val (.inl x) (va_A wc H.size)) (xX (β := β) D wT code (.inl x) (va_A wc H.size)) mc ms (va_A wc H.size)) (hk : lkV own idx y bytes maxL ret n is = true) (hrc : rm.cells = mc) (hrs : rm.slots = ms) (hR : rm.frames + 1 ≤ R.frames ∧ 8 + (maxL + 11) + rm.locals ≤ R.locals) (hP : va_P D vwCl ws H) (hD : va_D A ws) (hS : va_S A s.heap H locs) (hA : ∀ q, s.heap.size ≤ q → A q) (hK : va_K D vwCl (tyA cy) s) (hN : nst s) (hX : exF A s s.heap) (hp : ws.Perm (wc ++ wr)) (hp2 : (wT x ++ wr).Perm wsn) (q0 : Nat) (he : wc[q0]? = some (b, .inr (ci, fs))) (hc : (vwCl[ci]?).map (fun r => r.1) = some y.cls) (hn : As.length = n) (hsz : ls.size = nL) (hst : st0 = As.reverse ++ .ref b :: rest) (hW : (rest.map fun v => v.category).sum ≤ 8) (hcs : cells + mc ≤ R.cells ∧ slots + ms ≤ R.slots) (hdg : decode cc pc = .ok (.invokevirtual idx, 3)) (kx : ∀ (ce : Cell) (q9 : Nat) (H1 : Heap) (locs1 : List Loc), va_P D vwCl wsn H1 → va_D A wsn → va_S A s.heap H1 locs1 → H1[q9]? = some ce → ce.vm = .none → s.vm.findClass (exn (code x)) = some ce.cls → vx_W p l e R s m args below meth c H1 locs1 (cells + mc) (slots + ms) Q (F0 m pc ls rest) q9) : W p l e R s m args below meth c H locs cells slots Q (F0 m pc ls st0) := by
  have hP9 := vaP_perm hp hP
  have hD9 := vaD_perm hp hD
  have hFc := fc_of (vaD_l hD9) hS hA
  refine vx_calll (vx_runV (As := As) (rest := rest) ⟨CX.1, CX.2.1, hml, CX.2.2.2, CX.2.2.1⟩ hM (lkV_cw hk CX.2.2.1 hrc hrs hR) ⟨sX_blind _ _ _ _ _, rcv_at hK (vaP_l hP9) q0 he hc, sX_at (vaP_l hP9) (vaD_l hD9) hK hN hX hS hA⟩ rfl hn hsz hst (lv_room hW) hdg hcs) hS (fun q _ h => hFc q h) hFc (fun q _ h => hFc q h) ?_ ?_
  · intro E ce q9 u t H1 locs1 ht hvm hpx hBX hz hk1 hS1 hcell hv hcl
    obtain ⟨x', hx', hE, hP1, hD1⟩ := hBX
    cases hx'
    obtain ⟨g1, g2⟩ := back_part hP9 hD9 hS hA hk1 (by rw [← ht]; exact hP1) hD1
    exact kx ce q9 H1 locs1 (vaP_perm hp2 g1) (vaD_perm hp2 g2) hS1 hcell hv (hE ▸ hcl)
  · intro r u t H1 locs1 ht hvm hpo
    obtain ⟨x', hx', -⟩ := hpo
    cases hx'
theorem crv_rl {x : β} {wT : α → va_W} {wR : β → va_W} {val : β → Int64} {code : α → Nat} (CX : Cx p s m c args cc own) (hml : c.maxLocals = nL) (hM : vx_Met l y (.code y bytes maxL ret :: lw_all) rm (va_Pc (.ref b :: As) (sX D cy wc H.size)) (xL (α := α) D wR val (.inr x) (va_A wc H.size)) (xX (β := β) D wT code (.inr x) (va_A wc H.size)) mc ms (va_A wc H.size)) (hk : lkV own idx y bytes maxL ret n is = true) (hrc : rm.cells = mc) (hrs : rm.slots = ms) (hR : rm.frames + 1 ≤ R.frames ∧ 8 + (maxL + 11) + rm.locals ≤ R.locals) (hP : va_P D vwCl ws H) (hD : va_D A ws) (hS : va_S A s.heap H locs) (hA : ∀ q, s.heap.size ≤ q → A q) (hK : va_K D vwCl (tyA cy) s) (hN : nst s) (hX : exF A s s.heap) (hp : ws.Perm (wc ++ wr)) (hp2 : (wR x ++ wr).Perm wsn) (q0 : Nat) (he : wc[q0]? = some (b, .inr (ci, fs))) (hc : (vwCl[ci]?).map (fun r => r.1) = some y.cls) (hn : As.length = n) (hsz : ls.size = nL) (hst : st0 = As.reverse ++ .ref b :: rest) (hW : (rest.map fun v => v.category).sum ≤ 8) (hcs : cells + mc ≤ R.cells ∧ slots + ms ≤ R.slots) (hdg : decode cc pc = .ok (.invokevirtual idx, 3)) (kk : ∀ (H1 : Heap) (locs1 : List Loc), va_P D vwCl wsn H1 → va_D A wsn → va_S A s.heap H1 locs1 → W p l e R s m args below meth c H1 locs1 (cells + mc) (slots + ms) Q (F0 m (pc + 3) ls (.long (val x) :: rest))) : W p l e R s m args below meth c H locs cells slots Q (F0 m pc ls st0) := by
  have hP9 := vaP_perm hp hP
  have hD9 := vaD_perm hp hD
  have hFc := fc_of (vaD_l hD9) hS hA
  refine vx_calll (vx_runV (As := As) (rest := rest) ⟨CX.1, CX.2.1, hml, CX.2.2.2, CX.2.2.1⟩ hM (lkV_cw hk CX.2.2.1 hrc hrs hR) ⟨sX_blind _ _ _ _ _, rcv_at hK (vaP_l hP9) q0 he hc, sX_at (vaP_l hP9) (vaD_l hD9) hK hN hX hS hA⟩ rfl hn hsz hst (lv_room hW) hdg hcs) hS (fun q _ h => hFc q h) hFc (fun q _ h => hFc q h) ?_ ?_
  · intro E ce q9 u t H1 locs1 ht hvm hpx hBX
    obtain ⟨x', hx', -⟩ := hBX
    cases hx'
  · intro r u t H1 locs1 ht hvm hpo hB hz hk1 hS1
    obtain ⟨x', hx', hr⟩ := hpo
    cases hx'
    obtain ⟨x', hx', hP1, hD1⟩ := hB
    cases hx'
    obtain ⟨g1, g2⟩ := back_part hP9 hD9 hS hA hk1 (by rw [← ht]; exact hP1) hD1
    rw [hr]
    exact kk H1 locs1 (vaP_perm hp2 g1) (vaD_perm hp2 g2) hS1
theorem crv_tf {x : α} {wT : α → va_W} {wR : β → va_W} {val : β → UInt32} {code : α → Nat} (CX : Cx p s m c args cc own) (hml : c.maxLocals = nL) (hM : vx_Met l y (.code y bytes maxL ret :: lw_all) rm (va_Pc (.ref b :: As) (sX D cy wc H.size)) (xF (α := α) D wR val (.inl x) (va_A wc H.size)) (xX (β := β) D wT code (.inl x) (va_A wc H.size)) mc ms (va_A wc H.size)) (hk : lkV own idx y bytes maxL ret n is = true) (hrc : rm.cells = mc) (hrs : rm.slots = ms) (hR : rm.frames + 1 ≤ R.frames ∧ 8 + (maxL + 11) + rm.locals ≤ R.locals) (hP : va_P D vwCl ws H) (hD : va_D A ws) (hS : va_S A s.heap H locs) (hA : ∀ q, s.heap.size ≤ q → A q) (hK : va_K D vwCl (tyA cy) s) (hN : nst s) (hX : exF A s s.heap) (hp : ws.Perm (wc ++ wr)) (hp2 : (wT x ++ wr).Perm wsn) (q0 : Nat) (he : wc[q0]? = some (b, .inr (ci, fs))) (hc : (vwCl[ci]?).map (fun r => r.1) = some y.cls) (hn : As.length = n) (hsz : ls.size = nL) (hst : st0 = As.reverse ++ .ref b :: rest) (hW : (rest.map fun v => v.category).sum ≤ 8) (hcs : cells + mc ≤ R.cells ∧ slots + ms ≤ R.slots) (hdg : decode cc pc = .ok (.invokevirtual idx, 3)) (kx : ∀ (ce : Cell) (q9 : Nat) (H1 : Heap) (locs1 : List Loc), va_P D vwCl wsn H1 → va_D A wsn → va_S A s.heap H1 locs1 → H1[q9]? = some ce → ce.vm = .none → s.vm.findClass (exn (code x)) = some ce.cls → vx_W p l e R s m args below meth c H1 locs1 (cells + mc) (slots + ms) Q (F0 m pc ls rest) q9) : W p l e R s m args below meth c H locs cells slots Q (F0 m pc ls st0) := by
  have hP9 := vaP_perm hp hP
  have hD9 := vaD_perm hp hD
  have hFc := fc_of (vaD_l hD9) hS hA
  refine vx_callf (vx_runV (As := As) (rest := rest) ⟨CX.1, CX.2.1, hml, CX.2.2.2, CX.2.2.1⟩ hM (lkV_cw hk CX.2.2.1 hrc hrs hR) ⟨sX_blind _ _ _ _ _, rcv_at hK (vaP_l hP9) q0 he hc, sX_at (vaP_l hP9) (vaD_l hD9) hK hN hX hS hA⟩ rfl hn hsz hst (lv_room hW) hdg hcs) hS (fun q _ h => hFc q h) hFc (fun q _ h => hFc q h) ?_ ?_
  · intro E ce q9 u t H1 locs1 ht hvm hpx hBX hz hk1 hS1 hcell hv hcl
    obtain ⟨x', hx', hE, hP1, hD1⟩ := hBX
    cases hx'
    obtain ⟨g1, g2⟩ := back_part hP9 hD9 hS hA hk1 (by rw [← ht]; exact hP1) hD1
    exact kx ce q9 H1 locs1 (vaP_perm hp2 g1) (vaD_perm hp2 g2) hS1 hcell hv (hE ▸ hcl)
  · intro r u t H1 locs1 ht hvm hpo
    obtain ⟨x', hx', -⟩ := hpo
    cases hx'
theorem crv_rf {x : β} {wT : α → va_W} {wR : β → va_W} {val : β → UInt32} {code : α → Nat} (CX : Cx p s m c args cc own) (hml : c.maxLocals = nL) (hM : vx_Met l y (.code y bytes maxL ret :: lw_all) rm (va_Pc (.ref b :: As) (sX D cy wc H.size)) (xF (α := α) D wR val (.inr x) (va_A wc H.size)) (xX (β := β) D wT code (.inr x) (va_A wc H.size)) mc ms (va_A wc H.size)) (hk : lkV own idx y bytes maxL ret n is = true) (hrc : rm.cells = mc) (hrs : rm.slots = ms) (hR : rm.frames + 1 ≤ R.frames ∧ 8 + (maxL + 11) + rm.locals ≤ R.locals) (hP : va_P D vwCl ws H) (hD : va_D A ws) (hS : va_S A s.heap H locs) (hA : ∀ q, s.heap.size ≤ q → A q) (hK : va_K D vwCl (tyA cy) s) (hN : nst s) (hX : exF A s s.heap) (hp : ws.Perm (wc ++ wr)) (hp2 : (wR x ++ wr).Perm wsn) (q0 : Nat) (he : wc[q0]? = some (b, .inr (ci, fs))) (hc : (vwCl[ci]?).map (fun r => r.1) = some y.cls) (hn : As.length = n) (hsz : ls.size = nL) (hst : st0 = As.reverse ++ .ref b :: rest) (hW : (rest.map fun v => v.category).sum ≤ 8) (hcs : cells + mc ≤ R.cells ∧ slots + ms ≤ R.slots) (hdg : decode cc pc = .ok (.invokevirtual idx, 3)) (kk : ∀ (H1 : Heap) (locs1 : List Loc), va_P D vwCl wsn H1 → va_D A wsn → va_S A s.heap H1 locs1 → W p l e R s m args below meth c H1 locs1 (cells + mc) (slots + ms) Q (F0 m (pc + 3) ls (.float (val x) :: rest))) : W p l e R s m args below meth c H locs cells slots Q (F0 m pc ls st0) := by
  have hP9 := vaP_perm hp hP
  have hD9 := vaD_perm hp hD
  have hFc := fc_of (vaD_l hD9) hS hA
  refine vx_callf (vx_runV (As := As) (rest := rest) ⟨CX.1, CX.2.1, hml, CX.2.2.2, CX.2.2.1⟩ hM (lkV_cw hk CX.2.2.1 hrc hrs hR) ⟨sX_blind _ _ _ _ _, rcv_at hK (vaP_l hP9) q0 he hc, sX_at (vaP_l hP9) (vaD_l hD9) hK hN hX hS hA⟩ rfl hn hsz hst (lv_room hW) hdg hcs) hS (fun q _ h => hFc q h) hFc (fun q _ h => hFc q h) ?_ ?_
  · intro E ce q9 u t H1 locs1 ht hvm hpx hBX
    obtain ⟨x', hx', -⟩ := hBX
    cases hx'
  · intro r u t H1 locs1 ht hvm hpo hB hz hk1 hS1
    obtain ⟨x', hx', hr⟩ := hpo
    cases hx'
    obtain ⟨x', hx', hP1, hD1⟩ := hB
    cases hx'
    obtain ⟨g1, g2⟩ := back_part hP9 hD9 hS hA hk1 (by rw [← ht]; exact hP1) hD1
    rw [hr]
    exact kk H1 locs1 (vaP_perm hp2 g1) (vaD_perm hp2 g2) hS1
end XCALLV
end WB
theorem lk_RL_11 : lkV RL 11 yX4_crowd cX4_crowd 3 (some .int) 1 [337, 338, 339, 24, 340] = true := by decide +kernel
theorem lk_RL_19 : lkV RL 19 yX4_limit cX4_limit 4 (some .int) 2 [734, 735, 736, 24, 737] = true := by decide +kernel
theorem lk_RL_25 : lkV RL 25 yX4_busker cX4_busker 3 (some .int) 2 [392, 393, 394, 24, 395] = true := by decide +kernel
theorem lk_RL_30 : lkV RL 30 yX4_join cX4_join 2 (some .int) 1 [432, 433, 434, 24, 435] = true := by decide +kernel
theorem lk_RL_33 : lkV RL 33 yX4_draw cX4_draw 3 (some .int) 2 [450, 451, 452, 24, 453] = true := by decide +kernel
theorem lk_RL_36 : lkV RL 36 yX4_waiting cX4_waiting 3 (some .int) 1 [847, 848, 849, 24, 850] = true := by decide +kernel
theorem lk_RL_41 : lkV RL 41 yX4_leave cX4_leave 2 (some .int) 1 [744, 745, 746, 24, 747] = true := by decide +kernel
theorem lk_RL_44 : lkV RL 44 yX4_swap cX4_swap 3 (some .int) 2 [751, 752, 753, 24, 754] = true := by decide +kernel
theorem lk_RL_47 : lkV RL 47 yX4_quietest cX4_quietest 3 (some .int) 1 [888, 889, 890, 24, 891] = true := by decide +kernel
theorem lk_RL_50 : lkV RL 50 yX4_strings cX4_strings 2 (some .int) 1 [477, 478, 479, 24, 480] = true := by decide +kernel
theorem lk_RL_53 : lkV RL 53 yX4_snapsIn cX4_snapsIn 2 (some .int) 1 [975, 976, 977, 24, 978] = true := by decide +kernel
theorem lk_RL_56 : lkV RL 56 yX4_answer cX4_answer 2 (some .int) 1 [766, 767, 768, 24, 769] = true := by decide +kernel
theorem lk_RL_59 : lkV RL 59 yX4_rack cX4_rack 3 (some .int) 2 [496, 497, 498, 24, 499] = true := by decide +kernel
theorem lk_RL_62 : lkV RL 62 yX4_unrack cX4_unrack 3 (some .int) 1 [773, 774, 775, 24, 776] = true := by decide +kernel
theorem lk_RL_65 : lkV RL 65 yX4_onRack cX4_onRack 4 (some .int) 2 [965, 966, 967, 24, 968] = true := by decide +kernel
theorem lk_RL_68 : lkV RL 68 yX4_ranked cX4_ranked 3 (some .int) 1 [949, 950, 951, 24, 952] = true := by decide +kernel
theorem lk_RL_71 : lkV RL 71 yX4_pass cX4_pass 2 (some .int) 1 [520, 521, 522, 24, 523] = true := by decide +kernel
theorem lk_RL_74 : lkV RL 74 yX4_read cX4_read 2 (some .int) 0 [565, 566, 567, 24, 568] = true := by decide +kernel
theorem lk_RL_80 : lkV RL 80 yX4_meanBits cX4_meanBits 4 (some .long) 0 [1005, 1006, 1007, 24, 1008] = true := by decide +kernel
theorem lk_RL_86 : lkV RL 86 yX4_undo cX4_undo 1 (some .int) 0 [633, 634, 635, 24, 636] = true := by decide +kernel
theorem lk_RL_91 : lkV RL 91 yX4_restore cX4_restore 1 (some .int) 0 [660, 661, 662, 24, 663] = true := by decide +kernel
theorem lk_RL_94 : lkV RL 94 yX4_append cX4_append 2 (some .int) 1 [719, 720, 721, 24, 722] = true := by decide +kernel
theorem lk_RL_146 : lkV RL 146 yX4_save cX4_save 1 (some .int) 0 [317, 318, 319, 24, 320] = true := by decide +kernel
theorem lk_RL_159 : lkV RL 159 yX4_account cX4_account 2 (some .int) 1 [210, 211, 212, 24, 213] = true := by decide +kernel
theorem lk_RL_162 : lkV RL 162 yX4_noise cX4_noise 2 (some .int) 1 [788, 789, 790, 24, 791] = true := by decide +kernel
theorem lk_RL_165 : lkV RL 165 yX4_below cX4_below 2 (some .float) 1 [807, 808, 809, 24, 810] = true := by decide +kernel
theorem lk_RL_175 : lkV RL 175 yX4_pitchOf cX4_pitchOf 3 (some .int) 2 [821, 822, 823, 24, 824] = true := by decide +kernel
theorem lk_RL_178 : lkV RL 178 yX4_hat cX4_hat 2 (some .float) 1 [826, 827, 828, 24, 829] = true := by decide +kernel
theorem lk_RL_181 : lkV RL 181 yX4_wear cX4_wear 2 (some .int) 1 [834, 835, 836, 24, 837] = true := by decide +kernel
theorem lk_RL_184 : lkV RL 184 yX4_buskerOf cX4_buskerOf 3 (some .int) 2 [838, 839, 840, 24, 841] = true := by decide +kernel
theorem lk_RL_196 : lkV RL 196 yX4_noiseAgain cX4_noiseAgain 2 (some .int) 1 [924, 925, 926, 24, 927] = true := by decide +kernel
theorem lk_RL_199 : lkV RL 199 yX4_sign cX4_sign 4 (some .char) 1 [928, 929, 930, 24, 931] = true := by decide +kernel
theorem lk_RL_202 : lkV RL 202 yX4_noiseWith cX4_noiseWith 3 (some .int) 2 [871, 872, 873, 24, 874] = true := by decide +kernel
theorem lk_RL_205 : lkV RL 205 yX4_loudest cX4_loudest 3 (some .int) 0 [932, 933, 934, 24, 935] = true := by decide +kernel
theorem lk_RL_208 : lkV RL 208 yX4_isWell cX4_isWell 1 (some .boolean) 0 [904, 905, 906, 24, 907] = true := by decide +kernel
theorem lk_RL_216 : lkV RL 216 yX4_playingIn cX4_playingIn 2 (some .int) 1 [936, 937, 938, 24, 939] = true := by decide +kernel
theorem lk_RL_226 : lkV RL 226 yX4_hatIn cX4_hatIn 3 (some .int) 2 [958, 959, 960, 24, 961] = true := by decide +kernel
theorem lk_RL_272 : lkV RL 272 yX4_errorPosition cX4_errorPosition 1 (some .int) 0 [206, 207, 208, 24, 209] = true := by decide +kernel
def f_L_crowd (x_now : SV) (x_nxt : Int32) (x_cnt : Int32) (x_rng : Nat → SV) (a1 : Int32) : Option (Int32 × SV × Int32 × Int32 × (Nat → SV)) := ob (f_X4_crowd x_now x_nxt x_cnt x_rng a1) fun r => (os r (fun t => if t.1 = 2 then some ((-100000000), t.2.1, t.2.2.1, t.2.2.2.1, t.2.2.2.2) else (none)) fun x => (some (x.1, x.2.1, x.2.2.1, x.2.2.2.1, x.2.2.2.2)))
set_option maxHeartbeats 4000000 in
set_option maxRecDepth 100000 in
theorem c_L_crowd (l : Launch) (D : va_G) (cy : Nat → ClassId) (q : Nat → Nat → Nat) (x_isv : Int32) (x_te : Int32) (x_re : Int32) (x_de : Int32) (x_now : SV) (x_spa : SV) (x_sna : SV) (x_len : Int32) (x_sig : Nat → Int32) (x_nxt : Int32) (x_cnt : Int32) (x_rng : Nat → SV) (a1 : Int32) (sz : Nat) (hst : l.stackTraces = false) {res : Int32 × SV × Int32 × Int32 × (Nat → SV)} (hf : f_L_crowd x_now x_nxt x_cnt x_rng a1 = some res) : Met l yL_crowd (.codeWith yL_crowd cL_crowd 4 (some .int) [(3, 9, 12, 17)] :: lw_all) { frames := 8, cells := 1, slots := 6, locals := 124 } (va_Pc [.ref (q 0 0), .int a1] (sY D cy (wX4 q cy x_isv x_te x_re x_de x_now x_spa x_sna x_len x_sig x_nxt x_cnt x_rng) sz)) (qI D (wX4 q cy x_isv x_te x_re x_de res.2.1 x_spa x_sna x_len x_sig res.2.2.1 res.2.2.2.1 res.2.2.2.2) res.1 (va_A (wX4 q cy x_isv x_te x_re x_de x_now x_spa x_sna x_len x_sig x_nxt x_cnt x_rng) sz)) 1 6 (va_A (wX4 q cy x_isv x_te x_re x_de x_now x_spa x_sna x_len x_sig x_nxt x_cnt x_rng) sz) := by
  refine mk_l (Qc := qI D (wX4 q cy x_isv x_te x_re x_de res.2.1 x_spa x_sna x_len x_sig res.2.2.1 res.2.2.2.1 res.2.2.2.2) res.1) (Rc := RL) (by decide +kernel) rfl (Nat.le_of_ble_eq_true rfl) ?_
  intro p e s m args below meth c ls A CX hml hr hlk hK hN hP hD hS hA hl htab hX hC
  have hx := CX.1
  have hb := CX.2.1
  have hRM : (⟨7, 1, 6, 102⟩ : Room).frames + 1 ≤ (⟨8, 1, 6, 124⟩ : Room).frames ∧ 8 + (3 + 11) + (⟨7, 1, 6, 102⟩ : Room).locals ≤ (⟨8, 1, 6, 124⟩ : Room).locals := ⟨(Nat.le_of_ble_eq_true rfl), (Nat.le_of_ble_eq_true rfl)⟩
  refine lv_ldc hx hb CX.2.2.2 (CX.2.2.1 (.constant RL 10 (-100000000)) (lw_at 336 (by decide +kernel))) (dg ddL_crowd 0 rfl) ?_
  refine lv_istore_n (lv' := [(2, .int ((-100000000))), (0, .ref (q 0 0)), (1, .int a1)]) hx hb (dg ddL_crowd 1 rfl) rfl hl (by decide) rfl (fun ls hl => ?_)
  refine lv_aload_n hx hb (dg ddL_crowd 2 rfl) rfl (lv_at hl 1 rfl) ?_
  refine lv_iload_n hx hb (dg ddL_crowd 3 rfl) rfl (lv_at hl 2 rfl) ?_
  obtain ⟨r, e9, hf⟩ := ob_some hf
  rcases r with t | x
  · have hf := os_l hf
    by_cases h0 : t.1 = 2
    · have hf := it_t h0 hf
      cases hf
      refine crv_ti CX hml (As := [.int a1]) (rest := []) (wr := []) (c_X4_crowd l D cy q x_isv x_te x_re x_de x_now x_spa x_sna x_len x_sig x_nxt x_cnt x_rng a1 _ hst e9) lk_RL_11 rfl rfl hRM hP hD hS hA hK hN hX (List.Perm.of_eq (List.append_nil _).symm) (List.Perm.of_eq (List.append_nil _)) 0 rfl rfl rfl hl.1 rfl (Nat.le_of_ble_eq_true rfl) ⟨(Nat.le_of_ble_eq_true rfl), (Nat.le_of_ble_eq_true rfl)⟩ (dg ddL_crowd 4 rfl) (fun ce q9 H locs hP hD hS hq hv hcl => ?_)
      rw [h0] at hcl
      refine vx_catch (name := "java/lang/IllegalArgumentException") CX.2.2.2 [] ⟨3, 9, 12, 17⟩ [] (htab.trans rfl) (fun z hz => nomatch hz) rfl (by decide) (CX.2.2.1 (.classLink RL 17 "java/lang/IllegalArgumentException") (lw_at 335 (by decide +kernel))) (va_Nw.use rfl (hX.1 (.castable "java/lang/IllegalArgumentException" "java/lang/IllegalArgumentException") (by decide +kernel))) hq hv hcl ?_
      refine lv_astore_n (lv' := [(3, .ref q9), (2, .int ((-100000000))), (0, .ref (q 0 0)), (1, .int a1)]) hx hb (dg ddL_crowd 7 rfl) rfl hl (by decide) rfl (fun ls hl => ?_)
      refine lv_ldc hx hb CX.2.2.2 (CX.2.2.1 (.constant RL 10 (-100000000)) (lw_at 336 (by decide +kernel))) (dg ddL_crowd 8 rfl) ?_
      exact e_wi CX hr hlk rfl hP hD hS (dg ddL_crowd 9 rfl)
    have hf := it_f h0 hf
    cases hf
  · have hf := os_r hf
    cases hf
    refine crv_ri CX hml (As := [.int a1]) (rest := []) (wr := []) (c_X4_crowd l D cy q x_isv x_te x_re x_de x_now x_spa x_sna x_len x_sig x_nxt x_cnt x_rng a1 _ hst e9) lk_RL_11 rfl rfl hRM hP hD hS hA hK hN hX (List.Perm.of_eq (List.append_nil _).symm) (List.Perm.of_eq (List.append_nil _)) 0 rfl rfl rfl hl.1 rfl (Nat.le_of_ble_eq_true rfl) ⟨(Nat.le_of_ble_eq_true rfl), (Nat.le_of_ble_eq_true rfl)⟩ (dg ddL_crowd 4 rfl) (fun H locs hP hD hS => ?_)
    refine lv_istore_n (lv' := [(2, .int (x.1)), (0, .ref (q 0 0)), (1, .int a1)]) hx hb (dg ddL_crowd 5 rfl) rfl hl (by decide) rfl (fun ls hl => ?_)
    refine lv_goto (tgt := 16) hx hb (dg ddL_crowd 6 rfl) (by decide) ?_
    refine lv_iload_n hx hb (dg ddL_crowd 10 rfl) rfl (lv_at hl 0 rfl) ?_
    exact e_wi CX hr hlk rfl hP hD hS (dg ddL_crowd 11 rfl)
def f_L_limit (x_now : SV) (x_nxt : Int32) (x_cnt : Int32) (x_rng : Nat → SV) (a1 : Int32) (a2 : Int32) : Option (Int32 × SV × Int32 × Int32 × (Nat → SV)) := ob (f_X4_limit x_now x_nxt x_cnt x_rng a1 a2) fun r => (os r (fun t => if t.1 = 1 then some ((-100000000), t.2.1, t.2.2.1, t.2.2.2.1, t.2.2.2.2) else (if t.1 = 2 then some ((-100000000), t.2.1, t.2.2.1, t.2.2.2.1, t.2.2.2.2) else (none))) fun x => (some (x.1, x.2.1, x.2.2.1, x.2.2.2.1, x.2.2.2.2)))
set_option maxHeartbeats 4000000 in
set_option maxRecDepth 100000 in
theorem c_L_limit (l : Launch) (D : va_G) (cy : Nat → ClassId) (q : Nat → Nat → Nat) (x_isv : Int32) (x_te : Int32) (x_re : Int32) (x_de : Int32) (x_now : SV) (x_spa : SV) (x_sna : SV) (x_len : Int32) (x_sig : Nat → Int32) (x_nxt : Int32) (x_cnt : Int32) (x_rng : Nat → SV) (a1 : Int32) (a2 : Int32) (sz : Nat) (hst : l.stackTraces = false) {res : Int32 × SV × Int32 × Int32 × (Nat → SV)} (hf : f_L_limit x_now x_nxt x_cnt x_rng a1 a2 = some res) : Met l yL_limit (.codeWith yL_limit cL_limit 5 (some .int) [(3, 10, 13, 23), (3, 10, 18, 17)] :: lw_all) { frames := 8, cells := 1, slots := 6, locals := 125 } (va_Pc [.ref (q 0 0), .int a1, .int a2] (sY D cy (wX4 q cy x_isv x_te x_re x_de x_now x_spa x_sna x_len x_sig x_nxt x_cnt x_rng) sz)) (qI D (wX4 q cy x_isv x_te x_re x_de res.2.1 x_spa x_sna x_len x_sig res.2.2.1 res.2.2.2.1 res.2.2.2.2) res.1 (va_A (wX4 q cy x_isv x_te x_re x_de x_now x_spa x_sna x_len x_sig x_nxt x_cnt x_rng) sz)) 1 6 (va_A (wX4 q cy x_isv x_te x_re x_de x_now x_spa x_sna x_len x_sig x_nxt x_cnt x_rng) sz) := by
  refine mk_l (Qc := qI D (wX4 q cy x_isv x_te x_re x_de res.2.1 x_spa x_sna x_len x_sig res.2.2.1 res.2.2.2.1 res.2.2.2.2) res.1) (Rc := RL) (by decide +kernel) rfl (Nat.le_of_ble_eq_true rfl) ?_
  intro p e s m args below meth c ls A CX hml hr hlk hK hN hP hD hS hA hl htab hX hC
  have hx := CX.1
  have hb := CX.2.1
  have hRM : (⟨7, 1, 6, 102⟩ : Room).frames + 1 ≤ (⟨8, 1, 6, 125⟩ : Room).frames ∧ 8 + (4 + 11) + (⟨7, 1, 6, 102⟩ : Room).locals ≤ (⟨8, 1, 6, 125⟩ : Room).locals := ⟨(Nat.le_of_ble_eq_true rfl), (Nat.le_of_ble_eq_true rfl)⟩
  refine lv_ldc hx hb CX.2.2.2 (CX.2.2.1 (.constant RL 10 (-100000000)) (lw_at 336 (by decide +kernel))) (dg ddL_limit 0 rfl) ?_
  refine lv_istore_n (lv' := [(3, .int ((-100000000))), (0, .ref (q 0 0)), (1, .int a1), (2, .int a2)]) hx hb (dg ddL_limit 1 rfl) rfl hl (by decide) rfl (fun ls hl => ?_)
  refine lv_aload_n hx hb (dg ddL_limit 2 rfl) rfl (lv_at hl 1 rfl) ?_
  refine lv_iload_n hx hb (dg ddL_limit 3 rfl) rfl (lv_at hl 2 rfl) ?_
  refine lv_iload_n hx hb (dg ddL_limit 4 rfl) rfl (lv_at hl 3 rfl) ?_
  obtain ⟨r, e9, hf⟩ := ob_some hf
  rcases r with t | x
  · have hf := os_l hf
    by_cases h0 : t.1 = 1
    · have hf := it_t h0 hf
      cases hf
      refine crv_ti CX hml (As := [.int a1, .int a2]) (rest := []) (wr := []) (c_X4_limit l D cy q x_isv x_te x_re x_de x_now x_spa x_sna x_len x_sig x_nxt x_cnt x_rng a1 a2 _ hst e9) lk_RL_19 rfl rfl hRM hP hD hS hA hK hN hX (List.Perm.of_eq (List.append_nil _).symm) (List.Perm.of_eq (List.append_nil _)) 0 rfl rfl rfl hl.1 rfl (Nat.le_of_ble_eq_true rfl) ⟨(Nat.le_of_ble_eq_true rfl), (Nat.le_of_ble_eq_true rfl)⟩ (dg ddL_limit 5 rfl) (fun ce q9 H locs hP hD hS hq hv hcl => ?_)
      rw [h0] at hcl
      refine vx_catch (name := "java/lang/IndexOutOfBoundsException") CX.2.2.2 [] ⟨3, 10, 13, 23⟩ [⟨3, 10, 18, 17⟩] (htab.trans rfl) (fun z hz => nomatch hz) rfl (by decide) (CX.2.2.1 (.classLink RL 23 "java/lang/IndexOutOfBoundsException") (lw_at 411 (by decide +kernel))) (va_Nw.use rfl (hX.1 (.castable "java/lang/IndexOutOfBoundsException" "java/lang/IndexOutOfBoundsException") (by decide +kernel))) hq hv hcl ?_
      refine lv_astore (lv' := [(4, .ref q9), (3, .int ((-100000000))), (0, .ref (q 0 0)), (1, .int a1), (2, .int a2)]) hx hb (dg ddL_limit 8 rfl) hl (by decide) rfl (fun ls hl => ?_)
      refine lv_ldc hx hb CX.2.2.2 (CX.2.2.1 (.constant RL 10 (-100000000)) (lw_at 336 (by decide +kernel))) (dg ddL_limit 9 rfl) ?_
      exact e_wi CX hr hlk rfl hP hD hS (dg ddL_limit 10 rfl)
    have hf := it_f h0 hf
    by_cases h1 : t.1 = 2
    · have hf := it_t h1 hf
      cases hf
      refine crv_ti CX hml (As := [.int a1, .int a2]) (rest := []) (wr := []) (c_X4_limit l D cy q x_isv x_te x_re x_de x_now x_spa x_sna x_len x_sig x_nxt x_cnt x_rng a1 a2 _ hst e9) lk_RL_19 rfl rfl hRM hP hD hS hA hK hN hX (List.Perm.of_eq (List.append_nil _).symm) (List.Perm.of_eq (List.append_nil _)) 0 rfl rfl rfl hl.1 rfl (Nat.le_of_ble_eq_true rfl) ⟨(Nat.le_of_ble_eq_true rfl), (Nat.le_of_ble_eq_true rfl)⟩ (dg ddL_limit 5 rfl) (fun ce q9 H locs hP hD hS hq hv hcl => ?_)
      rw [h1] at hcl
      refine vx_catch (name := "java/lang/IllegalArgumentException") CX.2.2.2 [⟨3, 10, 13, 23⟩] ⟨3, 10, 18, 17⟩ [] (htab.trans rfl) (fun z hz => by rw [List.mem_singleton.mp hz]; exact Or.inr ⟨by decide, "java/lang/IndexOutOfBoundsException", CX.2.2.1 (.classLink RL 23 "java/lang/IndexOutOfBoundsException") (lw_at 411 (by decide +kernel)), hC ("java/lang/IllegalArgumentException", "java/lang/IndexOutOfBoundsException") (by decide +kernel)⟩) rfl (by decide) (CX.2.2.1 (.classLink RL 17 "java/lang/IllegalArgumentException") (lw_at 335 (by decide +kernel))) (va_Nw.use rfl (hX.1 (.castable "java/lang/IllegalArgumentException" "java/lang/IllegalArgumentException") (by decide +kernel))) hq hv hcl ?_
      refine lv_astore (lv' := [(4, .ref q9), (3, .int ((-100000000))), (0, .ref (q 0 0)), (1, .int a1), (2, .int a2)]) hx hb (dg ddL_limit 11 rfl) hl (by decide) rfl (fun ls hl => ?_)
      refine lv_ldc hx hb CX.2.2.2 (CX.2.2.1 (.constant RL 10 (-100000000)) (lw_at 336 (by decide +kernel))) (dg ddL_limit 12 rfl) ?_
      exact e_wi CX hr hlk rfl hP hD hS (dg ddL_limit 13 rfl)
    have hf := it_f h1 hf
    cases hf
  · have hf := os_r hf
    cases hf
    refine crv_ri CX hml (As := [.int a1, .int a2]) (rest := []) (wr := []) (c_X4_limit l D cy q x_isv x_te x_re x_de x_now x_spa x_sna x_len x_sig x_nxt x_cnt x_rng a1 a2 _ hst e9) lk_RL_19 rfl rfl hRM hP hD hS hA hK hN hX (List.Perm.of_eq (List.append_nil _).symm) (List.Perm.of_eq (List.append_nil _)) 0 rfl rfl rfl hl.1 rfl (Nat.le_of_ble_eq_true rfl) ⟨(Nat.le_of_ble_eq_true rfl), (Nat.le_of_ble_eq_true rfl)⟩ (dg ddL_limit 5 rfl) (fun H locs hP hD hS => ?_)
    refine lv_istore_n (lv' := [(3, .int (x.1)), (0, .ref (q 0 0)), (1, .int a1), (2, .int a2)]) hx hb (dg ddL_limit 6 rfl) rfl hl (by decide) rfl (fun ls hl => ?_)
    refine lv_goto (tgt := 23) hx hb (dg ddL_limit 7 rfl) (by decide) ?_
    refine lv_iload_n hx hb (dg ddL_limit 14 rfl) rfl (lv_at hl 0 rfl) ?_
    exact e_wi CX hr hlk rfl hP hD hS (dg ddL_limit 15 rfl)
def f_L_busker (x_re : Int32) (x_de : Int32) (x_now : SV) (x_nxt : Int32) (x_cnt : Int32) (x_rng : Nat → SV) (a1 : Int32) (a2 : Int32) : Option (Int32 × Int32 × Int32 × SV × Int32 × Int32 × (Nat → SV)) := ob (f_X4_busker x_re x_de x_now x_nxt x_cnt x_rng a1 a2) fun r => (os r (fun t => if t.1 = 2 then some ((-100000000), t.2.1, t.2.2.1, t.2.2.2.1, t.2.2.2.2.1, t.2.2.2.2.2.1, t.2.2.2.2.2.2) else (if t.1 = 3 then some ((-100000000), t.2.1, t.2.2.1, t.2.2.2.1, t.2.2.2.2.1, t.2.2.2.2.2.1, t.2.2.2.2.2.2) else (none))) fun x => (some (x.1, x.2.1, x.2.2.1, x.2.2.2.1, x.2.2.2.2.1, x.2.2.2.2.2.1, x.2.2.2.2.2.2)))
set_option maxHeartbeats 4000000 in
set_option maxRecDepth 100000 in
theorem c_L_busker (l : Launch) (D : va_G) (cy : Nat → ClassId) (q : Nat → Nat → Nat) (x_isv : Int32) (x_te : Int32) (x_re : Int32) (x_de : Int32) (x_now : SV) (x_spa : SV) (x_sna : SV) (x_len : Int32) (x_sig : Nat → Int32) (x_nxt : Int32) (x_cnt : Int32) (x_rng : Nat → SV) (a1 : Int32) (a2 : Int32) (sz : Nat) (hst : l.stackTraces = false) {res : Int32 × Int32 × Int32 × SV × Int32 × Int32 × (Nat → SV)} (hf : f_L_busker x_re x_de x_now x_nxt x_cnt x_rng a1 a2 = some res) : Met l yL_busker (.codeWith yL_busker cL_busker 5 (some .int) [(3, 10, 13, 17), (3, 10, 18, 28)] :: lw_all) { frames := 8, cells := 1, slots := 6, locals := 124 } (va_Pc [.ref (q 0 0), .int a1, .int a2] (sY D cy (wX4 q cy x_isv x_te x_re x_de x_now x_spa x_sna x_len x_sig x_nxt x_cnt x_rng) sz)) (qI D (wX4 q cy x_isv x_te res.2.1 res.2.2.1 res.2.2.2.1 x_spa x_sna x_len x_sig res.2.2.2.2.1 res.2.2.2.2.2.1 res.2.2.2.2.2.2) res.1 (va_A (wX4 q cy x_isv x_te x_re x_de x_now x_spa x_sna x_len x_sig x_nxt x_cnt x_rng) sz)) 1 6 (va_A (wX4 q cy x_isv x_te x_re x_de x_now x_spa x_sna x_len x_sig x_nxt x_cnt x_rng) sz) := by
  refine mk_l (Qc := qI D (wX4 q cy x_isv x_te res.2.1 res.2.2.1 res.2.2.2.1 x_spa x_sna x_len x_sig res.2.2.2.2.1 res.2.2.2.2.2.1 res.2.2.2.2.2.2) res.1) (Rc := RL) (by decide +kernel) rfl (Nat.le_of_ble_eq_true rfl) ?_
  intro p e s m args below meth c ls A CX hml hr hlk hK hN hP hD hS hA hl htab hX hC
  have hx := CX.1
  have hb := CX.2.1
  have hRM : (⟨7, 1, 6, 102⟩ : Room).frames + 1 ≤ (⟨8, 1, 6, 124⟩ : Room).frames ∧ 8 + (3 + 11) + (⟨7, 1, 6, 102⟩ : Room).locals ≤ (⟨8, 1, 6, 124⟩ : Room).locals := ⟨(Nat.le_of_ble_eq_true rfl), (Nat.le_of_ble_eq_true rfl)⟩
  refine lv_ldc hx hb CX.2.2.2 (CX.2.2.1 (.constant RL 10 (-100000000)) (lw_at 336 (by decide +kernel))) (dg ddL_busker 0 rfl) ?_
  refine lv_istore_n (lv' := [(3, .int ((-100000000))), (0, .ref (q 0 0)), (1, .int a1), (2, .int a2)]) hx hb (dg ddL_busker 1 rfl) rfl hl (by decide) rfl (fun ls hl => ?_)
  refine lv_aload_n hx hb (dg ddL_busker 2 rfl) rfl (lv_at hl 1 rfl) ?_
  refine lv_iload_n hx hb (dg ddL_busker 3 rfl) rfl (lv_at hl 2 rfl) ?_
  refine lv_iload_n hx hb (dg ddL_busker 4 rfl) rfl (lv_at hl 3 rfl) ?_
  obtain ⟨r, e9, hf⟩ := ob_some hf
  rcases r with t | x
  · have hf := os_l hf
    by_cases h0 : t.1 = 2
    · have hf := it_t h0 hf
      cases hf
      refine crv_ti CX hml (As := [.int a1, .int a2]) (rest := []) (wr := []) (c_X4_busker l D cy q x_isv x_te x_re x_de x_now x_spa x_sna x_len x_sig x_nxt x_cnt x_rng a1 a2 _ hst e9) lk_RL_25 rfl rfl hRM hP hD hS hA hK hN hX (List.Perm.of_eq (List.append_nil _).symm) (List.Perm.of_eq (List.append_nil _)) 0 rfl rfl rfl hl.1 rfl (Nat.le_of_ble_eq_true rfl) ⟨(Nat.le_of_ble_eq_true rfl), (Nat.le_of_ble_eq_true rfl)⟩ (dg ddL_busker 5 rfl) (fun ce q9 H locs hP hD hS hq hv hcl => ?_)
      rw [h0] at hcl
      refine vx_catch (name := "java/lang/IllegalArgumentException") CX.2.2.2 [] ⟨3, 10, 13, 17⟩ [⟨3, 10, 18, 28⟩] (htab.trans rfl) (fun z hz => nomatch hz) rfl (by decide) (CX.2.2.1 (.classLink RL 17 "java/lang/IllegalArgumentException") (lw_at 335 (by decide +kernel))) (va_Nw.use rfl (hX.1 (.castable "java/lang/IllegalArgumentException" "java/lang/IllegalArgumentException") (by decide +kernel))) hq hv hcl ?_
      refine lv_astore (lv' := [(4, .ref q9), (3, .int ((-100000000))), (0, .ref (q 0 0)), (1, .int a1), (2, .int a2)]) hx hb (dg ddL_busker 8 rfl) hl (by decide) rfl (fun ls hl => ?_)
      refine lv_ldc hx hb CX.2.2.2 (CX.2.2.1 (.constant RL 10 (-100000000)) (lw_at 336 (by decide +kernel))) (dg ddL_busker 9 rfl) ?_
      exact e_wi CX hr hlk rfl hP hD hS (dg ddL_busker 10 rfl)
    have hf := it_f h0 hf
    by_cases h1 : t.1 = 3
    · have hf := it_t h1 hf
      cases hf
      refine crv_ti CX hml (As := [.int a1, .int a2]) (rest := []) (wr := []) (c_X4_busker l D cy q x_isv x_te x_re x_de x_now x_spa x_sna x_len x_sig x_nxt x_cnt x_rng a1 a2 _ hst e9) lk_RL_25 rfl rfl hRM hP hD hS hA hK hN hX (List.Perm.of_eq (List.append_nil _).symm) (List.Perm.of_eq (List.append_nil _)) 0 rfl rfl rfl hl.1 rfl (Nat.le_of_ble_eq_true rfl) ⟨(Nat.le_of_ble_eq_true rfl), (Nat.le_of_ble_eq_true rfl)⟩ (dg ddL_busker 5 rfl) (fun ce q9 H locs hP hD hS hq hv hcl => ?_)
      rw [h1] at hcl
      refine vx_catch (name := "java/lang/UnsupportedOperationException") CX.2.2.2 [⟨3, 10, 13, 17⟩] ⟨3, 10, 18, 28⟩ [] (htab.trans rfl) (fun z hz => by rw [List.mem_singleton.mp hz]; exact Or.inr ⟨by decide, "java/lang/IllegalArgumentException", CX.2.2.1 (.classLink RL 17 "java/lang/IllegalArgumentException") (lw_at 335 (by decide +kernel)), hC ("java/lang/UnsupportedOperationException", "java/lang/IllegalArgumentException") (by decide +kernel)⟩) rfl (by decide) (CX.2.2.1 (.classLink RL 28 "java/lang/UnsupportedOperationException") (lw_at 391 (by decide +kernel))) (va_Nw.use rfl (hX.1 (.castable "java/lang/UnsupportedOperationException" "java/lang/UnsupportedOperationException") (by decide +kernel))) hq hv hcl ?_
      refine lv_astore (lv' := [(4, .ref q9), (3, .int ((-100000000))), (0, .ref (q 0 0)), (1, .int a1), (2, .int a2)]) hx hb (dg ddL_busker 11 rfl) hl (by decide) rfl (fun ls hl => ?_)
      refine lv_ldc hx hb CX.2.2.2 (CX.2.2.1 (.constant RL 10 (-100000000)) (lw_at 336 (by decide +kernel))) (dg ddL_busker 12 rfl) ?_
      exact e_wi CX hr hlk rfl hP hD hS (dg ddL_busker 13 rfl)
    have hf := it_f h1 hf
    cases hf
  · have hf := os_r hf
    cases hf
    refine crv_ri CX hml (As := [.int a1, .int a2]) (rest := []) (wr := []) (c_X4_busker l D cy q x_isv x_te x_re x_de x_now x_spa x_sna x_len x_sig x_nxt x_cnt x_rng a1 a2 _ hst e9) lk_RL_25 rfl rfl hRM hP hD hS hA hK hN hX (List.Perm.of_eq (List.append_nil _).symm) (List.Perm.of_eq (List.append_nil _)) 0 rfl rfl rfl hl.1 rfl (Nat.le_of_ble_eq_true rfl) ⟨(Nat.le_of_ble_eq_true rfl), (Nat.le_of_ble_eq_true rfl)⟩ (dg ddL_busker 5 rfl) (fun H locs hP hD hS => ?_)
    refine lv_istore_n (lv' := [(3, .int (x.1)), (0, .ref (q 0 0)), (1, .int a1), (2, .int a2)]) hx hb (dg ddL_busker 6 rfl) rfl hl (by decide) rfl (fun ls hl => ?_)
    refine lv_goto (tgt := 23) hx hb (dg ddL_busker 7 rfl) (by decide) ?_
    refine lv_iload_n hx hb (dg ddL_busker 14 rfl) rfl (lv_at hl 0 rfl) ?_
    exact e_wi CX hr hlk rfl hP hD hS (dg ddL_busker 15 rfl)
def f_L_join (x_re : Int32) (x_de : Int32) (x_now : SV) (x_nxt : Int32) (x_cnt : Int32) (x_rng : Nat → SV) (a1 : Int32) : Option (Int32 × Int32 × Int32 × SV × Int32 × Int32 × (Nat → SV)) := ob (f_X4_join x_re x_de x_now x_nxt x_cnt x_rng a1) fun r => (os r (fun t => if t.1 = 1 then some ((-100000000), t.2.1, t.2.2.1, t.2.2.2.1, t.2.2.2.2.1, t.2.2.2.2.2.1, t.2.2.2.2.2.2) else (if t.1 = 3 then some ((-100000000), t.2.1, t.2.2.1, t.2.2.2.1, t.2.2.2.2.1, t.2.2.2.2.2.1, t.2.2.2.2.2.2) else (none))) fun x => (some (x.1, x.2.1, x.2.2.1, x.2.2.2.1, x.2.2.2.2.1, x.2.2.2.2.2.1, x.2.2.2.2.2.2)))
set_option maxHeartbeats 4000000 in
set_option maxRecDepth 100000 in
theorem c_L_join (l : Launch) (D : va_G) (cy : Nat → ClassId) (q : Nat → Nat → Nat) (x_isv : Int32) (x_te : Int32) (x_re : Int32) (x_de : Int32) (x_now : SV) (x_spa : SV) (x_sna : SV) (x_len : Int32) (x_sig : Nat → Int32) (x_nxt : Int32) (x_cnt : Int32) (x_rng : Nat → SV) (a1 : Int32) (sz : Nat) (hst : l.stackTraces = false) {res : Int32 × Int32 × Int32 × SV × Int32 × Int32 × (Nat → SV)} (hf : f_L_join x_re x_de x_now x_nxt x_cnt x_rng a1 = some res) : Met l yL_join (.codeWith yL_join cL_join 4 (some .int) [(3, 9, 12, 23), (3, 9, 16, 28)] :: lw_all) { frames := 8, cells := 1, slots := 6, locals := 123 } (va_Pc [.ref (q 0 0), .int a1] (sY D cy (wX4 q cy x_isv x_te x_re x_de x_now x_spa x_sna x_len x_sig x_nxt x_cnt x_rng) sz)) (qI D (wX4 q cy x_isv x_te res.2.1 res.2.2.1 res.2.2.2.1 x_spa x_sna x_len x_sig res.2.2.2.2.1 res.2.2.2.2.2.1 res.2.2.2.2.2.2) res.1 (va_A (wX4 q cy x_isv x_te x_re x_de x_now x_spa x_sna x_len x_sig x_nxt x_cnt x_rng) sz)) 1 6 (va_A (wX4 q cy x_isv x_te x_re x_de x_now x_spa x_sna x_len x_sig x_nxt x_cnt x_rng) sz) := by
  refine mk_l (Qc := qI D (wX4 q cy x_isv x_te res.2.1 res.2.2.1 res.2.2.2.1 x_spa x_sna x_len x_sig res.2.2.2.2.1 res.2.2.2.2.2.1 res.2.2.2.2.2.2) res.1) (Rc := RL) (by decide +kernel) rfl (Nat.le_of_ble_eq_true rfl) ?_
  intro p e s m args below meth c ls A CX hml hr hlk hK hN hP hD hS hA hl htab hX hC
  have hx := CX.1
  have hb := CX.2.1
  have hRM : (⟨7, 1, 6, 102⟩ : Room).frames + 1 ≤ (⟨8, 1, 6, 123⟩ : Room).frames ∧ 8 + (2 + 11) + (⟨7, 1, 6, 102⟩ : Room).locals ≤ (⟨8, 1, 6, 123⟩ : Room).locals := ⟨(Nat.le_of_ble_eq_true rfl), (Nat.le_of_ble_eq_true rfl)⟩
  refine lv_ldc hx hb CX.2.2.2 (CX.2.2.1 (.constant RL 10 (-100000000)) (lw_at 336 (by decide +kernel))) (dg ddL_join 0 rfl) ?_
  refine lv_istore_n (lv' := [(2, .int ((-100000000))), (0, .ref (q 0 0)), (1, .int a1)]) hx hb (dg ddL_join 1 rfl) rfl hl (by decide) rfl (fun ls hl => ?_)
  refine lv_aload_n hx hb (dg ddL_join 2 rfl) rfl (lv_at hl 1 rfl) ?_
  refine lv_iload_n hx hb (dg ddL_join 3 rfl) rfl (lv_at hl 2 rfl) ?_
  obtain ⟨r, e9, hf⟩ := ob_some hf
  rcases r with t | x
  · have hf := os_l hf
    by_cases h0 : t.1 = 1
    · have hf := it_t h0 hf
      cases hf
      refine crv_ti CX hml (As := [.int a1]) (rest := []) (wr := []) (c_X4_join l D cy q x_isv x_te x_re x_de x_now x_spa x_sna x_len x_sig x_nxt x_cnt x_rng a1 _ hst e9) lk_RL_30 rfl rfl hRM hP hD hS hA hK hN hX (List.Perm.of_eq (List.append_nil _).symm) (List.Perm.of_eq (List.append_nil _)) 0 rfl rfl rfl hl.1 rfl (Nat.le_of_ble_eq_true rfl) ⟨(Nat.le_of_ble_eq_true rfl), (Nat.le_of_ble_eq_true rfl)⟩ (dg ddL_join 4 rfl) (fun ce q9 H locs hP hD hS hq hv hcl => ?_)
      rw [h0] at hcl
      refine vx_catch (name := "java/lang/IndexOutOfBoundsException") CX.2.2.2 [] ⟨3, 9, 12, 23⟩ [⟨3, 9, 16, 28⟩] (htab.trans rfl) (fun z hz => nomatch hz) rfl (by decide) (CX.2.2.1 (.classLink RL 23 "java/lang/IndexOutOfBoundsException") (lw_at 411 (by decide +kernel))) (va_Nw.use rfl (hX.1 (.castable "java/lang/IndexOutOfBoundsException" "java/lang/IndexOutOfBoundsException") (by decide +kernel))) hq hv hcl ?_
      refine lv_astore_n (lv' := [(3, .ref q9), (2, .int ((-100000000))), (0, .ref (q 0 0)), (1, .int a1)]) hx hb (dg ddL_join 7 rfl) rfl hl (by decide) rfl (fun ls hl => ?_)
      refine lv_ldc hx hb CX.2.2.2 (CX.2.2.1 (.constant RL 10 (-100000000)) (lw_at 336 (by decide +kernel))) (dg ddL_join 8 rfl) ?_
      exact e_wi CX hr hlk rfl hP hD hS (dg ddL_join 9 rfl)
    have hf := it_f h0 hf
    by_cases h1 : t.1 = 3
    · have hf := it_t h1 hf
      cases hf
      refine crv_ti CX hml (As := [.int a1]) (rest := []) (wr := []) (c_X4_join l D cy q x_isv x_te x_re x_de x_now x_spa x_sna x_len x_sig x_nxt x_cnt x_rng a1 _ hst e9) lk_RL_30 rfl rfl hRM hP hD hS hA hK hN hX (List.Perm.of_eq (List.append_nil _).symm) (List.Perm.of_eq (List.append_nil _)) 0 rfl rfl rfl hl.1 rfl (Nat.le_of_ble_eq_true rfl) ⟨(Nat.le_of_ble_eq_true rfl), (Nat.le_of_ble_eq_true rfl)⟩ (dg ddL_join 4 rfl) (fun ce q9 H locs hP hD hS hq hv hcl => ?_)
      rw [h1] at hcl
      refine vx_catch (name := "java/lang/UnsupportedOperationException") CX.2.2.2 [⟨3, 9, 12, 23⟩] ⟨3, 9, 16, 28⟩ [] (htab.trans rfl) (fun z hz => by rw [List.mem_singleton.mp hz]; exact Or.inr ⟨by decide, "java/lang/IndexOutOfBoundsException", CX.2.2.1 (.classLink RL 23 "java/lang/IndexOutOfBoundsException") (lw_at 411 (by decide +kernel)), hC ("java/lang/UnsupportedOperationException", "java/lang/IndexOutOfBoundsException") (by decide +kernel)⟩) rfl (by decide) (CX.2.2.1 (.classLink RL 28 "java/lang/UnsupportedOperationException") (lw_at 391 (by decide +kernel))) (va_Nw.use rfl (hX.1 (.castable "java/lang/UnsupportedOperationException" "java/lang/UnsupportedOperationException") (by decide +kernel))) hq hv hcl ?_
      refine lv_astore_n (lv' := [(3, .ref q9), (2, .int ((-100000000))), (0, .ref (q 0 0)), (1, .int a1)]) hx hb (dg ddL_join 10 rfl) rfl hl (by decide) rfl (fun ls hl => ?_)
      refine lv_ldc hx hb CX.2.2.2 (CX.2.2.1 (.constant RL 10 (-100000000)) (lw_at 336 (by decide +kernel))) (dg ddL_join 11 rfl) ?_
      exact e_wi CX hr hlk rfl hP hD hS (dg ddL_join 12 rfl)
    have hf := it_f h1 hf
    cases hf
  · have hf := os_r hf
    cases hf
    refine crv_ri CX hml (As := [.int a1]) (rest := []) (wr := []) (c_X4_join l D cy q x_isv x_te x_re x_de x_now x_spa x_sna x_len x_sig x_nxt x_cnt x_rng a1 _ hst e9) lk_RL_30 rfl rfl hRM hP hD hS hA hK hN hX (List.Perm.of_eq (List.append_nil _).symm) (List.Perm.of_eq (List.append_nil _)) 0 rfl rfl rfl hl.1 rfl (Nat.le_of_ble_eq_true rfl) ⟨(Nat.le_of_ble_eq_true rfl), (Nat.le_of_ble_eq_true rfl)⟩ (dg ddL_join 4 rfl) (fun H locs hP hD hS => ?_)
    refine lv_istore_n (lv' := [(2, .int (x.1)), (0, .ref (q 0 0)), (1, .int a1)]) hx hb (dg ddL_join 5 rfl) rfl hl (by decide) rfl (fun ls hl => ?_)
    refine lv_goto (tgt := 20) hx hb (dg ddL_join 6 rfl) (by decide) ?_
    refine lv_iload_n hx hb (dg ddL_join 13 rfl) rfl (lv_at hl 0 rfl) ?_
    exact e_wi CX hr hlk rfl hP hD hS (dg ddL_join 14 rfl)
def f_L_draw (x_re : Int32) (x_de : Int32) (x_now : SV) (x_nxt : Int32) (x_cnt : Int32) (x_rng : Nat → SV) (a1 : Int32) (a2 : Int32) : Option (Int32 × Int32 × Int32 × SV × Int32 × Int32 × (Nat → SV)) := ob (f_X4_draw x_re x_de x_now x_nxt x_cnt x_rng a1 a2) fun r => (os r (fun t => if t.1 = 1 then some ((-100000000), t.2.1, t.2.2.1, t.2.2.2.1, t.2.2.2.2.1, t.2.2.2.2.2.1, t.2.2.2.2.2.2) else (if t.1 = 2 then some ((-100000000), t.2.1, t.2.2.1, t.2.2.2.1, t.2.2.2.2.1, t.2.2.2.2.2.1, t.2.2.2.2.2.2) else (if t.1 = 3 then some ((-100000000), t.2.1, t.2.2.1, t.2.2.2.1, t.2.2.2.2.1, t.2.2.2.2.2.1, t.2.2.2.2.2.2) else (none)))) fun x => (some (x.1, x.2.1, x.2.2.1, x.2.2.2.1, x.2.2.2.2.1, x.2.2.2.2.2.1, x.2.2.2.2.2.2)))
set_option maxHeartbeats 4000000 in
set_option maxRecDepth 100000 in
theorem c_L_draw (l : Launch) (D : va_G) (cy : Nat → ClassId) (q : Nat → Nat → Nat) (x_isv : Int32) (x_te : Int32) (x_re : Int32) (x_de : Int32) (x_now : SV) (x_spa : SV) (x_sna : SV) (x_len : Int32) (x_sig : Nat → Int32) (x_nxt : Int32) (x_cnt : Int32) (x_rng : Nat → SV) (a1 : Int32) (a2 : Int32) (sz : Nat) (hst : l.stackTraces = false) {res : Int32 × Int32 × Int32 × SV × Int32 × Int32 × (Nat → SV)} (hf : f_L_draw x_re x_de x_now x_nxt x_cnt x_rng a1 a2 = some res) : Met l yL_draw (.codeWith yL_draw cL_draw 5 (some .int) [(3, 10, 13, 23), (3, 10, 18, 17), (3, 10, 23, 28)] :: lw_all) { frames := 8, cells := 1, slots := 6, locals := 124 } (va_Pc [.ref (q 0 0), .int a1, .int a2] (sY D cy (wX4 q cy x_isv x_te x_re x_de x_now x_spa x_sna x_len x_sig x_nxt x_cnt x_rng) sz)) (qI D (wX4 q cy x_isv x_te res.2.1 res.2.2.1 res.2.2.2.1 x_spa x_sna x_len x_sig res.2.2.2.2.1 res.2.2.2.2.2.1 res.2.2.2.2.2.2) res.1 (va_A (wX4 q cy x_isv x_te x_re x_de x_now x_spa x_sna x_len x_sig x_nxt x_cnt x_rng) sz)) 1 6 (va_A (wX4 q cy x_isv x_te x_re x_de x_now x_spa x_sna x_len x_sig x_nxt x_cnt x_rng) sz) := by
  refine mk_l (Qc := qI D (wX4 q cy x_isv x_te res.2.1 res.2.2.1 res.2.2.2.1 x_spa x_sna x_len x_sig res.2.2.2.2.1 res.2.2.2.2.2.1 res.2.2.2.2.2.2) res.1) (Rc := RL) (by decide +kernel) rfl (Nat.le_of_ble_eq_true rfl) ?_
  intro p e s m args below meth c ls A CX hml hr hlk hK hN hP hD hS hA hl htab hX hC
  have hx := CX.1
  have hb := CX.2.1
  have hRM : (⟨7, 1, 6, 102⟩ : Room).frames + 1 ≤ (⟨8, 1, 6, 124⟩ : Room).frames ∧ 8 + (3 + 11) + (⟨7, 1, 6, 102⟩ : Room).locals ≤ (⟨8, 1, 6, 124⟩ : Room).locals := ⟨(Nat.le_of_ble_eq_true rfl), (Nat.le_of_ble_eq_true rfl)⟩
  refine lv_ldc hx hb CX.2.2.2 (CX.2.2.1 (.constant RL 10 (-100000000)) (lw_at 336 (by decide +kernel))) (dg ddL_draw 0 rfl) ?_
  refine lv_istore_n (lv' := [(3, .int ((-100000000))), (0, .ref (q 0 0)), (1, .int a1), (2, .int a2)]) hx hb (dg ddL_draw 1 rfl) rfl hl (by decide) rfl (fun ls hl => ?_)
  refine lv_aload_n hx hb (dg ddL_draw 2 rfl) rfl (lv_at hl 1 rfl) ?_
  refine lv_iload_n hx hb (dg ddL_draw 3 rfl) rfl (lv_at hl 2 rfl) ?_
  refine lv_iload_n hx hb (dg ddL_draw 4 rfl) rfl (lv_at hl 3 rfl) ?_
  obtain ⟨r, e9, hf⟩ := ob_some hf
  rcases r with t | x
  · have hf := os_l hf
    by_cases h0 : t.1 = 1
    · have hf := it_t h0 hf
      cases hf
      refine crv_ti CX hml (As := [.int a1, .int a2]) (rest := []) (wr := []) (c_X4_draw l D cy q x_isv x_te x_re x_de x_now x_spa x_sna x_len x_sig x_nxt x_cnt x_rng a1 a2 _ hst e9) lk_RL_33 rfl rfl hRM hP hD hS hA hK hN hX (List.Perm.of_eq (List.append_nil _).symm) (List.Perm.of_eq (List.append_nil _)) 0 rfl rfl rfl hl.1 rfl (Nat.le_of_ble_eq_true rfl) ⟨(Nat.le_of_ble_eq_true rfl), (Nat.le_of_ble_eq_true rfl)⟩ (dg ddL_draw 5 rfl) (fun ce q9 H locs hP hD hS hq hv hcl => ?_)
      rw [h0] at hcl
      refine vx_catch (name := "java/lang/IndexOutOfBoundsException") CX.2.2.2 [] ⟨3, 10, 13, 23⟩ [⟨3, 10, 18, 17⟩, ⟨3, 10, 23, 28⟩] (htab.trans rfl) (fun z hz => nomatch hz) rfl (by decide) (CX.2.2.1 (.classLink RL 23 "java/lang/IndexOutOfBoundsException") (lw_at 411 (by decide +kernel))) (va_Nw.use rfl (hX.1 (.castable "java/lang/IndexOutOfBoundsException" "java/lang/IndexOutOfBoundsException") (by decide +kernel))) hq hv hcl ?_
      refine lv_astore (lv' := [(4, .ref q9), (3, .int ((-100000000))), (0, .ref (q 0 0)), (1, .int a1), (2, .int a2)]) hx hb (dg ddL_draw 8 rfl) hl (by decide) rfl (fun ls hl => ?_)
      refine lv_ldc hx hb CX.2.2.2 (CX.2.2.1 (.constant RL 10 (-100000000)) (lw_at 336 (by decide +kernel))) (dg ddL_draw 9 rfl) ?_
      exact e_wi CX hr hlk rfl hP hD hS (dg ddL_draw 10 rfl)
    have hf := it_f h0 hf
    by_cases h1 : t.1 = 2
    · have hf := it_t h1 hf
      cases hf
      refine crv_ti CX hml (As := [.int a1, .int a2]) (rest := []) (wr := []) (c_X4_draw l D cy q x_isv x_te x_re x_de x_now x_spa x_sna x_len x_sig x_nxt x_cnt x_rng a1 a2 _ hst e9) lk_RL_33 rfl rfl hRM hP hD hS hA hK hN hX (List.Perm.of_eq (List.append_nil _).symm) (List.Perm.of_eq (List.append_nil _)) 0 rfl rfl rfl hl.1 rfl (Nat.le_of_ble_eq_true rfl) ⟨(Nat.le_of_ble_eq_true rfl), (Nat.le_of_ble_eq_true rfl)⟩ (dg ddL_draw 5 rfl) (fun ce q9 H locs hP hD hS hq hv hcl => ?_)
      rw [h1] at hcl
      refine vx_catch (name := "java/lang/IllegalArgumentException") CX.2.2.2 [⟨3, 10, 13, 23⟩] ⟨3, 10, 18, 17⟩ [⟨3, 10, 23, 28⟩] (htab.trans rfl) (fun z hz => by rw [List.mem_singleton.mp hz]; exact Or.inr ⟨by decide, "java/lang/IndexOutOfBoundsException", CX.2.2.1 (.classLink RL 23 "java/lang/IndexOutOfBoundsException") (lw_at 411 (by decide +kernel)), hC ("java/lang/IllegalArgumentException", "java/lang/IndexOutOfBoundsException") (by decide +kernel)⟩) rfl (by decide) (CX.2.2.1 (.classLink RL 17 "java/lang/IllegalArgumentException") (lw_at 335 (by decide +kernel))) (va_Nw.use rfl (hX.1 (.castable "java/lang/IllegalArgumentException" "java/lang/IllegalArgumentException") (by decide +kernel))) hq hv hcl ?_
      refine lv_astore (lv' := [(4, .ref q9), (3, .int ((-100000000))), (0, .ref (q 0 0)), (1, .int a1), (2, .int a2)]) hx hb (dg ddL_draw 11 rfl) hl (by decide) rfl (fun ls hl => ?_)
      refine lv_ldc hx hb CX.2.2.2 (CX.2.2.1 (.constant RL 10 (-100000000)) (lw_at 336 (by decide +kernel))) (dg ddL_draw 12 rfl) ?_
      exact e_wi CX hr hlk rfl hP hD hS (dg ddL_draw 13 rfl)
    have hf := it_f h1 hf
    by_cases h2 : t.1 = 3
    · have hf := it_t h2 hf
      cases hf
      refine crv_ti CX hml (As := [.int a1, .int a2]) (rest := []) (wr := []) (c_X4_draw l D cy q x_isv x_te x_re x_de x_now x_spa x_sna x_len x_sig x_nxt x_cnt x_rng a1 a2 _ hst e9) lk_RL_33 rfl rfl hRM hP hD hS hA hK hN hX (List.Perm.of_eq (List.append_nil _).symm) (List.Perm.of_eq (List.append_nil _)) 0 rfl rfl rfl hl.1 rfl (Nat.le_of_ble_eq_true rfl) ⟨(Nat.le_of_ble_eq_true rfl), (Nat.le_of_ble_eq_true rfl)⟩ (dg ddL_draw 5 rfl) (fun ce q9 H locs hP hD hS hq hv hcl => ?_)
      rw [h2] at hcl
      refine vx_catch (name := "java/lang/UnsupportedOperationException") CX.2.2.2 [⟨3, 10, 13, 23⟩, ⟨3, 10, 18, 17⟩] ⟨3, 10, 23, 28⟩ [] (htab.trans rfl) (fun z hz => by rcases List.mem_cons.mp hz with h | hz; { rw [h]; exact Or.inr ⟨by decide, "java/lang/IndexOutOfBoundsException", CX.2.2.1 (.classLink RL 23 "java/lang/IndexOutOfBoundsException") (lw_at 411 (by decide +kernel)), hC ("java/lang/UnsupportedOperationException", "java/lang/IndexOutOfBoundsException") (by decide +kernel)⟩ }; { rw [List.mem_singleton.mp hz]; exact Or.inr ⟨by decide, "java/lang/IllegalArgumentException", CX.2.2.1 (.classLink RL 17 "java/lang/IllegalArgumentException") (lw_at 335 (by decide +kernel)), hC ("java/lang/UnsupportedOperationException", "java/lang/IllegalArgumentException") (by decide +kernel)⟩ }) rfl (by decide) (CX.2.2.1 (.classLink RL 28 "java/lang/UnsupportedOperationException") (lw_at 391 (by decide +kernel))) (va_Nw.use rfl (hX.1 (.castable "java/lang/UnsupportedOperationException" "java/lang/UnsupportedOperationException") (by decide +kernel))) hq hv hcl ?_
      refine lv_astore (lv' := [(4, .ref q9), (3, .int ((-100000000))), (0, .ref (q 0 0)), (1, .int a1), (2, .int a2)]) hx hb (dg ddL_draw 14 rfl) hl (by decide) rfl (fun ls hl => ?_)
      refine lv_ldc hx hb CX.2.2.2 (CX.2.2.1 (.constant RL 10 (-100000000)) (lw_at 336 (by decide +kernel))) (dg ddL_draw 15 rfl) ?_
      exact e_wi CX hr hlk rfl hP hD hS (dg ddL_draw 16 rfl)
    have hf := it_f h2 hf
    cases hf
  · have hf := os_r hf
    cases hf
    refine crv_ri CX hml (As := [.int a1, .int a2]) (rest := []) (wr := []) (c_X4_draw l D cy q x_isv x_te x_re x_de x_now x_spa x_sna x_len x_sig x_nxt x_cnt x_rng a1 a2 _ hst e9) lk_RL_33 rfl rfl hRM hP hD hS hA hK hN hX (List.Perm.of_eq (List.append_nil _).symm) (List.Perm.of_eq (List.append_nil _)) 0 rfl rfl rfl hl.1 rfl (Nat.le_of_ble_eq_true rfl) ⟨(Nat.le_of_ble_eq_true rfl), (Nat.le_of_ble_eq_true rfl)⟩ (dg ddL_draw 5 rfl) (fun H locs hP hD hS => ?_)
    refine lv_istore_n (lv' := [(3, .int (x.1)), (0, .ref (q 0 0)), (1, .int a1), (2, .int a2)]) hx hb (dg ddL_draw 6 rfl) rfl hl (by decide) rfl (fun ls hl => ?_)
    refine lv_goto (tgt := 28) hx hb (dg ddL_draw 7 rfl) (by decide) ?_
    refine lv_iload_n hx hb (dg ddL_draw 17 rfl) rfl (lv_at hl 0 rfl) ?_
    exact e_wi CX hr hlk rfl hP hD hS (dg ddL_draw 18 rfl)
def f_L_waiting (x_now : SV) (a1 : Int32) : Option (Int32) := ob (f_X4_waiting x_now a1) fun r => (os r (fun t => if t = 4 then some ((-100000000)) else (none)) fun x => (some (x)))
set_option maxHeartbeats 4000000 in
set_option maxRecDepth 100000 in
theorem c_L_waiting (l : Launch) (D : va_G) (cy : Nat → ClassId) (q : Nat → Nat → Nat) (x_isv : Int32) (x_te : Int32) (x_re : Int32) (x_de : Int32) (x_now : SV) (x_spa : SV) (x_sna : SV) (x_len : Int32) (x_sig : Nat → Int32) (x_nxt : Int32) (x_cnt : Int32) (x_rng : Nat → SV) (a1 : Int32) (sz : Nat) (hst : l.stackTraces = false) {res : Int32} (hf : f_L_waiting x_now a1 = some res) : Met l yL_waiting (.codeWith yL_waiting cL_waiting 4 (some .int) [(3, 9, 12, 39)] :: lw_all) { frames := 7, cells := 1, slots := 6, locals := 104 } (va_Pc [.ref (q 0 0), .int a1] (sY D cy (wX4 q cy x_isv x_te x_re x_de x_now x_spa x_sna x_len x_sig x_nxt x_cnt x_rng) sz)) (qI D (wX4 q cy x_isv x_te x_re x_de x_now x_spa x_sna x_len x_sig x_nxt x_cnt x_rng) res (va_A (wX4 q cy x_isv x_te x_re x_de x_now x_spa x_sna x_len x_sig x_nxt x_cnt x_rng) sz)) 1 6 (va_A (wX4 q cy x_isv x_te x_re x_de x_now x_spa x_sna x_len x_sig x_nxt x_cnt x_rng) sz) := by
  refine mk_l (Qc := qI D (wX4 q cy x_isv x_te x_re x_de x_now x_spa x_sna x_len x_sig x_nxt x_cnt x_rng) res) (Rc := RL) (by decide +kernel) rfl (Nat.le_of_ble_eq_true rfl) ?_
  intro p e s m args below meth c ls A CX hml hr hlk hK hN hP hD hS hA hl htab hX hC
  have hx := CX.1
  have hb := CX.2.1
  have hRM : (⟨6, 1, 6, 82⟩ : Room).frames + 1 ≤ (⟨7, 1, 6, 104⟩ : Room).frames ∧ 8 + (3 + 11) + (⟨6, 1, 6, 82⟩ : Room).locals ≤ (⟨7, 1, 6, 104⟩ : Room).locals := ⟨(Nat.le_of_ble_eq_true rfl), (Nat.le_of_ble_eq_true rfl)⟩
  refine lv_ldc hx hb CX.2.2.2 (CX.2.2.1 (.constant RL 10 (-100000000)) (lw_at 336 (by decide +kernel))) (dg ddL_waiting 0 rfl) ?_
  refine lv_istore_n (lv' := [(2, .int ((-100000000))), (0, .ref (q 0 0)), (1, .int a1)]) hx hb (dg ddL_waiting 1 rfl) rfl hl (by decide) rfl (fun ls hl => ?_)
  refine lv_aload_n hx hb (dg ddL_waiting 2 rfl) rfl (lv_at hl 1 rfl) ?_
  refine lv_iload_n hx hb (dg ddL_waiting 3 rfl) rfl (lv_at hl 2 rfl) ?_
  obtain ⟨r, e9, hf⟩ := ob_some hf
  rcases r with t | x
  · have hf := os_l hf
    by_cases h0 : t = 4
    · have hf := it_t h0 hf
      cases hf
      refine crv_ti CX hml (As := [.int a1]) (rest := []) (wr := []) (c_X4_waiting l D cy q x_isv x_te x_re x_de x_now x_spa x_sna x_len x_sig x_nxt x_cnt x_rng a1 _ hst e9) lk_RL_36 rfl rfl hRM hP hD hS hA hK hN hX (List.Perm.of_eq (List.append_nil _).symm) (List.Perm.of_eq (List.append_nil _)) 0 rfl rfl rfl hl.1 rfl (Nat.le_of_ble_eq_true rfl) ⟨(Nat.le_of_ble_eq_true rfl), (Nat.le_of_ble_eq_true rfl)⟩ (dg ddL_waiting 4 rfl) (fun ce q9 H locs hP hD hS hq hv hcl => ?_)
      rw [h0] at hcl
      refine vx_catch (name := "java/util/NoSuchElementException") CX.2.2.2 [] ⟨3, 9, 12, 39⟩ [] (htab.trans rfl) (fun z hz => nomatch hz) rfl (by decide) (CX.2.2.1 (.classLink RL 39 "java/util/NoSuchElementException") (lw_at 846 (by decide +kernel))) (va_Nw.use rfl (hX.1 (.castable "java/util/NoSuchElementException" "java/util/NoSuchElementException") (by decide +kernel))) hq hv hcl ?_
      refine lv_astore_n (lv' := [(3, .ref q9), (2, .int ((-100000000))), (0, .ref (q 0 0)), (1, .int a1)]) hx hb (dg ddL_waiting 7 rfl) rfl hl (by decide) rfl (fun ls hl => ?_)
      refine lv_ldc hx hb CX.2.2.2 (CX.2.2.1 (.constant RL 10 (-100000000)) (lw_at 336 (by decide +kernel))) (dg ddL_waiting 8 rfl) ?_
      exact e_wi CX hr hlk rfl hP hD hS (dg ddL_waiting 9 rfl)
    have hf := it_f h0 hf
    cases hf
  · have hf := os_r hf
    cases hf
    refine crv_ri CX hml (As := [.int a1]) (rest := []) (wr := []) (c_X4_waiting l D cy q x_isv x_te x_re x_de x_now x_spa x_sna x_len x_sig x_nxt x_cnt x_rng a1 _ hst e9) lk_RL_36 rfl rfl hRM hP hD hS hA hK hN hX (List.Perm.of_eq (List.append_nil _).symm) (List.Perm.of_eq (List.append_nil _)) 0 rfl rfl rfl hl.1 rfl (Nat.le_of_ble_eq_true rfl) ⟨(Nat.le_of_ble_eq_true rfl), (Nat.le_of_ble_eq_true rfl)⟩ (dg ddL_waiting 4 rfl) (fun H locs hP hD hS => ?_)
    refine lv_istore_n (lv' := [(2, .int (res)), (0, .ref (q 0 0)), (1, .int a1)]) hx hb (dg ddL_waiting 5 rfl) rfl hl (by decide) rfl (fun ls hl => ?_)
    refine lv_goto (tgt := 16) hx hb (dg ddL_waiting 6 rfl) (by decide) ?_
    refine lv_iload_n hx hb (dg ddL_waiting 10 rfl) rfl (lv_at hl 0 rfl) ?_
    exact e_wi CX hr hlk rfl hP hD hS (dg ddL_waiting 11 rfl)
def f_L_leave (x_re : Int32) (x_de : Int32) (x_now : SV) (x_nxt : Int32) (x_cnt : Int32) (x_rng : Nat → SV) (a1 : Int32) : Option (Int32 × Int32 × Int32 × SV × Int32 × Int32 × (Nat → SV)) := ob (f_X4_leave x_re x_de x_now x_nxt x_cnt x_rng a1) fun r => (os r (fun t => if t.1 = 1 then some ((-100000000), t.2.1, t.2.2.1, t.2.2.2.1, t.2.2.2.2.1, t.2.2.2.2.2.1, t.2.2.2.2.2.2) else (if t.1 = 3 then some ((-100000000), t.2.1, t.2.2.1, t.2.2.2.1, t.2.2.2.2.1, t.2.2.2.2.2.1, t.2.2.2.2.2.2) else (none))) fun x => (some (x.1, x.2.1, x.2.2.1, x.2.2.2.1, x.2.2.2.2.1, x.2.2.2.2.2.1, x.2.2.2.2.2.2)))
set_option maxHeartbeats 4000000 in
set_option maxRecDepth 100000 in
theorem c_L_leave (l : Launch) (D : va_G) (cy : Nat → ClassId) (q : Nat → Nat → Nat) (x_isv : Int32) (x_te : Int32) (x_re : Int32) (x_de : Int32) (x_now : SV) (x_spa : SV) (x_sna : SV) (x_len : Int32) (x_sig : Nat → Int32) (x_nxt : Int32) (x_cnt : Int32) (x_rng : Nat → SV) (a1 : Int32) (sz : Nat) (hst : l.stackTraces = false) {res : Int32 × Int32 × Int32 × SV × Int32 × Int32 × (Nat → SV)} (hf : f_L_leave x_re x_de x_now x_nxt x_cnt x_rng a1 = some res) : Met l yL_leave (.codeWith yL_leave cL_leave 4 (some .int) [(3, 9, 12, 23), (3, 9, 16, 28)] :: lw_all) { frames := 8, cells := 1, slots := 6, locals := 123 } (va_Pc [.ref (q 0 0), .int a1] (sY D cy (wX4 q cy x_isv x_te x_re x_de x_now x_spa x_sna x_len x_sig x_nxt x_cnt x_rng) sz)) (qI D (wX4 q cy x_isv x_te res.2.1 res.2.2.1 res.2.2.2.1 x_spa x_sna x_len x_sig res.2.2.2.2.1 res.2.2.2.2.2.1 res.2.2.2.2.2.2) res.1 (va_A (wX4 q cy x_isv x_te x_re x_de x_now x_spa x_sna x_len x_sig x_nxt x_cnt x_rng) sz)) 1 6 (va_A (wX4 q cy x_isv x_te x_re x_de x_now x_spa x_sna x_len x_sig x_nxt x_cnt x_rng) sz) := by
  refine mk_l (Qc := qI D (wX4 q cy x_isv x_te res.2.1 res.2.2.1 res.2.2.2.1 x_spa x_sna x_len x_sig res.2.2.2.2.1 res.2.2.2.2.2.1 res.2.2.2.2.2.2) res.1) (Rc := RL) (by decide +kernel) rfl (Nat.le_of_ble_eq_true rfl) ?_
  intro p e s m args below meth c ls A CX hml hr hlk hK hN hP hD hS hA hl htab hX hC
  have hx := CX.1
  have hb := CX.2.1
  have hRM : (⟨7, 1, 6, 102⟩ : Room).frames + 1 ≤ (⟨8, 1, 6, 123⟩ : Room).frames ∧ 8 + (2 + 11) + (⟨7, 1, 6, 102⟩ : Room).locals ≤ (⟨8, 1, 6, 123⟩ : Room).locals := ⟨(Nat.le_of_ble_eq_true rfl), (Nat.le_of_ble_eq_true rfl)⟩
  refine lv_ldc hx hb CX.2.2.2 (CX.2.2.1 (.constant RL 10 (-100000000)) (lw_at 336 (by decide +kernel))) (dg ddL_leave 0 rfl) ?_
  refine lv_istore_n (lv' := [(2, .int ((-100000000))), (0, .ref (q 0 0)), (1, .int a1)]) hx hb (dg ddL_leave 1 rfl) rfl hl (by decide) rfl (fun ls hl => ?_)
  refine lv_aload_n hx hb (dg ddL_leave 2 rfl) rfl (lv_at hl 1 rfl) ?_
  refine lv_iload_n hx hb (dg ddL_leave 3 rfl) rfl (lv_at hl 2 rfl) ?_
  obtain ⟨r, e9, hf⟩ := ob_some hf
  rcases r with t | x
  · have hf := os_l hf
    by_cases h0 : t.1 = 1
    · have hf := it_t h0 hf
      cases hf
      refine crv_ti CX hml (As := [.int a1]) (rest := []) (wr := []) (c_X4_leave l D cy q x_isv x_te x_re x_de x_now x_spa x_sna x_len x_sig x_nxt x_cnt x_rng a1 _ hst e9) lk_RL_41 rfl rfl hRM hP hD hS hA hK hN hX (List.Perm.of_eq (List.append_nil _).symm) (List.Perm.of_eq (List.append_nil _)) 0 rfl rfl rfl hl.1 rfl (Nat.le_of_ble_eq_true rfl) ⟨(Nat.le_of_ble_eq_true rfl), (Nat.le_of_ble_eq_true rfl)⟩ (dg ddL_leave 4 rfl) (fun ce q9 H locs hP hD hS hq hv hcl => ?_)
      rw [h0] at hcl
      refine vx_catch (name := "java/lang/IndexOutOfBoundsException") CX.2.2.2 [] ⟨3, 9, 12, 23⟩ [⟨3, 9, 16, 28⟩] (htab.trans rfl) (fun z hz => nomatch hz) rfl (by decide) (CX.2.2.1 (.classLink RL 23 "java/lang/IndexOutOfBoundsException") (lw_at 411 (by decide +kernel))) (va_Nw.use rfl (hX.1 (.castable "java/lang/IndexOutOfBoundsException" "java/lang/IndexOutOfBoundsException") (by decide +kernel))) hq hv hcl ?_
      refine lv_astore_n (lv' := [(3, .ref q9), (2, .int ((-100000000))), (0, .ref (q 0 0)), (1, .int a1)]) hx hb (dg ddL_leave 7 rfl) rfl hl (by decide) rfl (fun ls hl => ?_)
      refine lv_ldc hx hb CX.2.2.2 (CX.2.2.1 (.constant RL 10 (-100000000)) (lw_at 336 (by decide +kernel))) (dg ddL_leave 8 rfl) ?_
      exact e_wi CX hr hlk rfl hP hD hS (dg ddL_leave 9 rfl)
    have hf := it_f h0 hf
    by_cases h1 : t.1 = 3
    · have hf := it_t h1 hf
      cases hf
      refine crv_ti CX hml (As := [.int a1]) (rest := []) (wr := []) (c_X4_leave l D cy q x_isv x_te x_re x_de x_now x_spa x_sna x_len x_sig x_nxt x_cnt x_rng a1 _ hst e9) lk_RL_41 rfl rfl hRM hP hD hS hA hK hN hX (List.Perm.of_eq (List.append_nil _).symm) (List.Perm.of_eq (List.append_nil _)) 0 rfl rfl rfl hl.1 rfl (Nat.le_of_ble_eq_true rfl) ⟨(Nat.le_of_ble_eq_true rfl), (Nat.le_of_ble_eq_true rfl)⟩ (dg ddL_leave 4 rfl) (fun ce q9 H locs hP hD hS hq hv hcl => ?_)
      rw [h1] at hcl
      refine vx_catch (name := "java/lang/UnsupportedOperationException") CX.2.2.2 [⟨3, 9, 12, 23⟩] ⟨3, 9, 16, 28⟩ [] (htab.trans rfl) (fun z hz => by rw [List.mem_singleton.mp hz]; exact Or.inr ⟨by decide, "java/lang/IndexOutOfBoundsException", CX.2.2.1 (.classLink RL 23 "java/lang/IndexOutOfBoundsException") (lw_at 411 (by decide +kernel)), hC ("java/lang/UnsupportedOperationException", "java/lang/IndexOutOfBoundsException") (by decide +kernel)⟩) rfl (by decide) (CX.2.2.1 (.classLink RL 28 "java/lang/UnsupportedOperationException") (lw_at 391 (by decide +kernel))) (va_Nw.use rfl (hX.1 (.castable "java/lang/UnsupportedOperationException" "java/lang/UnsupportedOperationException") (by decide +kernel))) hq hv hcl ?_
      refine lv_astore_n (lv' := [(3, .ref q9), (2, .int ((-100000000))), (0, .ref (q 0 0)), (1, .int a1)]) hx hb (dg ddL_leave 10 rfl) rfl hl (by decide) rfl (fun ls hl => ?_)
      refine lv_ldc hx hb CX.2.2.2 (CX.2.2.1 (.constant RL 10 (-100000000)) (lw_at 336 (by decide +kernel))) (dg ddL_leave 11 rfl) ?_
      exact e_wi CX hr hlk rfl hP hD hS (dg ddL_leave 12 rfl)
    have hf := it_f h1 hf
    cases hf
  · have hf := os_r hf
    cases hf
    refine crv_ri CX hml (As := [.int a1]) (rest := []) (wr := []) (c_X4_leave l D cy q x_isv x_te x_re x_de x_now x_spa x_sna x_len x_sig x_nxt x_cnt x_rng a1 _ hst e9) lk_RL_41 rfl rfl hRM hP hD hS hA hK hN hX (List.Perm.of_eq (List.append_nil _).symm) (List.Perm.of_eq (List.append_nil _)) 0 rfl rfl rfl hl.1 rfl (Nat.le_of_ble_eq_true rfl) ⟨(Nat.le_of_ble_eq_true rfl), (Nat.le_of_ble_eq_true rfl)⟩ (dg ddL_leave 4 rfl) (fun H locs hP hD hS => ?_)
    refine lv_istore_n (lv' := [(2, .int (x.1)), (0, .ref (q 0 0)), (1, .int a1)]) hx hb (dg ddL_leave 5 rfl) rfl hl (by decide) rfl (fun ls hl => ?_)
    refine lv_goto (tgt := 20) hx hb (dg ddL_leave 6 rfl) (by decide) ?_
    refine lv_iload_n hx hb (dg ddL_leave 13 rfl) rfl (lv_at hl 0 rfl) ?_
    exact e_wi CX hr hlk rfl hP hD hS (dg ddL_leave 14 rfl)
def f_L_swap (x_re : Int32) (x_de : Int32) (x_now : SV) (x_nxt : Int32) (x_cnt : Int32) (x_rng : Nat → SV) (a1 : Int32) (a2 : Int32) : Option (Int32 × Int32 × Int32 × SV × Int32 × Int32 × (Nat → SV)) := ob (f_X4_swap x_re x_de x_now x_nxt x_cnt x_rng a1 a2) fun r => (os r (fun t => if t.1 = 1 then some ((-100000000), t.2.1, t.2.2.1, t.2.2.2.1, t.2.2.2.2.1, t.2.2.2.2.2.1, t.2.2.2.2.2.2) else (if t.1 = 3 then some ((-100000000), t.2.1, t.2.2.1, t.2.2.2.1, t.2.2.2.2.1, t.2.2.2.2.2.1, t.2.2.2.2.2.2) else (none))) fun x => (some (x.1, x.2.1, x.2.2.1, x.2.2.2.1, x.2.2.2.2.1, x.2.2.2.2.2.1, x.2.2.2.2.2.2)))
set_option maxHeartbeats 4000000 in
set_option maxRecDepth 100000 in
theorem c_L_swap (l : Launch) (D : va_G) (cy : Nat → ClassId) (q : Nat → Nat → Nat) (x_isv : Int32) (x_te : Int32) (x_re : Int32) (x_de : Int32) (x_now : SV) (x_spa : SV) (x_sna : SV) (x_len : Int32) (x_sig : Nat → Int32) (x_nxt : Int32) (x_cnt : Int32) (x_rng : Nat → SV) (a1 : Int32) (a2 : Int32) (sz : Nat) (hst : l.stackTraces = false) {res : Int32 × Int32 × Int32 × SV × Int32 × Int32 × (Nat → SV)} (hf : f_L_swap x_re x_de x_now x_nxt x_cnt x_rng a1 a2 = some res) : Met l yL_swap (.codeWith yL_swap cL_swap 5 (some .int) [(3, 10, 13, 23), (3, 10, 18, 28)] :: lw_all) { frames := 8, cells := 1, slots := 6, locals := 124 } (va_Pc [.ref (q 0 0), .int a1, .int a2] (sY D cy (wX4 q cy x_isv x_te x_re x_de x_now x_spa x_sna x_len x_sig x_nxt x_cnt x_rng) sz)) (qI D (wX4 q cy x_isv x_te res.2.1 res.2.2.1 res.2.2.2.1 x_spa x_sna x_len x_sig res.2.2.2.2.1 res.2.2.2.2.2.1 res.2.2.2.2.2.2) res.1 (va_A (wX4 q cy x_isv x_te x_re x_de x_now x_spa x_sna x_len x_sig x_nxt x_cnt x_rng) sz)) 1 6 (va_A (wX4 q cy x_isv x_te x_re x_de x_now x_spa x_sna x_len x_sig x_nxt x_cnt x_rng) sz) := by
  refine mk_l (Qc := qI D (wX4 q cy x_isv x_te res.2.1 res.2.2.1 res.2.2.2.1 x_spa x_sna x_len x_sig res.2.2.2.2.1 res.2.2.2.2.2.1 res.2.2.2.2.2.2) res.1) (Rc := RL) (by decide +kernel) rfl (Nat.le_of_ble_eq_true rfl) ?_
  intro p e s m args below meth c ls A CX hml hr hlk hK hN hP hD hS hA hl htab hX hC
  have hx := CX.1
  have hb := CX.2.1
  have hRM : (⟨7, 1, 6, 102⟩ : Room).frames + 1 ≤ (⟨8, 1, 6, 124⟩ : Room).frames ∧ 8 + (3 + 11) + (⟨7, 1, 6, 102⟩ : Room).locals ≤ (⟨8, 1, 6, 124⟩ : Room).locals := ⟨(Nat.le_of_ble_eq_true rfl), (Nat.le_of_ble_eq_true rfl)⟩
  refine lv_ldc hx hb CX.2.2.2 (CX.2.2.1 (.constant RL 10 (-100000000)) (lw_at 336 (by decide +kernel))) (dg ddL_swap 0 rfl) ?_
  refine lv_istore_n (lv' := [(3, .int ((-100000000))), (0, .ref (q 0 0)), (1, .int a1), (2, .int a2)]) hx hb (dg ddL_swap 1 rfl) rfl hl (by decide) rfl (fun ls hl => ?_)
  refine lv_aload_n hx hb (dg ddL_swap 2 rfl) rfl (lv_at hl 1 rfl) ?_
  refine lv_iload_n hx hb (dg ddL_swap 3 rfl) rfl (lv_at hl 2 rfl) ?_
  refine lv_iload_n hx hb (dg ddL_swap 4 rfl) rfl (lv_at hl 3 rfl) ?_
  obtain ⟨r, e9, hf⟩ := ob_some hf
  rcases r with t | x
  · have hf := os_l hf
    by_cases h0 : t.1 = 1
    · have hf := it_t h0 hf
      cases hf
      refine crv_ti CX hml (As := [.int a1, .int a2]) (rest := []) (wr := []) (c_X4_swap l D cy q x_isv x_te x_re x_de x_now x_spa x_sna x_len x_sig x_nxt x_cnt x_rng a1 a2 _ hst e9) lk_RL_44 rfl rfl hRM hP hD hS hA hK hN hX (List.Perm.of_eq (List.append_nil _).symm) (List.Perm.of_eq (List.append_nil _)) 0 rfl rfl rfl hl.1 rfl (Nat.le_of_ble_eq_true rfl) ⟨(Nat.le_of_ble_eq_true rfl), (Nat.le_of_ble_eq_true rfl)⟩ (dg ddL_swap 5 rfl) (fun ce q9 H locs hP hD hS hq hv hcl => ?_)
      rw [h0] at hcl
      refine vx_catch (name := "java/lang/IndexOutOfBoundsException") CX.2.2.2 [] ⟨3, 10, 13, 23⟩ [⟨3, 10, 18, 28⟩] (htab.trans rfl) (fun z hz => nomatch hz) rfl (by decide) (CX.2.2.1 (.classLink RL 23 "java/lang/IndexOutOfBoundsException") (lw_at 411 (by decide +kernel))) (va_Nw.use rfl (hX.1 (.castable "java/lang/IndexOutOfBoundsException" "java/lang/IndexOutOfBoundsException") (by decide +kernel))) hq hv hcl ?_
      refine lv_astore (lv' := [(4, .ref q9), (3, .int ((-100000000))), (0, .ref (q 0 0)), (1, .int a1), (2, .int a2)]) hx hb (dg ddL_swap 8 rfl) hl (by decide) rfl (fun ls hl => ?_)
      refine lv_ldc hx hb CX.2.2.2 (CX.2.2.1 (.constant RL 10 (-100000000)) (lw_at 336 (by decide +kernel))) (dg ddL_swap 9 rfl) ?_
      exact e_wi CX hr hlk rfl hP hD hS (dg ddL_swap 10 rfl)
    have hf := it_f h0 hf
    by_cases h1 : t.1 = 3
    · have hf := it_t h1 hf
      cases hf
      refine crv_ti CX hml (As := [.int a1, .int a2]) (rest := []) (wr := []) (c_X4_swap l D cy q x_isv x_te x_re x_de x_now x_spa x_sna x_len x_sig x_nxt x_cnt x_rng a1 a2 _ hst e9) lk_RL_44 rfl rfl hRM hP hD hS hA hK hN hX (List.Perm.of_eq (List.append_nil _).symm) (List.Perm.of_eq (List.append_nil _)) 0 rfl rfl rfl hl.1 rfl (Nat.le_of_ble_eq_true rfl) ⟨(Nat.le_of_ble_eq_true rfl), (Nat.le_of_ble_eq_true rfl)⟩ (dg ddL_swap 5 rfl) (fun ce q9 H locs hP hD hS hq hv hcl => ?_)
      rw [h1] at hcl
      refine vx_catch (name := "java/lang/UnsupportedOperationException") CX.2.2.2 [⟨3, 10, 13, 23⟩] ⟨3, 10, 18, 28⟩ [] (htab.trans rfl) (fun z hz => by rw [List.mem_singleton.mp hz]; exact Or.inr ⟨by decide, "java/lang/IndexOutOfBoundsException", CX.2.2.1 (.classLink RL 23 "java/lang/IndexOutOfBoundsException") (lw_at 411 (by decide +kernel)), hC ("java/lang/UnsupportedOperationException", "java/lang/IndexOutOfBoundsException") (by decide +kernel)⟩) rfl (by decide) (CX.2.2.1 (.classLink RL 28 "java/lang/UnsupportedOperationException") (lw_at 391 (by decide +kernel))) (va_Nw.use rfl (hX.1 (.castable "java/lang/UnsupportedOperationException" "java/lang/UnsupportedOperationException") (by decide +kernel))) hq hv hcl ?_
      refine lv_astore (lv' := [(4, .ref q9), (3, .int ((-100000000))), (0, .ref (q 0 0)), (1, .int a1), (2, .int a2)]) hx hb (dg ddL_swap 11 rfl) hl (by decide) rfl (fun ls hl => ?_)
      refine lv_ldc hx hb CX.2.2.2 (CX.2.2.1 (.constant RL 10 (-100000000)) (lw_at 336 (by decide +kernel))) (dg ddL_swap 12 rfl) ?_
      exact e_wi CX hr hlk rfl hP hD hS (dg ddL_swap 13 rfl)
    have hf := it_f h1 hf
    cases hf
  · have hf := os_r hf
    cases hf
    refine crv_ri CX hml (As := [.int a1, .int a2]) (rest := []) (wr := []) (c_X4_swap l D cy q x_isv x_te x_re x_de x_now x_spa x_sna x_len x_sig x_nxt x_cnt x_rng a1 a2 _ hst e9) lk_RL_44 rfl rfl hRM hP hD hS hA hK hN hX (List.Perm.of_eq (List.append_nil _).symm) (List.Perm.of_eq (List.append_nil _)) 0 rfl rfl rfl hl.1 rfl (Nat.le_of_ble_eq_true rfl) ⟨(Nat.le_of_ble_eq_true rfl), (Nat.le_of_ble_eq_true rfl)⟩ (dg ddL_swap 5 rfl) (fun H locs hP hD hS => ?_)
    refine lv_istore_n (lv' := [(3, .int (x.1)), (0, .ref (q 0 0)), (1, .int a1), (2, .int a2)]) hx hb (dg ddL_swap 6 rfl) rfl hl (by decide) rfl (fun ls hl => ?_)
    refine lv_goto (tgt := 23) hx hb (dg ddL_swap 7 rfl) (by decide) ?_
    refine lv_iload_n hx hb (dg ddL_swap 14 rfl) rfl (lv_at hl 0 rfl) ?_
    exact e_wi CX hr hlk rfl hP hD hS (dg ddL_swap 15 rfl)
def f_L_quietest (x_now : SV) (a1 : Int32) : Option (Int32) := ob (f_X4_quietest x_now a1) fun r => (os r (fun t => if t = 1 then some ((-1000)) else (if t = 4 then some ((-1000)) else (none))) fun x => (some (x)))
set_option maxHeartbeats 4000000 in
set_option maxRecDepth 100000 in
theorem c_L_quietest (l : Launch) (D : va_G) (cy : Nat → ClassId) (q : Nat → Nat → Nat) (x_isv : Int32) (x_te : Int32) (x_re : Int32) (x_de : Int32) (x_now : SV) (x_spa : SV) (x_sna : SV) (x_len : Int32) (x_sig : Nat → Int32) (x_nxt : Int32) (x_cnt : Int32) (x_rng : Nat → SV) (a1 : Int32) (sz : Nat) (hst : l.stackTraces = false) {res : Int32} (hf : f_L_quietest x_now a1 = some res) : Met l yL_quietest (.codeWith yL_quietest cL_quietest 4 (some .int) [(4, 10, 13, 23), (4, 10, 18, 39)] :: lw_all) { frames := 8, cells := 2, slots := 12, locals := 168 } (va_Pc [.ref (q 0 0), .int a1] (sY D cy (wX4 q cy x_isv x_te x_re x_de x_now x_spa x_sna x_len x_sig x_nxt x_cnt x_rng) sz)) (qI D (wX4 q cy x_isv x_te x_re x_de x_now x_spa x_sna x_len x_sig x_nxt x_cnt x_rng) res (va_A (wX4 q cy x_isv x_te x_re x_de x_now x_spa x_sna x_len x_sig x_nxt x_cnt x_rng) sz)) 2 12 (va_A (wX4 q cy x_isv x_te x_re x_de x_now x_spa x_sna x_len x_sig x_nxt x_cnt x_rng) sz) := by
  refine mk_l (Qc := qI D (wX4 q cy x_isv x_te x_re x_de x_now x_spa x_sna x_len x_sig x_nxt x_cnt x_rng) res) (Rc := RL) (by decide +kernel) rfl (Nat.le_of_ble_eq_true rfl) ?_
  intro p e s m args below meth c ls A CX hml hr hlk hK hN hP hD hS hA hl htab hX hC
  have hx := CX.1
  have hb := CX.2.1
  have hRM : (⟨7, 2, 12, 146⟩ : Room).frames + 1 ≤ (⟨8, 2, 12, 168⟩ : Room).frames ∧ 8 + (3 + 11) + (⟨7, 2, 12, 146⟩ : Room).locals ≤ (⟨8, 2, 12, 168⟩ : Room).locals := ⟨(Nat.le_of_ble_eq_true rfl), (Nat.le_of_ble_eq_true rfl)⟩
  refine lv_sipush (v := (-1000)) hx hb (dg ddL_quietest 0 rfl) (by decide) ?_
  refine lv_istore_n (lv' := [(2, .int ((-1000))), (0, .ref (q 0 0)), (1, .int a1)]) hx hb (dg ddL_quietest 1 rfl) rfl hl (by decide) rfl (fun ls hl => ?_)
  refine lv_aload_n hx hb (dg ddL_quietest 2 rfl) rfl (lv_at hl 1 rfl) ?_
  refine lv_iload_n hx hb (dg ddL_quietest 3 rfl) rfl (lv_at hl 2 rfl) ?_
  obtain ⟨r, e9, hf⟩ := ob_some hf
  rcases r with t | x
  · have hf := os_l hf
    by_cases h0 : t = 1
    · have hf := it_t h0 hf
      cases hf
      refine crv_ti CX hml (As := [.int a1]) (rest := []) (wr := []) (c_X4_quietest l D cy q x_isv x_te x_re x_de x_now x_spa x_sna x_len x_sig x_nxt x_cnt x_rng a1 _ hst e9) lk_RL_47 rfl rfl hRM hP hD hS hA hK hN hX (List.Perm.of_eq (List.append_nil _).symm) (List.Perm.of_eq (List.append_nil _)) 0 rfl rfl rfl hl.1 rfl (Nat.le_of_ble_eq_true rfl) ⟨(Nat.le_of_ble_eq_true rfl), (Nat.le_of_ble_eq_true rfl)⟩ (dg ddL_quietest 4 rfl) (fun ce q9 H locs hP hD hS hq hv hcl => ?_)
      rw [h0] at hcl
      refine vx_catch (name := "java/lang/IndexOutOfBoundsException") CX.2.2.2 [] ⟨4, 10, 13, 23⟩ [⟨4, 10, 18, 39⟩] (htab.trans rfl) (fun z hz => nomatch hz) rfl (by decide) (CX.2.2.1 (.classLink RL 23 "java/lang/IndexOutOfBoundsException") (lw_at 411 (by decide +kernel))) (va_Nw.use rfl (hX.1 (.castable "java/lang/IndexOutOfBoundsException" "java/lang/IndexOutOfBoundsException") (by decide +kernel))) hq hv hcl ?_
      refine lv_astore_n (lv' := [(3, .ref q9), (2, .int ((-1000))), (0, .ref (q 0 0)), (1, .int a1)]) hx hb (dg ddL_quietest 7 rfl) rfl hl (by decide) rfl (fun ls hl => ?_)
      refine lv_sipush (v := (-1000)) hx hb (dg ddL_quietest 8 rfl) (by decide) ?_
      exact e_wi CX hr hlk rfl hP hD hS (dg ddL_quietest 9 rfl)
    have hf := it_f h0 hf
    by_cases h1 : t = 4
    · have hf := it_t h1 hf
      cases hf
      refine crv_ti CX hml (As := [.int a1]) (rest := []) (wr := []) (c_X4_quietest l D cy q x_isv x_te x_re x_de x_now x_spa x_sna x_len x_sig x_nxt x_cnt x_rng a1 _ hst e9) lk_RL_47 rfl rfl hRM hP hD hS hA hK hN hX (List.Perm.of_eq (List.append_nil _).symm) (List.Perm.of_eq (List.append_nil _)) 0 rfl rfl rfl hl.1 rfl (Nat.le_of_ble_eq_true rfl) ⟨(Nat.le_of_ble_eq_true rfl), (Nat.le_of_ble_eq_true rfl)⟩ (dg ddL_quietest 4 rfl) (fun ce q9 H locs hP hD hS hq hv hcl => ?_)
      rw [h1] at hcl
      refine vx_catch (name := "java/util/NoSuchElementException") CX.2.2.2 [⟨4, 10, 13, 23⟩] ⟨4, 10, 18, 39⟩ [] (htab.trans rfl) (fun z hz => by rw [List.mem_singleton.mp hz]; exact Or.inr ⟨by decide, "java/lang/IndexOutOfBoundsException", CX.2.2.1 (.classLink RL 23 "java/lang/IndexOutOfBoundsException") (lw_at 411 (by decide +kernel)), hC ("java/util/NoSuchElementException", "java/lang/IndexOutOfBoundsException") (by decide +kernel)⟩) rfl (by decide) (CX.2.2.1 (.classLink RL 39 "java/util/NoSuchElementException") (lw_at 846 (by decide +kernel))) (va_Nw.use rfl (hX.1 (.castable "java/util/NoSuchElementException" "java/util/NoSuchElementException") (by decide +kernel))) hq hv hcl ?_
      refine lv_astore_n (lv' := [(3, .ref q9), (2, .int ((-1000))), (0, .ref (q 0 0)), (1, .int a1)]) hx hb (dg ddL_quietest 10 rfl) rfl hl (by decide) rfl (fun ls hl => ?_)
      refine lv_sipush (v := (-1000)) hx hb (dg ddL_quietest 11 rfl) (by decide) ?_
      exact e_wi CX hr hlk rfl hP hD hS (dg ddL_quietest 12 rfl)
    have hf := it_f h1 hf
    cases hf
  · have hf := os_r hf
    cases hf
    refine crv_ri CX hml (As := [.int a1]) (rest := []) (wr := []) (c_X4_quietest l D cy q x_isv x_te x_re x_de x_now x_spa x_sna x_len x_sig x_nxt x_cnt x_rng a1 _ hst e9) lk_RL_47 rfl rfl hRM hP hD hS hA hK hN hX (List.Perm.of_eq (List.append_nil _).symm) (List.Perm.of_eq (List.append_nil _)) 0 rfl rfl rfl hl.1 rfl (Nat.le_of_ble_eq_true rfl) ⟨(Nat.le_of_ble_eq_true rfl), (Nat.le_of_ble_eq_true rfl)⟩ (dg ddL_quietest 4 rfl) (fun H locs hP hD hS => ?_)
    refine lv_istore_n (lv' := [(2, .int (res)), (0, .ref (q 0 0)), (1, .int a1)]) hx hb (dg ddL_quietest 5 rfl) rfl hl (by decide) rfl (fun ls hl => ?_)
    refine lv_goto (tgt := 23) hx hb (dg ddL_quietest 6 rfl) (by decide) ?_
    refine lv_iload_n hx hb (dg ddL_quietest 13 rfl) rfl (lv_at hl 0 rfl) ?_
    exact e_wi CX hr hlk rfl hP hD hS (dg ddL_quietest 14 rfl)
def f_L_strings (x_re : Int32) (x_de : Int32) (x_now : SV) (x_nxt : Int32) (x_cnt : Int32) (x_rng : Nat → SV) (a1 : Int32) : Option (Int32 × Int32 × Int32 × SV × Int32 × Int32 × (Nat → SV)) := ob (f_X4_strings x_re x_de x_now x_nxt x_cnt x_rng a1) fun r => (os r (fun t => if t.1 = 1 then some ((-100000000), t.2.1, t.2.2.1, t.2.2.2.1, t.2.2.2.2.1, t.2.2.2.2.2.1, t.2.2.2.2.2.2) else (if t.1 = 3 then some ((-100000000), t.2.1, t.2.2.1, t.2.2.2.1, t.2.2.2.2.1, t.2.2.2.2.2.1, t.2.2.2.2.2.2) else (none))) fun x => (some (x.1, x.2.1, x.2.2.1, x.2.2.2.1, x.2.2.2.2.1, x.2.2.2.2.2.1, x.2.2.2.2.2.2)))
set_option maxHeartbeats 4000000 in
set_option maxRecDepth 100000 in
theorem c_L_strings (l : Launch) (D : va_G) (cy : Nat → ClassId) (q : Nat → Nat → Nat) (x_isv : Int32) (x_te : Int32) (x_re : Int32) (x_de : Int32) (x_now : SV) (x_spa : SV) (x_sna : SV) (x_len : Int32) (x_sig : Nat → Int32) (x_nxt : Int32) (x_cnt : Int32) (x_rng : Nat → SV) (a1 : Int32) (sz : Nat) (hst : l.stackTraces = false) {res : Int32 × Int32 × Int32 × SV × Int32 × Int32 × (Nat → SV)} (hf : f_L_strings x_re x_de x_now x_nxt x_cnt x_rng a1 = some res) : Met l yL_strings (.codeWith yL_strings cL_strings 4 (some .int) [(3, 9, 12, 23), (3, 9, 16, 28)] :: lw_all) { frames := 8, cells := 1, slots := 6, locals := 123 } (va_Pc [.ref (q 0 0), .int a1] (sY D cy (wX4 q cy x_isv x_te x_re x_de x_now x_spa x_sna x_len x_sig x_nxt x_cnt x_rng) sz)) (qI D (wX4 q cy x_isv x_te res.2.1 res.2.2.1 res.2.2.2.1 x_spa x_sna x_len x_sig res.2.2.2.2.1 res.2.2.2.2.2.1 res.2.2.2.2.2.2) res.1 (va_A (wX4 q cy x_isv x_te x_re x_de x_now x_spa x_sna x_len x_sig x_nxt x_cnt x_rng) sz)) 1 6 (va_A (wX4 q cy x_isv x_te x_re x_de x_now x_spa x_sna x_len x_sig x_nxt x_cnt x_rng) sz) := by
  refine mk_l (Qc := qI D (wX4 q cy x_isv x_te res.2.1 res.2.2.1 res.2.2.2.1 x_spa x_sna x_len x_sig res.2.2.2.2.1 res.2.2.2.2.2.1 res.2.2.2.2.2.2) res.1) (Rc := RL) (by decide +kernel) rfl (Nat.le_of_ble_eq_true rfl) ?_
  intro p e s m args below meth c ls A CX hml hr hlk hK hN hP hD hS hA hl htab hX hC
  have hx := CX.1
  have hb := CX.2.1
  have hRM : (⟨7, 1, 6, 102⟩ : Room).frames + 1 ≤ (⟨8, 1, 6, 123⟩ : Room).frames ∧ 8 + (2 + 11) + (⟨7, 1, 6, 102⟩ : Room).locals ≤ (⟨8, 1, 6, 123⟩ : Room).locals := ⟨(Nat.le_of_ble_eq_true rfl), (Nat.le_of_ble_eq_true rfl)⟩
  refine lv_ldc hx hb CX.2.2.2 (CX.2.2.1 (.constant RL 10 (-100000000)) (lw_at 336 (by decide +kernel))) (dg ddL_strings 0 rfl) ?_
  refine lv_istore_n (lv' := [(2, .int ((-100000000))), (0, .ref (q 0 0)), (1, .int a1)]) hx hb (dg ddL_strings 1 rfl) rfl hl (by decide) rfl (fun ls hl => ?_)
  refine lv_aload_n hx hb (dg ddL_strings 2 rfl) rfl (lv_at hl 1 rfl) ?_
  refine lv_iload_n hx hb (dg ddL_strings 3 rfl) rfl (lv_at hl 2 rfl) ?_
  obtain ⟨r, e9, hf⟩ := ob_some hf
  rcases r with t | x
  · have hf := os_l hf
    by_cases h0 : t.1 = 1
    · have hf := it_t h0 hf
      cases hf
      refine crv_ti CX hml (As := [.int a1]) (rest := []) (wr := []) (c_X4_strings l D cy q x_isv x_te x_re x_de x_now x_spa x_sna x_len x_sig x_nxt x_cnt x_rng a1 _ hst e9) lk_RL_50 rfl rfl hRM hP hD hS hA hK hN hX (List.Perm.of_eq (List.append_nil _).symm) (List.Perm.of_eq (List.append_nil _)) 0 rfl rfl rfl hl.1 rfl (Nat.le_of_ble_eq_true rfl) ⟨(Nat.le_of_ble_eq_true rfl), (Nat.le_of_ble_eq_true rfl)⟩ (dg ddL_strings 4 rfl) (fun ce q9 H locs hP hD hS hq hv hcl => ?_)
      rw [h0] at hcl
      refine vx_catch (name := "java/lang/IndexOutOfBoundsException") CX.2.2.2 [] ⟨3, 9, 12, 23⟩ [⟨3, 9, 16, 28⟩] (htab.trans rfl) (fun z hz => nomatch hz) rfl (by decide) (CX.2.2.1 (.classLink RL 23 "java/lang/IndexOutOfBoundsException") (lw_at 411 (by decide +kernel))) (va_Nw.use rfl (hX.1 (.castable "java/lang/IndexOutOfBoundsException" "java/lang/IndexOutOfBoundsException") (by decide +kernel))) hq hv hcl ?_
      refine lv_astore_n (lv' := [(3, .ref q9), (2, .int ((-100000000))), (0, .ref (q 0 0)), (1, .int a1)]) hx hb (dg ddL_strings 7 rfl) rfl hl (by decide) rfl (fun ls hl => ?_)
      refine lv_ldc hx hb CX.2.2.2 (CX.2.2.1 (.constant RL 10 (-100000000)) (lw_at 336 (by decide +kernel))) (dg ddL_strings 8 rfl) ?_
      exact e_wi CX hr hlk rfl hP hD hS (dg ddL_strings 9 rfl)
    have hf := it_f h0 hf
    by_cases h1 : t.1 = 3
    · have hf := it_t h1 hf
      cases hf
      refine crv_ti CX hml (As := [.int a1]) (rest := []) (wr := []) (c_X4_strings l D cy q x_isv x_te x_re x_de x_now x_spa x_sna x_len x_sig x_nxt x_cnt x_rng a1 _ hst e9) lk_RL_50 rfl rfl hRM hP hD hS hA hK hN hX (List.Perm.of_eq (List.append_nil _).symm) (List.Perm.of_eq (List.append_nil _)) 0 rfl rfl rfl hl.1 rfl (Nat.le_of_ble_eq_true rfl) ⟨(Nat.le_of_ble_eq_true rfl), (Nat.le_of_ble_eq_true rfl)⟩ (dg ddL_strings 4 rfl) (fun ce q9 H locs hP hD hS hq hv hcl => ?_)
      rw [h1] at hcl
      refine vx_catch (name := "java/lang/UnsupportedOperationException") CX.2.2.2 [⟨3, 9, 12, 23⟩] ⟨3, 9, 16, 28⟩ [] (htab.trans rfl) (fun z hz => by rw [List.mem_singleton.mp hz]; exact Or.inr ⟨by decide, "java/lang/IndexOutOfBoundsException", CX.2.2.1 (.classLink RL 23 "java/lang/IndexOutOfBoundsException") (lw_at 411 (by decide +kernel)), hC ("java/lang/UnsupportedOperationException", "java/lang/IndexOutOfBoundsException") (by decide +kernel)⟩) rfl (by decide) (CX.2.2.1 (.classLink RL 28 "java/lang/UnsupportedOperationException") (lw_at 391 (by decide +kernel))) (va_Nw.use rfl (hX.1 (.castable "java/lang/UnsupportedOperationException" "java/lang/UnsupportedOperationException") (by decide +kernel))) hq hv hcl ?_
      refine lv_astore_n (lv' := [(3, .ref q9), (2, .int ((-100000000))), (0, .ref (q 0 0)), (1, .int a1)]) hx hb (dg ddL_strings 10 rfl) rfl hl (by decide) rfl (fun ls hl => ?_)
      refine lv_ldc hx hb CX.2.2.2 (CX.2.2.1 (.constant RL 10 (-100000000)) (lw_at 336 (by decide +kernel))) (dg ddL_strings 11 rfl) ?_
      exact e_wi CX hr hlk rfl hP hD hS (dg ddL_strings 12 rfl)
    have hf := it_f h1 hf
    cases hf
  · have hf := os_r hf
    cases hf
    refine crv_ri CX hml (As := [.int a1]) (rest := []) (wr := []) (c_X4_strings l D cy q x_isv x_te x_re x_de x_now x_spa x_sna x_len x_sig x_nxt x_cnt x_rng a1 _ hst e9) lk_RL_50 rfl rfl hRM hP hD hS hA hK hN hX (List.Perm.of_eq (List.append_nil _).symm) (List.Perm.of_eq (List.append_nil _)) 0 rfl rfl rfl hl.1 rfl (Nat.le_of_ble_eq_true rfl) ⟨(Nat.le_of_ble_eq_true rfl), (Nat.le_of_ble_eq_true rfl)⟩ (dg ddL_strings 4 rfl) (fun H locs hP hD hS => ?_)
    refine lv_istore_n (lv' := [(2, .int (x.1)), (0, .ref (q 0 0)), (1, .int a1)]) hx hb (dg ddL_strings 5 rfl) rfl hl (by decide) rfl (fun ls hl => ?_)
    refine lv_goto (tgt := 20) hx hb (dg ddL_strings 6 rfl) (by decide) ?_
    refine lv_iload_n hx hb (dg ddL_strings 13 rfl) rfl (lv_at hl 0 rfl) ?_
    exact e_wi CX hr hlk rfl hP hD hS (dg ddL_strings 14 rfl)
def f_L_snapsIn (x_now : SV) (a1 : Int32) : Option (Int32) := ob (f_X4_snapsIn x_now a1) fun r => (os r (fun t => if t = 1 then some ((-1000)) else (if t = 4 then some ((-1000)) else (none))) fun x => (some (x)))
set_option maxHeartbeats 4000000 in
set_option maxRecDepth 100000 in
theorem c_L_snapsIn (l : Launch) (D : va_G) (cy : Nat → ClassId) (q : Nat → Nat → Nat) (x_isv : Int32) (x_te : Int32) (x_re : Int32) (x_de : Int32) (x_now : SV) (x_spa : SV) (x_sna : SV) (x_len : Int32) (x_sig : Nat → Int32) (x_nxt : Int32) (x_cnt : Int32) (x_rng : Nat → SV) (a1 : Int32) (sz : Nat) (hst : l.stackTraces = false) {res : Int32} (hf : f_L_snapsIn x_now a1 = some res) : Met l yL_snapsIn (.codeWith yL_snapsIn cL_snapsIn 4 (some .int) [(4, 10, 13, 23), (4, 10, 18, 39)] :: lw_all) { frames := 8, cells := 2, slots := 12, locals := 123 } (va_Pc [.ref (q 0 0), .int a1] (sY D cy (wX4 q cy x_isv x_te x_re x_de x_now x_spa x_sna x_len x_sig x_nxt x_cnt x_rng) sz)) (qI D (wX4 q cy x_isv x_te x_re x_de x_now x_spa x_sna x_len x_sig x_nxt x_cnt x_rng) res (va_A (wX4 q cy x_isv x_te x_re x_de x_now x_spa x_sna x_len x_sig x_nxt x_cnt x_rng) sz)) 2 12 (va_A (wX4 q cy x_isv x_te x_re x_de x_now x_spa x_sna x_len x_sig x_nxt x_cnt x_rng) sz) := by
  refine mk_l (Qc := qI D (wX4 q cy x_isv x_te x_re x_de x_now x_spa x_sna x_len x_sig x_nxt x_cnt x_rng) res) (Rc := RL) (by decide +kernel) rfl (Nat.le_of_ble_eq_true rfl) ?_
  intro p e s m args below meth c ls A CX hml hr hlk hK hN hP hD hS hA hl htab hX hC
  have hx := CX.1
  have hb := CX.2.1
  have hRM : (⟨7, 2, 12, 102⟩ : Room).frames + 1 ≤ (⟨8, 2, 12, 123⟩ : Room).frames ∧ 8 + (2 + 11) + (⟨7, 2, 12, 102⟩ : Room).locals ≤ (⟨8, 2, 12, 123⟩ : Room).locals := ⟨(Nat.le_of_ble_eq_true rfl), (Nat.le_of_ble_eq_true rfl)⟩
  refine lv_sipush (v := (-1000)) hx hb (dg ddL_snapsIn 0 rfl) (by decide) ?_
  refine lv_istore_n (lv' := [(2, .int ((-1000))), (0, .ref (q 0 0)), (1, .int a1)]) hx hb (dg ddL_snapsIn 1 rfl) rfl hl (by decide) rfl (fun ls hl => ?_)
  refine lv_aload_n hx hb (dg ddL_snapsIn 2 rfl) rfl (lv_at hl 1 rfl) ?_
  refine lv_iload_n hx hb (dg ddL_snapsIn 3 rfl) rfl (lv_at hl 2 rfl) ?_
  obtain ⟨r, e9, hf⟩ := ob_some hf
  rcases r with t | x
  · have hf := os_l hf
    by_cases h0 : t = 1
    · have hf := it_t h0 hf
      cases hf
      refine crv_ti CX hml (As := [.int a1]) (rest := []) (wr := []) (c_X4_snapsIn l D cy q x_isv x_te x_re x_de x_now x_spa x_sna x_len x_sig x_nxt x_cnt x_rng a1 _ hst e9) lk_RL_53 rfl rfl hRM hP hD hS hA hK hN hX (List.Perm.of_eq (List.append_nil _).symm) (List.Perm.of_eq (List.append_nil _)) 0 rfl rfl rfl hl.1 rfl (Nat.le_of_ble_eq_true rfl) ⟨(Nat.le_of_ble_eq_true rfl), (Nat.le_of_ble_eq_true rfl)⟩ (dg ddL_snapsIn 4 rfl) (fun ce q9 H locs hP hD hS hq hv hcl => ?_)
      rw [h0] at hcl
      refine vx_catch (name := "java/lang/IndexOutOfBoundsException") CX.2.2.2 [] ⟨4, 10, 13, 23⟩ [⟨4, 10, 18, 39⟩] (htab.trans rfl) (fun z hz => nomatch hz) rfl (by decide) (CX.2.2.1 (.classLink RL 23 "java/lang/IndexOutOfBoundsException") (lw_at 411 (by decide +kernel))) (va_Nw.use rfl (hX.1 (.castable "java/lang/IndexOutOfBoundsException" "java/lang/IndexOutOfBoundsException") (by decide +kernel))) hq hv hcl ?_
      refine lv_astore_n (lv' := [(3, .ref q9), (2, .int ((-1000))), (0, .ref (q 0 0)), (1, .int a1)]) hx hb (dg ddL_snapsIn 7 rfl) rfl hl (by decide) rfl (fun ls hl => ?_)
      refine lv_sipush (v := (-1000)) hx hb (dg ddL_snapsIn 8 rfl) (by decide) ?_
      exact e_wi CX hr hlk rfl hP hD hS (dg ddL_snapsIn 9 rfl)
    have hf := it_f h0 hf
    by_cases h1 : t = 4
    · have hf := it_t h1 hf
      cases hf
      refine crv_ti CX hml (As := [.int a1]) (rest := []) (wr := []) (c_X4_snapsIn l D cy q x_isv x_te x_re x_de x_now x_spa x_sna x_len x_sig x_nxt x_cnt x_rng a1 _ hst e9) lk_RL_53 rfl rfl hRM hP hD hS hA hK hN hX (List.Perm.of_eq (List.append_nil _).symm) (List.Perm.of_eq (List.append_nil _)) 0 rfl rfl rfl hl.1 rfl (Nat.le_of_ble_eq_true rfl) ⟨(Nat.le_of_ble_eq_true rfl), (Nat.le_of_ble_eq_true rfl)⟩ (dg ddL_snapsIn 4 rfl) (fun ce q9 H locs hP hD hS hq hv hcl => ?_)
      rw [h1] at hcl
      refine vx_catch (name := "java/util/NoSuchElementException") CX.2.2.2 [⟨4, 10, 13, 23⟩] ⟨4, 10, 18, 39⟩ [] (htab.trans rfl) (fun z hz => by rw [List.mem_singleton.mp hz]; exact Or.inr ⟨by decide, "java/lang/IndexOutOfBoundsException", CX.2.2.1 (.classLink RL 23 "java/lang/IndexOutOfBoundsException") (lw_at 411 (by decide +kernel)), hC ("java/util/NoSuchElementException", "java/lang/IndexOutOfBoundsException") (by decide +kernel)⟩) rfl (by decide) (CX.2.2.1 (.classLink RL 39 "java/util/NoSuchElementException") (lw_at 846 (by decide +kernel))) (va_Nw.use rfl (hX.1 (.castable "java/util/NoSuchElementException" "java/util/NoSuchElementException") (by decide +kernel))) hq hv hcl ?_
      refine lv_astore_n (lv' := [(3, .ref q9), (2, .int ((-1000))), (0, .ref (q 0 0)), (1, .int a1)]) hx hb (dg ddL_snapsIn 10 rfl) rfl hl (by decide) rfl (fun ls hl => ?_)
      refine lv_sipush (v := (-1000)) hx hb (dg ddL_snapsIn 11 rfl) (by decide) ?_
      exact e_wi CX hr hlk rfl hP hD hS (dg ddL_snapsIn 12 rfl)
    have hf := it_f h1 hf
    cases hf
  · have hf := os_r hf
    cases hf
    refine crv_ri CX hml (As := [.int a1]) (rest := []) (wr := []) (c_X4_snapsIn l D cy q x_isv x_te x_re x_de x_now x_spa x_sna x_len x_sig x_nxt x_cnt x_rng a1 _ hst e9) lk_RL_53 rfl rfl hRM hP hD hS hA hK hN hX (List.Perm.of_eq (List.append_nil _).symm) (List.Perm.of_eq (List.append_nil _)) 0 rfl rfl rfl hl.1 rfl (Nat.le_of_ble_eq_true rfl) ⟨(Nat.le_of_ble_eq_true rfl), (Nat.le_of_ble_eq_true rfl)⟩ (dg ddL_snapsIn 4 rfl) (fun H locs hP hD hS => ?_)
    refine lv_istore_n (lv' := [(2, .int (res)), (0, .ref (q 0 0)), (1, .int a1)]) hx hb (dg ddL_snapsIn 5 rfl) rfl hl (by decide) rfl (fun ls hl => ?_)
    refine lv_goto (tgt := 23) hx hb (dg ddL_snapsIn 6 rfl) (by decide) ?_
    refine lv_iload_n hx hb (dg ddL_snapsIn 13 rfl) rfl (lv_at hl 0 rfl) ?_
    exact e_wi CX hr hlk rfl hP hD hS (dg ddL_snapsIn 14 rfl)
def f_L_answer (x_re : Int32) (x_de : Int32) (x_now : SV) (x_nxt : Int32) (x_cnt : Int32) (x_rng : Nat → SV) (a1 : Int32) : Option (Int32 × Int32 × Int32 × SV × Int32 × Int32 × (Nat → SV)) := ob (f_X4_answer x_re x_de x_now x_nxt x_cnt x_rng a1) fun r => (os r (fun t => if t.1 = 1 then some ((-100000000), t.2.1, t.2.2.1, t.2.2.2.1, t.2.2.2.2.1, t.2.2.2.2.2.1, t.2.2.2.2.2.2) else (if t.1 = 3 then some ((-100000000), t.2.1, t.2.2.1, t.2.2.2.1, t.2.2.2.2.1, t.2.2.2.2.2.1, t.2.2.2.2.2.2) else (none))) fun x => (some (x.1, x.2.1, x.2.2.1, x.2.2.2.1, x.2.2.2.2.1, x.2.2.2.2.2.1, x.2.2.2.2.2.2)))
set_option maxHeartbeats 4000000 in
set_option maxRecDepth 100000 in
theorem c_L_answer (l : Launch) (D : va_G) (cy : Nat → ClassId) (q : Nat → Nat → Nat) (x_isv : Int32) (x_te : Int32) (x_re : Int32) (x_de : Int32) (x_now : SV) (x_spa : SV) (x_sna : SV) (x_len : Int32) (x_sig : Nat → Int32) (x_nxt : Int32) (x_cnt : Int32) (x_rng : Nat → SV) (a1 : Int32) (sz : Nat) (hst : l.stackTraces = false) {res : Int32 × Int32 × Int32 × SV × Int32 × Int32 × (Nat → SV)} (hf : f_L_answer x_re x_de x_now x_nxt x_cnt x_rng a1 = some res) : Met l yL_answer (.codeWith yL_answer cL_answer 4 (some .int) [(3, 9, 12, 23), (3, 9, 16, 28)] :: lw_all) { frames := 8, cells := 1, slots := 6, locals := 123 } (va_Pc [.ref (q 0 0), .int a1] (sY D cy (wX4 q cy x_isv x_te x_re x_de x_now x_spa x_sna x_len x_sig x_nxt x_cnt x_rng) sz)) (qI D (wX4 q cy x_isv x_te res.2.1 res.2.2.1 res.2.2.2.1 x_spa x_sna x_len x_sig res.2.2.2.2.1 res.2.2.2.2.2.1 res.2.2.2.2.2.2) res.1 (va_A (wX4 q cy x_isv x_te x_re x_de x_now x_spa x_sna x_len x_sig x_nxt x_cnt x_rng) sz)) 1 6 (va_A (wX4 q cy x_isv x_te x_re x_de x_now x_spa x_sna x_len x_sig x_nxt x_cnt x_rng) sz) := by
  refine mk_l (Qc := qI D (wX4 q cy x_isv x_te res.2.1 res.2.2.1 res.2.2.2.1 x_spa x_sna x_len x_sig res.2.2.2.2.1 res.2.2.2.2.2.1 res.2.2.2.2.2.2) res.1) (Rc := RL) (by decide +kernel) rfl (Nat.le_of_ble_eq_true rfl) ?_
  intro p e s m args below meth c ls A CX hml hr hlk hK hN hP hD hS hA hl htab hX hC
  have hx := CX.1
  have hb := CX.2.1
  have hRM : (⟨7, 1, 6, 102⟩ : Room).frames + 1 ≤ (⟨8, 1, 6, 123⟩ : Room).frames ∧ 8 + (2 + 11) + (⟨7, 1, 6, 102⟩ : Room).locals ≤ (⟨8, 1, 6, 123⟩ : Room).locals := ⟨(Nat.le_of_ble_eq_true rfl), (Nat.le_of_ble_eq_true rfl)⟩
  refine lv_ldc hx hb CX.2.2.2 (CX.2.2.1 (.constant RL 10 (-100000000)) (lw_at 336 (by decide +kernel))) (dg ddL_answer 0 rfl) ?_
  refine lv_istore_n (lv' := [(2, .int ((-100000000))), (0, .ref (q 0 0)), (1, .int a1)]) hx hb (dg ddL_answer 1 rfl) rfl hl (by decide) rfl (fun ls hl => ?_)
  refine lv_aload_n hx hb (dg ddL_answer 2 rfl) rfl (lv_at hl 1 rfl) ?_
  refine lv_iload_n hx hb (dg ddL_answer 3 rfl) rfl (lv_at hl 2 rfl) ?_
  obtain ⟨r, e9, hf⟩ := ob_some hf
  rcases r with t | x
  · have hf := os_l hf
    by_cases h0 : t.1 = 1
    · have hf := it_t h0 hf
      cases hf
      refine crv_ti CX hml (As := [.int a1]) (rest := []) (wr := []) (c_X4_answer l D cy q x_isv x_te x_re x_de x_now x_spa x_sna x_len x_sig x_nxt x_cnt x_rng a1 _ hst e9) lk_RL_56 rfl rfl hRM hP hD hS hA hK hN hX (List.Perm.of_eq (List.append_nil _).symm) (List.Perm.of_eq (List.append_nil _)) 0 rfl rfl rfl hl.1 rfl (Nat.le_of_ble_eq_true rfl) ⟨(Nat.le_of_ble_eq_true rfl), (Nat.le_of_ble_eq_true rfl)⟩ (dg ddL_answer 4 rfl) (fun ce q9 H locs hP hD hS hq hv hcl => ?_)
      rw [h0] at hcl
      refine vx_catch (name := "java/lang/IndexOutOfBoundsException") CX.2.2.2 [] ⟨3, 9, 12, 23⟩ [⟨3, 9, 16, 28⟩] (htab.trans rfl) (fun z hz => nomatch hz) rfl (by decide) (CX.2.2.1 (.classLink RL 23 "java/lang/IndexOutOfBoundsException") (lw_at 411 (by decide +kernel))) (va_Nw.use rfl (hX.1 (.castable "java/lang/IndexOutOfBoundsException" "java/lang/IndexOutOfBoundsException") (by decide +kernel))) hq hv hcl ?_
      refine lv_astore_n (lv' := [(3, .ref q9), (2, .int ((-100000000))), (0, .ref (q 0 0)), (1, .int a1)]) hx hb (dg ddL_answer 7 rfl) rfl hl (by decide) rfl (fun ls hl => ?_)
      refine lv_ldc hx hb CX.2.2.2 (CX.2.2.1 (.constant RL 10 (-100000000)) (lw_at 336 (by decide +kernel))) (dg ddL_answer 8 rfl) ?_
      exact e_wi CX hr hlk rfl hP hD hS (dg ddL_answer 9 rfl)
    have hf := it_f h0 hf
    by_cases h1 : t.1 = 3
    · have hf := it_t h1 hf
      cases hf
      refine crv_ti CX hml (As := [.int a1]) (rest := []) (wr := []) (c_X4_answer l D cy q x_isv x_te x_re x_de x_now x_spa x_sna x_len x_sig x_nxt x_cnt x_rng a1 _ hst e9) lk_RL_56 rfl rfl hRM hP hD hS hA hK hN hX (List.Perm.of_eq (List.append_nil _).symm) (List.Perm.of_eq (List.append_nil _)) 0 rfl rfl rfl hl.1 rfl (Nat.le_of_ble_eq_true rfl) ⟨(Nat.le_of_ble_eq_true rfl), (Nat.le_of_ble_eq_true rfl)⟩ (dg ddL_answer 4 rfl) (fun ce q9 H locs hP hD hS hq hv hcl => ?_)
      rw [h1] at hcl
      refine vx_catch (name := "java/lang/UnsupportedOperationException") CX.2.2.2 [⟨3, 9, 12, 23⟩] ⟨3, 9, 16, 28⟩ [] (htab.trans rfl) (fun z hz => by rw [List.mem_singleton.mp hz]; exact Or.inr ⟨by decide, "java/lang/IndexOutOfBoundsException", CX.2.2.1 (.classLink RL 23 "java/lang/IndexOutOfBoundsException") (lw_at 411 (by decide +kernel)), hC ("java/lang/UnsupportedOperationException", "java/lang/IndexOutOfBoundsException") (by decide +kernel)⟩) rfl (by decide) (CX.2.2.1 (.classLink RL 28 "java/lang/UnsupportedOperationException") (lw_at 391 (by decide +kernel))) (va_Nw.use rfl (hX.1 (.castable "java/lang/UnsupportedOperationException" "java/lang/UnsupportedOperationException") (by decide +kernel))) hq hv hcl ?_
      refine lv_astore_n (lv' := [(3, .ref q9), (2, .int ((-100000000))), (0, .ref (q 0 0)), (1, .int a1)]) hx hb (dg ddL_answer 10 rfl) rfl hl (by decide) rfl (fun ls hl => ?_)
      refine lv_ldc hx hb CX.2.2.2 (CX.2.2.1 (.constant RL 10 (-100000000)) (lw_at 336 (by decide +kernel))) (dg ddL_answer 11 rfl) ?_
      exact e_wi CX hr hlk rfl hP hD hS (dg ddL_answer 12 rfl)
    have hf := it_f h1 hf
    cases hf
  · have hf := os_r hf
    cases hf
    refine crv_ri CX hml (As := [.int a1]) (rest := []) (wr := []) (c_X4_answer l D cy q x_isv x_te x_re x_de x_now x_spa x_sna x_len x_sig x_nxt x_cnt x_rng a1 _ hst e9) lk_RL_56 rfl rfl hRM hP hD hS hA hK hN hX (List.Perm.of_eq (List.append_nil _).symm) (List.Perm.of_eq (List.append_nil _)) 0 rfl rfl rfl hl.1 rfl (Nat.le_of_ble_eq_true rfl) ⟨(Nat.le_of_ble_eq_true rfl), (Nat.le_of_ble_eq_true rfl)⟩ (dg ddL_answer 4 rfl) (fun H locs hP hD hS => ?_)
    refine lv_istore_n (lv' := [(2, .int (x.1)), (0, .ref (q 0 0)), (1, .int a1)]) hx hb (dg ddL_answer 5 rfl) rfl hl (by decide) rfl (fun ls hl => ?_)
    refine lv_goto (tgt := 20) hx hb (dg ddL_answer 6 rfl) (by decide) ?_
    refine lv_iload_n hx hb (dg ddL_answer 13 rfl) rfl (lv_at hl 0 rfl) ?_
    exact e_wi CX hr hlk rfl hP hD hS (dg ddL_answer 14 rfl)
def f_L_rack (x_re : Int32) (x_de : Int32) (x_now : SV) (x_nxt : Int32) (x_cnt : Int32) (x_rng : Nat → SV) (a1 : Int32) (a2 : Int32) : Option (Int32 × Int32 × Int32 × SV × Int32 × Int32 × (Nat → SV)) := ob (f_X4_rack x_re x_de x_now x_nxt x_cnt x_rng a1 a2) fun r => (os r (fun t => if t.1 = 1 then some ((-100000000), t.2.1, t.2.2.1, t.2.2.2.1, t.2.2.2.2.1, t.2.2.2.2.2.1, t.2.2.2.2.2.2) else (if t.1 = 3 then some ((-100000000), t.2.1, t.2.2.1, t.2.2.2.1, t.2.2.2.2.1, t.2.2.2.2.2.1, t.2.2.2.2.2.2) else (none))) fun x => (some (x.1, x.2.1, x.2.2.1, x.2.2.2.1, x.2.2.2.2.1, x.2.2.2.2.2.1, x.2.2.2.2.2.2)))
set_option maxHeartbeats 4000000 in
set_option maxRecDepth 100000 in
theorem c_L_rack (l : Launch) (D : va_G) (cy : Nat → ClassId) (q : Nat → Nat → Nat) (x_isv : Int32) (x_te : Int32) (x_re : Int32) (x_de : Int32) (x_now : SV) (x_spa : SV) (x_sna : SV) (x_len : Int32) (x_sig : Nat → Int32) (x_nxt : Int32) (x_cnt : Int32) (x_rng : Nat → SV) (a1 : Int32) (a2 : Int32) (sz : Nat) (hst : l.stackTraces = false) {res : Int32 × Int32 × Int32 × SV × Int32 × Int32 × (Nat → SV)} (hf : f_L_rack x_re x_de x_now x_nxt x_cnt x_rng a1 a2 = some res) : Met l yL_rack (.codeWith yL_rack cL_rack 5 (some .int) [(3, 10, 13, 23), (3, 10, 18, 28)] :: lw_all) { frames := 8, cells := 1, slots := 6, locals := 124 } (va_Pc [.ref (q 0 0), .int a1, .int a2] (sY D cy (wX4 q cy x_isv x_te x_re x_de x_now x_spa x_sna x_len x_sig x_nxt x_cnt x_rng) sz)) (qI D (wX4 q cy x_isv x_te res.2.1 res.2.2.1 res.2.2.2.1 x_spa x_sna x_len x_sig res.2.2.2.2.1 res.2.2.2.2.2.1 res.2.2.2.2.2.2) res.1 (va_A (wX4 q cy x_isv x_te x_re x_de x_now x_spa x_sna x_len x_sig x_nxt x_cnt x_rng) sz)) 1 6 (va_A (wX4 q cy x_isv x_te x_re x_de x_now x_spa x_sna x_len x_sig x_nxt x_cnt x_rng) sz) := by
  refine mk_l (Qc := qI D (wX4 q cy x_isv x_te res.2.1 res.2.2.1 res.2.2.2.1 x_spa x_sna x_len x_sig res.2.2.2.2.1 res.2.2.2.2.2.1 res.2.2.2.2.2.2) res.1) (Rc := RL) (by decide +kernel) rfl (Nat.le_of_ble_eq_true rfl) ?_
  intro p e s m args below meth c ls A CX hml hr hlk hK hN hP hD hS hA hl htab hX hC
  have hx := CX.1
  have hb := CX.2.1
  have hRM : (⟨7, 1, 6, 102⟩ : Room).frames + 1 ≤ (⟨8, 1, 6, 124⟩ : Room).frames ∧ 8 + (3 + 11) + (⟨7, 1, 6, 102⟩ : Room).locals ≤ (⟨8, 1, 6, 124⟩ : Room).locals := ⟨(Nat.le_of_ble_eq_true rfl), (Nat.le_of_ble_eq_true rfl)⟩
  refine lv_ldc hx hb CX.2.2.2 (CX.2.2.1 (.constant RL 10 (-100000000)) (lw_at 336 (by decide +kernel))) (dg ddL_rack 0 rfl) ?_
  refine lv_istore_n (lv' := [(3, .int ((-100000000))), (0, .ref (q 0 0)), (1, .int a1), (2, .int a2)]) hx hb (dg ddL_rack 1 rfl) rfl hl (by decide) rfl (fun ls hl => ?_)
  refine lv_aload_n hx hb (dg ddL_rack 2 rfl) rfl (lv_at hl 1 rfl) ?_
  refine lv_iload_n hx hb (dg ddL_rack 3 rfl) rfl (lv_at hl 2 rfl) ?_
  refine lv_iload_n hx hb (dg ddL_rack 4 rfl) rfl (lv_at hl 3 rfl) ?_
  obtain ⟨r, e9, hf⟩ := ob_some hf
  rcases r with t | x
  · have hf := os_l hf
    by_cases h0 : t.1 = 1
    · have hf := it_t h0 hf
      cases hf
      refine crv_ti CX hml (As := [.int a1, .int a2]) (rest := []) (wr := []) (c_X4_rack l D cy q x_isv x_te x_re x_de x_now x_spa x_sna x_len x_sig x_nxt x_cnt x_rng a1 a2 _ hst e9) lk_RL_59 rfl rfl hRM hP hD hS hA hK hN hX (List.Perm.of_eq (List.append_nil _).symm) (List.Perm.of_eq (List.append_nil _)) 0 rfl rfl rfl hl.1 rfl (Nat.le_of_ble_eq_true rfl) ⟨(Nat.le_of_ble_eq_true rfl), (Nat.le_of_ble_eq_true rfl)⟩ (dg ddL_rack 5 rfl) (fun ce q9 H locs hP hD hS hq hv hcl => ?_)
      rw [h0] at hcl
      refine vx_catch (name := "java/lang/IndexOutOfBoundsException") CX.2.2.2 [] ⟨3, 10, 13, 23⟩ [⟨3, 10, 18, 28⟩] (htab.trans rfl) (fun z hz => nomatch hz) rfl (by decide) (CX.2.2.1 (.classLink RL 23 "java/lang/IndexOutOfBoundsException") (lw_at 411 (by decide +kernel))) (va_Nw.use rfl (hX.1 (.castable "java/lang/IndexOutOfBoundsException" "java/lang/IndexOutOfBoundsException") (by decide +kernel))) hq hv hcl ?_
      refine lv_astore (lv' := [(4, .ref q9), (3, .int ((-100000000))), (0, .ref (q 0 0)), (1, .int a1), (2, .int a2)]) hx hb (dg ddL_rack 8 rfl) hl (by decide) rfl (fun ls hl => ?_)
      refine lv_ldc hx hb CX.2.2.2 (CX.2.2.1 (.constant RL 10 (-100000000)) (lw_at 336 (by decide +kernel))) (dg ddL_rack 9 rfl) ?_
      exact e_wi CX hr hlk rfl hP hD hS (dg ddL_rack 10 rfl)
    have hf := it_f h0 hf
    by_cases h1 : t.1 = 3
    · have hf := it_t h1 hf
      cases hf
      refine crv_ti CX hml (As := [.int a1, .int a2]) (rest := []) (wr := []) (c_X4_rack l D cy q x_isv x_te x_re x_de x_now x_spa x_sna x_len x_sig x_nxt x_cnt x_rng a1 a2 _ hst e9) lk_RL_59 rfl rfl hRM hP hD hS hA hK hN hX (List.Perm.of_eq (List.append_nil _).symm) (List.Perm.of_eq (List.append_nil _)) 0 rfl rfl rfl hl.1 rfl (Nat.le_of_ble_eq_true rfl) ⟨(Nat.le_of_ble_eq_true rfl), (Nat.le_of_ble_eq_true rfl)⟩ (dg ddL_rack 5 rfl) (fun ce q9 H locs hP hD hS hq hv hcl => ?_)
      rw [h1] at hcl
      refine vx_catch (name := "java/lang/UnsupportedOperationException") CX.2.2.2 [⟨3, 10, 13, 23⟩] ⟨3, 10, 18, 28⟩ [] (htab.trans rfl) (fun z hz => by rw [List.mem_singleton.mp hz]; exact Or.inr ⟨by decide, "java/lang/IndexOutOfBoundsException", CX.2.2.1 (.classLink RL 23 "java/lang/IndexOutOfBoundsException") (lw_at 411 (by decide +kernel)), hC ("java/lang/UnsupportedOperationException", "java/lang/IndexOutOfBoundsException") (by decide +kernel)⟩) rfl (by decide) (CX.2.2.1 (.classLink RL 28 "java/lang/UnsupportedOperationException") (lw_at 391 (by decide +kernel))) (va_Nw.use rfl (hX.1 (.castable "java/lang/UnsupportedOperationException" "java/lang/UnsupportedOperationException") (by decide +kernel))) hq hv hcl ?_
      refine lv_astore (lv' := [(4, .ref q9), (3, .int ((-100000000))), (0, .ref (q 0 0)), (1, .int a1), (2, .int a2)]) hx hb (dg ddL_rack 11 rfl) hl (by decide) rfl (fun ls hl => ?_)
      refine lv_ldc hx hb CX.2.2.2 (CX.2.2.1 (.constant RL 10 (-100000000)) (lw_at 336 (by decide +kernel))) (dg ddL_rack 12 rfl) ?_
      exact e_wi CX hr hlk rfl hP hD hS (dg ddL_rack 13 rfl)
    have hf := it_f h1 hf
    cases hf
  · have hf := os_r hf
    cases hf
    refine crv_ri CX hml (As := [.int a1, .int a2]) (rest := []) (wr := []) (c_X4_rack l D cy q x_isv x_te x_re x_de x_now x_spa x_sna x_len x_sig x_nxt x_cnt x_rng a1 a2 _ hst e9) lk_RL_59 rfl rfl hRM hP hD hS hA hK hN hX (List.Perm.of_eq (List.append_nil _).symm) (List.Perm.of_eq (List.append_nil _)) 0 rfl rfl rfl hl.1 rfl (Nat.le_of_ble_eq_true rfl) ⟨(Nat.le_of_ble_eq_true rfl), (Nat.le_of_ble_eq_true rfl)⟩ (dg ddL_rack 5 rfl) (fun H locs hP hD hS => ?_)
    refine lv_istore_n (lv' := [(3, .int (x.1)), (0, .ref (q 0 0)), (1, .int a1), (2, .int a2)]) hx hb (dg ddL_rack 6 rfl) rfl hl (by decide) rfl (fun ls hl => ?_)
    refine lv_goto (tgt := 23) hx hb (dg ddL_rack 7 rfl) (by decide) ?_
    refine lv_iload_n hx hb (dg ddL_rack 14 rfl) rfl (lv_at hl 0 rfl) ?_
    exact e_wi CX hr hlk rfl hP hD hS (dg ddL_rack 15 rfl)
def f_L_unrack (x_re : Int32) (x_de : Int32) (x_now : SV) (x_nxt : Int32) (x_cnt : Int32) (x_rng : Nat → SV) (a1 : Int32) : Option (Int32 × Int32 × Int32 × SV × Int32 × Int32 × (Nat → SV)) := ob (f_X4_unrack x_re x_de x_now x_nxt x_cnt x_rng a1) fun r => (os r (fun t => if t.1 = 1 then some ((-100000000), t.2.1, t.2.2.1, t.2.2.2.1, t.2.2.2.2.1, t.2.2.2.2.2.1, t.2.2.2.2.2.2) else (if t.1 = 3 then some ((-100000000), t.2.1, t.2.2.1, t.2.2.2.1, t.2.2.2.2.1, t.2.2.2.2.2.1, t.2.2.2.2.2.2) else (none))) fun x => (some (x.1, x.2.1, x.2.2.1, x.2.2.2.1, x.2.2.2.2.1, x.2.2.2.2.2.1, x.2.2.2.2.2.2)))
set_option maxHeartbeats 4000000 in
set_option maxRecDepth 100000 in
theorem c_L_unrack (l : Launch) (D : va_G) (cy : Nat → ClassId) (q : Nat → Nat → Nat) (x_isv : Int32) (x_te : Int32) (x_re : Int32) (x_de : Int32) (x_now : SV) (x_spa : SV) (x_sna : SV) (x_len : Int32) (x_sig : Nat → Int32) (x_nxt : Int32) (x_cnt : Int32) (x_rng : Nat → SV) (a1 : Int32) (sz : Nat) (hst : l.stackTraces = false) {res : Int32 × Int32 × Int32 × SV × Int32 × Int32 × (Nat → SV)} (hf : f_L_unrack x_re x_de x_now x_nxt x_cnt x_rng a1 = some res) : Met l yL_unrack (.codeWith yL_unrack cL_unrack 4 (some .int) [(3, 9, 12, 23), (3, 9, 16, 28)] :: lw_all) { frames := 8, cells := 1, slots := 6, locals := 124 } (va_Pc [.ref (q 0 0), .int a1] (sY D cy (wX4 q cy x_isv x_te x_re x_de x_now x_spa x_sna x_len x_sig x_nxt x_cnt x_rng) sz)) (qI D (wX4 q cy x_isv x_te res.2.1 res.2.2.1 res.2.2.2.1 x_spa x_sna x_len x_sig res.2.2.2.2.1 res.2.2.2.2.2.1 res.2.2.2.2.2.2) res.1 (va_A (wX4 q cy x_isv x_te x_re x_de x_now x_spa x_sna x_len x_sig x_nxt x_cnt x_rng) sz)) 1 6 (va_A (wX4 q cy x_isv x_te x_re x_de x_now x_spa x_sna x_len x_sig x_nxt x_cnt x_rng) sz) := by
  refine mk_l (Qc := qI D (wX4 q cy x_isv x_te res.2.1 res.2.2.1 res.2.2.2.1 x_spa x_sna x_len x_sig res.2.2.2.2.1 res.2.2.2.2.2.1 res.2.2.2.2.2.2) res.1) (Rc := RL) (by decide +kernel) rfl (Nat.le_of_ble_eq_true rfl) ?_
  intro p e s m args below meth c ls A CX hml hr hlk hK hN hP hD hS hA hl htab hX hC
  have hx := CX.1
  have hb := CX.2.1
  have hRM : (⟨7, 1, 6, 102⟩ : Room).frames + 1 ≤ (⟨8, 1, 6, 124⟩ : Room).frames ∧ 8 + (3 + 11) + (⟨7, 1, 6, 102⟩ : Room).locals ≤ (⟨8, 1, 6, 124⟩ : Room).locals := ⟨(Nat.le_of_ble_eq_true rfl), (Nat.le_of_ble_eq_true rfl)⟩
  refine lv_ldc hx hb CX.2.2.2 (CX.2.2.1 (.constant RL 10 (-100000000)) (lw_at 336 (by decide +kernel))) (dg ddL_unrack 0 rfl) ?_
  refine lv_istore_n (lv' := [(2, .int ((-100000000))), (0, .ref (q 0 0)), (1, .int a1)]) hx hb (dg ddL_unrack 1 rfl) rfl hl (by decide) rfl (fun ls hl => ?_)
  refine lv_aload_n hx hb (dg ddL_unrack 2 rfl) rfl (lv_at hl 1 rfl) ?_
  refine lv_iload_n hx hb (dg ddL_unrack 3 rfl) rfl (lv_at hl 2 rfl) ?_
  obtain ⟨r, e9, hf⟩ := ob_some hf
  rcases r with t | x
  · have hf := os_l hf
    by_cases h0 : t.1 = 1
    · have hf := it_t h0 hf
      cases hf
      refine crv_ti CX hml (As := [.int a1]) (rest := []) (wr := []) (c_X4_unrack l D cy q x_isv x_te x_re x_de x_now x_spa x_sna x_len x_sig x_nxt x_cnt x_rng a1 _ hst e9) lk_RL_62 rfl rfl hRM hP hD hS hA hK hN hX (List.Perm.of_eq (List.append_nil _).symm) (List.Perm.of_eq (List.append_nil _)) 0 rfl rfl rfl hl.1 rfl (Nat.le_of_ble_eq_true rfl) ⟨(Nat.le_of_ble_eq_true rfl), (Nat.le_of_ble_eq_true rfl)⟩ (dg ddL_unrack 4 rfl) (fun ce q9 H locs hP hD hS hq hv hcl => ?_)
      rw [h0] at hcl
      refine vx_catch (name := "java/lang/IndexOutOfBoundsException") CX.2.2.2 [] ⟨3, 9, 12, 23⟩ [⟨3, 9, 16, 28⟩] (htab.trans rfl) (fun z hz => nomatch hz) rfl (by decide) (CX.2.2.1 (.classLink RL 23 "java/lang/IndexOutOfBoundsException") (lw_at 411 (by decide +kernel))) (va_Nw.use rfl (hX.1 (.castable "java/lang/IndexOutOfBoundsException" "java/lang/IndexOutOfBoundsException") (by decide +kernel))) hq hv hcl ?_
      refine lv_astore_n (lv' := [(3, .ref q9), (2, .int ((-100000000))), (0, .ref (q 0 0)), (1, .int a1)]) hx hb (dg ddL_unrack 7 rfl) rfl hl (by decide) rfl (fun ls hl => ?_)
      refine lv_ldc hx hb CX.2.2.2 (CX.2.2.1 (.constant RL 10 (-100000000)) (lw_at 336 (by decide +kernel))) (dg ddL_unrack 8 rfl) ?_
      exact e_wi CX hr hlk rfl hP hD hS (dg ddL_unrack 9 rfl)
    have hf := it_f h0 hf
    by_cases h1 : t.1 = 3
    · have hf := it_t h1 hf
      cases hf
      refine crv_ti CX hml (As := [.int a1]) (rest := []) (wr := []) (c_X4_unrack l D cy q x_isv x_te x_re x_de x_now x_spa x_sna x_len x_sig x_nxt x_cnt x_rng a1 _ hst e9) lk_RL_62 rfl rfl hRM hP hD hS hA hK hN hX (List.Perm.of_eq (List.append_nil _).symm) (List.Perm.of_eq (List.append_nil _)) 0 rfl rfl rfl hl.1 rfl (Nat.le_of_ble_eq_true rfl) ⟨(Nat.le_of_ble_eq_true rfl), (Nat.le_of_ble_eq_true rfl)⟩ (dg ddL_unrack 4 rfl) (fun ce q9 H locs hP hD hS hq hv hcl => ?_)
      rw [h1] at hcl
      refine vx_catch (name := "java/lang/UnsupportedOperationException") CX.2.2.2 [⟨3, 9, 12, 23⟩] ⟨3, 9, 16, 28⟩ [] (htab.trans rfl) (fun z hz => by rw [List.mem_singleton.mp hz]; exact Or.inr ⟨by decide, "java/lang/IndexOutOfBoundsException", CX.2.2.1 (.classLink RL 23 "java/lang/IndexOutOfBoundsException") (lw_at 411 (by decide +kernel)), hC ("java/lang/UnsupportedOperationException", "java/lang/IndexOutOfBoundsException") (by decide +kernel)⟩) rfl (by decide) (CX.2.2.1 (.classLink RL 28 "java/lang/UnsupportedOperationException") (lw_at 391 (by decide +kernel))) (va_Nw.use rfl (hX.1 (.castable "java/lang/UnsupportedOperationException" "java/lang/UnsupportedOperationException") (by decide +kernel))) hq hv hcl ?_
      refine lv_astore_n (lv' := [(3, .ref q9), (2, .int ((-100000000))), (0, .ref (q 0 0)), (1, .int a1)]) hx hb (dg ddL_unrack 10 rfl) rfl hl (by decide) rfl (fun ls hl => ?_)
      refine lv_ldc hx hb CX.2.2.2 (CX.2.2.1 (.constant RL 10 (-100000000)) (lw_at 336 (by decide +kernel))) (dg ddL_unrack 11 rfl) ?_
      exact e_wi CX hr hlk rfl hP hD hS (dg ddL_unrack 12 rfl)
    have hf := it_f h1 hf
    cases hf
  · have hf := os_r hf
    cases hf
    refine crv_ri CX hml (As := [.int a1]) (rest := []) (wr := []) (c_X4_unrack l D cy q x_isv x_te x_re x_de x_now x_spa x_sna x_len x_sig x_nxt x_cnt x_rng a1 _ hst e9) lk_RL_62 rfl rfl hRM hP hD hS hA hK hN hX (List.Perm.of_eq (List.append_nil _).symm) (List.Perm.of_eq (List.append_nil _)) 0 rfl rfl rfl hl.1 rfl (Nat.le_of_ble_eq_true rfl) ⟨(Nat.le_of_ble_eq_true rfl), (Nat.le_of_ble_eq_true rfl)⟩ (dg ddL_unrack 4 rfl) (fun H locs hP hD hS => ?_)
    refine lv_istore_n (lv' := [(2, .int (x.1)), (0, .ref (q 0 0)), (1, .int a1)]) hx hb (dg ddL_unrack 5 rfl) rfl hl (by decide) rfl (fun ls hl => ?_)
    refine lv_goto (tgt := 20) hx hb (dg ddL_unrack 6 rfl) (by decide) ?_
    refine lv_iload_n hx hb (dg ddL_unrack 13 rfl) rfl (lv_at hl 0 rfl) ?_
    exact e_wi CX hr hlk rfl hP hD hS (dg ddL_unrack 14 rfl)
def f_L_onRack (x_now : SV) (a1 : Int32) (a2 : Int32) : Option (Int32) := ob (f_X4_onRack x_now a1 a2) fun r => (os r (fun t => if t = 1 then some ((-1000)) else (if t = 4 then some ((-1000)) else (none))) fun x => (some (x)))
set_option maxHeartbeats 4000000 in
set_option maxRecDepth 100000 in
theorem c_L_onRack (l : Launch) (D : va_G) (cy : Nat → ClassId) (q : Nat → Nat → Nat) (x_isv : Int32) (x_te : Int32) (x_re : Int32) (x_de : Int32) (x_now : SV) (x_spa : SV) (x_sna : SV) (x_len : Int32) (x_sig : Nat → Int32) (x_nxt : Int32) (x_cnt : Int32) (x_rng : Nat → SV) (a1 : Int32) (a2 : Int32) (sz : Nat) (hst : l.stackTraces = false) {res : Int32} (hf : f_L_onRack x_now a1 a2 = some res) : Met l yL_onRack (.codeWith yL_onRack cL_onRack 5 (some .int) [(4, 11, 14, 23), (4, 11, 20, 39)] :: lw_all) { frames := 7, cells := 1, slots := 6, locals := 105 } (va_Pc [.ref (q 0 0), .int a1, .int a2] (sY D cy (wX4 q cy x_isv x_te x_re x_de x_now x_spa x_sna x_len x_sig x_nxt x_cnt x_rng) sz)) (qI D (wX4 q cy x_isv x_te x_re x_de x_now x_spa x_sna x_len x_sig x_nxt x_cnt x_rng) res (va_A (wX4 q cy x_isv x_te x_re x_de x_now x_spa x_sna x_len x_sig x_nxt x_cnt x_rng) sz)) 1 6 (va_A (wX4 q cy x_isv x_te x_re x_de x_now x_spa x_sna x_len x_sig x_nxt x_cnt x_rng) sz) := by
  refine mk_l (Qc := qI D (wX4 q cy x_isv x_te x_re x_de x_now x_spa x_sna x_len x_sig x_nxt x_cnt x_rng) res) (Rc := RL) (by decide +kernel) rfl (Nat.le_of_ble_eq_true rfl) ?_
  intro p e s m args below meth c ls A CX hml hr hlk hK hN hP hD hS hA hl htab hX hC
  have hx := CX.1
  have hb := CX.2.1
  have hRM : (⟨6, 1, 6, 82⟩ : Room).frames + 1 ≤ (⟨7, 1, 6, 105⟩ : Room).frames ∧ 8 + (4 + 11) + (⟨6, 1, 6, 82⟩ : Room).locals ≤ (⟨7, 1, 6, 105⟩ : Room).locals := ⟨(Nat.le_of_ble_eq_true rfl), (Nat.le_of_ble_eq_true rfl)⟩
  refine lv_sipush (v := (-1000)) hx hb (dg ddL_onRack 0 rfl) (by decide) ?_
  refine lv_istore_n (lv' := [(3, .int ((-1000))), (0, .ref (q 0 0)), (1, .int a1), (2, .int a2)]) hx hb (dg ddL_onRack 1 rfl) rfl hl (by decide) rfl (fun ls hl => ?_)
  refine lv_aload_n hx hb (dg ddL_onRack 2 rfl) rfl (lv_at hl 1 rfl) ?_
  refine lv_iload_n hx hb (dg ddL_onRack 3 rfl) rfl (lv_at hl 2 rfl) ?_
  refine lv_iload_n hx hb (dg ddL_onRack 4 rfl) rfl (lv_at hl 3 rfl) ?_
  obtain ⟨r, e9, hf⟩ := ob_some hf
  rcases r with t | x
  · have hf := os_l hf
    by_cases h0 : t = 1
    · have hf := it_t h0 hf
      cases hf
      refine crv_ti CX hml (As := [.int a1, .int a2]) (rest := []) (wr := []) (c_X4_onRack l D cy q x_isv x_te x_re x_de x_now x_spa x_sna x_len x_sig x_nxt x_cnt x_rng a1 a2 _ hst e9) lk_RL_65 rfl rfl hRM hP hD hS hA hK hN hX (List.Perm.of_eq (List.append_nil _).symm) (List.Perm.of_eq (List.append_nil _)) 0 rfl rfl rfl hl.1 rfl (Nat.le_of_ble_eq_true rfl) ⟨(Nat.le_of_ble_eq_true rfl), (Nat.le_of_ble_eq_true rfl)⟩ (dg ddL_onRack 5 rfl) (fun ce q9 H locs hP hD hS hq hv hcl => ?_)
      rw [h0] at hcl
      refine vx_catch (name := "java/lang/IndexOutOfBoundsException") CX.2.2.2 [] ⟨4, 11, 14, 23⟩ [⟨4, 11, 20, 39⟩] (htab.trans rfl) (fun z hz => nomatch hz) rfl (by decide) (CX.2.2.1 (.classLink RL 23 "java/lang/IndexOutOfBoundsException") (lw_at 411 (by decide +kernel))) (va_Nw.use rfl (hX.1 (.castable "java/lang/IndexOutOfBoundsException" "java/lang/IndexOutOfBoundsException") (by decide +kernel))) hq hv hcl ?_
      refine lv_astore (lv' := [(4, .ref q9), (3, .int ((-1000))), (0, .ref (q 0 0)), (1, .int a1), (2, .int a2)]) hx hb (dg ddL_onRack 8 rfl) hl (by decide) rfl (fun ls hl => ?_)
      refine lv_sipush (v := (-1000)) hx hb (dg ddL_onRack 9 rfl) (by decide) ?_
      exact e_wi CX hr hlk rfl hP hD hS (dg ddL_onRack 10 rfl)
    have hf := it_f h0 hf
    by_cases h1 : t = 4
    · have hf := it_t h1 hf
      cases hf
      refine crv_ti CX hml (As := [.int a1, .int a2]) (rest := []) (wr := []) (c_X4_onRack l D cy q x_isv x_te x_re x_de x_now x_spa x_sna x_len x_sig x_nxt x_cnt x_rng a1 a2 _ hst e9) lk_RL_65 rfl rfl hRM hP hD hS hA hK hN hX (List.Perm.of_eq (List.append_nil _).symm) (List.Perm.of_eq (List.append_nil _)) 0 rfl rfl rfl hl.1 rfl (Nat.le_of_ble_eq_true rfl) ⟨(Nat.le_of_ble_eq_true rfl), (Nat.le_of_ble_eq_true rfl)⟩ (dg ddL_onRack 5 rfl) (fun ce q9 H locs hP hD hS hq hv hcl => ?_)
      rw [h1] at hcl
      refine vx_catch (name := "java/util/NoSuchElementException") CX.2.2.2 [⟨4, 11, 14, 23⟩] ⟨4, 11, 20, 39⟩ [] (htab.trans rfl) (fun z hz => by rw [List.mem_singleton.mp hz]; exact Or.inr ⟨by decide, "java/lang/IndexOutOfBoundsException", CX.2.2.1 (.classLink RL 23 "java/lang/IndexOutOfBoundsException") (lw_at 411 (by decide +kernel)), hC ("java/util/NoSuchElementException", "java/lang/IndexOutOfBoundsException") (by decide +kernel)⟩) rfl (by decide) (CX.2.2.1 (.classLink RL 39 "java/util/NoSuchElementException") (lw_at 846 (by decide +kernel))) (va_Nw.use rfl (hX.1 (.castable "java/util/NoSuchElementException" "java/util/NoSuchElementException") (by decide +kernel))) hq hv hcl ?_
      refine lv_astore (lv' := [(4, .ref q9), (3, .int ((-1000))), (0, .ref (q 0 0)), (1, .int a1), (2, .int a2)]) hx hb (dg ddL_onRack 11 rfl) hl (by decide) rfl (fun ls hl => ?_)
      refine lv_sipush (v := (-1000)) hx hb (dg ddL_onRack 12 rfl) (by decide) ?_
      exact e_wi CX hr hlk rfl hP hD hS (dg ddL_onRack 13 rfl)
    have hf := it_f h1 hf
    cases hf
  · have hf := os_r hf
    cases hf
    refine crv_ri CX hml (As := [.int a1, .int a2]) (rest := []) (wr := []) (c_X4_onRack l D cy q x_isv x_te x_re x_de x_now x_spa x_sna x_len x_sig x_nxt x_cnt x_rng a1 a2 _ hst e9) lk_RL_65 rfl rfl hRM hP hD hS hA hK hN hX (List.Perm.of_eq (List.append_nil _).symm) (List.Perm.of_eq (List.append_nil _)) 0 rfl rfl rfl hl.1 rfl (Nat.le_of_ble_eq_true rfl) ⟨(Nat.le_of_ble_eq_true rfl), (Nat.le_of_ble_eq_true rfl)⟩ (dg ddL_onRack 5 rfl) (fun H locs hP hD hS => ?_)
    refine lv_istore_n (lv' := [(3, .int (res)), (0, .ref (q 0 0)), (1, .int a1), (2, .int a2)]) hx hb (dg ddL_onRack 6 rfl) rfl hl (by decide) rfl (fun ls hl => ?_)
    refine lv_goto (tgt := 26) hx hb (dg ddL_onRack 7 rfl) (by decide) ?_
    refine lv_iload_n hx hb (dg ddL_onRack 14 rfl) rfl (lv_at hl 0 rfl) ?_
    exact e_wi CX hr hlk rfl hP hD hS (dg ddL_onRack 15 rfl)
def f_L_ranked (x_now : SV) (a1 : Int32) : Option (Int32) := ob (f_X4_ranked x_now a1) fun r => (os r (fun t => if t = 4 then some ((-1000)) else (none)) fun x => (some (x)))
set_option maxHeartbeats 4000000 in
set_option maxRecDepth 100000 in
theorem c_L_ranked (l : Launch) (D : va_G) (cy : Nat → ClassId) (q : Nat → Nat → Nat) (x_isv : Int32) (x_te : Int32) (x_re : Int32) (x_de : Int32) (x_now : SV) (x_spa : SV) (x_sna : SV) (x_len : Int32) (x_sig : Nat → Int32) (x_nxt : Int32) (x_cnt : Int32) (x_rng : Nat → SV) (a1 : Int32) (sz : Nat) (hst : l.stackTraces = false) {res : Int32} (hf : f_L_ranked x_now a1 = some res) : Met l yL_ranked (.codeWith yL_ranked cL_ranked 4 (some .int) [(4, 10, 13, 39)] :: lw_all) { frames := 7, cells := 1, slots := 6, locals := 104 } (va_Pc [.ref (q 0 0), .int a1] (sY D cy (wX4 q cy x_isv x_te x_re x_de x_now x_spa x_sna x_len x_sig x_nxt x_cnt x_rng) sz)) (qI D (wX4 q cy x_isv x_te x_re x_de x_now x_spa x_sna x_len x_sig x_nxt x_cnt x_rng) res (va_A (wX4 q cy x_isv x_te x_re x_de x_now x_spa x_sna x_len x_sig x_nxt x_cnt x_rng) sz)) 1 6 (va_A (wX4 q cy x_isv x_te x_re x_de x_now x_spa x_sna x_len x_sig x_nxt x_cnt x_rng) sz) := by
  refine mk_l (Qc := qI D (wX4 q cy x_isv x_te x_re x_de x_now x_spa x_sna x_len x_sig x_nxt x_cnt x_rng) res) (Rc := RL) (by decide +kernel) rfl (Nat.le_of_ble_eq_true rfl) ?_
  intro p e s m args below meth c ls A CX hml hr hlk hK hN hP hD hS hA hl htab hX hC
  have hx := CX.1
  have hb := CX.2.1
  have hRM : (⟨6, 1, 6, 82⟩ : Room).frames + 1 ≤ (⟨7, 1, 6, 104⟩ : Room).frames ∧ 8 + (3 + 11) + (⟨6, 1, 6, 82⟩ : Room).locals ≤ (⟨7, 1, 6, 104⟩ : Room).locals := ⟨(Nat.le_of_ble_eq_true rfl), (Nat.le_of_ble_eq_true rfl)⟩
  refine lv_sipush (v := (-1000)) hx hb (dg ddL_ranked 0 rfl) (by decide) ?_
  refine lv_istore_n (lv' := [(2, .int ((-1000))), (0, .ref (q 0 0)), (1, .int a1)]) hx hb (dg ddL_ranked 1 rfl) rfl hl (by decide) rfl (fun ls hl => ?_)
  refine lv_aload_n hx hb (dg ddL_ranked 2 rfl) rfl (lv_at hl 1 rfl) ?_
  refine lv_iload_n hx hb (dg ddL_ranked 3 rfl) rfl (lv_at hl 2 rfl) ?_
  obtain ⟨r, e9, hf⟩ := ob_some hf
  rcases r with t | x
  · have hf := os_l hf
    by_cases h0 : t = 4
    · have hf := it_t h0 hf
      cases hf
      refine crv_ti CX hml (As := [.int a1]) (rest := []) (wr := []) (c_X4_ranked l D cy q x_isv x_te x_re x_de x_now x_spa x_sna x_len x_sig x_nxt x_cnt x_rng a1 _ hst e9) lk_RL_68 rfl rfl hRM hP hD hS hA hK hN hX (List.Perm.of_eq (List.append_nil _).symm) (List.Perm.of_eq (List.append_nil _)) 0 rfl rfl rfl hl.1 rfl (Nat.le_of_ble_eq_true rfl) ⟨(Nat.le_of_ble_eq_true rfl), (Nat.le_of_ble_eq_true rfl)⟩ (dg ddL_ranked 4 rfl) (fun ce q9 H locs hP hD hS hq hv hcl => ?_)
      rw [h0] at hcl
      refine vx_catch (name := "java/util/NoSuchElementException") CX.2.2.2 [] ⟨4, 10, 13, 39⟩ [] (htab.trans rfl) (fun z hz => nomatch hz) rfl (by decide) (CX.2.2.1 (.classLink RL 39 "java/util/NoSuchElementException") (lw_at 846 (by decide +kernel))) (va_Nw.use rfl (hX.1 (.castable "java/util/NoSuchElementException" "java/util/NoSuchElementException") (by decide +kernel))) hq hv hcl ?_
      refine lv_astore_n (lv' := [(3, .ref q9), (2, .int ((-1000))), (0, .ref (q 0 0)), (1, .int a1)]) hx hb (dg ddL_ranked 7 rfl) rfl hl (by decide) rfl (fun ls hl => ?_)
      refine lv_sipush (v := (-1000)) hx hb (dg ddL_ranked 8 rfl) (by decide) ?_
      exact e_wi CX hr hlk rfl hP hD hS (dg ddL_ranked 9 rfl)
    have hf := it_f h0 hf
    cases hf
  · have hf := os_r hf
    cases hf
    refine crv_ri CX hml (As := [.int a1]) (rest := []) (wr := []) (c_X4_ranked l D cy q x_isv x_te x_re x_de x_now x_spa x_sna x_len x_sig x_nxt x_cnt x_rng a1 _ hst e9) lk_RL_68 rfl rfl hRM hP hD hS hA hK hN hX (List.Perm.of_eq (List.append_nil _).symm) (List.Perm.of_eq (List.append_nil _)) 0 rfl rfl rfl hl.1 rfl (Nat.le_of_ble_eq_true rfl) ⟨(Nat.le_of_ble_eq_true rfl), (Nat.le_of_ble_eq_true rfl)⟩ (dg ddL_ranked 4 rfl) (fun H locs hP hD hS => ?_)
    refine lv_istore_n (lv' := [(2, .int (res)), (0, .ref (q 0 0)), (1, .int a1)]) hx hb (dg ddL_ranked 5 rfl) rfl hl (by decide) rfl (fun ls hl => ?_)
    refine lv_goto (tgt := 18) hx hb (dg ddL_ranked 6 rfl) (by decide) ?_
    refine lv_iload_n hx hb (dg ddL_ranked 10 rfl) rfl (lv_at hl 0 rfl) ?_
    exact e_wi CX hr hlk rfl hP hD hS (dg ddL_ranked 11 rfl)
def f_L_pass (x_now : SV) (x_nxt : Int32) (x_cnt : Int32) (x_rng : Nat → SV) (a1 : Int32) : Option (Int32 × SV × Int32 × Int32 × (Nat → SV)) := ob (f_X4_pass x_now x_nxt x_cnt x_rng a1) fun r => (os r (fun t => if t.1 = 2 then some ((-100000000), t.2.1, t.2.2.1, t.2.2.2.1, t.2.2.2.2) else (none)) fun x => (some (x.1, x.2.1, x.2.2.1, x.2.2.2.1, x.2.2.2.2)))
set_option maxHeartbeats 4000000 in
set_option maxRecDepth 100000 in
theorem c_L_pass (l : Launch) (D : va_G) (cy : Nat → ClassId) (q : Nat → Nat → Nat) (x_isv : Int32) (x_te : Int32) (x_re : Int32) (x_de : Int32) (x_now : SV) (x_spa : SV) (x_sna : SV) (x_len : Int32) (x_sig : Nat → Int32) (x_nxt : Int32) (x_cnt : Int32) (x_rng : Nat → SV) (a1 : Int32) (sz : Nat) (hst : l.stackTraces = false) {res : Int32 × SV × Int32 × Int32 × (Nat → SV)} (hf : f_L_pass x_now x_nxt x_cnt x_rng a1 = some res) : Met l yL_pass (.codeWith yL_pass cL_pass 4 (some .int) [(3, 9, 12, 17)] :: lw_all) { frames := 8, cells := 1, slots := 6, locals := 123 } (va_Pc [.ref (q 0 0), .int a1] (sY D cy (wX4 q cy x_isv x_te x_re x_de x_now x_spa x_sna x_len x_sig x_nxt x_cnt x_rng) sz)) (qI D (wX4 q cy x_isv x_te x_re x_de res.2.1 x_spa x_sna x_len x_sig res.2.2.1 res.2.2.2.1 res.2.2.2.2) res.1 (va_A (wX4 q cy x_isv x_te x_re x_de x_now x_spa x_sna x_len x_sig x_nxt x_cnt x_rng) sz)) 1 6 (va_A (wX4 q cy x_isv x_te x_re x_de x_now x_spa x_sna x_len x_sig x_nxt x_cnt x_rng) sz) := by
  refine mk_l (Qc := qI D (wX4 q cy x_isv x_te x_re x_de res.2.1 x_spa x_sna x_len x_sig res.2.2.1 res.2.2.2.1 res.2.2.2.2) res.1) (Rc := RL) (by decide +kernel) rfl (Nat.le_of_ble_eq_true rfl) ?_
  intro p e s m args below meth c ls A CX hml hr hlk hK hN hP hD hS hA hl htab hX hC
  have hx := CX.1
  have hb := CX.2.1
  have hRM : (⟨7, 1, 6, 102⟩ : Room).frames + 1 ≤ (⟨8, 1, 6, 123⟩ : Room).frames ∧ 8 + (2 + 11) + (⟨7, 1, 6, 102⟩ : Room).locals ≤ (⟨8, 1, 6, 123⟩ : Room).locals := ⟨(Nat.le_of_ble_eq_true rfl), (Nat.le_of_ble_eq_true rfl)⟩
  refine lv_ldc hx hb CX.2.2.2 (CX.2.2.1 (.constant RL 10 (-100000000)) (lw_at 336 (by decide +kernel))) (dg ddL_pass 0 rfl) ?_
  refine lv_istore_n (lv' := [(2, .int ((-100000000))), (0, .ref (q 0 0)), (1, .int a1)]) hx hb (dg ddL_pass 1 rfl) rfl hl (by decide) rfl (fun ls hl => ?_)
  refine lv_aload_n hx hb (dg ddL_pass 2 rfl) rfl (lv_at hl 1 rfl) ?_
  refine lv_iload_n hx hb (dg ddL_pass 3 rfl) rfl (lv_at hl 2 rfl) ?_
  obtain ⟨r, e9, hf⟩ := ob_some hf
  rcases r with t | x
  · have hf := os_l hf
    by_cases h0 : t.1 = 2
    · have hf := it_t h0 hf
      cases hf
      refine crv_ti CX hml (As := [.int a1]) (rest := []) (wr := []) (c_X4_pass l D cy q x_isv x_te x_re x_de x_now x_spa x_sna x_len x_sig x_nxt x_cnt x_rng a1 _ hst e9) lk_RL_71 rfl rfl hRM hP hD hS hA hK hN hX (List.Perm.of_eq (List.append_nil _).symm) (List.Perm.of_eq (List.append_nil _)) 0 rfl rfl rfl hl.1 rfl (Nat.le_of_ble_eq_true rfl) ⟨(Nat.le_of_ble_eq_true rfl), (Nat.le_of_ble_eq_true rfl)⟩ (dg ddL_pass 4 rfl) (fun ce q9 H locs hP hD hS hq hv hcl => ?_)
      rw [h0] at hcl
      refine vx_catch (name := "java/lang/IllegalArgumentException") CX.2.2.2 [] ⟨3, 9, 12, 17⟩ [] (htab.trans rfl) (fun z hz => nomatch hz) rfl (by decide) (CX.2.2.1 (.classLink RL 17 "java/lang/IllegalArgumentException") (lw_at 335 (by decide +kernel))) (va_Nw.use rfl (hX.1 (.castable "java/lang/IllegalArgumentException" "java/lang/IllegalArgumentException") (by decide +kernel))) hq hv hcl ?_
      refine lv_astore_n (lv' := [(3, .ref q9), (2, .int ((-100000000))), (0, .ref (q 0 0)), (1, .int a1)]) hx hb (dg ddL_pass 7 rfl) rfl hl (by decide) rfl (fun ls hl => ?_)
      refine lv_ldc hx hb CX.2.2.2 (CX.2.2.1 (.constant RL 10 (-100000000)) (lw_at 336 (by decide +kernel))) (dg ddL_pass 8 rfl) ?_
      exact e_wi CX hr hlk rfl hP hD hS (dg ddL_pass 9 rfl)
    have hf := it_f h0 hf
    cases hf
  · have hf := os_r hf
    cases hf
    refine crv_ri CX hml (As := [.int a1]) (rest := []) (wr := []) (c_X4_pass l D cy q x_isv x_te x_re x_de x_now x_spa x_sna x_len x_sig x_nxt x_cnt x_rng a1 _ hst e9) lk_RL_71 rfl rfl hRM hP hD hS hA hK hN hX (List.Perm.of_eq (List.append_nil _).symm) (List.Perm.of_eq (List.append_nil _)) 0 rfl rfl rfl hl.1 rfl (Nat.le_of_ble_eq_true rfl) ⟨(Nat.le_of_ble_eq_true rfl), (Nat.le_of_ble_eq_true rfl)⟩ (dg ddL_pass 4 rfl) (fun H locs hP hD hS => ?_)
    refine lv_istore_n (lv' := [(2, .int (x.1)), (0, .ref (q 0 0)), (1, .int a1)]) hx hb (dg ddL_pass 5 rfl) rfl hl (by decide) rfl (fun ls hl => ?_)
    refine lv_goto (tgt := 16) hx hb (dg ddL_pass 6 rfl) (by decide) ?_
    refine lv_iload_n hx hb (dg ddL_pass 10 rfl) rfl (lv_at hl 0 rfl) ?_
    exact e_wi CX hr hlk rfl hP hD hS (dg ddL_pass 11 rfl)
def f_L_read (x_te : Int32) (x_re : Int32) (x_de : Int32) (x_now : SV) (x_spa : SV) (x_len : Int32) (x_sig : Nat → Int32) (x_nxt : Int32) (x_cnt : Int32) (x_rng : Nat → SV) : Option (Int32 × Int32 × Int32 × Int32 × SV × SV × Int32 × Int32 × Int32 × (Nat → SV)) := ob (f_X4_read x_te x_re x_de x_now x_spa x_len x_sig x_nxt x_cnt x_rng) fun r => (os r (fun t => if t.1 = 2 then some ((-100000000), t.2.1, t.2.2.1, t.2.2.2.1, t.2.2.2.2.1, t.2.2.2.2.2.1, t.2.2.2.2.2.2.1, t.2.2.2.2.2.2.2.1, t.2.2.2.2.2.2.2.2.1, t.2.2.2.2.2.2.2.2.2) else (if t.1 = 3 then some ((-100000000), t.2.1, t.2.2.1, t.2.2.2.1, t.2.2.2.2.1, t.2.2.2.2.2.1, t.2.2.2.2.2.2.1, t.2.2.2.2.2.2.2.1, t.2.2.2.2.2.2.2.2.1, t.2.2.2.2.2.2.2.2.2) else (none))) fun x => (some (x.1, x.2.1, x.2.2.1, x.2.2.2.1, x.2.2.2.2.1, x.2.2.2.2.2.1, x.2.2.2.2.2.2.1, x.2.2.2.2.2.2.2.1, x.2.2.2.2.2.2.2.2.1, x.2.2.2.2.2.2.2.2.2)))
set_option maxHeartbeats 4000000 in
set_option maxRecDepth 100000 in
theorem c_L_read (l : Launch) (D : va_G) (cy : Nat → ClassId) (q : Nat → Nat → Nat) (x_isv : Int32) (x_te : Int32) (x_re : Int32) (x_de : Int32) (x_now : SV) (x_spa : SV) (x_sna : SV) (x_len : Int32) (x_sig : Nat → Int32) (x_nxt : Int32) (x_cnt : Int32) (x_rng : Nat → SV) (sz : Nat) (hst : l.stackTraces = false) {res : Int32 × Int32 × Int32 × Int32 × SV × SV × Int32 × Int32 × Int32 × (Nat → SV)} (hf : f_L_read x_te x_re x_de x_now x_spa x_len x_sig x_nxt x_cnt x_rng = some res) : Met l yL_read (.codeWith yL_read cL_read 3 (some .int) [(3, 8, 11, 17), (3, 8, 15, 28)] :: lw_all) { frames := 8, cells := 1, slots := 6, locals := 175 } (va_Pc [.ref (q 0 0)] (sY D cy (wX4 q cy x_isv x_te x_re x_de x_now x_spa x_sna x_len x_sig x_nxt x_cnt x_rng) sz)) (qI D (wX4 q cy x_isv res.2.1 res.2.2.1 res.2.2.2.1 res.2.2.2.2.1 res.2.2.2.2.2.1 x_sna res.2.2.2.2.2.2.1 x_sig res.2.2.2.2.2.2.2.1 res.2.2.2.2.2.2.2.2.1 res.2.2.2.2.2.2.2.2.2) res.1 (va_A (wX4 q cy x_isv x_te x_re x_de x_now x_spa x_sna x_len x_sig x_nxt x_cnt x_rng) sz)) 1 6 (va_A (wX4 q cy x_isv x_te x_re x_de x_now x_spa x_sna x_len x_sig x_nxt x_cnt x_rng) sz) := by
  refine mk_l (Qc := qI D (wX4 q cy x_isv res.2.1 res.2.2.1 res.2.2.2.1 res.2.2.2.2.1 res.2.2.2.2.2.1 x_sna res.2.2.2.2.2.2.1 x_sig res.2.2.2.2.2.2.2.1 res.2.2.2.2.2.2.2.2.1 res.2.2.2.2.2.2.2.2.2) res.1) (Rc := RL) (by decide +kernel) rfl (Nat.le_of_ble_eq_true rfl) ?_
  intro p e s m args below meth c ls A CX hml hr hlk hK hN hP hD hS hA hl htab hX hC
  have hx := CX.1
  have hb := CX.2.1
  have hRM : (⟨7, 1, 6, 154⟩ : Room).frames + 1 ≤ (⟨8, 1, 6, 175⟩ : Room).frames ∧ 8 + (2 + 11) + (⟨7, 1, 6, 154⟩ : Room).locals ≤ (⟨8, 1, 6, 175⟩ : Room).locals := ⟨(Nat.le_of_ble_eq_true rfl), (Nat.le_of_ble_eq_true rfl)⟩
  refine lv_ldc hx hb CX.2.2.2 (CX.2.2.1 (.constant RL 10 (-100000000)) (lw_at 336 (by decide +kernel))) (dg ddL_read 0 rfl) ?_
  refine lv_istore_n (lv' := [(1, .int ((-100000000))), (0, .ref (q 0 0))]) hx hb (dg ddL_read 1 rfl) rfl hl (by decide) rfl (fun ls hl => ?_)
  refine lv_aload_n hx hb (dg ddL_read 2 rfl) rfl (lv_at hl 1 rfl) ?_
  obtain ⟨r, e9, hf⟩ := ob_some hf
  rcases r with t | x
  · have hf := os_l hf
    by_cases h0 : t.1 = 2
    · have hf := it_t h0 hf
      cases hf
      refine crv_ti CX hml (As := []) (rest := []) (wr := []) (c_X4_read l D cy q x_isv x_te x_re x_de x_now x_spa x_sna x_len x_sig x_nxt x_cnt x_rng _ hst e9) lk_RL_74 rfl rfl hRM hP hD hS hA hK hN hX (List.Perm.of_eq (List.append_nil _).symm) (List.Perm.of_eq (List.append_nil _)) 0 rfl rfl rfl hl.1 rfl (Nat.le_of_ble_eq_true rfl) ⟨(Nat.le_of_ble_eq_true rfl), (Nat.le_of_ble_eq_true rfl)⟩ (dg ddL_read 3 rfl) (fun ce q9 H locs hP hD hS hq hv hcl => ?_)
      rw [h0] at hcl
      refine vx_catch (name := "java/lang/IllegalArgumentException") CX.2.2.2 [] ⟨3, 8, 11, 17⟩ [⟨3, 8, 15, 28⟩] (htab.trans rfl) (fun z hz => nomatch hz) rfl (by decide) (CX.2.2.1 (.classLink RL 17 "java/lang/IllegalArgumentException") (lw_at 335 (by decide +kernel))) (va_Nw.use rfl (hX.1 (.castable "java/lang/IllegalArgumentException" "java/lang/IllegalArgumentException") (by decide +kernel))) hq hv hcl ?_
      refine lv_astore_n (lv' := [(2, .ref q9), (1, .int ((-100000000))), (0, .ref (q 0 0))]) hx hb (dg ddL_read 6 rfl) rfl hl (by decide) rfl (fun ls hl => ?_)
      refine lv_ldc hx hb CX.2.2.2 (CX.2.2.1 (.constant RL 10 (-100000000)) (lw_at 336 (by decide +kernel))) (dg ddL_read 7 rfl) ?_
      exact e_wi CX hr hlk rfl hP hD hS (dg ddL_read 8 rfl)
    have hf := it_f h0 hf
    by_cases h1 : t.1 = 3
    · have hf := it_t h1 hf
      cases hf
      refine crv_ti CX hml (As := []) (rest := []) (wr := []) (c_X4_read l D cy q x_isv x_te x_re x_de x_now x_spa x_sna x_len x_sig x_nxt x_cnt x_rng _ hst e9) lk_RL_74 rfl rfl hRM hP hD hS hA hK hN hX (List.Perm.of_eq (List.append_nil _).symm) (List.Perm.of_eq (List.append_nil _)) 0 rfl rfl rfl hl.1 rfl (Nat.le_of_ble_eq_true rfl) ⟨(Nat.le_of_ble_eq_true rfl), (Nat.le_of_ble_eq_true rfl)⟩ (dg ddL_read 3 rfl) (fun ce q9 H locs hP hD hS hq hv hcl => ?_)
      rw [h1] at hcl
      refine vx_catch (name := "java/lang/UnsupportedOperationException") CX.2.2.2 [⟨3, 8, 11, 17⟩] ⟨3, 8, 15, 28⟩ [] (htab.trans rfl) (fun z hz => by rw [List.mem_singleton.mp hz]; exact Or.inr ⟨by decide, "java/lang/IllegalArgumentException", CX.2.2.1 (.classLink RL 17 "java/lang/IllegalArgumentException") (lw_at 335 (by decide +kernel)), hC ("java/lang/UnsupportedOperationException", "java/lang/IllegalArgumentException") (by decide +kernel)⟩) rfl (by decide) (CX.2.2.1 (.classLink RL 28 "java/lang/UnsupportedOperationException") (lw_at 391 (by decide +kernel))) (va_Nw.use rfl (hX.1 (.castable "java/lang/UnsupportedOperationException" "java/lang/UnsupportedOperationException") (by decide +kernel))) hq hv hcl ?_
      refine lv_astore_n (lv' := [(2, .ref q9), (1, .int ((-100000000))), (0, .ref (q 0 0))]) hx hb (dg ddL_read 9 rfl) rfl hl (by decide) rfl (fun ls hl => ?_)
      refine lv_ldc hx hb CX.2.2.2 (CX.2.2.1 (.constant RL 10 (-100000000)) (lw_at 336 (by decide +kernel))) (dg ddL_read 10 rfl) ?_
      exact e_wi CX hr hlk rfl hP hD hS (dg ddL_read 11 rfl)
    have hf := it_f h1 hf
    cases hf
  · have hf := os_r hf
    cases hf
    refine crv_ri CX hml (As := []) (rest := []) (wr := []) (c_X4_read l D cy q x_isv x_te x_re x_de x_now x_spa x_sna x_len x_sig x_nxt x_cnt x_rng _ hst e9) lk_RL_74 rfl rfl hRM hP hD hS hA hK hN hX (List.Perm.of_eq (List.append_nil _).symm) (List.Perm.of_eq (List.append_nil _)) 0 rfl rfl rfl hl.1 rfl (Nat.le_of_ble_eq_true rfl) ⟨(Nat.le_of_ble_eq_true rfl), (Nat.le_of_ble_eq_true rfl)⟩ (dg ddL_read 3 rfl) (fun H locs hP hD hS => ?_)
    refine lv_istore_n (lv' := [(1, .int (x.1)), (0, .ref (q 0 0))]) hx hb (dg ddL_read 4 rfl) rfl hl (by decide) rfl (fun ls hl => ?_)
    refine lv_goto (tgt := 19) hx hb (dg ddL_read 5 rfl) (by decide) ?_
    refine lv_iload_n hx hb (dg ddL_read 12 rfl) rfl (lv_at hl 0 rfl) ?_
    exact e_wi CX hr hlk rfl hP hD hS (dg ddL_read 13 rfl)
def f_L_meanBits (x_now : SV) : Option (Int64) := ob (f_X4_meanBits x_now) fun r => (os r (fun t => if t = 6 then some ((-1)) else (none)) fun x => (some (x)))
set_option maxHeartbeats 4000000 in
set_option maxRecDepth 100000 in
theorem c_L_meanBits (l : Launch) (D : va_G) (cy : Nat → ClassId) (q : Nat → Nat → Nat) (x_isv : Int32) (x_te : Int32) (x_re : Int32) (x_de : Int32) (x_now : SV) (x_spa : SV) (x_sna : SV) (x_len : Int32) (x_sig : Nat → Int32) (x_nxt : Int32) (x_cnt : Int32) (x_rng : Nat → SV) (sz : Nat) (hst : l.stackTraces = false) {res : Int64} (hf : f_L_meanBits x_now = some res) : Met l yL_meanBits (.codeWith yL_meanBits cL_meanBits 4 (some .long) [(4, 9, 12, 84)] :: lw_all) { frames := 7, cells := 1, slots := 6, locals := 105 } (va_Pc [.ref (q 0 0)] (sY D cy (wX4 q cy x_isv x_te x_re x_de x_now x_spa x_sna x_len x_sig x_nxt x_cnt x_rng) sz)) (qL D (wX4 q cy x_isv x_te x_re x_de x_now x_spa x_sna x_len x_sig x_nxt x_cnt x_rng) res (va_A (wX4 q cy x_isv x_te x_re x_de x_now x_spa x_sna x_len x_sig x_nxt x_cnt x_rng) sz)) 1 6 (va_A (wX4 q cy x_isv x_te x_re x_de x_now x_spa x_sna x_len x_sig x_nxt x_cnt x_rng) sz) := by
  refine mk_l (Qc := qL D (wX4 q cy x_isv x_te x_re x_de x_now x_spa x_sna x_len x_sig x_nxt x_cnt x_rng) res) (Rc := RL) (by decide +kernel) rfl (Nat.le_of_ble_eq_true rfl) ?_
  intro p e s m args below meth c ls A CX hml hr hlk hK hN hP hD hS hA hl htab hX hC
  have hx := CX.1
  have hb := CX.2.1
  have hRM : (⟨6, 1, 6, 82⟩ : Room).frames + 1 ≤ (⟨7, 1, 6, 105⟩ : Room).frames ∧ 8 + (4 + 11) + (⟨6, 1, 6, 82⟩ : Room).locals ≤ (⟨7, 1, 6, 105⟩ : Room).locals := ⟨(Nat.le_of_ble_eq_true rfl), (Nat.le_of_ble_eq_true rfl)⟩
  refine lv_ldc2 hx hb CX.2.2.2 (CX.2.2.1 (.constantLong RL 78 (-1)) (lw_at 1004 (by decide +kernel))) (dg ddL_meanBits 0 rfl) ?_
  refine lv_lstore_n (lv' := [(1, .long ((-1))), (0, .ref (q 0 0))]) hx hb (dg ddL_meanBits 1 rfl) rfl hl (by decide) rfl (fun ls hl => ?_)
  refine lv_aload_n hx hb (dg ddL_meanBits 2 rfl) rfl (lv_at hl 1 rfl) ?_
  obtain ⟨r, e9, hf⟩ := ob_some hf
  rcases r with t | x
  · have hf := os_l hf
    by_cases h0 : t = 6
    · have hf := it_t h0 hf
      cases hf
      refine crv_tl CX hml (As := []) (rest := []) (wr := []) (c_X4_meanBits l D cy q x_isv x_te x_re x_de x_now x_spa x_sna x_len x_sig x_nxt x_cnt x_rng _ hst e9) lk_RL_80 rfl rfl hRM hP hD hS hA hK hN hX (List.Perm.of_eq (List.append_nil _).symm) (List.Perm.of_eq (List.append_nil _)) 0 rfl rfl rfl hl.1 rfl (Nat.le_of_ble_eq_true rfl) ⟨(Nat.le_of_ble_eq_true rfl), (Nat.le_of_ble_eq_true rfl)⟩ (dg ddL_meanBits 3 rfl) (fun ce q9 H locs hP hD hS hq hv hcl => ?_)
      rw [h0] at hcl
      refine vx_catch (name := "java/lang/ArithmeticException") CX.2.2.2 [] ⟨4, 9, 12, 84⟩ [] (htab.trans rfl) (fun z hz => nomatch hz) rfl (by decide) (CX.2.2.1 (.classLink RL 84 "java/lang/ArithmeticException") (lw_at 990 (by decide +kernel))) (va_Nw.use rfl (hX.1 (.castable "java/lang/ArithmeticException" "java/lang/ArithmeticException") (by decide +kernel))) hq hv hcl ?_
      refine lv_astore_n (lv' := [(3, .ref q9), (1, .long ((-1))), (0, .ref (q 0 0))]) hx hb (dg ddL_meanBits 6 rfl) rfl hl (by decide) rfl (fun ls hl => ?_)
      refine lv_ldc2 hx hb CX.2.2.2 (CX.2.2.1 (.constantLong RL 78 (-1)) (lw_at 1004 (by decide +kernel))) (dg ddL_meanBits 7 rfl) ?_
      exact e_wl CX hr hlk rfl hP hD hS (dg ddL_meanBits 8 rfl)
    have hf := it_f h0 hf
    cases hf
  · have hf := os_r hf
    cases hf
    refine crv_rl CX hml (As := []) (rest := []) (wr := []) (c_X4_meanBits l D cy q x_isv x_te x_re x_de x_now x_spa x_sna x_len x_sig x_nxt x_cnt x_rng _ hst e9) lk_RL_80 rfl rfl hRM hP hD hS hA hK hN hX (List.Perm.of_eq (List.append_nil _).symm) (List.Perm.of_eq (List.append_nil _)) 0 rfl rfl rfl hl.1 rfl (Nat.le_of_ble_eq_true rfl) ⟨(Nat.le_of_ble_eq_true rfl), (Nat.le_of_ble_eq_true rfl)⟩ (dg ddL_meanBits 3 rfl) (fun H locs hP hD hS => ?_)
    refine lv_lstore_n (lv' := [(1, .long (res)), (0, .ref (q 0 0))]) hx hb (dg ddL_meanBits 4 rfl) rfl hl (by decide) rfl (fun ls hl => ?_)
    refine lv_goto (tgt := 17) hx hb (dg ddL_meanBits 5 rfl) (by decide) ?_
    refine lv_lload_n hx hb (dg ddL_meanBits 9 rfl) rfl (lv_at hl 0 rfl) ?_
    exact e_wl CX hr hlk rfl hP hD hS (dg ddL_meanBits 10 rfl)
def f_L_undo (x_now : SV) (x_nxt : Int32) (x_cnt : Int32) (x_rng : Nat → SV) : Option (Int32 × SV × Int32 × Int32) := ob (f_X4_undo x_now x_nxt x_cnt x_rng) fun r => (os r (fun t => if t.1 = 5 then some ((-100000000), t.2.1, t.2.2.1, t.2.2.2) else (none)) fun x => (some (x.1, x.2.1, x.2.2.1, x.2.2.2)))
set_option maxHeartbeats 4000000 in
set_option maxRecDepth 100000 in
theorem c_L_undo (l : Launch) (D : va_G) (cy : Nat → ClassId) (q : Nat → Nat → Nat) (x_isv : Int32) (x_te : Int32) (x_re : Int32) (x_de : Int32) (x_now : SV) (x_spa : SV) (x_sna : SV) (x_len : Int32) (x_sig : Nat → Int32) (x_nxt : Int32) (x_cnt : Int32) (x_rng : Nat → SV) (sz : Nat) (hst : l.stackTraces = false) {res : Int32 × SV × Int32 × Int32} (hf : f_L_undo x_now x_nxt x_cnt x_rng = some res) : Met l yL_undo (.codeWith yL_undo cL_undo 3 (some .int) [(3, 8, 11, 89)] :: lw_all) { frames := 7, cells := 1, slots := 6, locals := 103 } (va_Pc [.ref (q 0 0)] (sY D cy (wX4 q cy x_isv x_te x_re x_de x_now x_spa x_sna x_len x_sig x_nxt x_cnt x_rng) sz)) (qI D (wX4 q cy x_isv x_te x_re x_de res.2.1 x_spa x_sna x_len x_sig res.2.2.1 res.2.2.2 x_rng) res.1 (va_A (wX4 q cy x_isv x_te x_re x_de x_now x_spa x_sna x_len x_sig x_nxt x_cnt x_rng) sz)) 1 6 (va_A (wX4 q cy x_isv x_te x_re x_de x_now x_spa x_sna x_len x_sig x_nxt x_cnt x_rng) sz) := by
  refine mk_l (Qc := qI D (wX4 q cy x_isv x_te x_re x_de res.2.1 x_spa x_sna x_len x_sig res.2.2.1 res.2.2.2 x_rng) res.1) (Rc := RL) (by decide +kernel) rfl (Nat.le_of_ble_eq_true rfl) ?_
  intro p e s m args below meth c ls A CX hml hr hlk hK hN hP hD hS hA hl htab hX hC
  have hx := CX.1
  have hb := CX.2.1
  have hRM : (⟨6, 1, 6, 83⟩ : Room).frames + 1 ≤ (⟨7, 1, 6, 103⟩ : Room).frames ∧ 8 + (1 + 11) + (⟨6, 1, 6, 83⟩ : Room).locals ≤ (⟨7, 1, 6, 103⟩ : Room).locals := ⟨(Nat.le_of_ble_eq_true rfl), (Nat.le_of_ble_eq_true rfl)⟩
  refine lv_ldc hx hb CX.2.2.2 (CX.2.2.1 (.constant RL 10 (-100000000)) (lw_at 336 (by decide +kernel))) (dg ddL_undo 0 rfl) ?_
  refine lv_istore_n (lv' := [(1, .int ((-100000000))), (0, .ref (q 0 0))]) hx hb (dg ddL_undo 1 rfl) rfl hl (by decide) rfl (fun ls hl => ?_)
  refine lv_aload_n hx hb (dg ddL_undo 2 rfl) rfl (lv_at hl 1 rfl) ?_
  obtain ⟨r, e9, hf⟩ := ob_some hf
  rcases r with t | x
  · have hf := os_l hf
    by_cases h0 : t.1 = 5
    · have hf := it_t h0 hf
      cases hf
      refine crv_ti CX hml (As := []) (rest := []) (wr := []) (c_X4_undo l D cy q x_isv x_te x_re x_de x_now x_spa x_sna x_len x_sig x_nxt x_cnt x_rng _ hst e9) lk_RL_86 rfl rfl hRM hP hD hS hA hK hN hX (List.Perm.of_eq (List.append_nil _).symm) (List.Perm.of_eq (List.append_nil _)) 0 rfl rfl rfl hl.1 rfl (Nat.le_of_ble_eq_true rfl) ⟨(Nat.le_of_ble_eq_true rfl), (Nat.le_of_ble_eq_true rfl)⟩ (dg ddL_undo 3 rfl) (fun ce q9 H locs hP hD hS hq hv hcl => ?_)
      rw [h0] at hcl
      refine vx_catch (name := "java/lang/IllegalStateException") CX.2.2.2 [] ⟨3, 8, 11, 89⟩ [] (htab.trans rfl) (fun z hz => nomatch hz) rfl (by decide) (CX.2.2.1 (.classLink RL 89 "java/lang/IllegalStateException") (lw_at 632 (by decide +kernel))) (va_Nw.use rfl (hX.1 (.castable "java/lang/IllegalStateException" "java/lang/IllegalStateException") (by decide +kernel))) hq hv hcl ?_
      refine lv_astore_n (lv' := [(2, .ref q9), (1, .int ((-100000000))), (0, .ref (q 0 0))]) hx hb (dg ddL_undo 6 rfl) rfl hl (by decide) rfl (fun ls hl => ?_)
      refine lv_ldc hx hb CX.2.2.2 (CX.2.2.1 (.constant RL 10 (-100000000)) (lw_at 336 (by decide +kernel))) (dg ddL_undo 7 rfl) ?_
      exact e_wi CX hr hlk rfl hP hD hS (dg ddL_undo 8 rfl)
    have hf := it_f h0 hf
    cases hf
  · have hf := os_r hf
    cases hf
    refine crv_ri CX hml (As := []) (rest := []) (wr := []) (c_X4_undo l D cy q x_isv x_te x_re x_de x_now x_spa x_sna x_len x_sig x_nxt x_cnt x_rng _ hst e9) lk_RL_86 rfl rfl hRM hP hD hS hA hK hN hX (List.Perm.of_eq (List.append_nil _).symm) (List.Perm.of_eq (List.append_nil _)) 0 rfl rfl rfl hl.1 rfl (Nat.le_of_ble_eq_true rfl) ⟨(Nat.le_of_ble_eq_true rfl), (Nat.le_of_ble_eq_true rfl)⟩ (dg ddL_undo 3 rfl) (fun H locs hP hD hS => ?_)
    refine lv_istore_n (lv' := [(1, .int (x.1)), (0, .ref (q 0 0))]) hx hb (dg ddL_undo 4 rfl) rfl hl (by decide) rfl (fun ls hl => ?_)
    refine lv_goto (tgt := 15) hx hb (dg ddL_undo 5 rfl) (by decide) ?_
    refine lv_iload_n hx hb (dg ddL_undo 9 rfl) rfl (lv_at hl 0 rfl) ?_
    exact e_wi CX hr hlk rfl hP hD hS (dg ddL_undo 10 rfl)
def f_L_restore (x_isv : Int32) (x_now : SV) (x_sna : SV) (x_cnt : Int32) : Option (Int32 × SV × Int32) := ob (f_X4_restore x_isv x_now x_sna x_cnt) fun r => (os r (fun t => if t.1 = 5 then some ((-100000000), t.2.1, t.2.2) else (none)) fun x => (some (x.1, x.2.1, x.2.2)))
set_option maxHeartbeats 4000000 in
set_option maxRecDepth 100000 in
theorem c_L_restore (l : Launch) (D : va_G) (cy : Nat → ClassId) (q : Nat → Nat → Nat) (x_isv : Int32) (x_te : Int32) (x_re : Int32) (x_de : Int32) (x_now : SV) (x_spa : SV) (x_sna : SV) (x_len : Int32) (x_sig : Nat → Int32) (x_nxt : Int32) (x_cnt : Int32) (x_rng : Nat → SV) (sz : Nat) (hst : l.stackTraces = false) {res : Int32 × SV × Int32} (hf : f_L_restore x_isv x_now x_sna x_cnt = some res) : Met l yL_restore (.codeWith yL_restore cL_restore 3 (some .int) [(3, 8, 11, 89)] :: lw_all) { frames := 7, cells := 1, slots := 6, locals := 102 } (va_Pc [.ref (q 0 0)] (sY D cy (wX4 q cy x_isv x_te x_re x_de x_now x_spa x_sna x_len x_sig x_nxt x_cnt x_rng) sz)) (qI D (wX4 q cy x_isv x_te x_re x_de res.2.1 x_spa x_sna x_len x_sig x_nxt res.2.2 x_rng) res.1 (va_A (wX4 q cy x_isv x_te x_re x_de x_now x_spa x_sna x_len x_sig x_nxt x_cnt x_rng) sz)) 1 6 (va_A (wX4 q cy x_isv x_te x_re x_de x_now x_spa x_sna x_len x_sig x_nxt x_cnt x_rng) sz) := by
  refine mk_l (Qc := qI D (wX4 q cy x_isv x_te x_re x_de res.2.1 x_spa x_sna x_len x_sig x_nxt res.2.2 x_rng) res.1) (Rc := RL) (by decide +kernel) rfl (Nat.le_of_ble_eq_true rfl) ?_
  intro p e s m args below meth c ls A CX hml hr hlk hK hN hP hD hS hA hl htab hX hC
  have hx := CX.1
  have hb := CX.2.1
  have hRM : (⟨6, 1, 6, 82⟩ : Room).frames + 1 ≤ (⟨7, 1, 6, 102⟩ : Room).frames ∧ 8 + (1 + 11) + (⟨6, 1, 6, 82⟩ : Room).locals ≤ (⟨7, 1, 6, 102⟩ : Room).locals := ⟨(Nat.le_of_ble_eq_true rfl), (Nat.le_of_ble_eq_true rfl)⟩
  refine lv_ldc hx hb CX.2.2.2 (CX.2.2.1 (.constant RL 10 (-100000000)) (lw_at 336 (by decide +kernel))) (dg ddL_restore 0 rfl) ?_
  refine lv_istore_n (lv' := [(1, .int ((-100000000))), (0, .ref (q 0 0))]) hx hb (dg ddL_restore 1 rfl) rfl hl (by decide) rfl (fun ls hl => ?_)
  refine lv_aload_n hx hb (dg ddL_restore 2 rfl) rfl (lv_at hl 1 rfl) ?_
  obtain ⟨r, e9, hf⟩ := ob_some hf
  rcases r with t | x
  · have hf := os_l hf
    by_cases h0 : t.1 = 5
    · have hf := it_t h0 hf
      cases hf
      refine crv_ti CX hml (As := []) (rest := []) (wr := []) (c_X4_restore l D cy q x_isv x_te x_re x_de x_now x_spa x_sna x_len x_sig x_nxt x_cnt x_rng _ hst e9) lk_RL_91 rfl rfl hRM hP hD hS hA hK hN hX (List.Perm.of_eq (List.append_nil _).symm) (List.Perm.of_eq (List.append_nil _)) 0 rfl rfl rfl hl.1 rfl (Nat.le_of_ble_eq_true rfl) ⟨(Nat.le_of_ble_eq_true rfl), (Nat.le_of_ble_eq_true rfl)⟩ (dg ddL_restore 3 rfl) (fun ce q9 H locs hP hD hS hq hv hcl => ?_)
      rw [h0] at hcl
      refine vx_catch (name := "java/lang/IllegalStateException") CX.2.2.2 [] ⟨3, 8, 11, 89⟩ [] (htab.trans rfl) (fun z hz => nomatch hz) rfl (by decide) (CX.2.2.1 (.classLink RL 89 "java/lang/IllegalStateException") (lw_at 632 (by decide +kernel))) (va_Nw.use rfl (hX.1 (.castable "java/lang/IllegalStateException" "java/lang/IllegalStateException") (by decide +kernel))) hq hv hcl ?_
      refine lv_astore_n (lv' := [(2, .ref q9), (1, .int ((-100000000))), (0, .ref (q 0 0))]) hx hb (dg ddL_restore 6 rfl) rfl hl (by decide) rfl (fun ls hl => ?_)
      refine lv_ldc hx hb CX.2.2.2 (CX.2.2.1 (.constant RL 10 (-100000000)) (lw_at 336 (by decide +kernel))) (dg ddL_restore 7 rfl) ?_
      exact e_wi CX hr hlk rfl hP hD hS (dg ddL_restore 8 rfl)
    have hf := it_f h0 hf
    cases hf
  · have hf := os_r hf
    cases hf
    refine crv_ri CX hml (As := []) (rest := []) (wr := []) (c_X4_restore l D cy q x_isv x_te x_re x_de x_now x_spa x_sna x_len x_sig x_nxt x_cnt x_rng _ hst e9) lk_RL_91 rfl rfl hRM hP hD hS hA hK hN hX (List.Perm.of_eq (List.append_nil _).symm) (List.Perm.of_eq (List.append_nil _)) 0 rfl rfl rfl hl.1 rfl (Nat.le_of_ble_eq_true rfl) ⟨(Nat.le_of_ble_eq_true rfl), (Nat.le_of_ble_eq_true rfl)⟩ (dg ddL_restore 3 rfl) (fun H locs hP hD hS => ?_)
    refine lv_istore_n (lv' := [(1, .int (x.1)), (0, .ref (q 0 0))]) hx hb (dg ddL_restore 4 rfl) rfl hl (by decide) rfl (fun ls hl => ?_)
    refine lv_goto (tgt := 15) hx hb (dg ddL_restore 5 rfl) (by decide) ?_
    refine lv_iload_n hx hb (dg ddL_restore 9 rfl) rfl (lv_at hl 0 rfl) ?_
    exact e_wi CX hr hlk rfl hP hD hS (dg ddL_restore 10 rfl)
def f_L_type (x_len : Int32) (x_sig : Nat → Int32) (a1 : Int32) : Option (Int32 × Int32 × (Nat → Int32)) := ob (f_X4_append x_len x_sig a1) fun r => (os r (fun t => if t.1 = 5 then some (0, t.2.1, t.2.2) else (none)) fun x => (some (1, x.2.1, x.2.2)))
set_option maxHeartbeats 4000000 in
set_option maxRecDepth 100000 in
theorem c_L_type (l : Launch) (D : va_G) (cy : Nat → ClassId) (q : Nat → Nat → Nat) (x_isv : Int32) (x_te : Int32) (x_re : Int32) (x_de : Int32) (x_now : SV) (x_spa : SV) (x_sna : SV) (x_len : Int32) (x_sig : Nat → Int32) (x_nxt : Int32) (x_cnt : Int32) (x_rng : Nat → SV) (a1 : Int32) (sz : Nat) (hst : l.stackTraces = false) {res : Int32 × Int32 × (Nat → Int32)} (hf : f_L_type x_len x_sig a1 = some res) : Met l yL_type (.codeWith yL_type cL_type 3 (some .boolean) [(0, 6, 9, 89)] :: lw_all) { frames := 7, cells := 1, slots := 6, locals := 103 } (va_Pc [.ref (q 0 0), .int a1] (sY D cy (wX4 q cy x_isv x_te x_re x_de x_now x_spa x_sna x_len x_sig x_nxt x_cnt x_rng) sz)) (qI D (wX4 q cy x_isv x_te x_re x_de x_now x_spa x_sna res.2.1 res.2.2 x_nxt x_cnt x_rng) res.1 (va_A (wX4 q cy x_isv x_te x_re x_de x_now x_spa x_sna x_len x_sig x_nxt x_cnt x_rng) sz)) 1 6 (va_A (wX4 q cy x_isv x_te x_re x_de x_now x_spa x_sna x_len x_sig x_nxt x_cnt x_rng) sz) := by
  refine mk_l (Qc := qI D (wX4 q cy x_isv x_te x_re x_de x_now x_spa x_sna res.2.1 res.2.2 x_nxt x_cnt x_rng) res.1) (Rc := RL) (by decide +kernel) rfl (Nat.le_of_ble_eq_true rfl) ?_
  intro p e s m args below meth c ls A CX hml hr hlk hK hN hP hD hS hA hl htab hX hC
  have hx := CX.1
  have hb := CX.2.1
  have hRM : (⟨6, 1, 6, 82⟩ : Room).frames + 1 ≤ (⟨7, 1, 6, 103⟩ : Room).frames ∧ 8 + (2 + 11) + (⟨6, 1, 6, 82⟩ : Room).locals ≤ (⟨7, 1, 6, 103⟩ : Room).locals := ⟨(Nat.le_of_ble_eq_true rfl), (Nat.le_of_ble_eq_true rfl)⟩
  refine lv_aload_n hx hb (dg ddL_type 0 rfl) rfl (lv_at hl 0 rfl) ?_
  refine lv_iload_n hx hb (dg ddL_type 1 rfl) rfl (lv_at hl 1 rfl) ?_
  obtain ⟨r, e9, hf⟩ := ob_some hf
  rcases r with t | x
  · have hf := os_l hf
    by_cases h0 : t.1 = 5
    · have hf := it_t h0 hf
      cases hf
      refine crv_ti CX hml (As := [.int a1]) (rest := []) (wr := []) (c_X4_append l D cy q x_isv x_te x_re x_de x_now x_spa x_sna x_len x_sig x_nxt x_cnt x_rng a1 _ hst e9) lk_RL_94 rfl rfl hRM hP hD hS hA hK hN hX (List.Perm.of_eq (List.append_nil _).symm) (List.Perm.of_eq (List.append_nil _)) 0 rfl rfl rfl hl.1 rfl (Nat.le_of_ble_eq_true rfl) ⟨(Nat.le_of_ble_eq_true rfl), (Nat.le_of_ble_eq_true rfl)⟩ (dg ddL_type 2 rfl) (fun ce q9 H locs hP hD hS hq hv hcl => ?_)
      rw [h0] at hcl
      refine vx_catch (name := "java/lang/IllegalStateException") CX.2.2.2 [] ⟨0, 6, 9, 89⟩ [] (htab.trans rfl) (fun z hz => nomatch hz) rfl (by decide) (CX.2.2.1 (.classLink RL 89 "java/lang/IllegalStateException") (lw_at 632 (by decide +kernel))) (va_Nw.use rfl (hX.1 (.castable "java/lang/IllegalStateException" "java/lang/IllegalStateException") (by decide +kernel))) hq hv hcl ?_
      refine lv_astore_n (lv' := [(2, .ref q9), (0, .ref (q 0 0)), (1, .int a1)]) hx hb (dg ddL_type 5 rfl) rfl hl (by decide) rfl (fun ls hl => ?_)
      refine lv_iconst (v := (0)) hx hb (dg ddL_type 6 rfl) (by decide) ?_
      exact e_wz CX hr hlk (by decide) rfl hP hD hS (dg ddL_type 7 rfl)
    have hf := it_f h0 hf
    cases hf
  · have hf := os_r hf
    cases hf
    refine crv_ri CX hml (As := [.int a1]) (rest := []) (wr := []) (c_X4_append l D cy q x_isv x_te x_re x_de x_now x_spa x_sna x_len x_sig x_nxt x_cnt x_rng a1 _ hst e9) lk_RL_94 rfl rfl hRM hP hD hS hA hK hN hX (List.Perm.of_eq (List.append_nil _).symm) (List.Perm.of_eq (List.append_nil _)) 0 rfl rfl rfl hl.1 rfl (Nat.le_of_ble_eq_true rfl) ⟨(Nat.le_of_ble_eq_true rfl), (Nat.le_of_ble_eq_true rfl)⟩ (dg ddL_type 2 rfl) (fun H locs hP hD hS => ?_)
    refine lv_pop hx hb (dg ddL_type 3 rfl) rfl ?_
    refine lv_goto (tgt := 12) hx hb (dg ddL_type 4 rfl) (by decide) ?_
    refine lv_iconst (v := 1) hx hb (dg ddL_type 8 rfl) (by decide) ?_
    exact e_wz CX hr hlk (by decide) rfl hP hD hS (dg ddL_type 9 rfl)
