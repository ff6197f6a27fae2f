/-! the law: its texts, its starts, calls of its own methods -/
def tLs : List Nat := [2, 3, 2, 7, 5, 11, 2, 5, 2, 5, 2, 5, 2, 6, 3, 2, 2, 4]
def tBs : List (List Int32) := [[112, 49], [112, 51, 48], [119, 48], [119, 48, 59, 100, 48, 35, 48], [100, 49, 35, 48, 55], [119, 49, 59, 100, 49, 35, 57, 57, 59, 112, 50], [120, 48], [120, 49, 59, 119, 49], [115, 48], [115, 49, 59, 115, 50], [97, 48], [97, 49, 59, 112, 49], [99, 48], [99, 53, 48, 59, 112, 51], [99, 53, 49], [112, 48], [119, 57], [100, 57, 35, 48]]
def tL (i : Nat) : Nat := tLs.getD i 0
def tB (i j : Nat) : Int32 := (tBs.getD i []).getD j 0
/-- the texts lie where they lay: the law's row, eighteen Strings with their bytes -/
def tXF (tK tV : Nat → Nat) (ta : Nat) (A : Nat → Prop) (U : State) (H : Heap) : Prop :=
  va_Z "BuskPitchesLaw" "TEXTS" "[Ljava/lang/String;" (.ref ta) A U H ∧ va_T (.object "java/lang/String") ta 18 (fun j => .ref (tK j)) A U H ∧ (∀ i : Nat, i < 18 → va_O "java/lang/String" (tK i) A U H ∧ va_OF "java/lang/String" "coder" "B" (.int 0) (tK i) A U H ∧ va_OF "java/lang/String" "value" "[B" (.ref (tV i)) (tK i) A U H ∧ va_T .byte (tV i) (tL i) (fun j => .int (tB i j)) A U H) ∧ va_Z "java/lang/String" "COMPACT_STRINGS" "Z" (.int 1) A U H ∧ ∃ v : Value, (v = .null ∨ ∃ t : Nat, v = .ref t) ∧ va_Z "jdk/internal/util/Preconditions" "SIOOBE_FORMATTER" "Ljava/util/function/BiFunction;" v A U H
theorem tXF.moved {tK tV : Nat → Nat} {ta : Nat} {A : Nat → Prop} {u U : State} {H : Heap} (hvm : u.vm.Alike U.vm) (h : tXF tK tV ta A u H) : tXF tK tV ta A U H := by
  obtain ⟨h1, h2, h3, h4, v, hv, h5⟩ := h
  exact ⟨va_Z.moved hvm h1, va_T.moved hvm h2, fun i hi => ⟨va_O.moved hvm (h3 i hi).1, va_OF.moved hvm (h3 i hi).2.1, va_OF.moved hvm (h3 i hi).2.2.1, va_T.moved hvm (h3 i hi).2.2.2⟩, va_Z.moved hvm h4, v, hv, va_Z.moved hvm h5⟩
theorem tXF.kept {tK tV : Nat → Nat} {ta : Nat} {A : Nat → Prop} {U : State} {H H1 : Heap} (h : tXF tK tV ta A U H) (hq : ∀ a : Nat, a < H.size → ¬ A a → H1[a]? = H[a]?) : tXF tK tV ta A U H1 := by
  obtain ⟨h1, h2, h3, h4, v, hv, h5⟩ := h
  exact ⟨h1.kept hq, h2.kept hq, fun i hi => ⟨(h3 i hi).1.kept hq, (h3 i hi).2.1.kept hq, (h3 i hi).2.2.1.kept hq, (h3 i hi).2.2.2.kept hq⟩, h4.kept hq, v, hv, h5.kept hq⟩
theorem tXF.narrow {tK tV : Nat → Nat} {ta : Nat} {A B : Nat → Prop} {U : State} {H : Heap} (h : tXF tK tV ta A U H) (hAB : ∀ q, B q → A q) : tXF tK tV ta B U H := by
  obtain ⟨h1, h2, h3, h4, v, hv, h5⟩ := h
  exact ⟨h1.narrow hAB, h2.narrow hAB, fun i hi => ⟨(h3 i hi).1.narrow hAB, (h3 i hi).2.1.narrow hAB, (h3 i hi).2.2.1.narrow hAB, (h3 i hi).2.2.2.narrow hAB⟩, h4.narrow hAB, v, hv, h5.narrow hAB⟩
def nF : Nat → Prop := fun _ => False
/-- a start of a method of String's; one of the law's methods that writes texts -/
def sS (tK tV : Nat → Nat) (ta : Nat) : State → Prop := fun U => tXF tK tV ta nF U U.heap
def sT (D : va_G) (cy : Nat → ClassId) (tK tV : Nat → Nat) (ta : Nat) (ws : va_W) (sz : Nat) : State → Prop := fun U => sY D cy ws sz U ∧ tXF tK tV ta (va_A ws sz) U U.heap
theorem sS_blind (av : List Value) (tK tV : Nat → Nat) (ta : Nat) : FrameBlind (va_Pc av (sS tK tV ta)) := fun a U g mk q => ⟨q.1, tXF.moved (u := U) (U := U.calling g mk a) (Vm.Alike.refl U.vm) q.2⟩
theorem sT_blind (av : List Value) (D : va_G) (cy : Nat → ClassId) (tK tV : Nat → Nat) (ta : Nat) (ws : va_W) (sz : Nat) : FrameBlind (va_Pc av (sT D cy tK tV ta ws sz)) := fun a U g mk q => ⟨q.1, (sY_blind av D cy ws sz a U g mk ⟨q.1, q.2.1⟩).2, tXF.moved (u := U) (U := U.calling g mk a) (Vm.Alike.refl U.vm) q.2.2⟩
def qR (D : va_G) (ws : va_W) (x : Nat) (A : Nat → Prop) : Array Value → State → Outcome → State → Prop := va_Qr (S := Unit) (fun _ => True) (fun _ a t => a = x ∧ va_P D vwCl ws t.heap ∧ va_D A ws) A
section LWB
variable {p : Program} {l : Launch} {e : Env} {R : Room} {s : State} {m : MethodId} {args : Array Value} {below : List Frame} {meth : Method} {c : Code} {H : Heap} {locs : List Loc} {cells slots : Nat} {Q : State → Prop}
variable {cc : ByteArray} {pc : Nat} {ls : Array Slot} {rest st0 : List Value} {D : va_G} {A : Nat → Prop} {a : Nat} {ws : va_W} {cy : Nat → ClassId} {own : String} {tK tV : Nat → Nat} {ta : Nat}
theorem tX_S (hT : tXF tK tV ta A s s.heap) (hS : va_S A s.heap H locs) : tXF tK tV ta A s H := hT.kept (fun q h1 h2 => hS.2.1 q h1 h2)
theorem sS_at {av : List Value} (hT : tXF tK tV ta A s s.heap) (hS : va_S A s.heap H locs) : ∀ U : State, U.heap = H → s.WarmedH U.vm → va_Pc av (sS tK tV ta) av.toArray U := fun U hU hW => ⟨rfl, by
  show tXF tK tV ta nF U U.heap
  rw [hU]
  exact ((tX_S hT hS).narrow (fun q h => h.elim)).moved hW.alike⟩
theorem sT_at {av : List Value} (hP : va_P D vwCl ws H) (hD : va_D A ws) (hK : va_K D vwCl (tyA cy) s) (hN : nst s) (hX : exF A s s.heap) (hC : ncF s) (hT : tXF tK tV ta A s s.heap) (hS : va_S A s.heap H locs) (hA : ∀ q, s.heap.size ≤ q → A q) : ∀ U : State, U.heap = H → s.WarmedH U.vm → va_Pc av (sT D cy tK tV ta ws H.size) av.toArray U := fun U hU hW => ⟨rfl, (sY_at (av := av) hP hD hK hN hX hC hS hA U hU hW).2, by rw [hU]; exact ((tX_S hT hS).narrow (fc_of hD hS hA)).moved hW.alike⟩
theorem tK_at (hT : tXF tK tV ta A s s.heap) (hS : va_S A s.heap H locs) {i : Nat} (hi : i < 18) : ∃ cell : Cell, H[tK i]? = some cell ∧ cell.vm.isStatics = false ∧ s.vm.findClass "java/lang/String" = some cell.cls := by
  obtain ⟨cell, h1, h2, h3, -⟩ := ((tX_S hT hS).2.2.1 i hi).1
  exact ⟨cell, h1, h2, h3⟩
set_option maxHeartbeats 1000000 in
theorem mk_st {y : MethodName} {maxL : Nat} {ret : Option FieldType} {rm : Room} {av : List Value} {Qc : Array Value → State → Outcome → State → Prop} {Rc : String}
    (hy : plainFor y = true) (hRc : y.cls = Rc) (hn : (lg_sl av).length ≤ maxL)
    (body : ∀ (p : Program) (e : Env) (s : State) (m : MethodId) (args : Array Value) (below : List Frame) (meth : Method) (c : Code) (ls : Array Slot), Cx p s m c args cc Rc → c.maxLocals = maxL → meth.sig.returnType = ret → meth.locks = false → tXF tK tV ta nF s s.heap → va_S nF s.heap s.heap [] → lv_has ls maxL (lv_args 0 av) →
      W p l e rm s m args below meth c s.heap [] 0 0 (MQ below Qc args s 0 0 (fun _ => False)) (F0 m 0 ls [])) :
    Met l y (.code y cc maxL ret :: lw_all) rm (va_Pc av (sS tK tV ta)) Qc 0 0 (fun _ => False) := by
  refine Met_ofWF (cc := cc) (maxL := maxL) (ret := ret) hy rfl ?_
  intro p e s m args below meth c s₁ B hml hv
  obtain ⟨rfl, hT⟩ := hv
  have hts := atoms_spec (ws := .code y cc maxL ret :: lw_all) B.pre
  have hown : s.vm.findClass y.cls = some m.cls := findClass_of_methodNamed B.named
  have hl := lv_entry av (n := maxL) hn
  rw [lg_entry_eq]
  exact body p e s m av.toArray below meth c _ ⟨B.exec, B.bytes, fun w hw => hts w (List.mem_cons_of_mem _ hw), hRc ▸ hown⟩ hml B.returns B.notSynchronized hT va_S.rf hl
set_option maxHeartbeats 1000000 in
theorem mk_lc {y : MethodName} {maxL : Nat} {ret : Option FieldType} {rm : Room} {av : List Value} {Qc : (Nat → Prop) → Array Value → State → Outcome → State → Prop} {Rc : String} {mc ms sz : Nat}
    (hy : plainFor y = true) (hRc : y.cls = Rc) (hn : (lg_sl av).length ≤ maxL)
    (body : ∀ (p : Program) (e : Env) (s : State) (m : MethodId) (args : Array Value) (below : List Frame) (meth : Method) (c : Code) (ls : Array Slot) (A : Nat → Prop), Cx p s m c args cc Rc → c.maxLocals = maxL → meth.sig.returnType = ret → meth.locks = false → va_K D vwCl (tyA cy) s → nst s → va_P D vwCl ws s.heap → va_D A ws → va_S A s.heap s.heap [] → (∀ q, s.heap.size ≤ q → A q) → lv_has ls maxL (lv_args 0 av) → exF A s s.heap → ncF s →
      W p l e rm s m args below meth c s.heap [] 0 0 (MQ below (Qc A) args s mc ms A) (F0 m 0 ls [])) :
    Met l y (.code y cc maxL ret :: lw_all) rm (va_Pc av (sY D cy ws sz)) (Qc (va_A ws sz)) mc ms (va_A ws sz) := by
  refine Met_ofWF (cc := cc) (maxL := maxL) (ret := ret) hy rfl ?_
  intro p e s m args below meth c s₁ B hml hv
  obtain ⟨rfl, ⟨⟨hsz, hP, hK, hD, hN⟩, hX⟩, hC⟩ := hv
  subst hsz
  have hts := atoms_spec (ws := .code y cc maxL ret :: lw_all) B.pre
  have hown : s.vm.findClass y.cls = some m.cls := findClass_of_methodNamed B.named
  have hl := lv_entry av (n := maxL) hn
  rw [lg_entry_eq]
  exact body p e s m av.toArray below meth c _ _ ⟨B.exec, B.bytes, fun w hw => hts w (List.mem_cons_of_mem _ hw), hRc ▸ hown⟩ hml B.returns B.notSynchronized hK hN hP (hD.self (sz := s.heap.size)) va_S.rf (fun q h => Or.inr h) hl hX hC
set_option maxHeartbeats 1000000 in
theorem mk_lt {y : MethodName} {maxL : Nat} {ret : Option FieldType} {rm : Room} {av : List Value} {Qc : (Nat → Prop) → Array Value → State → Outcome → State → Prop} {Rc : String} {mc ms sz : Nat}
    (hy : plainFor y = true) (hRc : y.cls = Rc) (hn : (lg_sl av).length ≤ maxL)
    (body : ∀ (p : Program) (e : Env) (s : State) (m : MethodId) (args : Array Value) (below : List Frame) (meth : Method) (c : Code) (ls : Array Slot) (A : Nat → Prop), Cx p s m c args cc Rc → c.maxLocals = maxL → meth.sig.returnType = ret → meth.locks = false → va_K D vwCl (tyA cy) s → nst s → va_P D vwCl ws s.heap → va_D A ws → va_S A s.heap s.heap [] → (∀ q, s.heap.size ≤ q → A q) → lv_has ls maxL (lv_args 0 av) → exF A s s.heap → ncF s → tXF tK tV ta A s s.heap →
      W p l e rm s m args below meth c s.heap [] 0 0 (MQ below (Qc A) args s mc ms A) (F0 m 0 ls [])) :
    Met l y (.code y cc maxL ret :: lw_all) rm (va_Pc av (sT D cy tK tV ta ws sz)) (Qc (va_A ws sz)) mc ms (va_A ws sz) := by
  refine Met_ofWF (cc := cc) (maxL := maxL) (ret := ret) hy rfl ?_
  intro p e s m args below meth c s₁ B hml hv
  obtain ⟨rfl, ⟨⟨⟨hsz, hP, hK, hD, hN⟩, hX⟩, hC⟩, hT⟩ := hv
  subst hsz
  have hts := atoms_spec (ws := .code y cc maxL ret :: lw_all) B.pre
  have hown : s.vm.findClass y.cls = some m.cls := findClass_of_methodNamed B.named
  have hl := lv_entry av (n := maxL) hn
  rw [lg_entry_eq]
  exact body p e s m av.toArray below meth c _ _ ⟨B.exec, B.bytes, fun w hw => hts w (List.mem_cons_of_mem _ hw), hRc ▸ hown⟩ hml B.returns B.notSynchronized hK hN hP (hD.self (sz := s.heap.size)) va_S.rf (fun q h => Or.inr h) hl hX hC hT
theorem e_wr {x : Nat} {nm : String} (CX : Cx p s m c args cc own) (hr : meth.sig.returnType = some (.object nm)) (hk : meth.locks = false) (hP : va_P D vwCl ws H) (hD : va_D A ws) (hS : va_S A s.heap H locs) (hdg : decode cc pc = .ok (.areturn, 1)) : W p l e R s m args below meth c H locs cells slots (MQ below (qR D ws x A) args s cells slots A) (F0 m pc ls [.ref x]) :=
  W.aret CX.1 CX.2.1 hr (Or.inl ⟨nm, rfl⟩) (Or.inr ⟨x, rfl⟩) (fun t ht hW => ⟨⟨(), x, rfl, trivial, rfl, by rw [ht]; exact hP, hD⟩, hS.F ht⟩) hS.2.2 hdg hk
theorem crc_i {is : List Nat} {y : MethodName} {bytes : ByteArray} {maxL n nL idx mc ms : Nat} {ret : Option FieldType} {rm : Room} {As : List Value} {wc wr ws' wsn : va_W} {x : Int32} (CX : Cx p s m c args cc own) (hml : c.maxLocals = nL) (hM : Met l y (.code y bytes maxL ret :: lw_all) rm (va_Pc As (sY D cy wc H.size)) (qI D ws' x (va_A wc H.size)) mc ms (va_A wc H.size)) (hk : lkS own idx y bytes maxL ret n is = true) (hrc : rm.cells = mc) (hrs : rm.slots = ms) (hR : rm.frames + 1 ≤ R.frames ∧ 8 + (maxL + 11) + rm.locals ≤ R.locals) (hP : va_P D vwCl ws H) (hD : va_D A ws) (hS : va_S A s.heap H locs) (hA : ∀ q, s.heap.size ≤ q → A q) (hK : va_K D vwCl (tyA cy) s) (hN : nst s) (hX : exF A s s.heap) (hC : ncF s) (hp : ws.Perm (wc ++ wr)) (hp2 : (ws' ++ wr).Perm wsn) (hn : As.length = n) (hsz : ls.size = nL) (hst : st0 = As.reverse ++ rest) (hW : (rest.map fun v => v.category).sum ≤ 8) (hcs : cells + mc ≤ R.cells ∧ slots + ms ≤ R.slots) (hdg : decode cc pc = .ok (.invokestatic idx, 3)) (kk : ∀ (H1 : Heap) (locs1 : List Loc), va_P D vwCl wsn H1 → va_D A wsn → va_S A s.heap H1 locs1 → W p l e R s m args below meth c H1 locs1 (cells + mc) (slots + ms) Q (F0 m (pc + 3) ls (.int x :: rest))) : W p l e R s m args below meth c H locs cells slots Q (F0 m pc ls st0) := by
  have hP9 := vaP_perm hp hP
  have hD9 := vaD_perm hp hD
  have hFc := fc_of (vaD_l hD9) hS hA
  exact va_calli (va_runS (As := As) (rest := rest) ⟨CX.1, CX.2.1, hml, CX.2.2.2, CX.2.2.1⟩ hM (lkS_cw hk CX.2.2.1 hrc hrs hR) ⟨sY_blind _ _ _ _ _, sY_at (vaP_l hP9) (vaD_l hD9) hK hN hX hC hS hA⟩ rfl hn hsz hst (lv_room hW) hdg hcs) hS (fun q _ h => hFc q h) hFc (fun r u t H1 locs1 ht hvm hw hB hz1 hk1 hS1 => by
    rw [hw]
    obtain ⟨g1, g2⟩ := back_part hP9 hD9 hS hA hk1 (by rw [← ht]; exact hB.1) hB.2
    exact kk H1 locs1 (vaP_perm hp2 g1) (vaD_perm hp2 g2) hS1)
theorem crl_i {is : List Nat} {y : MethodName} {bytes : ByteArray} {maxL n nL idx mc ms : Nat} {ret : Option FieldType} {rm : Room} {As : List Value} {wc wr ws' wsn : va_W} {hh : List (Nat × Nat × Nat × Nat)} {x : Int32} (CX : Cx p s m c args cc own) (hml : c.maxLocals = nL) (hM : Met l y (.codeWith y bytes maxL ret hh :: lw_all) rm (va_Pc As (sY D cy wc H.size)) (qI D ws' x (va_A wc H.size)) mc ms (va_A wc H.size)) (hk : lkW own idx y bytes maxL ret hh n is = true) (hrc : rm.cells = mc) (hrs : rm.slots = ms) (hR : rm.frames + 1 ≤ R.frames ∧ 8 + (maxL + 11) + rm.locals ≤ R.locals) (hP : va_P D vwCl ws H) (hD : va_D A ws) (hS : va_S A s.heap H locs) (hA : ∀ q, s.heap.size ≤ q → A q) (hK : va_K D vwCl (tyA cy) s) (hN : nst s) (hX : exF A s s.heap) (hC : ncF s) (hp : ws.Perm (wc ++ wr)) (hp2 : (ws' ++ wr).Perm wsn) (hn : As.length = n) (hsz : ls.size = nL) (hst : st0 = As.reverse ++ rest) (hW : (rest.map fun v => v.category).sum ≤ 8) (hcs : cells + mc ≤ R.cells ∧ slots + ms ≤ R.slots) (hdg : decode cc pc = .ok (.invokestatic idx, 3)) (kk : ∀ (H1 : Heap) (locs1 : List Loc), va_P D vwCl wsn H1 → va_D A wsn → va_S A s.heap H1 locs1 → W p l e R s m args below meth c H1 locs1 (cells + mc) (slots + ms) Q (F0 m (pc + 3) ls (.int x :: rest))) : W p l e R s m args below meth c H locs cells slots Q (F0 m pc ls st0) := by
  have hP9 := vaP_perm hp hP
  have hD9 := vaD_perm hp hD
  have hFc := fc_of (vaD_l hD9) hS hA
  exact va_calli (vx_runSW (As := As) (rest := rest) ⟨CX.1, CX.2.1, hml, CX.2.2.2, CX.2.2.1⟩ hM (lkW_cw hk CX.2.2.1 hrc hrs hR) ⟨sY_blind _ _ _ _ _, sY_at (vaP_l hP9) (vaD_l hD9) hK hN hX hC hS hA⟩ rfl hn hsz hst (lv_room hW) hdg hcs) hS (fun q _ h => hFc q h) hFc (fun r u t H1 locs1 ht hvm hw hB hz1 hk1 hS1 => by
    rw [hw]
    obtain ⟨g1, g2⟩ := back_part hP9 hD9 hS hA hk1 (by rw [← ht]; exact hB.1) hB.2
    exact kk H1 locs1 (vaP_perm hp2 g1) (vaD_perm hp2 g2) hS1)
theorem crt_i {is : List Nat} {y : MethodName} {bytes : ByteArray} {maxL n nL idx mc ms : Nat} {ret : Option FieldType} {rm : Room} {As : List Value} {wc wr ws' wsn : va_W} {x : Int32} (CX : Cx p s m c args cc own) (hml : c.maxLocals = nL) (hM : Met l y (.code y bytes maxL ret :: lw_all) rm (va_Pc As (sT D cy tK tV ta wc H.size)) (qI D ws' x (va_A wc H.size)) mc ms (va_A wc H.size)) (hk : lkS own idx y bytes maxL ret n is = true) (hrc : rm.cells = mc) (hrs : rm.slots = ms) (hR : rm.frames + 1 ≤ R.frames ∧ 8 + (maxL + 11) + rm.locals ≤ R.locals) (hP : va_P D vwCl ws H) (hD : va_D A ws) (hS : va_S A s.heap H locs) (hA : ∀ q, s.heap.size ≤ q → A q) (hK : va_K D vwCl (tyA cy) s) (hN : nst s) (hX : exF A s s.heap) (hC : ncF s) (hT : tXF tK tV ta A s s.heap) (hp : ws.Perm (wc ++ wr)) (hp2 : (ws' ++ wr).Perm wsn) (hn : As.length = n) (hsz : ls.size = nL) (hst : st0 = As.reverse ++ rest) (hW : (rest.map fun v => v.category).sum ≤ 8) (hcs : cells + mc ≤ R.cells ∧ slots + ms ≤ R.slots) (hdg : decode cc pc = .ok (.invokestatic idx, 3)) (kk : ∀ (H1 : Heap) (locs1 : List Loc), va_P D vwCl wsn H1 → va_D A wsn → va_S A s.heap H1 locs1 → W p l e R s m args below meth c H1 locs1 (cells + mc) (slots + ms) Q (F0 m (pc + 3) ls (.int x :: rest))) : W p l e R s m args below meth c H locs cells slots Q (F0 m pc ls st0) := by
  have hP9 := vaP_perm hp hP
  have hD9 := vaD_perm hp hD
  have hFc := fc_of (vaD_l hD9) hS hA
  exact va_calli (va_runS (As := As) (rest := rest) ⟨CX.1, CX.2.1, hml, CX.2.2.2, CX.2.2.1⟩ hM (lkS_cw hk CX.2.2.1 hrc hrs hR) ⟨sT_blind _ _ _ _ _ _ _ _, sT_at (vaP_l hP9) (vaD_l hD9) hK hN hX hC hT hS hA⟩ rfl hn hsz hst (lv_room hW) hdg hcs) hS (fun q _ h => hFc q h) hFc (fun r u t H1 locs1 ht hvm hw hB hz1 hk1 hS1 => by
    rw [hw]
    obtain ⟨g1, g2⟩ := back_part hP9 hD9 hS hA hk1 (by rw [← ht]; exact hB.1) hB.2
    exact kk H1 locs1 (vaP_perm hp2 g1) (vaD_perm hp2 g2) hS1)
theorem crc_l {is : List Nat} {y : MethodName} {bytes : ByteArray} {maxL n nL idx mc ms : Nat} {ret : Option FieldType} {rm : Room} {As : List Value} {wc wr ws' wsn : va_W} {x : Int64} (CX : Cx p s m c args cc own) (hml : c.maxLocals = nL) (hM : Met l y (.code y bytes maxL ret :: lw_all) rm (va_Pc As (sY D cy wc H.size)) (qL D ws' x (va_A wc H.size)) mc ms (va_A wc H.size)) (hk : lkS own idx y bytes maxL ret n is = true) (hrc : rm.cells = mc) (hrs : rm.slots = ms) (hR : rm.frames + 1 ≤ R.frames ∧ 8 + (maxL + 11) + rm.locals ≤ R.locals) (hP : va_P D vwCl ws H) (hD : va_D A ws) (hS : va_S A s.heap H locs) (hA : ∀ q, s.heap.size ≤ q → A q) (hK : va_K D vwCl (tyA cy) s) (hN : nst s) (hX : exF A s s.heap) (hC : ncF s) (hp : ws.Perm (wc ++ wr)) (hp2 : (ws' ++ wr).Perm wsn) (hn : As.length = n) (hsz : ls.size = nL) (hst : st0 = As.reverse ++ rest) (hW : (rest.map fun v => v.category).sum ≤ 8) (hcs : cells + mc ≤ R.cells ∧ slots + ms ≤ R.slots) (hdg : decode cc pc = .ok (.invokestatic idx, 3)) (kk : ∀ (H1 : Heap) (locs1 : List Loc), va_P D vwCl wsn H1 → va_D A wsn → va_S A s.heap H1 locs1 → W p l e R s m args below meth c H1 locs1 (cells + mc) (slots + ms) Q (F0 m (pc + 3) ls (.long x :: rest))) : W p l e R s m args below meth c H locs cells slots Q (F0 m pc ls st0) := by
  have hP9 := vaP_perm hp hP
  have hD9 := vaD_perm hp hD
  have hFc := fc_of (vaD_l hD9) hS hA
  exact va_calll (va_runS (As := As) (rest := rest) ⟨CX.1, CX.2.1, hml, CX.2.2.2, CX.2.2.1⟩ hM (lkS_cw hk CX.2.2.1 hrc hrs hR) ⟨sY_blind _ _ _ _ _, sY_at (vaP_l hP9) (vaD_l hD9) hK hN hX hC hS hA⟩ rfl hn hsz hst (lv_room hW) hdg hcs) hS (fun q _ h => hFc q h) hFc (fun r u t H1 locs1 ht hvm hw hB hz1 hk1 hS1 => by
    rw [hw]
    obtain ⟨g1, g2⟩ := back_part hP9 hD9 hS hA hk1 (by rw [← ht]; exact hB.1) hB.2
    exact kk H1 locs1 (vaP_perm hp2 g1) (vaD_perm hp2 g2) hS1)
theorem crl_l {is : List Nat} {y : MethodName} {bytes : ByteArray} {maxL n nL idx mc ms : Nat} {ret : Option FieldType} {rm : Room} {As : List Value} {wc wr ws' wsn : va_W} {hh : List (Nat × Nat × Nat × Nat)} {x : Int64} (CX : Cx p s m c args cc own) (hml : c.maxLocals = nL) (hM : Met l y (.codeWith y bytes maxL ret hh :: lw_all) rm (va_Pc As (sY D cy wc H.size)) (qL D ws' x (va_A wc H.size)) mc ms (va_A wc H.size)) (hk : lkW own idx y bytes maxL ret hh n is = true) (hrc : rm.cells = mc) (hrs : rm.slots = ms) (hR : rm.frames + 1 ≤ R.frames ∧ 8 + (maxL + 11) + rm.locals ≤ R.locals) (hP : va_P D vwCl ws H) (hD : va_D A ws) (hS : va_S A s.heap H locs) (hA : ∀ q, s.heap.size ≤ q → A q) (hK : va_K D vwCl (tyA cy) s) (hN : nst s) (hX : exF A s s.heap) (hC : ncF s) (hp : ws.Perm (wc ++ wr)) (hp2 : (ws' ++ wr).Perm wsn) (hn : As.length = n) (hsz : ls.size = nL) (hst : st0 = As.reverse ++ rest) (hW : (rest.map fun v => v.category).sum ≤ 8) (hcs : cells + mc ≤ R.cells ∧ slots + ms ≤ R.slots) (hdg : decode cc pc = .ok (.invokestatic idx, 3)) (kk : ∀ (H1 : Heap) (locs1 : List Loc), va_P D vwCl wsn H1 → va_D A wsn → va_S A s.heap H1 locs1 → W p l e R s m args below meth c H1 locs1 (cells + mc) (slots + ms) Q (F0 m (pc + 3) ls (.long x :: rest))) : W p l e R s m args below meth c H locs cells slots Q (F0 m pc ls st0) := by
  have hP9 := vaP_perm hp hP
  have hD9 := vaD_perm hp hD
  have hFc := fc_of (vaD_l hD9) hS hA
  exact va_calll (vx_runSW (As := As) (rest := rest) ⟨CX.1, CX.2.1, hml, CX.2.2.2, CX.2.2.1⟩ hM (lkW_cw hk CX.2.2.1 hrc hrs hR) ⟨sY_blind _ _ _ _ _, sY_at (vaP_l hP9) (vaD_l hD9) hK hN hX hC hS hA⟩ rfl hn hsz hst (lv_room hW) hdg hcs) hS (fun q _ h => hFc q h) hFc (fun r u t H1 locs1 ht hvm hw hB hz1 hk1 hS1 => by
    rw [hw]
    obtain ⟨g1, g2⟩ := back_part hP9 hD9 hS hA hk1 (by rw [← ht]; exact hB.1) hB.2
    exact kk H1 locs1 (vaP_perm hp2 g1) (vaD_perm hp2 g2) hS1)
theorem crc_f {is : List Nat} {y : MethodName} {bytes : ByteArray} {maxL n nL idx mc ms : Nat} {ret : Option FieldType} {rm : Room} {As : List Value} {wc wr ws' wsn : va_W} {x : UInt32} (CX : Cx p s m c args cc own) (hml : c.maxLocals = nL) (hM : Met l y (.code y bytes maxL ret :: lw_all) rm (va_Pc As (sY D cy wc H.size)) (qF D ws' x (va_A wc H.size)) mc ms (va_A wc H.size)) (hk : lkS own idx y bytes maxL ret n is = true) (hrc : rm.cells = mc) (hrs : rm.slots = ms) (hR : rm.frames + 1 ≤ R.frames ∧ 8 + (maxL + 11) + rm.locals ≤ R.locals) (hP : va_P D vwCl ws H) (hD : va_D A ws) (hS : va_S A s.heap H locs) (hA : ∀ q, s.heap.size ≤ q → A q) (hK : va_K D vwCl (tyA cy) s) (hN : nst s) (hX : exF A s s.heap) (hC : ncF s) (hp : ws.Perm (wc ++ wr)) (hp2 : (ws' ++ wr).Perm wsn) (hn : As.length = n) (hsz : ls.size = nL) (hst : st0 = As.reverse ++ rest) (hW : (rest.map fun v => v.category).sum ≤ 8) (hcs : cells + mc ≤ R.cells ∧ slots + ms ≤ R.slots) (hdg : decode cc pc = .ok (.invokestatic idx, 3)) (kk : ∀ (H1 : Heap) (locs1 : List Loc), va_P D vwCl wsn H1 → va_D A wsn → va_S A s.heap H1 locs1 → W p l e R s m args below meth c H1 locs1 (cells + mc) (slots + ms) Q (F0 m (pc + 3) ls (.float x :: rest))) : W p l e R s m args below meth c H locs cells slots Q (F0 m pc ls st0) := by
  have hP9 := vaP_perm hp hP
  have hD9 := vaD_perm hp hD
  have hFc := fc_of (vaD_l hD9) hS hA
  exact va_callf (va_runS (As := As) (rest := rest) ⟨CX.1, CX.2.1, hml, CX.2.2.2, CX.2.2.1⟩ hM (lkS_cw hk CX.2.2.1 hrc hrs hR) ⟨sY_blind _ _ _ _ _, sY_at (vaP_l hP9) (vaD_l hD9) hK hN hX hC hS hA⟩ rfl hn hsz hst (lv_room hW) hdg hcs) hS (fun q _ h => hFc q h) hFc (fun r u t H1 locs1 ht hvm hw hB hz1 hk1 hS1 => by
    rw [hw]
    obtain ⟨g1, g2⟩ := back_part hP9 hD9 hS hA hk1 (by rw [← ht]; exact hB.1) hB.2
    exact kk H1 locs1 (vaP_perm hp2 g1) (vaD_perm hp2 g2) hS1)
theorem crt_r {is : List Nat} {y : MethodName} {bytes : ByteArray} {maxL n nL idx mc ms : Nat} {ret : Option FieldType} {rm : Room} {As : List Value} {wc wr ws' wsn : va_W} {x : Nat} (CX : Cx p s m c args cc own) (hml : c.maxLocals = nL) (hM : Met l y (.code y bytes maxL ret :: lw_all) rm (va_Pc As (sT D cy tK tV ta wc H.size)) (qR D ws' x (va_A wc H.size)) mc ms (va_A wc H.size)) (hk : lkS own idx y bytes maxL ret n is = true) (hrc : rm.cells = mc) (hrs : rm.slots = ms) (hR : rm.frames + 1 ≤ R.frames ∧ 8 + (maxL + 11) + rm.locals ≤ R.locals) (hP : va_P D vwCl ws H) (hD : va_D A ws) (hS : va_S A s.heap H locs) (hA : ∀ q, s.heap.size ≤ q → A q) (hK : va_K D vwCl (tyA cy) s) (hN : nst s) (hX : exF A s s.heap) (hC : ncF s) (hT : tXF tK tV ta A s s.heap) (hp : ws.Perm (wc ++ wr)) (hp2 : (ws' ++ wr).Perm wsn) (hn : As.length = n) (hsz : ls.size = nL) (hst : st0 = As.reverse ++ rest) (hW : (rest.map fun v => v.category).sum ≤ 8) (hcs : cells + mc ≤ R.cells ∧ slots + ms ≤ R.slots) (hdg : decode cc pc = .ok (.invokestatic idx, 3)) (kk : ∀ (H1 : Heap) (locs1 : List Loc), va_P D vwCl wsn H1 → va_D A wsn → va_S A s.heap H1 locs1 → W p l e R s m args below meth c H1 locs1 (cells + mc) (slots + ms) Q (F0 m (pc + 3) ls (.ref x :: rest))) : W p l e R s m args below meth c H locs cells slots Q (F0 m pc ls st0) := by
  have hP9 := vaP_perm hp hP
  have hD9 := vaD_perm hp hD
  have hFc := fc_of (vaD_l hD9) hS hA
  exact va_callr (va_runS (As := As) (rest := rest) ⟨CX.1, CX.2.1, hml, CX.2.2.2, CX.2.2.1⟩ hM (lkS_cw hk CX.2.2.1 hrc hrs hR) ⟨sT_blind _ _ _ _ _ _ _ _, sT_at (vaP_l hP9) (vaD_l hD9) hK hN hX hC hT hS hA⟩ rfl hn hsz hst (lv_room hW) hdg hcs) hS (fun q _ h => hFc q h) hFc (fun u a9 t H1 locs1 ht hvm hpo hB hz1 hk1 hS1 => by
    obtain ⟨hw, hB1, hB2⟩ := hB
    rw [hw]
    obtain ⟨g1, g2⟩ := back_part hP9 hD9 hS hA hk1 (by rw [← ht]; exact hB1) hB2
    exact kk H1 locs1 (vaP_perm hp2 g1) (vaD_perm hp2 g2) hS1)
theorem cst_i {is : List Nat} {y : MethodName} {bytes : ByteArray} {maxL n nL idx b : Nat} {ret : Option FieldType} {rm : Room} {As : List Value} {x : Int32} (CX : Cx p s m c args cc own) (hml : c.maxLocals = nL) (hM : Met l y (.code y bytes maxL ret :: lw_all) rm (va_Pc (.ref b :: As) (sS tK tV ta)) (vp_Si (fun r => r = x)) 0 0 (fun _ => False)) (hk : lkV own idx y bytes maxL ret n is = true) (hrc : rm.cells = 0) (hrs : rm.slots = 0) (hR : rm.frames + 1 ≤ R.frames ∧ 8 + (maxL + 11) + rm.locals ≤ R.locals) (hT : tXF tK tV ta A s s.heap) (hS : va_S A s.heap H locs) (hrec : ∃ cellB : Cell, H[b]? = some cellB ∧ cellB.vm.isStatics = false ∧ s.vm.findClass y.cls = some cellB.cls) (hn : As.length = n) (hsz : ls.size = nL) (hst : st0 = As.reverse ++ .ref b :: rest) (hW : (rest.map fun v => v.category).sum ≤ 8) (hcs : cells ≤ R.cells ∧ slots ≤ R.slots) (hdg : decode cc pc = .ok (.invokevirtual idx, 3)) (kk : W p l e R s m args below meth c H locs cells slots Q (F0 m (pc + 3) ls (.int x :: rest))) : W p l e R s m args below meth c H locs cells slots Q (F0 m pc ls st0) :=
  vp_callSi (W.runV (As := As) (rest := rest) ⟨CX.1, CX.2.1, hml, CX.2.2.2, CX.2.2.1⟩ hM (lkV_cw hk CX.2.2.1 hrc hrs hR) ⟨sS_blind _ _ _ _, hrec, sS_at hT hS⟩ rfl hn hsz hst (lv_room hW) hdg hcs) (fun r hr => by rw [hr]; exact kk)
theorem css_i {is : List Nat} {y : MethodName} {bytes : ByteArray} {maxL n nL idx b : Nat} {ret : Option FieldType} {rm : Room} {As : List Value} {x : Int32} (CX : Cx p s m c args cc own) (hml : c.maxLocals = nL) (hM : Met l y (.code y bytes maxL ret :: lw_all) rm (va_Pc As (sS tK tV ta)) (vp_Si (fun r => r = x)) 0 0 (fun _ => False)) (hk : lkS own idx y bytes maxL ret n is = true) (hrc : rm.cells = 0) (hrs : rm.slots = 0) (hR : rm.frames + 1 ≤ R.frames ∧ 8 + (maxL + 11) + rm.locals ≤ R.locals) (hT : tXF tK tV ta A s s.heap) (hS : va_S A s.heap H locs) (hn : As.length = n) (hsz : ls.size = nL) (hst : st0 = As.reverse ++ rest) (hW : (rest.map fun v => v.category).sum ≤ 8) (hcs : cells ≤ R.cells ∧ slots ≤ R.slots) (hdg : decode cc pc = .ok (.invokestatic idx, 3)) (kk : W p l e R s m args below meth c H locs cells slots Q (F0 m (pc + 3) ls (.int x :: rest))) : W p l e R s m args below meth c H locs cells slots Q (F0 m pc ls st0) :=
  vp_callSi (W.runS (As := As) (rest := rest) ⟨CX.1, CX.2.1, hml, CX.2.2.2, CX.2.2.1⟩ hM (lkS_cw hk CX.2.2.1 hrc hrs hR) ⟨sS_blind _ _ _ _, sS_at hT hS⟩ rfl hn hsz hst (lv_room hW) hdg hcs) (fun r hr => by rw [hr]; exact kk)
end LWB
