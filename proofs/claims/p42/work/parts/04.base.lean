/-! base: pure programs with a part that fails, and the walk's own rows over one list of words -/
def ob {α β : Type} (x : Option α) (k : α → Option β) : Option β := match x with
  | none => none
  | some a => k a
theorem ob_some {α β : Type} {x : Option α} {k : α → Option β} {y : β} (h : ob x k = some y) : ∃ a, x = some a ∧ k a = some y := by
  cases x with
  | none => cases h
  | some a => exact ⟨a, rfl, h⟩
def og {β : Type} (c : Bool) (k : Option β) : Option β := match c with
  | true => k
  | false => none
theorem og_some {β : Type} {c : Bool} {k : Option β} {y : β} (h : og c k = some y) : c = true ∧ k = some y := by
  cases c with
  | false => cases h
  | true => exact ⟨rfl, h⟩
theorem it_t {c : Prop} [Decidable c] {α : Type} {a b : Option α} {r : α} (hc : c) (h : (if c then a else b) = some r) : a = some r := (if_pos hc).symm.trans h
theorem it_f {c : Prop} [Decidable c] {α : Type} {a b : Option α} {r : α} (hc : ¬ c) (h : (if c then a else b) = some r) : b = some r := (if_neg hc).symm.trans h
def inb (i : Int32) (n : Nat) : Bool := decide (¬ (i < 0 ∨ n ≤ i.toNatClampNeg))
theorem inb_in {i : Int32} {n : Nat} (h : inb i n = true) : vp_in i n := by unfold vp_in; exact of_decide_eq_true h
def n32 (r : UInt32) : Bool := decide (r &&& 0x7fffffff ≤ 0x7f800000)
theorem n32_in {r : UInt32} (h : n32 r = true) : vf_n32 r := by unfold vf_n32; exact of_decide_eq_true h
def n64 (r : UInt64) : Bool := decide (r &&& 0x7fffffffffffffff ≤ 0x7ff0000000000000)
theorem n64_in {r : UInt64} (h : n64 r = true) : vf_n64 r := by unfold vf_n64; exact of_decide_eq_true h
def nz (y : Int32) : Bool := decide (¬ y = 0)
theorem nz_in {y : Int32} (h : nz y = true) : ¬ y = 0 := of_decide_eq_true h
/-- an int that is a boolean's, a char's -/
def isZ (v : Int32) : Bool := decide (narrow .boolean (.int v) = .int v) && fits .boolean (.int v)
def isC (v : Int32) : Bool := decide (narrow .char (.int v) = .int v) && fits .char (.int v)
theorem isZ_n {v : Int32} (h : isZ v = true) : narrow .boolean (.int v) = .int v := of_decide_eq_true (Bool.and_eq_true _ _ ▸ h).1
theorem isZ_f {v : Int32} (h : isZ v = true) : fits .boolean (.int v) = true := (Bool.and_eq_true _ _ ▸ h).2
theorem isC_n {v : Int32} (h : isC v = true) : narrow .char (.int v) = .int v := of_decide_eq_true (Bool.and_eq_true _ _ ▸ h).1
theorem isC_f {v : Int32} (h : isC v = true) : fits .char (.int v) = true := (Bool.and_eq_true _ _ ▸ h).2
/-- the array classes -/
def tyA (cy : Nat → ClassId) : List (ClassId × FieldType) := [(cy 0, .int), (cy 1, .float), (cy 2, .char), (cy 3, .object "BuskPitches$State")]
def nst (U : State) : Prop := va_Nw (.methodLinkNest RX3 84 yX4_isPitch RX4) U
theorem nst_warm {s U : State} (hW : s.WarmedH U.vm) (h : nst s) : nst U := va_Nw.warmM hW h
theorem nst_same {u U : State} (hv : u.vm = U.vm) (h : nst u) : nst U := va_Nw.same rfl hv h
/-- what a walk has at hand -/
def Cx (p : Program) (s : State) (m : MethodId) (c : Code) (args : Array Value) (cc : ByteArray) (R : String) : Prop := p.tables.exec = Jvm.exec ∧ c.code = cc ∧ (∀ w ∈ lw_all, w.before args s = true) ∧ s.vm.findClass R = some m.cls
/-- a method's start: one that reads alone, one that writes -/
def sR (D : va_G) (cy : Nat → ClassId) (ws : va_W) : State → Prop := fun U => va_P D vwCl ws U.heap ∧ va_K D vwCl (tyA cy) U ∧ nst U
def sW (D : va_G) (cy : Nat → ClassId) (ws : va_W) (sz : Nat) : State → Prop := fun U => U.heap.size = sz ∧ va_P D vwCl ws U.heap ∧ va_K D vwCl (tyA cy) U ∧ va_D (fun _ => True) ws ∧ nst U
def qI (D : va_G) (ws : va_W) (x : Int32) (A : Nat → Prop) : Array Value → State → Outcome → State → Prop := va_Qi (S := Unit) (fun r _ => r = x) (fun _ t => va_P D vwCl ws t.heap ∧ va_D A ws) A
def qL (D : va_G) (ws : va_W) (x : Int64) (A : Nat → Prop) : Array Value → State → Outcome → State → Prop := va_Ql (S := Unit) (fun r _ => r = x) (fun _ t => va_P D vwCl ws t.heap ∧ va_D A ws) A
def qF (D : va_G) (ws : va_W) (x : UInt32) (A : Nat → Prop) : Array Value → State → Outcome → State → Prop := va_Qf (S := Unit) (fun r _ => r = x) (fun _ t => va_P D vwCl ws t.heap ∧ va_D A ws) A
def qV (D : va_G) (ws : va_W) (A : Nat → Prop) : Array Value → State → Outcome → State → Prop := va_Qv (S := Unit) (fun _ => True) (fun _ t => va_P D vwCl ws t.heap ∧ va_D A ws) A
/-- a contract from the body's walk, the method plain (its class may be one of those with entries) -/
theorem Met_ofWF {l : Launch} {y : MethodName} {ws ws' : List Cond} {rm : Room} {Pc : Array Value → State → Prop} {Qc : Array Value → State → Outcome → State → Prop} {mc ms : Nat} {free : Addr → Prop} {cc : ByteArray} {maxL : Nat} {ret : Option FieldType}
    (hy : plainFor y = true) (hw : ws = Cond.code y cc maxL ret :: ws')
    (body : ∀ p e s m args below meth c s₁, BodyLoose p l y (headSpec ws rm) cc maxL ret e s m args below meth c s₁ → c.maxLocals = maxL → Pc args s →
      W p l e (headSpec ws rm).room s m args below meth c s.heap [] 0 0 (MQ below Qc args s mc ms free) (entryFrame m args maxL)) : Met l y ws rm Pc Qc mc ms free := by
  refine MetFree.of_bodySF (code := cc) (maxLocals := maxL) (ret := ret) hy ?_ ?_
  · intro args s m h hn
    obtain ⟨meth, c, h1, h2, h3, h4, h5, h6, -, -⟩ := Cond.code_spec hn (atoms_spec (ws := ws) h _ (by rw [hw]; exact List.mem_cons_self))
    exact ⟨meth, c, h1, h2, h3, h4, h5, h6⟩
  · intro p e s m args below meth c s₁ B hml hP _
    have hh0 : s₁.heap = s.heap := by rw [B.state]; rfl
    obtain ⟨t, a1, o, b1, b2, b3⟩ := body p e s m args below meth c s₁ B hml hP s₁ hh0 (Stand.of_body B)
    exact ⟨t, o, a1, b1, b2, ⟨b3.1, b3.2⟩⟩
set_option maxHeartbeats 1000000 in
theorem mk_ro {l : Launch} {y : MethodName} {cc : ByteArray} {maxL : Nat} {ret : Option FieldType} {rm : Room} {av : List Value} {D : va_G} {cy : Nat → ClassId} {ws : va_W} {Qc : Array Value → State → Outcome → State → Prop} {Rc : String}
    (hy : plainFor y = true) (hRc : y.cls = Rc) (hn : (lg_sl av).length ≤ maxL)
    (body : ∀ (p : Program) (e : Env) (s : State) (m : MethodId) (args : Array Value) (below : List Frame) (meth : Method) (c : Code) (ls : Array Slot), Cx p s m c args cc Rc → c.maxLocals = maxL → meth.sig.returnType = ret → meth.locks = false → va_K D vwCl (tyA cy) s → nst s → va_P D vwCl ws s.heap → lv_has ls maxL (lv_args 0 av) →
      W p l e rm s m args below meth c s.heap [] 0 0 (MQ below Qc args s 0 0 (fun _ => False)) (F0 m 0 ls [])) :
    Met l y (.code y cc maxL ret :: lw_all) rm (va_Pc av (sR D cy ws)) Qc 0 0 (fun _ => False) := by
  refine Met_ofWF (cc := cc) (maxL := maxL) (ret := ret) hy rfl ?_
  intro p e s m args below meth c s₁ B hml hv
  obtain ⟨rfl, hP, hK, hN⟩ := hv
  have hts := atoms_spec (ws := .code y cc maxL ret :: lw_all) B.pre
  have hown : s.vm.findClass y.cls = some m.cls := findClass_of_methodNamed B.named
  have hl := lv_entry av (n := maxL) hn
  rw [lg_entry_eq]
  exact body p e s m av.toArray below meth c _ ⟨B.exec, B.bytes, fun w hw => hts w (List.mem_cons_of_mem _ hw), hRc ▸ hown⟩ hml B.returns B.notSynchronized hK hN hP hl
set_option maxHeartbeats 1000000 in
theorem mk_rw {l : Launch} {y : MethodName} {cc : ByteArray} {maxL : Nat} {ret : Option FieldType} {rm : Room} {av : List Value} {D : va_G} {cy : Nat → ClassId} {ws : va_W} {Qc : (Nat → Prop) → Array Value → State → Outcome → State → Prop} {Rc : String} {mc ms sz : Nat}
    (hy : plainFor y = true) (hRc : y.cls = Rc) (hn : (lg_sl av).length ≤ maxL)
    (body : ∀ (p : Program) (e : Env) (s : State) (m : MethodId) (args : Array Value) (below : List Frame) (meth : Method) (c : Code) (ls : Array Slot) (A : Nat → Prop), Cx p s m c args cc Rc → c.maxLocals = maxL → meth.sig.returnType = ret → meth.locks = false → va_K D vwCl (tyA cy) s → nst s → va_P D vwCl ws s.heap → va_D A ws → va_S A s.heap s.heap [] → (∀ q, s.heap.size ≤ q → A q) → lv_has ls maxL (lv_args 0 av) →
      W p l e rm s m args below meth c s.heap [] 0 0 (MQ below (Qc A) args s mc ms A) (F0 m 0 ls [])) :
    Met l y (.code y cc maxL ret :: lw_all) rm (va_Pc av (sW D cy ws sz)) (Qc (va_A ws sz)) mc ms (va_A ws sz) := by
  refine Met_ofWF (cc := cc) (maxL := maxL) (ret := ret) hy rfl ?_
  intro p e s m args below meth c s₁ B hml hv
  obtain ⟨rfl, hsz, hP, hK, hD, hN⟩ := hv
  subst hsz
  have hts := atoms_spec (ws := .code y cc maxL ret :: lw_all) B.pre
  have hown : s.vm.findClass y.cls = some m.cls := findClass_of_methodNamed B.named
  have hl := lv_entry av (n := maxL) hn
  rw [lg_entry_eq]
  exact body p e s m av.toArray below meth c _ _ ⟨B.exec, B.bytes, fun w hw => hts w (List.mem_cons_of_mem _ hw), hRc ▸ hown⟩ hml B.returns B.notSynchronized hK hN hP (hD.self (sz := s.heap.size)) va_S.rf (fun q h => Or.inr h) hl
section BASE
variable {p : Program} {l : Launch} {e : Env} {R : Room} {s : State} {m : MethodId} {args : Array Value} {below : List Frame} {meth : Method} {c : Code} {H : Heap} {locs : List Loc} {cells slots : Nat} {Q : State → Prop}
variable {cc : ByteArray} {pc : Nat} {ls : Array Slot} {rest : List Value} {D : va_G} {A : Nat → Prop} {a : Nat} {ws : va_W} {H0 : Heap} {cy : Nat → ClassId} {own : String}
theorem e_ri {v x : Int32} (CX : Cx p s m c args cc own) (hr : meth.sig.returnType = some .int) (hk : meth.locks = false) (h : v = x) (hdg : decode cc pc = .ok (.ireturn, 1)) : W p l e R s m args below meth c s.heap [] 0 0 (MQ below (vp_Si (fun r => r = x)) args s 0 0 (fun _ => False)) (F0 m pc ls [.int v]) :=
  W.iret CX.1 CX.2.1 hr (fun t ht hW => ⟨v, rfl, h, ht⟩) (fun _ h => by cases h) hdg hk
theorem e_rz {v x : Int32} {ty : FieldType} (CX : Cx p s m c args cc own) (hr : meth.sig.returnType = some ty) (hk : meth.locks = false) (hn : narrow ty (.int v) = .int v) (h : v = x) (hdg : decode cc pc = .ok (.ireturn, 1)) : W p l e R s m args below meth c s.heap [] 0 0 (MQ below (vp_Si (fun r => r = x)) args s 0 0 (fun _ => False)) (F0 m pc ls [.int v]) :=
  W.zret CX.1 CX.2.1 hr hn (fun t ht hW => ⟨v, rfl, h, ht⟩) (fun _ h => by cases h) hdg hk
theorem e_rf {v x : UInt32} (CX : Cx p s m c args cc own) (hr : meth.sig.returnType = some .float) (hk : meth.locks = false) (h : v = x) (hdg : decode cc pc = .ok (.freturn, 1)) : W p l e R s m args below meth c s.heap [] 0 0 (MQ below (vp_Sf (fun r => r = x)) args s 0 0 (fun _ => False)) (F0 m pc ls [.float v]) :=
  W.fret CX.1 CX.2.1 hr (fun t ht hW => ⟨v, rfl, h, ht⟩) (fun _ h => by cases h) hdg hk
theorem e_rl {v x : Int64} (CX : Cx p s m c args cc own) (hr : meth.sig.returnType = some .long) (hk : meth.locks = false) (h : v = x) (hdg : decode cc pc = .ok (.lreturn, 1)) : W p l e R s m args below meth c s.heap [] 0 0 (MQ below (vp_Sl (fun r => r = x)) args s 0 0 (fun _ => False)) (F0 m pc ls [.long v]) :=
  W.lret CX.1 CX.2.1 hr (fun t ht hW => ⟨v, rfl, h, ht⟩) (fun _ h => by cases h) hdg hk
theorem e_wi {v x : Int32} (CX : Cx p s m c args cc own) (hr : meth.sig.returnType = some .int) (hk : meth.locks = false) (h : v = x) (hP : va_P D vwCl ws H) (hD : va_D A ws) (hS : va_S A s.heap H locs) (hdg : decode cc pc = .ok (.ireturn, 1)) : W p l e R s m args below meth c H locs cells slots (MQ below (qI D ws x A) args s cells slots A) (F0 m pc ls [.int v]) :=
  W.iret CX.1 CX.2.1 hr (fun t ht hW => ⟨⟨v, (), rfl, h, by rw [ht]; exact hP, hD⟩, hS.F ht⟩) hS.2.2 hdg hk
theorem e_wz {v x : Int32} {ty : FieldType} (CX : Cx p s m c args cc own) (hr : meth.sig.returnType = some ty) (hk : meth.locks = false) (hn : narrow ty (.int v) = .int v) (h : v = x) (hP : va_P D vwCl ws H) (hD : va_D A ws) (hS : va_S A s.heap H locs) (hdg : decode cc pc = .ok (.ireturn, 1)) : W p l e R s m args below meth c H locs cells slots (MQ below (qI D ws x A) args s cells slots A) (F0 m pc ls [.int v]) :=
  W.zret CX.1 CX.2.1 hr hn (fun t ht hW => ⟨⟨v, (), rfl, h, by rw [ht]; exact hP, hD⟩, hS.F ht⟩) hS.2.2 hdg hk
theorem e_wf {v x : UInt32} (CX : Cx p s m c args cc own) (hr : meth.sig.returnType = some .float) (hk : meth.locks = false) (h : v = x) (hP : va_P D vwCl ws H) (hD : va_D A ws) (hS : va_S A s.heap H locs) (hdg : decode cc pc = .ok (.freturn, 1)) : W p l e R s m args below meth c H locs cells slots (MQ below (qF D ws x A) args s cells slots A) (F0 m pc ls [.float v]) :=
  W.fret CX.1 CX.2.1 hr (fun t ht hW => ⟨⟨v, (), rfl, h, by rw [ht]; exact hP, hD⟩, hS.F ht⟩) hS.2.2 hdg hk
theorem e_wl {v x : Int64} (CX : Cx p s m c args cc own) (hr : meth.sig.returnType = some .long) (hk : meth.locks = false) (h : v = x) (hP : va_P D vwCl ws H) (hD : va_D A ws) (hS : va_S A s.heap H locs) (hdg : decode cc pc = .ok (.lreturn, 1)) : W p l e R s m args below meth c H locs cells slots (MQ below (qL D ws x A) args s cells slots A) (F0 m pc ls [.long v]) :=
  W.lret CX.1 CX.2.1 hr (fun t ht hW => ⟨⟨v, (), rfl, h, by rw [ht]; exact hP, hD⟩, hS.F ht⟩) hS.2.2 hdg hk
theorem e_wv (CX : Cx p s m c args cc own) (hr : meth.sig.returnType = none) (hk : meth.locks = false) (hP : va_P D vwCl ws H) (hD : va_D A ws) (hS : va_S A s.heap H locs) (hdg : decode cc pc = .ok (.return_, 1)) : W p l e R s m args below meth c H locs cells slots (MQ below (qV D ws A) args s cells slots A) (F0 m pc ls []) :=
  W.vret CX.1 CX.2.1 hr (fun t ht hW => ⟨⟨(), rfl, trivial, by rw [ht]; exact hP, hD⟩, hS.F ht⟩) hS.2.2 hdg hk
/-! calls -/
theorem sR_blind (av : List Value) (D : va_G) (cy : Nat → ClassId) (ws : va_W) : FrameBlind (va_Pc av (sR D cy ws)) := fun a U g mk q => ⟨q.1, q.2.1, va_K.moved (u := U) (U := U.calling g mk a) (Vm.Alike.refl U.vm) q.2.2.1, nst_same (u := U) (U := U.calling g mk a) rfl q.2.2.2⟩
theorem sW_blind (av : List Value) (D : va_G) (cy : Nat → ClassId) (ws : va_W) (sz : Nat) : FrameBlind (va_Pc av (sW D cy ws sz)) := fun a U g mk q => ⟨q.1, q.2.1, q.2.2.1, va_K.moved (u := U) (U := U.calling g mk a) (Vm.Alike.refl U.vm) q.2.2.2.1, q.2.2.2.2.1, nst_same (u := U) (U := U.calling g mk a) rfl q.2.2.2.2.2⟩
theorem sR_at {av : List Value} (hP : va_P D vwCl ws H) (hK : va_K D vwCl (tyA cy) s) (hN : nst s) : ∀ U : State, U.heap = H → s.WarmedH U.vm → va_Pc av (sR D cy ws) av.toArray U := fun U hU hW => ⟨rfl, by rw [hU]; exact hP, va_K.moved hW.alike hK, nst_warm hW hN⟩
theorem sW_at {av : List Value} (hP : va_P D vwCl ws H) (hD : va_D A ws) (hK : va_K D vwCl (tyA cy) s) (hN : nst s) : ∀ U : State, U.heap = H → s.WarmedH U.vm → va_Pc av (sW D cy ws H.size) av.toArray U := fun U hU hW => ⟨rfl, by rw [hU], by rw [hU]; exact hP, va_K.moved hW.alike hK, hD.weaken (fun _ _ _ _ => trivial), nst_warm hW hN⟩
def wV (own : String) (idx : Nat) (y : MethodName) (bytes : ByteArray) (maxL : Nat) (ret : Option FieldType) : List Cond := [.methodLink own idx y, .instanceMethod y, .selects y.cls y y, .initialized y.cls, .code y bytes maxL ret]
def wS_ (own : String) (idx : Nat) (y : MethodName) (bytes : ByteArray) (maxL : Nat) (ret : Option FieldType) : List Cond := [.methodLink own idx y, .static y, .initialized y.cls, .code y bytes maxL ret]
def lkV (own : String) (idx : Nat) (y : MethodName) (bytes : ByteArray) (maxL : Nat) (ret : Option FieldType) (n : Nat) (is : List Nat) : Bool := chk (wV own idx y bytes maxL ret) is && (decide (y.cls ≠ "java/lang/invoke/MethodHandle") && (decide (y.cls ≠ "java/lang/invoke/VarHandle") && decide ((parseMethodDescriptor y.desc).map (fun d => d.parameters.length) = some n)))
def lkS (own : String) (idx : Nat) (y : MethodName) (bytes : ByteArray) (maxL : Nat) (ret : Option FieldType) (n : Nat) (is : List Nat) : Bool := chk (wS_ own idx y bytes maxL ret) is && (decide (y.cls ≠ "java/lang/invoke/MethodHandle") && (decide (y.cls ≠ "java/lang/invoke/VarHandle") && decide ((parseMethodDescriptor y.desc).map (fun d => d.parameters.length) = some n)))
theorem lkV_cw {is : List Nat} {idx maxL mc ms n : Nat} {y : MethodName} {bytes : ByteArray} {ret : Option FieldType} {rm : Room} (hk : lkV own idx y bytes maxL ret n is = true) (ht : ∀ w ∈ lw_all, w.before args s = true) (hrc : rm.cells = mc) (hrs : rm.slots = ms) (hR : rm.frames + 1 ≤ R.frames ∧ 8 + (maxL + 11) + rm.locals ≤ R.locals) : CallW R s args own y.cls idx y bytes maxL ret (.code y bytes maxL ret :: lw_all) rm mc ms n := by
  simp only [lkV, Bool.and_eq_true, decide_eq_true_eq] at hk
  have hin := lw_ats (ws := wV own idx y bytes maxL ret) is hk.1
  have hG := lw_gi (wV own idx y bytes maxL ret) hin
  have hG2 : GoodIn lw_all (.code y bytes maxL ret :: lw_all) := lw_gi [.code y bytes maxL ret] (fun w hw => hin w (by rw [List.mem_singleton.mp hw]; simp [wV]))
  have ok : ∀ w ∈ wV own idx y bytes maxL ret, w.before args s = true := fun w h => ht w (hG w (List.mem_append_left _ h)).1
  exact ⟨callB_of n ht hG2 rfl hrc hrs (ok _ (by simp [wV])) (ok _ (by simp [wV])) hk.2 hR, ok _ (by simp [wV]), ok _ (by simp [wV])⟩
theorem lkS_cw {is : List Nat} {idx maxL mc ms n : Nat} {y : MethodName} {bytes : ByteArray} {ret : Option FieldType} {rm : Room} (hk : lkS own idx y bytes maxL ret n is = true) (ht : ∀ w ∈ lw_all, w.before args s = true) (hrc : rm.cells = mc) (hrs : rm.slots = ms) (hR : rm.frames + 1 ≤ R.frames ∧ 8 + (maxL + 11) + rm.locals ≤ R.locals) : CallB R s args own idx y bytes maxL ret (.code y bytes maxL ret :: lw_all) rm mc ms n ∧ (Cond.static y).before args s = true := by
  simp only [lkS, Bool.and_eq_true, decide_eq_true_eq] at hk
  have hin := lw_ats (ws := wS_ own idx y bytes maxL ret) is hk.1
  have hG := lw_gi (wS_ own idx y bytes maxL ret) hin
  have hG2 : GoodIn lw_all (.code y bytes maxL ret :: lw_all) := lw_gi [.code y bytes maxL ret] (fun w hw => hin w (by rw [List.mem_singleton.mp hw]; simp [wS_]))
  have ok : ∀ w ∈ wS_ own idx y bytes maxL ret, w.before args s = true := fun w h => ht w (hG w (List.mem_append_left _ h)).1
  exact ⟨callB_of n ht hG2 rfl hrc hrs (ok _ (by simp [wS_])) (ok _ (by simp [wS_])) hk.2 hR, ok _ (by simp [wS_])⟩
end BASE
