/-! by program: Bits, Float, Double -/
def f_X0_ofFloat_c36   : Nat → Int32 → UInt32 → Option (Int32)
  | 0, _, _ => none
  | n + 1, x1, x2 => if 0 ≤ (Op.cmpValue (FP.fcmp x2 FP.fconst1) .g) then (og (n32 (FP.fmul x2 1258291200)) (some (((x1 - 1) <<< (23 &&& 31)) + (FP.f2i (FP.fmul x2 1258291200))))) else (if x1 ≤ 1 then (og (n32 (FP.fmul x2 1258291200)) (some (((x1 - 1) <<< (23 &&& 31)) + (FP.f2i (FP.fmul x2 1258291200))))) else (og (n32 (FP.fmul x2 FP.fconst2)) (f_X0_ofFloat_c36  n (x1 + (-1)) (FP.fmul x2 FP.fconst2))))
def f_X0_ofFloat_c13   : Nat → Int32 → UInt32 → Option (Int32)
  | 0, _, _ => none
  | n + 1, x1, x2 => if (Op.cmpValue (FP.fcmp x2 FP.fconst2) .l) < 0 then (f_X0_ofFloat_c36  4096 x1 x2) else (if 254 ≤ x1 then (f_X0_ofFloat_c36  4096 x1 x2) else (og (n32 (FP.fdiv x2 FP.fconst2)) (f_X0_ofFloat_c13  n (x1 + 1) (FP.fdiv x2 FP.fconst2))))
def f_X0_ofFloat (a1 : UInt32) : Option (Int32) := if (Op.cmpValue (FP.fcmp a1 FP.fconst0) .l) = 0 then (some 0) else (f_X0_ofFloat_c13  4096 127 a1)
set_option maxHeartbeats 4000000 in
set_option maxRecDepth 100000 in
theorem c_X0_ofFloat (l : Launch) (D : va_G) (cy : Nat → ClassId) (a1 : UInt32) {res : Int32} (hf : f_X0_ofFloat a1 = some res) : Met l yX0_ofFloat (.code yX0_ofFloat cX0_ofFloat 3 (some .int) :: lw_all) { frames := 1, cells := 0, slots := 0, locals := 12 } (va_Pc [.float a1] (sR D cy [])) (vp_Si (fun r => r = res)) 0 0 (fun _ => False) := by
  refine mk_ro (Rc := RX0) (by decide +kernel) rfl (Nat.le_of_ble_eq_true rfl) ?_
  intro p e s m args below meth c ls CX hml hr hlk hK hN hP hl
  have hx := CX.1
  have hb := CX.2.1
  have hl0 := hl
  have K36 : ∀ (n : Nat), ∀ (x1 : Int32) (x2 : UInt32) (ls : Array Slot) (hl : lv_has ls 3 [(1, .int x1), (2, .float x2)]) (hf : f_X0_ofFloat_c36 n x1 x2 = some res), W p l e ⟨1, 0, 0, 12⟩ s m args below meth c s.heap [] 0 0 (MQ below (vp_Si (fun r => r = res)) args s 0 0 (fun _ => False)) (F0 m 36 ls []) := by
    intro n
    induction n with
    | zero => intro x1 x2 ls hl hf; cases (show none = some res from hf)
    | succ n ih =>
    intro x1 x2 ls hl hf
    refine lv_fload_n hx hb (dg ddX0_ofFloat 23 rfl) rfl (lv_at hl 1 rfl) ?_
    refine lv_fconst1 hx hb (dg ddX0_ofFloat 24 rfl) ?_
    refine lv_fcmp hx hb (dg ddX0_ofFloat 25 rfl) ?_
    refine lv_if_ge (tgt := 57) hx hb (dg ddX0_ofFloat 26 rfl) (by decide) (fun h1 => ?_) (fun h1 => ?_)
    · have hf := it_t h1 hf
      refine lv_iload_n hx hb (dg ddX0_ofFloat 36 rfl) rfl (lv_at hl 0 rfl) ?_
      refine lv_iconst (v := 1) hx hb (dg ddX0_ofFloat 37 rfl) (by decide) ?_
      refine lv_isub hx hb (dg ddX0_ofFloat 38 rfl) ?_
      refine lv_bipush (v := 23) hx hb (dg ddX0_ofFloat 39 rfl) (by decide) ?_
      refine lv_ishl hx hb (dg ddX0_ofFloat 40 rfl) ?_
      refine lv_fload_n hx hb (dg ddX0_ofFloat 41 rfl) rfl (lv_at hl 1 rfl) ?_
      refine lv_ldcf hx hb CX.2.2.2 (CX.2.2.1 (.constantFloat RX0 7 (1258291200)) (lw_at 492 (by decide +kernel))) (dg ddX0_ofFloat 42 rfl) ?_
      obtain ⟨h2, hf⟩ := og_some hf
      refine lv_fmul hx hb (dg ddX0_ofFloat 43 rfl) (n32_in h2) ?_
      refine lv_f2i hx hb (dg ddX0_ofFloat 44 rfl) ?_
      refine lv_iadd hx hb (dg ddX0_ofFloat 45 rfl) ?_
      exact e_ri CX hr hlk (Option.some.inj hf) (dg ddX0_ofFloat 46 rfl)
    · have hf := it_f h1 hf
      refine lv_iload_n hx hb (dg ddX0_ofFloat 27 rfl) rfl (lv_at hl 0 rfl) ?_
      refine lv_iconst (v := 1) hx hb (dg ddX0_ofFloat 28 rfl) (by decide) ?_
      refine lv_icmp_le (tgt := 57) hx hb (dg ddX0_ofFloat 29 rfl) (by decide) (fun h3 => ?_) (fun h3 => ?_)
      · have hf := it_t h3 hf
        refine lv_iload_n hx hb (dg ddX0_ofFloat 36 rfl) rfl (lv_at hl 0 rfl) ?_
        refine lv_iconst (v := 1) hx hb (dg ddX0_ofFloat 37 rfl) (by decide) ?_
        refine lv_isub hx hb (dg ddX0_ofFloat 38 rfl) ?_
        refine lv_bipush (v := 23) hx hb (dg ddX0_ofFloat 39 rfl) (by decide) ?_
        refine lv_ishl hx hb (dg ddX0_ofFloat 40 rfl) ?_
        refine lv_fload_n hx hb (dg ddX0_ofFloat 41 rfl) rfl (lv_at hl 1 rfl) ?_
        refine lv_ldcf hx hb CX.2.2.2 (CX.2.2.1 (.constantFloat RX0 7 (1258291200)) (lw_at 492 (by decide +kernel))) (dg ddX0_ofFloat 42 rfl) ?_
        obtain ⟨h4, hf⟩ := og_some hf
        refine lv_fmul hx hb (dg ddX0_ofFloat 43 rfl) (n32_in h4) ?_
        refine lv_f2i hx hb (dg ddX0_ofFloat 44 rfl) ?_
        refine lv_iadd hx hb (dg ddX0_ofFloat 45 rfl) ?_
        exact e_ri CX hr hlk (Option.some.inj hf) (dg ddX0_ofFloat 46 rfl)
      · have hf := it_f h3 hf
        refine lv_fload_n hx hb (dg ddX0_ofFloat 30 rfl) rfl (lv_at hl 1 rfl) ?_
        refine lv_fconst2 hx hb (dg ddX0_ofFloat 31 rfl) ?_
        obtain ⟨h5, hf⟩ := og_some hf
        refine lv_fmul hx hb (dg ddX0_ofFloat 32 rfl) (n32_in h5) ?_
        refine lv_fstore_n (lv' := [(2, .float (FP.fmul x2 FP.fconst2)), (1, .int x1)]) hx hb (dg ddX0_ofFloat 33 rfl) rfl hl (by decide) rfl (fun ls hl => ?_)
        refine lv_iinc (v := x1 + (-1)) (lv' := [(1, .int (x1 + (-1))), (2, .float (FP.fmul x2 FP.fconst2))]) hx hb (dg ddX0_ofFloat 34 rfl) hl (k := 1) rfl (congrArg (HAdd.hAdd x1) (by decide)) (by decide) rfl (fun ls hl => ?_)
        refine lv_goto (tgt := 36) hx hb (dg ddX0_ofFloat 35 rfl) (by decide) ?_
        exact ih (x1 + (-1)) (FP.fmul x2 FP.fconst2) _ (lv_sub hl [0, 1] rfl) hf
  have K13 : ∀ (n : Nat), ∀ (x1 : Int32) (x2 : UInt32) (ls : Array Slot) (hl : lv_has ls 3 [(1, .int x1), (2, .float x2)]) (hf : f_X0_ofFloat_c13 n x1 x2 = some res), W p l e ⟨1, 0, 0, 12⟩ s m args below meth c s.heap [] 0 0 (MQ below (vp_Si (fun r => r = res)) args s 0 0 (fun _ => False)) (F0 m 13 ls []) := by
    intro n
    induction n with
    | zero => intro x1 x2 ls hl hf; cases (show none = some res from hf)
    | succ n ih =>
    intro x1 x2 ls hl hf
    refine lv_fload_n hx hb (dg ddX0_ofFloat 10 rfl) rfl (lv_at hl 1 rfl) ?_
    refine lv_fconst2 hx hb (dg ddX0_ofFloat 11 rfl) ?_
    refine lv_fcmp hx hb (dg ddX0_ofFloat 12 rfl) ?_
    refine lv_if_lt (tgt := 36) hx hb (dg ddX0_ofFloat 13 rfl) (by decide) (fun h1 => ?_) (fun h1 => ?_)
    · have hf := it_t h1 hf
      exact K36 4096 x1 x2 _ (lv_sub hl [0, 1] rfl) hf
    · have hf := it_f h1 hf
      refine lv_iload_n hx hb (dg ddX0_ofFloat 14 rfl) rfl (lv_at hl 0 rfl) ?_
      refine lv_sipush (v := 254) hx hb (dg ddX0_ofFloat 15 rfl) (by decide) ?_
      refine lv_icmp_ge (tgt := 36) hx hb (dg ddX0_ofFloat 16 rfl) (by decide) (fun h2 => ?_) (fun h2 => ?_)
      · have hf := it_t h2 hf
        exact K36 4096 x1 x2 _ (lv_sub hl [0, 1] rfl) hf
      · have hf := it_f h2 hf
        refine lv_fload_n hx hb (dg ddX0_ofFloat 17 rfl) rfl (lv_at hl 1 rfl) ?_
        refine lv_fconst2 hx hb (dg ddX0_ofFloat 18 rfl) ?_
        obtain ⟨h3, hf⟩ := og_some hf
        refine lv_fdiv hx hb (dg ddX0_ofFloat 19 rfl) (n32_in h3) ?_
        refine lv_fstore_n (lv' := [(2, .float (FP.fdiv x2 FP.fconst2)), (1, .int x1)]) hx hb (dg ddX0_ofFloat 20 rfl) rfl hl (by decide) rfl (fun ls hl => ?_)
        refine lv_iinc (v := x1 + 1) (lv' := [(1, .int (x1 + 1)), (2, .float (FP.fdiv x2 FP.fconst2))]) hx hb (dg ddX0_ofFloat 21 rfl) hl (k := 1) rfl (congrArg (HAdd.hAdd x1) (by decide)) (by decide) rfl (fun ls hl => ?_)
        refine lv_goto (tgt := 13) hx hb (dg ddX0_ofFloat 22 rfl) (by decide) ?_
        exact ih (x1 + 1) (FP.fdiv x2 FP.fconst2) _ (lv_sub hl [0, 1] rfl) hf
  refine lv_fload_n hx hb (dg ddX0_ofFloat 0 rfl) rfl (lv_at hl 0 rfl) ?_
  refine lv_fconst0 hx hb (dg ddX0_ofFloat 1 rfl) ?_
  refine lv_fcmp hx hb (dg ddX0_ofFloat 2 rfl) ?_
  refine lv_if_ne (tgt := 8) hx hb (dg ddX0_ofFloat 3 rfl) (by decide) (fun h1 => ?_) (fun h1 => ?_)
  · have hf := it_f h1 hf
    refine lv_bipush (v := 127) hx hb (dg ddX0_ofFloat 6 rfl) (by decide) ?_
    refine lv_istore_n (lv' := [(1, .int 127), (0, .float a1)]) hx hb (dg ddX0_ofFloat 7 rfl) rfl hl (by decide) rfl (fun ls hl => ?_)
    refine lv_fload_n hx hb (dg ddX0_ofFloat 8 rfl) rfl (lv_at hl 1 rfl) ?_
    refine lv_fstore_n (lv' := [(2, .float a1), (1, .int 127), (0, .float a1)]) hx hb (dg ddX0_ofFloat 9 rfl) rfl hl (by decide) rfl (fun ls hl => ?_)
    exact K13 4096 127 a1 _ (lv_sub hl [1, 0] rfl) hf
  · have hf := it_t h1 hf
    refine lv_iconst (v := 0) hx hb (dg ddX0_ofFloat 4 rfl) (by decide) ?_
    exact e_ri CX hr hlk (Option.some.inj hf) (dg ddX0_ofFloat 5 rfl)
def f_X0_ofDouble_c47   : Nat → Int64 → UInt64 → Option (Int64)
  | 0, _, _ => none
  | n + 1, x2, x4 => if 0 ≤ (Op.cmpValue (FP.dcmp x4 FP.dconst1) .g) then (og (n64 (FP.dmul x4 4841369599423283200)) (some (((x2 - 1) <<< ((52 : Int32).toInt64 &&& 63)) + (FP.d2l (FP.dmul x4 4841369599423283200))))) else (if (lg_cmp x2 1) ≤ 0 then (og (n64 (FP.dmul x4 4841369599423283200)) (some (((x2 - 1) <<< ((52 : Int32).toInt64 &&& 63)) + (FP.d2l (FP.dmul x4 4841369599423283200))))) else (og (n64 (FP.dmul x4 4611686018427387904)) (f_X0_ofDouble_c47  n (x2 - 1) (FP.dmul x4 4611686018427387904))))
def f_X0_ofDouble_c15   : Nat → Int64 → UInt64 → Option (Int64)
  | 0, _, _ => none
  | n + 1, x2, x4 => if (Op.cmpValue (FP.dcmp x4 4611686018427387904) .l) < 0 then (f_X0_ofDouble_c47  4096 x2 x4) else (if 0 ≤ (lg_cmp x2 2046) then (f_X0_ofDouble_c47  4096 x2 x4) else (og (n64 (FP.ddiv x4 4611686018427387904)) (f_X0_ofDouble_c15  n (x2 + 1) (FP.ddiv x4 4611686018427387904))))
def f_X0_ofDouble (a1 : UInt64) : Option (Int64) := if (Op.cmpValue (FP.dcmp a1 FP.dconst0) .l) = 0 then (some 0) else (f_X0_ofDouble_c15  4096 1023 a1)
set_option maxHeartbeats 4000000 in
set_option maxRecDepth 100000 in
theorem c_X0_ofDouble (l : Launch) (D : va_G) (cy : Nat → ClassId) (a1 : UInt64) {res : Int64} (hf : f_X0_ofDouble a1 = some res) : Met l yX0_ofDouble (.code yX0_ofDouble cX0_ofDouble 6 (some .long) :: lw_all) { frames := 1, cells := 0, slots := 0, locals := 12 } (va_Pc [.double a1] (sR D cy [])) (vp_Sl (fun r => r = res)) 0 0 (fun _ => False) := by
  refine mk_ro (Rc := RX0) (by decide +kernel) rfl (Nat.le_of_ble_eq_true rfl) ?_
  intro p e s m args below meth c ls CX hml hr hlk hK hN hP hl
  have hx := CX.1
  have hb := CX.2.1
  have hl0 := hl
  have K47 : ∀ (n : Nat), ∀ (x2 : Int64) (x4 : UInt64) (ls : Array Slot) (hl : lv_has ls 6 [(2, .long x2), (4, .double x4)]) (hf : f_X0_ofDouble_c47 n x2 x4 = some res), W p l e ⟨1, 0, 0, 12⟩ s m args below meth c s.heap [] 0 0 (MQ below (vp_Sl (fun r => r = res)) args s 0 0 (fun _ => False)) (F0 m 47 ls []) := by
    intro n
    induction n with
    | zero => intro x2 x4 ls hl hf; cases (show none = some res from hf)
    | succ n ih =>
    intro x2 x4 ls hl hf
    refine lv_dload hx hb (dg ddX0_ofDouble 27 rfl) (lv_at hl 1 rfl) ?_
    refine lv_dconst1 hx hb (dg ddX0_ofDouble 28 rfl) ?_
    refine lv_dcmp hx hb (dg ddX0_ofDouble 29 rfl) ?_
    refine lv_if_ge (tgt := 75) hx hb (dg ddX0_ofDouble 30 rfl) (by decide) (fun h1 => ?_) (fun h1 => ?_)
    · have hf := it_t h1 hf
      refine lv_lload_n hx hb (dg ddX0_ofDouble 44 rfl) rfl (lv_at hl 0 rfl) ?_
      refine lv_lconst (v := 1) hx hb (dg ddX0_ofDouble 45 rfl) (by decide) ?_
      refine lv_lsub hx hb (dg ddX0_ofDouble 46 rfl) ?_
      refine lv_bipush (v := 52) hx hb (dg ddX0_ofDouble 47 rfl) (by decide) ?_
      refine lv_lshl (v := ((x2 - 1) <<< ((52 : Int32).toInt64 &&& 63))) hx hb (dg ddX0_ofDouble 48 rfl) rfl ?_
      refine lv_dload hx hb (dg ddX0_ofDouble 49 rfl) (lv_at hl 1 rfl) ?_
      refine lv_ldc2d hx hb CX.2.2.2 (CX.2.2.1 (.constantDouble RX0 14 (4841369599423283200)) (lw_at 1018 (by decide +kernel))) (dg ddX0_ofDouble 50 rfl) ?_
      obtain ⟨h2, hf⟩ := og_some hf
      refine lv_dmul hx hb (dg ddX0_ofDouble 51 rfl) (n64_in h2) ?_
      refine lv_d2l hx hb (dg ddX0_ofDouble 52 rfl) ?_
      refine lv_ladd hx hb (dg ddX0_ofDouble 53 rfl) ?_
      exact e_rl CX hr hlk (Option.some.inj hf) (dg ddX0_ofDouble 54 rfl)
    · have hf := it_f h1 hf
      refine lv_lload_n hx hb (dg ddX0_ofDouble 31 rfl) rfl (lv_at hl 0 rfl) ?_
      refine lv_lconst (v := 1) hx hb (dg ddX0_ofDouble 32 rfl) (by decide) ?_
      refine W.lcmp hx hb (dg ddX0_ofDouble 33 rfl) ?_
      refine lv_if_le (tgt := 75) hx hb (dg ddX0_ofDouble 34 rfl) (by decide) (fun h3 => ?_) (fun h3 => ?_)
      · have hf := it_t h3 hf
        refine lv_lload_n hx hb (dg ddX0_ofDouble 44 rfl) rfl (lv_at hl 0 rfl) ?_
        refine lv_lconst (v := 1) hx hb (dg ddX0_ofDouble 45 rfl) (by decide) ?_
        refine lv_lsub hx hb (dg ddX0_ofDouble 46 rfl) ?_
        refine lv_bipush (v := 52) hx hb (dg ddX0_ofDouble 47 rfl) (by decide) ?_
        refine lv_lshl (v := ((x2 - 1) <<< ((52 : Int32).toInt64 &&& 63))) hx hb (dg ddX0_ofDouble 48 rfl) rfl ?_
        refine lv_dload hx hb (dg ddX0_ofDouble 49 rfl) (lv_at hl 1 rfl) ?_
        refine lv_ldc2d hx hb CX.2.2.2 (CX.2.2.1 (.constantDouble RX0 14 (4841369599423283200)) (lw_at 1018 (by decide +kernel))) (dg ddX0_ofDouble 50 rfl) ?_
        obtain ⟨h4, hf⟩ := og_some hf
        refine lv_dmul hx hb (dg ddX0_ofDouble 51 rfl) (n64_in h4) ?_
        refine lv_d2l hx hb (dg ddX0_ofDouble 52 rfl) ?_
        refine lv_ladd hx hb (dg ddX0_ofDouble 53 rfl) ?_
        exact e_rl CX hr hlk (Option.some.inj hf) (dg ddX0_ofDouble 54 rfl)
      · have hf := it_f h3 hf
        refine lv_dload hx hb (dg ddX0_ofDouble 35 rfl) (lv_at hl 1 rfl) ?_
        refine lv_ldc2d hx hb CX.2.2.2 (CX.2.2.1 (.constantDouble RX0 10 (4611686018427387904)) (lw_at 1016 (by decide +kernel))) (dg ddX0_ofDouble 36 rfl) ?_
        obtain ⟨h5, hf⟩ := og_some hf
        refine lv_dmul hx hb (dg ddX0_ofDouble 37 rfl) (n64_in h5) ?_
        refine lv_dstore (lv' := [(4, .double (FP.dmul x4 4611686018427387904)), (2, .long x2)]) hx hb (dg ddX0_ofDouble 38 rfl) hl (by decide) rfl (fun ls hl => ?_)
        refine lv_lload_n hx hb (dg ddX0_ofDouble 39 rfl) rfl (lv_at hl 1 rfl) ?_
        refine lv_lconst (v := 1) hx hb (dg ddX0_ofDouble 40 rfl) (by decide) ?_
        refine lv_lsub hx hb (dg ddX0_ofDouble 41 rfl) ?_
        refine lv_lstore_n (lv' := [(2, .long (x2 - 1)), (4, .double (FP.dmul x4 4611686018427387904))]) hx hb (dg ddX0_ofDouble 42 rfl) rfl hl (by decide) rfl (fun ls hl => ?_)
        refine lv_goto (tgt := 47) hx hb (dg ddX0_ofDouble 43 rfl) (by decide) ?_
        exact ih (x2 - 1) (FP.dmul x4 4611686018427387904) _ (lv_sub hl [0, 1] rfl) hf
  have K15 : ∀ (n : Nat), ∀ (x2 : Int64) (x4 : UInt64) (ls : Array Slot) (hl : lv_has ls 6 [(2, .long x2), (4, .double x4)]) (hf : f_X0_ofDouble_c15 n x2 x4 = some res), W p l e ⟨1, 0, 0, 12⟩ s m args below meth c s.heap [] 0 0 (MQ below (vp_Sl (fun r => r = res)) args s 0 0 (fun _ => False)) (F0 m 15 ls []) := by
    intro n
    induction n with
    | zero => intro x2 x4 ls hl hf; cases (show none = some res from hf)
    | succ n ih =>
    intro x2 x4 ls hl hf
    refine lv_dload hx hb (dg ddX0_ofDouble 10 rfl) (lv_at hl 1 rfl) ?_
    refine lv_ldc2d hx hb CX.2.2.2 (CX.2.2.1 (.constantDouble RX0 10 (4611686018427387904)) (lw_at 1016 (by decide +kernel))) (dg ddX0_ofDouble 11 rfl) ?_
    refine lv_dcmp hx hb (dg ddX0_ofDouble 12 rfl) ?_
    refine lv_if_lt (tgt := 47) hx hb (dg ddX0_ofDouble 13 rfl) (by decide) (fun h1 => ?_) (fun h1 => ?_)
    · have hf := it_t h1 hf
      exact K47 4096 x2 x4 _ (lv_sub hl [0, 1] rfl) hf
    · have hf := it_f h1 hf
      refine lv_lload_n hx hb (dg ddX0_ofDouble 14 rfl) rfl (lv_at hl 0 rfl) ?_
      refine lv_ldc2 hx hb CX.2.2.2 (CX.2.2.1 (.constantLong RX0 12 (2046)) (lw_at 1017 (by decide +kernel))) (dg ddX0_ofDouble 15 rfl) ?_
      refine W.lcmp hx hb (dg ddX0_ofDouble 16 rfl) ?_
      refine lv_if_ge (tgt := 47) hx hb (dg ddX0_ofDouble 17 rfl) (by decide) (fun h2 => ?_) (fun h2 => ?_)
      · have hf := it_t h2 hf
        exact K47 4096 x2 x4 _ (lv_sub hl [0, 1] rfl) hf
      · have hf := it_f h2 hf
        refine lv_dload hx hb (dg ddX0_ofDouble 18 rfl) (lv_at hl 1 rfl) ?_
        refine lv_ldc2d hx hb CX.2.2.2 (CX.2.2.1 (.constantDouble RX0 10 (4611686018427387904)) (lw_at 1016 (by decide +kernel))) (dg ddX0_ofDouble 19 rfl) ?_
        obtain ⟨h3, hf⟩ := og_some hf
        refine lv_ddiv hx hb (dg ddX0_ofDouble 20 rfl) (n64_in h3) ?_
        refine lv_dstore (lv' := [(4, .double (FP.ddiv x4 4611686018427387904)), (2, .long x2)]) hx hb (dg ddX0_ofDouble 21 rfl) hl (by decide) rfl (fun ls hl => ?_)
        refine lv_lload_n hx hb (dg ddX0_ofDouble 22 rfl) rfl (lv_at hl 1 rfl) ?_
        refine lv_lconst (v := 1) hx hb (dg ddX0_ofDouble 23 rfl) (by decide) ?_
        refine lv_ladd hx hb (dg ddX0_ofDouble 24 rfl) ?_
        refine lv_lstore_n (lv' := [(2, .long (x2 + 1)), (4, .double (FP.ddiv x4 4611686018427387904))]) hx hb (dg ddX0_ofDouble 25 rfl) rfl hl (by decide) rfl (fun ls hl => ?_)
        refine lv_goto (tgt := 15) hx hb (dg ddX0_ofDouble 26 rfl) (by decide) ?_
        exact ih (x2 + 1) (FP.ddiv x4 4611686018427387904) _ (lv_sub hl [0, 1] rfl) hf
  refine lv_dload_n hx hb (dg ddX0_ofDouble 0 rfl) rfl (lv_at hl 0 rfl) ?_
  refine lv_dconst0 hx hb (dg ddX0_ofDouble 1 rfl) ?_
  refine lv_dcmp hx hb (dg ddX0_ofDouble 2 rfl) ?_
  refine lv_if_ne (tgt := 8) hx hb (dg ddX0_ofDouble 3 rfl) (by decide) (fun h1 => ?_) (fun h1 => ?_)
  · have hf := it_f h1 hf
    refine lv_ldc2 hx hb CX.2.2.2 (CX.2.2.1 (.constantLong RX0 8 (1023)) (lw_at 1015 (by decide +kernel))) (dg ddX0_ofDouble 6 rfl) ?_
    refine lv_lstore_n (lv' := [(2, .long 1023), (0, .double a1)]) hx hb (dg ddX0_ofDouble 7 rfl) rfl hl (by decide) rfl (fun ls hl => ?_)
    refine lv_dload_n hx hb (dg ddX0_ofDouble 8 rfl) rfl (lv_at hl 1 rfl) ?_
    refine lv_dstore (lv' := [(4, .double a1), (2, .long 1023), (0, .double a1)]) hx hb (dg ddX0_ofDouble 9 rfl) hl (by decide) rfl (fun ls hl => ?_)
    exact K15 4096 1023 a1 _ (lv_sub hl [1, 0] rfl) hf
  · have hf := it_t h1 hf
    refine lv_lconst (v := 0) hx hb (dg ddX0_ofDouble 4 rfl) (by decide) ?_
    exact e_rl CX hr hlk (Option.some.inj hf) (dg ddX0_ofDouble 5 rfl)
def f_Jxf58ca_isNaN_12338 (a1 : UInt32) : Option (Int32) := if (Op.cmpValue (FP.fcmp a1 a1) .l) = 0 then (some 0) else (some 1)
set_option maxHeartbeats 4000000 in
set_option maxRecDepth 100000 in
theorem c_Jxf58ca_isNaN_12338 (l : Launch) (D : va_G) (cy : Nat → ClassId) (a1 : UInt32) {res : Int32} (hf : f_Jxf58ca_isNaN_12338 a1 = some res) : Met l yJxf58ca_isNaN_12338 (.code yJxf58ca_isNaN_12338 cJxf58ca_isNaN_12338 1 (some .boolean) :: lw_all) { frames := 1, cells := 0, slots := 0, locals := 12 } (va_Pc [.float a1] (sR D cy [])) (vp_Si (fun r => r = res)) 0 0 (fun _ => False) := by
  refine mk_ro (Rc := RJxf58ca) (by decide +kernel) rfl (Nat.le_of_ble_eq_true rfl) ?_
  intro p e s m args below meth c ls CX hml hr hlk hK hN hP hl
  have hx := CX.1
  have hb := CX.2.1
  refine lv_fload_n hx hb (dg ddJxf58ca_isNaN_12338 0 rfl) rfl (lv_at hl 0 rfl) ?_
  refine lv_fload_n hx hb (dg ddJxf58ca_isNaN_12338 1 rfl) rfl (lv_at hl 0 rfl) ?_
  refine lv_fcmp hx hb (dg ddJxf58ca_isNaN_12338 2 rfl) ?_
  refine lv_if_eq (tgt := 10) hx hb (dg ddJxf58ca_isNaN_12338 3 rfl) (by decide) (fun h1 => ?_) (fun h1 => ?_)
  · have hf := it_t h1 hf
    refine lv_iconst (v := 0) hx hb (dg ddJxf58ca_isNaN_12338 6 rfl) (by decide) ?_
    exact e_rz CX hr hlk (by decide) (Option.some.inj hf) (dg ddJxf58ca_isNaN_12338 7 rfl)
  · have hf := it_f h1 hf
    refine lv_iconst (v := 1) hx hb (dg ddJxf58ca_isNaN_12338 4 rfl) (by decide) ?_
    refine lv_goto (tgt := 11) hx hb (dg ddJxf58ca_isNaN_12338 5 rfl) (by decide) ?_
    exact e_rz CX hr hlk (by decide) (Option.some.inj hf) (dg ddJxf58ca_isNaN_12338 7 rfl)
def f_Jxf58ca_floatToIntBits_5c35a (a1 : UInt32) : Option (Int32) := ob (f_Jxf58ca_isNaN_12338 a1) fun r2 => (if r2 = 0 then (some a1.toInt32) else (some 2143289344))
set_option maxHeartbeats 4000000 in
set_option maxRecDepth 100000 in
theorem c_Jxf58ca_floatToIntBits_5c35a (l : Launch) (D : va_G) (cy : Nat → ClassId) (a1 : UInt32) {res : Int32} (hf : f_Jxf58ca_floatToIntBits_5c35a a1 = some res) : Met l yJxf58ca_floatToIntBits_5c35a (.code yJxf58ca_floatToIntBits_5c35a cJxf58ca_floatToIntBits_5c35a 1 (some .int) :: lw_all) { frames := 2, cells := 0, slots := 0, locals := 40 } (va_Pc [.float a1] (sR D cy [])) (vp_Si (fun r => r = res)) 0 0 (fun _ => False) := by
  refine mk_ro (Rc := RJxf58ca) (by decide +kernel) rfl (Nat.le_of_ble_eq_true rfl) ?_
  intro p e s m args below meth c ls CX hml hr hlk hK hN hP hl
  have hx := CX.1
  have hb := CX.2.1
  have hRMJxf58ca_isNaN_12338 : (⟨1, 0, 0, 12⟩ : Room).frames + 1 ≤ (⟨2, 0, 0, 40⟩ : Room).frames ∧ 8 + (1 + 11) + (⟨1, 0, 0, 12⟩ : Room).locals ≤ (⟨2, 0, 0, 40⟩ : Room).locals := ⟨Nat.le_of_ble_eq_true rfl, Nat.le_of_ble_eq_true rfl⟩
  refine lv_fload_n hx hb (dg ddJxf58ca_floatToIntBits_5c35a 0 rfl) rfl (lv_at hl 0 rfl) ?_
  obtain ⟨r2, e1, hf⟩ := ob_some hf
  refine cro_si CX hml (As := [.float a1]) (rest := []) (c_Jxf58ca_isNaN_12338 l D cy a1 e1) lk_RJxf58ca_59 rfl rfl hRMJxf58ca_isNaN_12338 vaP_nil hK hN rfl hl.1 rfl (Nat.le_of_ble_eq_true rfl) ⟨Nat.le_of_ble_eq_true rfl, Nat.le_of_ble_eq_true rfl⟩ (dg ddJxf58ca_floatToIntBits_5c35a 1 rfl) ?_
  refine lv_if_ne (tgt := 12) hx hb (dg ddJxf58ca_floatToIntBits_5c35a 2 rfl) (by decide) (fun h3 => ?_) (fun h3 => ?_)
  · have hf := it_f h3 hf
    refine lv_ldc hx hb CX.2.2.2 (CX.2.2.1 (.constant RJxf58ca 77 (2143289344)) (lw_at 820 (by decide +kernel))) (dg ddJxf58ca_floatToIntBits_5c35a 6 rfl) ?_
    exact e_ri CX hr hlk (Option.some.inj hf) (dg ddJxf58ca_floatToIntBits_5c35a 7 rfl)
  · have hf := it_t h3 hf
    refine lv_fload_n hx hb (dg ddJxf58ca_floatToIntBits_5c35a 3 rfl) rfl (lv_at hl 0 rfl) ?_
    refine vn_f2i hx hb (hml.trans hl.1.symm) CX.2.2.2 (CX.2.2.1 (.methodLink RJxf58ca 74 nmF2i) (lw_at 817 (by decide +kernel))) (CX.2.2.1 _ (mNat (by simp [nmF2i, nmI2f, nmD2l]))) (CX.2.2.1 _ (mNat (by simp [nmF2i, nmI2f, nmD2l]))) (CX.2.2.1 _ (mNat (by simp [nmF2i, nmI2f, nmD2l]))) (Nat.le_of_ble_eq_true rfl) (Nat.le_of_ble_eq_true rfl) (dg ddJxf58ca_floatToIntBits_5c35a 4 rfl) ?_
    exact e_ri CX hr hlk (Option.some.inj hf) (dg ddJxf58ca_floatToIntBits_5c35a 5 rfl)
def f_Jxe99ae_isNaN_b9ae7 (a1 : UInt64) : Option (Int32) := if (Op.cmpValue (FP.dcmp a1 a1) .l) = 0 then (some 0) else (some 1)
set_option maxHeartbeats 4000000 in
set_option maxRecDepth 100000 in
theorem c_Jxe99ae_isNaN_b9ae7 (l : Launch) (D : va_G) (cy : Nat → ClassId) (a1 : UInt64) {res : Int32} (hf : f_Jxe99ae_isNaN_b9ae7 a1 = some res) : Met l yJxe99ae_isNaN_b9ae7 (.code yJxe99ae_isNaN_b9ae7 cJxe99ae_isNaN_b9ae7 2 (some .boolean) :: lw_all) { frames := 1, cells := 0, slots := 0, locals := 12 } (va_Pc [.double a1] (sR D cy [])) (vp_Si (fun r => r = res)) 0 0 (fun _ => False) := by
  refine mk_ro (Rc := RJxe99ae) (by decide +kernel) rfl (Nat.le_of_ble_eq_true rfl) ?_
  intro p e s m args below meth c ls CX hml hr hlk hK hN hP hl
  have hx := CX.1
  have hb := CX.2.1
  refine lv_dload_n hx hb (dg ddJxe99ae_isNaN_b9ae7 0 rfl) rfl (lv_at hl 0 rfl) ?_
  refine lv_dload_n hx hb (dg ddJxe99ae_isNaN_b9ae7 1 rfl) rfl (lv_at hl 0 rfl) ?_
  refine lv_dcmp hx hb (dg ddJxe99ae_isNaN_b9ae7 2 rfl) ?_
  refine lv_if_eq (tgt := 10) hx hb (dg ddJxe99ae_isNaN_b9ae7 3 rfl) (by decide) (fun h1 => ?_) (fun h1 => ?_)
  · have hf := it_t h1 hf
    refine lv_iconst (v := 0) hx hb (dg ddJxe99ae_isNaN_b9ae7 6 rfl) (by decide) ?_
    exact e_rz CX hr hlk (by decide) (Option.some.inj hf) (dg ddJxe99ae_isNaN_b9ae7 7 rfl)
  · have hf := it_f h1 hf
    refine lv_iconst (v := 1) hx hb (dg ddJxe99ae_isNaN_b9ae7 4 rfl) (by decide) ?_
    refine lv_goto (tgt := 11) hx hb (dg ddJxe99ae_isNaN_b9ae7 5 rfl) (by decide) ?_
    exact e_rz CX hr hlk (by decide) (Option.some.inj hf) (dg ddJxe99ae_isNaN_b9ae7 7 rfl)
def f_Jxe99ae_doubleToLongBits_ccdee (a1 : UInt64) : Option (Int64) := ob (f_Jxe99ae_isNaN_b9ae7 a1) fun r2 => (if r2 = 0 then (some a1.toInt64) else (some 9221120237041090560))
set_option maxHeartbeats 4000000 in
set_option maxRecDepth 100000 in
theorem c_Jxe99ae_doubleToLongBits_ccdee (l : Launch) (D : va_G) (cy : Nat → ClassId) (a1 : UInt64) {res : Int64} (hf : f_Jxe99ae_doubleToLongBits_ccdee a1 = some res) : Met l yJxe99ae_doubleToLongBits_ccdee (.code yJxe99ae_doubleToLongBits_ccdee cJxe99ae_doubleToLongBits_ccdee 2 (some .long) :: lw_all) { frames := 2, cells := 0, slots := 0, locals := 40 } (va_Pc [.double a1] (sR D cy [])) (vp_Sl (fun r => r = res)) 0 0 (fun _ => False) := by
  refine mk_ro (Rc := RJxe99ae) (by decide +kernel) rfl (Nat.le_of_ble_eq_true rfl) ?_
  intro p e s m args below meth c ls CX hml hr hlk hK hN hP hl
  have hx := CX.1
  have hb := CX.2.1
  have hRMJxe99ae_isNaN_b9ae7 : (⟨1, 0, 0, 12⟩ : Room).frames + 1 ≤ (⟨2, 0, 0, 40⟩ : Room).frames ∧ 8 + (2 + 11) + (⟨1, 0, 0, 12⟩ : Room).locals ≤ (⟨2, 0, 0, 40⟩ : Room).locals := ⟨Nat.le_of_ble_eq_true rfl, Nat.le_of_ble_eq_true rfl⟩
  refine lv_dload_n hx hb (dg ddJxe99ae_doubleToLongBits_ccdee 0 rfl) rfl (lv_at hl 0 rfl) ?_
  obtain ⟨r2, e1, hf⟩ := ob_some hf
  refine cro_si CX hml (As := [.double a1]) (rest := []) (c_Jxe99ae_isNaN_b9ae7 l D cy a1 e1) lk_RJxe99ae_122 rfl rfl hRMJxe99ae_isNaN_b9ae7 vaP_nil hK hN rfl hl.1 rfl (Nat.le_of_ble_eq_true rfl) ⟨Nat.le_of_ble_eq_true rfl, Nat.le_of_ble_eq_true rfl⟩ (dg ddJxe99ae_doubleToLongBits_ccdee 1 rfl) ?_
  refine lv_if_ne (tgt := 12) hx hb (dg ddJxe99ae_doubleToLongBits_ccdee 2 rfl) (by decide) (fun h3 => ?_) (fun h3 => ?_)
  · have hf := it_f h3 hf
    refine lv_ldc2 hx hb CX.2.2.2 (CX.2.2.1 (.constantLong RJxe99ae 137 (9221120237041090560)) (lw_at 1028 (by decide +kernel))) (dg ddJxe99ae_doubleToLongBits_ccdee 6 rfl) ?_
    exact e_rl CX hr hlk (Option.some.inj hf) (dg ddJxe99ae_doubleToLongBits_ccdee 7 rfl)
  · have hf := it_t h3 hf
    refine lv_dload_n hx hb (dg ddJxe99ae_doubleToLongBits_ccdee 3 rfl) rfl (lv_at hl 0 rfl) ?_
    refine vn_d2l hx hb (hml.trans hl.1.symm) CX.2.2.2 (CX.2.2.1 (.methodLink RJxe99ae 134 nmD2l) (lw_at 1025 (by decide +kernel))) (CX.2.2.1 _ (mNat (by simp [nmF2i, nmI2f, nmD2l]))) (CX.2.2.1 _ (mNat (by simp [nmF2i, nmI2f, nmD2l]))) (CX.2.2.1 _ (mNat (by simp [nmF2i, nmI2f, nmD2l]))) (Nat.le_of_ble_eq_true rfl) (Nat.le_of_ble_eq_true rfl) (dg ddJxe99ae_doubleToLongBits_ccdee 4 rfl) ?_
    exact e_rl CX hr hlk (Option.some.inj hf) (dg ddJxe99ae_doubleToLongBits_ccdee 5 rfl)
