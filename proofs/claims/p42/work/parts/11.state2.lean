/-! by program: State: rows, hours, copies -/
def f_J7_fill_e525d_c5  (n1 : Nat) (a2 : UInt32) : Nat → Int32 → Int32 → (Nat → UInt32) → Option ((Nat → UInt32))
  | 0, _, _, _ => none
  | n + 1, x2, x3, w1 => if x3 ≤ x2 then (some w1) else (og (inb x2 n1) (f_J7_fill_e525d_c5 n1 a2 n (x2 + 1) x3 (vf_upd w1 x2.toNatClampNeg a2)))
def f_J7_fill_e525d (n1 : Nat) (w1 : Nat → UInt32) (a2 : UInt32) : Option ((Nat → UInt32)) := f_J7_fill_e525d_c5 n1 a2 4096 0 (Int32.ofNat n1) w1
set_option maxHeartbeats 4000000 in
set_option maxRecDepth 100000 in
theorem c_J7_fill_e525d (l : Launch) (D : va_G) (cy : Nat → ClassId) (r1 : Nat) (n1 : Nat) (w1 : Nat → UInt32) (a2 : UInt32) (sz : Nat) {res : (Nat → UInt32)} (hf : f_J7_fill_e525d n1 w1 a2 = some res) : Met l yJ7_fill_e525d (.code yJ7_fill_e525d cJ7_fill_e525d 4 none :: lw_all) { frames := 1, cells := 0, slots := 0, locals := 12 } (va_Pc [.ref (r1), .float a2] (sW D cy [(r1, .inl (cy 1, n1, .inr (.inr (.inl w1))))] sz)) (qV D [(r1, .inl (cy 1, n1, .inr (.inr (.inl res))))] (va_A [(r1, .inl (cy 1, n1, .inr (.inr (.inl w1))))] sz)) 0 0 (va_A [(r1, .inl (cy 1, n1, .inr (.inr (.inl w1))))] sz) := by
  refine mk_rw (Qc := qV D [(r1, .inl (cy 1, n1, .inr (.inr (.inl res))))] ) (Rc := RJ7) (by decide +kernel) rfl (Nat.le_of_ble_eq_true rfl) ?_
  intro p e s m args below meth c ls A CX hml hr hlk hK hN hP hD hS hA hl
  have hx := CX.1
  have hb := CX.2.1
  have hl0 := hl
  have K5 : ∀ (n : Nat), ∀ (x2 : Int32) (x3 : Int32) (w1 : Nat → UInt32) (H : Heap) (locs : List Loc) (hP : va_P D vwCl [(r1, .inl (cy 1, n1, .inr (.inr (.inl w1))))] H) (hD : va_D A [(r1, .inl (cy 1, n1, .inr (.inr (.inl w1))))]) (hS : va_S A s.heap H locs) (ls : Array Slot) (hl : lv_has ls 4 [(0, .ref (r1)), (1, .float a2), (2, .int x2), (3, .int x3)]) (hf : f_J7_fill_e525d_c5 n1 a2 n x2 x3 w1 = some res), W p l e ⟨1, 0, 0, 12⟩ s m args below meth c H locs 0 0 (MQ below (qV D [(r1, .inl (cy 1, n1, .inr (.inr (.inl res))))] A) args s 0 0 A) (F0 m 5 ls []) := by
    intro n
    induction n with
    | zero => intro x2 x3 w1 H locs hP hD hS ls hl hf; cases (show none = some res from hf)
    | succ n ih =>
    intro x2 x3 w1 H locs hP hD hS ls hl hf
    refine lv_iload_n hx hb (dg ddJ7_fill_e525d 5 rfl) rfl (lv_at hl 2 rfl) ?_
    refine lv_iload_n hx hb (dg ddJ7_fill_e525d 6 rfl) rfl (lv_at hl 3 rfl) ?_
    refine lv_icmp_ge (tgt := 20) hx hb (dg ddJ7_fill_e525d 7 rfl) (by decide) (fun h1 => ?_) (fun h1 => ?_)
    · have hf := it_t h1 hf
      cases hf
      exact e_wv CX hr hlk hP hD hS (dg ddJ7_fill_e525d 14 rfl)
    · have hf := it_f h1 hf
      refine lv_aload_n hx hb (dg ddJ7_fill_e525d 8 rfl) rfl (lv_at hl 0 rfl) ?_
      refine lv_iload_n hx hb (dg ddJ7_fill_e525d 9 rfl) rfl (lv_at hl 2 rfl) ?_
      refine lv_fload_n hx hb (dg ddJ7_fill_e525d 10 rfl) rfl (lv_at hl 1 rfl) ?_
      obtain ⟨h2, hf⟩ := og_some hf
      refine va_fast hx hb hK hP hD hS 0 1 rfl rfl (inb_in h2) (dg ddJ7_fill_e525d 11 rfl) (fun H locs hP hD hS => ?_)
      have hP : va_P D vwCl [(r1, .inl (cy 1, n1, .inr (.inr (.inl (vf_upd w1 x2.toNatClampNeg a2)))))] H := hP
      have hD : va_D A [(r1, .inl (cy 1, n1, .inr (.inr (.inl (vf_upd w1 x2.toNatClampNeg a2)))))] := hD
      refine lv_iinc (v := x2 + 1) (lv' := [(2, .int (x2 + 1)), (0, .ref (r1)), (1, .float a2), (3, .int x3)]) hx hb (dg ddJ7_fill_e525d 12 rfl) hl (k := 2) rfl (congrArg (HAdd.hAdd x2) (by decide)) (by decide) rfl (fun ls hl => ?_)
      refine lv_goto (tgt := 5) hx hb (dg ddJ7_fill_e525d 13 rfl) (by decide) ?_
      exact ih (x2 + 1) x3 (vf_upd w1 x2.toNatClampNeg a2) _ _ hP hD hS _ (lv_sub hl [1, 2, 0, 3] rfl) hf
  refine lv_iconst (v := 0) hx hb (dg ddJ7_fill_e525d 0 rfl) (by decide) ?_
  refine lv_istore_n (lv' := [(2, .int 0), (0, .ref (r1)), (1, .float a2)]) hx hb (dg ddJ7_fill_e525d 1 rfl) rfl hl (by decide) rfl (fun ls hl => ?_)
  refine lv_aload_n hx hb (dg ddJ7_fill_e525d 2 rfl) rfl (lv_at hl 1 rfl) ?_
  refine va_alen hx hb hK hP 0 1 rfl rfl (v := Int32.ofNat n1) rfl (dg ddJ7_fill_e525d 3 rfl) ?_
  refine lv_istore_n (lv' := [(3, .int (Int32.ofNat n1)), (2, .int 0), (0, .ref (r1)), (1, .float a2)]) hx hb (dg ddJ7_fill_e525d 4 rfl) rfl hl (by decide) rfl (fun ls hl => ?_)
  exact K5 4096 0 (Int32.ofNat n1) w1 _ _ hP hD hS _ (lv_sub hl [2, 3, 1, 0] rfl) hf
def f_J7_fill_53178_c5  (n1 : Nat) (a2 : Int32) : Nat → Int32 → Int32 → (Nat → Int32) → Option ((Nat → Int32))
  | 0, _, _, _ => none
  | n + 1, x2, x3, w1 => if x3 ≤ x2 then (some w1) else (og (inb x2 n1) (f_J7_fill_53178_c5 n1 a2 n (x2 + 1) x3 (upd w1 x2.toNatClampNeg a2)))
def f_J7_fill_53178 (n1 : Nat) (w1 : Nat → Int32) (a2 : Int32) : Option ((Nat → Int32)) := f_J7_fill_53178_c5 n1 a2 4096 0 (Int32.ofNat n1) w1
set_option maxHeartbeats 4000000 in
set_option maxRecDepth 100000 in
theorem c_J7_fill_53178 (l : Launch) (D : va_G) (cy : Nat → ClassId) (r1 : Nat) (n1 : Nat) (w1 : Nat → Int32) (a2 : Int32) (sz : Nat) {res : (Nat → Int32)} (hf : f_J7_fill_53178 n1 w1 a2 = some res) : Met l yJ7_fill_53178 (.code yJ7_fill_53178 cJ7_fill_53178 4 none :: lw_all) { frames := 1, cells := 0, slots := 0, locals := 12 } (va_Pc [.ref (r1), .int a2] (sW D cy [(r1, .inl (cy 0, n1, .inl w1))] sz)) (qV D [(r1, .inl (cy 0, n1, .inl res))] (va_A [(r1, .inl (cy 0, n1, .inl w1))] sz)) 0 0 (va_A [(r1, .inl (cy 0, n1, .inl w1))] sz) := by
  refine mk_rw (Qc := qV D [(r1, .inl (cy 0, n1, .inl res))] ) (Rc := RJ7) (by decide +kernel) rfl (Nat.le_of_ble_eq_true rfl) ?_
  intro p e s m args below meth c ls A CX hml hr hlk hK hN hP hD hS hA hl
  have hx := CX.1
  have hb := CX.2.1
  have hl0 := hl
  have K5 : ∀ (n : Nat), ∀ (x2 : Int32) (x3 : Int32) (w1 : Nat → Int32) (H : Heap) (locs : List Loc) (hP : va_P D vwCl [(r1, .inl (cy 0, n1, .inl w1))] H) (hD : va_D A [(r1, .inl (cy 0, n1, .inl w1))]) (hS : va_S A s.heap H locs) (ls : Array Slot) (hl : lv_has ls 4 [(0, .ref (r1)), (1, .int a2), (2, .int x2), (3, .int x3)]) (hf : f_J7_fill_53178_c5 n1 a2 n x2 x3 w1 = some res), W p l e ⟨1, 0, 0, 12⟩ s m args below meth c H locs 0 0 (MQ below (qV D [(r1, .inl (cy 0, n1, .inl res))] A) args s 0 0 A) (F0 m 5 ls []) := by
    intro n
    induction n with
    | zero => intro x2 x3 w1 H locs hP hD hS ls hl hf; cases (show none = some res from hf)
    | succ n ih =>
    intro x2 x3 w1 H locs hP hD hS ls hl hf
    refine lv_iload_n hx hb (dg ddJ7_fill_53178 5 rfl) rfl (lv_at hl 2 rfl) ?_
    refine lv_iload_n hx hb (dg ddJ7_fill_53178 6 rfl) rfl (lv_at hl 3 rfl) ?_
    refine lv_icmp_ge (tgt := 20) hx hb (dg ddJ7_fill_53178 7 rfl) (by decide) (fun h1 => ?_) (fun h1 => ?_)
    · have hf := it_t h1 hf
      cases hf
      exact e_wv CX hr hlk hP hD hS (dg ddJ7_fill_53178 14 rfl)
    · have hf := it_f h1 hf
      refine lv_aload_n hx hb (dg ddJ7_fill_53178 8 rfl) rfl (lv_at hl 0 rfl) ?_
      refine lv_iload_n hx hb (dg ddJ7_fill_53178 9 rfl) rfl (lv_at hl 2 rfl) ?_
      refine lv_iload_n hx hb (dg ddJ7_fill_53178 10 rfl) rfl (lv_at hl 1 rfl) ?_
      obtain ⟨h2, hf⟩ := og_some hf
      refine va_iast hx hb hK hP hD hS 0 0 rfl rfl (inb_in h2) (dg ddJ7_fill_53178 11 rfl) (fun H locs hP hD hS => ?_)
      have hP : va_P D vwCl [(r1, .inl (cy 0, n1, .inl (upd w1 x2.toNatClampNeg a2)))] H := hP
      have hD : va_D A [(r1, .inl (cy 0, n1, .inl (upd w1 x2.toNatClampNeg a2)))] := hD
      refine lv_iinc (v := x2 + 1) (lv' := [(2, .int (x2 + 1)), (0, .ref (r1)), (1, .int a2), (3, .int x3)]) hx hb (dg ddJ7_fill_53178 12 rfl) hl (k := 2) rfl (congrArg (HAdd.hAdd x2) (by decide)) (by decide) rfl (fun ls hl => ?_)
      refine lv_goto (tgt := 5) hx hb (dg ddJ7_fill_53178 13 rfl) (by decide) ?_
      exact ih (x2 + 1) x3 (upd w1 x2.toNatClampNeg a2) _ _ hP hD hS _ (lv_sub hl [1, 2, 0, 3] rfl) hf
  refine lv_iconst (v := 0) hx hb (dg ddJ7_fill_53178 0 rfl) (by decide) ?_
  refine lv_istore_n (lv' := [(2, .int 0), (0, .ref (r1)), (1, .int a2)]) hx hb (dg ddJ7_fill_53178 1 rfl) rfl hl (by decide) rfl (fun ls hl => ?_)
  refine lv_aload_n hx hb (dg ddJ7_fill_53178 2 rfl) rfl (lv_at hl 1 rfl) ?_
  refine va_alen hx hb hK hP 0 0 rfl rfl (v := Int32.ofNat n1) rfl (dg ddJ7_fill_53178 3 rfl) ?_
  refine lv_istore_n (lv' := [(3, .int (Int32.ofNat n1)), (2, .int 0), (0, .ref (r1)), (1, .int a2)]) hx hb (dg ddJ7_fill_53178 4 rfl) rfl hl (by decide) rfl (fun ls hl => ?_)
  exact K5 4096 0 (Int32.ofNat n1) w1 _ _ hP hD hS _ (lv_sub hl [2, 3, 1, 0] rfl) hf
def f_X3_layRow_c10  (v_kin : Nat → Int32) (v_lou : Nat → Int32) (v_pit : Nat → Int32) : Nat → Int32 → (Nat → UInt32) → Option ((Nat → UInt32))
  | 0, _, _ => none
  | n + 1, x1, v_row => if 8 ≤ x1 then (some v_row) else (og (inb x1 8) (ob (f_X4_isPitch (v_pit x1.toNatClampNeg)) fun r4 => (if r4 = 0 then (f_X3_layRow_c10 v_kin v_lou v_pit n (x1 + 1) v_row) else (og (inb x1 8) (ob (f_X3_noiseOfBusker v_kin v_lou x1) fun r8 => (og (inb ((v_pit x1.toNatClampNeg) + 1) 10) (f_X3_layRow_c10 v_kin v_lou v_pit n (x1 + 1) (vf_upd v_row ((v_pit x1.toNatClampNeg) + 1).toNatClampNeg r8))))))))
def f_X3_layRow (v_kin : Nat → Int32) (v_lou : Nat → Int32) (v_pit : Nat → Int32) (v_row : Nat → UInt32) : Option ((Nat → UInt32)) := ob (f_J7_fill_e525d 10 v_row FP.fconst0) fun r2 => (f_X3_layRow_c10 v_kin v_lou v_pit 4096 0 r2)
set_option maxHeartbeats 4000000 in
set_option maxRecDepth 100000 in
theorem c_X3_layRow (l : Launch) (D : va_G) (cy : Nat → ClassId) (q : Nat → Nat) (v_hour : Int32) (v_crowd : Int32) (v_buskers : Int32) (v_answered : Int32) (v_draws : Int32) (v_lim : Nat → UInt32) (v_cmp : Nat → Int32) (v_sof : Nat → Int32) (v_kin : Nat → Int32) (v_lou : Nat → Int32) (v_pit : Nat → Int32) (v_pla : Nat → Int32) (v_cas : Nat → Int32) (v_hrs : Nat → Int32) (v_nws : Nat → Int32) (v_hat : Nat → UInt32) (v_wea : Nat → UInt32) (v_row : Nat → UInt32) (sz : Nat) {res : (Nat → UInt32)} (hf : f_X3_layRow v_kin v_lou v_pit v_row = some res) : Met l yX3_layRow (.code yX3_layRow cX3_layRow 2 none :: lw_all) { frames := 2, cells := 0, slots := 0, locals := 35 } (va_Pc [.ref (q 0)] (sW D cy (wX3 q cy v_hour v_crowd v_buskers v_answered v_draws v_lim v_cmp v_sof v_kin v_lou v_pit v_pla v_cas v_hrs v_nws v_hat v_wea v_row) sz)) (qV D (wX3 q cy v_hour v_crowd v_buskers v_answered v_draws v_lim v_cmp v_sof v_kin v_lou v_pit v_pla v_cas v_hrs v_nws v_hat v_wea res) (va_A (wX3 q cy v_hour v_crowd v_buskers v_answered v_draws v_lim v_cmp v_sof v_kin v_lou v_pit v_pla v_cas v_hrs v_nws v_hat v_wea v_row) sz)) 0 0 (va_A (wX3 q cy v_hour v_crowd v_buskers v_answered v_draws v_lim v_cmp v_sof v_kin v_lou v_pit v_pla v_cas v_hrs v_nws v_hat v_wea v_row) sz) := by
  refine mk_rw (Qc := qV D (wX3 q cy v_hour v_crowd v_buskers v_answered v_draws v_lim v_cmp v_sof v_kin v_lou v_pit v_pla v_cas v_hrs v_nws v_hat v_wea res) ) (Rc := RX3) (by decide +kernel) rfl (Nat.le_of_ble_eq_true rfl) ?_
  intro p e s m args below meth c ls A CX hml hr hlk hK hN hP hD hS hA hl
  have hx := CX.1
  have hb := CX.2.1
  have hRMJ7_fill_e525d : (⟨1, 0, 0, 12⟩ : Room).frames + 1 ≤ (⟨2, 0, 0, 35⟩ : Room).frames ∧ 8 + (4 + 11) + (⟨1, 0, 0, 12⟩ : Room).locals ≤ (⟨2, 0, 0, 35⟩ : Room).locals := ⟨Nat.le_of_ble_eq_true rfl, Nat.le_of_ble_eq_true rfl⟩
  have hRMX3_noiseOfBusker : (⟨1, 0, 0, 12⟩ : Room).frames + 1 ≤ (⟨2, 0, 0, 35⟩ : Room).frames ∧ 8 + (3 + 11) + (⟨1, 0, 0, 12⟩ : Room).locals ≤ (⟨2, 0, 0, 35⟩ : Room).locals := ⟨Nat.le_of_ble_eq_true rfl, Nat.le_of_ble_eq_true rfl⟩
  have hRMX4_isPitch : (⟨1, 0, 0, 12⟩ : Room).frames + 1 ≤ (⟨2, 0, 0, 35⟩ : Room).frames ∧ 8 + (1 + 11) + (⟨1, 0, 0, 12⟩ : Room).locals ≤ (⟨2, 0, 0, 35⟩ : Room).locals := ⟨Nat.le_of_ble_eq_true rfl, Nat.le_of_ble_eq_true rfl⟩
  have hl0 := hl
  have K10 : ∀ (n : Nat), ∀ (x1 : Int32) (v_row : Nat → UInt32) (H : Heap) (locs : List Loc) (hP : va_P D vwCl (wX3 q cy v_hour v_crowd v_buskers v_answered v_draws v_lim v_cmp v_sof v_kin v_lou v_pit v_pla v_cas v_hrs v_nws v_hat v_wea v_row) H) (hD : va_D A (wX3 q cy v_hour v_crowd v_buskers v_answered v_draws v_lim v_cmp v_sof v_kin v_lou v_pit v_pla v_cas v_hrs v_nws v_hat v_wea v_row)) (hS : va_S A s.heap H locs) (ls : Array Slot) (hl : lv_has ls 2 [(0, .ref (q 0)), (1, .int x1)]) (hf : f_X3_layRow_c10 v_kin v_lou v_pit n x1 v_row = some res), W p l e ⟨2, 0, 0, 35⟩ s m args below meth c H locs 0 0 (MQ below (qV D (wX3 q cy v_hour v_crowd v_buskers v_answered v_draws v_lim v_cmp v_sof v_kin v_lou v_pit v_pla v_cas v_hrs v_nws v_hat v_wea res) A) args s 0 0 A) (F0 m 10 ls []) := by
    intro n
    induction n with
    | zero => intro x1 v_row H locs hP hD hS ls hl hf; cases (show none = some res from hf)
    | succ n ih =>
    intro x1 v_row H locs hP hD hS ls hl hf
    refine lv_iload_n hx hb (dg ddX3_layRow 6 rfl) rfl (lv_at hl 1 rfl) ?_
    refine lv_bipush (v := 8) hx hb (dg ddX3_layRow 7 rfl) (by decide) ?_
    refine lv_icmp_ge (tgt := 52) hx hb (dg ddX3_layRow 8 rfl) (by decide) (fun h1 => ?_) (fun h1 => ?_)
    · have hf := it_t h1 hf
      cases hf
      exact e_wv CX hr hlk hP hD hS (dg ddX3_layRow 29 rfl)
    · have hf := it_f h1 hf
      refine lv_aload_n hx hb (dg ddX3_layRow 9 rfl) rfl (lv_at hl 0 rfl) ?_
      refine gf_RX3_44 CX hK hP 0 rfl rfl (dg ddX3_layRow 10 rfl) ?_
      refine lv_iload_n hx hb (dg ddX3_layRow 11 rfl) rfl (lv_at hl 1 rfl) ?_
      obtain ⟨h2, hf⟩ := og_some hf
      refine va_iald hx hb hK hP 6 0 rfl rfl (inb_in h2) (dg ddX3_layRow 12 rfl) ?_
      obtain ⟨r4, e3, hf⟩ := ob_some hf
      refine cro_sni CX hml (As := [.int (v_pit x1.toNatClampNeg)]) (rest := []) (c_X4_isPitch l D cy (v_pit x1.toNatClampNeg) e3) lk_RX3_84 rfl rfl hRMX4_isPitch vaP_nil hK hN rfl hl.1 rfl (Nat.le_of_ble_eq_true rfl) ⟨Nat.le_of_ble_eq_true rfl, Nat.le_of_ble_eq_true rfl⟩ (dg ddX3_layRow 13 rfl) ?_
      refine lv_if_eq (tgt := 46) hx hb (dg ddX3_layRow 14 rfl) (by decide) (fun h5 => ?_) (fun h5 => ?_)
      · have hf := it_t h5 hf
        refine lv_iinc (v := x1 + 1) (lv' := [(1, .int (x1 + 1)), (0, .ref (q 0))]) hx hb (dg ddX3_layRow 27 rfl) hl (k := 1) rfl (congrArg (HAdd.hAdd x1) (by decide)) (by decide) rfl (fun ls hl => ?_)
        refine lv_goto (tgt := 10) hx hb (dg ddX3_layRow 28 rfl) (by decide) ?_
        exact ih (x1 + 1) v_row _ _ hP hD hS _ (lv_sub hl [1, 0] rfl) hf
      · have hf := it_f h5 hf
        refine lv_aload_n hx hb (dg ddX3_layRow 15 rfl) rfl (lv_at hl 0 rfl) ?_
        refine gf_RX3_65 CX hK hP 0 rfl rfl (dg ddX3_layRow 16 rfl) ?_
        refine lv_aload_n hx hb (dg ddX3_layRow 17 rfl) rfl (lv_at hl 0 rfl) ?_
        refine gf_RX3_44 CX hK hP 0 rfl rfl (dg ddX3_layRow 18 rfl) ?_
        refine lv_iload_n hx hb (dg ddX3_layRow 19 rfl) rfl (lv_at hl 1 rfl) ?_
        obtain ⟨h6, hf⟩ := og_some hf
        refine va_iald hx hb hK hP 6 0 rfl rfl (inb_in h6) (dg ddX3_layRow 20 rfl) ?_
        refine lv_iconst (v := 1) hx hb (dg ddX3_layRow 21 rfl) (by decide) ?_
        refine lv_iadd hx hb (dg ddX3_layRow 22 rfl) ?_
        refine lv_aload_n hx hb (dg ddX3_layRow 23 rfl) rfl (lv_at hl 0 rfl) ?_
        refine lv_iload_n hx hb (dg ddX3_layRow 24 rfl) rfl (lv_at hl 1 rfl) ?_
        obtain ⟨r8, e7, hf⟩ := ob_some hf
        refine cro_vf CX hml (As := [.int x1]) (rest := [.int ((v_pit x1.toNatClampNeg) + 1), .ref (q 13)]) (c_X3_noiseOfBusker l D cy q v_hour v_crowd v_buskers v_answered v_draws v_lim v_cmp v_sof v_kin v_lou v_pit v_pla v_cas v_hrs v_nws v_hat v_wea v_row x1 e7) lk_RX3_115 rfl rfl hRMX3_noiseOfBusker hP hK hN 0 rfl rfl rfl hl.1 rfl (Nat.le_of_ble_eq_true rfl) ⟨Nat.le_of_ble_eq_true rfl, Nat.le_of_ble_eq_true rfl⟩ (dg ddX3_layRow 25 rfl) ?_
        obtain ⟨h9, hf⟩ := og_some hf
        refine va_fast hx hb hK hP hD hS 13 1 rfl rfl (inb_in h9) (dg ddX3_layRow 26 rfl) (fun H locs hP hD hS => ?_)
        have hP : va_P D vwCl (wX3 q cy v_hour v_crowd v_buskers v_answered v_draws v_lim v_cmp v_sof v_kin v_lou v_pit v_pla v_cas v_hrs v_nws v_hat v_wea (vf_upd v_row ((v_pit x1.toNatClampNeg) + 1).toNatClampNeg r8)) H := hP
        have hD : va_D A (wX3 q cy v_hour v_crowd v_buskers v_answered v_draws v_lim v_cmp v_sof v_kin v_lou v_pit v_pla v_cas v_hrs v_nws v_hat v_wea (vf_upd v_row ((v_pit x1.toNatClampNeg) + 1).toNatClampNeg r8)) := hD
        refine lv_iinc (v := x1 + 1) (lv' := [(1, .int (x1 + 1)), (0, .ref (q 0))]) hx hb (dg ddX3_layRow 27 rfl) hl (k := 1) rfl (congrArg (HAdd.hAdd x1) (by decide)) (by decide) rfl (fun ls hl => ?_)
        refine lv_goto (tgt := 10) hx hb (dg ddX3_layRow 28 rfl) (by decide) ?_
        exact ih (x1 + 1) (vf_upd v_row ((v_pit x1.toNatClampNeg) + 1).toNatClampNeg r8) _ _ hP hD hS _ (lv_sub hl [1, 0] rfl) hf
  refine lv_aload_n hx hb (dg ddX3_layRow 0 rfl) rfl (lv_at hl 0 rfl) ?_
  refine gf_RX3_65 CX hK hP 0 rfl rfl (dg ddX3_layRow 1 rfl) ?_
  refine lv_fconst0 hx hb (dg ddX3_layRow 2 rfl) ?_
  obtain ⟨r2, e1, hf⟩ := ob_some hf
  refine crs1 CX hml (As := [.ref (q 13), .float FP.fconst0]) (rest := []) (ws := (wX3 q cy v_hour v_crowd v_buskers v_answered v_draws v_lim v_cmp v_sof v_kin v_lou v_pit v_pla v_cas v_hrs v_nws v_hat v_wea v_row)) (wsn := (wX3 q cy v_hour v_crowd v_buskers v_answered v_draws v_lim v_cmp v_sof v_kin v_lou v_pit v_pla v_cas v_hrs v_nws v_hat v_wea r2)) (k := 13) (c_J7_fill_e525d l D cy (q 13) 10 v_row FP.fconst0 _ e1) lk_RX3_69 rfl rfl hRMJ7_fill_e525d hP hD hS hA hK hN rfl rfl rfl hl.1 rfl (Nat.le_of_ble_eq_true rfl) ⟨Nat.le_of_ble_eq_true rfl, Nat.le_of_ble_eq_true rfl⟩ (dg ddX3_layRow 3 rfl) (fun H locs hP hD hS => ?_)
  refine lv_iconst (v := 0) hx hb (dg ddX3_layRow 4 rfl) (by decide) ?_
  refine lv_istore_n (lv' := [(1, .int 0), (0, .ref (q 0))]) hx hb (dg ddX3_layRow 5 rfl) rfl hl (by decide) rfl (fun ls hl => ?_)
  exact K10 4096 0 r2 _ _ hP hD hS _ (lv_sub hl [1, 0] rfl) hf
def f_X3_passHours_c16 (rec4 : Int32 → Int32 → Int32 → (Nat → Int32) → (Nat → Int32) → (Nat → Int32) → (Nat → Int32) → (Nat → UInt32) → (Nat → UInt32) → (Nat → UInt32) → Option (Int32 × Int32 × (Nat → Int32) × (Nat → Int32) × (Nat → Int32) × (Nat → Int32) × (Nat → UInt32) × (Nat → UInt32) × (Nat → UInt32))) (v_crowd : Int32) (v_lim : Nat → UInt32) (v_kin : Nat → Int32) (v_lou : Nat → Int32) (a1 : Int32) : Nat → Int32 → Int32 → Int32 → Int32 → (Nat → Int32) → (Nat → Int32) → (Nat → Int32) → (Nat → Int32) → (Nat → UInt32) → (Nat → UInt32) → (Nat → UInt32) → Option (Int32 × Int32 × (Nat → Int32) × (Nat → Int32) × (Nat → Int32) × (Nat → Int32) × (Nat → UInt32) × (Nat → UInt32) × (Nat → UInt32))
  | 0, _, _, _, _, _, _, _, _, _, _, _ => none
  | n + 1, x2, x3, x4, v_hour, v_cmp, v_sof, v_pit, v_hrs, v_hat, v_wea, v_row => if 8 ≤ x4 then (rec4 x2 (x3 + 1) (v_hour + 1) v_cmp v_sof v_pit v_hrs v_hat v_wea v_row) else (ob (f_X3_playerOn v_pit x4) fun r3 => (if r3 = (-1) then (f_X3_passHours_c16 rec4 v_crowd v_lim v_kin v_lou a1 n x2 x3 (x4 + 1) v_hour v_cmp v_sof v_pit v_hrs v_hat v_wea v_row) else (ob (f_X3_playHour v_crowd v_lim v_cmp v_sof v_kin v_lou v_hrs v_hat v_wea v_row x4 r3) fun r6 => (if r6.1 = 0 then (f_X3_passHours_c16 rec4 v_crowd v_lim v_kin v_lou a1 n x2 x3 (x4 + 1) v_hour r6.2.1 r6.2.2.1 v_pit r6.2.2.2.1 r6.2.2.2.2.1 r6.2.2.2.2.2 v_row) else (og (inb r3 8) (f_X3_passHours_c16 rec4 v_crowd v_lim v_kin v_lou a1 n (x2 + 1) x3 (x4 + 1) v_hour r6.2.1 r6.2.2.1 (upd v_pit r3.toNatClampNeg (-1)) r6.2.2.2.1 r6.2.2.2.2.1 r6.2.2.2.2.2 v_row))))))
def f_X3_passHours_c4  (v_crowd : Int32) (v_lim : Nat → UInt32) (v_kin : Nat → Int32) (v_lou : Nat → Int32) (a1 : Int32) : Nat → Int32 → Int32 → Int32 → (Nat → Int32) → (Nat → Int32) → (Nat → Int32) → (Nat → Int32) → (Nat → UInt32) → (Nat → UInt32) → (Nat → UInt32) → Option (Int32 × Int32 × (Nat → Int32) × (Nat → Int32) × (Nat → Int32) × (Nat → Int32) × (Nat → UInt32) × (Nat → UInt32) × (Nat → UInt32))
  | 0, _, _, _, _, _, _, _, _, _, _ => none
  | n + 1, x2, x3, v_hour, v_cmp, v_sof, v_pit, v_hrs, v_hat, v_wea, v_row => if a1 ≤ x3 then (some (x2, v_hour, v_cmp, v_sof, v_pit, v_hrs, v_hat, v_wea, v_row)) else (ob (f_X3_layRow v_kin v_lou v_pit v_row) fun r3 => (f_X3_passHours_c16 (f_X3_passHours_c4 v_crowd v_lim v_kin v_lou a1 n) v_crowd v_lim v_kin v_lou a1 4096 x2 x3 0 v_hour v_cmp v_sof v_pit v_hrs v_hat v_wea r3))
def f_X3_passHours (v_hour : Int32) (v_crowd : Int32) (v_lim : Nat → UInt32) (v_cmp : Nat → Int32) (v_sof : Nat → Int32) (v_kin : Nat → Int32) (v_lou : Nat → Int32) (v_pit : Nat → Int32) (v_hrs : Nat → Int32) (v_hat : Nat → UInt32) (v_wea : Nat → UInt32) (v_row : Nat → UInt32) (a1 : Int32) : Option (Int32 × Int32 × (Nat → Int32) × (Nat → Int32) × (Nat → Int32) × (Nat → Int32) × (Nat → UInt32) × (Nat → UInt32) × (Nat → UInt32)) := f_X3_passHours_c4 v_crowd v_lim v_kin v_lou a1 4096 0 0 v_hour v_cmp v_sof v_pit v_hrs v_hat v_wea v_row
set_option maxHeartbeats 4000000 in
set_option maxRecDepth 100000 in
theorem c_X3_passHours (l : Launch) (D : va_G) (cy : Nat → ClassId) (q : Nat → Nat) (v_hour : Int32) (v_crowd : Int32) (v_buskers : Int32) (v_answered : Int32) (v_draws : Int32) (v_lim : Nat → UInt32) (v_cmp : Nat → Int32) (v_sof : Nat → Int32) (v_kin : Nat → Int32) (v_lou : Nat → Int32) (v_pit : Nat → Int32) (v_pla : Nat → Int32) (v_cas : Nat → Int32) (v_hrs : Nat → Int32) (v_nws : Nat → Int32) (v_hat : Nat → UInt32) (v_wea : Nat → UInt32) (v_row : Nat → UInt32) (a1 : Int32) (sz : Nat) {res : Int32 × Int32 × (Nat → Int32) × (Nat → Int32) × (Nat → Int32) × (Nat → Int32) × (Nat → UInt32) × (Nat → UInt32) × (Nat → UInt32)} (hf : f_X3_passHours v_hour v_crowd v_lim v_cmp v_sof v_kin v_lou v_pit v_hrs v_hat v_wea v_row a1 = some res) : Met l yX3_passHours (.code yX3_passHours cX3_passHours 6 (some .int) :: lw_all) { frames := 3, cells := 0, slots := 0, locals := 58 } (va_Pc [.ref (q 0), .int a1] (sW D cy (wX3 q cy v_hour v_crowd v_buskers v_answered v_draws v_lim v_cmp v_sof v_kin v_lou v_pit v_pla v_cas v_hrs v_nws v_hat v_wea v_row) sz)) (qI D (wX3 q cy res.2.1 v_crowd v_buskers v_answered v_draws v_lim res.2.2.1 res.2.2.2.1 v_kin v_lou res.2.2.2.2.1 v_pla v_cas res.2.2.2.2.2.1 v_nws res.2.2.2.2.2.2.1 res.2.2.2.2.2.2.2.1 res.2.2.2.2.2.2.2.2) res.1 (va_A (wX3 q cy v_hour v_crowd v_buskers v_answered v_draws v_lim v_cmp v_sof v_kin v_lou v_pit v_pla v_cas v_hrs v_nws v_hat v_wea v_row) sz)) 0 0 (va_A (wX3 q cy v_hour v_crowd v_buskers v_answered v_draws v_lim v_cmp v_sof v_kin v_lou v_pit v_pla v_cas v_hrs v_nws v_hat v_wea v_row) sz) := by
  refine mk_rw (Qc := qI D (wX3 q cy res.2.1 v_crowd v_buskers v_answered v_draws v_lim res.2.2.1 res.2.2.2.1 v_kin v_lou res.2.2.2.2.1 v_pla v_cas res.2.2.2.2.2.1 v_nws res.2.2.2.2.2.2.1 res.2.2.2.2.2.2.2.1 res.2.2.2.2.2.2.2.2) res.1) (Rc := RX3) (by decide +kernel) rfl (Nat.le_of_ble_eq_true rfl) ?_
  intro p e s m args below meth c ls A CX hml hr hlk hK hN hP hD hS hA hl
  have hx := CX.1
  have hb := CX.2.1
  have hRMX3_layRow : (⟨2, 0, 0, 35⟩ : Room).frames + 1 ≤ (⟨3, 0, 0, 58⟩ : Room).frames ∧ 8 + (2 + 11) + (⟨2, 0, 0, 35⟩ : Room).locals ≤ (⟨3, 0, 0, 58⟩ : Room).locals := ⟨Nat.le_of_ble_eq_true rfl, Nat.le_of_ble_eq_true rfl⟩
  have hRMX3_playHour : (⟨2, 0, 0, 34⟩ : Room).frames + 1 ≤ (⟨3, 0, 0, 58⟩ : Room).frames ∧ 8 + (5 + 11) + (⟨2, 0, 0, 34⟩ : Room).locals ≤ (⟨3, 0, 0, 58⟩ : Room).locals := ⟨Nat.le_of_ble_eq_true rfl, Nat.le_of_ble_eq_true rfl⟩
  have hRMX3_playerOn : (⟨2, 0, 0, 32⟩ : Room).frames + 1 ≤ (⟨3, 0, 0, 58⟩ : Room).frames ∧ 8 + (3 + 11) + (⟨2, 0, 0, 32⟩ : Room).locals ≤ (⟨3, 0, 0, 58⟩ : Room).locals := ⟨Nat.le_of_ble_eq_true rfl, Nat.le_of_ble_eq_true rfl⟩
  have hl0 := hl
  have K16 : ∀ (rec4 : Int32 → Int32 → Int32 → (Nat → Int32) → (Nat → Int32) → (Nat → Int32) → (Nat → Int32) → (Nat → UInt32) → (Nat → UInt32) → (Nat → UInt32) → Option (Int32 × Int32 × (Nat → Int32) × (Nat → Int32) × (Nat → Int32) × (Nat → Int32) × (Nat → UInt32) × (Nat → UInt32) × (Nat → UInt32))) (hrec4 : ∀ (x2 : Int32) (x3 : Int32) (v_hour : Int32) (v_cmp : Nat → Int32) (v_sof : Nat → Int32) (v_pit : Nat → Int32) (v_hrs : Nat → Int32) (v_hat : Nat → UInt32) (v_wea : Nat → UInt32) (v_row : Nat → UInt32) (H : Heap) (locs : List Loc) (hP : va_P D vwCl (wX3 q cy v_hour v_crowd v_buskers v_answered v_draws v_lim v_cmp v_sof v_kin v_lou v_pit v_pla v_cas v_hrs v_nws v_hat v_wea v_row) H) (hD : va_D A (wX3 q cy v_hour v_crowd v_buskers v_answered v_draws v_lim v_cmp v_sof v_kin v_lou v_pit v_pla v_cas v_hrs v_nws v_hat v_wea v_row)) (hS : va_S A s.heap H locs) (ls : Array Slot) (hl : lv_has ls 6 [(0, .ref (q 0)), (1, .int a1), (2, .int x2), (3, .int x3)]) (hf : rec4 x2 x3 v_hour v_cmp v_sof v_pit v_hrs v_hat v_wea v_row = some res), W p l e ⟨3, 0, 0, 58⟩ s m args below meth c H locs 0 0 (MQ below (qI D (wX3 q cy res.2.1 v_crowd v_buskers v_answered v_draws v_lim res.2.2.1 res.2.2.2.1 v_kin v_lou res.2.2.2.2.1 v_pla v_cas res.2.2.2.2.2.1 v_nws res.2.2.2.2.2.2.1 res.2.2.2.2.2.2.2.1 res.2.2.2.2.2.2.2.2) res.1 A) args s 0 0 A) (F0 m 4 ls [])) (n : Nat), ∀ (x2 : Int32) (x3 : Int32) (x4 : Int32) (v_hour : Int32) (v_cmp : Nat → Int32) (v_sof : Nat → Int32) (v_pit : Nat → Int32) (v_hrs : Nat → Int32) (v_hat : Nat → UInt32) (v_wea : Nat → UInt32) (v_row : Nat → UInt32) (H : Heap) (locs : List Loc) (hP : va_P D vwCl (wX3 q cy v_hour v_crowd v_buskers v_answered v_draws v_lim v_cmp v_sof v_kin v_lou v_pit v_pla v_cas v_hrs v_nws v_hat v_wea v_row) H) (hD : va_D A (wX3 q cy v_hour v_crowd v_buskers v_answered v_draws v_lim v_cmp v_sof v_kin v_lou v_pit v_pla v_cas v_hrs v_nws v_hat v_wea v_row)) (hS : va_S A s.heap H locs) (ls : Array Slot) (hl : lv_has ls 6 [(0, .ref (q 0)), (1, .int a1), (2, .int x2), (3, .int x3), (4, .int x4)]) (hf : f_X3_passHours_c16 rec4 v_crowd v_lim v_kin v_lou a1 n x2 x3 x4 v_hour v_cmp v_sof v_pit v_hrs v_hat v_wea v_row = some res), W p l e ⟨3, 0, 0, 58⟩ s m args below meth c H locs 0 0 (MQ below (qI D (wX3 q cy res.2.1 v_crowd v_buskers v_answered v_draws v_lim res.2.2.1 res.2.2.2.1 v_kin v_lou res.2.2.2.2.1 v_pla v_cas res.2.2.2.2.2.1 v_nws res.2.2.2.2.2.2.1 res.2.2.2.2.2.2.2.1 res.2.2.2.2.2.2.2.2) res.1 A) args s 0 0 A) (F0 m 16 ls []) := by
    intro rec4 hrec4 n
    induction n with
    | zero => intro x2 x3 x4 v_hour v_cmp v_sof v_pit v_hrs v_hat v_wea v_row H locs hP hD hS ls hl hf; cases (show none = some res from hf)
    | succ n ih =>
    intro x2 x3 x4 v_hour v_cmp v_sof v_pit v_hrs v_hat v_wea v_row H locs hP hD hS ls hl hf
    refine lv_iload hx hb (dg ddX3_passHours 11 rfl) (lv_at hl 4 rfl) ?_
    refine lv_bipush (v := 8) hx hb (dg ddX3_passHours 12 rfl) (by decide) ?_
    refine lv_icmp_ge (tgt := 65) hx hb (dg ddX3_passHours 13 rfl) (by decide) (fun h1 => ?_) (fun h1 => ?_)
    · have hf := it_t h1 hf
      refine lv_aload_n hx hb (dg ddX3_passHours 34 rfl) rfl (lv_at hl 0 rfl) ?_
      refine lv_dup hx hb (dg ddX3_passHours 35 rfl) rfl ?_
      refine gf_RX3_9 CX hK hP 0 rfl rfl (dg ddX3_passHours 36 rfl) ?_
      refine lv_iconst (v := 1) hx hb (dg ddX3_passHours 37 rfl) (by decide) ?_
      refine lv_iadd hx hb (dg ddX3_passHours 38 rfl) ?_
      refine pf_RX3_9 CX hK hP hD hS 0 rfl (dg ddX3_passHours 39 rfl) (Nat.le_of_ble_eq_true rfl) (fun H locs hP hD hS => ?_)
      have hP : va_P D vwCl (wX3 q cy (v_hour + 1) v_crowd v_buskers v_answered v_draws v_lim v_cmp v_sof v_kin v_lou v_pit v_pla v_cas v_hrs v_nws v_hat v_wea v_row) H := hP
      have hD : va_D A (wX3 q cy (v_hour + 1) v_crowd v_buskers v_answered v_draws v_lim v_cmp v_sof v_kin v_lou v_pit v_pla v_cas v_hrs v_nws v_hat v_wea v_row) := hD
      refine lv_iinc (v := x3 + 1) (lv' := [(3, .int (x3 + 1)), (0, .ref (q 0)), (1, .int a1), (2, .int x2), (4, .int x4)]) hx hb (dg ddX3_passHours 40 rfl) hl (k := 3) rfl (congrArg (HAdd.hAdd x3) (by decide)) (by decide) rfl (fun ls hl => ?_)
      refine lv_goto (tgt := 4) hx hb (dg ddX3_passHours 41 rfl) (by decide) ?_
      exact hrec4 x2 (x3 + 1) (v_hour + 1) v_cmp v_sof v_pit v_hrs v_hat v_wea v_row _ _ hP hD hS _ (lv_sub hl [1, 2, 3, 0] rfl) hf
    · have hf := it_f h1 hf
      refine lv_aload_n hx hb (dg ddX3_passHours 14 rfl) rfl (lv_at hl 0 rfl) ?_
      refine lv_iload hx hb (dg ddX3_passHours 15 rfl) (lv_at hl 4 rfl) ?_
      obtain ⟨r3, e2, hf⟩ := ob_some hf
      refine cro_vi CX hml (As := [.int x4]) (rest := []) (c_X3_playerOn l D cy q v_hour v_crowd v_buskers v_answered v_draws v_lim v_cmp v_sof v_kin v_lou v_pit v_pla v_cas v_hrs v_nws v_hat v_wea v_row x4 e2) lk_RX3_102 rfl rfl hRMX3_playerOn hP hK hN 0 rfl rfl rfl hl.1 rfl (Nat.le_of_ble_eq_true rfl) ⟨Nat.le_of_ble_eq_true rfl, Nat.le_of_ble_eq_true rfl⟩ (dg ddX3_passHours 16 rfl) ?_
      refine lv_istore (lv' := [(5, .int r3), (0, .ref (q 0)), (1, .int a1), (2, .int x2), (3, .int x3), (4, .int x4)]) hx hb (dg ddX3_passHours 17 rfl) hl (by decide) rfl (fun ls hl => ?_)
      refine lv_iload hx hb (dg ddX3_passHours 18 rfl) (lv_at hl 0 rfl) ?_
      refine lv_iconst (v := (-1)) hx hb (dg ddX3_passHours 19 rfl) (by decide) ?_
      refine lv_icmp_eq (tgt := 59) hx hb (dg ddX3_passHours 20 rfl) (by decide) (fun h4 => ?_) (fun h4 => ?_)
      · have hf := it_t h4 hf
        refine lv_iinc (v := x4 + 1) (lv' := [(4, .int (x4 + 1)), (5, .int r3), (0, .ref (q 0)), (1, .int a1), (2, .int x2), (3, .int x3)]) hx hb (dg ddX3_passHours 32 rfl) hl (k := 5) rfl (congrArg (HAdd.hAdd x4) (by decide)) (by decide) rfl (fun ls hl => ?_)
        refine lv_goto (tgt := 16) hx hb (dg ddX3_passHours 33 rfl) (by decide) ?_
        exact ih x2 x3 (x4 + 1) v_hour v_cmp v_sof v_pit v_hrs v_hat v_wea v_row _ _ hP hD hS _ (lv_sub hl [2, 3, 4, 5, 0] rfl) hf
      · have hf := it_f h4 hf
        refine lv_aload_n hx hb (dg ddX3_passHours 21 rfl) rfl (lv_at hl 1 rfl) ?_
        refine lv_iload hx hb (dg ddX3_passHours 22 rfl) (lv_at hl 5 rfl) ?_
        refine lv_iload hx hb (dg ddX3_passHours 23 rfl) (lv_at hl 0 rfl) ?_
        obtain ⟨r6, e5, hf⟩ := ob_some hf
        refine crw_vi CX hml (As := [.int x4, .int r3]) (rest := []) (c_X3_playHour l D cy q v_hour v_crowd v_buskers v_answered v_draws v_lim v_cmp v_sof v_kin v_lou v_pit v_pla v_cas v_hrs v_nws v_hat v_wea v_row x4 r3 _ e5) lk_RX3_138 rfl rfl hRMX3_playHour hP hD hS hA hK hN 0 rfl rfl rfl hl.1 rfl (Nat.le_of_ble_eq_true rfl) ⟨Nat.le_of_ble_eq_true rfl, Nat.le_of_ble_eq_true rfl⟩ (dg ddX3_passHours 24 rfl) (fun H locs hP hD hS => ?_)
        refine lv_if_eq (tgt := 59) hx hb (dg ddX3_passHours 25 rfl) (by decide) (fun h7 => ?_) (fun h7 => ?_)
        · have hf := it_t h7 hf
          refine lv_iinc (v := x4 + 1) (lv' := [(4, .int (x4 + 1)), (5, .int r3), (0, .ref (q 0)), (1, .int a1), (2, .int x2), (3, .int x3)]) hx hb (dg ddX3_passHours 32 rfl) hl (k := 5) rfl (congrArg (HAdd.hAdd x4) (by decide)) (by decide) rfl (fun ls hl => ?_)
          refine lv_goto (tgt := 16) hx hb (dg ddX3_passHours 33 rfl) (by decide) ?_
          exact ih x2 x3 (x4 + 1) v_hour r6.2.1 r6.2.2.1 v_pit r6.2.2.2.1 r6.2.2.2.2.1 r6.2.2.2.2.2 v_row _ _ hP hD hS _ (lv_sub hl [2, 3, 4, 5, 0] rfl) hf
        · have hf := it_f h7 hf
          refine lv_aload_n hx hb (dg ddX3_passHours 26 rfl) rfl (lv_at hl 1 rfl) ?_
          refine gf_RX3_44 CX hK hP 0 rfl rfl (dg ddX3_passHours 27 rfl) ?_
          refine lv_iload hx hb (dg ddX3_passHours 28 rfl) (lv_at hl 0 rfl) ?_
          refine lv_iconst (v := (-1)) hx hb (dg ddX3_passHours 29 rfl) (by decide) ?_
          obtain ⟨h8, hf⟩ := og_some hf
          refine va_iast hx hb hK hP hD hS 6 0 rfl rfl (inb_in h8) (dg ddX3_passHours 30 rfl) (fun H locs hP hD hS => ?_)
          have hP : va_P D vwCl (wX3 q cy v_hour v_crowd v_buskers v_answered v_draws v_lim r6.2.1 r6.2.2.1 v_kin v_lou (upd v_pit r3.toNatClampNeg (-1)) v_pla v_cas r6.2.2.2.1 v_nws r6.2.2.2.2.1 r6.2.2.2.2.2 v_row) H := hP
          have hD : va_D A (wX3 q cy v_hour v_crowd v_buskers v_answered v_draws v_lim r6.2.1 r6.2.2.1 v_kin v_lou (upd v_pit r3.toNatClampNeg (-1)) v_pla v_cas r6.2.2.2.1 v_nws r6.2.2.2.2.1 r6.2.2.2.2.2 v_row) := hD
          refine lv_iinc (v := x2 + 1) (lv' := [(2, .int (x2 + 1)), (5, .int r3), (0, .ref (q 0)), (1, .int a1), (3, .int x3), (4, .int x4)]) hx hb (dg ddX3_passHours 31 rfl) hl (k := 3) rfl (congrArg (HAdd.hAdd x2) (by decide)) (by decide) rfl (fun ls hl => ?_)
          refine lv_iinc (v := x4 + 1) (lv' := [(4, .int (x4 + 1)), (2, .int (x2 + 1)), (5, .int r3), (0, .ref (q 0)), (1, .int a1), (3, .int x3)]) hx hb (dg ddX3_passHours 32 rfl) hl (k := 5) rfl (congrArg (HAdd.hAdd x4) (by decide)) (by decide) rfl (fun ls hl => ?_)
          refine lv_goto (tgt := 16) hx hb (dg ddX3_passHours 33 rfl) (by decide) ?_
          exact ih (x2 + 1) x3 (x4 + 1) v_hour r6.2.1 r6.2.2.1 (upd v_pit r3.toNatClampNeg (-1)) r6.2.2.2.1 r6.2.2.2.2.1 r6.2.2.2.2.2 v_row _ _ hP hD hS _ (lv_sub hl [3, 4, 1, 5, 0] rfl) hf
  have K4 : ∀ (n : Nat), ∀ (x2 : Int32) (x3 : Int32) (v_hour : Int32) (v_cmp : Nat → Int32) (v_sof : Nat → Int32) (v_pit : Nat → Int32) (v_hrs : Nat → Int32) (v_hat : Nat → UInt32) (v_wea : Nat → UInt32) (v_row : Nat → UInt32) (H : Heap) (locs : List Loc) (hP : va_P D vwCl (wX3 q cy v_hour v_crowd v_buskers v_answered v_draws v_lim v_cmp v_sof v_kin v_lou v_pit v_pla v_cas v_hrs v_nws v_hat v_wea v_row) H) (hD : va_D A (wX3 q cy v_hour v_crowd v_buskers v_answered v_draws v_lim v_cmp v_sof v_kin v_lou v_pit v_pla v_cas v_hrs v_nws v_hat v_wea v_row)) (hS : va_S A s.heap H locs) (ls : Array Slot) (hl : lv_has ls 6 [(0, .ref (q 0)), (1, .int a1), (2, .int x2), (3, .int x3)]) (hf : f_X3_passHours_c4 v_crowd v_lim v_kin v_lou a1 n x2 x3 v_hour v_cmp v_sof v_pit v_hrs v_hat v_wea v_row = some res), W p l e ⟨3, 0, 0, 58⟩ s m args below meth c H locs 0 0 (MQ below (qI D (wX3 q cy res.2.1 v_crowd v_buskers v_answered v_draws v_lim res.2.2.1 res.2.2.2.1 v_kin v_lou res.2.2.2.2.1 v_pla v_cas res.2.2.2.2.2.1 v_nws res.2.2.2.2.2.2.1 res.2.2.2.2.2.2.2.1 res.2.2.2.2.2.2.2.2) res.1 A) args s 0 0 A) (F0 m 4 ls []) := by
    intro n
    induction n with
    | zero => intro x2 x3 v_hour v_cmp v_sof v_pit v_hrs v_hat v_wea v_row H locs hP hD hS ls hl hf; cases (show none = some res from hf)
    | succ n ih =>
    intro x2 x3 v_hour v_cmp v_sof v_pit v_hrs v_hat v_wea v_row H locs hP hD hS ls hl hf
    refine lv_iload_n hx hb (dg ddX3_passHours 4 rfl) rfl (lv_at hl 3 rfl) ?_
    refine lv_iload_n hx hb (dg ddX3_passHours 5 rfl) rfl (lv_at hl 1 rfl) ?_
    refine lv_icmp_ge (tgt := 81) hx hb (dg ddX3_passHours 6 rfl) (by decide) (fun h1 => ?_) (fun h1 => ?_)
    · have hf := it_t h1 hf
      refine lv_iload_n hx hb (dg ddX3_passHours 42 rfl) rfl (lv_at hl 2 rfl) ?_
      cases hf
      exact e_wi CX hr hlk rfl hP hD hS (dg ddX3_passHours 43 rfl)
    · have hf := it_f h1 hf
      refine lv_aload_n hx hb (dg ddX3_passHours 7 rfl) rfl (lv_at hl 0 rfl) ?_
      obtain ⟨r3, e2, hf⟩ := ob_some hf
      refine crw_vv CX hml (As := []) (rest := []) (c_X3_layRow l D cy q v_hour v_crowd v_buskers v_answered v_draws v_lim v_cmp v_sof v_kin v_lou v_pit v_pla v_cas v_hrs v_nws v_hat v_wea v_row _ e2) lk_RX3_135 rfl rfl hRMX3_layRow hP hD hS hA hK hN 0 rfl rfl rfl hl.1 rfl (Nat.le_of_ble_eq_true rfl) ⟨Nat.le_of_ble_eq_true rfl, Nat.le_of_ble_eq_true rfl⟩ (dg ddX3_passHours 8 rfl) (fun H locs hP hD hS => ?_)
      refine lv_iconst (v := 0) hx hb (dg ddX3_passHours 9 rfl) (by decide) ?_
      refine lv_istore (lv' := [(4, .int 0), (0, .ref (q 0)), (1, .int a1), (2, .int x2), (3, .int x3)]) hx hb (dg ddX3_passHours 10 rfl) hl (by decide) rfl (fun ls hl => ?_)
      exact K16 (f_X3_passHours_c4 v_crowd v_lim v_kin v_lou a1 n) ih 4096 x2 x3 0 v_hour v_cmp v_sof v_pit v_hrs v_hat v_wea r3 _ _ hP hD hS _ (lv_sub hl [1, 2, 3, 4, 0] rfl) hf
  refine lv_iconst (v := 0) hx hb (dg ddX3_passHours 0 rfl) (by decide) ?_
  refine lv_istore_n (lv' := [(2, .int 0), (0, .ref (q 0)), (1, .int a1)]) hx hb (dg ddX3_passHours 1 rfl) rfl hl (by decide) rfl (fun ls hl => ?_)
  refine lv_iconst (v := 0) hx hb (dg ddX3_passHours 2 rfl) (by decide) ?_
  refine lv_istore_n (lv' := [(3, .int 0), (2, .int 0), (0, .ref (q 0)), (1, .int a1)]) hx hb (dg ddX3_passHours 3 rfl) rfl hl (by decide) rfl (fun ls hl => ?_)
  exact K4 4096 0 0 v_hour v_cmp v_sof v_pit v_hrs v_hat v_wea v_row _ _ hP hD hS _ (lv_sub hl [2, 3, 1, 0] rfl) hf
def f_X3_copyFrom (v_hour : Int32) (v_crowd : Int32) (v_buskers : Int32) (v_answered : Int32) (v_draws : Int32) (v_lim : Nat → UInt32) (v_cmp : Nat → Int32) (v_sof : Nat → Int32) (v_kin : Nat → Int32) (v_lou : Nat → Int32) (v_pit : Nat → Int32) (v_pla : Nat → Int32) (v_cas : Nat → Int32) (v_hrs : Nat → Int32) (v_nws : Nat → Int32) (v_hat : Nat → UInt32) (v_wea : Nat → UInt32) (o_hour : Int32) (o_crowd : Int32) (o_buskers : Int32) (o_answered : Int32) (o_draws : Int32) (o_lim : Nat → UInt32) (o_cmp : Nat → Int32) (o_sof : Nat → Int32) (o_kin : Nat → Int32) (o_lou : Nat → Int32) (o_pit : Nat → Int32) (o_pla : Nat → Int32) (o_cas : Nat → Int32) (o_hrs : Nat → Int32) (o_nws : Nat → Int32) (o_hat : Nat → UInt32) (o_wea : Nat → UInt32) : Option (Int32 × Int32 × Int32 × Int32 × Int32 × (Nat → UInt32) × (Nat → Int32) × (Nat → Int32) × (Nat → Int32) × (Nat → Int32) × (Nat → Int32) × (Nat → Int32) × (Nat → Int32) × (Nat → Int32) × (Nat → Int32) × (Nat → UInt32) × (Nat → UInt32)) := some (o_hour, o_crowd, o_buskers, o_answered, o_draws, (va_cpy o_lim v_lim (0 : Int32).toNatClampNeg (0 : Int32).toNatClampNeg (8 : Int32).toNatClampNeg), (va_cpy o_cmp v_cmp (0 : Int32).toNatClampNeg (0 : Int32).toNatClampNeg (8 : Int32).toNatClampNeg), (va_cpy o_sof v_sof (0 : Int32).toNatClampNeg (0 : Int32).toNatClampNeg (8 : Int32).toNatClampNeg), (va_cpy o_kin v_kin (0 : Int32).toNatClampNeg (0 : Int32).toNatClampNeg (8 : Int32).toNatClampNeg), (va_cpy o_lou v_lou (0 : Int32).toNatClampNeg (0 : Int32).toNatClampNeg (8 : Int32).toNatClampNeg), (va_cpy o_pit v_pit (0 : Int32).toNatClampNeg (0 : Int32).toNatClampNeg (8 : Int32).toNatClampNeg), (va_cpy o_pla v_pla (0 : Int32).toNatClampNeg (0 : Int32).toNatClampNeg (8 : Int32).toNatClampNeg), (va_cpy o_cas v_cas (0 : Int32).toNatClampNeg (0 : Int32).toNatClampNeg (8 : Int32).toNatClampNeg), (va_cpy o_hrs v_hrs (0 : Int32).toNatClampNeg (0 : Int32).toNatClampNeg (8 : Int32).toNatClampNeg), (va_cpy o_nws v_nws (0 : Int32).toNatClampNeg (0 : Int32).toNatClampNeg (8 : Int32).toNatClampNeg), (va_cpy o_hat v_hat (0 : Int32).toNatClampNeg (0 : Int32).toNatClampNeg (8 : Int32).toNatClampNeg), (va_cpy o_wea v_wea (0 : Int32).toNatClampNeg (0 : Int32).toNatClampNeg (8 : Int32).toNatClampNeg))
set_option maxHeartbeats 4000000 in
set_option maxRecDepth 100000 in
theorem c_X3_copyFrom (l : Launch) (D : va_G) (cy : Nat → ClassId) (q : Nat → Nat) (qo : Nat → Nat) (v_hour : Int32) (v_crowd : Int32) (v_buskers : Int32) (v_answered : Int32) (v_draws : Int32) (v_lim : Nat → UInt32) (v_cmp : Nat → Int32) (v_sof : Nat → Int32) (v_kin : Nat → Int32) (v_lou : Nat → Int32) (v_pit : Nat → Int32) (v_pla : Nat → Int32) (v_cas : Nat → Int32) (v_hrs : Nat → Int32) (v_nws : Nat → Int32) (v_hat : Nat → UInt32) (v_wea : Nat → UInt32) (v_row : Nat → UInt32) (o_hour : Int32) (o_crowd : Int32) (o_buskers : Int32) (o_answered : Int32) (o_draws : Int32) (o_lim : Nat → UInt32) (o_cmp : Nat → Int32) (o_sof : Nat → Int32) (o_kin : Nat → Int32) (o_lou : Nat → Int32) (o_pit : Nat → Int32) (o_pla : Nat → Int32) (o_cas : Nat → Int32) (o_hrs : Nat → Int32) (o_nws : Nat → Int32) (o_hat : Nat → UInt32) (o_wea : Nat → UInt32) (o_row : Nat → UInt32) (sz : Nat) {res : Int32 × Int32 × Int32 × Int32 × Int32 × (Nat → UInt32) × (Nat → Int32) × (Nat → Int32) × (Nat → Int32) × (Nat → Int32) × (Nat → Int32) × (Nat → Int32) × (Nat → Int32) × (Nat → Int32) × (Nat → Int32) × (Nat → UInt32) × (Nat → UInt32)} (hf : f_X3_copyFrom v_hour v_crowd v_buskers v_answered v_draws v_lim v_cmp v_sof v_kin v_lou v_pit v_pla v_cas v_hrs v_nws v_hat v_wea o_hour o_crowd o_buskers o_answered o_draws o_lim o_cmp o_sof o_kin o_lou o_pit o_pla o_cas o_hrs o_nws o_hat o_wea = some res) : Met l yX3_copyFrom (.code yX3_copyFrom cX3_copyFrom 2 none :: lw_all) { frames := 1, cells := 0, slots := 0, locals := 40 } (va_Pc [.ref (q 0), .ref (qo 0)] (sW D cy (wX3 q cy v_hour v_crowd v_buskers v_answered v_draws v_lim v_cmp v_sof v_kin v_lou v_pit v_pla v_cas v_hrs v_nws v_hat v_wea v_row ++ wX3 qo cy o_hour o_crowd o_buskers o_answered o_draws o_lim o_cmp o_sof o_kin o_lou o_pit o_pla o_cas o_hrs o_nws o_hat o_wea o_row) sz)) (qV D (wX3 q cy res.1 res.2.1 res.2.2.1 res.2.2.2.1 res.2.2.2.2.1 res.2.2.2.2.2.1 res.2.2.2.2.2.2.1 res.2.2.2.2.2.2.2.1 res.2.2.2.2.2.2.2.2.1 res.2.2.2.2.2.2.2.2.2.1 res.2.2.2.2.2.2.2.2.2.2.1 res.2.2.2.2.2.2.2.2.2.2.2.1 res.2.2.2.2.2.2.2.2.2.2.2.2.1 res.2.2.2.2.2.2.2.2.2.2.2.2.2.1 res.2.2.2.2.2.2.2.2.2.2.2.2.2.2.1 res.2.2.2.2.2.2.2.2.2.2.2.2.2.2.2.1 res.2.2.2.2.2.2.2.2.2.2.2.2.2.2.2.2 v_row ++ wX3 qo cy o_hour o_crowd o_buskers o_answered o_draws o_lim o_cmp o_sof o_kin o_lou o_pit o_pla o_cas o_hrs o_nws o_hat o_wea o_row) (va_A (wX3 q cy v_hour v_crowd v_buskers v_answered v_draws v_lim v_cmp v_sof v_kin v_lou v_pit v_pla v_cas v_hrs v_nws v_hat v_wea v_row ++ wX3 qo cy o_hour o_crowd o_buskers o_answered o_draws o_lim o_cmp o_sof o_kin o_lou o_pit o_pla o_cas o_hrs o_nws o_hat o_wea o_row) sz)) 0 0 (va_A (wX3 q cy v_hour v_crowd v_buskers v_answered v_draws v_lim v_cmp v_sof v_kin v_lou v_pit v_pla v_cas v_hrs v_nws v_hat v_wea v_row ++ wX3 qo cy o_hour o_crowd o_buskers o_answered o_draws o_lim o_cmp o_sof o_kin o_lou o_pit o_pla o_cas o_hrs o_nws o_hat o_wea o_row) sz) := by
  refine mk_rw (Qc := qV D (wX3 q cy res.1 res.2.1 res.2.2.1 res.2.2.2.1 res.2.2.2.2.1 res.2.2.2.2.2.1 res.2.2.2.2.2.2.1 res.2.2.2.2.2.2.2.1 res.2.2.2.2.2.2.2.2.1 res.2.2.2.2.2.2.2.2.2.1 res.2.2.2.2.2.2.2.2.2.2.1 res.2.2.2.2.2.2.2.2.2.2.2.1 res.2.2.2.2.2.2.2.2.2.2.2.2.1 res.2.2.2.2.2.2.2.2.2.2.2.2.2.1 res.2.2.2.2.2.2.2.2.2.2.2.2.2.2.1 res.2.2.2.2.2.2.2.2.2.2.2.2.2.2.2.1 res.2.2.2.2.2.2.2.2.2.2.2.2.2.2.2.2 v_row ++ wX3 qo cy o_hour o_crowd o_buskers o_answered o_draws o_lim o_cmp o_sof o_kin o_lou o_pit o_pla o_cas o_hrs o_nws o_hat o_wea o_row) ) (Rc := RX3) (by decide +kernel) rfl (Nat.le_of_ble_eq_true rfl) ?_
  intro p e s m args below meth c ls A CX hml hr hlk hK hN hP hD hS hA hl
  have hx := CX.1
  have hb := CX.2.1
  refine lv_aload_n hx hb (dg ddX3_copyFrom 0 rfl) rfl (lv_at hl 0 rfl) ?_
  refine lv_aload_n hx hb (dg ddX3_copyFrom 1 rfl) rfl (lv_at hl 1 rfl) ?_
  refine gf_RX3_9 CX hK hP 14 rfl rfl (dg ddX3_copyFrom 2 rfl) ?_
  refine pf_RX3_9 CX hK hP hD hS 0 rfl (dg ddX3_copyFrom 3 rfl) (Nat.le_of_ble_eq_true rfl) (fun H locs hP hD hS => ?_)
  have hP : va_P D vwCl (wX3 q cy o_hour v_crowd v_buskers v_answered v_draws v_lim v_cmp v_sof v_kin v_lou v_pit v_pla v_cas v_hrs v_nws v_hat v_wea v_row ++ wX3 qo cy o_hour o_crowd o_buskers o_answered o_draws o_lim o_cmp o_sof o_kin o_lou o_pit o_pla o_cas o_hrs o_nws o_hat o_wea o_row) H := hP
  have hD : va_D A (wX3 q cy o_hour v_crowd v_buskers v_answered v_draws v_lim v_cmp v_sof v_kin v_lou v_pit v_pla v_cas v_hrs v_nws v_hat v_wea v_row ++ wX3 qo cy o_hour o_crowd o_buskers o_answered o_draws o_lim o_cmp o_sof o_kin o_lou o_pit o_pla o_cas o_hrs o_nws o_hat o_wea o_row) := hD
  refine lv_aload_n hx hb (dg ddX3_copyFrom 4 rfl) rfl (lv_at hl 0 rfl) ?_
  refine lv_aload_n hx hb (dg ddX3_copyFrom 5 rfl) rfl (lv_at hl 1 rfl) ?_
  refine gf_RX3_15 CX hK hP 14 rfl rfl (dg ddX3_copyFrom 6 rfl) ?_
  refine pf_RX3_15 CX hK hP hD hS 0 rfl (dg ddX3_copyFrom 7 rfl) (Nat.le_of_ble_eq_true rfl) (fun H locs hP hD hS => ?_)
  have hP : va_P D vwCl (wX3 q cy o_hour o_crowd v_buskers v_answered v_draws v_lim v_cmp v_sof v_kin v_lou v_pit v_pla v_cas v_hrs v_nws v_hat v_wea v_row ++ wX3 qo cy o_hour o_crowd o_buskers o_answered o_draws o_lim o_cmp o_sof o_kin o_lou o_pit o_pla o_cas o_hrs o_nws o_hat o_wea o_row) H := hP
  have hD : va_D A (wX3 q cy o_hour o_crowd v_buskers v_answered v_draws v_lim v_cmp v_sof v_kin v_lou v_pit v_pla v_cas v_hrs v_nws v_hat v_wea v_row ++ wX3 qo cy o_hour o_crowd o_buskers o_answered o_draws o_lim o_cmp o_sof o_kin o_lou o_pit o_pla o_cas o_hrs o_nws o_hat o_wea o_row) := hD
  refine lv_aload_n hx hb (dg ddX3_copyFrom 8 rfl) rfl (lv_at hl 0 rfl) ?_
  refine lv_aload_n hx hb (dg ddX3_copyFrom 9 rfl) rfl (lv_at hl 1 rfl) ?_
  refine gf_RX3_18 CX hK hP 14 rfl rfl (dg ddX3_copyFrom 10 rfl) ?_
  refine pf_RX3_18 CX hK hP hD hS 0 rfl (dg ddX3_copyFrom 11 rfl) (Nat.le_of_ble_eq_true rfl) (fun H locs hP hD hS => ?_)
  have hP : va_P D vwCl (wX3 q cy o_hour o_crowd o_buskers v_answered v_draws v_lim v_cmp v_sof v_kin v_lou v_pit v_pla v_cas v_hrs v_nws v_hat v_wea v_row ++ wX3 qo cy o_hour o_crowd o_buskers o_answered o_draws o_lim o_cmp o_sof o_kin o_lou o_pit o_pla o_cas o_hrs o_nws o_hat o_wea o_row) H := hP
  have hD : va_D A (wX3 q cy o_hour o_crowd o_buskers v_answered v_draws v_lim v_cmp v_sof v_kin v_lou v_pit v_pla v_cas v_hrs v_nws v_hat v_wea v_row ++ wX3 qo cy o_hour o_crowd o_buskers o_answered o_draws o_lim o_cmp o_sof o_kin o_lou o_pit o_pla o_cas o_hrs o_nws o_hat o_wea o_row) := hD
  refine lv_aload_n hx hb (dg ddX3_copyFrom 12 rfl) rfl (lv_at hl 0 rfl) ?_
  refine lv_aload_n hx hb (dg ddX3_copyFrom 13 rfl) rfl (lv_at hl 1 rfl) ?_
  refine gf_RX3_21 CX hK hP 14 rfl rfl (dg ddX3_copyFrom 14 rfl) ?_
  refine pf_RX3_21 CX hK hP hD hS 0 rfl (dg ddX3_copyFrom 15 rfl) (Nat.le_of_ble_eq_true rfl) (fun H locs hP hD hS => ?_)
  have hP : va_P D vwCl (wX3 q cy o_hour o_crowd o_buskers o_answered v_draws v_lim v_cmp v_sof v_kin v_lou v_pit v_pla v_cas v_hrs v_nws v_hat v_wea v_row ++ wX3 qo cy o_hour o_crowd o_buskers o_answered o_draws o_lim o_cmp o_sof o_kin o_lou o_pit o_pla o_cas o_hrs o_nws o_hat o_wea o_row) H := hP
  have hD : va_D A (wX3 q cy o_hour o_crowd o_buskers o_answered v_draws v_lim v_cmp v_sof v_kin v_lou v_pit v_pla v_cas v_hrs v_nws v_hat v_wea v_row ++ wX3 qo cy o_hour o_crowd o_buskers o_answered o_draws o_lim o_cmp o_sof o_kin o_lou o_pit o_pla o_cas o_hrs o_nws o_hat o_wea o_row) := hD
  refine lv_aload_n hx hb (dg ddX3_copyFrom 16 rfl) rfl (lv_at hl 0 rfl) ?_
  refine lv_aload_n hx hb (dg ddX3_copyFrom 17 rfl) rfl (lv_at hl 1 rfl) ?_
  refine gf_RX3_24 CX hK hP 14 rfl rfl (dg ddX3_copyFrom 18 rfl) ?_
  refine pf_RX3_24 CX hK hP hD hS 0 rfl (dg ddX3_copyFrom 19 rfl) (Nat.le_of_ble_eq_true rfl) (fun H locs hP hD hS => ?_)
  have hP : va_P D vwCl (wX3 q cy o_hour o_crowd o_buskers o_answered o_draws v_lim v_cmp v_sof v_kin v_lou v_pit v_pla v_cas v_hrs v_nws v_hat v_wea v_row ++ wX3 qo cy o_hour o_crowd o_buskers o_answered o_draws o_lim o_cmp o_sof o_kin o_lou o_pit o_pla o_cas o_hrs o_nws o_hat o_wea o_row) H := hP
  have hD : va_D A (wX3 q cy o_hour o_crowd o_buskers o_answered o_draws v_lim v_cmp v_sof v_kin v_lou v_pit v_pla v_cas v_hrs v_nws v_hat v_wea v_row ++ wX3 qo cy o_hour o_crowd o_buskers o_answered o_draws o_lim o_cmp o_sof o_kin o_lou o_pit o_pla o_cas o_hrs o_nws o_hat o_wea o_row) := hD
  refine lv_aload_n hx hb (dg ddX3_copyFrom 20 rfl) rfl (lv_at hl 1 rfl) ?_
  refine gf_RX3_27 CX hK hP 14 rfl rfl (dg ddX3_copyFrom 21 rfl) ?_
  refine lv_iconst (v := 0) hx hb (dg ddX3_copyFrom 22 rfl) (by decide) ?_
  refine lv_aload_n hx hb (dg ddX3_copyFrom 23 rfl) rfl (lv_at hl 0 rfl) ?_
  refine gf_RX3_27 CX hK hP 0 rfl rfl (dg ddX3_copyFrom 24 rfl) ?_
  refine lv_iconst (v := 0) hx hb (dg ddX3_copyFrom 25 rfl) (by decide) ?_
  refine lv_bipush (v := 8) hx hb (dg ddX3_copyFrom 26 rfl) (by decide) ?_
  refine va_copyf hx hb (hml.trans hl.1.symm) CX.2.2.2 (CX.2.2.1 (.methodLink RX3 78 arraycopyName) (lw_at 325 (by decide +kernel))) (CX.2.2.1 _ (mNat (by simp))) (CX.2.2.1 _ (mNat (by simp))) (CX.2.2.1 _ (mNat (by simp))) hK hP hD hS 15 1 1 1 rfl rfl rfl rfl rfl (by decide) (by decide) (by decide) (by decide) (by decide) (fun _ _ => rfl) (Nat.le_of_ble_eq_true rfl) (Nat.le_of_ble_eq_true rfl) (dg ddX3_copyFrom 27 rfl) (fun H locs hP hD hS => ?_)
  have hP : va_P D vwCl (wX3 q cy o_hour o_crowd o_buskers o_answered o_draws (va_cpy o_lim v_lim (0 : Int32).toNatClampNeg (0 : Int32).toNatClampNeg (8 : Int32).toNatClampNeg) v_cmp v_sof v_kin v_lou v_pit v_pla v_cas v_hrs v_nws v_hat v_wea v_row ++ wX3 qo cy o_hour o_crowd o_buskers o_answered o_draws o_lim o_cmp o_sof o_kin o_lou o_pit o_pla o_cas o_hrs o_nws o_hat o_wea o_row) H := hP
  have hD : va_D A (wX3 q cy o_hour o_crowd o_buskers o_answered o_draws (va_cpy o_lim v_lim (0 : Int32).toNatClampNeg (0 : Int32).toNatClampNeg (8 : Int32).toNatClampNeg) v_cmp v_sof v_kin v_lou v_pit v_pla v_cas v_hrs v_nws v_hat v_wea v_row ++ wX3 qo cy o_hour o_crowd o_buskers o_answered o_draws o_lim o_cmp o_sof o_kin o_lou o_pit o_pla o_cas o_hrs o_nws o_hat o_wea o_row) := hD
  refine lv_aload_n hx hb (dg ddX3_copyFrom 28 rfl) rfl (lv_at hl 1 rfl) ?_
  refine gf_RX3_31 CX hK hP 14 rfl rfl (dg ddX3_copyFrom 29 rfl) ?_
  refine lv_iconst (v := 0) hx hb (dg ddX3_copyFrom 30 rfl) (by decide) ?_
  refine lv_aload_n hx hb (dg ddX3_copyFrom 31 rfl) rfl (lv_at hl 0 rfl) ?_
  refine gf_RX3_31 CX hK hP 0 rfl rfl (dg ddX3_copyFrom 32 rfl) ?_
  refine lv_iconst (v := 0) hx hb (dg ddX3_copyFrom 33 rfl) (by decide) ?_
  refine lv_bipush (v := 8) hx hb (dg ddX3_copyFrom 34 rfl) (by decide) ?_
  refine va_copyi hx hb (hml.trans hl.1.symm) CX.2.2.2 (CX.2.2.1 (.methodLink RX3 78 arraycopyName) (lw_at 325 (by decide +kernel))) (CX.2.2.1 _ (mNat (by simp))) (CX.2.2.1 _ (mNat (by simp))) (CX.2.2.1 _ (mNat (by simp))) hK hP hD hS 16 2 0 0 rfl rfl rfl rfl rfl (by decide) (by decide) (by decide) (by decide) (by decide) (fun _ _ => rfl) (Nat.le_of_ble_eq_true rfl) (Nat.le_of_ble_eq_true rfl) (dg ddX3_copyFrom 35 rfl) (fun H locs hP hD hS => ?_)
  have hP : va_P D vwCl (wX3 q cy o_hour o_crowd o_buskers o_answered o_draws (va_cpy o_lim v_lim (0 : Int32).toNatClampNeg (0 : Int32).toNatClampNeg (8 : Int32).toNatClampNeg) (va_cpy o_cmp v_cmp (0 : Int32).toNatClampNeg (0 : Int32).toNatClampNeg (8 : Int32).toNatClampNeg) v_sof v_kin v_lou v_pit v_pla v_cas v_hrs v_nws v_hat v_wea v_row ++ wX3 qo cy o_hour o_crowd o_buskers o_answered o_draws o_lim o_cmp o_sof o_kin o_lou o_pit o_pla o_cas o_hrs o_nws o_hat o_wea o_row) H := hP
  have hD : va_D A (wX3 q cy o_hour o_crowd o_buskers o_answered o_draws (va_cpy o_lim v_lim (0 : Int32).toNatClampNeg (0 : Int32).toNatClampNeg (8 : Int32).toNatClampNeg) (va_cpy o_cmp v_cmp (0 : Int32).toNatClampNeg (0 : Int32).toNatClampNeg (8 : Int32).toNatClampNeg) v_sof v_kin v_lou v_pit v_pla v_cas v_hrs v_nws v_hat v_wea v_row ++ wX3 qo cy o_hour o_crowd o_buskers o_answered o_draws o_lim o_cmp o_sof o_kin o_lou o_pit o_pla o_cas o_hrs o_nws o_hat o_wea o_row) := hD
  refine lv_aload_n hx hb (dg ddX3_copyFrom 36 rfl) rfl (lv_at hl 1 rfl) ?_
  refine gf_RX3_35 CX hK hP 14 rfl rfl (dg ddX3_copyFrom 37 rfl) ?_
  refine lv_iconst (v := 0) hx hb (dg ddX3_copyFrom 38 rfl) (by decide) ?_
  refine lv_aload_n hx hb (dg ddX3_copyFrom 39 rfl) rfl (lv_at hl 0 rfl) ?_
  refine gf_RX3_35 CX hK hP 0 rfl rfl (dg ddX3_copyFrom 40 rfl) ?_
  refine lv_iconst (v := 0) hx hb (dg ddX3_copyFrom 41 rfl) (by decide) ?_
  refine lv_bipush (v := 8) hx hb (dg ddX3_copyFrom 42 rfl) (by decide) ?_
  refine va_copyi hx hb (hml.trans hl.1.symm) CX.2.2.2 (CX.2.2.1 (.methodLink RX3 78 arraycopyName) (lw_at 325 (by decide +kernel))) (CX.2.2.1 _ (mNat (by simp))) (CX.2.2.1 _ (mNat (by simp))) (CX.2.2.1 _ (mNat (by simp))) hK hP hD hS 17 3 0 0 rfl rfl rfl rfl rfl (by decide) (by decide) (by decide) (by decide) (by decide) (fun _ _ => rfl) (Nat.le_of_ble_eq_true rfl) (Nat.le_of_ble_eq_true rfl) (dg ddX3_copyFrom 43 rfl) (fun H locs hP hD hS => ?_)
  have hP : va_P D vwCl (wX3 q cy o_hour o_crowd o_buskers o_answered o_draws (va_cpy o_lim v_lim (0 : Int32).toNatClampNeg (0 : Int32).toNatClampNeg (8 : Int32).toNatClampNeg) (va_cpy o_cmp v_cmp (0 : Int32).toNatClampNeg (0 : Int32).toNatClampNeg (8 : Int32).toNatClampNeg) (va_cpy o_sof v_sof (0 : Int32).toNatClampNeg (0 : Int32).toNatClampNeg (8 : Int32).toNatClampNeg) v_kin v_lou v_pit v_pla v_cas v_hrs v_nws v_hat v_wea v_row ++ wX3 qo cy o_hour o_crowd o_buskers o_answered o_draws o_lim o_cmp o_sof o_kin o_lou o_pit o_pla o_cas o_hrs o_nws o_hat o_wea o_row) H := hP
  have hD : va_D A (wX3 q cy o_hour o_crowd o_buskers o_answered o_draws (va_cpy o_lim v_lim (0 : Int32).toNatClampNeg (0 : Int32).toNatClampNeg (8 : Int32).toNatClampNeg) (va_cpy o_cmp v_cmp (0 : Int32).toNatClampNeg (0 : Int32).toNatClampNeg (8 : Int32).toNatClampNeg) (va_cpy o_sof v_sof (0 : Int32).toNatClampNeg (0 : Int32).toNatClampNeg (8 : Int32).toNatClampNeg) v_kin v_lou v_pit v_pla v_cas v_hrs v_nws v_hat v_wea v_row ++ wX3 qo cy o_hour o_crowd o_buskers o_answered o_draws o_lim o_cmp o_sof o_kin o_lou o_pit o_pla o_cas o_hrs o_nws o_hat o_wea o_row) := hD
  refine lv_aload_n hx hb (dg ddX3_copyFrom 44 rfl) rfl (lv_at hl 1 rfl) ?_
  refine gf_RX3_38 CX hK hP 14 rfl rfl (dg ddX3_copyFrom 45 rfl) ?_
  refine lv_iconst (v := 0) hx hb (dg ddX3_copyFrom 46 rfl) (by decide) ?_
  refine lv_aload_n hx hb (dg ddX3_copyFrom 47 rfl) rfl (lv_at hl 0 rfl) ?_
  refine gf_RX3_38 CX hK hP 0 rfl rfl (dg ddX3_copyFrom 48 rfl) ?_
  refine lv_iconst (v := 0) hx hb (dg ddX3_copyFrom 49 rfl) (by decide) ?_
  refine lv_bipush (v := 8) hx hb (dg ddX3_copyFrom 50 rfl) (by decide) ?_
  refine va_copyi hx hb (hml.trans hl.1.symm) CX.2.2.2 (CX.2.2.1 (.methodLink RX3 78 arraycopyName) (lw_at 325 (by decide +kernel))) (CX.2.2.1 _ (mNat (by simp))) (CX.2.2.1 _ (mNat (by simp))) (CX.2.2.1 _ (mNat (by simp))) hK hP hD hS 18 4 0 0 rfl rfl rfl rfl rfl (by decide) (by decide) (by decide) (by decide) (by decide) (fun _ _ => rfl) (Nat.le_of_ble_eq_true rfl) (Nat.le_of_ble_eq_true rfl) (dg ddX3_copyFrom 51 rfl) (fun H locs hP hD hS => ?_)
  have hP : va_P D vwCl (wX3 q cy o_hour o_crowd o_buskers o_answered o_draws (va_cpy o_lim v_lim (0 : Int32).toNatClampNeg (0 : Int32).toNatClampNeg (8 : Int32).toNatClampNeg) (va_cpy o_cmp v_cmp (0 : Int32).toNatClampNeg (0 : Int32).toNatClampNeg (8 : Int32).toNatClampNeg) (va_cpy o_sof v_sof (0 : Int32).toNatClampNeg (0 : Int32).toNatClampNeg (8 : Int32).toNatClampNeg) (va_cpy o_kin v_kin (0 : Int32).toNatClampNeg (0 : Int32).toNatClampNeg (8 : Int32).toNatClampNeg) v_lou v_pit v_pla v_cas v_hrs v_nws v_hat v_wea v_row ++ wX3 qo cy o_hour o_crowd o_buskers o_answered o_draws o_lim o_cmp o_sof o_kin o_lou o_pit o_pla o_cas o_hrs o_nws o_hat o_wea o_row) H := hP
  have hD : va_D A (wX3 q cy o_hour o_crowd o_buskers o_answered o_draws (va_cpy o_lim v_lim (0 : Int32).toNatClampNeg (0 : Int32).toNatClampNeg (8 : Int32).toNatClampNeg) (va_cpy o_cmp v_cmp (0 : Int32).toNatClampNeg (0 : Int32).toNatClampNeg (8 : Int32).toNatClampNeg) (va_cpy o_sof v_sof (0 : Int32).toNatClampNeg (0 : Int32).toNatClampNeg (8 : Int32).toNatClampNeg) (va_cpy o_kin v_kin (0 : Int32).toNatClampNeg (0 : Int32).toNatClampNeg (8 : Int32).toNatClampNeg) v_lou v_pit v_pla v_cas v_hrs v_nws v_hat v_wea v_row ++ wX3 qo cy o_hour o_crowd o_buskers o_answered o_draws o_lim o_cmp o_sof o_kin o_lou o_pit o_pla o_cas o_hrs o_nws o_hat o_wea o_row) := hD
  refine lv_aload_n hx hb (dg ddX3_copyFrom 52 rfl) rfl (lv_at hl 1 rfl) ?_
  refine gf_RX3_41 CX hK hP 14 rfl rfl (dg ddX3_copyFrom 53 rfl) ?_
  refine lv_iconst (v := 0) hx hb (dg ddX3_copyFrom 54 rfl) (by decide) ?_
  refine lv_aload_n hx hb (dg ddX3_copyFrom 55 rfl) rfl (lv_at hl 0 rfl) ?_
  refine gf_RX3_41 CX hK hP 0 rfl rfl (dg ddX3_copyFrom 56 rfl) ?_
  refine lv_iconst (v := 0) hx hb (dg ddX3_copyFrom 57 rfl) (by decide) ?_
  refine lv_bipush (v := 8) hx hb (dg ddX3_copyFrom 58 rfl) (by decide) ?_
  refine va_copyi hx hb (hml.trans hl.1.symm) CX.2.2.2 (CX.2.2.1 (.methodLink RX3 78 arraycopyName) (lw_at 325 (by decide +kernel))) (CX.2.2.1 _ (mNat (by simp))) (CX.2.2.1 _ (mNat (by simp))) (CX.2.2.1 _ (mNat (by simp))) hK hP hD hS 19 5 0 0 rfl rfl rfl rfl rfl (by decide) (by decide) (by decide) (by decide) (by decide) (fun _ _ => rfl) (Nat.le_of_ble_eq_true rfl) (Nat.le_of_ble_eq_true rfl) (dg ddX3_copyFrom 59 rfl) (fun H locs hP hD hS => ?_)
  have hP : va_P D vwCl (wX3 q cy o_hour o_crowd o_buskers o_answered o_draws (va_cpy o_lim v_lim (0 : Int32).toNatClampNeg (0 : Int32).toNatClampNeg (8 : Int32).toNatClampNeg) (va_cpy o_cmp v_cmp (0 : Int32).toNatClampNeg (0 : Int32).toNatClampNeg (8 : Int32).toNatClampNeg) (va_cpy o_sof v_sof (0 : Int32).toNatClampNeg (0 : Int32).toNatClampNeg (8 : Int32).toNatClampNeg) (va_cpy o_kin v_kin (0 : Int32).toNatClampNeg (0 : Int32).toNatClampNeg (8 : Int32).toNatClampNeg) (va_cpy o_lou v_lou (0 : Int32).toNatClampNeg (0 : Int32).toNatClampNeg (8 : Int32).toNatClampNeg) v_pit v_pla v_cas v_hrs v_nws v_hat v_wea v_row ++ wX3 qo cy o_hour o_crowd o_buskers o_answered o_draws o_lim o_cmp o_sof o_kin o_lou o_pit o_pla o_cas o_hrs o_nws o_hat o_wea o_row) H := hP
  have hD : va_D A (wX3 q cy o_hour o_crowd o_buskers o_answered o_draws (va_cpy o_lim v_lim (0 : Int32).toNatClampNeg (0 : Int32).toNatClampNeg (8 : Int32).toNatClampNeg) (va_cpy o_cmp v_cmp (0 : Int32).toNatClampNeg (0 : Int32).toNatClampNeg (8 : Int32).toNatClampNeg) (va_cpy o_sof v_sof (0 : Int32).toNatClampNeg (0 : Int32).toNatClampNeg (8 : Int32).toNatClampNeg) (va_cpy o_kin v_kin (0 : Int32).toNatClampNeg (0 : Int32).toNatClampNeg (8 : Int32).toNatClampNeg) (va_cpy o_lou v_lou (0 : Int32).toNatClampNeg (0 : Int32).toNatClampNeg (8 : Int32).toNatClampNeg) v_pit v_pla v_cas v_hrs v_nws v_hat v_wea v_row ++ wX3 qo cy o_hour o_crowd o_buskers o_answered o_draws o_lim o_cmp o_sof o_kin o_lou o_pit o_pla o_cas o_hrs o_nws o_hat o_wea o_row) := hD
  refine lv_aload_n hx hb (dg ddX3_copyFrom 60 rfl) rfl (lv_at hl 1 rfl) ?_
  refine gf_RX3_44 CX hK hP 14 rfl rfl (dg ddX3_copyFrom 61 rfl) ?_
  refine lv_iconst (v := 0) hx hb (dg ddX3_copyFrom 62 rfl) (by decide) ?_
  refine lv_aload_n hx hb (dg ddX3_copyFrom 63 rfl) rfl (lv_at hl 0 rfl) ?_
  refine gf_RX3_44 CX hK hP 0 rfl rfl (dg ddX3_copyFrom 64 rfl) ?_
  refine lv_iconst (v := 0) hx hb (dg ddX3_copyFrom 65 rfl) (by decide) ?_
  refine lv_bipush (v := 8) hx hb (dg ddX3_copyFrom 66 rfl) (by decide) ?_
  refine va_copyi hx hb (hml.trans hl.1.symm) CX.2.2.2 (CX.2.2.1 (.methodLink RX3 78 arraycopyName) (lw_at 325 (by decide +kernel))) (CX.2.2.1 _ (mNat (by simp))) (CX.2.2.1 _ (mNat (by simp))) (CX.2.2.1 _ (mNat (by simp))) hK hP hD hS 20 6 0 0 rfl rfl rfl rfl rfl (by decide) (by decide) (by decide) (by decide) (by decide) (fun _ _ => rfl) (Nat.le_of_ble_eq_true rfl) (Nat.le_of_ble_eq_true rfl) (dg ddX3_copyFrom 67 rfl) (fun H locs hP hD hS => ?_)
  have hP : va_P D vwCl (wX3 q cy o_hour o_crowd o_buskers o_answered o_draws (va_cpy o_lim v_lim (0 : Int32).toNatClampNeg (0 : Int32).toNatClampNeg (8 : Int32).toNatClampNeg) (va_cpy o_cmp v_cmp (0 : Int32).toNatClampNeg (0 : Int32).toNatClampNeg (8 : Int32).toNatClampNeg) (va_cpy o_sof v_sof (0 : Int32).toNatClampNeg (0 : Int32).toNatClampNeg (8 : Int32).toNatClampNeg) (va_cpy o_kin v_kin (0 : Int32).toNatClampNeg (0 : Int32).toNatClampNeg (8 : Int32).toNatClampNeg) (va_cpy o_lou v_lou (0 : Int32).toNatClampNeg (0 : Int32).toNatClampNeg (8 : Int32).toNatClampNeg) (va_cpy o_pit v_pit (0 : Int32).toNatClampNeg (0 : Int32).toNatClampNeg (8 : Int32).toNatClampNeg) v_pla v_cas v_hrs v_nws v_hat v_wea v_row ++ wX3 qo cy o_hour o_crowd o_buskers o_answered o_draws o_lim o_cmp o_sof o_kin o_lou o_pit o_pla o_cas o_hrs o_nws o_hat o_wea o_row) H := hP
  have hD : va_D A (wX3 q cy o_hour o_crowd o_buskers o_answered o_draws (va_cpy o_lim v_lim (0 : Int32).toNatClampNeg (0 : Int32).toNatClampNeg (8 : Int32).toNatClampNeg) (va_cpy o_cmp v_cmp (0 : Int32).toNatClampNeg (0 : Int32).toNatClampNeg (8 : Int32).toNatClampNeg) (va_cpy o_sof v_sof (0 : Int32).toNatClampNeg (0 : Int32).toNatClampNeg (8 : Int32).toNatClampNeg) (va_cpy o_kin v_kin (0 : Int32).toNatClampNeg (0 : Int32).toNatClampNeg (8 : Int32).toNatClampNeg) (va_cpy o_lou v_lou (0 : Int32).toNatClampNeg (0 : Int32).toNatClampNeg (8 : Int32).toNatClampNeg) (va_cpy o_pit v_pit (0 : Int32).toNatClampNeg (0 : Int32).toNatClampNeg (8 : Int32).toNatClampNeg) v_pla v_cas v_hrs v_nws v_hat v_wea v_row ++ wX3 qo cy o_hour o_crowd o_buskers o_answered o_draws o_lim o_cmp o_sof o_kin o_lou o_pit o_pla o_cas o_hrs o_nws o_hat o_wea o_row) := hD
  refine lv_aload_n hx hb (dg ddX3_copyFrom 68 rfl) rfl (lv_at hl 1 rfl) ?_
  refine gf_RX3_47 CX hK hP 14 rfl rfl (dg ddX3_copyFrom 69 rfl) ?_
  refine lv_iconst (v := 0) hx hb (dg ddX3_copyFrom 70 rfl) (by decide) ?_
  refine lv_aload_n hx hb (dg ddX3_copyFrom 71 rfl) rfl (lv_at hl 0 rfl) ?_
  refine gf_RX3_47 CX hK hP 0 rfl rfl (dg ddX3_copyFrom 72 rfl) ?_
  refine lv_iconst (v := 0) hx hb (dg ddX3_copyFrom 73 rfl) (by decide) ?_
  refine lv_bipush (v := 8) hx hb (dg ddX3_copyFrom 74 rfl) (by decide) ?_
  refine va_copyi hx hb (hml.trans hl.1.symm) CX.2.2.2 (CX.2.2.1 (.methodLink RX3 78 arraycopyName) (lw_at 325 (by decide +kernel))) (CX.2.2.1 _ (mNat (by simp))) (CX.2.2.1 _ (mNat (by simp))) (CX.2.2.1 _ (mNat (by simp))) hK hP hD hS 21 7 0 0 rfl rfl rfl rfl rfl (by decide) (by decide) (by decide) (by decide) (by decide) (fun _ _ => rfl) (Nat.le_of_ble_eq_true rfl) (Nat.le_of_ble_eq_true rfl) (dg ddX3_copyFrom 75 rfl) (fun H locs hP hD hS => ?_)
  have hP : va_P D vwCl (wX3 q cy o_hour o_crowd o_buskers o_answered o_draws (va_cpy o_lim v_lim (0 : Int32).toNatClampNeg (0 : Int32).toNatClampNeg (8 : Int32).toNatClampNeg) (va_cpy o_cmp v_cmp (0 : Int32).toNatClampNeg (0 : Int32).toNatClampNeg (8 : Int32).toNatClampNeg) (va_cpy o_sof v_sof (0 : Int32).toNatClampNeg (0 : Int32).toNatClampNeg (8 : Int32).toNatClampNeg) (va_cpy o_kin v_kin (0 : Int32).toNatClampNeg (0 : Int32).toNatClampNeg (8 : Int32).toNatClampNeg) (va_cpy o_lou v_lou (0 : Int32).toNatClampNeg (0 : Int32).toNatClampNeg (8 : Int32).toNatClampNeg) (va_cpy o_pit v_pit (0 : Int32).toNatClampNeg (0 : Int32).toNatClampNeg (8 : Int32).toNatClampNeg) (va_cpy o_pla v_pla (0 : Int32).toNatClampNeg (0 : Int32).toNatClampNeg (8 : Int32).toNatClampNeg) v_cas v_hrs v_nws v_hat v_wea v_row ++ wX3 qo cy o_hour o_crowd o_buskers o_answered o_draws o_lim o_cmp o_sof o_kin o_lou o_pit o_pla o_cas o_hrs o_nws o_hat o_wea o_row) H := hP
  have hD : va_D A (wX3 q cy o_hour o_crowd o_buskers o_answered o_draws (va_cpy o_lim v_lim (0 : Int32).toNatClampNeg (0 : Int32).toNatClampNeg (8 : Int32).toNatClampNeg) (va_cpy o_cmp v_cmp (0 : Int32).toNatClampNeg (0 : Int32).toNatClampNeg (8 : Int32).toNatClampNeg) (va_cpy o_sof v_sof (0 : Int32).toNatClampNeg (0 : Int32).toNatClampNeg (8 : Int32).toNatClampNeg) (va_cpy o_kin v_kin (0 : Int32).toNatClampNeg (0 : Int32).toNatClampNeg (8 : Int32).toNatClampNeg) (va_cpy o_lou v_lou (0 : Int32).toNatClampNeg (0 : Int32).toNatClampNeg (8 : Int32).toNatClampNeg) (va_cpy o_pit v_pit (0 : Int32).toNatClampNeg (0 : Int32).toNatClampNeg (8 : Int32).toNatClampNeg) (va_cpy o_pla v_pla (0 : Int32).toNatClampNeg (0 : Int32).toNatClampNeg (8 : Int32).toNatClampNeg) v_cas v_hrs v_nws v_hat v_wea v_row ++ wX3 qo cy o_hour o_crowd o_buskers o_answered o_draws o_lim o_cmp o_sof o_kin o_lou o_pit o_pla o_cas o_hrs o_nws o_hat o_wea o_row) := hD
  refine lv_aload_n hx hb (dg ddX3_copyFrom 76 rfl) rfl (lv_at hl 1 rfl) ?_
  refine gf_RX3_50 CX hK hP 14 rfl rfl (dg ddX3_copyFrom 77 rfl) ?_
  refine lv_iconst (v := 0) hx hb (dg ddX3_copyFrom 78 rfl) (by decide) ?_
  refine lv_aload_n hx hb (dg ddX3_copyFrom 79 rfl) rfl (lv_at hl 0 rfl) ?_
  refine gf_RX3_50 CX hK hP 0 rfl rfl (dg ddX3_copyFrom 80 rfl) ?_
  refine lv_iconst (v := 0) hx hb (dg ddX3_copyFrom 81 rfl) (by decide) ?_
  refine lv_bipush (v := 8) hx hb (dg ddX3_copyFrom 82 rfl) (by decide) ?_
  refine va_copyi hx hb (hml.trans hl.1.symm) CX.2.2.2 (CX.2.2.1 (.methodLink RX3 78 arraycopyName) (lw_at 325 (by decide +kernel))) (CX.2.2.1 _ (mNat (by simp))) (CX.2.2.1 _ (mNat (by simp))) (CX.2.2.1 _ (mNat (by simp))) hK hP hD hS 22 8 0 0 rfl rfl rfl rfl rfl (by decide) (by decide) (by decide) (by decide) (by decide) (fun _ _ => rfl) (Nat.le_of_ble_eq_true rfl) (Nat.le_of_ble_eq_true rfl) (dg ddX3_copyFrom 83 rfl) (fun H locs hP hD hS => ?_)
  have hP : va_P D vwCl (wX3 q cy o_hour o_crowd o_buskers o_answered o_draws (va_cpy o_lim v_lim (0 : Int32).toNatClampNeg (0 : Int32).toNatClampNeg (8 : Int32).toNatClampNeg) (va_cpy o_cmp v_cmp (0 : Int32).toNatClampNeg (0 : Int32).toNatClampNeg (8 : Int32).toNatClampNeg) (va_cpy o_sof v_sof (0 : Int32).toNatClampNeg (0 : Int32).toNatClampNeg (8 : Int32).toNatClampNeg) (va_cpy o_kin v_kin (0 : Int32).toNatClampNeg (0 : Int32).toNatClampNeg (8 : Int32).toNatClampNeg) (va_cpy o_lou v_lou (0 : Int32).toNatClampNeg (0 : Int32).toNatClampNeg (8 : Int32).toNatClampNeg) (va_cpy o_pit v_pit (0 : Int32).toNatClampNeg (0 : Int32).toNatClampNeg (8 : Int32).toNatClampNeg) (va_cpy o_pla v_pla (0 : Int32).toNatClampNeg (0 : Int32).toNatClampNeg (8 : Int32).toNatClampNeg) (va_cpy o_cas v_cas (0 : Int32).toNatClampNeg (0 : Int32).toNatClampNeg (8 : Int32).toNatClampNeg) v_hrs v_nws v_hat v_wea v_row ++ wX3 qo cy o_hour o_crowd o_buskers o_answered o_draws o_lim o_cmp o_sof o_kin o_lou o_pit o_pla o_cas o_hrs o_nws o_hat o_wea o_row) H := hP
  have hD : va_D A (wX3 q cy o_hour o_crowd o_buskers o_answered o_draws (va_cpy o_lim v_lim (0 : Int32).toNatClampNeg (0 : Int32).toNatClampNeg (8 : Int32).toNatClampNeg) (va_cpy o_cmp v_cmp (0 : Int32).toNatClampNeg (0 : Int32).toNatClampNeg (8 : Int32).toNatClampNeg) (va_cpy o_sof v_sof (0 : Int32).toNatClampNeg (0 : Int32).toNatClampNeg (8 : Int32).toNatClampNeg) (va_cpy o_kin v_kin (0 : Int32).toNatClampNeg (0 : Int32).toNatClampNeg (8 : Int32).toNatClampNeg) (va_cpy o_lou v_lou (0 : Int32).toNatClampNeg (0 : Int32).toNatClampNeg (8 : Int32).toNatClampNeg) (va_cpy o_pit v_pit (0 : Int32).toNatClampNeg (0 : Int32).toNatClampNeg (8 : Int32).toNatClampNeg) (va_cpy o_pla v_pla (0 : Int32).toNatClampNeg (0 : Int32).toNatClampNeg (8 : Int32).toNatClampNeg) (va_cpy o_cas v_cas (0 : Int32).toNatClampNeg (0 : Int32).toNatClampNeg (8 : Int32).toNatClampNeg) v_hrs v_nws v_hat v_wea v_row ++ wX3 qo cy o_hour o_crowd o_buskers o_answered o_draws o_lim o_cmp o_sof o_kin o_lou o_pit o_pla o_cas o_hrs o_nws o_hat o_wea o_row) := hD
  refine lv_aload_n hx hb (dg ddX3_copyFrom 84 rfl) rfl (lv_at hl 1 rfl) ?_
  refine gf_RX3_53 CX hK hP 14 rfl rfl (dg ddX3_copyFrom 85 rfl) ?_
  refine lv_iconst (v := 0) hx hb (dg ddX3_copyFrom 86 rfl) (by decide) ?_
  refine lv_aload_n hx hb (dg ddX3_copyFrom 87 rfl) rfl (lv_at hl 0 rfl) ?_
  refine gf_RX3_53 CX hK hP 0 rfl rfl (dg ddX3_copyFrom 88 rfl) ?_
  refine lv_iconst (v := 0) hx hb (dg ddX3_copyFrom 89 rfl) (by decide) ?_
  refine lv_bipush (v := 8) hx hb (dg ddX3_copyFrom 90 rfl) (by decide) ?_
  refine va_copyi hx hb (hml.trans hl.1.symm) CX.2.2.2 (CX.2.2.1 (.methodLink RX3 78 arraycopyName) (lw_at 325 (by decide +kernel))) (CX.2.2.1 _ (mNat (by simp))) (CX.2.2.1 _ (mNat (by simp))) (CX.2.2.1 _ (mNat (by simp))) hK hP hD hS 23 9 0 0 rfl rfl rfl rfl rfl (by decide) (by decide) (by decide) (by decide) (by decide) (fun _ _ => rfl) (Nat.le_of_ble_eq_true rfl) (Nat.le_of_ble_eq_true rfl) (dg ddX3_copyFrom 91 rfl) (fun H locs hP hD hS => ?_)
  have hP : va_P D vwCl (wX3 q cy o_hour o_crowd o_buskers o_answered o_draws (va_cpy o_lim v_lim (0 : Int32).toNatClampNeg (0 : Int32).toNatClampNeg (8 : Int32).toNatClampNeg) (va_cpy o_cmp v_cmp (0 : Int32).toNatClampNeg (0 : Int32).toNatClampNeg (8 : Int32).toNatClampNeg) (va_cpy o_sof v_sof (0 : Int32).toNatClampNeg (0 : Int32).toNatClampNeg (8 : Int32).toNatClampNeg) (va_cpy o_kin v_kin (0 : Int32).toNatClampNeg (0 : Int32).toNatClampNeg (8 : Int32).toNatClampNeg) (va_cpy o_lou v_lou (0 : Int32).toNatClampNeg (0 : Int32).toNatClampNeg (8 : Int32).toNatClampNeg) (va_cpy o_pit v_pit (0 : Int32).toNatClampNeg (0 : Int32).toNatClampNeg (8 : Int32).toNatClampNeg) (va_cpy o_pla v_pla (0 : Int32).toNatClampNeg (0 : Int32).toNatClampNeg (8 : Int32).toNatClampNeg) (va_cpy o_cas v_cas (0 : Int32).toNatClampNeg (0 : Int32).toNatClampNeg (8 : Int32).toNatClampNeg) (va_cpy o_hrs v_hrs (0 : Int32).toNatClampNeg (0 : Int32).toNatClampNeg (8 : Int32).toNatClampNeg) v_nws v_hat v_wea v_row ++ wX3 qo cy o_hour o_crowd o_buskers o_answered o_draws o_lim o_cmp o_sof o_kin o_lou o_pit o_pla o_cas o_hrs o_nws o_hat o_wea o_row) H := hP
  have hD : va_D A (wX3 q cy o_hour o_crowd o_buskers o_answered o_draws (va_cpy o_lim v_lim (0 : Int32).toNatClampNeg (0 : Int32).toNatClampNeg (8 : Int32).toNatClampNeg) (va_cpy o_cmp v_cmp (0 : Int32).toNatClampNeg (0 : Int32).toNatClampNeg (8 : Int32).toNatClampNeg) (va_cpy o_sof v_sof (0 : Int32).toNatClampNeg (0 : Int32).toNatClampNeg (8 : Int32).toNatClampNeg) (va_cpy o_kin v_kin (0 : Int32).toNatClampNeg (0 : Int32).toNatClampNeg (8 : Int32).toNatClampNeg) (va_cpy o_lou v_lou (0 : Int32).toNatClampNeg (0 : Int32).toNatClampNeg (8 : Int32).toNatClampNeg) (va_cpy o_pit v_pit (0 : Int32).toNatClampNeg (0 : Int32).toNatClampNeg (8 : Int32).toNatClampNeg) (va_cpy o_pla v_pla (0 : Int32).toNatClampNeg (0 : Int32).toNatClampNeg (8 : Int32).toNatClampNeg) (va_cpy o_cas v_cas (0 : Int32).toNatClampNeg (0 : Int32).toNatClampNeg (8 : Int32).toNatClampNeg) (va_cpy o_hrs v_hrs (0 : Int32).toNatClampNeg (0 : Int32).toNatClampNeg (8 : Int32).toNatClampNeg) v_nws v_hat v_wea v_row ++ wX3 qo cy o_hour o_crowd o_buskers o_answered o_draws o_lim o_cmp o_sof o_kin o_lou o_pit o_pla o_cas o_hrs o_nws o_hat o_wea o_row) := hD
  refine lv_aload_n hx hb (dg ddX3_copyFrom 92 rfl) rfl (lv_at hl 1 rfl) ?_
  refine gf_RX3_56 CX hK hP 14 rfl rfl (dg ddX3_copyFrom 93 rfl) ?_
  refine lv_iconst (v := 0) hx hb (dg ddX3_copyFrom 94 rfl) (by decide) ?_
  refine lv_aload_n hx hb (dg ddX3_copyFrom 95 rfl) rfl (lv_at hl 0 rfl) ?_
  refine gf_RX3_56 CX hK hP 0 rfl rfl (dg ddX3_copyFrom 96 rfl) ?_
  refine lv_iconst (v := 0) hx hb (dg ddX3_copyFrom 97 rfl) (by decide) ?_
  refine lv_bipush (v := 8) hx hb (dg ddX3_copyFrom 98 rfl) (by decide) ?_
  refine va_copyi hx hb (hml.trans hl.1.symm) CX.2.2.2 (CX.2.2.1 (.methodLink RX3 78 arraycopyName) (lw_at 325 (by decide +kernel))) (CX.2.2.1 _ (mNat (by simp))) (CX.2.2.1 _ (mNat (by simp))) (CX.2.2.1 _ (mNat (by simp))) hK hP hD hS 24 10 0 0 rfl rfl rfl rfl rfl (by decide) (by decide) (by decide) (by decide) (by decide) (fun _ _ => rfl) (Nat.le_of_ble_eq_true rfl) (Nat.le_of_ble_eq_true rfl) (dg ddX3_copyFrom 99 rfl) (fun H locs hP hD hS => ?_)
  have hP : va_P D vwCl (wX3 q cy o_hour o_crowd o_buskers o_answered o_draws (va_cpy o_lim v_lim (0 : Int32).toNatClampNeg (0 : Int32).toNatClampNeg (8 : Int32).toNatClampNeg) (va_cpy o_cmp v_cmp (0 : Int32).toNatClampNeg (0 : Int32).toNatClampNeg (8 : Int32).toNatClampNeg) (va_cpy o_sof v_sof (0 : Int32).toNatClampNeg (0 : Int32).toNatClampNeg (8 : Int32).toNatClampNeg) (va_cpy o_kin v_kin (0 : Int32).toNatClampNeg (0 : Int32).toNatClampNeg (8 : Int32).toNatClampNeg) (va_cpy o_lou v_lou (0 : Int32).toNatClampNeg (0 : Int32).toNatClampNeg (8 : Int32).toNatClampNeg) (va_cpy o_pit v_pit (0 : Int32).toNatClampNeg (0 : Int32).toNatClampNeg (8 : Int32).toNatClampNeg) (va_cpy o_pla v_pla (0 : Int32).toNatClampNeg (0 : Int32).toNatClampNeg (8 : Int32).toNatClampNeg) (va_cpy o_cas v_cas (0 : Int32).toNatClampNeg (0 : Int32).toNatClampNeg (8 : Int32).toNatClampNeg) (va_cpy o_hrs v_hrs (0 : Int32).toNatClampNeg (0 : Int32).toNatClampNeg (8 : Int32).toNatClampNeg) (va_cpy o_nws v_nws (0 : Int32).toNatClampNeg (0 : Int32).toNatClampNeg (8 : Int32).toNatClampNeg) v_hat v_wea v_row ++ wX3 qo cy o_hour o_crowd o_buskers o_answered o_draws o_lim o_cmp o_sof o_kin o_lou o_pit o_pla o_cas o_hrs o_nws o_hat o_wea o_row) H := hP
  have hD : va_D A (wX3 q cy o_hour o_crowd o_buskers o_answered o_draws (va_cpy o_lim v_lim (0 : Int32).toNatClampNeg (0 : Int32).toNatClampNeg (8 : Int32).toNatClampNeg) (va_cpy o_cmp v_cmp (0 : Int32).toNatClampNeg (0 : Int32).toNatClampNeg (8 : Int32).toNatClampNeg) (va_cpy o_sof v_sof (0 : Int32).toNatClampNeg (0 : Int32).toNatClampNeg (8 : Int32).toNatClampNeg) (va_cpy o_kin v_kin (0 : Int32).toNatClampNeg (0 : Int32).toNatClampNeg (8 : Int32).toNatClampNeg) (va_cpy o_lou v_lou (0 : Int32).toNatClampNeg (0 : Int32).toNatClampNeg (8 : Int32).toNatClampNeg) (va_cpy o_pit v_pit (0 : Int32).toNatClampNeg (0 : Int32).toNatClampNeg (8 : Int32).toNatClampNeg) (va_cpy o_pla v_pla (0 : Int32).toNatClampNeg (0 : Int32).toNatClampNeg (8 : Int32).toNatClampNeg) (va_cpy o_cas v_cas (0 : Int32).toNatClampNeg (0 : Int32).toNatClampNeg (8 : Int32).toNatClampNeg) (va_cpy o_hrs v_hrs (0 : Int32).toNatClampNeg (0 : Int32).toNatClampNeg (8 : Int32).toNatClampNeg) (va_cpy o_nws v_nws (0 : Int32).toNatClampNeg (0 : Int32).toNatClampNeg (8 : Int32).toNatClampNeg) v_hat v_wea v_row ++ wX3 qo cy o_hour o_crowd o_buskers o_answered o_draws o_lim o_cmp o_sof o_kin o_lou o_pit o_pla o_cas o_hrs o_nws o_hat o_wea o_row) := hD
  refine lv_aload_n hx hb (dg ddX3_copyFrom 100 rfl) rfl (lv_at hl 1 rfl) ?_
  refine gf_RX3_59 CX hK hP 14 rfl rfl (dg ddX3_copyFrom 101 rfl) ?_
  refine lv_iconst (v := 0) hx hb (dg ddX3_copyFrom 102 rfl) (by decide) ?_
  refine lv_aload_n hx hb (dg ddX3_copyFrom 103 rfl) rfl (lv_at hl 0 rfl) ?_
  refine gf_RX3_59 CX hK hP 0 rfl rfl (dg ddX3_copyFrom 104 rfl) ?_
  refine lv_iconst (v := 0) hx hb (dg ddX3_copyFrom 105 rfl) (by decide) ?_
  refine lv_bipush (v := 8) hx hb (dg ddX3_copyFrom 106 rfl) (by decide) ?_
  refine va_copyf hx hb (hml.trans hl.1.symm) CX.2.2.2 (CX.2.2.1 (.methodLink RX3 78 arraycopyName) (lw_at 325 (by decide +kernel))) (CX.2.2.1 _ (mNat (by simp))) (CX.2.2.1 _ (mNat (by simp))) (CX.2.2.1 _ (mNat (by simp))) hK hP hD hS 25 11 1 1 rfl rfl rfl rfl rfl (by decide) (by decide) (by decide) (by decide) (by decide) (fun _ _ => rfl) (Nat.le_of_ble_eq_true rfl) (Nat.le_of_ble_eq_true rfl) (dg ddX3_copyFrom 107 rfl) (fun H locs hP hD hS => ?_)
  have hP : va_P D vwCl (wX3 q cy o_hour o_crowd o_buskers o_answered o_draws (va_cpy o_lim v_lim (0 : Int32).toNatClampNeg (0 : Int32).toNatClampNeg (8 : Int32).toNatClampNeg) (va_cpy o_cmp v_cmp (0 : Int32).toNatClampNeg (0 : Int32).toNatClampNeg (8 : Int32).toNatClampNeg) (va_cpy o_sof v_sof (0 : Int32).toNatClampNeg (0 : Int32).toNatClampNeg (8 : Int32).toNatClampNeg) (va_cpy o_kin v_kin (0 : Int32).toNatClampNeg (0 : Int32).toNatClampNeg (8 : Int32).toNatClampNeg) (va_cpy o_lou v_lou (0 : Int32).toNatClampNeg (0 : Int32).toNatClampNeg (8 : Int32).toNatClampNeg) (va_cpy o_pit v_pit (0 : Int32).toNatClampNeg (0 : Int32).toNatClampNeg (8 : Int32).toNatClampNeg) (va_cpy o_pla v_pla (0 : Int32).toNatClampNeg (0 : Int32).toNatClampNeg (8 : Int32).toNatClampNeg) (va_cpy o_cas v_cas (0 : Int32).toNatClampNeg (0 : Int32).toNatClampNeg (8 : Int32).toNatClampNeg) (va_cpy o_hrs v_hrs (0 : Int32).toNatClampNeg (0 : Int32).toNatClampNeg (8 : Int32).toNatClampNeg) (va_cpy o_nws v_nws (0 : Int32).toNatClampNeg (0 : Int32).toNatClampNeg (8 : Int32).toNatClampNeg) (va_cpy o_hat v_hat (0 : Int32).toNatClampNeg (0 : Int32).toNatClampNeg (8 : Int32).toNatClampNeg) v_wea v_row ++ wX3 qo cy o_hour o_crowd o_buskers o_answered o_draws o_lim o_cmp o_sof o_kin o_lou o_pit o_pla o_cas o_hrs o_nws o_hat o_wea o_row) H := hP
  have hD : va_D A (wX3 q cy o_hour o_crowd o_buskers o_answered o_draws (va_cpy o_lim v_lim (0 : Int32).toNatClampNeg (0 : Int32).toNatClampNeg (8 : Int32).toNatClampNeg) (va_cpy o_cmp v_cmp (0 : Int32).toNatClampNeg (0 : Int32).toNatClampNeg (8 : Int32).toNatClampNeg) (va_cpy o_sof v_sof (0 : Int32).toNatClampNeg (0 : Int32).toNatClampNeg (8 : Int32).toNatClampNeg) (va_cpy o_kin v_kin (0 : Int32).toNatClampNeg (0 : Int32).toNatClampNeg (8 : Int32).toNatClampNeg) (va_cpy o_lou v_lou (0 : Int32).toNatClampNeg (0 : Int32).toNatClampNeg (8 : Int32).toNatClampNeg) (va_cpy o_pit v_pit (0 : Int32).toNatClampNeg (0 : Int32).toNatClampNeg (8 : Int32).toNatClampNeg) (va_cpy o_pla v_pla (0 : Int32).toNatClampNeg (0 : Int32).toNatClampNeg (8 : Int32).toNatClampNeg) (va_cpy o_cas v_cas (0 : Int32).toNatClampNeg (0 : Int32).toNatClampNeg (8 : Int32).toNatClampNeg) (va_cpy o_hrs v_hrs (0 : Int32).toNatClampNeg (0 : Int32).toNatClampNeg (8 : Int32).toNatClampNeg) (va_cpy o_nws v_nws (0 : Int32).toNatClampNeg (0 : Int32).toNatClampNeg (8 : Int32).toNatClampNeg) (va_cpy o_hat v_hat (0 : Int32).toNatClampNeg (0 : Int32).toNatClampNeg (8 : Int32).toNatClampNeg) v_wea v_row ++ wX3 qo cy o_hour o_crowd o_buskers o_answered o_draws o_lim o_cmp o_sof o_kin o_lou o_pit o_pla o_cas o_hrs o_nws o_hat o_wea o_row) := hD
  refine lv_aload_n hx hb (dg ddX3_copyFrom 108 rfl) rfl (lv_at hl 1 rfl) ?_
  refine gf_RX3_62 CX hK hP 14 rfl rfl (dg ddX3_copyFrom 109 rfl) ?_
  refine lv_iconst (v := 0) hx hb (dg ddX3_copyFrom 110 rfl) (by decide) ?_
  refine lv_aload_n hx hb (dg ddX3_copyFrom 111 rfl) rfl (lv_at hl 0 rfl) ?_
  refine gf_RX3_62 CX hK hP 0 rfl rfl (dg ddX3_copyFrom 112 rfl) ?_
  refine lv_iconst (v := 0) hx hb (dg ddX3_copyFrom 113 rfl) (by decide) ?_
  refine lv_bipush (v := 8) hx hb (dg ddX3_copyFrom 114 rfl) (by decide) ?_
  refine va_copyf hx hb (hml.trans hl.1.symm) CX.2.2.2 (CX.2.2.1 (.methodLink RX3 78 arraycopyName) (lw_at 325 (by decide +kernel))) (CX.2.2.1 _ (mNat (by simp))) (CX.2.2.1 _ (mNat (by simp))) (CX.2.2.1 _ (mNat (by simp))) hK hP hD hS 26 12 1 1 rfl rfl rfl rfl rfl (by decide) (by decide) (by decide) (by decide) (by decide) (fun _ _ => rfl) (Nat.le_of_ble_eq_true rfl) (Nat.le_of_ble_eq_true rfl) (dg ddX3_copyFrom 115 rfl) (fun H locs hP hD hS => ?_)
  have hP : va_P D vwCl (wX3 q cy o_hour o_crowd o_buskers o_answered o_draws (va_cpy o_lim v_lim (0 : Int32).toNatClampNeg (0 : Int32).toNatClampNeg (8 : Int32).toNatClampNeg) (va_cpy o_cmp v_cmp (0 : Int32).toNatClampNeg (0 : Int32).toNatClampNeg (8 : Int32).toNatClampNeg) (va_cpy o_sof v_sof (0 : Int32).toNatClampNeg (0 : Int32).toNatClampNeg (8 : Int32).toNatClampNeg) (va_cpy o_kin v_kin (0 : Int32).toNatClampNeg (0 : Int32).toNatClampNeg (8 : Int32).toNatClampNeg) (va_cpy o_lou v_lou (0 : Int32).toNatClampNeg (0 : Int32).toNatClampNeg (8 : Int32).toNatClampNeg) (va_cpy o_pit v_pit (0 : Int32).toNatClampNeg (0 : Int32).toNatClampNeg (8 : Int32).toNatClampNeg) (va_cpy o_pla v_pla (0 : Int32).toNatClampNeg (0 : Int32).toNatClampNeg (8 : Int32).toNatClampNeg) (va_cpy o_cas v_cas (0 : Int32).toNatClampNeg (0 : Int32).toNatClampNeg (8 : Int32).toNatClampNeg) (va_cpy o_hrs v_hrs (0 : Int32).toNatClampNeg (0 : Int32).toNatClampNeg (8 : Int32).toNatClampNeg) (va_cpy o_nws v_nws (0 : Int32).toNatClampNeg (0 : Int32).toNatClampNeg (8 : Int32).toNatClampNeg) (va_cpy o_hat v_hat (0 : Int32).toNatClampNeg (0 : Int32).toNatClampNeg (8 : Int32).toNatClampNeg) (va_cpy o_wea v_wea (0 : Int32).toNatClampNeg (0 : Int32).toNatClampNeg (8 : Int32).toNatClampNeg) v_row ++ wX3 qo cy o_hour o_crowd o_buskers o_answered o_draws o_lim o_cmp o_sof o_kin o_lou o_pit o_pla o_cas o_hrs o_nws o_hat o_wea o_row) H := hP
  have hD : va_D A (wX3 q cy o_hour o_crowd o_buskers o_answered o_draws (va_cpy o_lim v_lim (0 : Int32).toNatClampNeg (0 : Int32).toNatClampNeg (8 : Int32).toNatClampNeg) (va_cpy o_cmp v_cmp (0 : Int32).toNatClampNeg (0 : Int32).toNatClampNeg (8 : Int32).toNatClampNeg) (va_cpy o_sof v_sof (0 : Int32).toNatClampNeg (0 : Int32).toNatClampNeg (8 : Int32).toNatClampNeg) (va_cpy o_kin v_kin (0 : Int32).toNatClampNeg (0 : Int32).toNatClampNeg (8 : Int32).toNatClampNeg) (va_cpy o_lou v_lou (0 : Int32).toNatClampNeg (0 : Int32).toNatClampNeg (8 : Int32).toNatClampNeg) (va_cpy o_pit v_pit (0 : Int32).toNatClampNeg (0 : Int32).toNatClampNeg (8 : Int32).toNatClampNeg) (va_cpy o_pla v_pla (0 : Int32).toNatClampNeg (0 : Int32).toNatClampNeg (8 : Int32).toNatClampNeg) (va_cpy o_cas v_cas (0 : Int32).toNatClampNeg (0 : Int32).toNatClampNeg (8 : Int32).toNatClampNeg) (va_cpy o_hrs v_hrs (0 : Int32).toNatClampNeg (0 : Int32).toNatClampNeg (8 : Int32).toNatClampNeg) (va_cpy o_nws v_nws (0 : Int32).toNatClampNeg (0 : Int32).toNatClampNeg (8 : Int32).toNatClampNeg) (va_cpy o_hat v_hat (0 : Int32).toNatClampNeg (0 : Int32).toNatClampNeg (8 : Int32).toNatClampNeg) (va_cpy o_wea v_wea (0 : Int32).toNatClampNeg (0 : Int32).toNatClampNeg (8 : Int32).toNatClampNeg) v_row ++ wX3 qo cy o_hour o_crowd o_buskers o_answered o_draws o_lim o_cmp o_sof o_kin o_lou o_pit o_pla o_cas o_hrs o_nws o_hat o_wea o_row) := hD
  cases hf
  exact e_wv CX hr hlk hP hD hS (dg ddX3_copyFrom 116 rfl)
