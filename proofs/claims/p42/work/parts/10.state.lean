/-! by program: State -/
def f_X4_isPitch (a1 : Int32) : Option (Int32) := if a1 < 0 then (some 0) else (if 8 ≤ a1 then (some 0) else (some 1))
set_option maxHeartbeats 4000000 in
set_option maxRecDepth 100000 in
theorem c_X4_isPitch (l : Launch) (D : va_G) (cy : Nat → ClassId) (a1 : Int32) {res : Int32} (hf : f_X4_isPitch a1 = some res) : Met l yX4_isPitch (.code yX4_isPitch cX4_isPitch 1 (some .boolean) :: lw_all) { frames := 1, cells := 0, slots := 0, locals := 12 } (va_Pc [.int a1] (sR D cy [])) (vp_Si (fun r => r = res)) 0 0 (fun _ => False) := by
  refine mk_ro (Rc := RX4) (by decide +kernel) rfl (Nat.le_of_ble_eq_true rfl) ?_
  intro p e s m args below meth c ls CX hml hr hlk hK hN hP hl
  have hx := CX.1
  have hb := CX.2.1
  refine lv_iload_n hx hb (dg ddX4_isPitch 0 rfl) rfl (lv_at hl 0 rfl) ?_
  refine lv_if_lt (tgt := 14) hx hb (dg ddX4_isPitch 1 rfl) (by decide) (fun h1 => ?_) (fun h1 => ?_)
  · have hf := it_t h1 hf
    refine lv_iconst (v := 0) hx hb (dg ddX4_isPitch 7 rfl) (by decide) ?_
    exact e_rz CX hr hlk (by decide) (Option.some.inj hf) (dg ddX4_isPitch 8 rfl)
  · have hf := it_f h1 hf
    refine lv_iload_n hx hb (dg ddX4_isPitch 2 rfl) rfl (lv_at hl 0 rfl) ?_
    refine lv_bipush (v := 8) hx hb (dg ddX4_isPitch 3 rfl) (by decide) ?_
    refine lv_icmp_ge (tgt := 14) hx hb (dg ddX4_isPitch 4 rfl) (by decide) (fun h2 => ?_) (fun h2 => ?_)
    · have hf := it_t h2 hf
      refine lv_iconst (v := 0) hx hb (dg ddX4_isPitch 7 rfl) (by decide) ?_
      exact e_rz CX hr hlk (by decide) (Option.some.inj hf) (dg ddX4_isPitch 8 rfl)
    · have hf := it_f h2 hf
      refine lv_iconst (v := 1) hx hb (dg ddX4_isPitch 5 rfl) (by decide) ?_
      refine lv_goto (tgt := 15) hx hb (dg ddX4_isPitch 6 rfl) (by decide) ?_
      exact e_rz CX hr hlk (by decide) (Option.some.inj hf) (dg ddX4_isPitch 8 rfl)
def f_X3_hasBusker (v_buskers : Int32) (a1 : Int32) : Option (Int32) := if a1 < 0 then (some 0) else (if v_buskers ≤ a1 then (some 0) else (if 8 ≤ a1 then (some 0) else (some 1)))
set_option maxHeartbeats 4000000 in
set_option maxRecDepth 100000 in
theorem c_X3_hasBusker (l : Launch) (D : va_G) (cy : Nat → ClassId) (q : Nat → Nat) (v_hour : Int32) (v_crowd : Int32) (v_buskers : Int32) (v_answered : Int32) (v_draws : Int32) (v_lim : Nat → UInt32) (v_cmp : Nat → Int32) (v_sof : Nat → Int32) (v_kin : Nat → Int32) (v_lou : Nat → Int32) (v_pit : Nat → Int32) (v_pla : Nat → Int32) (v_cas : Nat → Int32) (v_hrs : Nat → Int32) (v_nws : Nat → Int32) (v_hat : Nat → UInt32) (v_wea : Nat → UInt32) (v_row : Nat → UInt32) (a1 : Int32) {res : Int32} (hf : f_X3_hasBusker v_buskers a1 = some res) : Met l yX3_hasBusker (.code yX3_hasBusker cX3_hasBusker 2 (some .boolean) :: lw_all) { frames := 1, cells := 0, slots := 0, locals := 12 } (va_Pc [.ref (q 0), .int a1] (sR D cy (wX3 q cy v_hour v_crowd v_buskers v_answered v_draws v_lim v_cmp v_sof v_kin v_lou v_pit v_pla v_cas v_hrs v_nws v_hat v_wea v_row))) (vp_Si (fun r => r = res)) 0 0 (fun _ => False) := by
  refine mk_ro (Rc := RX3) (by decide +kernel) rfl (Nat.le_of_ble_eq_true rfl) ?_
  intro p e s m args below meth c ls CX hml hr hlk hK hN hP hl
  have hx := CX.1
  have hb := CX.2.1
  refine lv_iload_n hx hb (dg ddX3_hasBusker 0 rfl) rfl (lv_at hl 1 rfl) ?_
  refine lv_if_lt (tgt := 22) hx hb (dg ddX3_hasBusker 1 rfl) (by decide) (fun h1 => ?_) (fun h1 => ?_)
  · have hf := it_t h1 hf
    refine lv_iconst (v := 0) hx hb (dg ddX3_hasBusker 11 rfl) (by decide) ?_
    exact e_rz CX hr hlk (by decide) (Option.some.inj hf) (dg ddX3_hasBusker 12 rfl)
  · have hf := it_f h1 hf
    refine lv_iload_n hx hb (dg ddX3_hasBusker 2 rfl) rfl (lv_at hl 1 rfl) ?_
    refine lv_aload_n hx hb (dg ddX3_hasBusker 3 rfl) rfl (lv_at hl 0 rfl) ?_
    refine gf_RX3_18 CX hK hP 0 rfl rfl (dg ddX3_hasBusker 4 rfl) ?_
    refine lv_icmp_ge (tgt := 22) hx hb (dg ddX3_hasBusker 5 rfl) (by decide) (fun h2 => ?_) (fun h2 => ?_)
    · have hf := it_t h2 hf
      refine lv_iconst (v := 0) hx hb (dg ddX3_hasBusker 11 rfl) (by decide) ?_
      exact e_rz CX hr hlk (by decide) (Option.some.inj hf) (dg ddX3_hasBusker 12 rfl)
    · have hf := it_f h2 hf
      refine lv_iload_n hx hb (dg ddX3_hasBusker 6 rfl) rfl (lv_at hl 1 rfl) ?_
      refine lv_bipush (v := 8) hx hb (dg ddX3_hasBusker 7 rfl) (by decide) ?_
      refine lv_icmp_ge (tgt := 22) hx hb (dg ddX3_hasBusker 8 rfl) (by decide) (fun h3 => ?_) (fun h3 => ?_)
      · have hf := it_t h3 hf
        refine lv_iconst (v := 0) hx hb (dg ddX3_hasBusker 11 rfl) (by decide) ?_
        exact e_rz CX hr hlk (by decide) (Option.some.inj hf) (dg ddX3_hasBusker 12 rfl)
      · have hf := it_f h3 hf
        refine lv_iconst (v := 1) hx hb (dg ddX3_hasBusker 9 rfl) (by decide) ?_
        refine lv_goto (tgt := 23) hx hb (dg ddX3_hasBusker 10 rfl) (by decide) ?_
        exact e_rz CX hr hlk (by decide) (Option.some.inj hf) (dg ddX3_hasBusker 12 rfl)
def f_X3_addBusker (v_buskers : Int32) (v_kin : Nat → Int32) (v_lou : Nat → Int32) (a1 : Int32) (a2 : Int32) : Option (Int32 × Int32 × (Nat → Int32) × (Nat → Int32)) := if v_buskers < 0 then (some ((-1), v_buskers, v_kin, v_lou)) else (if v_buskers < 8 then (og (inb v_buskers 8) (og (inb v_buskers 8) (some (((v_buskers + 1) - 1), (v_buskers + 1), (upd v_kin v_buskers.toNatClampNeg a1), (upd v_lou v_buskers.toNatClampNeg a2))))) else (some ((-1), v_buskers, v_kin, v_lou)))
set_option maxHeartbeats 4000000 in
set_option maxRecDepth 100000 in
theorem c_X3_addBusker (l : Launch) (D : va_G) (cy : Nat → ClassId) (q : Nat → Nat) (v_hour : Int32) (v_crowd : Int32) (v_buskers : Int32) (v_answered : Int32) (v_draws : Int32) (v_lim : Nat → UInt32) (v_cmp : Nat → Int32) (v_sof : Nat → Int32) (v_kin : Nat → Int32) (v_lou : Nat → Int32) (v_pit : Nat → Int32) (v_pla : Nat → Int32) (v_cas : Nat → Int32) (v_hrs : Nat → Int32) (v_nws : Nat → Int32) (v_hat : Nat → UInt32) (v_wea : Nat → UInt32) (v_row : Nat → UInt32) (a1 : Int32) (a2 : Int32) (sz : Nat) {res : Int32 × Int32 × (Nat → Int32) × (Nat → Int32)} (hf : f_X3_addBusker v_buskers v_kin v_lou a1 a2 = some res) : Met l yX3_addBusker (.code yX3_addBusker cX3_addBusker 3 (some .int) :: lw_all) { frames := 1, cells := 0, slots := 0, locals := 12 } (va_Pc [.ref (q 0), .int a1, .int a2] (sW D cy (wX3 q cy v_hour v_crowd v_buskers v_answered v_draws v_lim v_cmp v_sof v_kin v_lou v_pit v_pla v_cas v_hrs v_nws v_hat v_wea v_row) sz)) (qI D (wX3 q cy v_hour v_crowd res.2.1 v_answered v_draws v_lim v_cmp v_sof res.2.2.1 res.2.2.2 v_pit v_pla v_cas v_hrs v_nws v_hat v_wea v_row) res.1 (va_A (wX3 q cy v_hour v_crowd v_buskers v_answered v_draws v_lim v_cmp v_sof v_kin v_lou v_pit v_pla v_cas v_hrs v_nws v_hat v_wea v_row) sz)) 0 0 (va_A (wX3 q cy v_hour v_crowd v_buskers v_answered v_draws v_lim v_cmp v_sof v_kin v_lou v_pit v_pla v_cas v_hrs v_nws v_hat v_wea v_row) sz) := by
  refine mk_rw (Qc := qI D (wX3 q cy v_hour v_crowd res.2.1 v_answered v_draws v_lim v_cmp v_sof res.2.2.1 res.2.2.2 v_pit v_pla v_cas v_hrs v_nws v_hat v_wea v_row) res.1) (Rc := RX3) (by decide +kernel) rfl (Nat.le_of_ble_eq_true rfl) ?_
  intro p e s m args below meth c ls A CX hml hr hlk hK hN hP hD hS hA hl
  have hx := CX.1
  have hb := CX.2.1
  refine lv_aload_n hx hb (dg ddX3_addBusker 0 rfl) rfl (lv_at hl 0 rfl) ?_
  refine gf_RX3_18 CX hK hP 0 rfl rfl (dg ddX3_addBusker 1 rfl) ?_
  refine lv_if_lt (tgt := 16) hx hb (dg ddX3_addBusker 2 rfl) (by decide) (fun h1 => ?_) (fun h1 => ?_)
  · have hf := it_t h1 hf
    refine lv_iconst (v := (-1)) hx hb (dg ddX3_addBusker 7 rfl) (by decide) ?_
    cases hf
    exact e_wi CX hr hlk rfl hP hD hS (dg ddX3_addBusker 8 rfl)
  · have hf := it_f h1 hf
    refine lv_aload_n hx hb (dg ddX3_addBusker 3 rfl) rfl (lv_at hl 0 rfl) ?_
    refine gf_RX3_18 CX hK hP 0 rfl rfl (dg ddX3_addBusker 4 rfl) ?_
    refine lv_bipush (v := 8) hx hb (dg ddX3_addBusker 5 rfl) (by decide) ?_
    refine lv_icmp_lt (tgt := 18) hx hb (dg ddX3_addBusker 6 rfl) (by decide) (fun h2 => ?_) (fun h2 => ?_)
    · have hf := it_t h2 hf
      refine lv_aload_n hx hb (dg ddX3_addBusker 9 rfl) rfl (lv_at hl 0 rfl) ?_
      refine gf_RX3_38 CX hK hP 0 rfl rfl (dg ddX3_addBusker 10 rfl) ?_
      refine lv_aload_n hx hb (dg ddX3_addBusker 11 rfl) rfl (lv_at hl 0 rfl) ?_
      refine gf_RX3_18 CX hK hP 0 rfl rfl (dg ddX3_addBusker 12 rfl) ?_
      refine lv_iload_n hx hb (dg ddX3_addBusker 13 rfl) rfl (lv_at hl 1 rfl) ?_
      obtain ⟨h3, hf⟩ := og_some hf
      refine va_iast hx hb hK hP hD hS 4 0 rfl rfl (inb_in h3) (dg ddX3_addBusker 14 rfl) (fun H locs hP hD hS => ?_)
      have hP : va_P D vwCl (wX3 q cy v_hour v_crowd v_buskers v_answered v_draws v_lim v_cmp v_sof (upd v_kin v_buskers.toNatClampNeg a1) v_lou v_pit v_pla v_cas v_hrs v_nws v_hat v_wea v_row) H := hP
      have hD : va_D A (wX3 q cy v_hour v_crowd v_buskers v_answered v_draws v_lim v_cmp v_sof (upd v_kin v_buskers.toNatClampNeg a1) v_lou v_pit v_pla v_cas v_hrs v_nws v_hat v_wea v_row) := hD
      refine lv_aload_n hx hb (dg ddX3_addBusker 15 rfl) rfl (lv_at hl 0 rfl) ?_
      refine gf_RX3_41 CX hK hP 0 rfl rfl (dg ddX3_addBusker 16 rfl) ?_
      refine lv_aload_n hx hb (dg ddX3_addBusker 17 rfl) rfl (lv_at hl 0 rfl) ?_
      refine gf_RX3_18 CX hK hP 0 rfl rfl (dg ddX3_addBusker 18 rfl) ?_
      refine lv_iload_n hx hb (dg ddX3_addBusker 19 rfl) rfl (lv_at hl 2 rfl) ?_
      obtain ⟨h4, hf⟩ := og_some hf
      refine va_iast hx hb hK hP hD hS 5 0 rfl rfl (inb_in h4) (dg ddX3_addBusker 20 rfl) (fun H locs hP hD hS => ?_)
      have hP : va_P D vwCl (wX3 q cy v_hour v_crowd v_buskers v_answered v_draws v_lim v_cmp v_sof (upd v_kin v_buskers.toNatClampNeg a1) (upd v_lou v_buskers.toNatClampNeg a2) v_pit v_pla v_cas v_hrs v_nws v_hat v_wea v_row) H := hP
      have hD : va_D A (wX3 q cy v_hour v_crowd v_buskers v_answered v_draws v_lim v_cmp v_sof (upd v_kin v_buskers.toNatClampNeg a1) (upd v_lou v_buskers.toNatClampNeg a2) v_pit v_pla v_cas v_hrs v_nws v_hat v_wea v_row) := hD
      refine lv_aload_n hx hb (dg ddX3_addBusker 21 rfl) rfl (lv_at hl 0 rfl) ?_
      refine lv_dup hx hb (dg ddX3_addBusker 22 rfl) rfl ?_
      refine gf_RX3_18 CX hK hP 0 rfl rfl (dg ddX3_addBusker 23 rfl) ?_
      refine lv_iconst (v := 1) hx hb (dg ddX3_addBusker 24 rfl) (by decide) ?_
      refine lv_iadd hx hb (dg ddX3_addBusker 25 rfl) ?_
      refine pf_RX3_18 CX hK hP hD hS 0 rfl (dg ddX3_addBusker 26 rfl) (Nat.le_of_ble_eq_true rfl) (fun H locs hP hD hS => ?_)
      have hP : va_P D vwCl (wX3 q cy v_hour v_crowd (v_buskers + 1) v_answered v_draws v_lim v_cmp v_sof (upd v_kin v_buskers.toNatClampNeg a1) (upd v_lou v_buskers.toNatClampNeg a2) v_pit v_pla v_cas v_hrs v_nws v_hat v_wea v_row) H := hP
      have hD : va_D A (wX3 q cy v_hour v_crowd (v_buskers + 1) v_answered v_draws v_lim v_cmp v_sof (upd v_kin v_buskers.toNatClampNeg a1) (upd v_lou v_buskers.toNatClampNeg a2) v_pit v_pla v_cas v_hrs v_nws v_hat v_wea v_row) := hD
      refine lv_aload_n hx hb (dg ddX3_addBusker 27 rfl) rfl (lv_at hl 0 rfl) ?_
      refine gf_RX3_18 CX hK hP 0 rfl rfl (dg ddX3_addBusker 28 rfl) ?_
      refine lv_iconst (v := 1) hx hb (dg ddX3_addBusker 29 rfl) (by decide) ?_
      refine lv_isub hx hb (dg ddX3_addBusker 30 rfl) ?_
      cases hf
      exact e_wi CX hr hlk rfl hP hD hS (dg ddX3_addBusker 31 rfl)
    · have hf := it_f h2 hf
      refine lv_iconst (v := (-1)) hx hb (dg ddX3_addBusker 7 rfl) (by decide) ?_
      cases hf
      exact e_wi CX hr hlk rfl hP hD hS (dg ddX3_addBusker 8 rfl)
def f_X3_playerOn_c2  (v_pit : Nat → Int32) (a1 : Int32) : Nat → Int32 → Option (Int32)
  | 0, _ => none
  | n + 1, x2 => if 8 ≤ x2 then (some (-1)) else (ob (f_X4_isPitch a1) fun r3 => (if r3 = 0 then (some (-1)) else (og (inb x2 8) (if (v_pit x2.toNatClampNeg) = a1 then (some x2) else (f_X3_playerOn_c2 v_pit a1 n (x2 + 1))))))
def f_X3_playerOn (v_pit : Nat → Int32) (a1 : Int32) : Option (Int32) := f_X3_playerOn_c2 v_pit a1 4096 0
set_option maxHeartbeats 4000000 in
set_option maxRecDepth 100000 in
theorem c_X3_playerOn (l : Launch) (D : va_G) (cy : Nat → ClassId) (q : Nat → Nat) (v_hour : Int32) (v_crowd : Int32) (v_buskers : Int32) (v_answered : Int32) (v_draws : Int32) (v_lim : Nat → UInt32) (v_cmp : Nat → Int32) (v_sof : Nat → Int32) (v_kin : Nat → Int32) (v_lou : Nat → Int32) (v_pit : Nat → Int32) (v_pla : Nat → Int32) (v_cas : Nat → Int32) (v_hrs : Nat → Int32) (v_nws : Nat → Int32) (v_hat : Nat → UInt32) (v_wea : Nat → UInt32) (v_row : Nat → UInt32) (a1 : Int32) {res : Int32} (hf : f_X3_playerOn v_pit a1 = some res) : Met l yX3_playerOn (.code yX3_playerOn cX3_playerOn 3 (some .int) :: lw_all) { frames := 2, cells := 0, slots := 0, locals := 32 } (va_Pc [.ref (q 0), .int a1] (sR D cy (wX3 q cy v_hour v_crowd v_buskers v_answered v_draws v_lim v_cmp v_sof v_kin v_lou v_pit v_pla v_cas v_hrs v_nws v_hat v_wea v_row))) (vp_Si (fun r => r = res)) 0 0 (fun _ => False) := by
  refine mk_ro (Rc := RX3) (by decide +kernel) rfl (Nat.le_of_ble_eq_true rfl) ?_
  intro p e s m args below meth c ls CX hml hr hlk hK hN hP hl
  have hx := CX.1
  have hb := CX.2.1
  have hRMX4_isPitch : (⟨1, 0, 0, 12⟩ : Room).frames + 1 ≤ (⟨2, 0, 0, 32⟩ : Room).frames ∧ 8 + (1 + 11) + (⟨1, 0, 0, 12⟩ : Room).locals ≤ (⟨2, 0, 0, 32⟩ : Room).locals := ⟨Nat.le_of_ble_eq_true rfl, Nat.le_of_ble_eq_true rfl⟩
  have hl0 := hl
  have K2 : ∀ (n : Nat), ∀ (x2 : Int32) (ls : Array Slot) (hl : lv_has ls 3 [(0, .ref (q 0)), (1, .int a1), (2, .int x2)]) (hf : f_X3_playerOn_c2 v_pit a1 n x2 = some res), W p l e ⟨2, 0, 0, 32⟩ s m args below meth c s.heap [] 0 0 (MQ below (vp_Si (fun r => r = res)) args s 0 0 (fun _ => False)) (F0 m 2 ls []) := by
    intro n
    induction n with
    | zero => intro x2 ls hl hf; cases (show none = some res from hf)
    | succ n ih =>
    intro x2 ls hl hf
    refine lv_iload_n hx hb (dg ddX3_playerOn 2 rfl) rfl (lv_at hl 2 rfl) ?_
    refine lv_bipush (v := 8) hx hb (dg ddX3_playerOn 3 rfl) (by decide) ?_
    refine lv_icmp_ge (tgt := 33) hx hb (dg ddX3_playerOn 4 rfl) (by decide) (fun h1 => ?_) (fun h1 => ?_)
    · have hf := it_t h1 hf
      refine lv_iconst (v := (-1)) hx hb (dg ddX3_playerOn 18 rfl) (by decide) ?_
      exact e_ri CX hr hlk (Option.some.inj hf) (dg ddX3_playerOn 19 rfl)
    · have hf := it_f h1 hf
      refine lv_iload_n hx hb (dg ddX3_playerOn 5 rfl) rfl (lv_at hl 1 rfl) ?_
      obtain ⟨r3, e2, hf⟩ := ob_some hf
      refine cro_sni CX hml (As := [.int a1]) (rest := []) (c_X4_isPitch l D cy a1 e2) lk_RX3_84 rfl rfl hRMX4_isPitch vaP_nil hK hN rfl hl.1 rfl (Nat.le_of_ble_eq_true rfl) ⟨Nat.le_of_ble_eq_true rfl, Nat.le_of_ble_eq_true rfl⟩ (dg ddX3_playerOn 6 rfl) ?_
      refine lv_if_eq (tgt := 33) hx hb (dg ddX3_playerOn 7 rfl) (by decide) (fun h4 => ?_) (fun h4 => ?_)
      · have hf := it_t h4 hf
        refine lv_iconst (v := (-1)) hx hb (dg ddX3_playerOn 18 rfl) (by decide) ?_
        exact e_ri CX hr hlk (Option.some.inj hf) (dg ddX3_playerOn 19 rfl)
      · have hf := it_f h4 hf
        refine lv_aload_n hx hb (dg ddX3_playerOn 8 rfl) rfl (lv_at hl 0 rfl) ?_
        refine gf_RX3_44 CX hK hP 0 rfl rfl (dg ddX3_playerOn 9 rfl) ?_
        refine lv_iload_n hx hb (dg ddX3_playerOn 10 rfl) rfl (lv_at hl 2 rfl) ?_
        obtain ⟨h5, hf⟩ := og_some hf
        refine va_iald hx hb hK hP 6 0 rfl rfl (inb_in h5) (dg ddX3_playerOn 11 rfl) ?_
        refine lv_iload_n hx hb (dg ddX3_playerOn 12 rfl) rfl (lv_at hl 1 rfl) ?_
        refine lv_icmp_ne (tgt := 27) hx hb (dg ddX3_playerOn 13 rfl) (by decide) (fun h6 => ?_) (fun h6 => ?_)
        · have hf := it_f h6 hf
          refine lv_iinc (v := x2 + 1) (lv' := [(2, .int (x2 + 1)), (0, .ref (q 0)), (1, .int a1)]) hx hb (dg ddX3_playerOn 16 rfl) hl (k := 2) rfl (congrArg (HAdd.hAdd x2) (by decide)) (by decide) rfl (fun ls hl => ?_)
          refine lv_goto (tgt := 2) hx hb (dg ddX3_playerOn 17 rfl) (by decide) ?_
          exact ih (x2 + 1) _ (lv_sub hl [1, 2, 0] rfl) hf
        · have hf := it_t h6 hf
          refine lv_iload_n hx hb (dg ddX3_playerOn 14 rfl) rfl (lv_at hl 2 rfl) ?_
          exact e_ri CX hr hlk (Option.some.inj hf) (dg ddX3_playerOn 15 rfl)
  refine lv_iconst (v := 0) hx hb (dg ddX3_playerOn 0 rfl) (by decide) ?_
  refine lv_istore_n (lv' := [(2, .int 0), (0, .ref (q 0)), (1, .int a1)]) hx hb (dg ddX3_playerOn 1 rfl) rfl hl (by decide) rfl (fun ls hl => ?_)
  exact K2 4096 0 _ (lv_sub hl [1, 2, 0] rfl) hf
def f_X3_waiterAt_c2  (v_pla : Nat → Int32) (a1 : Int32) : Nat → Int32 → Option (Int32)
  | 0, _ => none
  | n + 1, x2 => if 8 ≤ x2 then (some (-1)) else (if a1 < 0 then (some (-1)) else (og (inb x2 8) (if (v_pla x2.toNatClampNeg) = a1 then (some x2) else (f_X3_waiterAt_c2 v_pla a1 n (x2 + 1)))))
def f_X3_waiterAt (v_pla : Nat → Int32) (a1 : Int32) : Option (Int32) := f_X3_waiterAt_c2 v_pla a1 4096 0
set_option maxHeartbeats 4000000 in
set_option maxRecDepth 100000 in
theorem c_X3_waiterAt (l : Launch) (D : va_G) (cy : Nat → ClassId) (q : Nat → Nat) (v_hour : Int32) (v_crowd : Int32) (v_buskers : Int32) (v_answered : Int32) (v_draws : Int32) (v_lim : Nat → UInt32) (v_cmp : Nat → Int32) (v_sof : Nat → Int32) (v_kin : Nat → Int32) (v_lou : Nat → Int32) (v_pit : Nat → Int32) (v_pla : Nat → Int32) (v_cas : Nat → Int32) (v_hrs : Nat → Int32) (v_nws : Nat → Int32) (v_hat : Nat → UInt32) (v_wea : Nat → UInt32) (v_row : Nat → UInt32) (a1 : Int32) {res : Int32} (hf : f_X3_waiterAt v_pla a1 = some res) : Met l yX3_waiterAt (.code yX3_waiterAt cX3_waiterAt 3 (some .int) :: lw_all) { frames := 1, cells := 0, slots := 0, locals := 12 } (va_Pc [.ref (q 0), .int a1] (sR D cy (wX3 q cy v_hour v_crowd v_buskers v_answered v_draws v_lim v_cmp v_sof v_kin v_lou v_pit v_pla v_cas v_hrs v_nws v_hat v_wea v_row))) (vp_Si (fun r => r = res)) 0 0 (fun _ => False) := by
  refine mk_ro (Rc := RX3) (by decide +kernel) rfl (Nat.le_of_ble_eq_true rfl) ?_
  intro p e s m args below meth c ls CX hml hr hlk hK hN hP hl
  have hx := CX.1
  have hb := CX.2.1
  have hl0 := hl
  have K2 : ∀ (n : Nat), ∀ (x2 : Int32) (ls : Array Slot) (hl : lv_has ls 3 [(0, .ref (q 0)), (1, .int a1), (2, .int x2)]) (hf : f_X3_waiterAt_c2 v_pla a1 n x2 = some res), W p l e ⟨1, 0, 0, 12⟩ s m args below meth c s.heap [] 0 0 (MQ below (vp_Si (fun r => r = res)) args s 0 0 (fun _ => False)) (F0 m 2 ls []) := by
    intro n
    induction n with
    | zero => intro x2 ls hl hf; cases (show none = some res from hf)
    | succ n ih =>
    intro x2 ls hl hf
    refine lv_iload_n hx hb (dg ddX3_waiterAt 2 rfl) rfl (lv_at hl 2 rfl) ?_
    refine lv_bipush (v := 8) hx hb (dg ddX3_waiterAt 3 rfl) (by decide) ?_
    refine lv_icmp_ge (tgt := 30) hx hb (dg ddX3_waiterAt 4 rfl) (by decide) (fun h1 => ?_) (fun h1 => ?_)
    · have hf := it_t h1 hf
      refine lv_iconst (v := (-1)) hx hb (dg ddX3_waiterAt 17 rfl) (by decide) ?_
      exact e_ri CX hr hlk (Option.some.inj hf) (dg ddX3_waiterAt 18 rfl)
    · have hf := it_f h1 hf
      refine lv_iload_n hx hb (dg ddX3_waiterAt 5 rfl) rfl (lv_at hl 1 rfl) ?_
      refine lv_if_lt (tgt := 30) hx hb (dg ddX3_waiterAt 6 rfl) (by decide) (fun h2 => ?_) (fun h2 => ?_)
      · have hf := it_t h2 hf
        refine lv_iconst (v := (-1)) hx hb (dg ddX3_waiterAt 17 rfl) (by decide) ?_
        exact e_ri CX hr hlk (Option.some.inj hf) (dg ddX3_waiterAt 18 rfl)
      · have hf := it_f h2 hf
        refine lv_aload_n hx hb (dg ddX3_waiterAt 7 rfl) rfl (lv_at hl 0 rfl) ?_
        refine gf_RX3_47 CX hK hP 0 rfl rfl (dg ddX3_waiterAt 8 rfl) ?_
        refine lv_iload_n hx hb (dg ddX3_waiterAt 9 rfl) rfl (lv_at hl 2 rfl) ?_
        obtain ⟨h3, hf⟩ := og_some hf
        refine va_iald hx hb hK hP 7 0 rfl rfl (inb_in h3) (dg ddX3_waiterAt 10 rfl) ?_
        refine lv_iload_n hx hb (dg ddX3_waiterAt 11 rfl) rfl (lv_at hl 1 rfl) ?_
        refine lv_icmp_ne (tgt := 24) hx hb (dg ddX3_waiterAt 12 rfl) (by decide) (fun h4 => ?_) (fun h4 => ?_)
        · have hf := it_f h4 hf
          refine lv_iinc (v := x2 + 1) (lv' := [(2, .int (x2 + 1)), (0, .ref (q 0)), (1, .int a1)]) hx hb (dg ddX3_waiterAt 15 rfl) hl (k := 2) rfl (congrArg (HAdd.hAdd x2) (by decide)) (by decide) rfl (fun ls hl => ?_)
          refine lv_goto (tgt := 2) hx hb (dg ddX3_waiterAt 16 rfl) (by decide) ?_
          exact ih (x2 + 1) _ (lv_sub hl [1, 2, 0] rfl) hf
        · have hf := it_t h4 hf
          refine lv_iload_n hx hb (dg ddX3_waiterAt 13 rfl) rfl (lv_at hl 2 rfl) ?_
          exact e_ri CX hr hlk (Option.some.inj hf) (dg ddX3_waiterAt 14 rfl)
  refine lv_iconst (v := 0) hx hb (dg ddX3_waiterAt 0 rfl) (by decide) ?_
  refine lv_istore_n (lv' := [(2, .int 0), (0, .ref (q 0)), (1, .int a1)]) hx hb (dg ddX3_waiterAt 1 rfl) rfl hl (by decide) rfl (fun ls hl => ?_)
  exact K2 4096 0 _ (lv_sub hl [1, 2, 0] rfl) hf
def f_X3_caseAt_c2  (v_kin : Nat → Int32) (v_cas : Nat → Int32) (a1 : Int32) (a2 : Int32) : Nat → Int32 → Option (Int32)
  | 0, _ => none
  | n + 1, x3 => if 8 ≤ x3 then (some (-1)) else (if a2 < 0 then (some (-1)) else (og (inb x3 8) (if (v_cas x3.toNatClampNeg) = a2 then (og (inb x3 8) (if (v_kin x3.toNatClampNeg) = a1 then (some x3) else (f_X3_caseAt_c2 v_kin v_cas a1 a2 n (x3 + 1)))) else (f_X3_caseAt_c2 v_kin v_cas a1 a2 n (x3 + 1)))))
def f_X3_caseAt (v_kin : Nat → Int32) (v_cas : Nat → Int32) (a1 : Int32) (a2 : Int32) : Option (Int32) := f_X3_caseAt_c2 v_kin v_cas a1 a2 4096 0
set_option maxHeartbeats 4000000 in
set_option maxRecDepth 100000 in
theorem c_X3_caseAt (l : Launch) (D : va_G) (cy : Nat → ClassId) (q : Nat → Nat) (v_hour : Int32) (v_crowd : Int32) (v_buskers : Int32) (v_answered : Int32) (v_draws : Int32) (v_lim : Nat → UInt32) (v_cmp : Nat → Int32) (v_sof : Nat → Int32) (v_kin : Nat → Int32) (v_lou : Nat → Int32) (v_pit : Nat → Int32) (v_pla : Nat → Int32) (v_cas : Nat → Int32) (v_hrs : Nat → Int32) (v_nws : Nat → Int32) (v_hat : Nat → UInt32) (v_wea : Nat → UInt32) (v_row : Nat → UInt32) (a1 : Int32) (a2 : Int32) {res : Int32} (hf : f_X3_caseAt v_kin v_cas a1 a2 = some res) : Met l yX3_caseAt (.code yX3_caseAt cX3_caseAt 4 (some .int) :: lw_all) { frames := 1, cells := 0, slots := 0, locals := 12 } (va_Pc [.ref (q 0), .int a1, .int a2] (sR D cy (wX3 q cy v_hour v_crowd v_buskers v_answered v_draws v_lim v_cmp v_sof v_kin v_lou v_pit v_pla v_cas v_hrs v_nws v_hat v_wea v_row))) (vp_Si (fun r => r = res)) 0 0 (fun _ => False) := by
  refine mk_ro (Rc := RX3) (by decide +kernel) rfl (Nat.le_of_ble_eq_true rfl) ?_
  intro p e s m args below meth c ls CX hml hr hlk hK hN hP hl
  have hx := CX.1
  have hb := CX.2.1
  have hl0 := hl
  have K2 : ∀ (n : Nat), ∀ (x3 : Int32) (ls : Array Slot) (hl : lv_has ls 4 [(0, .ref (q 0)), (1, .int a1), (2, .int a2), (3, .int x3)]) (hf : f_X3_caseAt_c2 v_kin v_cas a1 a2 n x3 = some res), W p l e ⟨1, 0, 0, 12⟩ s m args below meth c s.heap [] 0 0 (MQ below (vp_Si (fun r => r = res)) args s 0 0 (fun _ => False)) (F0 m 2 ls []) := by
    intro n
    induction n with
    | zero => intro x3 ls hl hf; cases (show none = some res from hf)
    | succ n ih =>
    intro x3 ls hl hf
    refine lv_iload_n hx hb (dg ddX3_caseAt 2 rfl) rfl (lv_at hl 3 rfl) ?_
    refine lv_bipush (v := 8) hx hb (dg ddX3_caseAt 3 rfl) (by decide) ?_
    refine lv_icmp_ge (tgt := 40) hx hb (dg ddX3_caseAt 4 rfl) (by decide) (fun h1 => ?_) (fun h1 => ?_)
    · have hf := it_t h1 hf
      refine lv_iconst (v := (-1)) hx hb (dg ddX3_caseAt 23 rfl) (by decide) ?_
      exact e_ri CX hr hlk (Option.some.inj hf) (dg ddX3_caseAt 24 rfl)
    · have hf := it_f h1 hf
      refine lv_iload_n hx hb (dg ddX3_caseAt 5 rfl) rfl (lv_at hl 2 rfl) ?_
      refine lv_if_lt (tgt := 40) hx hb (dg ddX3_caseAt 6 rfl) (by decide) (fun h2 => ?_) (fun h2 => ?_)
      · have hf := it_t h2 hf
        refine lv_iconst (v := (-1)) hx hb (dg ddX3_caseAt 23 rfl) (by decide) ?_
        exact e_ri CX hr hlk (Option.some.inj hf) (dg ddX3_caseAt 24 rfl)
      · have hf := it_f h2 hf
        refine lv_aload_n hx hb (dg ddX3_caseAt 7 rfl) rfl (lv_at hl 0 rfl) ?_
        refine gf_RX3_50 CX hK hP 0 rfl rfl (dg ddX3_caseAt 8 rfl) ?_
        refine lv_iload_n hx hb (dg ddX3_caseAt 9 rfl) rfl (lv_at hl 3 rfl) ?_
        obtain ⟨h3, hf⟩ := og_some hf
        refine va_iald hx hb hK hP 8 0 rfl rfl (inb_in h3) (dg ddX3_caseAt 10 rfl) ?_
        refine lv_iload_n hx hb (dg ddX3_caseAt 11 rfl) rfl (lv_at hl 2 rfl) ?_
        refine lv_icmp_ne (tgt := 34) hx hb (dg ddX3_caseAt 12 rfl) (by decide) (fun h4 => ?_) (fun h4 => ?_)
        · have hf := it_f h4 hf
          refine lv_iinc (v := x3 + 1) (lv' := [(3, .int (x3 + 1)), (0, .ref (q 0)), (1, .int a1), (2, .int a2)]) hx hb (dg ddX3_caseAt 21 rfl) hl (k := 3) rfl (congrArg (HAdd.hAdd x3) (by decide)) (by decide) rfl (fun ls hl => ?_)
          refine lv_goto (tgt := 2) hx hb (dg ddX3_caseAt 22 rfl) (by decide) ?_
          exact ih (x3 + 1) _ (lv_sub hl [1, 2, 3, 0] rfl) hf
        · have hf := it_t h4 hf
          refine lv_aload_n hx hb (dg ddX3_caseAt 13 rfl) rfl (lv_at hl 0 rfl) ?_
          refine gf_RX3_38 CX hK hP 0 rfl rfl (dg ddX3_caseAt 14 rfl) ?_
          refine lv_iload_n hx hb (dg ddX3_caseAt 15 rfl) rfl (lv_at hl 3 rfl) ?_
          obtain ⟨h5, hf⟩ := og_some hf
          refine va_iald hx hb hK hP 4 0 rfl rfl (inb_in h5) (dg ddX3_caseAt 16 rfl) ?_
          refine lv_iload_n hx hb (dg ddX3_caseAt 17 rfl) rfl (lv_at hl 1 rfl) ?_
          refine lv_icmp_ne (tgt := 34) hx hb (dg ddX3_caseAt 18 rfl) (by decide) (fun h6 => ?_) (fun h6 => ?_)
          · have hf := it_f h6 hf
            refine lv_iinc (v := x3 + 1) (lv' := [(3, .int (x3 + 1)), (0, .ref (q 0)), (1, .int a1), (2, .int a2)]) hx hb (dg ddX3_caseAt 21 rfl) hl (k := 3) rfl (congrArg (HAdd.hAdd x3) (by decide)) (by decide) rfl (fun ls hl => ?_)
            refine lv_goto (tgt := 2) hx hb (dg ddX3_caseAt 22 rfl) (by decide) ?_
            exact ih (x3 + 1) _ (lv_sub hl [1, 2, 3, 0] rfl) hf
          · have hf := it_t h6 hf
            refine lv_iload_n hx hb (dg ddX3_caseAt 19 rfl) rfl (lv_at hl 3 rfl) ?_
            exact e_ri CX hr hlk (Option.some.inj hf) (dg ddX3_caseAt 20 rfl)
  refine lv_iconst (v := 0) hx hb (dg ddX3_caseAt 0 rfl) (by decide) ?_
  refine lv_istore_n (lv' := [(3, .int 0), (0, .ref (q 0)), (1, .int a1), (2, .int a2)]) hx hb (dg ddX3_caseAt 1 rfl) rfl hl (by decide) rfl (fun ls hl => ?_)
  exact K2 4096 0 _ (lv_sub hl [1, 2, 3, 0] rfl) hf
def f_X3_countWaiting_c13  (v_pla : Nat → Int32) : Nat → Int32 → Int32 → Int32 → Option (Int32)
  | 0, _, _, _ => none
  | n + 1, x1, x3, x4 => if x3 ≤ x4 then (some x1) else (og (inb x4 8) (if (v_pla x4.toNatClampNeg) = (-1) then (f_X3_countWaiting_c13 v_pla n (x1 + 0) x3 (x4 + 1)) else (f_X3_countWaiting_c13 v_pla n (x1 + 1) x3 (x4 + 1))))
def f_X3_countWaiting (v_pla : Nat → Int32) : Option (Int32) := f_X3_countWaiting_c13 v_pla 4096 0 8 0
set_option maxHeartbeats 4000000 in
set_option maxRecDepth 100000 in
theorem c_X3_countWaiting (l : Launch) (D : va_G) (cy : Nat → ClassId) (q : Nat → Nat) (v_hour : Int32) (v_crowd : Int32) (v_buskers : Int32) (v_answered : Int32) (v_draws : Int32) (v_lim : Nat → UInt32) (v_cmp : Nat → Int32) (v_sof : Nat → Int32) (v_kin : Nat → Int32) (v_lou : Nat → Int32) (v_pit : Nat → Int32) (v_pla : Nat → Int32) (v_cas : Nat → Int32) (v_hrs : Nat → Int32) (v_nws : Nat → Int32) (v_hat : Nat → UInt32) (v_wea : Nat → UInt32) (v_row : Nat → UInt32) {res : Int32} (hf : f_X3_countWaiting v_pla = some res) : Met l yX3_countWaiting (.code yX3_countWaiting cX3_countWaiting 6 (some .int) :: lw_all) { frames := 1, cells := 0, slots := 0, locals := 12 } (va_Pc [.ref (q 0)] (sR D cy (wX3 q cy v_hour v_crowd v_buskers v_answered v_draws v_lim v_cmp v_sof v_kin v_lou v_pit v_pla v_cas v_hrs v_nws v_hat v_wea v_row))) (vp_Si (fun r => r = res)) 0 0 (fun _ => False) := by
  refine mk_ro (Rc := RX3) (by decide +kernel) rfl (Nat.le_of_ble_eq_true rfl) ?_
  intro p e s m args below meth c ls CX hml hr hlk hK hN hP hl
  have hx := CX.1
  have hb := CX.2.1
  have hl0 := hl
  have K13 : ∀ (n : Nat), ∀ (x1 : Int32) (x3 : Int32) (x4 : Int32) (ls : Array Slot) (hl : lv_has ls 6 [(1, .int x1), (2, .ref (q 7)), (3, .int x3), (4, .int x4)]) (hf : f_X3_countWaiting_c13 v_pla n x1 x3 x4 = some res), W p l e ⟨1, 0, 0, 12⟩ s m args below meth c s.heap [] 0 0 (MQ below (vp_Si (fun r => r = res)) args s 0 0 (fun _ => False)) (F0 m 13 ls []) := by
    intro n
    induction n with
    | zero => intro x1 x3 x4 ls hl hf; cases (show none = some res from hf)
    | succ n ih =>
    intro x1 x3 x4 ls hl hf
    refine lv_iload hx hb (dg ddX3_countWaiting 10 rfl) (lv_at hl 3 rfl) ?_
    refine lv_iload_n hx hb (dg ddX3_countWaiting 11 rfl) rfl (lv_at hl 2 rfl) ?_
    refine lv_icmp_ge (tgt := 45) hx hb (dg ddX3_countWaiting 12 rfl) (by decide) (fun h1 => ?_) (fun h1 => ?_)
    · have hf := it_t h1 hf
      refine lv_iload_n hx hb (dg ddX3_countWaiting 28 rfl) rfl (lv_at hl 0 rfl) ?_
      exact e_ri CX hr hlk (Option.some.inj hf) (dg ddX3_countWaiting 29 rfl)
    · have hf := it_f h1 hf
      refine lv_aload_n hx hb (dg ddX3_countWaiting 13 rfl) rfl (lv_at hl 1 rfl) ?_
      refine lv_iload hx hb (dg ddX3_countWaiting 14 rfl) (lv_at hl 3 rfl) ?_
      obtain ⟨h2, hf⟩ := og_some hf
      refine va_iald hx hb hK hP 7 0 rfl rfl (inb_in h2) (dg ddX3_countWaiting 15 rfl) ?_
      refine lv_istore (lv' := [(5, .int (v_pla x4.toNatClampNeg)), (1, .int x1), (2, .ref (q 7)), (3, .int x3), (4, .int x4)]) hx hb (dg ddX3_countWaiting 16 rfl) hl (by decide) rfl (fun ls hl => ?_)
      refine lv_iload_n hx hb (dg ddX3_countWaiting 17 rfl) rfl (lv_at hl 1 rfl) ?_
      refine lv_iload hx hb (dg ddX3_countWaiting 18 rfl) (lv_at hl 0 rfl) ?_
      refine lv_iconst (v := (-1)) hx hb (dg ddX3_countWaiting 19 rfl) (by decide) ?_
      refine lv_icmp_ne (tgt := 36) hx hb (dg ddX3_countWaiting 20 rfl) (by decide) (fun h3 => ?_) (fun h3 => ?_)
      · have hf := it_f h3 hf
        refine lv_iconst (v := 1) hx hb (dg ddX3_countWaiting 23 rfl) (by decide) ?_
        refine lv_iadd hx hb (dg ddX3_countWaiting 24 rfl) ?_
        refine lv_istore_n (lv' := [(1, .int (x1 + 1)), (5, .int (v_pla x4.toNatClampNeg)), (2, .ref (q 7)), (3, .int x3), (4, .int x4)]) hx hb (dg ddX3_countWaiting 25 rfl) rfl hl (by decide) rfl (fun ls hl => ?_)
        refine lv_iinc (v := x4 + 1) (lv' := [(4, .int (x4 + 1)), (1, .int (x1 + 1)), (5, .int (v_pla x4.toNatClampNeg)), (2, .ref (q 7)), (3, .int x3)]) hx hb (dg ddX3_countWaiting 26 rfl) hl (k := 4) rfl (congrArg (HAdd.hAdd x4) (by decide)) (by decide) rfl (fun ls hl => ?_)
        refine lv_goto (tgt := 13) hx hb (dg ddX3_countWaiting 27 rfl) (by decide) ?_
        exact ih (x1 + 1) x3 (x4 + 1) _ (lv_sub hl [1, 3, 4, 0] rfl) hf
      · have hf := it_t h3 hf
        refine lv_iconst (v := 0) hx hb (dg ddX3_countWaiting 21 rfl) (by decide) ?_
        refine lv_goto (tgt := 37) hx hb (dg ddX3_countWaiting 22 rfl) (by decide) ?_
        refine lv_iadd hx hb (dg ddX3_countWaiting 24 rfl) ?_
        refine lv_istore_n (lv' := [(1, .int (x1 + 0)), (5, .int (v_pla x4.toNatClampNeg)), (2, .ref (q 7)), (3, .int x3), (4, .int x4)]) hx hb (dg ddX3_countWaiting 25 rfl) rfl hl (by decide) rfl (fun ls hl => ?_)
        refine lv_iinc (v := x4 + 1) (lv' := [(4, .int (x4 + 1)), (1, .int (x1 + 0)), (5, .int (v_pla x4.toNatClampNeg)), (2, .ref (q 7)), (3, .int x3)]) hx hb (dg ddX3_countWaiting 26 rfl) hl (k := 4) rfl (congrArg (HAdd.hAdd x4) (by decide)) (by decide) rfl (fun ls hl => ?_)
        refine lv_goto (tgt := 13) hx hb (dg ddX3_countWaiting 27 rfl) (by decide) ?_
        exact ih (x1 + 0) x3 (x4 + 1) _ (lv_sub hl [1, 3, 4, 0] rfl) hf
  refine lv_iconst (v := 0) hx hb (dg ddX3_countWaiting 0 rfl) (by decide) ?_
  refine lv_istore_n (lv' := [(1, .int 0), (0, .ref (q 0))]) hx hb (dg ddX3_countWaiting 1 rfl) rfl hl (by decide) rfl (fun ls hl => ?_)
  refine lv_aload_n hx hb (dg ddX3_countWaiting 2 rfl) rfl (lv_at hl 1 rfl) ?_
  refine gf_RX3_47 CX hK hP 0 rfl rfl (dg ddX3_countWaiting 3 rfl) ?_
  refine lv_astore_n (lv' := [(2, .ref (q 7)), (1, .int 0), (0, .ref (q 0))]) hx hb (dg ddX3_countWaiting 4 rfl) rfl hl (by decide) rfl (fun ls hl => ?_)
  refine lv_aload_n hx hb (dg ddX3_countWaiting 5 rfl) rfl (lv_at hl 0 rfl) ?_
  refine va_alen hx hb hK hP 7 0 rfl rfl (v := 8) (show Int32.ofNat 8 = 8 from by decide) (dg ddX3_countWaiting 6 rfl) ?_
  refine lv_istore_n (lv' := [(3, .int 8), (2, .ref (q 7)), (1, .int 0), (0, .ref (q 0))]) hx hb (dg ddX3_countWaiting 7 rfl) rfl hl (by decide) rfl (fun ls hl => ?_)
  refine lv_iconst (v := 0) hx hb (dg ddX3_countWaiting 8 rfl) (by decide) ?_
  refine lv_istore (lv' := [(4, .int 0), (3, .int 8), (2, .ref (q 7)), (1, .int 0), (0, .ref (q 0))]) hx hb (dg ddX3_countWaiting 9 rfl) hl (by decide) rfl (fun ls hl => ?_)
  exact K13 4096 0 8 0 _ (lv_sub hl [3, 2, 1, 0] rfl) hf
def f_X3_countPlaying_c13  (v_pit : Nat → Int32) : Nat → Int32 → Int32 → Int32 → Option (Int32)
  | 0, _, _, _ => none
  | n + 1, x1, x3, x4 => if x3 ≤ x4 then (some x1) else (og (inb x4 8) (if (v_pit x4.toNatClampNeg) = (-1) then (f_X3_countPlaying_c13 v_pit n (x1 + 0) x3 (x4 + 1)) else (f_X3_countPlaying_c13 v_pit n (x1 + 1) x3 (x4 + 1))))
def f_X3_countPlaying (v_pit : Nat → Int32) : Option (Int32) := f_X3_countPlaying_c13 v_pit 4096 0 8 0
set_option maxHeartbeats 4000000 in
set_option maxRecDepth 100000 in
theorem c_X3_countPlaying (l : Launch) (D : va_G) (cy : Nat → ClassId) (q : Nat → Nat) (v_hour : Int32) (v_crowd : Int32) (v_buskers : Int32) (v_answered : Int32) (v_draws : Int32) (v_lim : Nat → UInt32) (v_cmp : Nat → Int32) (v_sof : Nat → Int32) (v_kin : Nat → Int32) (v_lou : Nat → Int32) (v_pit : Nat → Int32) (v_pla : Nat → Int32) (v_cas : Nat → Int32) (v_hrs : Nat → Int32) (v_nws : Nat → Int32) (v_hat : Nat → UInt32) (v_wea : Nat → UInt32) (v_row : Nat → UInt32) {res : Int32} (hf : f_X3_countPlaying v_pit = some res) : Met l yX3_countPlaying (.code yX3_countPlaying cX3_countPlaying 6 (some .int) :: lw_all) { frames := 1, cells := 0, slots := 0, locals := 12 } (va_Pc [.ref (q 0)] (sR D cy (wX3 q cy v_hour v_crowd v_buskers v_answered v_draws v_lim v_cmp v_sof v_kin v_lou v_pit v_pla v_cas v_hrs v_nws v_hat v_wea v_row))) (vp_Si (fun r => r = res)) 0 0 (fun _ => False) := by
  refine mk_ro (Rc := RX3) (by decide +kernel) rfl (Nat.le_of_ble_eq_true rfl) ?_
  intro p e s m args below meth c ls CX hml hr hlk hK hN hP hl
  have hx := CX.1
  have hb := CX.2.1
  have hl0 := hl
  have K13 : ∀ (n : Nat), ∀ (x1 : Int32) (x3 : Int32) (x4 : Int32) (ls : Array Slot) (hl : lv_has ls 6 [(1, .int x1), (2, .ref (q 6)), (3, .int x3), (4, .int x4)]) (hf : f_X3_countPlaying_c13 v_pit n x1 x3 x4 = some res), W p l e ⟨1, 0, 0, 12⟩ s m args below meth c s.heap [] 0 0 (MQ below (vp_Si (fun r => r = res)) args s 0 0 (fun _ => False)) (F0 m 13 ls []) := by
    intro n
    induction n with
    | zero => intro x1 x3 x4 ls hl hf; cases (show none = some res from hf)
    | succ n ih =>
    intro x1 x3 x4 ls hl hf
    refine lv_iload hx hb (dg ddX3_countPlaying 10 rfl) (lv_at hl 3 rfl) ?_
    refine lv_iload_n hx hb (dg ddX3_countPlaying 11 rfl) rfl (lv_at hl 2 rfl) ?_
    refine lv_icmp_ge (tgt := 45) hx hb (dg ddX3_countPlaying 12 rfl) (by decide) (fun h1 => ?_) (fun h1 => ?_)
    · have hf := it_t h1 hf
      refine lv_iload_n hx hb (dg ddX3_countPlaying 28 rfl) rfl (lv_at hl 0 rfl) ?_
      exact e_ri CX hr hlk (Option.some.inj hf) (dg ddX3_countPlaying 29 rfl)
    · have hf := it_f h1 hf
      refine lv_aload_n hx hb (dg ddX3_countPlaying 13 rfl) rfl (lv_at hl 1 rfl) ?_
      refine lv_iload hx hb (dg ddX3_countPlaying 14 rfl) (lv_at hl 3 rfl) ?_
      obtain ⟨h2, hf⟩ := og_some hf
      refine va_iald hx hb hK hP 6 0 rfl rfl (inb_in h2) (dg ddX3_countPlaying 15 rfl) ?_
      refine lv_istore (lv' := [(5, .int (v_pit x4.toNatClampNeg)), (1, .int x1), (2, .ref (q 6)), (3, .int x3), (4, .int x4)]) hx hb (dg ddX3_countPlaying 16 rfl) hl (by decide) rfl (fun ls hl => ?_)
      refine lv_iload_n hx hb (dg ddX3_countPlaying 17 rfl) rfl (lv_at hl 1 rfl) ?_
      refine lv_iload hx hb (dg ddX3_countPlaying 18 rfl) (lv_at hl 0 rfl) ?_
      refine lv_iconst (v := (-1)) hx hb (dg ddX3_countPlaying 19 rfl) (by decide) ?_
      refine lv_icmp_ne (tgt := 36) hx hb (dg ddX3_countPlaying 20 rfl) (by decide) (fun h3 => ?_) (fun h3 => ?_)
      · have hf := it_f h3 hf
        refine lv_iconst (v := 1) hx hb (dg ddX3_countPlaying 23 rfl) (by decide) ?_
        refine lv_iadd hx hb (dg ddX3_countPlaying 24 rfl) ?_
        refine lv_istore_n (lv' := [(1, .int (x1 + 1)), (5, .int (v_pit x4.toNatClampNeg)), (2, .ref (q 6)), (3, .int x3), (4, .int x4)]) hx hb (dg ddX3_countPlaying 25 rfl) rfl hl (by decide) rfl (fun ls hl => ?_)
        refine lv_iinc (v := x4 + 1) (lv' := [(4, .int (x4 + 1)), (1, .int (x1 + 1)), (5, .int (v_pit x4.toNatClampNeg)), (2, .ref (q 6)), (3, .int x3)]) hx hb (dg ddX3_countPlaying 26 rfl) hl (k := 4) rfl (congrArg (HAdd.hAdd x4) (by decide)) (by decide) rfl (fun ls hl => ?_)
        refine lv_goto (tgt := 13) hx hb (dg ddX3_countPlaying 27 rfl) (by decide) ?_
        exact ih (x1 + 1) x3 (x4 + 1) _ (lv_sub hl [1, 3, 4, 0] rfl) hf
      · have hf := it_t h3 hf
        refine lv_iconst (v := 0) hx hb (dg ddX3_countPlaying 21 rfl) (by decide) ?_
        refine lv_goto (tgt := 37) hx hb (dg ddX3_countPlaying 22 rfl) (by decide) ?_
        refine lv_iadd hx hb (dg ddX3_countPlaying 24 rfl) ?_
        refine lv_istore_n (lv' := [(1, .int (x1 + 0)), (5, .int (v_pit x4.toNatClampNeg)), (2, .ref (q 6)), (3, .int x3), (4, .int x4)]) hx hb (dg ddX3_countPlaying 25 rfl) rfl hl (by decide) rfl (fun ls hl => ?_)
        refine lv_iinc (v := x4 + 1) (lv' := [(4, .int (x4 + 1)), (1, .int (x1 + 0)), (5, .int (v_pit x4.toNatClampNeg)), (2, .ref (q 6)), (3, .int x3)]) hx hb (dg ddX3_countPlaying 26 rfl) hl (k := 4) rfl (congrArg (HAdd.hAdd x4) (by decide)) (by decide) rfl (fun ls hl => ?_)
        refine lv_goto (tgt := 13) hx hb (dg ddX3_countPlaying 27 rfl) (by decide) ?_
        exact ih (x1 + 0) x3 (x4 + 1) _ (lv_sub hl [1, 3, 4, 0] rfl) hf
  refine lv_iconst (v := 0) hx hb (dg ddX3_countPlaying 0 rfl) (by decide) ?_
  refine lv_istore_n (lv' := [(1, .int 0), (0, .ref (q 0))]) hx hb (dg ddX3_countPlaying 1 rfl) rfl hl (by decide) rfl (fun ls hl => ?_)
  refine lv_aload_n hx hb (dg ddX3_countPlaying 2 rfl) rfl (lv_at hl 1 rfl) ?_
  refine gf_RX3_44 CX hK hP 0 rfl rfl (dg ddX3_countPlaying 3 rfl) ?_
  refine lv_astore_n (lv' := [(2, .ref (q 6)), (1, .int 0), (0, .ref (q 0))]) hx hb (dg ddX3_countPlaying 4 rfl) rfl hl (by decide) rfl (fun ls hl => ?_)
  refine lv_aload_n hx hb (dg ddX3_countPlaying 5 rfl) rfl (lv_at hl 0 rfl) ?_
  refine va_alen hx hb hK hP 6 0 rfl rfl (v := 8) (show Int32.ofNat 8 = 8 from by decide) (dg ddX3_countPlaying 6 rfl) ?_
  refine lv_istore_n (lv' := [(3, .int 8), (2, .ref (q 6)), (1, .int 0), (0, .ref (q 0))]) hx hb (dg ddX3_countPlaying 7 rfl) rfl hl (by decide) rfl (fun ls hl => ?_)
  refine lv_iconst (v := 0) hx hb (dg ddX3_countPlaying 8 rfl) (by decide) ?_
  refine lv_istore (lv' := [(4, .int 0), (3, .int 8), (2, .ref (q 6)), (1, .int 0), (0, .ref (q 0))]) hx hb (dg ddX3_countPlaying 9 rfl) hl (by decide) rfl (fun ls hl => ?_)
  exact K13 4096 0 8 0 _ (lv_sub hl [3, 2, 1, 0] rfl) hf
def f_X3_countCases_c13  (v_cas : Nat → Int32) : Nat → Int32 → Int32 → Int32 → Option (Int32)
  | 0, _, _, _ => none
  | n + 1, x1, x3, x4 => if x3 ≤ x4 then (some x1) else (og (inb x4 8) (if (v_cas x4.toNatClampNeg) = (-1) then (f_X3_countCases_c13 v_cas n (x1 + 0) x3 (x4 + 1)) else (f_X3_countCases_c13 v_cas n (x1 + 1) x3 (x4 + 1))))
def f_X3_countCases (v_cas : Nat → Int32) : Option (Int32) := f_X3_countCases_c13 v_cas 4096 0 8 0
set_option maxHeartbeats 4000000 in
set_option maxRecDepth 100000 in
theorem c_X3_countCases (l : Launch) (D : va_G) (cy : Nat → ClassId) (q : Nat → Nat) (v_hour : Int32) (v_crowd : Int32) (v_buskers : Int32) (v_answered : Int32) (v_draws : Int32) (v_lim : Nat → UInt32) (v_cmp : Nat → Int32) (v_sof : Nat → Int32) (v_kin : Nat → Int32) (v_lou : Nat → Int32) (v_pit : Nat → Int32) (v_pla : Nat → Int32) (v_cas : Nat → Int32) (v_hrs : Nat → Int32) (v_nws : Nat → Int32) (v_hat : Nat → UInt32) (v_wea : Nat → UInt32) (v_row : Nat → UInt32) {res : Int32} (hf : f_X3_countCases v_cas = some res) : Met l yX3_countCases (.code yX3_countCases cX3_countCases 6 (some .int) :: lw_all) { frames := 1, cells := 0, slots := 0, locals := 12 } (va_Pc [.ref (q 0)] (sR D cy (wX3 q cy v_hour v_crowd v_buskers v_answered v_draws v_lim v_cmp v_sof v_kin v_lou v_pit v_pla v_cas v_hrs v_nws v_hat v_wea v_row))) (vp_Si (fun r => r = res)) 0 0 (fun _ => False) := by
  refine mk_ro (Rc := RX3) (by decide +kernel) rfl (Nat.le_of_ble_eq_true rfl) ?_
  intro p e s m args below meth c ls CX hml hr hlk hK hN hP hl
  have hx := CX.1
  have hb := CX.2.1
  have hl0 := hl
  have K13 : ∀ (n : Nat), ∀ (x1 : Int32) (x3 : Int32) (x4 : Int32) (ls : Array Slot) (hl : lv_has ls 6 [(1, .int x1), (2, .ref (q 8)), (3, .int x3), (4, .int x4)]) (hf : f_X3_countCases_c13 v_cas n x1 x3 x4 = some res), W p l e ⟨1, 0, 0, 12⟩ s m args below meth c s.heap [] 0 0 (MQ below (vp_Si (fun r => r = res)) args s 0 0 (fun _ => False)) (F0 m 13 ls []) := by
    intro n
    induction n with
    | zero => intro x1 x3 x4 ls hl hf; cases (show none = some res from hf)
    | succ n ih =>
    intro x1 x3 x4 ls hl hf
    refine lv_iload hx hb (dg ddX3_countCases 10 rfl) (lv_at hl 3 rfl) ?_
    refine lv_iload_n hx hb (dg ddX3_countCases 11 rfl) rfl (lv_at hl 2 rfl) ?_
    refine lv_icmp_ge (tgt := 45) hx hb (dg ddX3_countCases 12 rfl) (by decide) (fun h1 => ?_) (fun h1 => ?_)
    · have hf := it_t h1 hf
      refine lv_iload_n hx hb (dg ddX3_countCases 28 rfl) rfl (lv_at hl 0 rfl) ?_
      exact e_ri CX hr hlk (Option.some.inj hf) (dg ddX3_countCases 29 rfl)
    · have hf := it_f h1 hf
      refine lv_aload_n hx hb (dg ddX3_countCases 13 rfl) rfl (lv_at hl 1 rfl) ?_
      refine lv_iload hx hb (dg ddX3_countCases 14 rfl) (lv_at hl 3 rfl) ?_
      obtain ⟨h2, hf⟩ := og_some hf
      refine va_iald hx hb hK hP 8 0 rfl rfl (inb_in h2) (dg ddX3_countCases 15 rfl) ?_
      refine lv_istore (lv' := [(5, .int (v_cas x4.toNatClampNeg)), (1, .int x1), (2, .ref (q 8)), (3, .int x3), (4, .int x4)]) hx hb (dg ddX3_countCases 16 rfl) hl (by decide) rfl (fun ls hl => ?_)
      refine lv_iload_n hx hb (dg ddX3_countCases 17 rfl) rfl (lv_at hl 1 rfl) ?_
      refine lv_iload hx hb (dg ddX3_countCases 18 rfl) (lv_at hl 0 rfl) ?_
      refine lv_iconst (v := (-1)) hx hb (dg ddX3_countCases 19 rfl) (by decide) ?_
      refine lv_icmp_ne (tgt := 36) hx hb (dg ddX3_countCases 20 rfl) (by decide) (fun h3 => ?_) (fun h3 => ?_)
      · have hf := it_f h3 hf
        refine lv_iconst (v := 1) hx hb (dg ddX3_countCases 23 rfl) (by decide) ?_
        refine lv_iadd hx hb (dg ddX3_countCases 24 rfl) ?_
        refine lv_istore_n (lv' := [(1, .int (x1 + 1)), (5, .int (v_cas x4.toNatClampNeg)), (2, .ref (q 8)), (3, .int x3), (4, .int x4)]) hx hb (dg ddX3_countCases 25 rfl) rfl hl (by decide) rfl (fun ls hl => ?_)
        refine lv_iinc (v := x4 + 1) (lv' := [(4, .int (x4 + 1)), (1, .int (x1 + 1)), (5, .int (v_cas x4.toNatClampNeg)), (2, .ref (q 8)), (3, .int x3)]) hx hb (dg ddX3_countCases 26 rfl) hl (k := 4) rfl (congrArg (HAdd.hAdd x4) (by decide)) (by decide) rfl (fun ls hl => ?_)
        refine lv_goto (tgt := 13) hx hb (dg ddX3_countCases 27 rfl) (by decide) ?_
        exact ih (x1 + 1) x3 (x4 + 1) _ (lv_sub hl [1, 3, 4, 0] rfl) hf
      · have hf := it_t h3 hf
        refine lv_iconst (v := 0) hx hb (dg ddX3_countCases 21 rfl) (by decide) ?_
        refine lv_goto (tgt := 37) hx hb (dg ddX3_countCases 22 rfl) (by decide) ?_
        refine lv_iadd hx hb (dg ddX3_countCases 24 rfl) ?_
        refine lv_istore_n (lv' := [(1, .int (x1 + 0)), (5, .int (v_cas x4.toNatClampNeg)), (2, .ref (q 8)), (3, .int x3), (4, .int x4)]) hx hb (dg ddX3_countCases 25 rfl) rfl hl (by decide) rfl (fun ls hl => ?_)
        refine lv_iinc (v := x4 + 1) (lv' := [(4, .int (x4 + 1)), (1, .int (x1 + 0)), (5, .int (v_cas x4.toNatClampNeg)), (2, .ref (q 8)), (3, .int x3)]) hx hb (dg ddX3_countCases 26 rfl) hl (k := 4) rfl (congrArg (HAdd.hAdd x4) (by decide)) (by decide) rfl (fun ls hl => ?_)
        refine lv_goto (tgt := 13) hx hb (dg ddX3_countCases 27 rfl) (by decide) ?_
        exact ih (x1 + 0) x3 (x4 + 1) _ (lv_sub hl [1, 3, 4, 0] rfl) hf
  refine lv_iconst (v := 0) hx hb (dg ddX3_countCases 0 rfl) (by decide) ?_
  refine lv_istore_n (lv' := [(1, .int 0), (0, .ref (q 0))]) hx hb (dg ddX3_countCases 1 rfl) rfl hl (by decide) rfl (fun ls hl => ?_)
  refine lv_aload_n hx hb (dg ddX3_countCases 2 rfl) rfl (lv_at hl 1 rfl) ?_
  refine gf_RX3_50 CX hK hP 0 rfl rfl (dg ddX3_countCases 3 rfl) ?_
  refine lv_astore_n (lv' := [(2, .ref (q 8)), (1, .int 0), (0, .ref (q 0))]) hx hb (dg ddX3_countCases 4 rfl) rfl hl (by decide) rfl (fun ls hl => ?_)
  refine lv_aload_n hx hb (dg ddX3_countCases 5 rfl) rfl (lv_at hl 0 rfl) ?_
  refine va_alen hx hb hK hP 8 0 rfl rfl (v := 8) (show Int32.ofNat 8 = 8 from by decide) (dg ddX3_countCases 6 rfl) ?_
  refine lv_istore_n (lv' := [(3, .int 8), (2, .ref (q 8)), (1, .int 0), (0, .ref (q 0))]) hx hb (dg ddX3_countCases 7 rfl) rfl hl (by decide) rfl (fun ls hl => ?_)
  refine lv_iconst (v := 0) hx hb (dg ddX3_countCases 8 rfl) (by decide) ?_
  refine lv_istore (lv' := [(4, .int 0), (3, .int 8), (2, .ref (q 8)), (1, .int 0), (0, .ref (q 0))]) hx hb (dg ddX3_countCases 9 rfl) hl (by decide) rfl (fun ls hl => ?_)
  exact K13 4096 0 8 0 _ (lv_sub hl [3, 2, 1, 0] rfl) hf
def f_X3_countAtHome_c4  (v_buskers : Int32) (v_pit : Nat → Int32) (v_pla : Nat → Int32) : Nat → Int32 → Int32 → Option (Int32)
  | 0, _, _ => none
  | n + 1, x1, x2 => if 8 ≤ x2 then (some x1) else (ob (f_X3_hasBusker v_buskers x2) fun r3 => (if r3 = 0 then (f_X3_countAtHome_c4 v_buskers v_pit v_pla n x1 (x2 + 1)) else (og (inb x2 8) (if (v_pit x2.toNatClampNeg) = (-1) then (og (inb x2 8) (if (v_pla x2.toNatClampNeg) = (-1) then (f_X3_countAtHome_c4 v_buskers v_pit v_pla n (x1 + 1) (x2 + 1)) else (f_X3_countAtHome_c4 v_buskers v_pit v_pla n x1 (x2 + 1)))) else (f_X3_countAtHome_c4 v_buskers v_pit v_pla n x1 (x2 + 1))))))
def f_X3_countAtHome (v_buskers : Int32) (v_pit : Nat → Int32) (v_pla : Nat → Int32) : Option (Int32) := f_X3_countAtHome_c4 v_buskers v_pit v_pla 4096 0 0
set_option maxHeartbeats 4000000 in
set_option maxRecDepth 100000 in
theorem c_X3_countAtHome (l : Launch) (D : va_G) (cy : Nat → ClassId) (q : Nat → Nat) (v_hour : Int32) (v_crowd : Int32) (v_buskers : Int32) (v_answered : Int32) (v_draws : Int32) (v_lim : Nat → UInt32) (v_cmp : Nat → Int32) (v_sof : Nat → Int32) (v_kin : Nat → Int32) (v_lou : Nat → Int32) (v_pit : Nat → Int32) (v_pla : Nat → Int32) (v_cas : Nat → Int32) (v_hrs : Nat → Int32) (v_nws : Nat → Int32) (v_hat : Nat → UInt32) (v_wea : Nat → UInt32) (v_row : Nat → UInt32) {res : Int32} (hf : f_X3_countAtHome v_buskers v_pit v_pla = some res) : Met l yX3_countAtHome (.code yX3_countAtHome cX3_countAtHome 3 (some .int) :: lw_all) { frames := 2, cells := 0, slots := 0, locals := 33 } (va_Pc [.ref (q 0)] (sR D cy (wX3 q cy v_hour v_crowd v_buskers v_answered v_draws v_lim v_cmp v_sof v_kin v_lou v_pit v_pla v_cas v_hrs v_nws v_hat v_wea v_row))) (vp_Si (fun r => r = res)) 0 0 (fun _ => False) := by
  refine mk_ro (Rc := RX3) (by decide +kernel) rfl (Nat.le_of_ble_eq_true rfl) ?_
  intro p e s m args below meth c ls CX hml hr hlk hK hN hP hl
  have hx := CX.1
  have hb := CX.2.1
  have hRMX3_hasBusker : (⟨1, 0, 0, 12⟩ : Room).frames + 1 ≤ (⟨2, 0, 0, 33⟩ : Room).frames ∧ 8 + (2 + 11) + (⟨1, 0, 0, 12⟩ : Room).locals ≤ (⟨2, 0, 0, 33⟩ : Room).locals := ⟨Nat.le_of_ble_eq_true rfl, Nat.le_of_ble_eq_true rfl⟩
  have hl0 := hl
  have K4 : ∀ (n : Nat), ∀ (x1 : Int32) (x2 : Int32) (ls : Array Slot) (hl : lv_has ls 3 [(0, .ref (q 0)), (1, .int x1), (2, .int x2)]) (hf : f_X3_countAtHome_c4 v_buskers v_pit v_pla n x1 x2 = some res), W p l e ⟨2, 0, 0, 33⟩ s m args below meth c s.heap [] 0 0 (MQ below (vp_Si (fun r => r = res)) args s 0 0 (fun _ => False)) (F0 m 4 ls []) := by
    intro n
    induction n with
    | zero => intro x1 x2 ls hl hf; cases (show none = some res from hf)
    | succ n ih =>
    intro x1 x2 ls hl hf
    refine lv_iload_n hx hb (dg ddX3_countAtHome 4 rfl) rfl (lv_at hl 2 rfl) ?_
    refine lv_bipush (v := 8) hx hb (dg ddX3_countAtHome 5 rfl) (by decide) ?_
    refine lv_icmp_ge (tgt := 47) hx hb (dg ddX3_countAtHome 6 rfl) (by decide) (fun h1 => ?_) (fun h1 => ?_)
    · have hf := it_t h1 hf
      refine lv_iload_n hx hb (dg ddX3_countAtHome 26 rfl) rfl (lv_at hl 1 rfl) ?_
      exact e_ri CX hr hlk (Option.some.inj hf) (dg ddX3_countAtHome 27 rfl)
    · have hf := it_f h1 hf
      refine lv_aload_n hx hb (dg ddX3_countAtHome 7 rfl) rfl (lv_at hl 0 rfl) ?_
      refine lv_iload_n hx hb (dg ddX3_countAtHome 8 rfl) rfl (lv_at hl 2 rfl) ?_
      obtain ⟨r3, e2, hf⟩ := ob_some hf
      refine cro_vi CX hml (As := [.int x2]) (rest := []) (c_X3_hasBusker l D cy q v_hour v_crowd v_buskers v_answered v_draws v_lim v_cmp v_sof v_kin v_lou v_pit v_pla v_cas v_hrs v_nws v_hat v_wea v_row x2 e2) lk_RX3_88 rfl rfl hRMX3_hasBusker hP hK hN 0 rfl rfl rfl hl.1 rfl (Nat.le_of_ble_eq_true rfl) ⟨Nat.le_of_ble_eq_true rfl, Nat.le_of_ble_eq_true rfl⟩ (dg ddX3_countAtHome 9 rfl) ?_
      refine lv_if_eq (tgt := 41) hx hb (dg ddX3_countAtHome 10 rfl) (by decide) (fun h4 => ?_) (fun h4 => ?_)
      · have hf := it_t h4 hf
        refine lv_iinc (v := x2 + 1) (lv' := [(2, .int (x2 + 1)), (0, .ref (q 0)), (1, .int x1)]) hx hb (dg ddX3_countAtHome 24 rfl) hl (k := 2) rfl (congrArg (HAdd.hAdd x2) (by decide)) (by decide) rfl (fun ls hl => ?_)
        refine lv_goto (tgt := 4) hx hb (dg ddX3_countAtHome 25 rfl) (by decide) ?_
        exact ih x1 (x2 + 1) _ (lv_sub hl [1, 2, 0] rfl) hf
      · have hf := it_f h4 hf
        refine lv_aload_n hx hb (dg ddX3_countAtHome 11 rfl) rfl (lv_at hl 0 rfl) ?_
        refine gf_RX3_44 CX hK hP 0 rfl rfl (dg ddX3_countAtHome 12 rfl) ?_
        refine lv_iload_n hx hb (dg ddX3_countAtHome 13 rfl) rfl (lv_at hl 2 rfl) ?_
        obtain ⟨h5, hf⟩ := og_some hf
        refine va_iald hx hb hK hP 6 0 rfl rfl (inb_in h5) (dg ddX3_countAtHome 14 rfl) ?_
        refine lv_iconst (v := (-1)) hx hb (dg ddX3_countAtHome 15 rfl) (by decide) ?_
        refine lv_icmp_ne (tgt := 41) hx hb (dg ddX3_countAtHome 16 rfl) (by decide) (fun h6 => ?_) (fun h6 => ?_)
        · have hf := it_f h6 hf
          refine lv_iinc (v := x2 + 1) (lv' := [(2, .int (x2 + 1)), (0, .ref (q 0)), (1, .int x1)]) hx hb (dg ddX3_countAtHome 24 rfl) hl (k := 2) rfl (congrArg (HAdd.hAdd x2) (by decide)) (by decide) rfl (fun ls hl => ?_)
          refine lv_goto (tgt := 4) hx hb (dg ddX3_countAtHome 25 rfl) (by decide) ?_
          exact ih x1 (x2 + 1) _ (lv_sub hl [1, 2, 0] rfl) hf
        · have hf := it_t h6 hf
          refine lv_aload_n hx hb (dg ddX3_countAtHome 17 rfl) rfl (lv_at hl 0 rfl) ?_
          refine gf_RX3_47 CX hK hP 0 rfl rfl (dg ddX3_countAtHome 18 rfl) ?_
          refine lv_iload_n hx hb (dg ddX3_countAtHome 19 rfl) rfl (lv_at hl 2 rfl) ?_
          obtain ⟨h7, hf⟩ := og_some hf
          refine va_iald hx hb hK hP 7 0 rfl rfl (inb_in h7) (dg ddX3_countAtHome 20 rfl) ?_
          refine lv_iconst (v := (-1)) hx hb (dg ddX3_countAtHome 21 rfl) (by decide) ?_
          refine lv_icmp_ne (tgt := 41) hx hb (dg ddX3_countAtHome 22 rfl) (by decide) (fun h8 => ?_) (fun h8 => ?_)
          · have hf := it_f h8 hf
            refine lv_iinc (v := x2 + 1) (lv' := [(2, .int (x2 + 1)), (0, .ref (q 0)), (1, .int x1)]) hx hb (dg ddX3_countAtHome 24 rfl) hl (k := 2) rfl (congrArg (HAdd.hAdd x2) (by decide)) (by decide) rfl (fun ls hl => ?_)
            refine lv_goto (tgt := 4) hx hb (dg ddX3_countAtHome 25 rfl) (by decide) ?_
            exact ih x1 (x2 + 1) _ (lv_sub hl [1, 2, 0] rfl) hf
          · have hf := it_t h8 hf
            refine lv_iinc (v := x1 + 1) (lv' := [(1, .int (x1 + 1)), (0, .ref (q 0)), (2, .int x2)]) hx hb (dg ddX3_countAtHome 23 rfl) hl (k := 1) rfl (congrArg (HAdd.hAdd x1) (by decide)) (by decide) rfl (fun ls hl => ?_)
            refine lv_iinc (v := x2 + 1) (lv' := [(2, .int (x2 + 1)), (1, .int (x1 + 1)), (0, .ref (q 0))]) hx hb (dg ddX3_countAtHome 24 rfl) hl (k := 2) rfl (congrArg (HAdd.hAdd x2) (by decide)) (by decide) rfl (fun ls hl => ?_)
            refine lv_goto (tgt := 4) hx hb (dg ddX3_countAtHome 25 rfl) (by decide) ?_
            exact ih (x1 + 1) (x2 + 1) _ (lv_sub hl [2, 1, 0] rfl) hf
  refine lv_iconst (v := 0) hx hb (dg ddX3_countAtHome 0 rfl) (by decide) ?_
  refine lv_istore_n (lv' := [(1, .int 0), (0, .ref (q 0))]) hx hb (dg ddX3_countAtHome 1 rfl) rfl hl (by decide) rfl (fun ls hl => ?_)
  refine lv_iconst (v := 0) hx hb (dg ddX3_countAtHome 2 rfl) (by decide) ?_
  refine lv_istore_n (lv' := [(2, .int 0), (1, .int 0), (0, .ref (q 0))]) hx hb (dg ddX3_countAtHome 3 rfl) rfl hl (by decide) rfl (fun ls hl => ?_)
  exact K4 4096 0 0 _ (lv_sub hl [2, 1, 0] rfl) hf
def f_X3_isSnapped (v_wea : Nat → UInt32) (a1 : Int32) : Option (Int32) := og (inb a1 8) (if (Op.cmpValue (FP.fcmp (v_wea a1.toNatClampNeg) FP.fconst1) .l) < 0 then (some 0) else (some 1))
set_option maxHeartbeats 4000000 in
set_option maxRecDepth 100000 in
theorem c_X3_isSnapped (l : Launch) (D : va_G) (cy : Nat → ClassId) (q : Nat → Nat) (v_hour : Int32) (v_crowd : Int32) (v_buskers : Int32) (v_answered : Int32) (v_draws : Int32) (v_lim : Nat → UInt32) (v_cmp : Nat → Int32) (v_sof : Nat → Int32) (v_kin : Nat → Int32) (v_lou : Nat → Int32) (v_pit : Nat → Int32) (v_pla : Nat → Int32) (v_cas : Nat → Int32) (v_hrs : Nat → Int32) (v_nws : Nat → Int32) (v_hat : Nat → UInt32) (v_wea : Nat → UInt32) (v_row : Nat → UInt32) (a1 : Int32) {res : Int32} (hf : f_X3_isSnapped v_wea a1 = some res) : Met l yX3_isSnapped (.code yX3_isSnapped cX3_isSnapped 2 (some .boolean) :: lw_all) { frames := 1, cells := 0, slots := 0, locals := 12 } (va_Pc [.ref (q 0), .int a1] (sR D cy (wX3 q cy v_hour v_crowd v_buskers v_answered v_draws v_lim v_cmp v_sof v_kin v_lou v_pit v_pla v_cas v_hrs v_nws v_hat v_wea v_row))) (vp_Si (fun r => r = res)) 0 0 (fun _ => False) := by
  refine mk_ro (Rc := RX3) (by decide +kernel) rfl (Nat.le_of_ble_eq_true rfl) ?_
  intro p e s m args below meth c ls CX hml hr hlk hK hN hP hl
  have hx := CX.1
  have hb := CX.2.1
  refine lv_aload_n hx hb (dg ddX3_isSnapped 0 rfl) rfl (lv_at hl 0 rfl) ?_
  refine gf_RX3_62 CX hK hP 0 rfl rfl (dg ddX3_isSnapped 1 rfl) ?_
  refine lv_iload_n hx hb (dg ddX3_isSnapped 2 rfl) rfl (lv_at hl 1 rfl) ?_
  obtain ⟨h1, hf⟩ := og_some hf
  refine va_fald hx hb hK hP 12 1 rfl rfl (inb_in h1) (dg ddX3_isSnapped 3 rfl) ?_
  refine lv_fconst1 hx hb (dg ddX3_isSnapped 4 rfl) ?_
  refine lv_fcmp hx hb (dg ddX3_isSnapped 5 rfl) ?_
  refine lv_if_lt (tgt := 15) hx hb (dg ddX3_isSnapped 6 rfl) (by decide) (fun h2 => ?_) (fun h2 => ?_)
  · have hf := it_t h2 hf
    refine lv_iconst (v := 0) hx hb (dg ddX3_isSnapped 9 rfl) (by decide) ?_
    exact e_rz CX hr hlk (by decide) (Option.some.inj hf) (dg ddX3_isSnapped 10 rfl)
  · have hf := it_f h2 hf
    refine lv_iconst (v := 1) hx hb (dg ddX3_isSnapped 7 rfl) (by decide) ?_
    refine lv_goto (tgt := 16) hx hb (dg ddX3_isSnapped 8 rfl) (by decide) ?_
    exact e_rz CX hr hlk (by decide) (Option.some.inj hf) (dg ddX3_isSnapped 10 rfl)
def f_X3_countSnapped_c4  (v_wea : Nat → UInt32) : Nat → Int32 → Int32 → Option (Int32)
  | 0, _, _ => none
  | n + 1, x1, x2 => if 8 ≤ x2 then (some x1) else (ob (f_X3_isSnapped v_wea x2) fun r3 => (if r3 = 0 then (f_X3_countSnapped_c4 v_wea n (x1 + 0) (x2 + 1)) else (f_X3_countSnapped_c4 v_wea n (x1 + 1) (x2 + 1))))
def f_X3_countSnapped (v_wea : Nat → UInt32) : Option (Int32) := f_X3_countSnapped_c4 v_wea 4096 0 0
set_option maxHeartbeats 4000000 in
set_option maxRecDepth 100000 in
theorem c_X3_countSnapped (l : Launch) (D : va_G) (cy : Nat → ClassId) (q : Nat → Nat) (v_hour : Int32) (v_crowd : Int32) (v_buskers : Int32) (v_answered : Int32) (v_draws : Int32) (v_lim : Nat → UInt32) (v_cmp : Nat → Int32) (v_sof : Nat → Int32) (v_kin : Nat → Int32) (v_lou : Nat → Int32) (v_pit : Nat → Int32) (v_pla : Nat → Int32) (v_cas : Nat → Int32) (v_hrs : Nat → Int32) (v_nws : Nat → Int32) (v_hat : Nat → UInt32) (v_wea : Nat → UInt32) (v_row : Nat → UInt32) {res : Int32} (hf : f_X3_countSnapped v_wea = some res) : Met l yX3_countSnapped (.code yX3_countSnapped cX3_countSnapped 3 (some .int) :: lw_all) { frames := 2, cells := 0, slots := 0, locals := 33 } (va_Pc [.ref (q 0)] (sR D cy (wX3 q cy v_hour v_crowd v_buskers v_answered v_draws v_lim v_cmp v_sof v_kin v_lou v_pit v_pla v_cas v_hrs v_nws v_hat v_wea v_row))) (vp_Si (fun r => r = res)) 0 0 (fun _ => False) := by
  refine mk_ro (Rc := RX3) (by decide +kernel) rfl (Nat.le_of_ble_eq_true rfl) ?_
  intro p e s m args below meth c ls CX hml hr hlk hK hN hP hl
  have hx := CX.1
  have hb := CX.2.1
  have hRMX3_isSnapped : (⟨1, 0, 0, 12⟩ : Room).frames + 1 ≤ (⟨2, 0, 0, 33⟩ : Room).frames ∧ 8 + (2 + 11) + (⟨1, 0, 0, 12⟩ : Room).locals ≤ (⟨2, 0, 0, 33⟩ : Room).locals := ⟨Nat.le_of_ble_eq_true rfl, Nat.le_of_ble_eq_true rfl⟩
  have hl0 := hl
  have K4 : ∀ (n : Nat), ∀ (x1 : Int32) (x2 : Int32) (ls : Array Slot) (hl : lv_has ls 3 [(0, .ref (q 0)), (1, .int x1), (2, .int x2)]) (hf : f_X3_countSnapped_c4 v_wea n x1 x2 = some res), W p l e ⟨2, 0, 0, 33⟩ s m args below meth c s.heap [] 0 0 (MQ below (vp_Si (fun r => r = res)) args s 0 0 (fun _ => False)) (F0 m 4 ls []) := by
    intro n
    induction n with
    | zero => intro x1 x2 ls hl hf; cases (show none = some res from hf)
    | succ n ih =>
    intro x1 x2 ls hl hf
    refine lv_iload_n hx hb (dg ddX3_countSnapped 4 rfl) rfl (lv_at hl 2 rfl) ?_
    refine lv_bipush (v := 8) hx hb (dg ddX3_countSnapped 5 rfl) (by decide) ?_
    refine lv_icmp_ge (tgt := 32) hx hb (dg ddX3_countSnapped 6 rfl) (by decide) (fun h1 => ?_) (fun h1 => ?_)
    · have hf := it_t h1 hf
      refine lv_iload_n hx hb (dg ddX3_countSnapped 19 rfl) rfl (lv_at hl 1 rfl) ?_
      exact e_ri CX hr hlk (Option.some.inj hf) (dg ddX3_countSnapped 20 rfl)
    · have hf := it_f h1 hf
      refine lv_iload_n hx hb (dg ddX3_countSnapped 7 rfl) rfl (lv_at hl 1 rfl) ?_
      refine lv_aload_n hx hb (dg ddX3_countSnapped 8 rfl) rfl (lv_at hl 0 rfl) ?_
      refine lv_iload_n hx hb (dg ddX3_countSnapped 9 rfl) rfl (lv_at hl 2 rfl) ?_
      obtain ⟨r3, e2, hf⟩ := ob_some hf
      refine cro_vi CX hml (As := [.int x2]) (rest := [.int x1]) (c_X3_isSnapped l D cy q v_hour v_crowd v_buskers v_answered v_draws v_lim v_cmp v_sof v_kin v_lou v_pit v_pla v_cas v_hrs v_nws v_hat v_wea v_row x2 e2) lk_RX3_91 rfl rfl hRMX3_isSnapped hP hK hN 0 rfl rfl rfl hl.1 rfl (Nat.le_of_ble_eq_true rfl) ⟨Nat.le_of_ble_eq_true rfl, Nat.le_of_ble_eq_true rfl⟩ (dg ddX3_countSnapped 10 rfl) ?_
      refine lv_if_eq (tgt := 23) hx hb (dg ddX3_countSnapped 11 rfl) (by decide) (fun h4 => ?_) (fun h4 => ?_)
      · have hf := it_t h4 hf
        refine lv_iconst (v := 0) hx hb (dg ddX3_countSnapped 14 rfl) (by decide) ?_
        refine lv_iadd hx hb (dg ddX3_countSnapped 15 rfl) ?_
        refine lv_istore_n (lv' := [(1, .int (x1 + 0)), (0, .ref (q 0)), (2, .int x2)]) hx hb (dg ddX3_countSnapped 16 rfl) rfl hl (by decide) rfl (fun ls hl => ?_)
        refine lv_iinc (v := x2 + 1) (lv' := [(2, .int (x2 + 1)), (1, .int (x1 + 0)), (0, .ref (q 0))]) hx hb (dg ddX3_countSnapped 17 rfl) hl (k := 2) rfl (congrArg (HAdd.hAdd x2) (by decide)) (by decide) rfl (fun ls hl => ?_)
        refine lv_goto (tgt := 4) hx hb (dg ddX3_countSnapped 18 rfl) (by decide) ?_
        exact ih (x1 + 0) (x2 + 1) _ (lv_sub hl [2, 1, 0] rfl) hf
      · have hf := it_f h4 hf
        refine lv_iconst (v := 1) hx hb (dg ddX3_countSnapped 12 rfl) (by decide) ?_
        refine lv_goto (tgt := 24) hx hb (dg ddX3_countSnapped 13 rfl) (by decide) ?_
        refine lv_iadd hx hb (dg ddX3_countSnapped 15 rfl) ?_
        refine lv_istore_n (lv' := [(1, .int (x1 + 1)), (0, .ref (q 0)), (2, .int x2)]) hx hb (dg ddX3_countSnapped 16 rfl) rfl hl (by decide) rfl (fun ls hl => ?_)
        refine lv_iinc (v := x2 + 1) (lv' := [(2, .int (x2 + 1)), (1, .int (x1 + 1)), (0, .ref (q 0))]) hx hb (dg ddX3_countSnapped 17 rfl) hl (k := 2) rfl (congrArg (HAdd.hAdd x2) (by decide)) (by decide) rfl (fun ls hl => ?_)
        refine lv_goto (tgt := 4) hx hb (dg ddX3_countSnapped 18 rfl) (by decide) ?_
        exact ih (x1 + 1) (x2 + 1) _ (lv_sub hl [2, 1, 0] rfl) hf
  refine lv_iconst (v := 0) hx hb (dg ddX3_countSnapped 0 rfl) (by decide) ?_
  refine lv_istore_n (lv' := [(1, .int 0), (0, .ref (q 0))]) hx hb (dg ddX3_countSnapped 1 rfl) rfl hl (by decide) rfl (fun ls hl => ?_)
  refine lv_iconst (v := 0) hx hb (dg ddX3_countSnapped 2 rfl) (by decide) ?_
  refine lv_istore_n (lv' := [(2, .int 0), (1, .int 0), (0, .ref (q 0))]) hx hb (dg ddX3_countSnapped 3 rfl) rfl hl (by decide) rfl (fun ls hl => ?_)
  exact K4 4096 0 0 _ (lv_sub hl [2, 1, 0] rfl) hf
def f_X3_countAhead_c54 (rec4 : Int32 → Int32 → Option (Int32)) (v_buskers : Int32) (v_hat : Nat → UInt32) (a1 : Int32) (x2 : Int32) (x3 : Int32) (x4 : Int32) (t0 : Int32) : Option (Int32) := ob (f_X3_hasBusker v_buskers x3) fun r2 => (if r2 = 0 then (rec4 x2 (x3 + 1)) else (if x4 = 0 then (if t0 = 0 then (rec4 x2 (x3 + 1)) else (if a1 ≤ x3 then (rec4 x2 (x3 + 1)) else (rec4 (x2 + 1) (x3 + 1)))) else (rec4 (x2 + 1) (x3 + 1))))
def f_X3_countAhead_c31 (rec4 : Int32 → Int32 → Option (Int32)) (v_buskers : Int32) (v_hat : Nat → UInt32) (a1 : Int32) (x2 : Int32) (x3 : Int32) (t0 : Int32) : Option (Int32) := og (inb x3 8) (og (inb a1 8) (if (Op.cmpValue (FP.fcmp (v_hat x3.toNatClampNeg) (v_hat a1.toNatClampNeg)) .l) = 0 then (f_X3_countAhead_c54 rec4 v_buskers v_hat a1 x2 x3 t0 1) else (f_X3_countAhead_c54 rec4 v_buskers v_hat a1 x2 x3 t0 0)))
def f_X3_countAhead_c4  (v_buskers : Int32) (v_hat : Nat → UInt32) (a1 : Int32) : Nat → Int32 → Int32 → Option (Int32)
  | 0, _, _ => none
  | n + 1, x2, x3 => if 8 ≤ x3 then (some x2) else (og (inb x3 8) (og (inb a1 8) (if (Op.cmpValue (FP.fcmp (v_hat x3.toNatClampNeg) (v_hat a1.toNatClampNeg)) .l) ≤ 0 then (f_X3_countAhead_c31 (f_X3_countAhead_c4 v_buskers v_hat a1 n) v_buskers v_hat a1 x2 x3 0) else (f_X3_countAhead_c31 (f_X3_countAhead_c4 v_buskers v_hat a1 n) v_buskers v_hat a1 x2 x3 1))))
def f_X3_countAhead (v_buskers : Int32) (v_hat : Nat → UInt32) (a1 : Int32) : Option (Int32) := f_X3_countAhead_c4 v_buskers v_hat a1 4096 0 0
set_option maxHeartbeats 4000000 in
set_option maxRecDepth 100000 in
theorem c_X3_countAhead (l : Launch) (D : va_G) (cy : Nat → ClassId) (q : Nat → Nat) (v_hour : Int32) (v_crowd : Int32) (v_buskers : Int32) (v_answered : Int32) (v_draws : Int32) (v_lim : Nat → UInt32) (v_cmp : Nat → Int32) (v_sof : Nat → Int32) (v_kin : Nat → Int32) (v_lou : Nat → Int32) (v_pit : Nat → Int32) (v_pla : Nat → Int32) (v_cas : Nat → Int32) (v_hrs : Nat → Int32) (v_nws : Nat → Int32) (v_hat : Nat → UInt32) (v_wea : Nat → UInt32) (v_row : Nat → UInt32) (a1 : Int32) {res : Int32} (hf : f_X3_countAhead v_buskers v_hat a1 = some res) : Met l yX3_countAhead (.code yX3_countAhead cX3_countAhead 6 (some .int) :: lw_all) { frames := 2, cells := 0, slots := 0, locals := 33 } (va_Pc [.ref (q 0), .int a1] (sR D cy (wX3 q cy v_hour v_crowd v_buskers v_answered v_draws v_lim v_cmp v_sof v_kin v_lou v_pit v_pla v_cas v_hrs v_nws v_hat v_wea v_row))) (vp_Si (fun r => r = res)) 0 0 (fun _ => False) := by
  refine mk_ro (Rc := RX3) (by decide +kernel) rfl (Nat.le_of_ble_eq_true rfl) ?_
  intro p e s m args below meth c ls CX hml hr hlk hK hN hP hl
  have hx := CX.1
  have hb := CX.2.1
  have hRMX3_hasBusker : (⟨1, 0, 0, 12⟩ : Room).frames + 1 ≤ (⟨2, 0, 0, 33⟩ : Room).frames ∧ 8 + (2 + 11) + (⟨1, 0, 0, 12⟩ : Room).locals ≤ (⟨2, 0, 0, 33⟩ : Room).locals := ⟨Nat.le_of_ble_eq_true rfl, Nat.le_of_ble_eq_true rfl⟩
  have hl0 := hl
  have K54 : ∀ (rec4 : Int32 → Int32 → Option (Int32)) (hrec4 : ∀ (x2 : Int32) (x3 : Int32) (ls : Array Slot) (hl : lv_has ls 6 [(0, .ref (q 0)), (1, .int a1), (2, .int x2), (3, .int x3)]) (hf : rec4 x2 x3 = some res), W p l e ⟨2, 0, 0, 33⟩ s m args below meth c s.heap [] 0 0 (MQ below (vp_Si (fun r => r = res)) args s 0 0 (fun _ => False)) (F0 m 4 ls [])), ∀ (x2 : Int32) (x3 : Int32) (x4 : Int32) (t0 : Int32) (ls : Array Slot) (hl : lv_has ls 6 [(0, .ref (q 0)), (1, .int a1), (2, .int x2), (3, .int x3), (4, .int x4)]) (hf : f_X3_countAhead_c54 rec4 v_buskers v_hat a1 x2 x3 x4 t0 = some res), W p l e ⟨2, 0, 0, 33⟩ s m args below meth c s.heap [] 0 0 (MQ below (vp_Si (fun r => r = res)) args s 0 0 (fun _ => False)) (F0 m 54 ls [.int t0]) := by
    intro rec4 hrec4 x2 x3 x4 t0 ls hl hf
    refine lv_istore (lv' := [(5, .int t0), (0, .ref (q 0)), (1, .int a1), (2, .int x2), (3, .int x3), (4, .int x4)]) hx hb (dg ddX3_countAhead 34 rfl) hl (by decide) rfl (fun ls hl => ?_)
    refine lv_aload_n hx hb (dg ddX3_countAhead 35 rfl) rfl (lv_at hl 1 rfl) ?_
    refine lv_iload_n hx hb (dg ddX3_countAhead 36 rfl) rfl (lv_at hl 4 rfl) ?_
    obtain ⟨r2, e1, hf⟩ := ob_some hf
    refine cro_vi CX hml (As := [.int x3]) (rest := []) (c_X3_hasBusker l D cy q v_hour v_crowd v_buskers v_answered v_draws v_lim v_cmp v_sof v_kin v_lou v_pit v_pla v_cas v_hrs v_nws v_hat v_wea v_row x3 e1) lk_RX3_88 rfl rfl hRMX3_hasBusker hP hK hN 0 rfl rfl rfl hl.1 rfl (Nat.le_of_ble_eq_true rfl) ⟨Nat.le_of_ble_eq_true rfl, Nat.le_of_ble_eq_true rfl⟩ (dg ddX3_countAhead 37 rfl) ?_
    refine lv_if_eq (tgt := 82) hx hb (dg ddX3_countAhead 38 rfl) (by decide) (fun h3 => ?_) (fun h3 => ?_)
    · have hf := it_t h3 hf
      refine lv_iinc (v := x3 + 1) (lv' := [(3, .int (x3 + 1)), (5, .int t0), (0, .ref (q 0)), (1, .int a1), (2, .int x2), (4, .int x4)]) hx hb (dg ddX3_countAhead 47 rfl) hl (k := 4) rfl (congrArg (HAdd.hAdd x3) (by decide)) (by decide) rfl (fun ls hl => ?_)
      refine lv_goto (tgt := 4) hx hb (dg ddX3_countAhead 48 rfl) (by decide) ?_
      exact hrec4 x2 (x3 + 1) _ (lv_sub hl [2, 3, 4, 0] rfl) hf
    · have hf := it_f h3 hf
      refine lv_iload hx hb (dg ddX3_countAhead 39 rfl) (lv_at hl 5 rfl) ?_
      refine lv_if_ne (tgt := 79) hx hb (dg ddX3_countAhead 40 rfl) (by decide) (fun h4 => ?_) (fun h4 => ?_)
      · have hf := it_f h4 hf
        refine lv_iinc (v := x2 + 1) (lv' := [(2, .int (x2 + 1)), (5, .int t0), (0, .ref (q 0)), (1, .int a1), (3, .int x3), (4, .int x4)]) hx hb (dg ddX3_countAhead 46 rfl) hl (k := 3) rfl (congrArg (HAdd.hAdd x2) (by decide)) (by decide) rfl (fun ls hl => ?_)
        refine lv_iinc (v := x3 + 1) (lv' := [(3, .int (x3 + 1)), (2, .int (x2 + 1)), (5, .int t0), (0, .ref (q 0)), (1, .int a1), (4, .int x4)]) hx hb (dg ddX3_countAhead 47 rfl) hl (k := 4) rfl (congrArg (HAdd.hAdd x3) (by decide)) (by decide) rfl (fun ls hl => ?_)
        refine lv_goto (tgt := 4) hx hb (dg ddX3_countAhead 48 rfl) (by decide) ?_
        exact hrec4 (x2 + 1) (x3 + 1) _ (lv_sub hl [3, 4, 1, 0] rfl) hf
      · have hf := it_t h4 hf
        refine lv_iload hx hb (dg ddX3_countAhead 41 rfl) (lv_at hl 0 rfl) ?_
        refine lv_if_eq (tgt := 82) hx hb (dg ddX3_countAhead 42 rfl) (by decide) (fun h5 => ?_) (fun h5 => ?_)
        · have hf := it_t h5 hf
          refine lv_iinc (v := x3 + 1) (lv' := [(3, .int (x3 + 1)), (5, .int t0), (0, .ref (q 0)), (1, .int a1), (2, .int x2), (4, .int x4)]) hx hb (dg ddX3_countAhead 47 rfl) hl (k := 4) rfl (congrArg (HAdd.hAdd x3) (by decide)) (by decide) rfl (fun ls hl => ?_)
          refine lv_goto (tgt := 4) hx hb (dg ddX3_countAhead 48 rfl) (by decide) ?_
          exact hrec4 x2 (x3 + 1) _ (lv_sub hl [2, 3, 4, 0] rfl) hf
        · have hf := it_f h5 hf
          refine lv_iload_n hx hb (dg ddX3_countAhead 43 rfl) rfl (lv_at hl 4 rfl) ?_
          refine lv_iload_n hx hb (dg ddX3_countAhead 44 rfl) rfl (lv_at hl 2 rfl) ?_
          refine lv_icmp_ge (tgt := 82) hx hb (dg ddX3_countAhead 45 rfl) (by decide) (fun h6 => ?_) (fun h6 => ?_)
          · have hf := it_t h6 hf
            refine lv_iinc (v := x3 + 1) (lv' := [(3, .int (x3 + 1)), (5, .int t0), (0, .ref (q 0)), (1, .int a1), (2, .int x2), (4, .int x4)]) hx hb (dg ddX3_countAhead 47 rfl) hl (k := 4) rfl (congrArg (HAdd.hAdd x3) (by decide)) (by decide) rfl (fun ls hl => ?_)
            refine lv_goto (tgt := 4) hx hb (dg ddX3_countAhead 48 rfl) (by decide) ?_
            exact hrec4 x2 (x3 + 1) _ (lv_sub hl [2, 3, 4, 0] rfl) hf
          · have hf := it_f h6 hf
            refine lv_iinc (v := x2 + 1) (lv' := [(2, .int (x2 + 1)), (5, .int t0), (0, .ref (q 0)), (1, .int a1), (3, .int x3), (4, .int x4)]) hx hb (dg ddX3_countAhead 46 rfl) hl (k := 3) rfl (congrArg (HAdd.hAdd x2) (by decide)) (by decide) rfl (fun ls hl => ?_)
            refine lv_iinc (v := x3 + 1) (lv' := [(3, .int (x3 + 1)), (2, .int (x2 + 1)), (5, .int t0), (0, .ref (q 0)), (1, .int a1), (4, .int x4)]) hx hb (dg ddX3_countAhead 47 rfl) hl (k := 4) rfl (congrArg (HAdd.hAdd x3) (by decide)) (by decide) rfl (fun ls hl => ?_)
            refine lv_goto (tgt := 4) hx hb (dg ddX3_countAhead 48 rfl) (by decide) ?_
            exact hrec4 (x2 + 1) (x3 + 1) _ (lv_sub hl [3, 4, 1, 0] rfl) hf
  have K31 : ∀ (rec4 : Int32 → Int32 → Option (Int32)) (hrec4 : ∀ (x2 : Int32) (x3 : Int32) (ls : Array Slot) (hl : lv_has ls 6 [(0, .ref (q 0)), (1, .int a1), (2, .int x2), (3, .int x3)]) (hf : rec4 x2 x3 = some res), W p l e ⟨2, 0, 0, 33⟩ s m args below meth c s.heap [] 0 0 (MQ below (vp_Si (fun r => r = res)) args s 0 0 (fun _ => False)) (F0 m 4 ls [])), ∀ (x2 : Int32) (x3 : Int32) (t0 : Int32) (ls : Array Slot) (hl : lv_has ls 6 [(0, .ref (q 0)), (1, .int a1), (2, .int x2), (3, .int x3)]) (hf : f_X3_countAhead_c31 rec4 v_buskers v_hat a1 x2 x3 t0 = some res), W p l e ⟨2, 0, 0, 33⟩ s m args below meth c s.heap [] 0 0 (MQ below (vp_Si (fun r => r = res)) args s 0 0 (fun _ => False)) (F0 m 31 ls [.int t0]) := by
    intro rec4 hrec4 x2 x3 t0 ls hl hf
    refine lv_istore (lv' := [(4, .int t0), (0, .ref (q 0)), (1, .int a1), (2, .int x2), (3, .int x3)]) hx hb (dg ddX3_countAhead 20 rfl) hl (by decide) rfl (fun ls hl => ?_)
    refine lv_aload_n hx hb (dg ddX3_countAhead 21 rfl) rfl (lv_at hl 1 rfl) ?_
    refine gf_RX3_59 CX hK hP 0 rfl rfl (dg ddX3_countAhead 22 rfl) ?_
    refine lv_iload_n hx hb (dg ddX3_countAhead 23 rfl) rfl (lv_at hl 4 rfl) ?_
    obtain ⟨h1, hf⟩ := og_some hf
    refine va_fald hx hb hK hP 11 1 rfl rfl (inb_in h1) (dg ddX3_countAhead 24 rfl) ?_
    refine lv_aload_n hx hb (dg ddX3_countAhead 25 rfl) rfl (lv_at hl 1 rfl) ?_
    refine gf_RX3_59 CX hK hP 0 rfl rfl (dg ddX3_countAhead 26 rfl) ?_
    refine lv_iload_n hx hb (dg ddX3_countAhead 27 rfl) rfl (lv_at hl 2 rfl) ?_
    obtain ⟨h2, hf⟩ := og_some hf
    refine va_fald hx hb hK hP 11 1 rfl rfl (inb_in h2) (dg ddX3_countAhead 28 rfl) ?_
    refine lv_fcmp hx hb (dg ddX3_countAhead 29 rfl) ?_
    refine lv_if_ne (tgt := 53) hx hb (dg ddX3_countAhead 30 rfl) (by decide) (fun h3 => ?_) (fun h3 => ?_)
    · have hf := it_f h3 hf
      refine lv_iconst (v := 0) hx hb (dg ddX3_countAhead 33 rfl) (by decide) ?_
      exact K54 rec4 hrec4  x2 x3 t0 0 _ (lv_sub hl [1, 2, 3, 4, 0] rfl) hf
    · have hf := it_t h3 hf
      refine lv_iconst (v := 1) hx hb (dg ddX3_countAhead 31 rfl) (by decide) ?_
      refine lv_goto (tgt := 54) hx hb (dg ddX3_countAhead 32 rfl) (by decide) ?_
      exact K54 rec4 hrec4  x2 x3 t0 1 _ (lv_sub hl [1, 2, 3, 4, 0] rfl) hf
  have K4 : ∀ (n : Nat), ∀ (x2 : Int32) (x3 : Int32) (ls : Array Slot) (hl : lv_has ls 6 [(0, .ref (q 0)), (1, .int a1), (2, .int x2), (3, .int x3)]) (hf : f_X3_countAhead_c4 v_buskers v_hat a1 n x2 x3 = some res), W p l e ⟨2, 0, 0, 33⟩ s m args below meth c s.heap [] 0 0 (MQ below (vp_Si (fun r => r = res)) args s 0 0 (fun _ => False)) (F0 m 4 ls []) := by
    intro n
    induction n with
    | zero => intro x2 x3 ls hl hf; cases (show none = some res from hf)
    | succ n ih =>
    intro x2 x3 ls hl hf
    refine lv_iload_n hx hb (dg ddX3_countAhead 4 rfl) rfl (lv_at hl 3 rfl) ?_
    refine lv_bipush (v := 8) hx hb (dg ddX3_countAhead 5 rfl) (by decide) ?_
    refine lv_icmp_ge (tgt := 88) hx hb (dg ddX3_countAhead 6 rfl) (by decide) (fun h1 => ?_) (fun h1 => ?_)
    · have hf := it_t h1 hf
      refine lv_iload_n hx hb (dg ddX3_countAhead 49 rfl) rfl (lv_at hl 2 rfl) ?_
      exact e_ri CX hr hlk (Option.some.inj hf) (dg ddX3_countAhead 50 rfl)
    · have hf := it_f h1 hf
      refine lv_aload_n hx hb (dg ddX3_countAhead 7 rfl) rfl (lv_at hl 0 rfl) ?_
      refine gf_RX3_59 CX hK hP 0 rfl rfl (dg ddX3_countAhead 8 rfl) ?_
      refine lv_iload_n hx hb (dg ddX3_countAhead 9 rfl) rfl (lv_at hl 3 rfl) ?_
      obtain ⟨h2, hf⟩ := og_some hf
      refine va_fald hx hb hK hP 11 1 rfl rfl (inb_in h2) (dg ddX3_countAhead 10 rfl) ?_
      refine lv_aload_n hx hb (dg ddX3_countAhead 11 rfl) rfl (lv_at hl 0 rfl) ?_
      refine gf_RX3_59 CX hK hP 0 rfl rfl (dg ddX3_countAhead 12 rfl) ?_
      refine lv_iload_n hx hb (dg ddX3_countAhead 13 rfl) rfl (lv_at hl 1 rfl) ?_
      obtain ⟨h3, hf⟩ := og_some hf
      refine va_fald hx hb hK hP 11 1 rfl rfl (inb_in h3) (dg ddX3_countAhead 14 rfl) ?_
      refine lv_fcmp hx hb (dg ddX3_countAhead 15 rfl) ?_
      refine lv_if_le (tgt := 30) hx hb (dg ddX3_countAhead 16 rfl) (by decide) (fun h4 => ?_) (fun h4 => ?_)
      · have hf := it_t h4 hf
        refine lv_iconst (v := 0) hx hb (dg ddX3_countAhead 19 rfl) (by decide) ?_
        exact K31 (f_X3_countAhead_c4 v_buskers v_hat a1 n) ih  x2 x3 0 _ (lv_sub hl [0, 1, 2, 3] rfl) hf
      · have hf := it_f h4 hf
        refine lv_iconst (v := 1) hx hb (dg ddX3_countAhead 17 rfl) (by decide) ?_
        refine lv_goto (tgt := 31) hx hb (dg ddX3_countAhead 18 rfl) (by decide) ?_
        exact K31 (f_X3_countAhead_c4 v_buskers v_hat a1 n) ih  x2 x3 1 _ (lv_sub hl [0, 1, 2, 3] rfl) hf
  refine lv_iconst (v := 0) hx hb (dg ddX3_countAhead 0 rfl) (by decide) ?_
  refine lv_istore_n (lv' := [(2, .int 0), (0, .ref (q 0)), (1, .int a1)]) hx hb (dg ddX3_countAhead 1 rfl) rfl hl (by decide) rfl (fun ls hl => ?_)
  refine lv_iconst (v := 0) hx hb (dg ddX3_countAhead 2 rfl) (by decide) ?_
  refine lv_istore_n (lv' := [(3, .int 0), (2, .int 0), (0, .ref (q 0)), (1, .int a1)]) hx hb (dg ddX3_countAhead 3 rfl) rfl hl (by decide) rfl (fun ls hl => ?_)
  exact K4 4096 0 0 _ (lv_sub hl [2, 3, 1, 0] rfl) hf
def f_X3_putInLine (v_pla : Nat → Int32) (a1 : Int32) : Option (Int32 × (Nat → Int32)) := ob (f_X3_countWaiting v_pla) fun r2 => (og (inb a1 8) (ob (f_X3_countWaiting (upd v_pla a1.toNatClampNeg r2)) fun r5 => (some (r5, (upd v_pla a1.toNatClampNeg r2)))))
set_option maxHeartbeats 4000000 in
set_option maxRecDepth 100000 in
theorem c_X3_putInLine (l : Launch) (D : va_G) (cy : Nat → ClassId) (q : Nat → Nat) (v_hour : Int32) (v_crowd : Int32) (v_buskers : Int32) (v_answered : Int32) (v_draws : Int32) (v_lim : Nat → UInt32) (v_cmp : Nat → Int32) (v_sof : Nat → Int32) (v_kin : Nat → Int32) (v_lou : Nat → Int32) (v_pit : Nat → Int32) (v_pla : Nat → Int32) (v_cas : Nat → Int32) (v_hrs : Nat → Int32) (v_nws : Nat → Int32) (v_hat : Nat → UInt32) (v_wea : Nat → UInt32) (v_row : Nat → UInt32) (a1 : Int32) (sz : Nat) {res : Int32 × (Nat → Int32)} (hf : f_X3_putInLine v_pla a1 = some res) : Met l yX3_putInLine (.code yX3_putInLine cX3_putInLine 2 (some .int) :: lw_all) { frames := 2, cells := 0, slots := 0, locals := 37 } (va_Pc [.ref (q 0), .int a1] (sW D cy (wX3 q cy v_hour v_crowd v_buskers v_answered v_draws v_lim v_cmp v_sof v_kin v_lou v_pit v_pla v_cas v_hrs v_nws v_hat v_wea v_row) sz)) (qI D (wX3 q cy v_hour v_crowd v_buskers v_answered v_draws v_lim v_cmp v_sof v_kin v_lou v_pit res.2 v_cas v_hrs v_nws v_hat v_wea v_row) res.1 (va_A (wX3 q cy v_hour v_crowd v_buskers v_answered v_draws v_lim v_cmp v_sof v_kin v_lou v_pit v_pla v_cas v_hrs v_nws v_hat v_wea v_row) sz)) 0 0 (va_A (wX3 q cy v_hour v_crowd v_buskers v_answered v_draws v_lim v_cmp v_sof v_kin v_lou v_pit v_pla v_cas v_hrs v_nws v_hat v_wea v_row) sz) := by
  refine mk_rw (Qc := qI D (wX3 q cy v_hour v_crowd v_buskers v_answered v_draws v_lim v_cmp v_sof v_kin v_lou v_pit res.2 v_cas v_hrs v_nws v_hat v_wea v_row) res.1) (Rc := RX3) (by decide +kernel) rfl (Nat.le_of_ble_eq_true rfl) ?_
  intro p e s m args below meth c ls A CX hml hr hlk hK hN hP hD hS hA hl
  have hx := CX.1
  have hb := CX.2.1
  have hRMX3_countWaiting : (⟨1, 0, 0, 12⟩ : Room).frames + 1 ≤ (⟨2, 0, 0, 37⟩ : Room).frames ∧ 8 + (6 + 11) + (⟨1, 0, 0, 12⟩ : Room).locals ≤ (⟨2, 0, 0, 37⟩ : Room).locals := ⟨Nat.le_of_ble_eq_true rfl, Nat.le_of_ble_eq_true rfl⟩
  refine lv_aload_n hx hb (dg ddX3_putInLine 0 rfl) rfl (lv_at hl 0 rfl) ?_
  refine gf_RX3_47 CX hK hP 0 rfl rfl (dg ddX3_putInLine 1 rfl) ?_
  refine lv_iload_n hx hb (dg ddX3_putInLine 2 rfl) rfl (lv_at hl 1 rfl) ?_
  refine lv_aload_n hx hb (dg ddX3_putInLine 3 rfl) rfl (lv_at hl 0 rfl) ?_
  obtain ⟨r2, e1, hf⟩ := ob_some hf
  refine cro_vi CX hml (As := []) (rest := [.int a1, .ref (q 7)]) (c_X3_countWaiting l D cy q v_hour v_crowd v_buskers v_answered v_draws v_lim v_cmp v_sof v_kin v_lou v_pit v_pla v_cas v_hrs v_nws v_hat v_wea v_row e1) lk_RX3_94 rfl rfl hRMX3_countWaiting hP hK hN 0 rfl rfl rfl hl.1 rfl (Nat.le_of_ble_eq_true rfl) ⟨Nat.le_of_ble_eq_true rfl, Nat.le_of_ble_eq_true rfl⟩ (dg ddX3_putInLine 4 rfl) ?_
  obtain ⟨h3, hf⟩ := og_some hf
  refine va_iast hx hb hK hP hD hS 7 0 rfl rfl (inb_in h3) (dg ddX3_putInLine 5 rfl) (fun H locs hP hD hS => ?_)
  have hP : va_P D vwCl (wX3 q cy v_hour v_crowd v_buskers v_answered v_draws v_lim v_cmp v_sof v_kin v_lou v_pit (upd v_pla a1.toNatClampNeg r2) v_cas v_hrs v_nws v_hat v_wea v_row) H := hP
  have hD : va_D A (wX3 q cy v_hour v_crowd v_buskers v_answered v_draws v_lim v_cmp v_sof v_kin v_lou v_pit (upd v_pla a1.toNatClampNeg r2) v_cas v_hrs v_nws v_hat v_wea v_row) := hD
  refine lv_aload_n hx hb (dg ddX3_putInLine 6 rfl) rfl (lv_at hl 0 rfl) ?_
  obtain ⟨r5, e4, hf⟩ := ob_some hf
  refine cro_vi CX hml (As := []) (rest := []) (c_X3_countWaiting l D cy q v_hour v_crowd v_buskers v_answered v_draws v_lim v_cmp v_sof v_kin v_lou v_pit (upd v_pla a1.toNatClampNeg r2) v_cas v_hrs v_nws v_hat v_wea v_row e4) lk_RX3_94 rfl rfl hRMX3_countWaiting hP hK hN 0 rfl rfl rfl hl.1 rfl (Nat.le_of_ble_eq_true rfl) ⟨Nat.le_of_ble_eq_true rfl, Nat.le_of_ble_eq_true rfl⟩ (dg ddX3_putInLine 7 rfl) ?_
  cases hf
  exact e_wi CX hr hlk rfl hP hD hS (dg ddX3_putInLine 8 rfl)
def f_X3_drawFor_c42  (a1 : Int32) : Nat → Int32 → Int32 → Int32 → Int32 → (Nat → Int32) → (Nat → Int32) → Option (Int32 × Int32 × (Nat → Int32) × (Nat → Int32))
  | 0, _, _, _, _, _, _ => none
  | n + 1, x4, x5, x6, v_draws, v_pit, v_pla => if 8 ≤ x6 then (og (inb x4 8) (og (inb x4 8) (some (x4, (v_draws + 1), (upd v_pit x4.toNatClampNeg a1), (upd v_pla x4.toNatClampNeg (-1)))))) else (og (inb x6 8) (if (v_pla x6.toNatClampNeg) ≤ x5 then (f_X3_drawFor_c42 a1 n x4 x5 (x6 + 1) v_draws v_pit v_pla) else (og (inb x6 8) (og (inb x6 8) (f_X3_drawFor_c42 a1 n x4 x5 (x6 + 1) v_draws v_pit (upd v_pla x6.toNatClampNeg ((v_pla x6.toNatClampNeg) - 1)))))))
def f_X3_drawFor_c20  (a1 : Int32) (t0 : Int32) (v_draws : Int32) (v_pit : Nat → Int32) (v_pla : Nat → Int32) : Option (Int32 × Int32 × (Nat → Int32) × (Nat → Int32)) := if t0 = (-1) then (some ((-1), v_draws, v_pit, v_pla)) else (og (inb t0 8) (f_X3_drawFor_c42 a1 4096 t0 (v_pla t0.toNatClampNeg) 0 v_draws v_pit v_pla))
def f_X3_drawFor (v_draws : Int32) (v_pit : Nat → Int32) (v_pla : Nat → Int32) (a1 : Int32) (a2 : Int32) : Option (Int32 × Int32 × (Nat → Int32) × (Nat → Int32)) := ob (f_X3_countWaiting v_pla) fun r2 => (if 0 < r2 then (og (nz r2) (ob (f_X3_waiterAt v_pla (a2 - a2 / r2 * r2)) fun r6 => (f_X3_drawFor_c20 a1 r6 v_draws v_pit v_pla))) else (f_X3_drawFor_c20 a1 (-1) v_draws v_pit v_pla))
set_option maxHeartbeats 4000000 in
set_option maxRecDepth 100000 in
theorem c_X3_drawFor (l : Launch) (D : va_G) (cy : Nat → ClassId) (q : Nat → Nat) (v_hour : Int32) (v_crowd : Int32) (v_buskers : Int32) (v_answered : Int32) (v_draws : Int32) (v_lim : Nat → UInt32) (v_cmp : Nat → Int32) (v_sof : Nat → Int32) (v_kin : Nat → Int32) (v_lou : Nat → Int32) (v_pit : Nat → Int32) (v_pla : Nat → Int32) (v_cas : Nat → Int32) (v_hrs : Nat → Int32) (v_nws : Nat → Int32) (v_hat : Nat → UInt32) (v_wea : Nat → UInt32) (v_row : Nat → UInt32) (a1 : Int32) (a2 : Int32) (sz : Nat) {res : Int32 × Int32 × (Nat → Int32) × (Nat → Int32)} (hf : f_X3_drawFor v_draws v_pit v_pla a1 a2 = some res) : Met l yX3_drawFor (.code yX3_drawFor cX3_drawFor 7 (some .int) :: lw_all) { frames := 2, cells := 0, slots := 0, locals := 37 } (va_Pc [.ref (q 0), .int a1, .int a2] (sW D cy (wX3 q cy v_hour v_crowd v_buskers v_answered v_draws v_lim v_cmp v_sof v_kin v_lou v_pit v_pla v_cas v_hrs v_nws v_hat v_wea v_row) sz)) (qI D (wX3 q cy v_hour v_crowd v_buskers v_answered res.2.1 v_lim v_cmp v_sof v_kin v_lou res.2.2.1 res.2.2.2 v_cas v_hrs v_nws v_hat v_wea v_row) res.1 (va_A (wX3 q cy v_hour v_crowd v_buskers v_answered v_draws v_lim v_cmp v_sof v_kin v_lou v_pit v_pla v_cas v_hrs v_nws v_hat v_wea v_row) sz)) 0 0 (va_A (wX3 q cy v_hour v_crowd v_buskers v_answered v_draws v_lim v_cmp v_sof v_kin v_lou v_pit v_pla v_cas v_hrs v_nws v_hat v_wea v_row) sz) := by
  refine mk_rw (Qc := qI D (wX3 q cy v_hour v_crowd v_buskers v_answered res.2.1 v_lim v_cmp v_sof v_kin v_lou res.2.2.1 res.2.2.2 v_cas v_hrs v_nws v_hat v_wea v_row) res.1) (Rc := RX3) (by decide +kernel) rfl (Nat.le_of_ble_eq_true rfl) ?_
  intro p e s m args below meth c ls A CX hml hr hlk hK hN hP hD hS hA hl
  have hx := CX.1
  have hb := CX.2.1
  have hRMX3_countWaiting : (⟨1, 0, 0, 12⟩ : Room).frames + 1 ≤ (⟨2, 0, 0, 37⟩ : Room).frames ∧ 8 + (6 + 11) + (⟨1, 0, 0, 12⟩ : Room).locals ≤ (⟨2, 0, 0, 37⟩ : Room).locals := ⟨Nat.le_of_ble_eq_true rfl, Nat.le_of_ble_eq_true rfl⟩
  have hRMX3_waiterAt : (⟨1, 0, 0, 12⟩ : Room).frames + 1 ≤ (⟨2, 0, 0, 37⟩ : Room).frames ∧ 8 + (3 + 11) + (⟨1, 0, 0, 12⟩ : Room).locals ≤ (⟨2, 0, 0, 37⟩ : Room).locals := ⟨Nat.le_of_ble_eq_true rfl, Nat.le_of_ble_eq_true rfl⟩
  have hl0 := hl
  have K42 : ∀ (n : Nat), ∀ (x4 : Int32) (x5 : Int32) (x6 : Int32) (v_draws : Int32) (v_pit : Nat → Int32) (v_pla : Nat → Int32) (H : Heap) (locs : List Loc) (hP : va_P D vwCl (wX3 q cy v_hour v_crowd v_buskers v_answered v_draws v_lim v_cmp v_sof v_kin v_lou v_pit v_pla v_cas v_hrs v_nws v_hat v_wea v_row) H) (hD : va_D A (wX3 q cy v_hour v_crowd v_buskers v_answered v_draws v_lim v_cmp v_sof v_kin v_lou v_pit v_pla v_cas v_hrs v_nws v_hat v_wea v_row)) (hS : va_S A s.heap H locs) (ls : Array Slot) (hl : lv_has ls 7 [(0, .ref (q 0)), (1, .int a1), (4, .int x4), (5, .int x5), (6, .int x6)]) (hf : f_X3_drawFor_c42 a1 n x4 x5 x6 v_draws v_pit v_pla = some res), W p l e ⟨2, 0, 0, 37⟩ s m args below meth c H locs 0 0 (MQ below (qI D (wX3 q cy v_hour v_crowd v_buskers v_answered res.2.1 v_lim v_cmp v_sof v_kin v_lou res.2.2.1 res.2.2.2 v_cas v_hrs v_nws v_hat v_wea v_row) res.1 A) args s 0 0 A) (F0 m 42 ls []) := by
    intro n
    induction n with
    | zero => intro x4 x5 x6 v_draws v_pit v_pla H locs hP hD hS ls hl hf; cases (show none = some res from hf)
    | succ n ih =>
    intro x4 x5 x6 v_draws v_pit v_pla H locs hP hD hS ls hl hf
    refine lv_iload hx hb (dg ddX3_drawFor 25 rfl) (lv_at hl 4 rfl) ?_
    refine lv_bipush (v := 8) hx hb (dg ddX3_drawFor 26 rfl) (by decide) ?_
    refine lv_icmp_ge (tgt := 78) hx hb (dg ddX3_drawFor 27 rfl) (by decide) (fun h1 => ?_) (fun h1 => ?_)
    · have hf := it_t h1 hf
      refine lv_aload_n hx hb (dg ddX3_drawFor 44 rfl) rfl (lv_at hl 0 rfl) ?_
      refine gf_RX3_47 CX hK hP 0 rfl rfl (dg ddX3_drawFor 45 rfl) ?_
      refine lv_iload hx hb (dg ddX3_drawFor 46 rfl) (lv_at hl 2 rfl) ?_
      refine lv_iconst (v := (-1)) hx hb (dg ddX3_drawFor 47 rfl) (by decide) ?_
      obtain ⟨h2, hf⟩ := og_some hf
      refine va_iast hx hb hK hP hD hS 7 0 rfl rfl (inb_in h2) (dg ddX3_drawFor 48 rfl) (fun H locs hP hD hS => ?_)
      have hP : va_P D vwCl (wX3 q cy v_hour v_crowd v_buskers v_answered v_draws v_lim v_cmp v_sof v_kin v_lou v_pit (upd v_pla x4.toNatClampNeg (-1)) v_cas v_hrs v_nws v_hat v_wea v_row) H := hP
      have hD : va_D A (wX3 q cy v_hour v_crowd v_buskers v_answered v_draws v_lim v_cmp v_sof v_kin v_lou v_pit (upd v_pla x4.toNatClampNeg (-1)) v_cas v_hrs v_nws v_hat v_wea v_row) := hD
      refine lv_aload_n hx hb (dg ddX3_drawFor 49 rfl) rfl (lv_at hl 0 rfl) ?_
      refine gf_RX3_44 CX hK hP 0 rfl rfl (dg ddX3_drawFor 50 rfl) ?_
      refine lv_iload hx hb (dg ddX3_drawFor 51 rfl) (lv_at hl 2 rfl) ?_
      refine lv_iload_n hx hb (dg ddX3_drawFor 52 rfl) rfl (lv_at hl 1 rfl) ?_
      obtain ⟨h3, hf⟩ := og_some hf
      refine va_iast hx hb hK hP hD hS 6 0 rfl rfl (inb_in h3) (dg ddX3_drawFor 53 rfl) (fun H locs hP hD hS => ?_)
      have hP : va_P D vwCl (wX3 q cy v_hour v_crowd v_buskers v_answered v_draws v_lim v_cmp v_sof v_kin v_lou (upd v_pit x4.toNatClampNeg a1) (upd v_pla x4.toNatClampNeg (-1)) v_cas v_hrs v_nws v_hat v_wea v_row) H := hP
      have hD : va_D A (wX3 q cy v_hour v_crowd v_buskers v_answered v_draws v_lim v_cmp v_sof v_kin v_lou (upd v_pit x4.toNatClampNeg a1) (upd v_pla x4.toNatClampNeg (-1)) v_cas v_hrs v_nws v_hat v_wea v_row) := hD
      refine lv_aload_n hx hb (dg ddX3_drawFor 54 rfl) rfl (lv_at hl 0 rfl) ?_
      refine lv_dup hx hb (dg ddX3_drawFor 55 rfl) rfl ?_
      refine gf_RX3_24 CX hK hP 0 rfl rfl (dg ddX3_drawFor 56 rfl) ?_
      refine lv_iconst (v := 1) hx hb (dg ddX3_drawFor 57 rfl) (by decide) ?_
      refine lv_iadd hx hb (dg ddX3_drawFor 58 rfl) ?_
      refine pf_RX3_24 CX hK hP hD hS 0 rfl (dg ddX3_drawFor 59 rfl) (Nat.le_of_ble_eq_true rfl) (fun H locs hP hD hS => ?_)
      have hP : va_P D vwCl (wX3 q cy v_hour v_crowd v_buskers v_answered (v_draws + 1) v_lim v_cmp v_sof v_kin v_lou (upd v_pit x4.toNatClampNeg a1) (upd v_pla x4.toNatClampNeg (-1)) v_cas v_hrs v_nws v_hat v_wea v_row) H := hP
      have hD : va_D A (wX3 q cy v_hour v_crowd v_buskers v_answered (v_draws + 1) v_lim v_cmp v_sof v_kin v_lou (upd v_pit x4.toNatClampNeg a1) (upd v_pla x4.toNatClampNeg (-1)) v_cas v_hrs v_nws v_hat v_wea v_row) := hD
      refine lv_iload hx hb (dg ddX3_drawFor 60 rfl) (lv_at hl 2 rfl) ?_
      cases hf
      exact e_wi CX hr hlk rfl hP hD hS (dg ddX3_drawFor 61 rfl)
    · have hf := it_f h1 hf
      refine lv_aload_n hx hb (dg ddX3_drawFor 28 rfl) rfl (lv_at hl 0 rfl) ?_
      refine gf_RX3_47 CX hK hP 0 rfl rfl (dg ddX3_drawFor 29 rfl) ?_
      refine lv_iload hx hb (dg ddX3_drawFor 30 rfl) (lv_at hl 4 rfl) ?_
      obtain ⟨h4, hf⟩ := og_some hf
      refine va_iald hx hb hK hP 7 0 rfl rfl (inb_in h4) (dg ddX3_drawFor 31 rfl) ?_
      refine lv_iload hx hb (dg ddX3_drawFor 32 rfl) (lv_at hl 3 rfl) ?_
      refine lv_icmp_le (tgt := 72) hx hb (dg ddX3_drawFor 33 rfl) (by decide) (fun h5 => ?_) (fun h5 => ?_)
      · have hf := it_t h5 hf
        refine lv_iinc (v := x6 + 1) (lv' := [(6, .int (x6 + 1)), (0, .ref (q 0)), (1, .int a1), (4, .int x4), (5, .int x5)]) hx hb (dg ddX3_drawFor 42 rfl) hl (k := 4) rfl (congrArg (HAdd.hAdd x6) (by decide)) (by decide) rfl (fun ls hl => ?_)
        refine lv_goto (tgt := 42) hx hb (dg ddX3_drawFor 43 rfl) (by decide) ?_
        exact ih x4 x5 (x6 + 1) v_draws v_pit v_pla _ _ hP hD hS _ (lv_sub hl [1, 2, 3, 4, 0] rfl) hf
      · have hf := it_f h5 hf
        refine lv_aload_n hx hb (dg ddX3_drawFor 34 rfl) rfl (lv_at hl 0 rfl) ?_
        refine gf_RX3_47 CX hK hP 0 rfl rfl (dg ddX3_drawFor 35 rfl) ?_
        refine lv_iload hx hb (dg ddX3_drawFor 36 rfl) (lv_at hl 4 rfl) ?_
        refine lv_dup2_11 hx hb (dg ddX3_drawFor 37 rfl) rfl rfl ?_
        obtain ⟨h6, hf⟩ := og_some hf
        refine va_iald hx hb hK hP 7 0 rfl rfl (inb_in h6) (dg ddX3_drawFor 38 rfl) ?_
        refine lv_iconst (v := 1) hx hb (dg ddX3_drawFor 39 rfl) (by decide) ?_
        refine lv_isub hx hb (dg ddX3_drawFor 40 rfl) ?_
        obtain ⟨h7, hf⟩ := og_some hf
        refine va_iast hx hb hK hP hD hS 7 0 rfl rfl (inb_in h7) (dg ddX3_drawFor 41 rfl) (fun H locs hP hD hS => ?_)
        have hP : va_P D vwCl (wX3 q cy v_hour v_crowd v_buskers v_answered v_draws v_lim v_cmp v_sof v_kin v_lou v_pit (upd v_pla x6.toNatClampNeg ((v_pla x6.toNatClampNeg) - 1)) v_cas v_hrs v_nws v_hat v_wea v_row) H := hP
        have hD : va_D A (wX3 q cy v_hour v_crowd v_buskers v_answered v_draws v_lim v_cmp v_sof v_kin v_lou v_pit (upd v_pla x6.toNatClampNeg ((v_pla x6.toNatClampNeg) - 1)) v_cas v_hrs v_nws v_hat v_wea v_row) := hD
        refine lv_iinc (v := x6 + 1) (lv' := [(6, .int (x6 + 1)), (0, .ref (q 0)), (1, .int a1), (4, .int x4), (5, .int x5)]) hx hb (dg ddX3_drawFor 42 rfl) hl (k := 4) rfl (congrArg (HAdd.hAdd x6) (by decide)) (by decide) rfl (fun ls hl => ?_)
        refine lv_goto (tgt := 42) hx hb (dg ddX3_drawFor 43 rfl) (by decide) ?_
        exact ih x4 x5 (x6 + 1) v_draws v_pit (upd v_pla x6.toNatClampNeg ((v_pla x6.toNatClampNeg) - 1)) _ _ hP hD hS _ (lv_sub hl [1, 2, 3, 4, 0] rfl) hf
  have K20 : ∀ (t0 : Int32) (v_draws : Int32) (v_pit : Nat → Int32) (v_pla : Nat → Int32) (H : Heap) (locs : List Loc) (hP : va_P D vwCl (wX3 q cy v_hour v_crowd v_buskers v_answered v_draws v_lim v_cmp v_sof v_kin v_lou v_pit v_pla v_cas v_hrs v_nws v_hat v_wea v_row) H) (hD : va_D A (wX3 q cy v_hour v_crowd v_buskers v_answered v_draws v_lim v_cmp v_sof v_kin v_lou v_pit v_pla v_cas v_hrs v_nws v_hat v_wea v_row)) (hS : va_S A s.heap H locs) (ls : Array Slot) (hl : lv_has ls 7 [(0, .ref (q 0)), (1, .int a1)]) (hf : f_X3_drawFor_c20 a1 t0 v_draws v_pit v_pla = some res), W p l e ⟨2, 0, 0, 37⟩ s m args below meth c H locs 0 0 (MQ below (qI D (wX3 q cy v_hour v_crowd v_buskers v_answered res.2.1 v_lim v_cmp v_sof v_kin v_lou res.2.2.1 res.2.2.2 v_cas v_hrs v_nws v_hat v_wea v_row) res.1 A) args s 0 0 A) (F0 m 20 ls [.int t0]) := by
    intro t0 v_draws v_pit v_pla H locs hP hD hS ls hl hf
    refine lv_istore (lv' := [(4, .int t0), (0, .ref (q 0)), (1, .int a1)]) hx hb (dg ddX3_drawFor 12 rfl) hl (by decide) rfl (fun ls hl => ?_)
    refine lv_iload hx hb (dg ddX3_drawFor 13 rfl) (lv_at hl 0 rfl) ?_
    refine lv_iconst (v := (-1)) hx hb (dg ddX3_drawFor 14 rfl) (by decide) ?_
    refine lv_icmp_ne (tgt := 30) hx hb (dg ddX3_drawFor 15 rfl) (by decide) (fun h1 => ?_) (fun h1 => ?_)
    · have hf := it_f h1 hf
      refine lv_aload_n hx hb (dg ddX3_drawFor 18 rfl) rfl (lv_at hl 1 rfl) ?_
      refine gf_RX3_47 CX hK hP 0 rfl rfl (dg ddX3_drawFor 19 rfl) ?_
      refine lv_iload hx hb (dg ddX3_drawFor 20 rfl) (lv_at hl 0 rfl) ?_
      obtain ⟨h2, hf⟩ := og_some hf
      refine va_iald hx hb hK hP 7 0 rfl rfl (inb_in h2) (dg ddX3_drawFor 21 rfl) ?_
      refine lv_istore (lv' := [(5, .int (v_pla t0.toNatClampNeg)), (4, .int t0), (0, .ref (q 0)), (1, .int a1)]) hx hb (dg ddX3_drawFor 22 rfl) hl (by decide) rfl (fun ls hl => ?_)
      refine lv_iconst (v := 0) hx hb (dg ddX3_drawFor 23 rfl) (by decide) ?_
      refine lv_istore (lv' := [(6, .int 0), (5, .int (v_pla t0.toNatClampNeg)), (4, .int t0), (0, .ref (q 0)), (1, .int a1)]) hx hb (dg ddX3_drawFor 24 rfl) hl (by decide) rfl (fun ls hl => ?_)
      exact K42 4096 t0 (v_pla t0.toNatClampNeg) 0 v_draws v_pit v_pla _ _ hP hD hS _ (lv_sub hl [3, 4, 2, 1, 0] rfl) hf
    · have hf := it_t h1 hf
      refine lv_iconst (v := (-1)) hx hb (dg ddX3_drawFor 16 rfl) (by decide) ?_
      cases hf
      exact e_wi CX hr hlk rfl hP hD hS (dg ddX3_drawFor 17 rfl)
  refine lv_aload_n hx hb (dg ddX3_drawFor 0 rfl) rfl (lv_at hl 0 rfl) ?_
  obtain ⟨r2, e1, hf⟩ := ob_some hf
  refine cro_vi CX hml (As := []) (rest := []) (c_X3_countWaiting l D cy q v_hour v_crowd v_buskers v_answered v_draws v_lim v_cmp v_sof v_kin v_lou v_pit v_pla v_cas v_hrs v_nws v_hat v_wea v_row e1) lk_RX3_94 rfl rfl hRMX3_countWaiting hP hK hN 0 rfl rfl rfl hl.1 rfl (Nat.le_of_ble_eq_true rfl) ⟨Nat.le_of_ble_eq_true rfl, Nat.le_of_ble_eq_true rfl⟩ (dg ddX3_drawFor 1 rfl) ?_
  refine lv_istore_n (lv' := [(3, .int r2), (0, .ref (q 0)), (1, .int a1), (2, .int a2)]) hx hb (dg ddX3_drawFor 2 rfl) rfl hl (by decide) rfl (fun ls hl => ?_)
  refine lv_iload_n hx hb (dg ddX3_drawFor 3 rfl) rfl (lv_at hl 0 rfl) ?_
  refine lv_if_gt (tgt := 13) hx hb (dg ddX3_drawFor 4 rfl) (by decide) (fun h3 => ?_) (fun h3 => ?_)
  · have hf := it_t h3 hf
    refine lv_aload_n hx hb (dg ddX3_drawFor 7 rfl) rfl (lv_at hl 1 rfl) ?_
    refine lv_iload_n hx hb (dg ddX3_drawFor 8 rfl) rfl (lv_at hl 3 rfl) ?_
    refine lv_iload_n hx hb (dg ddX3_drawFor 9 rfl) rfl (lv_at hl 0 rfl) ?_
    obtain ⟨h4, hf⟩ := og_some hf
    refine lv_irem hx hb (dg ddX3_drawFor 10 rfl) (nz_in h4) ?_
    obtain ⟨r6, e5, hf⟩ := ob_some hf
    refine cro_vi CX hml (As := [.int (a2 - a2 / r2 * r2)]) (rest := []) (c_X3_waiterAt l D cy q v_hour v_crowd v_buskers v_answered v_draws v_lim v_cmp v_sof v_kin v_lou v_pit v_pla v_cas v_hrs v_nws v_hat v_wea v_row (a2 - a2 / r2 * r2) e5) lk_RX3_98 rfl rfl hRMX3_waiterAt hP hK hN 0 rfl rfl rfl hl.1 rfl (Nat.le_of_ble_eq_true rfl) ⟨Nat.le_of_ble_eq_true rfl, Nat.le_of_ble_eq_true rfl⟩ (dg ddX3_drawFor 11 rfl) ?_
    exact K20  r6 v_draws v_pit v_pla _ _ hP hD hS _ (lv_sub hl [1, 2] rfl) hf
  · have hf := it_f h3 hf
    refine lv_iconst (v := (-1)) hx hb (dg ddX3_drawFor 5 rfl) (by decide) ?_
    refine lv_goto (tgt := 20) hx hb (dg ddX3_drawFor 6 rfl) (by decide) ?_
    exact K20  (-1) v_draws v_pit v_pla _ _ hP hD hS _ (lv_sub hl [1, 2] rfl) hf
def f_X3_sendHomeFrom (v_pit : Nat → Int32) (a1 : Int32) : Option (Int32 × (Nat → Int32)) := ob (f_X3_playerOn v_pit a1) fun r2 => (if r2 = (-1) then (some (r2, v_pit)) else (og (inb r2 8) (some (r2, (upd v_pit r2.toNatClampNeg (-1))))))
set_option maxHeartbeats 4000000 in
set_option maxRecDepth 100000 in
theorem c_X3_sendHomeFrom (l : Launch) (D : va_G) (cy : Nat → ClassId) (q : Nat → Nat) (v_hour : Int32) (v_crowd : Int32) (v_buskers : Int32) (v_answered : Int32) (v_draws : Int32) (v_lim : Nat → UInt32) (v_cmp : Nat → Int32) (v_sof : Nat → Int32) (v_kin : Nat → Int32) (v_lou : Nat → Int32) (v_pit : Nat → Int32) (v_pla : Nat → Int32) (v_cas : Nat → Int32) (v_hrs : Nat → Int32) (v_nws : Nat → Int32) (v_hat : Nat → UInt32) (v_wea : Nat → UInt32) (v_row : Nat → UInt32) (a1 : Int32) (sz : Nat) {res : Int32 × (Nat → Int32)} (hf : f_X3_sendHomeFrom v_pit a1 = some res) : Met l yX3_sendHomeFrom (.code yX3_sendHomeFrom cX3_sendHomeFrom 3 (some .int) :: lw_all) { frames := 3, cells := 0, slots := 0, locals := 54 } (va_Pc [.ref (q 0), .int a1] (sW D cy (wX3 q cy v_hour v_crowd v_buskers v_answered v_draws v_lim v_cmp v_sof v_kin v_lou v_pit v_pla v_cas v_hrs v_nws v_hat v_wea v_row) sz)) (qI D (wX3 q cy v_hour v_crowd v_buskers v_answered v_draws v_lim v_cmp v_sof v_kin v_lou res.2 v_pla v_cas v_hrs v_nws v_hat v_wea v_row) res.1 (va_A (wX3 q cy v_hour v_crowd v_buskers v_answered v_draws v_lim v_cmp v_sof v_kin v_lou v_pit v_pla v_cas v_hrs v_nws v_hat v_wea v_row) sz)) 0 0 (va_A (wX3 q cy v_hour v_crowd v_buskers v_answered v_draws v_lim v_cmp v_sof v_kin v_lou v_pit v_pla v_cas v_hrs v_nws v_hat v_wea v_row) sz) := by
  refine mk_rw (Qc := qI D (wX3 q cy v_hour v_crowd v_buskers v_answered v_draws v_lim v_cmp v_sof v_kin v_lou res.2 v_pla v_cas v_hrs v_nws v_hat v_wea v_row) res.1) (Rc := RX3) (by decide +kernel) rfl (Nat.le_of_ble_eq_true rfl) ?_
  intro p e s m args below meth c ls A CX hml hr hlk hK hN hP hD hS hA hl
  have hx := CX.1
  have hb := CX.2.1
  have hRMX3_playerOn : (⟨2, 0, 0, 32⟩ : Room).frames + 1 ≤ (⟨3, 0, 0, 54⟩ : Room).frames ∧ 8 + (3 + 11) + (⟨2, 0, 0, 32⟩ : Room).locals ≤ (⟨3, 0, 0, 54⟩ : Room).locals := ⟨Nat.le_of_ble_eq_true rfl, Nat.le_of_ble_eq_true rfl⟩
  refine lv_aload_n hx hb (dg ddX3_sendHomeFrom 0 rfl) rfl (lv_at hl 0 rfl) ?_
  refine lv_iload_n hx hb (dg ddX3_sendHomeFrom 1 rfl) rfl (lv_at hl 1 rfl) ?_
  obtain ⟨r2, e1, hf⟩ := ob_some hf
  refine cro_vi CX hml (As := [.int a1]) (rest := []) (c_X3_playerOn l D cy q v_hour v_crowd v_buskers v_answered v_draws v_lim v_cmp v_sof v_kin v_lou v_pit v_pla v_cas v_hrs v_nws v_hat v_wea v_row a1 e1) lk_RX3_102 rfl rfl hRMX3_playerOn hP hK hN 0 rfl rfl rfl hl.1 rfl (Nat.le_of_ble_eq_true rfl) ⟨Nat.le_of_ble_eq_true rfl, Nat.le_of_ble_eq_true rfl⟩ (dg ddX3_sendHomeFrom 2 rfl) ?_
  refine lv_istore_n (lv' := [(2, .int r2), (0, .ref (q 0)), (1, .int a1)]) hx hb (dg ddX3_sendHomeFrom 3 rfl) rfl hl (by decide) rfl (fun ls hl => ?_)
  refine lv_iload_n hx hb (dg ddX3_sendHomeFrom 4 rfl) rfl (lv_at hl 0 rfl) ?_
  refine lv_iconst (v := (-1)) hx hb (dg ddX3_sendHomeFrom 5 rfl) (by decide) ?_
  refine lv_icmp_eq (tgt := 18) hx hb (dg ddX3_sendHomeFrom 6 rfl) (by decide) (fun h3 => ?_) (fun h3 => ?_)
  · have hf := it_t h3 hf
    refine lv_iload_n hx hb (dg ddX3_sendHomeFrom 12 rfl) rfl (lv_at hl 0 rfl) ?_
    cases hf
    exact e_wi CX hr hlk rfl hP hD hS (dg ddX3_sendHomeFrom 13 rfl)
  · have hf := it_f h3 hf
    refine lv_aload_n hx hb (dg ddX3_sendHomeFrom 7 rfl) rfl (lv_at hl 1 rfl) ?_
    refine gf_RX3_44 CX hK hP 0 rfl rfl (dg ddX3_sendHomeFrom 8 rfl) ?_
    refine lv_iload_n hx hb (dg ddX3_sendHomeFrom 9 rfl) rfl (lv_at hl 0 rfl) ?_
    refine lv_iconst (v := (-1)) hx hb (dg ddX3_sendHomeFrom 10 rfl) (by decide) ?_
    obtain ⟨h4, hf⟩ := og_some hf
    refine va_iast hx hb hK hP hD hS 6 0 rfl rfl (inb_in h4) (dg ddX3_sendHomeFrom 11 rfl) (fun H locs hP hD hS => ?_)
    have hP : va_P D vwCl (wX3 q cy v_hour v_crowd v_buskers v_answered v_draws v_lim v_cmp v_sof v_kin v_lou (upd v_pit r2.toNatClampNeg (-1)) v_pla v_cas v_hrs v_nws v_hat v_wea v_row) H := hP
    have hD : va_D A (wX3 q cy v_hour v_crowd v_buskers v_answered v_draws v_lim v_cmp v_sof v_kin v_lou (upd v_pit r2.toNatClampNeg (-1)) v_pla v_cas v_hrs v_nws v_hat v_wea v_row) := hD
    refine lv_iload_n hx hb (dg ddX3_sendHomeFrom 12 rfl) rfl (lv_at hl 0 rfl) ?_
    cases hf
    exact e_wi CX hr hlk rfl hP hD hS (dg ddX3_sendHomeFrom 13 rfl)
def f_X3_exchange (v_pit : Nat → Int32) (a1 : Int32) (a2 : Int32) : Option (Int32 × (Nat → Int32)) := ob (f_X3_playerOn v_pit a1) fun r2 => (ob (f_X3_playerOn v_pit a2) fun r4 => (if r2 = (-1) then (some (r4, v_pit)) else (if r4 = (-1) then (some (r4, v_pit)) else (og (inb r2 8) (og (inb r4 8) (some (r4, (upd (upd v_pit r2.toNatClampNeg a2) r4.toNatClampNeg a1))))))))
set_option maxHeartbeats 4000000 in
set_option maxRecDepth 100000 in
theorem c_X3_exchange (l : Launch) (D : va_G) (cy : Nat → ClassId) (q : Nat → Nat) (v_hour : Int32) (v_crowd : Int32) (v_buskers : Int32) (v_answered : Int32) (v_draws : Int32) (v_lim : Nat → UInt32) (v_cmp : Nat → Int32) (v_sof : Nat → Int32) (v_kin : Nat → Int32) (v_lou : Nat → Int32) (v_pit : Nat → Int32) (v_pla : Nat → Int32) (v_cas : Nat → Int32) (v_hrs : Nat → Int32) (v_nws : Nat → Int32) (v_hat : Nat → UInt32) (v_wea : Nat → UInt32) (v_row : Nat → UInt32) (a1 : Int32) (a2 : Int32) (sz : Nat) {res : Int32 × (Nat → Int32)} (hf : f_X3_exchange v_pit a1 a2 = some res) : Met l yX3_exchange (.code yX3_exchange cX3_exchange 5 (some .int) :: lw_all) { frames := 3, cells := 0, slots := 0, locals := 54 } (va_Pc [.ref (q 0), .int a1, .int a2] (sW D cy (wX3 q cy v_hour v_crowd v_buskers v_answered v_draws v_lim v_cmp v_sof v_kin v_lou v_pit v_pla v_cas v_hrs v_nws v_hat v_wea v_row) sz)) (qI D (wX3 q cy v_hour v_crowd v_buskers v_answered v_draws v_lim v_cmp v_sof v_kin v_lou res.2 v_pla v_cas v_hrs v_nws v_hat v_wea v_row) res.1 (va_A (wX3 q cy v_hour v_crowd v_buskers v_answered v_draws v_lim v_cmp v_sof v_kin v_lou v_pit v_pla v_cas v_hrs v_nws v_hat v_wea v_row) sz)) 0 0 (va_A (wX3 q cy v_hour v_crowd v_buskers v_answered v_draws v_lim v_cmp v_sof v_kin v_lou v_pit v_pla v_cas v_hrs v_nws v_hat v_wea v_row) sz) := by
  refine mk_rw (Qc := qI D (wX3 q cy v_hour v_crowd v_buskers v_answered v_draws v_lim v_cmp v_sof v_kin v_lou res.2 v_pla v_cas v_hrs v_nws v_hat v_wea v_row) res.1) (Rc := RX3) (by decide +kernel) rfl (Nat.le_of_ble_eq_true rfl) ?_
  intro p e s m args below meth c ls A CX hml hr hlk hK hN hP hD hS hA hl
  have hx := CX.1
  have hb := CX.2.1
  have hRMX3_playerOn : (⟨2, 0, 0, 32⟩ : Room).frames + 1 ≤ (⟨3, 0, 0, 54⟩ : Room).frames ∧ 8 + (3 + 11) + (⟨2, 0, 0, 32⟩ : Room).locals ≤ (⟨3, 0, 0, 54⟩ : Room).locals := ⟨Nat.le_of_ble_eq_true rfl, Nat.le_of_ble_eq_true rfl⟩
  refine lv_aload_n hx hb (dg ddX3_exchange 0 rfl) rfl (lv_at hl 0 rfl) ?_
  refine lv_iload_n hx hb (dg ddX3_exchange 1 rfl) rfl (lv_at hl 1 rfl) ?_
  obtain ⟨r2, e1, hf⟩ := ob_some hf
  refine cro_vi CX hml (As := [.int a1]) (rest := []) (c_X3_playerOn l D cy q v_hour v_crowd v_buskers v_answered v_draws v_lim v_cmp v_sof v_kin v_lou v_pit v_pla v_cas v_hrs v_nws v_hat v_wea v_row a1 e1) lk_RX3_102 rfl rfl hRMX3_playerOn hP hK hN 0 rfl rfl rfl hl.1 rfl (Nat.le_of_ble_eq_true rfl) ⟨Nat.le_of_ble_eq_true rfl, Nat.le_of_ble_eq_true rfl⟩ (dg ddX3_exchange 2 rfl) ?_
  refine lv_istore_n (lv' := [(3, .int r2), (0, .ref (q 0)), (1, .int a1), (2, .int a2)]) hx hb (dg ddX3_exchange 3 rfl) rfl hl (by decide) rfl (fun ls hl => ?_)
  refine lv_aload_n hx hb (dg ddX3_exchange 4 rfl) rfl (lv_at hl 1 rfl) ?_
  refine lv_iload_n hx hb (dg ddX3_exchange 5 rfl) rfl (lv_at hl 3 rfl) ?_
  obtain ⟨r4, e3, hf⟩ := ob_some hf
  refine cro_vi CX hml (As := [.int a2]) (rest := []) (c_X3_playerOn l D cy q v_hour v_crowd v_buskers v_answered v_draws v_lim v_cmp v_sof v_kin v_lou v_pit v_pla v_cas v_hrs v_nws v_hat v_wea v_row a2 e3) lk_RX3_102 rfl rfl hRMX3_playerOn hP hK hN 0 rfl rfl rfl hl.1 rfl (Nat.le_of_ble_eq_true rfl) ⟨Nat.le_of_ble_eq_true rfl, Nat.le_of_ble_eq_true rfl⟩ (dg ddX3_exchange 6 rfl) ?_
  refine lv_istore (lv' := [(4, .int r4), (3, .int r2), (0, .ref (q 0)), (1, .int a1), (2, .int a2)]) hx hb (dg ddX3_exchange 7 rfl) hl (by decide) rfl (fun ls hl => ?_)
  refine lv_iload_n hx hb (dg ddX3_exchange 8 rfl) rfl (lv_at hl 1 rfl) ?_
  refine lv_iconst (v := (-1)) hx hb (dg ddX3_exchange 9 rfl) (by decide) ?_
  refine lv_icmp_eq (tgt := 39) hx hb (dg ddX3_exchange 10 rfl) (by decide) (fun h5 => ?_) (fun h5 => ?_)
  · have hf := it_t h5 hf
    refine lv_iload hx hb (dg ddX3_exchange 24 rfl) (lv_at hl 0 rfl) ?_
    cases hf
    exact e_wi CX hr hlk rfl hP hD hS (dg ddX3_exchange 25 rfl)
  · have hf := it_f h5 hf
    refine lv_iload hx hb (dg ddX3_exchange 11 rfl) (lv_at hl 0 rfl) ?_
    refine lv_iconst (v := (-1)) hx hb (dg ddX3_exchange 12 rfl) (by decide) ?_
    refine lv_icmp_eq (tgt := 39) hx hb (dg ddX3_exchange 13 rfl) (by decide) (fun h6 => ?_) (fun h6 => ?_)
    · have hf := it_t h6 hf
      refine lv_iload hx hb (dg ddX3_exchange 24 rfl) (lv_at hl 0 rfl) ?_
      cases hf
      exact e_wi CX hr hlk rfl hP hD hS (dg ddX3_exchange 25 rfl)
    · have hf := it_f h6 hf
      refine lv_aload_n hx hb (dg ddX3_exchange 14 rfl) rfl (lv_at hl 2 rfl) ?_
      refine gf_RX3_44 CX hK hP 0 rfl rfl (dg ddX3_exchange 15 rfl) ?_
      refine lv_iload_n hx hb (dg ddX3_exchange 16 rfl) rfl (lv_at hl 1 rfl) ?_
      refine lv_iload_n hx hb (dg ddX3_exchange 17 rfl) rfl (lv_at hl 4 rfl) ?_
      obtain ⟨h7, hf⟩ := og_some hf
      refine va_iast hx hb hK hP hD hS 6 0 rfl rfl (inb_in h7) (dg ddX3_exchange 18 rfl) (fun H locs hP hD hS => ?_)
      have hP : va_P D vwCl (wX3 q cy v_hour v_crowd v_buskers v_answered v_draws v_lim v_cmp v_sof v_kin v_lou (upd v_pit r2.toNatClampNeg a2) v_pla v_cas v_hrs v_nws v_hat v_wea v_row) H := hP
      have hD : va_D A (wX3 q cy v_hour v_crowd v_buskers v_answered v_draws v_lim v_cmp v_sof v_kin v_lou (upd v_pit r2.toNatClampNeg a2) v_pla v_cas v_hrs v_nws v_hat v_wea v_row) := hD
      refine lv_aload_n hx hb (dg ddX3_exchange 19 rfl) rfl (lv_at hl 2 rfl) ?_
      refine gf_RX3_44 CX hK hP 0 rfl rfl (dg ddX3_exchange 20 rfl) ?_
      refine lv_iload hx hb (dg ddX3_exchange 21 rfl) (lv_at hl 0 rfl) ?_
      refine lv_iload_n hx hb (dg ddX3_exchange 22 rfl) rfl (lv_at hl 3 rfl) ?_
      obtain ⟨h8, hf⟩ := og_some hf
      refine va_iast hx hb hK hP hD hS 6 0 rfl rfl (inb_in h8) (dg ddX3_exchange 23 rfl) (fun H locs hP hD hS => ?_)
      have hP : va_P D vwCl (wX3 q cy v_hour v_crowd v_buskers v_answered v_draws v_lim v_cmp v_sof v_kin v_lou (upd (upd v_pit r2.toNatClampNeg a2) r4.toNatClampNeg a1) v_pla v_cas v_hrs v_nws v_hat v_wea v_row) H := hP
      have hD : va_D A (wX3 q cy v_hour v_crowd v_buskers v_answered v_draws v_lim v_cmp v_sof v_kin v_lou (upd (upd v_pit r2.toNatClampNeg a2) r4.toNatClampNeg a1) v_pla v_cas v_hrs v_nws v_hat v_wea v_row) := hD
      refine lv_iload hx hb (dg ddX3_exchange 24 rfl) (lv_at hl 0 rfl) ?_
      cases hf
      exact e_wi CX hr hlk rfl hP hD hS (dg ddX3_exchange 25 rfl)
def f_X3_buyStrings (v_nws : Nat → Int32) (v_hat : Nat → UInt32) (v_wea : Nat → UInt32) (a1 : Int32) : Option ((Nat → Int32) × (Nat → UInt32) × (Nat → UInt32)) := og (inb a1 8) (og (n32 (FP.fsub (v_hat a1.toNatClampNeg) FP.fconst2)) (og (inb a1 8) (og (inb a1 8) (og (inb a1 8) (og (inb a1 8) (some ((upd v_nws a1.toNatClampNeg ((v_nws a1.toNatClampNeg) + 1)), (vf_upd v_hat a1.toNatClampNeg (FP.fsub (v_hat a1.toNatClampNeg) FP.fconst2)), (vf_upd v_wea a1.toNatClampNeg FP.fconst0))))))))
set_option maxHeartbeats 4000000 in
set_option maxRecDepth 100000 in
theorem c_X3_buyStrings (l : Launch) (D : va_G) (cy : Nat → ClassId) (q : Nat → Nat) (v_hour : Int32) (v_crowd : Int32) (v_buskers : Int32) (v_answered : Int32) (v_draws : Int32) (v_lim : Nat → UInt32) (v_cmp : Nat → Int32) (v_sof : Nat → Int32) (v_kin : Nat → Int32) (v_lou : Nat → Int32) (v_pit : Nat → Int32) (v_pla : Nat → Int32) (v_cas : Nat → Int32) (v_hrs : Nat → Int32) (v_nws : Nat → Int32) (v_hat : Nat → UInt32) (v_wea : Nat → UInt32) (v_row : Nat → UInt32) (a1 : Int32) (sz : Nat) {res : (Nat → Int32) × (Nat → UInt32) × (Nat → UInt32)} (hf : f_X3_buyStrings v_nws v_hat v_wea a1 = some res) : Met l yX3_buyStrings (.code yX3_buyStrings cX3_buyStrings 2 none :: lw_all) { frames := 1, cells := 0, slots := 0, locals := 12 } (va_Pc [.ref (q 0), .int a1] (sW D cy (wX3 q cy v_hour v_crowd v_buskers v_answered v_draws v_lim v_cmp v_sof v_kin v_lou v_pit v_pla v_cas v_hrs v_nws v_hat v_wea v_row) sz)) (qV D (wX3 q cy v_hour v_crowd v_buskers v_answered v_draws v_lim v_cmp v_sof v_kin v_lou v_pit v_pla v_cas v_hrs res.1 res.2.1 res.2.2 v_row) (va_A (wX3 q cy v_hour v_crowd v_buskers v_answered v_draws v_lim v_cmp v_sof v_kin v_lou v_pit v_pla v_cas v_hrs v_nws v_hat v_wea v_row) sz)) 0 0 (va_A (wX3 q cy v_hour v_crowd v_buskers v_answered v_draws v_lim v_cmp v_sof v_kin v_lou v_pit v_pla v_cas v_hrs v_nws v_hat v_wea v_row) sz) := by
  refine mk_rw (Qc := qV D (wX3 q cy v_hour v_crowd v_buskers v_answered v_draws v_lim v_cmp v_sof v_kin v_lou v_pit v_pla v_cas v_hrs res.1 res.2.1 res.2.2 v_row) ) (Rc := RX3) (by decide +kernel) rfl (Nat.le_of_ble_eq_true rfl) ?_
  intro p e s m args below meth c ls A CX hml hr hlk hK hN hP hD hS hA hl
  have hx := CX.1
  have hb := CX.2.1
  refine lv_aload_n hx hb (dg ddX3_buyStrings 0 rfl) rfl (lv_at hl 0 rfl) ?_
  refine gf_RX3_59 CX hK hP 0 rfl rfl (dg ddX3_buyStrings 1 rfl) ?_
  refine lv_iload_n hx hb (dg ddX3_buyStrings 2 rfl) rfl (lv_at hl 1 rfl) ?_
  refine lv_aload_n hx hb (dg ddX3_buyStrings 3 rfl) rfl (lv_at hl 0 rfl) ?_
  refine gf_RX3_59 CX hK hP 0 rfl rfl (dg ddX3_buyStrings 4 rfl) ?_
  refine lv_iload_n hx hb (dg ddX3_buyStrings 5 rfl) rfl (lv_at hl 1 rfl) ?_
  obtain ⟨h1, hf⟩ := og_some hf
  refine va_fald hx hb hK hP 11 1 rfl rfl (inb_in h1) (dg ddX3_buyStrings 6 rfl) ?_
  refine lv_fconst2 hx hb (dg ddX3_buyStrings 7 rfl) ?_
  obtain ⟨h2, hf⟩ := og_some hf
  refine lv_fsub hx hb (dg ddX3_buyStrings 8 rfl) (n32_in h2) ?_
  obtain ⟨h3, hf⟩ := og_some hf
  refine va_fast hx hb hK hP hD hS 11 1 rfl rfl (inb_in h3) (dg ddX3_buyStrings 9 rfl) (fun H locs hP hD hS => ?_)
  have hP : va_P D vwCl (wX3 q cy v_hour v_crowd v_buskers v_answered v_draws v_lim v_cmp v_sof v_kin v_lou v_pit v_pla v_cas v_hrs v_nws (vf_upd v_hat a1.toNatClampNeg (FP.fsub (v_hat a1.toNatClampNeg) FP.fconst2)) v_wea v_row) H := hP
  have hD : va_D A (wX3 q cy v_hour v_crowd v_buskers v_answered v_draws v_lim v_cmp v_sof v_kin v_lou v_pit v_pla v_cas v_hrs v_nws (vf_upd v_hat a1.toNatClampNeg (FP.fsub (v_hat a1.toNatClampNeg) FP.fconst2)) v_wea v_row) := hD
  refine lv_aload_n hx hb (dg ddX3_buyStrings 10 rfl) rfl (lv_at hl 0 rfl) ?_
  refine gf_RX3_62 CX hK hP 0 rfl rfl (dg ddX3_buyStrings 11 rfl) ?_
  refine lv_iload_n hx hb (dg ddX3_buyStrings 12 rfl) rfl (lv_at hl 1 rfl) ?_
  refine lv_fconst0 hx hb (dg ddX3_buyStrings 13 rfl) ?_
  obtain ⟨h4, hf⟩ := og_some hf
  refine va_fast hx hb hK hP hD hS 12 1 rfl rfl (inb_in h4) (dg ddX3_buyStrings 14 rfl) (fun H locs hP hD hS => ?_)
  have hP : va_P D vwCl (wX3 q cy v_hour v_crowd v_buskers v_answered v_draws v_lim v_cmp v_sof v_kin v_lou v_pit v_pla v_cas v_hrs v_nws (vf_upd v_hat a1.toNatClampNeg (FP.fsub (v_hat a1.toNatClampNeg) FP.fconst2)) (vf_upd v_wea a1.toNatClampNeg FP.fconst0) v_row) H := hP
  have hD : va_D A (wX3 q cy v_hour v_crowd v_buskers v_answered v_draws v_lim v_cmp v_sof v_kin v_lou v_pit v_pla v_cas v_hrs v_nws (vf_upd v_hat a1.toNatClampNeg (FP.fsub (v_hat a1.toNatClampNeg) FP.fconst2)) (vf_upd v_wea a1.toNatClampNeg FP.fconst0) v_row) := hD
  refine lv_aload_n hx hb (dg ddX3_buyStrings 15 rfl) rfl (lv_at hl 0 rfl) ?_
  refine gf_RX3_56 CX hK hP 0 rfl rfl (dg ddX3_buyStrings 16 rfl) ?_
  refine lv_iload_n hx hb (dg ddX3_buyStrings 17 rfl) rfl (lv_at hl 1 rfl) ?_
  refine lv_dup2_11 hx hb (dg ddX3_buyStrings 18 rfl) rfl rfl ?_
  obtain ⟨h5, hf⟩ := og_some hf
  refine va_iald hx hb hK hP 10 0 rfl rfl (inb_in h5) (dg ddX3_buyStrings 19 rfl) ?_
  refine lv_iconst (v := 1) hx hb (dg ddX3_buyStrings 20 rfl) (by decide) ?_
  refine lv_iadd hx hb (dg ddX3_buyStrings 21 rfl) ?_
  obtain ⟨h6, hf⟩ := og_some hf
  refine va_iast hx hb hK hP hD hS 10 0 rfl rfl (inb_in h6) (dg ddX3_buyStrings 22 rfl) (fun H locs hP hD hS => ?_)
  have hP : va_P D vwCl (wX3 q cy v_hour v_crowd v_buskers v_answered v_draws v_lim v_cmp v_sof v_kin v_lou v_pit v_pla v_cas v_hrs (upd v_nws a1.toNatClampNeg ((v_nws a1.toNatClampNeg) + 1)) (vf_upd v_hat a1.toNatClampNeg (FP.fsub (v_hat a1.toNatClampNeg) FP.fconst2)) (vf_upd v_wea a1.toNatClampNeg FP.fconst0) v_row) H := hP
  have hD : va_D A (wX3 q cy v_hour v_crowd v_buskers v_answered v_draws v_lim v_cmp v_sof v_kin v_lou v_pit v_pla v_cas v_hrs (upd v_nws a1.toNatClampNeg ((v_nws a1.toNatClampNeg) + 1)) (vf_upd v_hat a1.toNatClampNeg (FP.fsub (v_hat a1.toNatClampNeg) FP.fconst2)) (vf_upd v_wea a1.toNatClampNeg FP.fconst0) v_row) := hD
  cases hf
  exact e_wv CX hr hlk hP hD hS (dg ddX3_buyStrings 23 rfl)
def f_X3_answerComplaints (v_answered : Int32) (v_cmp : Nat → Int32) (a1 : Int32) : Option (Int32 × Int32 × (Nat → Int32)) := og (inb a1 8) (og (inb a1 8) (some ((v_cmp a1.toNatClampNeg), (v_answered + (v_cmp a1.toNatClampNeg)), (upd v_cmp a1.toNatClampNeg 0))))
set_option maxHeartbeats 4000000 in
set_option maxRecDepth 100000 in
theorem c_X3_answerComplaints (l : Launch) (D : va_G) (cy : Nat → ClassId) (q : Nat → Nat) (v_hour : Int32) (v_crowd : Int32) (v_buskers : Int32) (v_answered : Int32) (v_draws : Int32) (v_lim : Nat → UInt32) (v_cmp : Nat → Int32) (v_sof : Nat → Int32) (v_kin : Nat → Int32) (v_lou : Nat → Int32) (v_pit : Nat → Int32) (v_pla : Nat → Int32) (v_cas : Nat → Int32) (v_hrs : Nat → Int32) (v_nws : Nat → Int32) (v_hat : Nat → UInt32) (v_wea : Nat → UInt32) (v_row : Nat → UInt32) (a1 : Int32) (sz : Nat) {res : Int32 × Int32 × (Nat → Int32)} (hf : f_X3_answerComplaints v_answered v_cmp a1 = some res) : Met l yX3_answerComplaints (.code yX3_answerComplaints cX3_answerComplaints 3 (some .int) :: lw_all) { frames := 1, cells := 0, slots := 0, locals := 12 } (va_Pc [.ref (q 0), .int a1] (sW D cy (wX3 q cy v_hour v_crowd v_buskers v_answered v_draws v_lim v_cmp v_sof v_kin v_lou v_pit v_pla v_cas v_hrs v_nws v_hat v_wea v_row) sz)) (qI D (wX3 q cy v_hour v_crowd v_buskers res.2.1 v_draws v_lim res.2.2 v_sof v_kin v_lou v_pit v_pla v_cas v_hrs v_nws v_hat v_wea v_row) res.1 (va_A (wX3 q cy v_hour v_crowd v_buskers v_answered v_draws v_lim v_cmp v_sof v_kin v_lou v_pit v_pla v_cas v_hrs v_nws v_hat v_wea v_row) sz)) 0 0 (va_A (wX3 q cy v_hour v_crowd v_buskers v_answered v_draws v_lim v_cmp v_sof v_kin v_lou v_pit v_pla v_cas v_hrs v_nws v_hat v_wea v_row) sz) := by
  refine mk_rw (Qc := qI D (wX3 q cy v_hour v_crowd v_buskers res.2.1 v_draws v_lim res.2.2 v_sof v_kin v_lou v_pit v_pla v_cas v_hrs v_nws v_hat v_wea v_row) res.1) (Rc := RX3) (by decide +kernel) rfl (Nat.le_of_ble_eq_true rfl) ?_
  intro p e s m args below meth c ls A CX hml hr hlk hK hN hP hD hS hA hl
  have hx := CX.1
  have hb := CX.2.1
  refine lv_aload_n hx hb (dg ddX3_answerComplaints 0 rfl) rfl (lv_at hl 0 rfl) ?_
  refine gf_RX3_31 CX hK hP 0 rfl rfl (dg ddX3_answerComplaints 1 rfl) ?_
  refine lv_iload_n hx hb (dg ddX3_answerComplaints 2 rfl) rfl (lv_at hl 1 rfl) ?_
  obtain ⟨h1, hf⟩ := og_some hf
  refine va_iald hx hb hK hP 2 0 rfl rfl (inb_in h1) (dg ddX3_answerComplaints 3 rfl) ?_
  refine lv_istore_n (lv' := [(2, .int (v_cmp a1.toNatClampNeg)), (0, .ref (q 0)), (1, .int a1)]) hx hb (dg ddX3_answerComplaints 4 rfl) rfl hl (by decide) rfl (fun ls hl => ?_)
  refine lv_aload_n hx hb (dg ddX3_answerComplaints 5 rfl) rfl (lv_at hl 1 rfl) ?_
  refine lv_dup hx hb (dg ddX3_answerComplaints 6 rfl) rfl ?_
  refine gf_RX3_21 CX hK hP 0 rfl rfl (dg ddX3_answerComplaints 7 rfl) ?_
  refine lv_iload_n hx hb (dg ddX3_answerComplaints 8 rfl) rfl (lv_at hl 0 rfl) ?_
  refine lv_iadd hx hb (dg ddX3_answerComplaints 9 rfl) ?_
  refine pf_RX3_21 CX hK hP hD hS 0 rfl (dg ddX3_answerComplaints 10 rfl) (Nat.le_of_ble_eq_true rfl) (fun H locs hP hD hS => ?_)
  have hP : va_P D vwCl (wX3 q cy v_hour v_crowd v_buskers (v_answered + (v_cmp a1.toNatClampNeg)) v_draws v_lim v_cmp v_sof v_kin v_lou v_pit v_pla v_cas v_hrs v_nws v_hat v_wea v_row) H := hP
  have hD : va_D A (wX3 q cy v_hour v_crowd v_buskers (v_answered + (v_cmp a1.toNatClampNeg)) v_draws v_lim v_cmp v_sof v_kin v_lou v_pit v_pla v_cas v_hrs v_nws v_hat v_wea v_row) := hD
  refine lv_aload_n hx hb (dg ddX3_answerComplaints 11 rfl) rfl (lv_at hl 1 rfl) ?_
  refine gf_RX3_31 CX hK hP 0 rfl rfl (dg ddX3_answerComplaints 12 rfl) ?_
  refine lv_iload_n hx hb (dg ddX3_answerComplaints 13 rfl) rfl (lv_at hl 2 rfl) ?_
  refine lv_iconst (v := 0) hx hb (dg ddX3_answerComplaints 14 rfl) (by decide) ?_
  obtain ⟨h2, hf⟩ := og_some hf
  refine va_iast hx hb hK hP hD hS 2 0 rfl rfl (inb_in h2) (dg ddX3_answerComplaints 15 rfl) (fun H locs hP hD hS => ?_)
  have hP : va_P D vwCl (wX3 q cy v_hour v_crowd v_buskers (v_answered + (v_cmp a1.toNatClampNeg)) v_draws v_lim (upd v_cmp a1.toNatClampNeg 0) v_sof v_kin v_lou v_pit v_pla v_cas v_hrs v_nws v_hat v_wea v_row) H := hP
  have hD : va_D A (wX3 q cy v_hour v_crowd v_buskers (v_answered + (v_cmp a1.toNatClampNeg)) v_draws v_lim (upd v_cmp a1.toNatClampNeg 0) v_sof v_kin v_lou v_pit v_pla v_cas v_hrs v_nws v_hat v_wea v_row) := hD
  refine lv_iload_n hx hb (dg ddX3_answerComplaints 16 rfl) rfl (lv_at hl 0 rfl) ?_
  cases hf
  exact e_wi CX hr hlk rfl hP hD hS (dg ddX3_answerComplaints 17 rfl)
def f_X3_freePlaceOn_c2  (v_kin : Nat → Int32) (v_cas : Nat → Int32) (a1 : Int32) : Nat → Int32 → Option (Int32)
  | 0, _ => none
  | n + 1, x2 => if 3 ≤ x2 then (some (-1)) else (ob (f_X3_caseAt v_kin v_cas a1 x2) fun r3 => (if r3 = (-1) then (some x2) else (f_X3_freePlaceOn_c2 v_kin v_cas a1 n (x2 + 1))))
def f_X3_freePlaceOn (v_kin : Nat → Int32) (v_cas : Nat → Int32) (a1 : Int32) : Option (Int32) := f_X3_freePlaceOn_c2 v_kin v_cas a1 4096 0
set_option maxHeartbeats 4000000 in
set_option maxRecDepth 100000 in
theorem c_X3_freePlaceOn (l : Launch) (D : va_G) (cy : Nat → ClassId) (q : Nat → Nat) (v_hour : Int32) (v_crowd : Int32) (v_buskers : Int32) (v_answered : Int32) (v_draws : Int32) (v_lim : Nat → UInt32) (v_cmp : Nat → Int32) (v_sof : Nat → Int32) (v_kin : Nat → Int32) (v_lou : Nat → Int32) (v_pit : Nat → Int32) (v_pla : Nat → Int32) (v_cas : Nat → Int32) (v_hrs : Nat → Int32) (v_nws : Nat → Int32) (v_hat : Nat → UInt32) (v_wea : Nat → UInt32) (v_row : Nat → UInt32) (a1 : Int32) {res : Int32} (hf : f_X3_freePlaceOn v_kin v_cas a1 = some res) : Met l yX3_freePlaceOn (.code yX3_freePlaceOn cX3_freePlaceOn 3 (some .int) :: lw_all) { frames := 2, cells := 0, slots := 0, locals := 35 } (va_Pc [.ref (q 0), .int a1] (sR D cy (wX3 q cy v_hour v_crowd v_buskers v_answered v_draws v_lim v_cmp v_sof v_kin v_lou v_pit v_pla v_cas v_hrs v_nws v_hat v_wea v_row))) (vp_Si (fun r => r = res)) 0 0 (fun _ => False) := by
  refine mk_ro (Rc := RX3) (by decide +kernel) rfl (Nat.le_of_ble_eq_true rfl) ?_
  intro p e s m args below meth c ls CX hml hr hlk hK hN hP hl
  have hx := CX.1
  have hb := CX.2.1
  have hRMX3_caseAt : (⟨1, 0, 0, 12⟩ : Room).frames + 1 ≤ (⟨2, 0, 0, 35⟩ : Room).frames ∧ 8 + (4 + 11) + (⟨1, 0, 0, 12⟩ : Room).locals ≤ (⟨2, 0, 0, 35⟩ : Room).locals := ⟨Nat.le_of_ble_eq_true rfl, Nat.le_of_ble_eq_true rfl⟩
  have hl0 := hl
  have K2 : ∀ (n : Nat), ∀ (x2 : Int32) (ls : Array Slot) (hl : lv_has ls 3 [(0, .ref (q 0)), (1, .int a1), (2, .int x2)]) (hf : f_X3_freePlaceOn_c2 v_kin v_cas a1 n x2 = some res), W p l e ⟨2, 0, 0, 35⟩ s m args below meth c s.heap [] 0 0 (MQ below (vp_Si (fun r => r = res)) args s 0 0 (fun _ => False)) (F0 m 2 ls []) := by
    intro n
    induction n with
    | zero => intro x2 ls hl hf; cases (show none = some res from hf)
    | succ n ih =>
    intro x2 ls hl hf
    refine lv_iload_n hx hb (dg ddX3_freePlaceOn 2 rfl) rfl (lv_at hl 2 rfl) ?_
    refine lv_iconst (v := 3) hx hb (dg ddX3_freePlaceOn 3 rfl) (by decide) ?_
    refine lv_icmp_ge (tgt := 25) hx hb (dg ddX3_freePlaceOn 4 rfl) (by decide) (fun h1 => ?_) (fun h1 => ?_)
    · have hf := it_t h1 hf
      refine lv_iconst (v := (-1)) hx hb (dg ddX3_freePlaceOn 15 rfl) (by decide) ?_
      exact e_ri CX hr hlk (Option.some.inj hf) (dg ddX3_freePlaceOn 16 rfl)
    · have hf := it_f h1 hf
      refine lv_aload_n hx hb (dg ddX3_freePlaceOn 5 rfl) rfl (lv_at hl 0 rfl) ?_
      refine lv_iload_n hx hb (dg ddX3_freePlaceOn 6 rfl) rfl (lv_at hl 1 rfl) ?_
      refine lv_iload_n hx hb (dg ddX3_freePlaceOn 7 rfl) rfl (lv_at hl 2 rfl) ?_
      obtain ⟨r3, e2, hf⟩ := ob_some hf
      refine cro_vi CX hml (As := [.int a1, .int x2]) (rest := []) (c_X3_caseAt l D cy q v_hour v_crowd v_buskers v_answered v_draws v_lim v_cmp v_sof v_kin v_lou v_pit v_pla v_cas v_hrs v_nws v_hat v_wea v_row a1 x2 e2) lk_RX3_105 rfl rfl hRMX3_caseAt hP hK hN 0 rfl rfl rfl hl.1 rfl (Nat.le_of_ble_eq_true rfl) ⟨Nat.le_of_ble_eq_true rfl, Nat.le_of_ble_eq_true rfl⟩ (dg ddX3_freePlaceOn 8 rfl) ?_
      refine lv_iconst (v := (-1)) hx hb (dg ddX3_freePlaceOn 9 rfl) (by decide) ?_
      refine lv_icmp_ne (tgt := 19) hx hb (dg ddX3_freePlaceOn 10 rfl) (by decide) (fun h4 => ?_) (fun h4 => ?_)
      · have hf := it_f h4 hf
        refine lv_iinc (v := x2 + 1) (lv' := [(2, .int (x2 + 1)), (0, .ref (q 0)), (1, .int a1)]) hx hb (dg ddX3_freePlaceOn 13 rfl) hl (k := 2) rfl (congrArg (HAdd.hAdd x2) (by decide)) (by decide) rfl (fun ls hl => ?_)
        refine lv_goto (tgt := 2) hx hb (dg ddX3_freePlaceOn 14 rfl) (by decide) ?_
        exact ih (x2 + 1) _ (lv_sub hl [1, 2, 0] rfl) hf
      · have hf := it_t h4 hf
        refine lv_iload_n hx hb (dg ddX3_freePlaceOn 11 rfl) rfl (lv_at hl 2 rfl) ?_
        exact e_ri CX hr hlk (Option.some.inj hf) (dg ddX3_freePlaceOn 12 rfl)
  refine lv_iconst (v := 0) hx hb (dg ddX3_freePlaceOn 0 rfl) (by decide) ?_
  refine lv_istore_n (lv' := [(2, .int 0), (0, .ref (q 0)), (1, .int a1)]) hx hb (dg ddX3_freePlaceOn 1 rfl) rfl hl (by decide) rfl (fun ls hl => ?_)
  exact K2 4096 0 _ (lv_sub hl [1, 2, 0] rfl) hf
def f_X3_putCase (v_kin : Nat → Int32) (v_cas : Nat → Int32) (a1 : Int32) : Option (Int32 × (Nat → Int32)) := og (inb a1 8) (ob (f_X3_freePlaceOn v_kin v_cas (v_kin a1.toNatClampNeg)) fun r3 => (og (inb a1 8) (og (inb a1 8) (some (((upd v_cas a1.toNatClampNeg r3) a1.toNatClampNeg), (upd v_cas a1.toNatClampNeg r3))))))
set_option maxHeartbeats 4000000 in
set_option maxRecDepth 100000 in
theorem c_X3_putCase (l : Launch) (D : va_G) (cy : Nat → ClassId) (q : Nat → Nat) (v_hour : Int32) (v_crowd : Int32) (v_buskers : Int32) (v_answered : Int32) (v_draws : Int32) (v_lim : Nat → UInt32) (v_cmp : Nat → Int32) (v_sof : Nat → Int32) (v_kin : Nat → Int32) (v_lou : Nat → Int32) (v_pit : Nat → Int32) (v_pla : Nat → Int32) (v_cas : Nat → Int32) (v_hrs : Nat → Int32) (v_nws : Nat → Int32) (v_hat : Nat → UInt32) (v_wea : Nat → UInt32) (v_row : Nat → UInt32) (a1 : Int32) (sz : Nat) {res : Int32 × (Nat → Int32)} (hf : f_X3_putCase v_kin v_cas a1 = some res) : Met l yX3_putCase (.code yX3_putCase cX3_putCase 2 (some .int) :: lw_all) { frames := 3, cells := 0, slots := 0, locals := 57 } (va_Pc [.ref (q 0), .int a1] (sW D cy (wX3 q cy v_hour v_crowd v_buskers v_answered v_draws v_lim v_cmp v_sof v_kin v_lou v_pit v_pla v_cas v_hrs v_nws v_hat v_wea v_row) sz)) (qI D (wX3 q cy v_hour v_crowd v_buskers v_answered v_draws v_lim v_cmp v_sof v_kin v_lou v_pit v_pla res.2 v_hrs v_nws v_hat v_wea v_row) res.1 (va_A (wX3 q cy v_hour v_crowd v_buskers v_answered v_draws v_lim v_cmp v_sof v_kin v_lou v_pit v_pla v_cas v_hrs v_nws v_hat v_wea v_row) sz)) 0 0 (va_A (wX3 q cy v_hour v_crowd v_buskers v_answered v_draws v_lim v_cmp v_sof v_kin v_lou v_pit v_pla v_cas v_hrs v_nws v_hat v_wea v_row) sz) := by
  refine mk_rw (Qc := qI D (wX3 q cy v_hour v_crowd v_buskers v_answered v_draws v_lim v_cmp v_sof v_kin v_lou v_pit v_pla res.2 v_hrs v_nws v_hat v_wea v_row) res.1) (Rc := RX3) (by decide +kernel) rfl (Nat.le_of_ble_eq_true rfl) ?_
  intro p e s m args below meth c ls A CX hml hr hlk hK hN hP hD hS hA hl
  have hx := CX.1
  have hb := CX.2.1
  have hRMX3_freePlaceOn : (⟨2, 0, 0, 35⟩ : Room).frames + 1 ≤ (⟨3, 0, 0, 57⟩ : Room).frames ∧ 8 + (3 + 11) + (⟨2, 0, 0, 35⟩ : Room).locals ≤ (⟨3, 0, 0, 57⟩ : Room).locals := ⟨Nat.le_of_ble_eq_true rfl, Nat.le_of_ble_eq_true rfl⟩
  refine lv_aload_n hx hb (dg ddX3_putCase 0 rfl) rfl (lv_at hl 0 rfl) ?_
  refine gf_RX3_50 CX hK hP 0 rfl rfl (dg ddX3_putCase 1 rfl) ?_
  refine lv_iload_n hx hb (dg ddX3_putCase 2 rfl) rfl (lv_at hl 1 rfl) ?_
  refine lv_aload_n hx hb (dg ddX3_putCase 3 rfl) rfl (lv_at hl 0 rfl) ?_
  refine lv_aload_n hx hb (dg ddX3_putCase 4 rfl) rfl (lv_at hl 0 rfl) ?_
  refine gf_RX3_38 CX hK hP 0 rfl rfl (dg ddX3_putCase 5 rfl) ?_
  refine lv_iload_n hx hb (dg ddX3_putCase 6 rfl) rfl (lv_at hl 1 rfl) ?_
  obtain ⟨h1, hf⟩ := og_some hf
  refine va_iald hx hb hK hP 4 0 rfl rfl (inb_in h1) (dg ddX3_putCase 7 rfl) ?_
  obtain ⟨r3, e2, hf⟩ := ob_some hf
  refine cro_vi CX hml (As := [.int (v_kin a1.toNatClampNeg)]) (rest := [.int a1, .ref (q 8)]) (c_X3_freePlaceOn l D cy q v_hour v_crowd v_buskers v_answered v_draws v_lim v_cmp v_sof v_kin v_lou v_pit v_pla v_cas v_hrs v_nws v_hat v_wea v_row (v_kin a1.toNatClampNeg) e2) lk_RX3_109 rfl rfl hRMX3_freePlaceOn hP hK hN 0 rfl rfl rfl hl.1 rfl (Nat.le_of_ble_eq_true rfl) ⟨Nat.le_of_ble_eq_true rfl, Nat.le_of_ble_eq_true rfl⟩ (dg ddX3_putCase 8 rfl) ?_
  obtain ⟨h4, hf⟩ := og_some hf
  refine va_iast hx hb hK hP hD hS 8 0 rfl rfl (inb_in h4) (dg ddX3_putCase 9 rfl) (fun H locs hP hD hS => ?_)
  have hP : va_P D vwCl (wX3 q cy v_hour v_crowd v_buskers v_answered v_draws v_lim v_cmp v_sof v_kin v_lou v_pit v_pla (upd v_cas a1.toNatClampNeg r3) v_hrs v_nws v_hat v_wea v_row) H := hP
  have hD : va_D A (wX3 q cy v_hour v_crowd v_buskers v_answered v_draws v_lim v_cmp v_sof v_kin v_lou v_pit v_pla (upd v_cas a1.toNatClampNeg r3) v_hrs v_nws v_hat v_wea v_row) := hD
  refine lv_aload_n hx hb (dg ddX3_putCase 10 rfl) rfl (lv_at hl 0 rfl) ?_
  refine gf_RX3_50 CX hK hP 0 rfl rfl (dg ddX3_putCase 11 rfl) ?_
  refine lv_iload_n hx hb (dg ddX3_putCase 12 rfl) rfl (lv_at hl 1 rfl) ?_
  obtain ⟨h5, hf⟩ := og_some hf
  refine va_iald hx hb hK hP 8 0 rfl rfl (inb_in h5) (dg ddX3_putCase 13 rfl) ?_
  cases hf
  exact e_wi CX hr hlk rfl hP hD hS (dg ddX3_putCase 14 rfl)
def f_X3_noiseOfBusker (v_kin : Nat → Int32) (v_lou : Nat → Int32) (a1 : Int32) : Option (UInt32) := og (inb a1 8) (og (n32 (FP.fmul 1082130432 (FP.i2f (v_lou a1.toNatClampNeg)))) (og (n32 (FP.fadd 1112014848 (FP.fmul 1082130432 (FP.i2f (v_lou a1.toNatClampNeg))))) (og (inb a1 8) (if (v_kin a1.toNatClampNeg) = 1 then (og (n32 (FP.fadd (FP.fadd 1112014848 (FP.fmul 1082130432 (FP.i2f (v_lou a1.toNatClampNeg)))) 1084227584)) (some (FP.fadd (FP.fadd 1112014848 (FP.fmul 1082130432 (FP.i2f (v_lou a1.toNatClampNeg)))) 1084227584))) else (some (FP.fadd 1112014848 (FP.fmul 1082130432 (FP.i2f (v_lou a1.toNatClampNeg)))))))))
set_option maxHeartbeats 4000000 in
set_option maxRecDepth 100000 in
theorem c_X3_noiseOfBusker (l : Launch) (D : va_G) (cy : Nat → ClassId) (q : Nat → Nat) (v_hour : Int32) (v_crowd : Int32) (v_buskers : Int32) (v_answered : Int32) (v_draws : Int32) (v_lim : Nat → UInt32) (v_cmp : Nat → Int32) (v_sof : Nat → Int32) (v_kin : Nat → Int32) (v_lou : Nat → Int32) (v_pit : Nat → Int32) (v_pla : Nat → Int32) (v_cas : Nat → Int32) (v_hrs : Nat → Int32) (v_nws : Nat → Int32) (v_hat : Nat → UInt32) (v_wea : Nat → UInt32) (v_row : Nat → UInt32) (a1 : Int32) {res : UInt32} (hf : f_X3_noiseOfBusker v_kin v_lou a1 = some res) : Met l yX3_noiseOfBusker (.code yX3_noiseOfBusker cX3_noiseOfBusker 3 (some .float) :: lw_all) { frames := 1, cells := 0, slots := 0, locals := 12 } (va_Pc [.ref (q 0), .int a1] (sR D cy (wX3 q cy v_hour v_crowd v_buskers v_answered v_draws v_lim v_cmp v_sof v_kin v_lou v_pit v_pla v_cas v_hrs v_nws v_hat v_wea v_row))) (vp_Sf (fun r => r = res)) 0 0 (fun _ => False) := by
  refine mk_ro (Rc := RX3) (by decide +kernel) rfl (Nat.le_of_ble_eq_true rfl) ?_
  intro p e s m args below meth c ls CX hml hr hlk hK hN hP hl
  have hx := CX.1
  have hb := CX.2.1
  refine lv_ldcf hx hb CX.2.2.2 (CX.2.2.1 (.constantFloat RX3 112 (1112014848)) (lw_at 539 (by decide +kernel))) (dg ddX3_noiseOfBusker 0 rfl) ?_
  refine lv_ldcf hx hb CX.2.2.2 (CX.2.2.1 (.constantFloat RX3 113 (1082130432)) (lw_at 540 (by decide +kernel))) (dg ddX3_noiseOfBusker 1 rfl) ?_
  refine lv_aload_n hx hb (dg ddX3_noiseOfBusker 2 rfl) rfl (lv_at hl 0 rfl) ?_
  refine gf_RX3_41 CX hK hP 0 rfl rfl (dg ddX3_noiseOfBusker 3 rfl) ?_
  refine lv_iload_n hx hb (dg ddX3_noiseOfBusker 4 rfl) rfl (lv_at hl 1 rfl) ?_
  obtain ⟨h1, hf⟩ := og_some hf
  refine va_iald hx hb hK hP 5 0 rfl rfl (inb_in h1) (dg ddX3_noiseOfBusker 5 rfl) ?_
  refine lv_i2f hx hb (dg ddX3_noiseOfBusker 6 rfl) ?_
  obtain ⟨h2, hf⟩ := og_some hf
  refine lv_fmul hx hb (dg ddX3_noiseOfBusker 7 rfl) (n32_in h2) ?_
  obtain ⟨h3, hf⟩ := og_some hf
  refine lv_fadd hx hb (dg ddX3_noiseOfBusker 8 rfl) (n32_in h3) ?_
  refine lv_fstore_n (lv' := [(2, .float (FP.fadd 1112014848 (FP.fmul 1082130432 (FP.i2f (v_lou a1.toNatClampNeg))))), (0, .ref (q 0)), (1, .int a1)]) hx hb (dg ddX3_noiseOfBusker 9 rfl) rfl hl (by decide) rfl (fun ls hl => ?_)
  refine lv_aload_n hx hb (dg ddX3_noiseOfBusker 10 rfl) rfl (lv_at hl 1 rfl) ?_
  refine gf_RX3_38 CX hK hP 0 rfl rfl (dg ddX3_noiseOfBusker 11 rfl) ?_
  refine lv_iload_n hx hb (dg ddX3_noiseOfBusker 12 rfl) rfl (lv_at hl 2 rfl) ?_
  obtain ⟨h4, hf⟩ := og_some hf
  refine va_iald hx hb hK hP 4 0 rfl rfl (inb_in h4) (dg ddX3_noiseOfBusker 13 rfl) ?_
  refine lv_iconst (v := 1) hx hb (dg ddX3_noiseOfBusker 14 rfl) (by decide) ?_
  refine lv_icmp_ne (tgt := 31) hx hb (dg ddX3_noiseOfBusker 15 rfl) (by decide) (fun h5 => ?_) (fun h5 => ?_)
  · have hf := it_f h5 hf
    refine lv_fload_n hx hb (dg ddX3_noiseOfBusker 20 rfl) rfl (lv_at hl 0 rfl) ?_
    exact e_rf CX hr hlk (Option.some.inj hf) (dg ddX3_noiseOfBusker 21 rfl)
  · have hf := it_t h5 hf
    refine lv_fload_n hx hb (dg ddX3_noiseOfBusker 16 rfl) rfl (lv_at hl 0 rfl) ?_
    refine lv_ldcf hx hb CX.2.2.2 (CX.2.2.1 (.constantFloat RX3 114 (1084227584)) (lw_at 541 (by decide +kernel))) (dg ddX3_noiseOfBusker 17 rfl) ?_
    obtain ⟨h6, hf⟩ := og_some hf
    refine lv_fadd hx hb (dg ddX3_noiseOfBusker 18 rfl) (n32_in h6) ?_
    refine lv_goto (tgt := 32) hx hb (dg ddX3_noiseOfBusker 19 rfl) (by decide) ?_
    exact e_rf CX hr hlk (Option.some.inj hf) (dg ddX3_noiseOfBusker 21 rfl)
def f_X3_ownNoiseOn (v_kin : Nat → Int32) (v_lou : Nat → Int32) (v_pit : Nat → Int32) (a1 : Int32) : Option (UInt32) := ob (f_X3_playerOn v_pit a1) fun r2 => (if r2 = (-1) then (some FP.fconst0) else (ob (f_X3_noiseOfBusker v_kin v_lou r2) fun r5 => (some r5)))
set_option maxHeartbeats 4000000 in
set_option maxRecDepth 100000 in
theorem c_X3_ownNoiseOn (l : Launch) (D : va_G) (cy : Nat → ClassId) (q : Nat → Nat) (v_hour : Int32) (v_crowd : Int32) (v_buskers : Int32) (v_answered : Int32) (v_draws : Int32) (v_lim : Nat → UInt32) (v_cmp : Nat → Int32) (v_sof : Nat → Int32) (v_kin : Nat → Int32) (v_lou : Nat → Int32) (v_pit : Nat → Int32) (v_pla : Nat → Int32) (v_cas : Nat → Int32) (v_hrs : Nat → Int32) (v_nws : Nat → Int32) (v_hat : Nat → UInt32) (v_wea : Nat → UInt32) (v_row : Nat → UInt32) (a1 : Int32) {res : UInt32} (hf : f_X3_ownNoiseOn v_kin v_lou v_pit a1 = some res) : Met l yX3_ownNoiseOn (.code yX3_ownNoiseOn cX3_ownNoiseOn 3 (some .float) :: lw_all) { frames := 3, cells := 0, slots := 0, locals := 54 } (va_Pc [.ref (q 0), .int a1] (sR D cy (wX3 q cy v_hour v_crowd v_buskers v_answered v_draws v_lim v_cmp v_sof v_kin v_lou v_pit v_pla v_cas v_hrs v_nws v_hat v_wea v_row))) (vp_Sf (fun r => r = res)) 0 0 (fun _ => False) := by
  refine mk_ro (Rc := RX3) (by decide +kernel) rfl (Nat.le_of_ble_eq_true rfl) ?_
  intro p e s m args below meth c ls CX hml hr hlk hK hN hP hl
  have hx := CX.1
  have hb := CX.2.1
  have hRMX3_noiseOfBusker : (⟨1, 0, 0, 12⟩ : Room).frames + 1 ≤ (⟨3, 0, 0, 54⟩ : Room).frames ∧ 8 + (3 + 11) + (⟨1, 0, 0, 12⟩ : Room).locals ≤ (⟨3, 0, 0, 54⟩ : Room).locals := ⟨Nat.le_of_ble_eq_true rfl, Nat.le_of_ble_eq_true rfl⟩
  have hRMX3_playerOn : (⟨2, 0, 0, 32⟩ : Room).frames + 1 ≤ (⟨3, 0, 0, 54⟩ : Room).frames ∧ 8 + (3 + 11) + (⟨2, 0, 0, 32⟩ : Room).locals ≤ (⟨3, 0, 0, 54⟩ : Room).locals := ⟨Nat.le_of_ble_eq_true rfl, Nat.le_of_ble_eq_true rfl⟩
  refine lv_aload_n hx hb (dg ddX3_ownNoiseOn 0 rfl) rfl (lv_at hl 0 rfl) ?_
  refine lv_iload_n hx hb (dg ddX3_ownNoiseOn 1 rfl) rfl (lv_at hl 1 rfl) ?_
  obtain ⟨r2, e1, hf⟩ := ob_some hf
  refine cro_vi CX hml (As := [.int a1]) (rest := []) (c_X3_playerOn l D cy q v_hour v_crowd v_buskers v_answered v_draws v_lim v_cmp v_sof v_kin v_lou v_pit v_pla v_cas v_hrs v_nws v_hat v_wea v_row a1 e1) lk_RX3_102 rfl rfl hRMX3_playerOn hP hK hN 0 rfl rfl rfl hl.1 rfl (Nat.le_of_ble_eq_true rfl) ⟨Nat.le_of_ble_eq_true rfl, Nat.le_of_ble_eq_true rfl⟩ (dg ddX3_ownNoiseOn 2 rfl) ?_
  refine lv_istore_n (lv' := [(2, .int r2), (0, .ref (q 0)), (1, .int a1)]) hx hb (dg ddX3_ownNoiseOn 3 rfl) rfl hl (by decide) rfl (fun ls hl => ?_)
  refine lv_iload_n hx hb (dg ddX3_ownNoiseOn 4 rfl) rfl (lv_at hl 0 rfl) ?_
  refine lv_iconst (v := (-1)) hx hb (dg ddX3_ownNoiseOn 5 rfl) (by decide) ?_
  refine lv_icmp_ne (tgt := 15) hx hb (dg ddX3_ownNoiseOn 6 rfl) (by decide) (fun h3 => ?_) (fun h3 => ?_)
  · have hf := it_f h3 hf
    refine lv_aload_n hx hb (dg ddX3_ownNoiseOn 9 rfl) rfl (lv_at hl 1 rfl) ?_
    refine lv_iload_n hx hb (dg ddX3_ownNoiseOn 10 rfl) rfl (lv_at hl 0 rfl) ?_
    obtain ⟨r5, e4, hf⟩ := ob_some hf
    refine cro_vf CX hml (As := [.int r2]) (rest := []) (c_X3_noiseOfBusker l D cy q v_hour v_crowd v_buskers v_answered v_draws v_lim v_cmp v_sof v_kin v_lou v_pit v_pla v_cas v_hrs v_nws v_hat v_wea v_row r2 e4) lk_RX3_115 rfl rfl hRMX3_noiseOfBusker hP hK hN 0 rfl rfl rfl hl.1 rfl (Nat.le_of_ble_eq_true rfl) ⟨Nat.le_of_ble_eq_true rfl, Nat.le_of_ble_eq_true rfl⟩ (dg ddX3_ownNoiseOn 11 rfl) ?_
    exact e_rf CX hr hlk (Option.some.inj hf) (dg ddX3_ownNoiseOn 12 rfl)
  · have hf := it_t h3 hf
    refine lv_fconst0 hx hb (dg ddX3_ownNoiseOn 7 rfl) ?_
    refine lv_goto (tgt := 20) hx hb (dg ddX3_ownNoiseOn 8 rfl) (by decide) ?_
    exact e_rf CX hr hlk (Option.some.inj hf) (dg ddX3_ownNoiseOn 12 rfl)
def f_X3_noiseAround (v_kin : Nat → Int32) (v_lou : Nat → Int32) (v_pit : Nat → Int32) (a1 : Int32) (a2 : UInt32) : Option (UInt32) := ob (f_X3_ownNoiseOn v_kin v_lou v_pit (a1 - 1)) fun r2 => (og (n32 (FP.fmul 1048576000 r2)) (og (n32 (FP.fadd a2 (FP.fmul 1048576000 r2))) (ob (f_X3_ownNoiseOn v_kin v_lou v_pit (a1 + 1)) fun r6 => (og (n32 (FP.fmul 1048576000 r6)) (og (n32 (FP.fadd (FP.fadd a2 (FP.fmul 1048576000 r2)) (FP.fmul 1048576000 r6))) (some (FP.fadd (FP.fadd a2 (FP.fmul 1048576000 r2)) (FP.fmul 1048576000 r6))))))))
set_option maxHeartbeats 4000000 in
set_option maxRecDepth 100000 in
theorem c_X3_noiseAround (l : Launch) (D : va_G) (cy : Nat → ClassId) (q : Nat → Nat) (v_hour : Int32) (v_crowd : Int32) (v_buskers : Int32) (v_answered : Int32) (v_draws : Int32) (v_lim : Nat → UInt32) (v_cmp : Nat → Int32) (v_sof : Nat → Int32) (v_kin : Nat → Int32) (v_lou : Nat → Int32) (v_pit : Nat → Int32) (v_pla : Nat → Int32) (v_cas : Nat → Int32) (v_hrs : Nat → Int32) (v_nws : Nat → Int32) (v_hat : Nat → UInt32) (v_wea : Nat → UInt32) (v_row : Nat → UInt32) (a1 : Int32) (a2 : UInt32) {res : UInt32} (hf : f_X3_noiseAround v_kin v_lou v_pit a1 a2 = some res) : Met l yX3_noiseAround (.code yX3_noiseAround cX3_noiseAround 3 (some .float) :: lw_all) { frames := 4, cells := 0, slots := 0, locals := 76 } (va_Pc [.ref (q 0), .int a1, .float a2] (sR D cy (wX3 q cy v_hour v_crowd v_buskers v_answered v_draws v_lim v_cmp v_sof v_kin v_lou v_pit v_pla v_cas v_hrs v_nws v_hat v_wea v_row))) (vp_Sf (fun r => r = res)) 0 0 (fun _ => False) := by
  refine mk_ro (Rc := RX3) (by decide +kernel) rfl (Nat.le_of_ble_eq_true rfl) ?_
  intro p e s m args below meth c ls CX hml hr hlk hK hN hP hl
  have hx := CX.1
  have hb := CX.2.1
  have hRMX3_ownNoiseOn : (⟨3, 0, 0, 54⟩ : Room).frames + 1 ≤ (⟨4, 0, 0, 76⟩ : Room).frames ∧ 8 + (3 + 11) + (⟨3, 0, 0, 54⟩ : Room).locals ≤ (⟨4, 0, 0, 76⟩ : Room).locals := ⟨Nat.le_of_ble_eq_true rfl, Nat.le_of_ble_eq_true rfl⟩
  refine lv_fload_n hx hb (dg ddX3_noiseAround 0 rfl) rfl (lv_at hl 2 rfl) ?_
  refine lv_ldcf hx hb CX.2.2.2 (CX.2.2.1 (.constantFloat RX3 119 (1048576000)) (lw_at 551 (by decide +kernel))) (dg ddX3_noiseAround 1 rfl) ?_
  refine lv_aload_n hx hb (dg ddX3_noiseAround 2 rfl) rfl (lv_at hl 0 rfl) ?_
  refine lv_iload_n hx hb (dg ddX3_noiseAround 3 rfl) rfl (lv_at hl 1 rfl) ?_
  refine lv_iconst (v := 1) hx hb (dg ddX3_noiseAround 4 rfl) (by decide) ?_
  refine lv_isub hx hb (dg ddX3_noiseAround 5 rfl) ?_
  obtain ⟨r2, e1, hf⟩ := ob_some hf
  refine cro_vf CX hml (As := [.int (a1 - 1)]) (rest := [.float 1048576000, .float a2]) (c_X3_ownNoiseOn l D cy q v_hour v_crowd v_buskers v_answered v_draws v_lim v_cmp v_sof v_kin v_lou v_pit v_pla v_cas v_hrs v_nws v_hat v_wea v_row (a1 - 1) e1) lk_RX3_120 rfl rfl hRMX3_ownNoiseOn hP hK hN 0 rfl rfl rfl hl.1 rfl (Nat.le_of_ble_eq_true rfl) ⟨Nat.le_of_ble_eq_true rfl, Nat.le_of_ble_eq_true rfl⟩ (dg ddX3_noiseAround 6 rfl) ?_
  obtain ⟨h3, hf⟩ := og_some hf
  refine lv_fmul hx hb (dg ddX3_noiseAround 7 rfl) (n32_in h3) ?_
  obtain ⟨h4, hf⟩ := og_some hf
  refine lv_fadd hx hb (dg ddX3_noiseAround 8 rfl) (n32_in h4) ?_
  refine lv_ldcf hx hb CX.2.2.2 (CX.2.2.1 (.constantFloat RX3 119 (1048576000)) (lw_at 551 (by decide +kernel))) (dg ddX3_noiseAround 9 rfl) ?_
  refine lv_aload_n hx hb (dg ddX3_noiseAround 10 rfl) rfl (lv_at hl 0 rfl) ?_
  refine lv_iload_n hx hb (dg ddX3_noiseAround 11 rfl) rfl (lv_at hl 1 rfl) ?_
  refine lv_iconst (v := 1) hx hb (dg ddX3_noiseAround 12 rfl) (by decide) ?_
  refine lv_iadd hx hb (dg ddX3_noiseAround 13 rfl) ?_
  obtain ⟨r6, e5, hf⟩ := ob_some hf
  refine cro_vf CX hml (As := [.int (a1 + 1)]) (rest := [.float 1048576000, .float (FP.fadd a2 (FP.fmul 1048576000 r2))]) (c_X3_ownNoiseOn l D cy q v_hour v_crowd v_buskers v_answered v_draws v_lim v_cmp v_sof v_kin v_lou v_pit v_pla v_cas v_hrs v_nws v_hat v_wea v_row (a1 + 1) e5) lk_RX3_120 rfl rfl hRMX3_ownNoiseOn hP hK hN 0 rfl rfl rfl hl.1 rfl (Nat.le_of_ble_eq_true rfl) ⟨Nat.le_of_ble_eq_true rfl, Nat.le_of_ble_eq_true rfl⟩ (dg ddX3_noiseAround 14 rfl) ?_
  obtain ⟨h7, hf⟩ := og_some hf
  refine lv_fmul hx hb (dg ddX3_noiseAround 15 rfl) (n32_in h7) ?_
  obtain ⟨h8, hf⟩ := og_some hf
  refine lv_fadd hx hb (dg ddX3_noiseAround 16 rfl) (n32_in h8) ?_
  exact e_rf CX hr hlk (Option.some.inj hf) (dg ddX3_noiseAround 17 rfl)
def f_X3_noiseOn (v_kin : Nat → Int32) (v_lou : Nat → Int32) (v_pit : Nat → Int32) (a1 : Int32) : Option (UInt32) := ob (f_X3_ownNoiseOn v_kin v_lou v_pit a1) fun r2 => (ob (f_X3_noiseAround v_kin v_lou v_pit a1 r2) fun r4 => (some r4))
set_option maxHeartbeats 4000000 in
set_option maxRecDepth 100000 in
theorem c_X3_noiseOn (l : Launch) (D : va_G) (cy : Nat → ClassId) (q : Nat → Nat) (v_hour : Int32) (v_crowd : Int32) (v_buskers : Int32) (v_answered : Int32) (v_draws : Int32) (v_lim : Nat → UInt32) (v_cmp : Nat → Int32) (v_sof : Nat → Int32) (v_kin : Nat → Int32) (v_lou : Nat → Int32) (v_pit : Nat → Int32) (v_pla : Nat → Int32) (v_cas : Nat → Int32) (v_hrs : Nat → Int32) (v_nws : Nat → Int32) (v_hat : Nat → UInt32) (v_wea : Nat → UInt32) (v_row : Nat → UInt32) (a1 : Int32) {res : UInt32} (hf : f_X3_noiseOn v_kin v_lou v_pit a1 = some res) : Met l yX3_noiseOn (.code yX3_noiseOn cX3_noiseOn 2 (some .float) :: lw_all) { frames := 5, cells := 0, slots := 0, locals := 98 } (va_Pc [.ref (q 0), .int a1] (sR D cy (wX3 q cy v_hour v_crowd v_buskers v_answered v_draws v_lim v_cmp v_sof v_kin v_lou v_pit v_pla v_cas v_hrs v_nws v_hat v_wea v_row))) (vp_Sf (fun r => r = res)) 0 0 (fun _ => False) := by
  refine mk_ro (Rc := RX3) (by decide +kernel) rfl (Nat.le_of_ble_eq_true rfl) ?_
  intro p e s m args below meth c ls CX hml hr hlk hK hN hP hl
  have hx := CX.1
  have hb := CX.2.1
  have hRMX3_noiseAround : (⟨4, 0, 0, 76⟩ : Room).frames + 1 ≤ (⟨5, 0, 0, 98⟩ : Room).frames ∧ 8 + (3 + 11) + (⟨4, 0, 0, 76⟩ : Room).locals ≤ (⟨5, 0, 0, 98⟩ : Room).locals := ⟨Nat.le_of_ble_eq_true rfl, Nat.le_of_ble_eq_true rfl⟩
  have hRMX3_ownNoiseOn : (⟨3, 0, 0, 54⟩ : Room).frames + 1 ≤ (⟨5, 0, 0, 98⟩ : Room).frames ∧ 8 + (3 + 11) + (⟨3, 0, 0, 54⟩ : Room).locals ≤ (⟨5, 0, 0, 98⟩ : Room).locals := ⟨Nat.le_of_ble_eq_true rfl, Nat.le_of_ble_eq_true rfl⟩
  refine lv_aload_n hx hb (dg ddX3_noiseOn 0 rfl) rfl (lv_at hl 0 rfl) ?_
  refine lv_iload_n hx hb (dg ddX3_noiseOn 1 rfl) rfl (lv_at hl 1 rfl) ?_
  refine lv_aload_n hx hb (dg ddX3_noiseOn 2 rfl) rfl (lv_at hl 0 rfl) ?_
  refine lv_iload_n hx hb (dg ddX3_noiseOn 3 rfl) rfl (lv_at hl 1 rfl) ?_
  obtain ⟨r2, e1, hf⟩ := ob_some hf
  refine cro_vf CX hml (As := [.int a1]) (rest := [.int a1, .ref (q 0)]) (c_X3_ownNoiseOn l D cy q v_hour v_crowd v_buskers v_answered v_draws v_lim v_cmp v_sof v_kin v_lou v_pit v_pla v_cas v_hrs v_nws v_hat v_wea v_row a1 e1) lk_RX3_120 rfl rfl hRMX3_ownNoiseOn hP hK hN 0 rfl rfl rfl hl.1 rfl (Nat.le_of_ble_eq_true rfl) ⟨Nat.le_of_ble_eq_true rfl, Nat.le_of_ble_eq_true rfl⟩ (dg ddX3_noiseOn 4 rfl) ?_
  obtain ⟨r4, e3, hf⟩ := ob_some hf
  refine cro_vf CX hml (As := [.int a1, .float r2]) (rest := []) (c_X3_noiseAround l D cy q v_hour v_crowd v_buskers v_answered v_draws v_lim v_cmp v_sof v_kin v_lou v_pit v_pla v_cas v_hrs v_nws v_hat v_wea v_row a1 r2 e3) lk_RX3_123 rfl rfl hRMX3_noiseAround hP hK hN 0 rfl rfl rfl hl.1 rfl (Nat.le_of_ble_eq_true rfl) ⟨Nat.le_of_ble_eq_true rfl, Nat.le_of_ble_eq_true rfl⟩ (dg ddX3_noiseOn 5 rfl) ?_
  exact e_rf CX hr hlk (Option.some.inj hf) (dg ddX3_noiseOn 6 rfl)
def f_X3_noiseOf (v_kin : Nat → Int32) (v_lou : Nat → Int32) (v_pit : Nat → Int32) (a1 : Int32) (a2 : Int32) : Option (UInt32) := ob (f_X3_noiseOfBusker v_kin v_lou a2) fun r2 => (ob (f_X3_noiseAround v_kin v_lou v_pit a1 r2) fun r4 => (some r4))
set_option maxHeartbeats 4000000 in
set_option maxRecDepth 100000 in
theorem c_X3_noiseOf (l : Launch) (D : va_G) (cy : Nat → ClassId) (q : Nat → Nat) (v_hour : Int32) (v_crowd : Int32) (v_buskers : Int32) (v_answered : Int32) (v_draws : Int32) (v_lim : Nat → UInt32) (v_cmp : Nat → Int32) (v_sof : Nat → Int32) (v_kin : Nat → Int32) (v_lou : Nat → Int32) (v_pit : Nat → Int32) (v_pla : Nat → Int32) (v_cas : Nat → Int32) (v_hrs : Nat → Int32) (v_nws : Nat → Int32) (v_hat : Nat → UInt32) (v_wea : Nat → UInt32) (v_row : Nat → UInt32) (a1 : Int32) (a2 : Int32) {res : UInt32} (hf : f_X3_noiseOf v_kin v_lou v_pit a1 a2 = some res) : Met l yX3_noiseOf (.code yX3_noiseOf cX3_noiseOf 3 (some .float) :: lw_all) { frames := 5, cells := 0, slots := 0, locals := 98 } (va_Pc [.ref (q 0), .int a1, .int a2] (sR D cy (wX3 q cy v_hour v_crowd v_buskers v_answered v_draws v_lim v_cmp v_sof v_kin v_lou v_pit v_pla v_cas v_hrs v_nws v_hat v_wea v_row))) (vp_Sf (fun r => r = res)) 0 0 (fun _ => False) := by
  refine mk_ro (Rc := RX3) (by decide +kernel) rfl (Nat.le_of_ble_eq_true rfl) ?_
  intro p e s m args below meth c ls CX hml hr hlk hK hN hP hl
  have hx := CX.1
  have hb := CX.2.1
  have hRMX3_noiseAround : (⟨4, 0, 0, 76⟩ : Room).frames + 1 ≤ (⟨5, 0, 0, 98⟩ : Room).frames ∧ 8 + (3 + 11) + (⟨4, 0, 0, 76⟩ : Room).locals ≤ (⟨5, 0, 0, 98⟩ : Room).locals := ⟨Nat.le_of_ble_eq_true rfl, Nat.le_of_ble_eq_true rfl⟩
  have hRMX3_noiseOfBusker : (⟨1, 0, 0, 12⟩ : Room).frames + 1 ≤ (⟨5, 0, 0, 98⟩ : Room).frames ∧ 8 + (3 + 11) + (⟨1, 0, 0, 12⟩ : Room).locals ≤ (⟨5, 0, 0, 98⟩ : Room).locals := ⟨Nat.le_of_ble_eq_true rfl, Nat.le_of_ble_eq_true rfl⟩
  refine lv_aload_n hx hb (dg ddX3_noiseOf 0 rfl) rfl (lv_at hl 0 rfl) ?_
  refine lv_iload_n hx hb (dg ddX3_noiseOf 1 rfl) rfl (lv_at hl 1 rfl) ?_
  refine lv_aload_n hx hb (dg ddX3_noiseOf 2 rfl) rfl (lv_at hl 0 rfl) ?_
  refine lv_iload_n hx hb (dg ddX3_noiseOf 3 rfl) rfl (lv_at hl 2 rfl) ?_
  obtain ⟨r2, e1, hf⟩ := ob_some hf
  refine cro_vf CX hml (As := [.int a2]) (rest := [.int a1, .ref (q 0)]) (c_X3_noiseOfBusker l D cy q v_hour v_crowd v_buskers v_answered v_draws v_lim v_cmp v_sof v_kin v_lou v_pit v_pla v_cas v_hrs v_nws v_hat v_wea v_row a2 e1) lk_RX3_115 rfl rfl hRMX3_noiseOfBusker hP hK hN 0 rfl rfl rfl hl.1 rfl (Nat.le_of_ble_eq_true rfl) ⟨Nat.le_of_ble_eq_true rfl, Nat.le_of_ble_eq_true rfl⟩ (dg ddX3_noiseOf 4 rfl) ?_
  obtain ⟨r4, e3, hf⟩ := ob_some hf
  refine cro_vf CX hml (As := [.int a1, .float r2]) (rest := []) (c_X3_noiseAround l D cy q v_hour v_crowd v_buskers v_answered v_draws v_lim v_cmp v_sof v_kin v_lou v_pit v_pla v_cas v_hrs v_nws v_hat v_wea v_row a1 r2 e3) lk_RX3_123 rfl rfl hRMX3_noiseAround hP hK hN 0 rfl rfl rfl hl.1 rfl (Nat.le_of_ble_eq_true rfl) ⟨Nat.le_of_ble_eq_true rfl, Nat.le_of_ble_eq_true rfl⟩ (dg ddX3_noiseOf 5 rfl) ?_
  exact e_rf CX hr hlk (Option.some.inj hf) (dg ddX3_noiseOf 6 rfl)
def f_X3_noiseByRow (v_row : Nat → UInt32) (a1 : Int32) : Option (UInt32) := og (inb (a1 + 1) 10) (og (inb a1 10) (og (n32 (FP.fmul 1048576000 (v_row a1.toNatClampNeg))) (og (n32 (FP.fadd (v_row (a1 + 1).toNatClampNeg) (FP.fmul 1048576000 (v_row a1.toNatClampNeg)))) (og (inb (a1 + 2) 10) (og (n32 (FP.fmul 1048576000 (v_row (a1 + 2).toNatClampNeg))) (og (n32 (FP.fadd (FP.fadd (v_row (a1 + 1).toNatClampNeg) (FP.fmul 1048576000 (v_row a1.toNatClampNeg))) (FP.fmul 1048576000 (v_row (a1 + 2).toNatClampNeg)))) (some (FP.fadd (FP.fadd (v_row (a1 + 1).toNatClampNeg) (FP.fmul 1048576000 (v_row a1.toNatClampNeg))) (FP.fmul 1048576000 (v_row (a1 + 2).toNatClampNeg))))))))))
set_option maxHeartbeats 4000000 in
set_option maxRecDepth 100000 in
theorem c_X3_noiseByRow (l : Launch) (D : va_G) (cy : Nat → ClassId) (q : Nat → Nat) (v_hour : Int32) (v_crowd : Int32) (v_buskers : Int32) (v_answered : Int32) (v_draws : Int32) (v_lim : Nat → UInt32) (v_cmp : Nat → Int32) (v_sof : Nat → Int32) (v_kin : Nat → Int32) (v_lou : Nat → Int32) (v_pit : Nat → Int32) (v_pla : Nat → Int32) (v_cas : Nat → Int32) (v_hrs : Nat → Int32) (v_nws : Nat → Int32) (v_hat : Nat → UInt32) (v_wea : Nat → UInt32) (v_row : Nat → UInt32) (a1 : Int32) {res : UInt32} (hf : f_X3_noiseByRow v_row a1 = some res) : Met l yX3_noiseByRow (.code yX3_noiseByRow cX3_noiseByRow 2 (some .float) :: lw_all) { frames := 1, cells := 0, slots := 0, locals := 12 } (va_Pc [.ref (q 0), .int a1] (sR D cy (wX3 q cy v_hour v_crowd v_buskers v_answered v_draws v_lim v_cmp v_sof v_kin v_lou v_pit v_pla v_cas v_hrs v_nws v_hat v_wea v_row))) (vp_Sf (fun r => r = res)) 0 0 (fun _ => False) := by
  refine mk_ro (Rc := RX3) (by decide +kernel) rfl (Nat.le_of_ble_eq_true rfl) ?_
  intro p e s m args below meth c ls CX hml hr hlk hK hN hP hl
  have hx := CX.1
  have hb := CX.2.1
  refine lv_aload_n hx hb (dg ddX3_noiseByRow 0 rfl) rfl (lv_at hl 0 rfl) ?_
  refine gf_RX3_65 CX hK hP 0 rfl rfl (dg ddX3_noiseByRow 1 rfl) ?_
  refine lv_iload_n hx hb (dg ddX3_noiseByRow 2 rfl) rfl (lv_at hl 1 rfl) ?_
  refine lv_iconst (v := 1) hx hb (dg ddX3_noiseByRow 3 rfl) (by decide) ?_
  refine lv_iadd hx hb (dg ddX3_noiseByRow 4 rfl) ?_
  obtain ⟨h1, hf⟩ := og_some hf
  refine va_fald hx hb hK hP 13 1 rfl rfl (inb_in h1) (dg ddX3_noiseByRow 5 rfl) ?_
  refine lv_ldcf hx hb CX.2.2.2 (CX.2.2.1 (.constantFloat RX3 119 (1048576000)) (lw_at 551 (by decide +kernel))) (dg ddX3_noiseByRow 6 rfl) ?_
  refine lv_aload_n hx hb (dg ddX3_noiseByRow 7 rfl) rfl (lv_at hl 0 rfl) ?_
  refine gf_RX3_65 CX hK hP 0 rfl rfl (dg ddX3_noiseByRow 8 rfl) ?_
  refine lv_iload_n hx hb (dg ddX3_noiseByRow 9 rfl) rfl (lv_at hl 1 rfl) ?_
  obtain ⟨h2, hf⟩ := og_some hf
  refine va_fald hx hb hK hP 13 1 rfl rfl (inb_in h2) (dg ddX3_noiseByRow 10 rfl) ?_
  obtain ⟨h3, hf⟩ := og_some hf
  refine lv_fmul hx hb (dg ddX3_noiseByRow 11 rfl) (n32_in h3) ?_
  obtain ⟨h4, hf⟩ := og_some hf
  refine lv_fadd hx hb (dg ddX3_noiseByRow 12 rfl) (n32_in h4) ?_
  refine lv_ldcf hx hb CX.2.2.2 (CX.2.2.1 (.constantFloat RX3 119 (1048576000)) (lw_at 551 (by decide +kernel))) (dg ddX3_noiseByRow 13 rfl) ?_
  refine lv_aload_n hx hb (dg ddX3_noiseByRow 14 rfl) rfl (lv_at hl 0 rfl) ?_
  refine gf_RX3_65 CX hK hP 0 rfl rfl (dg ddX3_noiseByRow 15 rfl) ?_
  refine lv_iload_n hx hb (dg ddX3_noiseByRow 16 rfl) rfl (lv_at hl 1 rfl) ?_
  refine lv_iconst (v := 2) hx hb (dg ddX3_noiseByRow 17 rfl) (by decide) ?_
  refine lv_iadd hx hb (dg ddX3_noiseByRow 18 rfl) ?_
  obtain ⟨h5, hf⟩ := og_some hf
  refine va_fald hx hb hK hP 13 1 rfl rfl (inb_in h5) (dg ddX3_noiseByRow 19 rfl) ?_
  obtain ⟨h6, hf⟩ := og_some hf
  refine lv_fmul hx hb (dg ddX3_noiseByRow 20 rfl) (n32_in h6) ?_
  obtain ⟨h7, hf⟩ := og_some hf
  refine lv_fadd hx hb (dg ddX3_noiseByRow 21 rfl) (n32_in h7) ?_
  exact e_rf CX hr hlk (Option.some.inj hf) (dg ddX3_noiseByRow 22 rfl)
def f_X3_quietestFor_c51 (rec7 : Int32 → UInt32 → Int32 → Option (Int32)) (v_lim : Nat → UInt32) (v_kin : Nat → Int32) (v_lou : Nat → Int32) (v_pit : Nat → Int32) (a1 : Int32) (x2 : Int32) (x3 : UInt32) (x4 : Int32) (x5 : UInt32) (t0 : Int32) : Option (Int32) := if t0 = 0 then (rec7 x2 x3 (x4 + 1)) else (if x2 = (-1) then (rec7 x4 x5 (x4 + 1)) else (if 0 ≤ (Op.cmpValue (FP.fcmp x5 x3) .g) then (rec7 x2 x3 (x4 + 1)) else (rec7 x4 x5 (x4 + 1))))
def f_X3_quietestFor_c50 (rec7 : Int32 → UInt32 → Int32 → Option (Int32)) (v_lim : Nat → UInt32) (v_kin : Nat → Int32) (v_lou : Nat → Int32) (v_pit : Nat → Int32) (a1 : Int32) (x2 : Int32) (x3 : UInt32) (x4 : Int32) (x5 : UInt32) : Option (Int32) := f_X3_quietestFor_c51 rec7 v_lim v_kin v_lou v_pit a1 x2 x3 x4 x5 0
def f_X3_quietestFor_c7  (v_lim : Nat → UInt32) (v_kin : Nat → Int32) (v_lou : Nat → Int32) (v_pit : Nat → Int32) (a1 : Int32) : Nat → Int32 → UInt32 → Int32 → Option (Int32)
  | 0, _, _, _ => none
  | n + 1, x2, x3, x4 => if 8 ≤ x4 then (some x2) else (ob (f_X3_noiseOf v_kin v_lou v_pit x4 a1) fun r3 => (ob (f_X3_playerOn v_pit x4) fun r5 => (if r5 = (-1) then (og (inb x4 8) (if 0 < (Op.cmpValue (FP.fcmp r3 (v_lim x4.toNatClampNeg)) .g) then (f_X3_quietestFor_c50 (f_X3_quietestFor_c7 v_lim v_kin v_lou v_pit a1 n) v_lim v_kin v_lou v_pit a1 x2 x3 x4 r3) else (f_X3_quietestFor_c51 (f_X3_quietestFor_c7 v_lim v_kin v_lou v_pit a1 n) v_lim v_kin v_lou v_pit a1 x2 x3 x4 r3 1))) else (f_X3_quietestFor_c50 (f_X3_quietestFor_c7 v_lim v_kin v_lou v_pit a1 n) v_lim v_kin v_lou v_pit a1 x2 x3 x4 r3))))
def f_X3_quietestFor (v_lim : Nat → UInt32) (v_kin : Nat → Int32) (v_lou : Nat → Int32) (v_pit : Nat → Int32) (a1 : Int32) : Option (Int32) := f_X3_quietestFor_c7 v_lim v_kin v_lou v_pit a1 4096 (-1) FP.fconst0 0
set_option maxHeartbeats 4000000 in
set_option maxRecDepth 100000 in
theorem c_X3_quietestFor (l : Launch) (D : va_G) (cy : Nat → ClassId) (q : Nat → Nat) (v_hour : Int32) (v_crowd : Int32) (v_buskers : Int32) (v_answered : Int32) (v_draws : Int32) (v_lim : Nat → UInt32) (v_cmp : Nat → Int32) (v_sof : Nat → Int32) (v_kin : Nat → Int32) (v_lou : Nat → Int32) (v_pit : Nat → Int32) (v_pla : Nat → Int32) (v_cas : Nat → Int32) (v_hrs : Nat → Int32) (v_nws : Nat → Int32) (v_hat : Nat → UInt32) (v_wea : Nat → UInt32) (v_row : Nat → UInt32) (a1 : Int32) {res : Int32} (hf : f_X3_quietestFor v_lim v_kin v_lou v_pit a1 = some res) : Met l yX3_quietestFor (.code yX3_quietestFor cX3_quietestFor 7 (some .int) :: lw_all) { frames := 6, cells := 0, slots := 0, locals := 120 } (va_Pc [.ref (q 0), .int a1] (sR D cy (wX3 q cy v_hour v_crowd v_buskers v_answered v_draws v_lim v_cmp v_sof v_kin v_lou v_pit v_pla v_cas v_hrs v_nws v_hat v_wea v_row))) (vp_Si (fun r => r = res)) 0 0 (fun _ => False) := by
  refine mk_ro (Rc := RX3) (by decide +kernel) rfl (Nat.le_of_ble_eq_true rfl) ?_
  intro p e s m args below meth c ls CX hml hr hlk hK hN hP hl
  have hx := CX.1
  have hb := CX.2.1
  have hRMX3_noiseOf : (⟨5, 0, 0, 98⟩ : Room).frames + 1 ≤ (⟨6, 0, 0, 120⟩ : Room).frames ∧ 8 + (3 + 11) + (⟨5, 0, 0, 98⟩ : Room).locals ≤ (⟨6, 0, 0, 120⟩ : Room).locals := ⟨Nat.le_of_ble_eq_true rfl, Nat.le_of_ble_eq_true rfl⟩
  have hRMX3_playerOn : (⟨2, 0, 0, 32⟩ : Room).frames + 1 ≤ (⟨6, 0, 0, 120⟩ : Room).frames ∧ 8 + (3 + 11) + (⟨2, 0, 0, 32⟩ : Room).locals ≤ (⟨6, 0, 0, 120⟩ : Room).locals := ⟨Nat.le_of_ble_eq_true rfl, Nat.le_of_ble_eq_true rfl⟩
  have hl0 := hl
  have K51 : ∀ (rec7 : Int32 → UInt32 → Int32 → Option (Int32)) (hrec7 : ∀ (x2 : Int32) (x3 : UInt32) (x4 : Int32) (ls : Array Slot) (hl : lv_has ls 7 [(0, .ref (q 0)), (1, .int a1), (2, .int x2), (3, .float x3), (4, .int x4)]) (hf : rec7 x2 x3 x4 = some res), W p l e ⟨6, 0, 0, 120⟩ s m args below meth c s.heap [] 0 0 (MQ below (vp_Si (fun r => r = res)) args s 0 0 (fun _ => False)) (F0 m 7 ls [])), ∀ (x2 : Int32) (x3 : UInt32) (x4 : Int32) (x5 : UInt32) (t0 : Int32) (ls : Array Slot) (hl : lv_has ls 7 [(0, .ref (q 0)), (1, .int a1), (2, .int x2), (3, .float x3), (4, .int x4), (5, .float x5)]) (hf : f_X3_quietestFor_c51 rec7 v_lim v_kin v_lou v_pit a1 x2 x3 x4 x5 t0 = some res), W p l e ⟨6, 0, 0, 120⟩ s m args below meth c s.heap [] 0 0 (MQ below (vp_Si (fun r => r = res)) args s 0 0 (fun _ => False)) (F0 m 51 ls [.int t0]) := by
    intro rec7 hrec7 x2 x3 x4 x5 t0 ls hl hf
    refine lv_istore (lv' := [(6, .int t0), (0, .ref (q 0)), (1, .int a1), (2, .int x2), (3, .float x3), (4, .int x4), (5, .float x5)]) hx hb (dg ddX3_quietestFor 29 rfl) hl (by decide) rfl (fun ls hl => ?_)
    refine lv_iload hx hb (dg ddX3_quietestFor 30 rfl) (lv_at hl 0 rfl) ?_
    refine lv_if_eq (tgt := 76) hx hb (dg ddX3_quietestFor 31 rfl) (by decide) (fun h1 => ?_) (fun h1 => ?_)
    · have hf := it_t h1 hf
      refine lv_iinc (v := x4 + 1) (lv' := [(4, .int (x4 + 1)), (6, .int t0), (0, .ref (q 0)), (1, .int a1), (2, .int x2), (3, .float x3), (5, .float x5)]) hx hb (dg ddX3_quietestFor 43 rfl) hl (k := 5) rfl (congrArg (HAdd.hAdd x4) (by decide)) (by decide) rfl (fun ls hl => ?_)
      refine lv_goto (tgt := 7) hx hb (dg ddX3_quietestFor 44 rfl) (by decide) ?_
      exact hrec7 x2 x3 (x4 + 1) _ (lv_sub hl [2, 3, 4, 5, 0] rfl) hf
    · have hf := it_f h1 hf
      refine lv_iload_n hx hb (dg ddX3_quietestFor 32 rfl) rfl (lv_at hl 3 rfl) ?_
      refine lv_iconst (v := (-1)) hx hb (dg ddX3_quietestFor 33 rfl) (by decide) ?_
      refine lv_icmp_eq (tgt := 70) hx hb (dg ddX3_quietestFor 34 rfl) (by decide) (fun h2 => ?_) (fun h2 => ?_)
      · have hf := it_t h2 hf
        refine lv_iload hx hb (dg ddX3_quietestFor 39 rfl) (lv_at hl 5 rfl) ?_
        refine lv_istore_n (lv' := [(2, .int x4), (6, .int t0), (0, .ref (q 0)), (1, .int a1), (3, .float x3), (4, .int x4), (5, .float x5)]) hx hb (dg ddX3_quietestFor 40 rfl) rfl hl (by decide) rfl (fun ls hl => ?_)
        refine lv_fload hx hb (dg ddX3_quietestFor 41 rfl) (lv_at hl 6 rfl) ?_
        refine lv_fstore_n (lv' := [(3, .float x5), (2, .int x4), (6, .int t0), (0, .ref (q 0)), (1, .int a1), (4, .int x4), (5, .float x5)]) hx hb (dg ddX3_quietestFor 42 rfl) rfl hl (by decide) rfl (fun ls hl => ?_)
        refine lv_iinc (v := x4 + 1) (lv' := [(4, .int (x4 + 1)), (3, .float x5), (2, .int x4), (6, .int t0), (0, .ref (q 0)), (1, .int a1), (5, .float x5)]) hx hb (dg ddX3_quietestFor 43 rfl) hl (k := 5) rfl (congrArg (HAdd.hAdd x4) (by decide)) (by decide) rfl (fun ls hl => ?_)
        refine lv_goto (tgt := 7) hx hb (dg ddX3_quietestFor 44 rfl) (by decide) ?_
        exact hrec7 x4 x5 (x4 + 1) _ (lv_sub hl [4, 5, 2, 1, 0] rfl) hf
      · have hf := it_f h2 hf
        refine lv_fload hx hb (dg ddX3_quietestFor 35 rfl) (lv_at hl 6 rfl) ?_
        refine lv_fload_n hx hb (dg ddX3_quietestFor 36 rfl) rfl (lv_at hl 4 rfl) ?_
        refine lv_fcmp hx hb (dg ddX3_quietestFor 37 rfl) ?_
        refine lv_if_ge (tgt := 76) hx hb (dg ddX3_quietestFor 38 rfl) (by decide) (fun h3 => ?_) (fun h3 => ?_)
        · have hf := it_t h3 hf
          refine lv_iinc (v := x4 + 1) (lv' := [(4, .int (x4 + 1)), (6, .int t0), (0, .ref (q 0)), (1, .int a1), (2, .int x2), (3, .float x3), (5, .float x5)]) hx hb (dg ddX3_quietestFor 43 rfl) hl (k := 5) rfl (congrArg (HAdd.hAdd x4) (by decide)) (by decide) rfl (fun ls hl => ?_)
          refine lv_goto (tgt := 7) hx hb (dg ddX3_quietestFor 44 rfl) (by decide) ?_
          exact hrec7 x2 x3 (x4 + 1) _ (lv_sub hl [2, 3, 4, 5, 0] rfl) hf
        · have hf := it_f h3 hf
          refine lv_iload hx hb (dg ddX3_quietestFor 39 rfl) (lv_at hl 5 rfl) ?_
          refine lv_istore_n (lv' := [(2, .int x4), (6, .int t0), (0, .ref (q 0)), (1, .int a1), (3, .float x3), (4, .int x4), (5, .float x5)]) hx hb (dg ddX3_quietestFor 40 rfl) rfl hl (by decide) rfl (fun ls hl => ?_)
          refine lv_fload hx hb (dg ddX3_quietestFor 41 rfl) (lv_at hl 6 rfl) ?_
          refine lv_fstore_n (lv' := [(3, .float x5), (2, .int x4), (6, .int t0), (0, .ref (q 0)), (1, .int a1), (4, .int x4), (5, .float x5)]) hx hb (dg ddX3_quietestFor 42 rfl) rfl hl (by decide) rfl (fun ls hl => ?_)
          refine lv_iinc (v := x4 + 1) (lv' := [(4, .int (x4 + 1)), (3, .float x5), (2, .int x4), (6, .int t0), (0, .ref (q 0)), (1, .int a1), (5, .float x5)]) hx hb (dg ddX3_quietestFor 43 rfl) hl (k := 5) rfl (congrArg (HAdd.hAdd x4) (by decide)) (by decide) rfl (fun ls hl => ?_)
          refine lv_goto (tgt := 7) hx hb (dg ddX3_quietestFor 44 rfl) (by decide) ?_
          exact hrec7 x4 x5 (x4 + 1) _ (lv_sub hl [4, 5, 2, 1, 0] rfl) hf
  have K50 : ∀ (rec7 : Int32 → UInt32 → Int32 → Option (Int32)) (hrec7 : ∀ (x2 : Int32) (x3 : UInt32) (x4 : Int32) (ls : Array Slot) (hl : lv_has ls 7 [(0, .ref (q 0)), (1, .int a1), (2, .int x2), (3, .float x3), (4, .int x4)]) (hf : rec7 x2 x3 x4 = some res), W p l e ⟨6, 0, 0, 120⟩ s m args below meth c s.heap [] 0 0 (MQ below (vp_Si (fun r => r = res)) args s 0 0 (fun _ => False)) (F0 m 7 ls [])), ∀ (x2 : Int32) (x3 : UInt32) (x4 : Int32) (x5 : UInt32) (ls : Array Slot) (hl : lv_has ls 7 [(0, .ref (q 0)), (1, .int a1), (2, .int x2), (3, .float x3), (4, .int x4), (5, .float x5)]) (hf : f_X3_quietestFor_c50 rec7 v_lim v_kin v_lou v_pit a1 x2 x3 x4 x5 = some res), W p l e ⟨6, 0, 0, 120⟩ s m args below meth c s.heap [] 0 0 (MQ below (vp_Si (fun r => r = res)) args s 0 0 (fun _ => False)) (F0 m 50 ls []) := by
    intro rec7 hrec7 x2 x3 x4 x5 ls hl hf
    refine lv_iconst (v := 0) hx hb (dg ddX3_quietestFor 28 rfl) (by decide) ?_
    exact K51 rec7 hrec7  x2 x3 x4 x5 0 _ (lv_sub hl [0, 1, 2, 3, 4, 5] rfl) hf
  have K7 : ∀ (n : Nat), ∀ (x2 : Int32) (x3 : UInt32) (x4 : Int32) (ls : Array Slot) (hl : lv_has ls 7 [(0, .ref (q 0)), (1, .int a1), (2, .int x2), (3, .float x3), (4, .int x4)]) (hf : f_X3_quietestFor_c7 v_lim v_kin v_lou v_pit a1 n x2 x3 x4 = some res), W p l e ⟨6, 0, 0, 120⟩ s m args below meth c s.heap [] 0 0 (MQ below (vp_Si (fun r => r = res)) args s 0 0 (fun _ => False)) (F0 m 7 ls []) := by
    intro n
    induction n with
    | zero => intro x2 x3 x4 ls hl hf; cases (show none = some res from hf)
    | succ n ih =>
    intro x2 x3 x4 ls hl hf
    refine lv_iload hx hb (dg ddX3_quietestFor 6 rfl) (lv_at hl 4 rfl) ?_
    refine lv_bipush (v := 8) hx hb (dg ddX3_quietestFor 7 rfl) (by decide) ?_
    refine lv_icmp_ge (tgt := 82) hx hb (dg ddX3_quietestFor 8 rfl) (by decide) (fun h1 => ?_) (fun h1 => ?_)
    · have hf := it_t h1 hf
      refine lv_iload_n hx hb (dg ddX3_quietestFor 45 rfl) rfl (lv_at hl 2 rfl) ?_
      exact e_ri CX hr hlk (Option.some.inj hf) (dg ddX3_quietestFor 46 rfl)
    · have hf := it_f h1 hf
      refine lv_aload_n hx hb (dg ddX3_quietestFor 9 rfl) rfl (lv_at hl 0 rfl) ?_
      refine lv_iload hx hb (dg ddX3_quietestFor 10 rfl) (lv_at hl 4 rfl) ?_
      refine lv_iload_n hx hb (dg ddX3_quietestFor 11 rfl) rfl (lv_at hl 1 rfl) ?_
      obtain ⟨r3, e2, hf⟩ := ob_some hf
      refine cro_vf CX hml (As := [.int x4, .int a1]) (rest := []) (c_X3_noiseOf l D cy q v_hour v_crowd v_buskers v_answered v_draws v_lim v_cmp v_sof v_kin v_lou v_pit v_pla v_cas v_hrs v_nws v_hat v_wea v_row x4 a1 e2) lk_RX3_127 rfl rfl hRMX3_noiseOf hP hK hN 0 rfl rfl rfl hl.1 rfl (Nat.le_of_ble_eq_true rfl) ⟨Nat.le_of_ble_eq_true rfl, Nat.le_of_ble_eq_true rfl⟩ (dg ddX3_quietestFor 12 rfl) ?_
      refine lv_fstore (lv' := [(5, .float r3), (0, .ref (q 0)), (1, .int a1), (2, .int x2), (3, .float x3), (4, .int x4)]) hx hb (dg ddX3_quietestFor 13 rfl) hl (by decide) rfl (fun ls hl => ?_)
      refine lv_aload_n hx hb (dg ddX3_quietestFor 14 rfl) rfl (lv_at hl 1 rfl) ?_
      refine lv_iload hx hb (dg ddX3_quietestFor 15 rfl) (lv_at hl 5 rfl) ?_
      obtain ⟨r5, e4, hf⟩ := ob_some hf
      refine cro_vi CX hml (As := [.int x4]) (rest := []) (c_X3_playerOn l D cy q v_hour v_crowd v_buskers v_answered v_draws v_lim v_cmp v_sof v_kin v_lou v_pit v_pla v_cas v_hrs v_nws v_hat v_wea v_row x4 e4) lk_RX3_102 rfl rfl hRMX3_playerOn hP hK hN 0 rfl rfl rfl hl.1 rfl (Nat.le_of_ble_eq_true rfl) ⟨Nat.le_of_ble_eq_true rfl, Nat.le_of_ble_eq_true rfl⟩ (dg ddX3_quietestFor 16 rfl) ?_
      refine lv_iconst (v := (-1)) hx hb (dg ddX3_quietestFor 17 rfl) (by decide) ?_
      refine lv_icmp_ne (tgt := 50) hx hb (dg ddX3_quietestFor 18 rfl) (by decide) (fun h6 => ?_) (fun h6 => ?_)
      · have hf := it_f h6 hf
        exact K50 (f_X3_quietestFor_c7 v_lim v_kin v_lou v_pit a1 n) ih  x2 x3 x4 r3 _ (lv_sub hl [1, 2, 3, 4, 5, 0] rfl) hf
      · have hf := it_t h6 hf
        refine lv_fload hx hb (dg ddX3_quietestFor 19 rfl) (lv_at hl 0 rfl) ?_
        refine lv_aload_n hx hb (dg ddX3_quietestFor 20 rfl) rfl (lv_at hl 1 rfl) ?_
        refine gf_RX3_27 CX hK hP 0 rfl rfl (dg ddX3_quietestFor 21 rfl) ?_
        refine lv_iload hx hb (dg ddX3_quietestFor 22 rfl) (lv_at hl 5 rfl) ?_
        obtain ⟨h7, hf⟩ := og_some hf
        refine va_fald hx hb hK hP 1 1 rfl rfl (inb_in h7) (dg ddX3_quietestFor 23 rfl) ?_
        refine lv_fcmp hx hb (dg ddX3_quietestFor 24 rfl) ?_
        refine lv_if_gt (tgt := 50) hx hb (dg ddX3_quietestFor 25 rfl) (by decide) (fun h8 => ?_) (fun h8 => ?_)
        · have hf := it_t h8 hf
          exact K50 (f_X3_quietestFor_c7 v_lim v_kin v_lou v_pit a1 n) ih  x2 x3 x4 r3 _ (lv_sub hl [1, 2, 3, 4, 5, 0] rfl) hf
        · have hf := it_f h8 hf
          refine lv_iconst (v := 1) hx hb (dg ddX3_quietestFor 26 rfl) (by decide) ?_
          refine lv_goto (tgt := 51) hx hb (dg ddX3_quietestFor 27 rfl) (by decide) ?_
          exact K51 (f_X3_quietestFor_c7 v_lim v_kin v_lou v_pit a1 n) ih  x2 x3 x4 r3 1 _ (lv_sub hl [1, 2, 3, 4, 5, 0] rfl) hf
  refine lv_iconst (v := (-1)) hx hb (dg ddX3_quietestFor 0 rfl) (by decide) ?_
  refine lv_istore_n (lv' := [(2, .int (-1)), (0, .ref (q 0)), (1, .int a1)]) hx hb (dg ddX3_quietestFor 1 rfl) rfl hl (by decide) rfl (fun ls hl => ?_)
  refine lv_fconst0 hx hb (dg ddX3_quietestFor 2 rfl) ?_
  refine lv_fstore_n (lv' := [(3, .float FP.fconst0), (2, .int (-1)), (0, .ref (q 0)), (1, .int a1)]) hx hb (dg ddX3_quietestFor 3 rfl) rfl hl (by decide) rfl (fun ls hl => ?_)
  refine lv_iconst (v := 0) hx hb (dg ddX3_quietestFor 4 rfl) (by decide) ?_
  refine lv_istore (lv' := [(4, .int 0), (3, .float FP.fconst0), (2, .int (-1)), (0, .ref (q 0)), (1, .int a1)]) hx hb (dg ddX3_quietestFor 5 rfl) hl (by decide) rfl (fun ls hl => ?_)
  exact K7 4096 (-1) FP.fconst0 0 _ (lv_sub hl [3, 4, 2, 1, 0] rfl) hf
def f_X3_wearOfHour (v_lou : Nat → Int32) (a1 : Int32) : Option (UInt32) := og (inb a1 8) (og (n32 (FP.fmul 1028443341 (FP.i2f (v_lou a1.toNatClampNeg)))) (some (FP.fmul 1028443341 (FP.i2f (v_lou a1.toNatClampNeg)))))
set_option maxHeartbeats 4000000 in
set_option maxRecDepth 100000 in
theorem c_X3_wearOfHour (l : Launch) (D : va_G) (cy : Nat → ClassId) (q : Nat → Nat) (v_hour : Int32) (v_crowd : Int32) (v_buskers : Int32) (v_answered : Int32) (v_draws : Int32) (v_lim : Nat → UInt32) (v_cmp : Nat → Int32) (v_sof : Nat → Int32) (v_kin : Nat → Int32) (v_lou : Nat → Int32) (v_pit : Nat → Int32) (v_pla : Nat → Int32) (v_cas : Nat → Int32) (v_hrs : Nat → Int32) (v_nws : Nat → Int32) (v_hat : Nat → UInt32) (v_wea : Nat → UInt32) (v_row : Nat → UInt32) (a1 : Int32) {res : UInt32} (hf : f_X3_wearOfHour v_lou a1 = some res) : Met l yX3_wearOfHour (.code yX3_wearOfHour cX3_wearOfHour 2 (some .float) :: lw_all) { frames := 1, cells := 0, slots := 0, locals := 12 } (va_Pc [.ref (q 0), .int a1] (sR D cy (wX3 q cy v_hour v_crowd v_buskers v_answered v_draws v_lim v_cmp v_sof v_kin v_lou v_pit v_pla v_cas v_hrs v_nws v_hat v_wea v_row))) (vp_Sf (fun r => r = res)) 0 0 (fun _ => False) := by
  refine mk_ro (Rc := RX3) (by decide +kernel) rfl (Nat.le_of_ble_eq_true rfl) ?_
  intro p e s m args below meth c ls CX hml hr hlk hK hN hP hl
  have hx := CX.1
  have hb := CX.2.1
  refine lv_ldcf hx hb CX.2.2.2 (CX.2.2.1 (.constantFloat RX3 131 (1028443341)) (lw_at 561 (by decide +kernel))) (dg ddX3_wearOfHour 0 rfl) ?_
  refine lv_aload_n hx hb (dg ddX3_wearOfHour 1 rfl) rfl (lv_at hl 0 rfl) ?_
  refine gf_RX3_41 CX hK hP 0 rfl rfl (dg ddX3_wearOfHour 2 rfl) ?_
  refine lv_iload_n hx hb (dg ddX3_wearOfHour 3 rfl) rfl (lv_at hl 1 rfl) ?_
  obtain ⟨h1, hf⟩ := og_some hf
  refine va_iald hx hb hK hP 5 0 rfl rfl (inb_in h1) (dg ddX3_wearOfHour 4 rfl) ?_
  refine lv_i2f hx hb (dg ddX3_wearOfHour 5 rfl) ?_
  obtain ⟨h2, hf⟩ := og_some hf
  refine lv_fmul hx hb (dg ddX3_wearOfHour 6 rfl) (n32_in h2) ?_
  exact e_rf CX hr hlk (Option.some.inj hf) (dg ddX3_wearOfHour 7 rfl)
def f_X3_hoursUntilSnapped_c9  (v_lou : Nat → Int32) (v_wea : Nat → UInt32) (a1 : Int32) : Nat → Int32 → UInt32 → Option (Int32)
  | 0, _, _ => none
  | n + 1, x2, x3 => if 0 ≤ (Op.cmpValue (FP.fcmp x3 FP.fconst1) .g) then (some x2) else (if 1000 ≤ x2 then (some x2) else (ob (f_X3_wearOfHour v_lou a1) fun r4 => (og (n32 (FP.fadd x3 r4)) (f_X3_hoursUntilSnapped_c9 v_lou v_wea a1 n (x2 + 1) (FP.fadd x3 r4)))))
def f_X3_hoursUntilSnapped (v_lou : Nat → Int32) (v_wea : Nat → UInt32) (a1 : Int32) : Option (Int32) := og (inb a1 8) (f_X3_hoursUntilSnapped_c9 v_lou v_wea a1 4096 0 (v_wea a1.toNatClampNeg))
set_option maxHeartbeats 4000000 in
set_option maxRecDepth 100000 in
theorem c_X3_hoursUntilSnapped (l : Launch) (D : va_G) (cy : Nat → ClassId) (q : Nat → Nat) (v_hour : Int32) (v_crowd : Int32) (v_buskers : Int32) (v_answered : Int32) (v_draws : Int32) (v_lim : Nat → UInt32) (v_cmp : Nat → Int32) (v_sof : Nat → Int32) (v_kin : Nat → Int32) (v_lou : Nat → Int32) (v_pit : Nat → Int32) (v_pla : Nat → Int32) (v_cas : Nat → Int32) (v_hrs : Nat → Int32) (v_nws : Nat → Int32) (v_hat : Nat → UInt32) (v_wea : Nat → UInt32) (v_row : Nat → UInt32) (a1 : Int32) {res : Int32} (hf : f_X3_hoursUntilSnapped v_lou v_wea a1 = some res) : Met l yX3_hoursUntilSnapped (.code yX3_hoursUntilSnapped cX3_hoursUntilSnapped 4 (some .int) :: lw_all) { frames := 2, cells := 0, slots := 0, locals := 33 } (va_Pc [.ref (q 0), .int a1] (sR D cy (wX3 q cy v_hour v_crowd v_buskers v_answered v_draws v_lim v_cmp v_sof v_kin v_lou v_pit v_pla v_cas v_hrs v_nws v_hat v_wea v_row))) (vp_Si (fun r => r = res)) 0 0 (fun _ => False) := by
  refine mk_ro (Rc := RX3) (by decide +kernel) rfl (Nat.le_of_ble_eq_true rfl) ?_
  intro p e s m args below meth c ls CX hml hr hlk hK hN hP hl
  have hx := CX.1
  have hb := CX.2.1
  have hRMX3_wearOfHour : (⟨1, 0, 0, 12⟩ : Room).frames + 1 ≤ (⟨2, 0, 0, 33⟩ : Room).frames ∧ 8 + (2 + 11) + (⟨1, 0, 0, 12⟩ : Room).locals ≤ (⟨2, 0, 0, 33⟩ : Room).locals := ⟨Nat.le_of_ble_eq_true rfl, Nat.le_of_ble_eq_true rfl⟩
  have hl0 := hl
  have K9 : ∀ (n : Nat), ∀ (x2 : Int32) (x3 : UInt32) (ls : Array Slot) (hl : lv_has ls 4 [(0, .ref (q 0)), (1, .int a1), (2, .int x2), (3, .float x3)]) (hf : f_X3_hoursUntilSnapped_c9 v_lou v_wea a1 n x2 x3 = some res), W p l e ⟨2, 0, 0, 33⟩ s m args below meth c s.heap [] 0 0 (MQ below (vp_Si (fun r => r = res)) args s 0 0 (fun _ => False)) (F0 m 9 ls []) := by
    intro n
    induction n with
    | zero => intro x2 x3 ls hl hf; cases (show none = some res from hf)
    | succ n ih =>
    intro x2 x3 ls hl hf
    refine lv_fload_n hx hb (dg ddX3_hoursUntilSnapped 7 rfl) rfl (lv_at hl 3 rfl) ?_
    refine lv_fconst1 hx hb (dg ddX3_hoursUntilSnapped 8 rfl) ?_
    refine lv_fcmp hx hb (dg ddX3_hoursUntilSnapped 9 rfl) ?_
    refine lv_if_ge (tgt := 36) hx hb (dg ddX3_hoursUntilSnapped 10 rfl) (by decide) (fun h1 => ?_) (fun h1 => ?_)
    · have hf := it_t h1 hf
      refine lv_iload_n hx hb (dg ddX3_hoursUntilSnapped 22 rfl) rfl (lv_at hl 2 rfl) ?_
      exact e_ri CX hr hlk (Option.some.inj hf) (dg ddX3_hoursUntilSnapped 23 rfl)
    · have hf := it_f h1 hf
      refine lv_iload_n hx hb (dg ddX3_hoursUntilSnapped 11 rfl) rfl (lv_at hl 2 rfl) ?_
      refine lv_sipush (v := 1000) hx hb (dg ddX3_hoursUntilSnapped 12 rfl) (by decide) ?_
      refine lv_icmp_ge (tgt := 36) hx hb (dg ddX3_hoursUntilSnapped 13 rfl) (by decide) (fun h2 => ?_) (fun h2 => ?_)
      · have hf := it_t h2 hf
        refine lv_iload_n hx hb (dg ddX3_hoursUntilSnapped 22 rfl) rfl (lv_at hl 2 rfl) ?_
        exact e_ri CX hr hlk (Option.some.inj hf) (dg ddX3_hoursUntilSnapped 23 rfl)
      · have hf := it_f h2 hf
        refine lv_fload_n hx hb (dg ddX3_hoursUntilSnapped 14 rfl) rfl (lv_at hl 3 rfl) ?_
        refine lv_aload_n hx hb (dg ddX3_hoursUntilSnapped 15 rfl) rfl (lv_at hl 0 rfl) ?_
        refine lv_iload_n hx hb (dg ddX3_hoursUntilSnapped 16 rfl) rfl (lv_at hl 1 rfl) ?_
        obtain ⟨r4, e3, hf⟩ := ob_some hf
        refine cro_vf CX hml (As := [.int a1]) (rest := [.float x3]) (c_X3_wearOfHour l D cy q v_hour v_crowd v_buskers v_answered v_draws v_lim v_cmp v_sof v_kin v_lou v_pit v_pla v_cas v_hrs v_nws v_hat v_wea v_row a1 e3) lk_RX3_132 rfl rfl hRMX3_wearOfHour hP hK hN 0 rfl rfl rfl hl.1 rfl (Nat.le_of_ble_eq_true rfl) ⟨Nat.le_of_ble_eq_true rfl, Nat.le_of_ble_eq_true rfl⟩ (dg ddX3_hoursUntilSnapped 17 rfl) ?_
        obtain ⟨h5, hf⟩ := og_some hf
        refine lv_fadd hx hb (dg ddX3_hoursUntilSnapped 18 rfl) (n32_in h5) ?_
        refine lv_fstore_n (lv' := [(3, .float (FP.fadd x3 r4)), (0, .ref (q 0)), (1, .int a1), (2, .int x2)]) hx hb (dg ddX3_hoursUntilSnapped 19 rfl) rfl hl (by decide) rfl (fun ls hl => ?_)
        refine lv_iinc (v := x2 + 1) (lv' := [(2, .int (x2 + 1)), (3, .float (FP.fadd x3 r4)), (0, .ref (q 0)), (1, .int a1)]) hx hb (dg ddX3_hoursUntilSnapped 20 rfl) hl (k := 3) rfl (congrArg (HAdd.hAdd x2) (by decide)) (by decide) rfl (fun ls hl => ?_)
        refine lv_goto (tgt := 9) hx hb (dg ddX3_hoursUntilSnapped 21 rfl) (by decide) ?_
        exact ih (x2 + 1) (FP.fadd x3 r4) _ (lv_sub hl [2, 3, 0, 1] rfl) hf
  refine lv_iconst (v := 0) hx hb (dg ddX3_hoursUntilSnapped 0 rfl) (by decide) ?_
  refine lv_istore_n (lv' := [(2, .int 0), (0, .ref (q 0)), (1, .int a1)]) hx hb (dg ddX3_hoursUntilSnapped 1 rfl) rfl hl (by decide) rfl (fun ls hl => ?_)
  refine lv_aload_n hx hb (dg ddX3_hoursUntilSnapped 2 rfl) rfl (lv_at hl 1 rfl) ?_
  refine gf_RX3_62 CX hK hP 0 rfl rfl (dg ddX3_hoursUntilSnapped 3 rfl) ?_
  refine lv_iload_n hx hb (dg ddX3_hoursUntilSnapped 4 rfl) rfl (lv_at hl 2 rfl) ?_
  obtain ⟨h1, hf⟩ := og_some hf
  refine va_fald hx hb hK hP 12 1 rfl rfl (inb_in h1) (dg ddX3_hoursUntilSnapped 5 rfl) ?_
  refine lv_fstore_n (lv' := [(3, .float (v_wea a1.toNatClampNeg)), (2, .int 0), (0, .ref (q 0)), (1, .int a1)]) hx hb (dg ddX3_hoursUntilSnapped 6 rfl) rfl hl (by decide) rfl (fun ls hl => ?_)
  exact K9 4096 0 (v_wea a1.toNatClampNeg) _ (lv_sub hl [2, 3, 1, 0] rfl) hf
def f_X3_takings (v_crowd : Int32) (v_cmp : Nat → Int32) (v_lou : Nat → Int32) (a1 : Int32) (a2 : Int32) : Option (UInt32) := og (n32 (FP.fmul 1036831949 (FP.i2f v_crowd))) (og (inb a2 8) (og (n32 (FP.fmul (FP.fmul 1036831949 (FP.i2f v_crowd)) (FP.i2f (v_lou a2.toNatClampNeg)))) (og (inb a1 8) (og (n32 (FP.fadd FP.fconst1 (FP.i2f (v_cmp a1.toNatClampNeg)))) (og (n32 (FP.fdiv (FP.fmul (FP.fmul 1036831949 (FP.i2f v_crowd)) (FP.i2f (v_lou a2.toNatClampNeg))) (FP.fadd FP.fconst1 (FP.i2f (v_cmp a1.toNatClampNeg))))) (some (FP.fdiv (FP.fmul (FP.fmul 1036831949 (FP.i2f v_crowd)) (FP.i2f (v_lou a2.toNatClampNeg))) (FP.fadd FP.fconst1 (FP.i2f (v_cmp a1.toNatClampNeg))))))))))
set_option maxHeartbeats 4000000 in
set_option maxRecDepth 100000 in
theorem c_X3_takings (l : Launch) (D : va_G) (cy : Nat → ClassId) (q : Nat → Nat) (v_hour : Int32) (v_crowd : Int32) (v_buskers : Int32) (v_answered : Int32) (v_draws : Int32) (v_lim : Nat → UInt32) (v_cmp : Nat → Int32) (v_sof : Nat → Int32) (v_kin : Nat → Int32) (v_lou : Nat → Int32) (v_pit : Nat → Int32) (v_pla : Nat → Int32) (v_cas : Nat → Int32) (v_hrs : Nat → Int32) (v_nws : Nat → Int32) (v_hat : Nat → UInt32) (v_wea : Nat → UInt32) (v_row : Nat → UInt32) (a1 : Int32) (a2 : Int32) {res : UInt32} (hf : f_X3_takings v_crowd v_cmp v_lou a1 a2 = some res) : Met l yX3_takings (.code yX3_takings cX3_takings 3 (some .float) :: lw_all) { frames := 1, cells := 0, slots := 0, locals := 12 } (va_Pc [.ref (q 0), .int a1, .int a2] (sR D cy (wX3 q cy v_hour v_crowd v_buskers v_answered v_draws v_lim v_cmp v_sof v_kin v_lou v_pit v_pla v_cas v_hrs v_nws v_hat v_wea v_row))) (vp_Sf (fun r => r = res)) 0 0 (fun _ => False) := by
  refine mk_ro (Rc := RX3) (by decide +kernel) rfl (Nat.le_of_ble_eq_true rfl) ?_
  intro p e s m args below meth c ls CX hml hr hlk hK hN hP hl
  have hx := CX.1
  have hb := CX.2.1
  refine lv_ldcf hx hb CX.2.2.2 (CX.2.2.1 (.constantFloat RX3 148 (1036831949)) (lw_at 556 (by decide +kernel))) (dg ddX3_takings 0 rfl) ?_
  refine lv_aload_n hx hb (dg ddX3_takings 1 rfl) rfl (lv_at hl 0 rfl) ?_
  refine gf_RX3_15 CX hK hP 0 rfl rfl (dg ddX3_takings 2 rfl) ?_
  refine lv_i2f hx hb (dg ddX3_takings 3 rfl) ?_
  obtain ⟨h1, hf⟩ := og_some hf
  refine lv_fmul hx hb (dg ddX3_takings 4 rfl) (n32_in h1) ?_
  refine lv_aload_n hx hb (dg ddX3_takings 5 rfl) rfl (lv_at hl 0 rfl) ?_
  refine gf_RX3_41 CX hK hP 0 rfl rfl (dg ddX3_takings 6 rfl) ?_
  refine lv_iload_n hx hb (dg ddX3_takings 7 rfl) rfl (lv_at hl 2 rfl) ?_
  obtain ⟨h2, hf⟩ := og_some hf
  refine va_iald hx hb hK hP 5 0 rfl rfl (inb_in h2) (dg ddX3_takings 8 rfl) ?_
  refine lv_i2f hx hb (dg ddX3_takings 9 rfl) ?_
  obtain ⟨h3, hf⟩ := og_some hf
  refine lv_fmul hx hb (dg ddX3_takings 10 rfl) (n32_in h3) ?_
  refine lv_fconst1 hx hb (dg ddX3_takings 11 rfl) ?_
  refine lv_aload_n hx hb (dg ddX3_takings 12 rfl) rfl (lv_at hl 0 rfl) ?_
  refine gf_RX3_31 CX hK hP 0 rfl rfl (dg ddX3_takings 13 rfl) ?_
  refine lv_iload_n hx hb (dg ddX3_takings 14 rfl) rfl (lv_at hl 1 rfl) ?_
  obtain ⟨h4, hf⟩ := og_some hf
  refine va_iald hx hb hK hP 2 0 rfl rfl (inb_in h4) (dg ddX3_takings 15 rfl) ?_
  refine lv_i2f hx hb (dg ddX3_takings 16 rfl) ?_
  obtain ⟨h5, hf⟩ := og_some hf
  refine lv_fadd hx hb (dg ddX3_takings 17 rfl) (n32_in h5) ?_
  obtain ⟨h6, hf⟩ := og_some hf
  refine lv_fdiv hx hb (dg ddX3_takings 18 rfl) (n32_in h6) ?_
  exact e_rf CX hr hlk (Option.some.inj hf) (dg ddX3_takings 19 rfl)
def f_X3_playHour_c118  (v_crowd : Int32) (v_lim : Nat → UInt32) (v_kin : Nat → Int32) (v_lou : Nat → Int32) (v_row : Nat → UInt32) (a1 : Int32) (a2 : Int32) (x4 : Int32) (v_cmp : Nat → Int32) (v_sof : Nat → Int32) (v_hrs : Nat → Int32) (v_hat : Nat → UInt32) (v_wea : Nat → UInt32) : Option (Int32 × (Nat → Int32) × (Nat → Int32) × (Nat → Int32) × (Nat → UInt32) × (Nat → UInt32)) := og (inb a2 8) (og (inb a2 8) (ob (f_X3_isSnapped v_wea a2) fun r4 => (if r4 = 0 then (if x4 = 0 then (some (0, v_cmp, v_sof, (upd v_hrs a2.toNatClampNeg ((v_hrs a2.toNatClampNeg) + 1)), v_hat, v_wea)) else (og (inb a1 8) (if (v_cmp a1.toNatClampNeg) < 3 then (some (0, v_cmp, v_sof, (upd v_hrs a2.toNatClampNeg ((v_hrs a2.toNatClampNeg) + 1)), v_hat, v_wea)) else (some (1, v_cmp, v_sof, (upd v_hrs a2.toNatClampNeg ((v_hrs a2.toNatClampNeg) + 1)), v_hat, v_wea))))) else (some (1, v_cmp, v_sof, (upd v_hrs a2.toNatClampNeg ((v_hrs a2.toNatClampNeg) + 1)), v_hat, v_wea)))))
def f_X3_playHour_c91  (v_crowd : Int32) (v_lim : Nat → UInt32) (v_kin : Nat → Int32) (v_lou : Nat → Int32) (v_row : Nat → UInt32) (a1 : Int32) (a2 : Int32) (x4 : Int32) (v_cmp : Nat → Int32) (v_sof : Nat → Int32) (v_hrs : Nat → Int32) (v_hat : Nat → UInt32) (v_wea : Nat → UInt32) : Option (Int32 × (Nat → Int32) × (Nat → Int32) × (Nat → Int32) × (Nat → UInt32) × (Nat → UInt32)) := og (inb a2 8) (if (v_kin a2.toNatClampNeg) = 0 then (og (inb a2 8) (ob (f_X3_wearOfHour v_lou a2) fun r5 => (og (n32 (FP.fadd (v_wea a2.toNatClampNeg) r5)) (og (inb a2 8) (f_X3_playHour_c118 v_crowd v_lim v_kin v_lou v_row a1 a2 x4 v_cmp v_sof v_hrs v_hat (vf_upd v_wea a2.toNatClampNeg (FP.fadd (v_wea a2.toNatClampNeg) r5))))))) else (f_X3_playHour_c118 v_crowd v_lim v_kin v_lou v_row a1 a2 x4 v_cmp v_sof v_hrs v_hat v_wea))
def f_X3_playHour_c68  (v_crowd : Int32) (v_lim : Nat → UInt32) (v_kin : Nat → Int32) (v_lou : Nat → Int32) (v_row : Nat → UInt32) (a1 : Int32) (a2 : Int32) (x3 : Int32) (x4 : Int32) (v_cmp : Nat → Int32) (v_sof : Nat → Int32) (v_hrs : Nat → Int32) (v_hat : Nat → UInt32) (v_wea : Nat → UInt32) : Option (Int32 × (Nat → Int32) × (Nat → Int32) × (Nat → Int32) × (Nat → UInt32) × (Nat → UInt32)) := if x3 = 0 then (og (inb a2 8) (ob (f_X3_takings v_crowd v_cmp v_lou a1 a2) fun r4 => (og (n32 (FP.fadd (v_hat a2.toNatClampNeg) r4)) (og (inb a2 8) (f_X3_playHour_c91 v_crowd v_lim v_kin v_lou v_row a1 a2 x4 v_cmp v_sof v_hrs (vf_upd v_hat a2.toNatClampNeg (FP.fadd (v_hat a2.toNatClampNeg) r4)) v_wea))))) else (f_X3_playHour_c91 v_crowd v_lim v_kin v_lou v_row a1 a2 x4 v_cmp v_sof v_hrs v_hat v_wea)
def f_X3_playHour_c41  (v_crowd : Int32) (v_lim : Nat → UInt32) (v_kin : Nat → Int32) (v_lou : Nat → Int32) (v_row : Nat → UInt32) (a1 : Int32) (a2 : Int32) (x3 : Int32) (t0 : Int32) (v_cmp : Nat → Int32) (v_sof : Nat → Int32) (v_hrs : Nat → Int32) (v_hat : Nat → UInt32) (v_wea : Nat → UInt32) : Option (Int32 × (Nat → Int32) × (Nat → Int32) × (Nat → Int32) × (Nat → UInt32) × (Nat → UInt32)) := if t0 = 0 then (f_X3_playHour_c68 v_crowd v_lim v_kin v_lou v_row a1 a2 x3 t0 v_cmp v_sof v_hrs v_hat v_wea) else (og (inb a1 8) (og (inb a1 8) (og (inb a1 8) (og (inb a1 8) (f_X3_playHour_c68 v_crowd v_lim v_kin v_lou v_row a1 a2 x3 t0 (upd v_cmp a1.toNatClampNeg ((v_cmp a1.toNatClampNeg) + 1)) (upd v_sof a1.toNatClampNeg ((v_sof a1.toNatClampNeg) + 1)) v_hrs v_hat v_wea)))))
def f_X3_playHour_c40  (v_crowd : Int32) (v_lim : Nat → UInt32) (v_kin : Nat → Int32) (v_lou : Nat → Int32) (v_row : Nat → UInt32) (a1 : Int32) (a2 : Int32) (x3 : Int32) (v_cmp : Nat → Int32) (v_sof : Nat → Int32) (v_hrs : Nat → Int32) (v_hat : Nat → UInt32) (v_wea : Nat → UInt32) : Option (Int32 × (Nat → Int32) × (Nat → Int32) × (Nat → Int32) × (Nat → UInt32) × (Nat → UInt32)) := f_X3_playHour_c41 v_crowd v_lim v_kin v_lou v_row a1 a2 x3 0 v_cmp v_sof v_hrs v_hat v_wea
def f_X3_playHour_c20  (v_crowd : Int32) (v_lim : Nat → UInt32) (v_kin : Nat → Int32) (v_lou : Nat → Int32) (v_row : Nat → UInt32) (a1 : Int32) (a2 : Int32) (t0 : Int32) (v_cmp : Nat → Int32) (v_sof : Nat → Int32) (v_hrs : Nat → Int32) (v_hat : Nat → UInt32) (v_wea : Nat → UInt32) : Option (Int32 × (Nat → Int32) × (Nat → Int32) × (Nat → Int32) × (Nat → UInt32) × (Nat → UInt32)) := if t0 = 0 then (f_X3_playHour_c40 v_crowd v_lim v_kin v_lou v_row a1 a2 t0 v_cmp v_sof v_hrs v_hat v_wea) else (og (inb a1 8) (if 99 ≤ (v_cmp a1.toNatClampNeg) then (f_X3_playHour_c40 v_crowd v_lim v_kin v_lou v_row a1 a2 t0 v_cmp v_sof v_hrs v_hat v_wea) else (f_X3_playHour_c41 v_crowd v_lim v_kin v_lou v_row a1 a2 t0 1 v_cmp v_sof v_hrs v_hat v_wea)))
def f_X3_playHour (v_crowd : Int32) (v_lim : Nat → UInt32) (v_cmp : Nat → Int32) (v_sof : Nat → Int32) (v_kin : Nat → Int32) (v_lou : Nat → Int32) (v_hrs : Nat → Int32) (v_hat : Nat → UInt32) (v_wea : Nat → UInt32) (v_row : Nat → UInt32) (a1 : Int32) (a2 : Int32) : Option (Int32 × (Nat → Int32) × (Nat → Int32) × (Nat → Int32) × (Nat → UInt32) × (Nat → UInt32)) := ob (f_X3_noiseByRow v_row a1) fun r2 => (og (inb a1 8) (if (Op.cmpValue (FP.fcmp r2 (v_lim a1.toNatClampNeg)) .l) ≤ 0 then (f_X3_playHour_c20 v_crowd v_lim v_kin v_lou v_row a1 a2 0 v_cmp v_sof v_hrs v_hat v_wea) else (f_X3_playHour_c20 v_crowd v_lim v_kin v_lou v_row a1 a2 1 v_cmp v_sof v_hrs v_hat v_wea)))
set_option maxHeartbeats 4000000 in
set_option maxRecDepth 100000 in
theorem c_X3_playHour (l : Launch) (D : va_G) (cy : Nat → ClassId) (q : Nat → Nat) (v_hour : Int32) (v_crowd : Int32) (v_buskers : Int32) (v_answered : Int32) (v_draws : Int32) (v_lim : Nat → UInt32) (v_cmp : Nat → Int32) (v_sof : Nat → Int32) (v_kin : Nat → Int32) (v_lou : Nat → Int32) (v_pit : Nat → Int32) (v_pla : Nat → Int32) (v_cas : Nat → Int32) (v_hrs : Nat → Int32) (v_nws : Nat → Int32) (v_hat : Nat → UInt32) (v_wea : Nat → UInt32) (v_row : Nat → UInt32) (a1 : Int32) (a2 : Int32) (sz : Nat) {res : Int32 × (Nat → Int32) × (Nat → Int32) × (Nat → Int32) × (Nat → UInt32) × (Nat → UInt32)} (hf : f_X3_playHour v_crowd v_lim v_cmp v_sof v_kin v_lou v_hrs v_hat v_wea v_row a1 a2 = some res) : Met l yX3_playHour (.code yX3_playHour cX3_playHour 5 (some .boolean) :: lw_all) { frames := 2, cells := 0, slots := 0, locals := 34 } (va_Pc [.ref (q 0), .int a1, .int a2] (sW D cy (wX3 q cy v_hour v_crowd v_buskers v_answered v_draws v_lim v_cmp v_sof v_kin v_lou v_pit v_pla v_cas v_hrs v_nws v_hat v_wea v_row) sz)) (qI D (wX3 q cy v_hour v_crowd v_buskers v_answered v_draws v_lim res.2.1 res.2.2.1 v_kin v_lou v_pit v_pla v_cas res.2.2.2.1 v_nws res.2.2.2.2.1 res.2.2.2.2.2 v_row) res.1 (va_A (wX3 q cy v_hour v_crowd v_buskers v_answered v_draws v_lim v_cmp v_sof v_kin v_lou v_pit v_pla v_cas v_hrs v_nws v_hat v_wea v_row) sz)) 0 0 (va_A (wX3 q cy v_hour v_crowd v_buskers v_answered v_draws v_lim v_cmp v_sof v_kin v_lou v_pit v_pla v_cas v_hrs v_nws v_hat v_wea v_row) sz) := by
  refine mk_rw (Qc := qI D (wX3 q cy v_hour v_crowd v_buskers v_answered v_draws v_lim res.2.1 res.2.2.1 v_kin v_lou v_pit v_pla v_cas res.2.2.2.1 v_nws res.2.2.2.2.1 res.2.2.2.2.2 v_row) res.1) (Rc := RX3) (by decide +kernel) rfl (Nat.le_of_ble_eq_true rfl) ?_
  intro p e s m args below meth c ls A CX hml hr hlk hK hN hP hD hS hA hl
  have hx := CX.1
  have hb := CX.2.1
  have hRMX3_isSnapped : (⟨1, 0, 0, 12⟩ : Room).frames + 1 ≤ (⟨2, 0, 0, 34⟩ : Room).frames ∧ 8 + (2 + 11) + (⟨1, 0, 0, 12⟩ : Room).locals ≤ (⟨2, 0, 0, 34⟩ : Room).locals := ⟨Nat.le_of_ble_eq_true rfl, Nat.le_of_ble_eq_true rfl⟩
  have hRMX3_noiseByRow : (⟨1, 0, 0, 12⟩ : Room).frames + 1 ≤ (⟨2, 0, 0, 34⟩ : Room).frames ∧ 8 + (2 + 11) + (⟨1, 0, 0, 12⟩ : Room).locals ≤ (⟨2, 0, 0, 34⟩ : Room).locals := ⟨Nat.le_of_ble_eq_true rfl, Nat.le_of_ble_eq_true rfl⟩
  have hRMX3_takings : (⟨1, 0, 0, 12⟩ : Room).frames + 1 ≤ (⟨2, 0, 0, 34⟩ : Room).frames ∧ 8 + (3 + 11) + (⟨1, 0, 0, 12⟩ : Room).locals ≤ (⟨2, 0, 0, 34⟩ : Room).locals := ⟨Nat.le_of_ble_eq_true rfl, Nat.le_of_ble_eq_true rfl⟩
  have hRMX3_wearOfHour : (⟨1, 0, 0, 12⟩ : Room).frames + 1 ≤ (⟨2, 0, 0, 34⟩ : Room).frames ∧ 8 + (2 + 11) + (⟨1, 0, 0, 12⟩ : Room).locals ≤ (⟨2, 0, 0, 34⟩ : Room).locals := ⟨Nat.le_of_ble_eq_true rfl, Nat.le_of_ble_eq_true rfl⟩
  have hl0 := hl
  have K118 : ∀ (x4 : Int32) (v_cmp : Nat → Int32) (v_sof : Nat → Int32) (v_hrs : Nat → Int32) (v_hat : Nat → UInt32) (v_wea : Nat → UInt32) (H : Heap) (locs : List Loc) (hP : va_P D vwCl (wX3 q cy v_hour v_crowd v_buskers v_answered v_draws v_lim v_cmp v_sof v_kin v_lou v_pit v_pla v_cas v_hrs v_nws v_hat v_wea v_row) H) (hD : va_D A (wX3 q cy v_hour v_crowd v_buskers v_answered v_draws v_lim v_cmp v_sof v_kin v_lou v_pit v_pla v_cas v_hrs v_nws v_hat v_wea v_row)) (hS : va_S A s.heap H locs) (ls : Array Slot) (hl : lv_has ls 5 [(0, .ref (q 0)), (1, .int a1), (2, .int a2), (4, .int x4)]) (hf : f_X3_playHour_c118 v_crowd v_lim v_kin v_lou v_row a1 a2 x4 v_cmp v_sof v_hrs v_hat v_wea = some res), W p l e ⟨2, 0, 0, 34⟩ s m args below meth c H locs 0 0 (MQ below (qI D (wX3 q cy v_hour v_crowd v_buskers v_answered v_draws v_lim res.2.1 res.2.2.1 v_kin v_lou v_pit v_pla v_cas res.2.2.2.1 v_nws res.2.2.2.2.1 res.2.2.2.2.2 v_row) res.1 A) args s 0 0 A) (F0 m 118 ls []) := by
    intro x4 v_cmp v_sof v_hrs v_hat v_wea H locs hP hD hS ls hl hf
    refine lv_aload_n hx hb (dg ddX3_playHour 75 rfl) rfl (lv_at hl 0 rfl) ?_
    refine gf_RX3_53 CX hK hP 0 rfl rfl (dg ddX3_playHour 76 rfl) ?_
    refine lv_iload_n hx hb (dg ddX3_playHour 77 rfl) rfl (lv_at hl 2 rfl) ?_
    refine lv_dup2_11 hx hb (dg ddX3_playHour 78 rfl) rfl rfl ?_
    obtain ⟨h1, hf⟩ := og_some hf
    refine va_iald hx hb hK hP 9 0 rfl rfl (inb_in h1) (dg ddX3_playHour 79 rfl) ?_
    refine lv_iconst (v := 1) hx hb (dg ddX3_playHour 80 rfl) (by decide) ?_
    refine lv_iadd hx hb (dg ddX3_playHour 81 rfl) ?_
    obtain ⟨h2, hf⟩ := og_some hf
    refine va_iast hx hb hK hP hD hS 9 0 rfl rfl (inb_in h2) (dg ddX3_playHour 82 rfl) (fun H locs hP hD hS => ?_)
    have hP : va_P D vwCl (wX3 q cy v_hour v_crowd v_buskers v_answered v_draws v_lim v_cmp v_sof v_kin v_lou v_pit v_pla v_cas (upd v_hrs a2.toNatClampNeg ((v_hrs a2.toNatClampNeg) + 1)) v_nws v_hat v_wea v_row) H := hP
    have hD : va_D A (wX3 q cy v_hour v_crowd v_buskers v_answered v_draws v_lim v_cmp v_sof v_kin v_lou v_pit v_pla v_cas (upd v_hrs a2.toNatClampNeg ((v_hrs a2.toNatClampNeg) + 1)) v_nws v_hat v_wea v_row) := hD
    refine lv_aload_n hx hb (dg ddX3_playHour 83 rfl) rfl (lv_at hl 0 rfl) ?_
    refine lv_iload_n hx hb (dg ddX3_playHour 84 rfl) rfl (lv_at hl 2 rfl) ?_
    obtain ⟨r4, e3, hf⟩ := ob_some hf
    refine cro_vi CX hml (As := [.int a2]) (rest := []) (c_X3_isSnapped l D cy q v_hour v_crowd v_buskers v_answered v_draws v_lim v_cmp v_sof v_kin v_lou v_pit v_pla v_cas (upd v_hrs a2.toNatClampNeg ((v_hrs a2.toNatClampNeg) + 1)) v_nws v_hat v_wea v_row a2 e3) lk_RX3_91 rfl rfl hRMX3_isSnapped hP hK hN 0 rfl rfl rfl hl.1 rfl (Nat.le_of_ble_eq_true rfl) ⟨Nat.le_of_ble_eq_true rfl, Nat.le_of_ble_eq_true rfl⟩ (dg ddX3_playHour 85 rfl) ?_
    refine lv_if_ne (tgt := 151) hx hb (dg ddX3_playHour 86 rfl) (by decide) (fun h5 => ?_) (fun h5 => ?_)
    · have hf := it_f h5 hf
      refine lv_iconst (v := 1) hx hb (dg ddX3_playHour 95 rfl) (by decide) ?_
      refine lv_goto (tgt := 156) hx hb (dg ddX3_playHour 96 rfl) (by decide) ?_
      cases hf
      exact e_wz CX hr hlk (by decide) rfl hP hD hS (dg ddX3_playHour 98 rfl)
    · have hf := it_t h5 hf
      refine lv_iload hx hb (dg ddX3_playHour 87 rfl) (lv_at hl 3 rfl) ?_
      refine lv_if_eq (tgt := 155) hx hb (dg ddX3_playHour 88 rfl) (by decide) (fun h6 => ?_) (fun h6 => ?_)
      · have hf := it_t h6 hf
        refine lv_iconst (v := 0) hx hb (dg ddX3_playHour 97 rfl) (by decide) ?_
        cases hf
        exact e_wz CX hr hlk (by decide) rfl hP hD hS (dg ddX3_playHour 98 rfl)
      · have hf := it_f h6 hf
        refine lv_aload_n hx hb (dg ddX3_playHour 89 rfl) rfl (lv_at hl 0 rfl) ?_
        refine gf_RX3_31 CX hK hP 0 rfl rfl (dg ddX3_playHour 90 rfl) ?_
        refine lv_iload_n hx hb (dg ddX3_playHour 91 rfl) rfl (lv_at hl 1 rfl) ?_
        obtain ⟨h7, hf⟩ := og_some hf
        refine va_iald hx hb hK hP 2 0 rfl rfl (inb_in h7) (dg ddX3_playHour 92 rfl) ?_
        refine lv_iconst (v := 3) hx hb (dg ddX3_playHour 93 rfl) (by decide) ?_
        refine lv_icmp_lt (tgt := 155) hx hb (dg ddX3_playHour 94 rfl) (by decide) (fun h8 => ?_) (fun h8 => ?_)
        · have hf := it_t h8 hf
          refine lv_iconst (v := 0) hx hb (dg ddX3_playHour 97 rfl) (by decide) ?_
          cases hf
          exact e_wz CX hr hlk (by decide) rfl hP hD hS (dg ddX3_playHour 98 rfl)
        · have hf := it_f h8 hf
          refine lv_iconst (v := 1) hx hb (dg ddX3_playHour 95 rfl) (by decide) ?_
          refine lv_goto (tgt := 156) hx hb (dg ddX3_playHour 96 rfl) (by decide) ?_
          cases hf
          exact e_wz CX hr hlk (by decide) rfl hP hD hS (dg ddX3_playHour 98 rfl)
  have K91 : ∀ (x4 : Int32) (v_cmp : Nat → Int32) (v_sof : Nat → Int32) (v_hrs : Nat → Int32) (v_hat : Nat → UInt32) (v_wea : Nat → UInt32) (H : Heap) (locs : List Loc) (hP : va_P D vwCl (wX3 q cy v_hour v_crowd v_buskers v_answered v_draws v_lim v_cmp v_sof v_kin v_lou v_pit v_pla v_cas v_hrs v_nws v_hat v_wea v_row) H) (hD : va_D A (wX3 q cy v_hour v_crowd v_buskers v_answered v_draws v_lim v_cmp v_sof v_kin v_lou v_pit v_pla v_cas v_hrs v_nws v_hat v_wea v_row)) (hS : va_S A s.heap H locs) (ls : Array Slot) (hl : lv_has ls 5 [(0, .ref (q 0)), (1, .int a1), (2, .int a2), (4, .int x4)]) (hf : f_X3_playHour_c91 v_crowd v_lim v_kin v_lou v_row a1 a2 x4 v_cmp v_sof v_hrs v_hat v_wea = some res), W p l e ⟨2, 0, 0, 34⟩ s m args below meth c H locs 0 0 (MQ below (qI D (wX3 q cy v_hour v_crowd v_buskers v_answered v_draws v_lim res.2.1 res.2.2.1 v_kin v_lou v_pit v_pla v_cas res.2.2.2.1 v_nws res.2.2.2.2.1 res.2.2.2.2.2 v_row) res.1 A) args s 0 0 A) (F0 m 91 ls []) := by
    intro x4 v_cmp v_sof v_hrs v_hat v_wea H locs hP hD hS ls hl hf
    refine lv_aload_n hx hb (dg ddX3_playHour 58 rfl) rfl (lv_at hl 0 rfl) ?_
    refine gf_RX3_38 CX hK hP 0 rfl rfl (dg ddX3_playHour 59 rfl) ?_
    refine lv_iload_n hx hb (dg ddX3_playHour 60 rfl) rfl (lv_at hl 2 rfl) ?_
    obtain ⟨h1, hf⟩ := og_some hf
    refine va_iald hx hb hK hP 4 0 rfl rfl (inb_in h1) (dg ddX3_playHour 61 rfl) ?_
    refine lv_if_ne (tgt := 118) hx hb (dg ddX3_playHour 62 rfl) (by decide) (fun h2 => ?_) (fun h2 => ?_)
    · have hf := it_f h2 hf
      exact K118  x4 v_cmp v_sof v_hrs v_hat v_wea _ _ hP hD hS _ (lv_sub hl [0, 1, 2, 3] rfl) hf
    · have hf := it_t h2 hf
      refine lv_aload_n hx hb (dg ddX3_playHour 63 rfl) rfl (lv_at hl 0 rfl) ?_
      refine gf_RX3_62 CX hK hP 0 rfl rfl (dg ddX3_playHour 64 rfl) ?_
      refine lv_iload_n hx hb (dg ddX3_playHour 65 rfl) rfl (lv_at hl 2 rfl) ?_
      refine lv_aload_n hx hb (dg ddX3_playHour 66 rfl) rfl (lv_at hl 0 rfl) ?_
      refine gf_RX3_62 CX hK hP 0 rfl rfl (dg ddX3_playHour 67 rfl) ?_
      refine lv_iload_n hx hb (dg ddX3_playHour 68 rfl) rfl (lv_at hl 2 rfl) ?_
      obtain ⟨h3, hf⟩ := og_some hf
      refine va_fald hx hb hK hP 12 1 rfl rfl (inb_in h3) (dg ddX3_playHour 69 rfl) ?_
      refine lv_aload_n hx hb (dg ddX3_playHour 70 rfl) rfl (lv_at hl 0 rfl) ?_
      refine lv_iload_n hx hb (dg ddX3_playHour 71 rfl) rfl (lv_at hl 2 rfl) ?_
      obtain ⟨r5, e4, hf⟩ := ob_some hf
      refine cro_vf CX hml (As := [.int a2]) (rest := [.float (v_wea a2.toNatClampNeg), .int a2, .ref (q 12)]) (c_X3_wearOfHour l D cy q v_hour v_crowd v_buskers v_answered v_draws v_lim v_cmp v_sof v_kin v_lou v_pit v_pla v_cas v_hrs v_nws v_hat v_wea v_row a2 e4) lk_RX3_132 rfl rfl hRMX3_wearOfHour hP hK hN 0 rfl rfl rfl hl.1 rfl (Nat.le_of_ble_eq_true rfl) ⟨Nat.le_of_ble_eq_true rfl, Nat.le_of_ble_eq_true rfl⟩ (dg ddX3_playHour 72 rfl) ?_
      obtain ⟨h6, hf⟩ := og_some hf
      refine lv_fadd hx hb (dg ddX3_playHour 73 rfl) (n32_in h6) ?_
      obtain ⟨h7, hf⟩ := og_some hf
      refine va_fast hx hb hK hP hD hS 12 1 rfl rfl (inb_in h7) (dg ddX3_playHour 74 rfl) (fun H locs hP hD hS => ?_)
      have hP : va_P D vwCl (wX3 q cy v_hour v_crowd v_buskers v_answered v_draws v_lim v_cmp v_sof v_kin v_lou v_pit v_pla v_cas v_hrs v_nws v_hat (vf_upd v_wea a2.toNatClampNeg (FP.fadd (v_wea a2.toNatClampNeg) r5)) v_row) H := hP
      have hD : va_D A (wX3 q cy v_hour v_crowd v_buskers v_answered v_draws v_lim v_cmp v_sof v_kin v_lou v_pit v_pla v_cas v_hrs v_nws v_hat (vf_upd v_wea a2.toNatClampNeg (FP.fadd (v_wea a2.toNatClampNeg) r5)) v_row) := hD
      exact K118  x4 v_cmp v_sof v_hrs v_hat (vf_upd v_wea a2.toNatClampNeg (FP.fadd (v_wea a2.toNatClampNeg) r5)) _ _ hP hD hS _ (lv_sub hl [0, 1, 2, 3] rfl) hf
  have K68 : ∀ (x3 : Int32) (x4 : Int32) (v_cmp : Nat → Int32) (v_sof : Nat → Int32) (v_hrs : Nat → Int32) (v_hat : Nat → UInt32) (v_wea : Nat → UInt32) (H : Heap) (locs : List Loc) (hP : va_P D vwCl (wX3 q cy v_hour v_crowd v_buskers v_answered v_draws v_lim v_cmp v_sof v_kin v_lou v_pit v_pla v_cas v_hrs v_nws v_hat v_wea v_row) H) (hD : va_D A (wX3 q cy v_hour v_crowd v_buskers v_answered v_draws v_lim v_cmp v_sof v_kin v_lou v_pit v_pla v_cas v_hrs v_nws v_hat v_wea v_row)) (hS : va_S A s.heap H locs) (ls : Array Slot) (hl : lv_has ls 5 [(0, .ref (q 0)), (1, .int a1), (2, .int a2), (3, .int x3), (4, .int x4)]) (hf : f_X3_playHour_c68 v_crowd v_lim v_kin v_lou v_row a1 a2 x3 x4 v_cmp v_sof v_hrs v_hat v_wea = some res), W p l e ⟨2, 0, 0, 34⟩ s m args below meth c H locs 0 0 (MQ below (qI D (wX3 q cy v_hour v_crowd v_buskers v_answered v_draws v_lim res.2.1 res.2.2.1 v_kin v_lou v_pit v_pla v_cas res.2.2.2.1 v_nws res.2.2.2.2.1 res.2.2.2.2.2 v_row) res.1 A) args s 0 0 A) (F0 m 68 ls []) := by
    intro x3 x4 v_cmp v_sof v_hrs v_hat v_wea H locs hP hD hS ls hl hf
    refine lv_iload_n hx hb (dg ddX3_playHour 43 rfl) rfl (lv_at hl 3 rfl) ?_
    refine lv_if_ne (tgt := 91) hx hb (dg ddX3_playHour 44 rfl) (by decide) (fun h1 => ?_) (fun h1 => ?_)
    · have hf := it_f h1 hf
      exact K91  x4 v_cmp v_sof v_hrs v_hat v_wea _ _ hP hD hS _ (lv_sub hl [0, 1, 2, 4] rfl) hf
    · have hf := it_t h1 hf
      refine lv_aload_n hx hb (dg ddX3_playHour 45 rfl) rfl (lv_at hl 0 rfl) ?_
      refine gf_RX3_59 CX hK hP 0 rfl rfl (dg ddX3_playHour 46 rfl) ?_
      refine lv_iload_n hx hb (dg ddX3_playHour 47 rfl) rfl (lv_at hl 2 rfl) ?_
      refine lv_aload_n hx hb (dg ddX3_playHour 48 rfl) rfl (lv_at hl 0 rfl) ?_
      refine gf_RX3_59 CX hK hP 0 rfl rfl (dg ddX3_playHour 49 rfl) ?_
      refine lv_iload_n hx hb (dg ddX3_playHour 50 rfl) rfl (lv_at hl 2 rfl) ?_
      obtain ⟨h2, hf⟩ := og_some hf
      refine va_fald hx hb hK hP 11 1 rfl rfl (inb_in h2) (dg ddX3_playHour 51 rfl) ?_
      refine lv_aload_n hx hb (dg ddX3_playHour 52 rfl) rfl (lv_at hl 0 rfl) ?_
      refine lv_iload_n hx hb (dg ddX3_playHour 53 rfl) rfl (lv_at hl 1 rfl) ?_
      refine lv_iload_n hx hb (dg ddX3_playHour 54 rfl) rfl (lv_at hl 2 rfl) ?_
      obtain ⟨r4, e3, hf⟩ := ob_some hf
      refine cro_vf CX hml (As := [.int a1, .int a2]) (rest := [.float (v_hat a2.toNatClampNeg), .int a2, .ref (q 11)]) (c_X3_takings l D cy q v_hour v_crowd v_buskers v_answered v_draws v_lim v_cmp v_sof v_kin v_lou v_pit v_pla v_cas v_hrs v_nws v_hat v_wea v_row a1 a2 e3) lk_RX3_145 rfl rfl hRMX3_takings hP hK hN 0 rfl rfl rfl hl.1 rfl (Nat.le_of_ble_eq_true rfl) ⟨Nat.le_of_ble_eq_true rfl, Nat.le_of_ble_eq_true rfl⟩ (dg ddX3_playHour 55 rfl) ?_
      obtain ⟨h5, hf⟩ := og_some hf
      refine lv_fadd hx hb (dg ddX3_playHour 56 rfl) (n32_in h5) ?_
      obtain ⟨h6, hf⟩ := og_some hf
      refine va_fast hx hb hK hP hD hS 11 1 rfl rfl (inb_in h6) (dg ddX3_playHour 57 rfl) (fun H locs hP hD hS => ?_)
      have hP : va_P D vwCl (wX3 q cy v_hour v_crowd v_buskers v_answered v_draws v_lim v_cmp v_sof v_kin v_lou v_pit v_pla v_cas v_hrs v_nws (vf_upd v_hat a2.toNatClampNeg (FP.fadd (v_hat a2.toNatClampNeg) r4)) v_wea v_row) H := hP
      have hD : va_D A (wX3 q cy v_hour v_crowd v_buskers v_answered v_draws v_lim v_cmp v_sof v_kin v_lou v_pit v_pla v_cas v_hrs v_nws (vf_upd v_hat a2.toNatClampNeg (FP.fadd (v_hat a2.toNatClampNeg) r4)) v_wea v_row) := hD
      exact K91  x4 v_cmp v_sof v_hrs (vf_upd v_hat a2.toNatClampNeg (FP.fadd (v_hat a2.toNatClampNeg) r4)) v_wea _ _ hP hD hS _ (lv_sub hl [0, 1, 2, 4] rfl) hf
  have K41 : ∀ (x3 : Int32) (t0 : Int32) (v_cmp : Nat → Int32) (v_sof : Nat → Int32) (v_hrs : Nat → Int32) (v_hat : Nat → UInt32) (v_wea : Nat → UInt32) (H : Heap) (locs : List Loc) (hP : va_P D vwCl (wX3 q cy v_hour v_crowd v_buskers v_answered v_draws v_lim v_cmp v_sof v_kin v_lou v_pit v_pla v_cas v_hrs v_nws v_hat v_wea v_row) H) (hD : va_D A (wX3 q cy v_hour v_crowd v_buskers v_answered v_draws v_lim v_cmp v_sof v_kin v_lou v_pit v_pla v_cas v_hrs v_nws v_hat v_wea v_row)) (hS : va_S A s.heap H locs) (ls : Array Slot) (hl : lv_has ls 5 [(0, .ref (q 0)), (1, .int a1), (2, .int a2), (3, .int x3)]) (hf : f_X3_playHour_c41 v_crowd v_lim v_kin v_lou v_row a1 a2 x3 t0 v_cmp v_sof v_hrs v_hat v_wea = some res), W p l e ⟨2, 0, 0, 34⟩ s m args below meth c H locs 0 0 (MQ below (qI D (wX3 q cy v_hour v_crowd v_buskers v_answered v_draws v_lim res.2.1 res.2.2.1 v_kin v_lou v_pit v_pla v_cas res.2.2.2.1 v_nws res.2.2.2.2.1 res.2.2.2.2.2 v_row) res.1 A) args s 0 0 A) (F0 m 41 ls [.int t0]) := by
    intro x3 t0 v_cmp v_sof v_hrs v_hat v_wea H locs hP hD hS ls hl hf
    refine lv_istore (lv' := [(4, .int t0), (0, .ref (q 0)), (1, .int a1), (2, .int a2), (3, .int x3)]) hx hb (dg ddX3_playHour 24 rfl) hl (by decide) rfl (fun ls hl => ?_)
    refine lv_iload hx hb (dg ddX3_playHour 25 rfl) (lv_at hl 0 rfl) ?_
    refine lv_if_eq (tgt := 68) hx hb (dg ddX3_playHour 26 rfl) (by decide) (fun h1 => ?_) (fun h1 => ?_)
    · have hf := it_t h1 hf
      exact K68  x3 t0 v_cmp v_sof v_hrs v_hat v_wea _ _ hP hD hS _ (lv_sub hl [1, 2, 3, 4, 0] rfl) hf
    · have hf := it_f h1 hf
      refine lv_aload_n hx hb (dg ddX3_playHour 27 rfl) rfl (lv_at hl 1 rfl) ?_
      refine gf_RX3_31 CX hK hP 0 rfl rfl (dg ddX3_playHour 28 rfl) ?_
      refine lv_iload_n hx hb (dg ddX3_playHour 29 rfl) rfl (lv_at hl 2 rfl) ?_
      refine lv_dup2_11 hx hb (dg ddX3_playHour 30 rfl) rfl rfl ?_
      obtain ⟨h2, hf⟩ := og_some hf
      refine va_iald hx hb hK hP 2 0 rfl rfl (inb_in h2) (dg ddX3_playHour 31 rfl) ?_
      refine lv_iconst (v := 1) hx hb (dg ddX3_playHour 32 rfl) (by decide) ?_
      refine lv_iadd hx hb (dg ddX3_playHour 33 rfl) ?_
      obtain ⟨h3, hf⟩ := og_some hf
      refine va_iast hx hb hK hP hD hS 2 0 rfl rfl (inb_in h3) (dg ddX3_playHour 34 rfl) (fun H locs hP hD hS => ?_)
      have hP : va_P D vwCl (wX3 q cy v_hour v_crowd v_buskers v_answered v_draws v_lim (upd v_cmp a1.toNatClampNeg ((v_cmp a1.toNatClampNeg) + 1)) v_sof v_kin v_lou v_pit v_pla v_cas v_hrs v_nws v_hat v_wea v_row) H := hP
      have hD : va_D A (wX3 q cy v_hour v_crowd v_buskers v_answered v_draws v_lim (upd v_cmp a1.toNatClampNeg ((v_cmp a1.toNatClampNeg) + 1)) v_sof v_kin v_lou v_pit v_pla v_cas v_hrs v_nws v_hat v_wea v_row) := hD
      refine lv_aload_n hx hb (dg ddX3_playHour 35 rfl) rfl (lv_at hl 1 rfl) ?_
      refine gf_RX3_35 CX hK hP 0 rfl rfl (dg ddX3_playHour 36 rfl) ?_
      refine lv_iload_n hx hb (dg ddX3_playHour 37 rfl) rfl (lv_at hl 2 rfl) ?_
      refine lv_dup2_11 hx hb (dg ddX3_playHour 38 rfl) rfl rfl ?_
      obtain ⟨h4, hf⟩ := og_some hf
      refine va_iald hx hb hK hP 3 0 rfl rfl (inb_in h4) (dg ddX3_playHour 39 rfl) ?_
      refine lv_iconst (v := 1) hx hb (dg ddX3_playHour 40 rfl) (by decide) ?_
      refine lv_iadd hx hb (dg ddX3_playHour 41 rfl) ?_
      obtain ⟨h5, hf⟩ := og_some hf
      refine va_iast hx hb hK hP hD hS 3 0 rfl rfl (inb_in h5) (dg ddX3_playHour 42 rfl) (fun H locs hP hD hS => ?_)
      have hP : va_P D vwCl (wX3 q cy v_hour v_crowd v_buskers v_answered v_draws v_lim (upd v_cmp a1.toNatClampNeg ((v_cmp a1.toNatClampNeg) + 1)) (upd v_sof a1.toNatClampNeg ((v_sof a1.toNatClampNeg) + 1)) v_kin v_lou v_pit v_pla v_cas v_hrs v_nws v_hat v_wea v_row) H := hP
      have hD : va_D A (wX3 q cy v_hour v_crowd v_buskers v_answered v_draws v_lim (upd v_cmp a1.toNatClampNeg ((v_cmp a1.toNatClampNeg) + 1)) (upd v_sof a1.toNatClampNeg ((v_sof a1.toNatClampNeg) + 1)) v_kin v_lou v_pit v_pla v_cas v_hrs v_nws v_hat v_wea v_row) := hD
      exact K68  x3 t0 (upd v_cmp a1.toNatClampNeg ((v_cmp a1.toNatClampNeg) + 1)) (upd v_sof a1.toNatClampNeg ((v_sof a1.toNatClampNeg) + 1)) v_hrs v_hat v_wea _ _ hP hD hS _ (lv_sub hl [1, 2, 3, 4, 0] rfl) hf
  have K40 : ∀ (x3 : Int32) (v_cmp : Nat → Int32) (v_sof : Nat → Int32) (v_hrs : Nat → Int32) (v_hat : Nat → UInt32) (v_wea : Nat → UInt32) (H : Heap) (locs : List Loc) (hP : va_P D vwCl (wX3 q cy v_hour v_crowd v_buskers v_answered v_draws v_lim v_cmp v_sof v_kin v_lou v_pit v_pla v_cas v_hrs v_nws v_hat v_wea v_row) H) (hD : va_D A (wX3 q cy v_hour v_crowd v_buskers v_answered v_draws v_lim v_cmp v_sof v_kin v_lou v_pit v_pla v_cas v_hrs v_nws v_hat v_wea v_row)) (hS : va_S A s.heap H locs) (ls : Array Slot) (hl : lv_has ls 5 [(0, .ref (q 0)), (1, .int a1), (2, .int a2), (3, .int x3)]) (hf : f_X3_playHour_c40 v_crowd v_lim v_kin v_lou v_row a1 a2 x3 v_cmp v_sof v_hrs v_hat v_wea = some res), W p l e ⟨2, 0, 0, 34⟩ s m args below meth c H locs 0 0 (MQ below (qI D (wX3 q cy v_hour v_crowd v_buskers v_answered v_draws v_lim res.2.1 res.2.2.1 v_kin v_lou v_pit v_pla v_cas res.2.2.2.1 v_nws res.2.2.2.2.1 res.2.2.2.2.2 v_row) res.1 A) args s 0 0 A) (F0 m 40 ls []) := by
    intro x3 v_cmp v_sof v_hrs v_hat v_wea H locs hP hD hS ls hl hf
    refine lv_iconst (v := 0) hx hb (dg ddX3_playHour 23 rfl) (by decide) ?_
    exact K41  x3 0 v_cmp v_sof v_hrs v_hat v_wea _ _ hP hD hS _ (lv_sub hl [0, 1, 2, 3] rfl) hf
  have K20 : ∀ (t0 : Int32) (v_cmp : Nat → Int32) (v_sof : Nat → Int32) (v_hrs : Nat → Int32) (v_hat : Nat → UInt32) (v_wea : Nat → UInt32) (H : Heap) (locs : List Loc) (hP : va_P D vwCl (wX3 q cy v_hour v_crowd v_buskers v_answered v_draws v_lim v_cmp v_sof v_kin v_lou v_pit v_pla v_cas v_hrs v_nws v_hat v_wea v_row) H) (hD : va_D A (wX3 q cy v_hour v_crowd v_buskers v_answered v_draws v_lim v_cmp v_sof v_kin v_lou v_pit v_pla v_cas v_hrs v_nws v_hat v_wea v_row)) (hS : va_S A s.heap H locs) (ls : Array Slot) (hl : lv_has ls 5 [(0, .ref (q 0)), (1, .int a1), (2, .int a2)]) (hf : f_X3_playHour_c20 v_crowd v_lim v_kin v_lou v_row a1 a2 t0 v_cmp v_sof v_hrs v_hat v_wea = some res), W p l e ⟨2, 0, 0, 34⟩ s m args below meth c H locs 0 0 (MQ below (qI D (wX3 q cy v_hour v_crowd v_buskers v_answered v_draws v_lim res.2.1 res.2.2.1 v_kin v_lou v_pit v_pla v_cas res.2.2.2.1 v_nws res.2.2.2.2.1 res.2.2.2.2.2 v_row) res.1 A) args s 0 0 A) (F0 m 20 ls [.int t0]) := by
    intro t0 v_cmp v_sof v_hrs v_hat v_wea H locs hP hD hS ls hl hf
    refine lv_istore_n (lv' := [(3, .int t0), (0, .ref (q 0)), (1, .int a1), (2, .int a2)]) hx hb (dg ddX3_playHour 12 rfl) rfl hl (by decide) rfl (fun ls hl => ?_)
    refine lv_iload_n hx hb (dg ddX3_playHour 13 rfl) rfl (lv_at hl 0 rfl) ?_
    refine lv_if_eq (tgt := 40) hx hb (dg ddX3_playHour 14 rfl) (by decide) (fun h1 => ?_) (fun h1 => ?_)
    · have hf := it_t h1 hf
      exact K40  t0 v_cmp v_sof v_hrs v_hat v_wea _ _ hP hD hS _ (lv_sub hl [1, 2, 3, 0] rfl) hf
    · have hf := it_f h1 hf
      refine lv_aload_n hx hb (dg ddX3_playHour 15 rfl) rfl (lv_at hl 1 rfl) ?_
      refine gf_RX3_31 CX hK hP 0 rfl rfl (dg ddX3_playHour 16 rfl) ?_
      refine lv_iload_n hx hb (dg ddX3_playHour 17 rfl) rfl (lv_at hl 2 rfl) ?_
      obtain ⟨h2, hf⟩ := og_some hf
      refine va_iald hx hb hK hP 2 0 rfl rfl (inb_in h2) (dg ddX3_playHour 18 rfl) ?_
      refine lv_bipush (v := 99) hx hb (dg ddX3_playHour 19 rfl) (by decide) ?_
      refine lv_icmp_ge (tgt := 40) hx hb (dg ddX3_playHour 20 rfl) (by decide) (fun h3 => ?_) (fun h3 => ?_)
      · have hf := it_t h3 hf
        exact K40  t0 v_cmp v_sof v_hrs v_hat v_wea _ _ hP hD hS _ (lv_sub hl [1, 2, 3, 0] rfl) hf
      · have hf := it_f h3 hf
        refine lv_iconst (v := 1) hx hb (dg ddX3_playHour 21 rfl) (by decide) ?_
        refine lv_goto (tgt := 41) hx hb (dg ddX3_playHour 22 rfl) (by decide) ?_
        exact K41  t0 1 v_cmp v_sof v_hrs v_hat v_wea _ _ hP hD hS _ (lv_sub hl [1, 2, 3, 0] rfl) hf
  refine lv_aload_n hx hb (dg ddX3_playHour 0 rfl) rfl (lv_at hl 0 rfl) ?_
  refine lv_iload_n hx hb (dg ddX3_playHour 1 rfl) rfl (lv_at hl 1 rfl) ?_
  obtain ⟨r2, e1, hf⟩ := ob_some hf
  refine cro_vf CX hml (As := [.int a1]) (rest := []) (c_X3_noiseByRow l D cy q v_hour v_crowd v_buskers v_answered v_draws v_lim v_cmp v_sof v_kin v_lou v_pit v_pla v_cas v_hrs v_nws v_hat v_wea v_row a1 e1) lk_RX3_142 rfl rfl hRMX3_noiseByRow hP hK hN 0 rfl rfl rfl hl.1 rfl (Nat.le_of_ble_eq_true rfl) ⟨Nat.le_of_ble_eq_true rfl, Nat.le_of_ble_eq_true rfl⟩ (dg ddX3_playHour 2 rfl) ?_
  refine lv_aload_n hx hb (dg ddX3_playHour 3 rfl) rfl (lv_at hl 0 rfl) ?_
  refine gf_RX3_27 CX hK hP 0 rfl rfl (dg ddX3_playHour 4 rfl) ?_
  refine lv_iload_n hx hb (dg ddX3_playHour 5 rfl) rfl (lv_at hl 1 rfl) ?_
  obtain ⟨h3, hf⟩ := og_some hf
  refine va_fald hx hb hK hP 1 1 rfl rfl (inb_in h3) (dg ddX3_playHour 6 rfl) ?_
  refine lv_fcmp hx hb (dg ddX3_playHour 7 rfl) ?_
  refine lv_if_le (tgt := 19) hx hb (dg ddX3_playHour 8 rfl) (by decide) (fun h4 => ?_) (fun h4 => ?_)
  · have hf := it_t h4 hf
    refine lv_iconst (v := 0) hx hb (dg ddX3_playHour 11 rfl) (by decide) ?_
    exact K20  0 v_cmp v_sof v_hrs v_hat v_wea _ _ hP hD hS _ (lv_sub hl [0, 1, 2] rfl) hf
  · have hf := it_f h4 hf
    refine lv_iconst (v := 1) hx hb (dg ddX3_playHour 9 rfl) (by decide) ?_
    refine lv_goto (tgt := 20) hx hb (dg ddX3_playHour 10 rfl) (by decide) ?_
    exact K20  1 v_cmp v_sof v_hrs v_hat v_wea _ _ hP hD hS _ (lv_sub hl [0, 1, 2] rfl) hf
