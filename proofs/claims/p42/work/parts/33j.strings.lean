/-! the methods of String that the law needs, over its texts (by program) -/
theorem lk_RJ0_335 : lkV RJ0 335 yJ0_coder_7d493 cJ0_coder_7d493 1 (some .byte) 0 [672, 673, 674, 37, 675] = true := by decide +kernel
theorem lk_RJ0_492 : lkV RJ0 492 yJ0_isLatin1_aae02 cJ0_isLatin1_aae02 1 (some .boolean) 0 [682, 683, 684, 37, 685] = true := by decide +kernel
theorem lk_RJ0_495 : lkS RJ0 495 yJ1_charAt_3b067 cJ1_charAt_3b067 2 (some .char) 2 [686, 687, 42, 688] = true := by decide +kernel
theorem lk_RJ1_9 : lkS RJ1 9 yJ0_checkIndex_df160 cJ0_checkIndex_df160 2 none 2 [689, 690, 37, 691] = true := by decide +kernel
theorem lk_RJ0_1059 : lkS RJ0 1059 yJ3_checkIndex_8e157 cJ3_checkIndex_8e157 3 (some .int) 3 [694, 695, 43, 696] = true := by decide +kernel
def qE0 : Array Value → State → Outcome → State → Prop := fun _ st oc t => oc = .returned none ∧ t.heap = st.heap
section STR
variable {p : Program} {l : Launch} {e : Env} {R : Room} {s : State} {m : MethodId} {args : Array Value} {below : List Frame} {meth : Method} {c : Code} {H : Heap} {locs : List Loc} {cells slots : Nat} {Q : State → Prop}
variable {cc : ByteArray} {pc : Nat} {ls : Array Slot} {rest st0 : List Value} {A : Nat → Prop} {own : String} {tK tV : Nat → Nat} {ta : Nat}
theorem e_e0 (CX : Cx p s m c args cc own) (hr : meth.sig.returnType = none) (hk : meth.locks = false) (hdg : decode cc pc = .ok (.return_, 1)) : W p l e R s m args below meth c s.heap [] 0 0 (MQ below qE0 args s 0 0 (fun _ => False)) (F0 m pc ls []) :=
  W.vret CX.1 CX.2.1 hr (fun t ht hW => ⟨rfl, ht⟩) (fun _ h => by cases h) hdg hk
theorem callE0 {a : Array Value} (hr : CallRun p l e R s m args below meth c H locs cells slots 0 0 (F0 m pc ls st0) rest (qE0 a) (fun _ => False))
    (kk : W p l e R s m args below meth c H locs cells slots Q (F0 m (pc + 3) ls rest)) : W p l e R s m args below meth c H locs cells slots Q (F0 m pc ls st0) := by
  intro T hT X
  obtain ⟨v, st₀, t, T', L, h0, X', hL, e1, ⟨hv, hh⟩, st⟩ := hr T hT X
  cases hv
  obtain ⟨t2, a1, b1⟩ := kk T' (by rw [e1, hh, h0]) (Stand.forget X' (fun q h => (hL q h).elim))
  exact ⟨t2, st t2 a1, b1⟩
theorem css_v {is : List Nat} {y : MethodName} {bytes : ByteArray} {maxL n nL idx : Nat} {ret : Option FieldType} {rm : Room} {As : List Value} (CX : Cx p s m c args cc own) (hml : c.maxLocals = nL) (hM : Met l y (.code y bytes maxL ret :: lw_all) rm (va_Pc As (sS tK tV ta)) qE0 0 0 (fun _ => False)) (hk : lkS own idx y bytes maxL ret n is = true) (hrc : rm.cells = 0) (hrs : rm.slots = 0) (hR : rm.frames + 1 ≤ R.frames ∧ 8 + (maxL + 11) + rm.locals ≤ R.locals) (hT : tXF tK tV ta A s s.heap) (hS : va_S A s.heap H locs) (hn : As.length = n) (hsz : ls.size = nL) (hst : st0 = As.reverse ++ rest) (hW : (rest.map fun v => v.category).sum ≤ 8) (hcs : cells ≤ R.cells ∧ slots ≤ R.slots) (hdg : decode cc pc = .ok (.invokestatic idx, 3)) (kk : W p l e R s m args below meth c H locs cells slots Q (F0 m (pc + 3) ls rest)) : W p l e R s m args below meth c H locs cells slots Q (F0 m pc ls st0) :=
  callE0 (W.runS (As := As) (rest := rest) ⟨CX.1, CX.2.1, hml, CX.2.2.2, CX.2.2.1⟩ hM (lkS_cw hk CX.2.2.1 hrc hrs hR) ⟨sS_blind _ _ _ _, sS_at hT hS⟩ rfl hn hsz hst (lv_room hW) hdg hcs) kk
end STR
theorem tB_all : ∀ i, i < 18 → ∀ j, j < tL i → 0 ≤ tB i j ∧ tB i j < 128 := by decide +kernel
theorem tL_all : ∀ i, i < 18 → tL i < 20 := by decide +kernel
theorem tB_and (i j : Nat) (hi : i < 18) (hj : j < tL i) : tB i j &&& 255 = tB i j := (by decide +kernel : ∀ i, i < 18 → ∀ j, j < tL i → tB i j &&& 255 = tB i j) i hi j hj
theorem tB_c (i j : Nat) (hi : i < 18) (hj : j < tL i) : ((tB i j).toUInt32 % 65536).toInt32 = tB i j := (by decide +kernel : ∀ i, i < 18 → ∀ j, j < tL i → ((tB i j).toUInt32 % 65536).toInt32 = tB i j) i hi j hj
theorem tB_n (i j : Nat) (hi : i < 18) (hj : j < tL i) : narrow .char (.int (tB i j)) = .int (tB i j) := (by decide +kernel : ∀ i, i < 18 → ∀ j, j < tL i → narrow .char (.int (tB i j)) = .int (tB i j)) i hi j hj
theorem ishr0 (i : Nat) (hi : i < 18) : nI (tL i) >>> ((0 : Int32) &&& 31) = nI (tL i) := (by decide +kernel : ∀ i, i < 18 → nI (tL i) >>> ((0 : Int32) &&& 31) = nI (tL i)) i hi
theorem clT (a : Int32) {n : Nat} (hn : n < 20) (h : inb a n = true) : a.toNatClampNeg < n := Nat.not_le.mp fun q => inb_in h (Or.inr q)
theorem nI_clN (a : Int32) {N : Nat} (h0 : ¬ a < 0) (h : a.toNatClampNeg < N) (hN : N < 2147483648) : a = nI a.toNatClampNeg := by
  apply Int32.toInt_inj.mp
  rw [nI_toInt (by omega)]
  have h1 : 0 ≤ a.toInt := by
    rw [Int32.lt_iff_toInt_lt] at h0
    have : (0 : Int32).toInt = 0 := rfl
    omega
  show a.toInt = (a.toInt.toNat : Int)
  omega
set_option maxHeartbeats 1000000 in
set_option maxRecDepth 100000 in
theorem c_J0_coder (l : Launch) (tK tV : Nat → Nat) (ta : Nat) (i : Nat) (hi : i < 18) : Met l yJ0_coder_7d493 (.code yJ0_coder_7d493 cJ0_coder_7d493 1 (some .byte) :: lw_all) { frames := 1, cells := 0, slots := 0, locals := 12 } (va_Pc [.ref (tK i)] (sS tK tV ta)) (vp_Si (fun r => r = 0)) 0 0 (fun _ => False) := by
  refine mk_st (Qc := (vp_Si (fun r => r = 0))) (Rc := RJ0) (by decide +kernel) rfl (Nat.le_of_ble_eq_true rfl) ?_
  intro p e s m args below meth c ls CX hml hr hlk hT hS hl
  have hx := CX.1
  have hb := CX.2.1
  refine va_gets hx hb (hT.2.2.2.1) hS CX.2.2.2 (CX.2.2.1 (.fieldLink RJ0 38 "java/lang/String" "COMPACT_STRINGS" "Z") (lw_at 676 (by decide +kernel))) (fun _ h9 => h9) (dg ddJ0_coder_7d493 0 rfl) ?_
  refine lv_if_eq (tgt := 13) hx hb (dg ddJ0_coder_7d493 1 rfl) (by decide) (fun h => absurd h (by decide)) (fun _ => ?_)
  refine lv_aload_n hx hb (dg ddJ0_coder_7d493 2 rfl) rfl (lv_at hl 0 rfl) ?_
  refine vk_getf hx hb ((hT.2.2.1 i hi).2.1) hS CX.2.2.2 (CX.2.2.1 (.fieldLink RJ0 15 "java/lang/String" "coder" "B") (lw_at 1048 (by decide +kernel))) (fun _ h9 => h9) (dg ddJ0_coder_7d493 3 rfl) ?_
  refine lv_goto (tgt := 14) hx hb (dg ddJ0_coder_7d493 4 rfl) (by decide) ?_
  exact e_rz CX hr hlk (by decide) rfl (dg ddJ0_coder_7d493 6 rfl)
set_option maxHeartbeats 1000000 in
set_option maxRecDepth 100000 in
theorem c_J0_isLatin1 (l : Launch) (tK tV : Nat → Nat) (ta : Nat) (i : Nat) (hi : i < 18) : Met l yJ0_isLatin1_aae02 (.code yJ0_isLatin1_aae02 cJ0_isLatin1_aae02 1 (some .boolean) :: lw_all) { frames := 1, cells := 0, slots := 0, locals := 12 } (va_Pc [.ref (tK i)] (sS tK tV ta)) (vp_Si (fun r => r = 1)) 0 0 (fun _ => False) := by
  refine mk_st (Qc := (vp_Si (fun r => r = 1))) (Rc := RJ0) (by decide +kernel) rfl (Nat.le_of_ble_eq_true rfl) ?_
  intro p e s m args below meth c ls CX hml hr hlk hT hS hl
  have hx := CX.1
  have hb := CX.2.1
  refine va_gets hx hb (hT.2.2.2.1) hS CX.2.2.2 (CX.2.2.1 (.fieldLink RJ0 38 "java/lang/String" "COMPACT_STRINGS" "Z") (lw_at 676 (by decide +kernel))) (fun _ h9 => h9) (dg ddJ0_isLatin1_aae02 0 rfl) ?_
  refine lv_if_eq (tgt := 17) hx hb (dg ddJ0_isLatin1_aae02 1 rfl) (by decide) (fun h => absurd h (by decide)) (fun _ => ?_)
  refine lv_aload_n hx hb (dg ddJ0_isLatin1_aae02 2 rfl) rfl (lv_at hl 0 rfl) ?_
  refine vk_getf hx hb ((hT.2.2.1 i hi).2.1) hS CX.2.2.2 (CX.2.2.1 (.fieldLink RJ0 15 "java/lang/String" "coder" "B") (lw_at 1048 (by decide +kernel))) (fun _ h9 => h9) (dg ddJ0_isLatin1_aae02 3 rfl) ?_
  refine lv_if_ne (tgt := 17) hx hb (dg ddJ0_isLatin1_aae02 4 rfl) (by decide) (fun h => absurd rfl h) (fun _ => ?_)
  refine lv_iconst (v := 1) hx hb (dg ddJ0_isLatin1_aae02 5 rfl) (by decide) ?_
  refine lv_goto (tgt := 18) hx hb (dg ddJ0_isLatin1_aae02 6 rfl) (by decide) ?_
  exact e_rz CX hr hlk (by decide) rfl (dg ddJ0_isLatin1_aae02 8 rfl)
set_option maxHeartbeats 1000000 in
set_option maxRecDepth 100000 in
theorem c_J0_length (l : Launch) (tK tV : Nat → Nat) (ta : Nat) (i : Nat) (hi : i < 18) : Met l yJ0_length_8abf5 (.code yJ0_length_8abf5 cJ0_length_8abf5 1 (some .int) :: lw_all) { frames := 2, cells := 0, slots := 0, locals := 40 } (va_Pc [.ref (tK i)] (sS tK tV ta)) (vp_Si (fun r => r = nI (tL i))) 0 0 (fun _ => False) := by
  refine mk_st (Qc := (vp_Si (fun r => r = nI (tL i)))) (Rc := RJ0) (by decide +kernel) rfl (Nat.le_of_ble_eq_true rfl) ?_
  intro p e s m args below meth c ls CX hml hr hlk hT hS hl
  have hx := CX.1
  have hb := CX.2.1
  have hRM : (⟨1, 0, 0, 12⟩ : Room).frames + 1 ≤ (⟨2, 0, 0, 40⟩ : Room).frames ∧ 8 + (1 + 11) + (⟨1, 0, 0, 12⟩ : Room).locals ≤ (⟨2, 0, 0, 40⟩ : Room).locals := ⟨(Nat.le_of_ble_eq_true rfl), (Nat.le_of_ble_eq_true rfl)⟩
  refine lv_aload_n hx hb (dg ddJ0_length_8abf5 0 rfl) rfl (lv_at hl 0 rfl) ?_
  refine vk_getf hx hb ((hT.2.2.1 i hi).2.2.1) hS CX.2.2.2 (CX.2.2.1 (.fieldLink RJ0 9 "java/lang/String" "value" "[B") (lw_at 1047 (by decide +kernel))) (fun _ h9 => h9) (dg ddJ0_length_8abf5 1 rfl) ?_
  refine va_tlen hx hb (hT.2.2.1 i hi).2.2.2 hS rfl (dg ddJ0_length_8abf5 2 rfl) ?_
  refine lv_aload_n hx hb (dg ddJ0_length_8abf5 3 rfl) rfl (lv_at hl 0 rfl) ?_
  refine cst_i (As := []) (rest := [.int (nI (tL i))]) CX hml (c_J0_coder l tK tV ta i hi) lk_RJ0_335 rfl rfl hRM hT hS (tK_at hT hS hi) rfl hl.1 rfl (Nat.le_of_ble_eq_true rfl) ⟨(Nat.le_of_ble_eq_true rfl), (Nat.le_of_ble_eq_true rfl)⟩ (dg ddJ0_length_8abf5 4 rfl) ?_
  refine lv_ishr hx hb (dg ddJ0_length_8abf5 5 rfl) ?_
  exact e_ri CX hr hlk (ishr0 i hi) (dg ddJ0_length_8abf5 6 rfl)
set_option maxHeartbeats 1000000 in
set_option maxRecDepth 100000 in
theorem c_J3_checkIndex_n (l : Launch) (tK tV : Nat → Nat) (ta : Nat) (a1 : Int32) (N : Nat) (hN : N < 20) (h2 : inb a1 N = true) : Met l yJ3_checkIndex_8e157 (.code yJ3_checkIndex_8e157 cJ3_checkIndex_8e157 3 (some .int) :: lw_all) { frames := 1, cells := 0, slots := 0, locals := 14 } (va_Pc [.int a1, .int (nI N), .null] (sS tK tV ta)) (vp_Si (fun r => r = a1)) 0 0 (fun _ => False) := by
  refine mk_st (Qc := (vp_Si (fun r => r = a1))) (Rc := RJ3) (by decide +kernel) rfl (Nat.le_of_ble_eq_true rfl) ?_
  intro p e s m args below meth c ls CX hml hr hlk hT hS hl
  have hx := CX.1
  have hb := CX.2.1
  have h3 : a1.toNatClampNeg < N := clT a1 hN h2
  have h5 : ¬ a1 < 0 := fun h => inb_in h2 (Or.inl h)
  have h4 : a1 < nI N := by
    have e := (nI_clN a1 h5 h3 (by omega))
    rw [e]; exact nI_lt h3 (by omega)
  refine lv_iload_n hx hb (dg ddJ3_checkIndex_8e157 0 rfl) rfl (lv_at hl 0 rfl) ?_
  refine lv_if_lt (tgt := 9) hx hb (dg ddJ3_checkIndex_8e157 1 rfl) (by decide) (fun h => absurd h h5) (fun _ => ?_)
  refine lv_iload_n hx hb (dg ddJ3_checkIndex_8e157 2 rfl) rfl (lv_at hl 0 rfl) ?_
  refine lv_iload_n hx hb (dg ddJ3_checkIndex_8e157 3 rfl) rfl (lv_at hl 1 rfl) ?_
  refine lv_icmp_lt (tgt := 16) hx hb (dg ddJ3_checkIndex_8e157 4 rfl) (by decide) (fun _ => ?_) (fun h => absurd h4 h)
  refine lv_iload_n hx hb (dg ddJ3_checkIndex_8e157 10 rfl) rfl (lv_at hl 0 rfl) ?_
  exact e_ri CX hr hlk rfl (dg ddJ3_checkIndex_8e157 11 rfl)
set_option maxHeartbeats 1000000 in
set_option maxRecDepth 100000 in
theorem c_J3_checkIndex_r (l : Launch) (tK tV : Nat → Nat) (ta : Nat) (a1 : Int32) (N : Nat) (f : Nat) (hN : N < 20) (h2 : inb a1 N = true) : Met l yJ3_checkIndex_8e157 (.code yJ3_checkIndex_8e157 cJ3_checkIndex_8e157 3 (some .int) :: lw_all) { frames := 1, cells := 0, slots := 0, locals := 14 } (va_Pc [.int a1, .int (nI N), .ref f] (sS tK tV ta)) (vp_Si (fun r => r = a1)) 0 0 (fun _ => False) := by
  refine mk_st (Qc := (vp_Si (fun r => r = a1))) (Rc := RJ3) (by decide +kernel) rfl (Nat.le_of_ble_eq_true rfl) ?_
  intro p e s m args below meth c ls CX hml hr hlk hT hS hl
  have hx := CX.1
  have hb := CX.2.1
  have h3 : a1.toNatClampNeg < N := clT a1 hN h2
  have h5 : ¬ a1 < 0 := fun h => inb_in h2 (Or.inl h)
  have h4 : a1 < nI N := by
    have e := (nI_clN a1 h5 h3 (by omega))
    rw [e]; exact nI_lt h3 (by omega)
  refine lv_iload_n hx hb (dg ddJ3_checkIndex_8e157 0 rfl) rfl (lv_at hl 0 rfl) ?_
  refine lv_if_lt (tgt := 9) hx hb (dg ddJ3_checkIndex_8e157 1 rfl) (by decide) (fun h => absurd h h5) (fun _ => ?_)
  refine lv_iload_n hx hb (dg ddJ3_checkIndex_8e157 2 rfl) rfl (lv_at hl 0 rfl) ?_
  refine lv_iload_n hx hb (dg ddJ3_checkIndex_8e157 3 rfl) rfl (lv_at hl 1 rfl) ?_
  refine lv_icmp_lt (tgt := 16) hx hb (dg ddJ3_checkIndex_8e157 4 rfl) (by decide) (fun _ => ?_) (fun h => absurd h4 h)
  refine lv_iload_n hx hb (dg ddJ3_checkIndex_8e157 10 rfl) rfl (lv_at hl 0 rfl) ?_
  exact e_ri CX hr hlk rfl (dg ddJ3_checkIndex_8e157 11 rfl)
set_option maxHeartbeats 1000000 in
set_option maxRecDepth 100000 in
theorem c_J0_checkIndex (l : Launch) (tK tV : Nat → Nat) (ta : Nat) (a1 : Int32) (N : Nat) (hN : N < 20) (h2 : inb a1 N = true) : Met l yJ0_checkIndex_df160 (.code yJ0_checkIndex_df160 cJ0_checkIndex_df160 2 none :: lw_all) { frames := 2, cells := 0, slots := 0, locals := 40 } (va_Pc [.int a1, .int (nI N)] (sS tK tV ta)) qE0 0 0 (fun _ => False) := by
  refine mk_st (Qc := qE0) (Rc := RJ0) (by decide +kernel) rfl (Nat.le_of_ble_eq_true rfl) ?_
  intro p e s m args below meth c ls CX hml hr hlk hT hS hl
  have hx := CX.1
  have hb := CX.2.1
  have hRM : (⟨1, 0, 0, 14⟩ : Room).frames + 1 ≤ (⟨2, 0, 0, 40⟩ : Room).frames ∧ 8 + (3 + 11) + (⟨1, 0, 0, 14⟩ : Room).locals ≤ (⟨2, 0, 0, 40⟩ : Room).locals := ⟨(Nat.le_of_ble_eq_true rfl), (Nat.le_of_ble_eq_true rfl)⟩
  obtain ⟨v, hv, ht⟩ := hT.2.2.2.2
  refine lv_iload_n hx hb (dg ddJ0_checkIndex_df160 0 rfl) rfl (lv_at hl 0 rfl) ?_
  refine lv_iload_n hx hb (dg ddJ0_checkIndex_df160 1 rfl) rfl (lv_at hl 1 rfl) ?_
  refine va_gets hx hb (ht) hS CX.2.2.2 (CX.2.2.1 (.fieldLink RJ0 1053 "jdk/internal/util/Preconditions" "SIOOBE_FORMATTER" "Ljava/util/function/BiFunction;") (lw_at 692 (by decide +kernel))) (fun _ h9 => h9) (dg ddJ0_checkIndex_df160 2 rfl) ?_
  rcases hv with rfl | ⟨t, rfl⟩
  · refine css_i (b := 0) (As := [.int a1, .int (nI N), .null]) (rest := []) CX hml (c_J3_checkIndex_n l tK tV ta a1 N hN h2) lk_RJ0_1059 rfl rfl hRM hT hS rfl hl.1 rfl (Nat.le_of_ble_eq_true rfl) ⟨(Nat.le_of_ble_eq_true rfl), (Nat.le_of_ble_eq_true rfl)⟩ (dg ddJ0_checkIndex_df160 3 rfl) ?_
    refine lv_pop hx hb (dg ddJ0_checkIndex_df160 4 rfl) rfl ?_
    exact e_e0 CX hr hlk (dg ddJ0_checkIndex_df160 5 rfl)
  · refine css_i (b := 0) (As := [.int a1, .int (nI N), .ref t]) (rest := []) CX hml (c_J3_checkIndex_r l tK tV ta a1 N t hN h2) lk_RJ0_1059 rfl rfl hRM hT hS rfl hl.1 rfl (Nat.le_of_ble_eq_true rfl) ⟨(Nat.le_of_ble_eq_true rfl), (Nat.le_of_ble_eq_true rfl)⟩ (dg ddJ0_checkIndex_df160 3 rfl) ?_
    refine lv_pop hx hb (dg ddJ0_checkIndex_df160 4 rfl) rfl ?_
    exact e_e0 CX hr hlk (dg ddJ0_checkIndex_df160 5 rfl)
set_option maxHeartbeats 1000000 in
set_option maxRecDepth 100000 in
theorem c_J1_charAt (l : Launch) (tK tV : Nat → Nat) (ta : Nat) (i : Nat) (hi : i < 18) (a1 : Int32) (h2 : inb a1 (tL i) = true) : Met l yJ1_charAt_3b067 (.code yJ1_charAt_3b067 cJ1_charAt_3b067 2 (some .char) :: lw_all) { frames := 3, cells := 0, slots := 0, locals := 70 } (va_Pc [.ref (tV i), .int a1] (sS tK tV ta)) (vp_Si (fun r => r = tB i a1.toNatClampNeg)) 0 0 (fun _ => False) := by
  refine mk_st (Qc := (vp_Si (fun r => r = tB i a1.toNatClampNeg))) (Rc := RJ1) (by decide +kernel) rfl (Nat.le_of_ble_eq_true rfl) ?_
  intro p e s m args below meth c ls CX hml hr hlk hT hS hl
  have hx := CX.1
  have hb := CX.2.1
  have hRM : (⟨2, 0, 0, 40⟩ : Room).frames + 1 ≤ (⟨3, 0, 0, 70⟩ : Room).frames ∧ 8 + (2 + 11) + (⟨2, 0, 0, 40⟩ : Room).locals ≤ (⟨3, 0, 0, 70⟩ : Room).locals := ⟨(Nat.le_of_ble_eq_true rfl), (Nat.le_of_ble_eq_true rfl)⟩
  refine lv_iload_n hx hb (dg ddJ1_charAt_3b067 0 rfl) rfl (lv_at hl 1 rfl) ?_
  refine lv_aload_n hx hb (dg ddJ1_charAt_3b067 1 rfl) rfl (lv_at hl 0 rfl) ?_
  refine va_tlen hx hb (hT.2.2.1 i hi).2.2.2 hS rfl (dg ddJ1_charAt_3b067 2 rfl) ?_
  refine css_v (As := [.int a1, .int (nI (tL i))]) (rest := []) CX hml (c_J0_checkIndex l tK tV ta a1 (tL i) (tL_all i hi) h2) lk_RJ1_9 rfl rfl hRM hT hS rfl hl.1 rfl (Nat.le_of_ble_eq_true rfl) ⟨(Nat.le_of_ble_eq_true rfl), (Nat.le_of_ble_eq_true rfl)⟩ (dg ddJ1_charAt_3b067 3 rfl) ?_
  refine lv_aload_n hx hb (dg ddJ1_charAt_3b067 4 rfl) rfl (lv_at hl 0 rfl) ?_
  refine lv_iload_n hx hb (dg ddJ1_charAt_3b067 5 rfl) rfl (lv_at hl 1 rfl) ?_
  refine va_tb hx hb (hT.2.2.1 i hi).2.2.2 hS (inb_in h2) rfl (dg ddJ1_charAt_3b067 6 rfl) ?_
  refine lv_sipush (v := 255) hx hb (dg ddJ1_charAt_3b067 7 rfl) (by decide) ?_
  refine lv_iand hx hb (dg ddJ1_charAt_3b067 8 rfl) ?_
  have h3 := clT a1 (tL_all i hi) h2
  rw [tB_and i _ hi h3]
  refine lv_i2c hx hb (dg ddJ1_charAt_3b067 9 rfl) (tB_c i _ hi h3) ?_
  exact e_rz CX hr hlk (tB_n i _ hi h3) rfl (dg ddJ1_charAt_3b067 10 rfl)
set_option maxHeartbeats 1000000 in
set_option maxRecDepth 100000 in
theorem c_J0_charAt (l : Launch) (tK tV : Nat → Nat) (ta : Nat) (i : Nat) (hi : i < 18) (a1 : Int32) (h2 : inb a1 (tL i) = true) : Met l yJ0_charAt_5068e (.code yJ0_charAt_5068e cJ0_charAt_5068e 2 (some .char) :: lw_all) { frames := 5, cells := 0, slots := 0, locals := 140 } (va_Pc [.ref (tK i), .int a1] (sS tK tV ta)) (vp_Si (fun r => r = tB i a1.toNatClampNeg)) 0 0 (fun _ => False) := by
  refine mk_st (Qc := (vp_Si (fun r => r = tB i a1.toNatClampNeg))) (Rc := RJ0) (by decide +kernel) rfl (Nat.le_of_ble_eq_true rfl) ?_
  intro p e s m args below meth c ls CX hml hr hlk hT hS hl
  have hx := CX.1
  have hb := CX.2.1
  have hR1 : (⟨1, 0, 0, 12⟩ : Room).frames + 1 ≤ (⟨5, 0, 0, 140⟩ : Room).frames ∧ 8 + (1 + 11) + (⟨1, 0, 0, 12⟩ : Room).locals ≤ (⟨5, 0, 0, 140⟩ : Room).locals := ⟨(Nat.le_of_ble_eq_true rfl), (Nat.le_of_ble_eq_true rfl)⟩
  have hR2 : (⟨3, 0, 0, 70⟩ : Room).frames + 1 ≤ (⟨5, 0, 0, 140⟩ : Room).frames ∧ 8 + (2 + 11) + (⟨3, 0, 0, 70⟩ : Room).locals ≤ (⟨5, 0, 0, 140⟩ : Room).locals := ⟨(Nat.le_of_ble_eq_true rfl), (Nat.le_of_ble_eq_true rfl)⟩
  refine lv_aload_n hx hb (dg ddJ0_charAt_5068e 0 rfl) rfl (lv_at hl 0 rfl) ?_
  refine cst_i (As := []) (rest := []) CX hml (c_J0_isLatin1 l tK tV ta i hi) lk_RJ0_492 rfl rfl hR1 hT hS (tK_at hT hS hi) rfl hl.1 rfl (Nat.le_of_ble_eq_true rfl) ⟨(Nat.le_of_ble_eq_true rfl), (Nat.le_of_ble_eq_true rfl)⟩ (dg ddJ0_charAt_5068e 1 rfl) ?_
  refine lv_if_eq (tgt := 16) hx hb (dg ddJ0_charAt_5068e 2 rfl) (by decide) (fun h => absurd h (by decide)) (fun _ => ?_)
  refine lv_aload_n hx hb (dg ddJ0_charAt_5068e 3 rfl) rfl (lv_at hl 0 rfl) ?_
  refine vk_getf hx hb ((hT.2.2.1 i hi).2.2.1) hS CX.2.2.2 (CX.2.2.1 (.fieldLink RJ0 9 "java/lang/String" "value" "[B") (lw_at 1047 (by decide +kernel))) (fun _ h9 => h9) (dg ddJ0_charAt_5068e 4 rfl) ?_
  refine lv_iload_n hx hb (dg ddJ0_charAt_5068e 5 rfl) rfl (lv_at hl 1 rfl) ?_
  refine css_i (b := 0) (As := [.ref (tV i), .int a1]) (rest := []) CX hml (c_J1_charAt l tK tV ta i hi a1 h2) lk_RJ0_495 rfl rfl hR2 hT hS rfl hl.1 rfl (Nat.le_of_ble_eq_true rfl) ⟨(Nat.le_of_ble_eq_true rfl), (Nat.le_of_ble_eq_true rfl)⟩ (dg ddJ0_charAt_5068e 6 rfl) ?_
  have h3 := clT a1 (tL_all i hi) h2
  exact e_rz CX hr hlk (tB_n i _ hi h3) rfl (dg ddJ0_charAt_5068e 7 rfl)
