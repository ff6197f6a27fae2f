/-! constructors: State, Input -/
theorem fill8f (x : UInt32) : ∀ (m fuel i : Nat) (row : Nat → UInt32), i + m = 8 → m < fuel → f_J7_fill_e525d_c5 8 x fuel (nI i) (nI 8) row = some (fun j => if i ≤ j ∧ j < 8 then x else row j) := by
  intro m
  induction m with
  | zero =>
    intro fuel i row hi hf
    obtain ⟨fuel, rfl⟩ : ∃ z, fuel = z + 1 := ⟨fuel - 1, by omega⟩
    unfold f_J7_fill_e525d_c5
    rw [if_pos (nI_le (by omega) (by omega))]
    exact congrArg some (funext fun j => (if_neg (by omega)).symm)
  | succ m ih =>
    intro fuel i row hi hf
    obtain ⟨fuel, rfl⟩ : ∃ z, fuel = z + 1 := ⟨fuel - 1, by omega⟩
    unfold f_J7_fill_e525d_c5
    rw [if_neg (nI_ge (by omega) (by omega)), inbN (by omega) (by decide), og_t, clN (by omega), nI_1, ih fuel (i + 1) _ (by omega) (by omega)]
    refine congrArg some (funext fun j => ?_)
    by_cases e : j = i
    · rw [if_neg (by omega), e, vupd_eq, if_pos (by omega)]
    · by_cases h2 : i ≤ j ∧ j < 8
      · rw [if_pos (by omega), if_pos h2]
      · rw [if_neg (by omega), if_neg h2, vupd_ne _ _ e]
theorem fill8i (x : Int32) : ∀ (m fuel i : Nat) (row : Nat → Int32), i + m = 8 → m < fuel → f_J7_fill_53178_c5 8 x fuel (nI i) (nI 8) row = some (fun j => if i ≤ j ∧ j < 8 then x else row j) := by
  intro m
  induction m with
  | zero =>
    intro fuel i row hi hf
    obtain ⟨fuel, rfl⟩ : ∃ z, fuel = z + 1 := ⟨fuel - 1, by omega⟩
    unfold f_J7_fill_53178_c5
    rw [if_pos (nI_le (by omega) (by omega))]
    exact congrArg some (funext fun j => (if_neg (by omega)).symm)
  | succ m ih =>
    intro fuel i row hi hf
    obtain ⟨fuel, rfl⟩ : ∃ z, fuel = z + 1 := ⟨fuel - 1, by omega⟩
    unfold f_J7_fill_53178_c5
    rw [if_neg (nI_ge (by omega) (by omega)), inbN (by omega) (by decide), og_t, clN (by omega), nI_1, ih fuel (i + 1) _ (by omega) (by omega)]
    refine congrArg some (funext fun j => ?_)
    by_cases e : j = i
    · rw [if_neg (by omega), e, upd_eq, if_pos (by omega)]
    · by_cases h2 : i ≤ j ∧ j < 8
      · rw [if_pos (by omega), if_pos h2]
      · rw [if_neg (by omega), if_neg h2, upd_ne _ _ e]
def lim0 : Nat → UInt32 := fun j => if 0 ≤ j ∧ j < 8 then 1117782016 else FP.fconst0
def pm0 : Nat → Int32 := fun j => if 0 ≤ j ∧ j < 8 then -1 else 0
def z0 : Nat → Int32 := fun _ => 0
def fz0 : Nat → UInt32 := fun _ => FP.fconst0
theorem fill8f_eq : f_J7_fill_e525d 8 fz0 1117782016 = some lim0 := fill8f 1117782016 8 4096 0 fz0 rfl (by decide)
theorem fill8i_eq : f_J7_fill_53178 8 z0 (-1) = some pm0 := fill8i (-1) 8 4096 0 z0 rfl (by decide)
def W3 (cy : Nat → ClassId) (q : Nat → Nat) : va_W := wX3 q cy 0 10 0 0 0 lim0 z0 z0 z0 z0 pm0 pm0 pm0 z0 z0 fz0 fz0 fz0
def W2 (cy : Nat → ClassId) (q : Nat → Nat) : va_W := wX2 q cy 0 z0

theorem lk_RX3_75 : lkS RX3 75 yJ7_fill_53178 cJ7_fill_53178 4 none 2 [66, 67, 26, 68] = true := by decide +kernel
set_option maxHeartbeats 4000000 in
set_option maxRecDepth 100000 in
theorem c_X3_init (l : Launch) (D : va_G) (cy : Nat → ClassId) (b sz : Nat) : Met l yX3_init (.code yX3_init cX3_init 1 none :: lw_all) { frames := 2, cells := 13, slots := 106, locals := 35 } (va_Pc [.ref b] (sZ D cy [(b, .inr (4, [.int 0, .int 0, .int 0, .int 0, .int 0, .null, .null, .null, .null, .null, .null, .null, .null, .null, .null, .null, .null, .null]))] sz)) (qU D (fun q : Nat → Nat => q 0) b (W3 cy) (va_A [(b, .inr (4, [.int 0, .int 0, .int 0, .int 0, .int 0, .null, .null, .null, .null, .null, .null, .null, .null, .null, .null, .null, .null, .null]))] sz)) 13 106 (va_A [(b, .inr (4, [.int 0, .int 0, .int 0, .int 0, .int 0, .null, .null, .null, .null, .null, .null, .null, .null, .null, .null, .null, .null, .null]))] sz) := by
  refine mk_ct (Qc := qU D (fun q : Nat → Nat => q 0) b (W3 cy)) (Rc := RX3) (by decide +kernel) rfl rfl (Nat.le_of_ble_eq_true rfl) ?_
  intro p e s m args below meth c ls A CX hml hr hlk hin hK hN hE hP hD hS hA hl
  have hx := CX.1
  have hb := CX.2.1
  have hRM : (⟨1, 0, 0, 12⟩ : Room).frames + 1 ≤ (⟨2, 13, 106, 35⟩ : Room).frames ∧ 8 + (4 + 11) + (⟨1, 0, 0, 12⟩ : Room).locals ≤ (⟨2, 13, 106, 35⟩ : Room).locals := ⟨Nat.le_of_ble_eq_true rfl, Nat.le_of_ble_eq_true rfl⟩
  refine lv_aload_n hx hb (dg ddX3_init 0 rfl) rfl (lv_at hl 0 rfl) ?_
  refine oI CX (hml.trans hl.1.symm) (lw_at 61 (by decide +kernel)) (lw_at 54 (by decide +kernel)) (lw_at 55 (by decide +kernel)) (Nat.le_of_ble_eq_true rfl) (Nat.le_of_ble_eq_true rfl) (dg ddX3_init 1 rfl) ?_
  refine lv_aload_n hx hb (dg ddX3_init 2 rfl) rfl (lv_at hl 0 rfl) ?_
  refine lv_iconst (v := 0) hx hb (dg ddX3_init 3 rfl) (by decide) ?_
  refine pf_RX3_9 CX hK hP hD hS 0 rfl (dg ddX3_init 4 rfl) (Nat.le_of_ble_eq_true rfl) (fun H locs hP hD hS => ?_)
  have hP : va_P D vwCl [(b, .inr (4, [.int 0, .int 0, .int 0, .int 0, .int 0, .null, .null, .null, .null, .null, .null, .null, .null, .null, .null, .null, .null, .null]))] H := hP
  have hD : va_D A [(b, .inr (4, [.int 0, .int 0, .int 0, .int 0, .int 0, .null, .null, .null, .null, .null, .null, .null, .null, .null, .null, .null, .null, .null]))] := hD
  refine lv_aload_n hx hb (dg ddX3_init 5 rfl) rfl (lv_at hl 0 rfl) ?_
  refine lv_bipush (v := 10) hx hb (dg ddX3_init 6 rfl) (by decide) ?_
  refine pf_RX3_15 CX hK hP hD hS 0 rfl (dg ddX3_init 7 rfl) (Nat.le_of_ble_eq_true rfl) (fun H locs hP hD hS => ?_)
  have hP : va_P D vwCl [(b, .inr (4, [.int 0, .int 10, .int 0, .int 0, .int 0, .null, .null, .null, .null, .null, .null, .null, .null, .null, .null, .null, .null, .null]))] H := hP
  have hD : va_D A [(b, .inr (4, [.int 0, .int 10, .int 0, .int 0, .int 0, .null, .null, .null, .null, .null, .null, .null, .null, .null, .null, .null, .null, .null]))] := hD
  refine lv_aload_n hx hb (dg ddX3_init 8 rfl) rfl (lv_at hl 0 rfl) ?_
  refine lv_iconst (v := 0) hx hb (dg ddX3_init 9 rfl) (by decide) ?_
  refine pf_RX3_18 CX hK hP hD hS 0 rfl (dg ddX3_init 10 rfl) (Nat.le_of_ble_eq_true rfl) (fun H locs hP hD hS => ?_)
  have hP : va_P D vwCl [(b, .inr (4, [.int 0, .int 10, .int 0, .int 0, .int 0, .null, .null, .null, .null, .null, .null, .null, .null, .null, .null, .null, .null, .null]))] H := hP
  have hD : va_D A [(b, .inr (4, [.int 0, .int 10, .int 0, .int 0, .int 0, .null, .null, .null, .null, .null, .null, .null, .null, .null, .null, .null, .null, .null]))] := hD
  refine lv_aload_n hx hb (dg ddX3_init 11 rfl) rfl (lv_at hl 0 rfl) ?_
  refine lv_iconst (v := 0) hx hb (dg ddX3_init 12 rfl) (by decide) ?_
  refine pf_RX3_21 CX hK hP hD hS 0 rfl (dg ddX3_init 13 rfl) (Nat.le_of_ble_eq_true rfl) (fun H locs hP hD hS => ?_)
  have hP : va_P D vwCl [(b, .inr (4, [.int 0, .int 10, .int 0, .int 0, .int 0, .null, .null, .null, .null, .null, .null, .null, .null, .null, .null, .null, .null, .null]))] H := hP
  have hD : va_D A [(b, .inr (4, [.int 0, .int 10, .int 0, .int 0, .int 0, .null, .null, .null, .null, .null, .null, .null, .null, .null, .null, .null, .null, .null]))] := hD
  refine lv_aload_n hx hb (dg ddX3_init 14 rfl) rfl (lv_at hl 0 rfl) ?_
  refine lv_iconst (v := 0) hx hb (dg ddX3_init 15 rfl) (by decide) ?_
  refine pf_RX3_24 CX hK hP hD hS 0 rfl (dg ddX3_init 16 rfl) (Nat.le_of_ble_eq_true rfl) (fun H locs hP hD hS => ?_)
  have hP : va_P D vwCl [(b, .inr (4, [.int 0, .int 10, .int 0, .int 0, .int 0, .null, .null, .null, .null, .null, .null, .null, .null, .null, .null, .null, .null, .null]))] H := hP
  have hD : va_D A [(b, .inr (4, [.int 0, .int 10, .int 0, .int 0, .int 0, .null, .null, .null, .null, .null, .null, .null, .null, .null, .null, .null, .null, .null]))] := hD
  refine lv_aload_n hx hb (dg ddX3_init 17 rfl) rfl (lv_at hl 0 rfl) ?_
  refine lv_bipush (v := 8) hx hb (dg ddX3_init 18 rfl) (by decide) ?_
  refine na_f CX hK hP hD hS hA (N' := 8) (by decide) rfl (Nat.le_of_ble_eq_true rfl) (Nat.le_of_ble_eq_true rfl) (Nat.le_of_ble_eq_true rfl) (dg ddX3_init 19 rfl) (fun q1 H hP hD hS => ?_)
  have hP : va_P D vwCl [(b, .inr (4, [.int 0, .int 10, .int 0, .int 0, .int 0, .null, .null, .null, .null, .null, .null, .null, .null, .null, .null, .null, .null, .null])), (q1, .inl (cy 1, 8, .inr (.inr (.inl fz0))))] H := hP
  have hD : va_D A [(b, .inr (4, [.int 0, .int 10, .int 0, .int 0, .int 0, .null, .null, .null, .null, .null, .null, .null, .null, .null, .null, .null, .null, .null])), (q1, .inl (cy 1, 8, .inr (.inr (.inl fz0))))] := hD
  refine W.widen (k := 1) (n := 8) (Nat.le_of_ble_eq_true rfl) (Nat.le_of_ble_eq_true rfl) ?_
  refine va_putF (D := D) (ci := 4) (v := .ref q1) (ty := (.array .float)) (C := RX3) (T := TX3) (N := 18) hx hb CX.2.2.1 inX3 tyX3 tyX3_ok nmX3 CX.2.2.2 hK hP hD hS 0 rfl rfl 5 (by decide) (CX.2.2.1 (.fieldLink RX3 27 "BuskPitches$State" "limits" "[F") (lw_at 79 (by decide +kernel))) (fun _ h9 => h9) rfl hin rfl (by decide +kernel) rfl rfl (Nat.le_of_ble_eq_true rfl) (dg ddX3_init 20 rfl) (fun H locs hP hD hS => ?_)
  have hP : va_P D vwCl [(b, .inr (4, [.int 0, .int 10, .int 0, .int 0, .int 0, .ref q1, .null, .null, .null, .null, .null, .null, .null, .null, .null, .null, .null, .null])), (q1, .inl (cy 1, 8, .inr (.inr (.inl fz0))))] H := hP
  have hD : va_D A [(b, .inr (4, [.int 0, .int 10, .int 0, .int 0, .int 0, .ref q1, .null, .null, .null, .null, .null, .null, .null, .null, .null, .null, .null, .null])), (q1, .inl (cy 1, 8, .inr (.inr (.inl fz0))))] := hD
  refine lv_aload_n hx hb (dg ddX3_init 21 rfl) rfl (lv_at hl 0 rfl) ?_
  refine lv_bipush (v := 8) hx hb (dg ddX3_init 22 rfl) (by decide) ?_
  refine na_i CX hK hP hD hS hA (N' := 8) (by decide) rfl (Nat.le_of_ble_eq_true rfl) (Nat.le_of_ble_eq_true rfl) (Nat.le_of_ble_eq_true rfl) (dg ddX3_init 23 rfl) (fun q2 H hP hD hS => ?_)
  have hP : va_P D vwCl [(b, .inr (4, [.int 0, .int 10, .int 0, .int 0, .int 0, .ref q1, .null, .null, .null, .null, .null, .null, .null, .null, .null, .null, .null, .null])), (q1, .inl (cy 1, 8, .inr (.inr (.inl fz0)))), (q2, .inl (cy 0, 8, .inl z0))] H := hP
  have hD : va_D A [(b, .inr (4, [.int 0, .int 10, .int 0, .int 0, .int 0, .ref q1, .null, .null, .null, .null, .null, .null, .null, .null, .null, .null, .null, .null])), (q1, .inl (cy 1, 8, .inr (.inr (.inl fz0)))), (q2, .inl (cy 0, 8, .inl z0))] := hD
  refine W.widen (k := 2) (n := 16) (Nat.le_of_ble_eq_true rfl) (Nat.le_of_ble_eq_true rfl) ?_
  refine va_putF (D := D) (ci := 4) (v := .ref q2) (ty := (.array .int)) (C := RX3) (T := TX3) (N := 18) hx hb CX.2.2.1 inX3 tyX3 tyX3_ok nmX3 CX.2.2.2 hK hP hD hS 0 rfl rfl 6 (by decide) (CX.2.2.1 (.fieldLink RX3 31 "BuskPitches$State" "complaints" "[I") (lw_at 81 (by decide +kernel))) (fun _ h9 => h9) rfl hin rfl (by decide +kernel) rfl rfl (Nat.le_of_ble_eq_true rfl) (dg ddX3_init 24 rfl) (fun H locs hP hD hS => ?_)
  have hP : va_P D vwCl [(b, .inr (4, [.int 0, .int 10, .int 0, .int 0, .int 0, .ref q1, .ref q2, .null, .null, .null, .null, .null, .null, .null, .null, .null, .null, .null])), (q1, .inl (cy 1, 8, .inr (.inr (.inl fz0)))), (q2, .inl (cy 0, 8, .inl z0))] H := hP
  have hD : va_D A [(b, .inr (4, [.int 0, .int 10, .int 0, .int 0, .int 0, .ref q1, .ref q2, .null, .null, .null, .null, .null, .null, .null, .null, .null, .null, .null])), (q1, .inl (cy 1, 8, .inr (.inr (.inl fz0)))), (q2, .inl (cy 0, 8, .inl z0))] := hD
  refine lv_aload_n hx hb (dg ddX3_init 25 rfl) rfl (lv_at hl 0 rfl) ?_
  refine lv_bipush (v := 8) hx hb (dg ddX3_init 26 rfl) (by decide) ?_
  refine na_i CX hK hP hD hS hA (N' := 8) (by decide) rfl (Nat.le_of_ble_eq_true rfl) (Nat.le_of_ble_eq_true rfl) (Nat.le_of_ble_eq_true rfl) (dg ddX3_init 27 rfl) (fun q3 H hP hD hS => ?_)
  have hP : va_P D vwCl [(b, .inr (4, [.int 0, .int 10, .int 0, .int 0, .int 0, .ref q1, .ref q2, .null, .null, .null, .null, .null, .null, .null, .null, .null, .null, .null])), (q1, .inl (cy 1, 8, .inr (.inr (.inl fz0)))), (q2, .inl (cy 0, 8, .inl z0)), (q3, .inl (cy 0, 8, .inl z0))] H := hP
  have hD : va_D A [(b, .inr (4, [.int 0, .int 10, .int 0, .int 0, .int 0, .ref q1, .ref q2, .null, .null, .null, .null, .null, .null, .null, .null, .null, .null, .null])), (q1, .inl (cy 1, 8, .inr (.inr (.inl fz0)))), (q2, .inl (cy 0, 8, .inl z0)), (q3, .inl (cy 0, 8, .inl z0))] := hD
  refine W.widen (k := 3) (n := 24) (Nat.le_of_ble_eq_true rfl) (Nat.le_of_ble_eq_true rfl) ?_
  refine va_putF (D := D) (ci := 4) (v := .ref q3) (ty := (.array .int)) (C := RX3) (T := TX3) (N := 18) hx hb CX.2.2.1 inX3 tyX3 tyX3_ok nmX3 CX.2.2.2 hK hP hD hS 0 rfl rfl 7 (by decide) (CX.2.2.1 (.fieldLink RX3 35 "BuskPitches$State" "complaintsSoFar" "[I") (lw_at 83 (by decide +kernel))) (fun _ h9 => h9) rfl hin rfl (by decide +kernel) rfl rfl (Nat.le_of_ble_eq_true rfl) (dg ddX3_init 28 rfl) (fun H locs hP hD hS => ?_)
  have hP : va_P D vwCl [(b, .inr (4, [.int 0, .int 10, .int 0, .int 0, .int 0, .ref q1, .ref q2, .ref q3, .null, .null, .null, .null, .null, .null, .null, .null, .null, .null])), (q1, .inl (cy 1, 8, .inr (.inr (.inl fz0)))), (q2, .inl (cy 0, 8, .inl z0)), (q3, .inl (cy 0, 8, .inl z0))] H := hP
  have hD : va_D A [(b, .inr (4, [.int 0, .int 10, .int 0, .int 0, .int 0, .ref q1, .ref q2, .ref q3, .null, .null, .null, .null, .null, .null, .null, .null, .null, .null])), (q1, .inl (cy 1, 8, .inr (.inr (.inl fz0)))), (q2, .inl (cy 0, 8, .inl z0)), (q3, .inl (cy 0, 8, .inl z0))] := hD
  refine lv_aload_n hx hb (dg ddX3_init 29 rfl) rfl (lv_at hl 0 rfl) ?_
  refine lv_bipush (v := 8) hx hb (dg ddX3_init 30 rfl) (by decide) ?_
  refine na_i CX hK hP hD hS hA (N' := 8) (by decide) rfl (Nat.le_of_ble_eq_true rfl) (Nat.le_of_ble_eq_true rfl) (Nat.le_of_ble_eq_true rfl) (dg ddX3_init 31 rfl) (fun q4 H hP hD hS => ?_)
  have hP : va_P D vwCl [(b, .inr (4, [.int 0, .int 10, .int 0, .int 0, .int 0, .ref q1, .ref q2, .ref q3, .null, .null, .null, .null, .null, .null, .null, .null, .null, .null])), (q1, .inl (cy 1, 8, .inr (.inr (.inl fz0)))), (q2, .inl (cy 0, 8, .inl z0)), (q3, .inl (cy 0, 8, .inl z0)), (q4, .inl (cy 0, 8, .inl z0))] H := hP
  have hD : va_D A [(b, .inr (4, [.int 0, .int 10, .int 0, .int 0, .int 0, .ref q1, .ref q2, .ref q3, .null, .null, .null, .null, .null, .null, .null, .null, .null, .null])), (q1, .inl (cy 1, 8, .inr (.inr (.inl fz0)))), (q2, .inl (cy 0, 8, .inl z0)), (q3, .inl (cy 0, 8, .inl z0)), (q4, .inl (cy 0, 8, .inl z0))] := hD
  refine W.widen (k := 4) (n := 32) (Nat.le_of_ble_eq_true rfl) (Nat.le_of_ble_eq_true rfl) ?_
  refine va_putF (D := D) (ci := 4) (v := .ref q4) (ty := (.array .int)) (C := RX3) (T := TX3) (N := 18) hx hb CX.2.2.1 inX3 tyX3 tyX3_ok nmX3 CX.2.2.2 hK hP hD hS 0 rfl rfl 8 (by decide) (CX.2.2.1 (.fieldLink RX3 38 "BuskPitches$State" "kinds" "[I") (lw_at 85 (by decide +kernel))) (fun _ h9 => h9) rfl hin rfl (by decide +kernel) rfl rfl (Nat.le_of_ble_eq_true rfl) (dg ddX3_init 32 rfl) (fun H locs hP hD hS => ?_)
  have hP : va_P D vwCl [(b, .inr (4, [.int 0, .int 10, .int 0, .int 0, .int 0, .ref q1, .ref q2, .ref q3, .ref q4, .null, .null, .null, .null, .null, .null, .null, .null, .null])), (q1, .inl (cy 1, 8, .inr (.inr (.inl fz0)))), (q2, .inl (cy 0, 8, .inl z0)), (q3, .inl (cy 0, 8, .inl z0)), (q4, .inl (cy 0, 8, .inl z0))] H := hP
  have hD : va_D A [(b, .inr (4, [.int 0, .int 10, .int 0, .int 0, .int 0, .ref q1, .ref q2, .ref q3, .ref q4, .null, .null, .null, .null, .null, .null, .null, .null, .null])), (q1, .inl (cy 1, 8, .inr (.inr (.inl fz0)))), (q2, .inl (cy 0, 8, .inl z0)), (q3, .inl (cy 0, 8, .inl z0)), (q4, .inl (cy 0, 8, .inl z0))] := hD
  refine lv_aload_n hx hb (dg ddX3_init 33 rfl) rfl (lv_at hl 0 rfl) ?_
  refine lv_bipush (v := 8) hx hb (dg ddX3_init 34 rfl) (by decide) ?_
  refine na_i CX hK hP hD hS hA (N' := 8) (by decide) rfl (Nat.le_of_ble_eq_true rfl) (Nat.le_of_ble_eq_true rfl) (Nat.le_of_ble_eq_true rfl) (dg ddX3_init 35 rfl) (fun q5 H hP hD hS => ?_)
  have hP : va_P D vwCl [(b, .inr (4, [.int 0, .int 10, .int 0, .int 0, .int 0, .ref q1, .ref q2, .ref q3, .ref q4, .null, .null, .null, .null, .null, .null, .null, .null, .null])), (q1, .inl (cy 1, 8, .inr (.inr (.inl fz0)))), (q2, .inl (cy 0, 8, .inl z0)), (q3, .inl (cy 0, 8, .inl z0)), (q4, .inl (cy 0, 8, .inl z0)), (q5, .inl (cy 0, 8, .inl z0))] H := hP
  have hD : va_D A [(b, .inr (4, [.int 0, .int 10, .int 0, .int 0, .int 0, .ref q1, .ref q2, .ref q3, .ref q4, .null, .null, .null, .null, .null, .null, .null, .null, .null])), (q1, .inl (cy 1, 8, .inr (.inr (.inl fz0)))), (q2, .inl (cy 0, 8, .inl z0)), (q3, .inl (cy 0, 8, .inl z0)), (q4, .inl (cy 0, 8, .inl z0)), (q5, .inl (cy 0, 8, .inl z0))] := hD
  refine W.widen (k := 5) (n := 40) (Nat.le_of_ble_eq_true rfl) (Nat.le_of_ble_eq_true rfl) ?_
  refine va_putF (D := D) (ci := 4) (v := .ref q5) (ty := (.array .int)) (C := RX3) (T := TX3) (N := 18) hx hb CX.2.2.1 inX3 tyX3 tyX3_ok nmX3 CX.2.2.2 hK hP hD hS 0 rfl rfl 9 (by decide) (CX.2.2.1 (.fieldLink RX3 41 "BuskPitches$State" "loudnesses" "[I") (lw_at 87 (by decide +kernel))) (fun _ h9 => h9) rfl hin rfl (by decide +kernel) rfl rfl (Nat.le_of_ble_eq_true rfl) (dg ddX3_init 36 rfl) (fun H locs hP hD hS => ?_)
  have hP : va_P D vwCl [(b, .inr (4, [.int 0, .int 10, .int 0, .int 0, .int 0, .ref q1, .ref q2, .ref q3, .ref q4, .ref q5, .null, .null, .null, .null, .null, .null, .null, .null])), (q1, .inl (cy 1, 8, .inr (.inr (.inl fz0)))), (q2, .inl (cy 0, 8, .inl z0)), (q3, .inl (cy 0, 8, .inl z0)), (q4, .inl (cy 0, 8, .inl z0)), (q5, .inl (cy 0, 8, .inl z0))] H := hP
  have hD : va_D A [(b, .inr (4, [.int 0, .int 10, .int 0, .int 0, .int 0, .ref q1, .ref q2, .ref q3, .ref q4, .ref q5, .null, .null, .null, .null, .null, .null, .null, .null])), (q1, .inl (cy 1, 8, .inr (.inr (.inl fz0)))), (q2, .inl (cy 0, 8, .inl z0)), (q3, .inl (cy 0, 8, .inl z0)), (q4, .inl (cy 0, 8, .inl z0)), (q5, .inl (cy 0, 8, .inl z0))] := hD
  refine lv_aload_n hx hb (dg ddX3_init 37 rfl) rfl (lv_at hl 0 rfl) ?_
  refine lv_bipush (v := 8) hx hb (dg ddX3_init 38 rfl) (by decide) ?_
  refine na_i CX hK hP hD hS hA (N' := 8) (by decide) rfl (Nat.le_of_ble_eq_true rfl) (Nat.le_of_ble_eq_true rfl) (Nat.le_of_ble_eq_true rfl) (dg ddX3_init 39 rfl) (fun q6 H hP hD hS => ?_)
  have hP : va_P D vwCl [(b, .inr (4, [.int 0, .int 10, .int 0, .int 0, .int 0, .ref q1, .ref q2, .ref q3, .ref q4, .ref q5, .null, .null, .null, .null, .null, .null, .null, .null])), (q1, .inl (cy 1, 8, .inr (.inr (.inl fz0)))), (q2, .inl (cy 0, 8, .inl z0)), (q3, .inl (cy 0, 8, .inl z0)), (q4, .inl (cy 0, 8, .inl z0)), (q5, .inl (cy 0, 8, .inl z0)), (q6, .inl (cy 0, 8, .inl z0))] H := hP
  have hD : va_D A [(b, .inr (4, [.int 0, .int 10, .int 0, .int 0, .int 0, .ref q1, .ref q2, .ref q3, .ref q4, .ref q5, .null, .null, .null, .null, .null, .null, .null, .null])), (q1, .inl (cy 1, 8, .inr (.inr (.inl fz0)))), (q2, .inl (cy 0, 8, .inl z0)), (q3, .inl (cy 0, 8, .inl z0)), (q4, .inl (cy 0, 8, .inl z0)), (q5, .inl (cy 0, 8, .inl z0)), (q6, .inl (cy 0, 8, .inl z0))] := hD
  refine W.widen (k := 6) (n := 48) (Nat.le_of_ble_eq_true rfl) (Nat.le_of_ble_eq_true rfl) ?_
  refine va_putF (D := D) (ci := 4) (v := .ref q6) (ty := (.array .int)) (C := RX3) (T := TX3) (N := 18) hx hb CX.2.2.1 inX3 tyX3 tyX3_ok nmX3 CX.2.2.2 hK hP hD hS 0 rfl rfl 10 (by decide) (CX.2.2.1 (.fieldLink RX3 44 "BuskPitches$State" "pitches" "[I") (lw_at 89 (by decide +kernel))) (fun _ h9 => h9) rfl hin rfl (by decide +kernel) rfl rfl (Nat.le_of_ble_eq_true rfl) (dg ddX3_init 40 rfl) (fun H locs hP hD hS => ?_)
  have hP : va_P D vwCl [(b, .inr (4, [.int 0, .int 10, .int 0, .int 0, .int 0, .ref q1, .ref q2, .ref q3, .ref q4, .ref q5, .ref q6, .null, .null, .null, .null, .null, .null, .null])), (q1, .inl (cy 1, 8, .inr (.inr (.inl fz0)))), (q2, .inl (cy 0, 8, .inl z0)), (q3, .inl (cy 0, 8, .inl z0)), (q4, .inl (cy 0, 8, .inl z0)), (q5, .inl (cy 0, 8, .inl z0)), (q6, .inl (cy 0, 8, .inl z0))] H := hP
  have hD : va_D A [(b, .inr (4, [.int 0, .int 10, .int 0, .int 0, .int 0, .ref q1, .ref q2, .ref q3, .ref q4, .ref q5, .ref q6, .null, .null, .null, .null, .null, .null, .null])), (q1, .inl (cy 1, 8, .inr (.inr (.inl fz0)))), (q2, .inl (cy 0, 8, .inl z0)), (q3, .inl (cy 0, 8, .inl z0)), (q4, .inl (cy 0, 8, .inl z0)), (q5, .inl (cy 0, 8, .inl z0)), (q6, .inl (cy 0, 8, .inl z0))] := hD
  refine lv_aload_n hx hb (dg ddX3_init 41 rfl) rfl (lv_at hl 0 rfl) ?_
  refine lv_bipush (v := 8) hx hb (dg ddX3_init 42 rfl) (by decide) ?_
  refine na_i CX hK hP hD hS hA (N' := 8) (by decide) rfl (Nat.le_of_ble_eq_true rfl) (Nat.le_of_ble_eq_true rfl) (Nat.le_of_ble_eq_true rfl) (dg ddX3_init 43 rfl) (fun q7 H hP hD hS => ?_)
  have hP : va_P D vwCl [(b, .inr (4, [.int 0, .int 10, .int 0, .int 0, .int 0, .ref q1, .ref q2, .ref q3, .ref q4, .ref q5, .ref q6, .null, .null, .null, .null, .null, .null, .null])), (q1, .inl (cy 1, 8, .inr (.inr (.inl fz0)))), (q2, .inl (cy 0, 8, .inl z0)), (q3, .inl (cy 0, 8, .inl z0)), (q4, .inl (cy 0, 8, .inl z0)), (q5, .inl (cy 0, 8, .inl z0)), (q6, .inl (cy 0, 8, .inl z0)), (q7, .inl (cy 0, 8, .inl z0))] H := hP
  have hD : va_D A [(b, .inr (4, [.int 0, .int 10, .int 0, .int 0, .int 0, .ref q1, .ref q2, .ref q3, .ref q4, .ref q5, .ref q6, .null, .null, .null, .null, .null, .null, .null])), (q1, .inl (cy 1, 8, .inr (.inr (.inl fz0)))), (q2, .inl (cy 0, 8, .inl z0)), (q3, .inl (cy 0, 8, .inl z0)), (q4, .inl (cy 0, 8, .inl z0)), (q5, .inl (cy 0, 8, .inl z0)), (q6, .inl (cy 0, 8, .inl z0)), (q7, .inl (cy 0, 8, .inl z0))] := hD
  refine W.widen (k := 7) (n := 56) (Nat.le_of_ble_eq_true rfl) (Nat.le_of_ble_eq_true rfl) ?_
  refine va_putF (D := D) (ci := 4) (v := .ref q7) (ty := (.array .int)) (C := RX3) (T := TX3) (N := 18) hx hb CX.2.2.1 inX3 tyX3 tyX3_ok nmX3 CX.2.2.2 hK hP hD hS 0 rfl rfl 11 (by decide) (CX.2.2.1 (.fieldLink RX3 47 "BuskPitches$State" "places" "[I") (lw_at 91 (by decide +kernel))) (fun _ h9 => h9) rfl hin rfl (by decide +kernel) rfl rfl (Nat.le_of_ble_eq_true rfl) (dg ddX3_init 44 rfl) (fun H locs hP hD hS => ?_)
  have hP : va_P D vwCl [(b, .inr (4, [.int 0, .int 10, .int 0, .int 0, .int 0, .ref q1, .ref q2, .ref q3, .ref q4, .ref q5, .ref q6, .ref q7, .null, .null, .null, .null, .null, .null])), (q1, .inl (cy 1, 8, .inr (.inr (.inl fz0)))), (q2, .inl (cy 0, 8, .inl z0)), (q3, .inl (cy 0, 8, .inl z0)), (q4, .inl (cy 0, 8, .inl z0)), (q5, .inl (cy 0, 8, .inl z0)), (q6, .inl (cy 0, 8, .inl z0)), (q7, .inl (cy 0, 8, .inl z0))] H := hP
  have hD : va_D A [(b, .inr (4, [.int 0, .int 10, .int 0, .int 0, .int 0, .ref q1, .ref q2, .ref q3, .ref q4, .ref q5, .ref q6, .ref q7, .null, .null, .null, .null, .null, .null])), (q1, .inl (cy 1, 8, .inr (.inr (.inl fz0)))), (q2, .inl (cy 0, 8, .inl z0)), (q3, .inl (cy 0, 8, .inl z0)), (q4, .inl (cy 0, 8, .inl z0)), (q5, .inl (cy 0, 8, .inl z0)), (q6, .inl (cy 0, 8, .inl z0)), (q7, .inl (cy 0, 8, .inl z0))] := hD
  refine lv_aload_n hx hb (dg ddX3_init 45 rfl) rfl (lv_at hl 0 rfl) ?_
  refine lv_bipush (v := 8) hx hb (dg ddX3_init 46 rfl) (by decide) ?_
  refine na_i CX hK hP hD hS hA (N' := 8) (by decide) rfl (Nat.le_of_ble_eq_true rfl) (Nat.le_of_ble_eq_true rfl) (Nat.le_of_ble_eq_true rfl) (dg ddX3_init 47 rfl) (fun q8 H hP hD hS => ?_)
  have hP : va_P D vwCl [(b, .inr (4, [.int 0, .int 10, .int 0, .int 0, .int 0, .ref q1, .ref q2, .ref q3, .ref q4, .ref q5, .ref q6, .ref q7, .null, .null, .null, .null, .null, .null])), (q1, .inl (cy 1, 8, .inr (.inr (.inl fz0)))), (q2, .inl (cy 0, 8, .inl z0)), (q3, .inl (cy 0, 8, .inl z0)), (q4, .inl (cy 0, 8, .inl z0)), (q5, .inl (cy 0, 8, .inl z0)), (q6, .inl (cy 0, 8, .inl z0)), (q7, .inl (cy 0, 8, .inl z0)), (q8, .inl (cy 0, 8, .inl z0))] H := hP
  have hD : va_D A [(b, .inr (4, [.int 0, .int 10, .int 0, .int 0, .int 0, .ref q1, .ref q2, .ref q3, .ref q4, .ref q5, .ref q6, .ref q7, .null, .null, .null, .null, .null, .null])), (q1, .inl (cy 1, 8, .inr (.inr (.inl fz0)))), (q2, .inl (cy 0, 8, .inl z0)), (q3, .inl (cy 0, 8, .inl z0)), (q4, .inl (cy 0, 8, .inl z0)), (q5, .inl (cy 0, 8, .inl z0)), (q6, .inl (cy 0, 8, .inl z0)), (q7, .inl (cy 0, 8, .inl z0)), (q8, .inl (cy 0, 8, .inl z0))] := hD
  refine W.widen (k := 8) (n := 64) (Nat.le_of_ble_eq_true rfl) (Nat.le_of_ble_eq_true rfl) ?_
  refine va_putF (D := D) (ci := 4) (v := .ref q8) (ty := (.array .int)) (C := RX3) (T := TX3) (N := 18) hx hb CX.2.2.1 inX3 tyX3 tyX3_ok nmX3 CX.2.2.2 hK hP hD hS 0 rfl rfl 12 (by decide) (CX.2.2.1 (.fieldLink RX3 50 "BuskPitches$State" "cases" "[I") (lw_at 93 (by decide +kernel))) (fun _ h9 => h9) rfl hin rfl (by decide +kernel) rfl rfl (Nat.le_of_ble_eq_true rfl) (dg ddX3_init 48 rfl) (fun H locs hP hD hS => ?_)
  have hP : va_P D vwCl [(b, .inr (4, [.int 0, .int 10, .int 0, .int 0, .int 0, .ref q1, .ref q2, .ref q3, .ref q4, .ref q5, .ref q6, .ref q7, .ref q8, .null, .null, .null, .null, .null])), (q1, .inl (cy 1, 8, .inr (.inr (.inl fz0)))), (q2, .inl (cy 0, 8, .inl z0)), (q3, .inl (cy 0, 8, .inl z0)), (q4, .inl (cy 0, 8, .inl z0)), (q5, .inl (cy 0, 8, .inl z0)), (q6, .inl (cy 0, 8, .inl z0)), (q7, .inl (cy 0, 8, .inl z0)), (q8, .inl (cy 0, 8, .inl z0))] H := hP
  have hD : va_D A [(b, .inr (4, [.int 0, .int 10, .int 0, .int 0, .int 0, .ref q1, .ref q2, .ref q3, .ref q4, .ref q5, .ref q6, .ref q7, .ref q8, .null, .null, .null, .null, .null])), (q1, .inl (cy 1, 8, .inr (.inr (.inl fz0)))), (q2, .inl (cy 0, 8, .inl z0)), (q3, .inl (cy 0, 8, .inl z0)), (q4, .inl (cy 0, 8, .inl z0)), (q5, .inl (cy 0, 8, .inl z0)), (q6, .inl (cy 0, 8, .inl z0)), (q7, .inl (cy 0, 8, .inl z0)), (q8, .inl (cy 0, 8, .inl z0))] := hD
  refine lv_aload_n hx hb (dg ddX3_init 49 rfl) rfl (lv_at hl 0 rfl) ?_
  refine lv_bipush (v := 8) hx hb (dg ddX3_init 50 rfl) (by decide) ?_
  refine na_i CX hK hP hD hS hA (N' := 8) (by decide) rfl (Nat.le_of_ble_eq_true rfl) (Nat.le_of_ble_eq_true rfl) (Nat.le_of_ble_eq_true rfl) (dg ddX3_init 51 rfl) (fun q9 H hP hD hS => ?_)
  have hP : va_P D vwCl [(b, .inr (4, [.int 0, .int 10, .int 0, .int 0, .int 0, .ref q1, .ref q2, .ref q3, .ref q4, .ref q5, .ref q6, .ref q7, .ref q8, .null, .null, .null, .null, .null])), (q1, .inl (cy 1, 8, .inr (.inr (.inl fz0)))), (q2, .inl (cy 0, 8, .inl z0)), (q3, .inl (cy 0, 8, .inl z0)), (q4, .inl (cy 0, 8, .inl z0)), (q5, .inl (cy 0, 8, .inl z0)), (q6, .inl (cy 0, 8, .inl z0)), (q7, .inl (cy 0, 8, .inl z0)), (q8, .inl (cy 0, 8, .inl z0)), (q9, .inl (cy 0, 8, .inl z0))] H := hP
  have hD : va_D A [(b, .inr (4, [.int 0, .int 10, .int 0, .int 0, .int 0, .ref q1, .ref q2, .ref q3, .ref q4, .ref q5, .ref q6, .ref q7, .ref q8, .null, .null, .null, .null, .null])), (q1, .inl (cy 1, 8, .inr (.inr (.inl fz0)))), (q2, .inl (cy 0, 8, .inl z0)), (q3, .inl (cy 0, 8, .inl z0)), (q4, .inl (cy 0, 8, .inl z0)), (q5, .inl (cy 0, 8, .inl z0)), (q6, .inl (cy 0, 8, .inl z0)), (q7, .inl (cy 0, 8, .inl z0)), (q8, .inl (cy 0, 8, .inl z0)), (q9, .inl (cy 0, 8, .inl z0))] := hD
  refine W.widen (k := 9) (n := 72) (Nat.le_of_ble_eq_true rfl) (Nat.le_of_ble_eq_true rfl) ?_
  refine va_putF (D := D) (ci := 4) (v := .ref q9) (ty := (.array .int)) (C := RX3) (T := TX3) (N := 18) hx hb CX.2.2.1 inX3 tyX3 tyX3_ok nmX3 CX.2.2.2 hK hP hD hS 0 rfl rfl 13 (by decide) (CX.2.2.1 (.fieldLink RX3 53 "BuskPitches$State" "hoursPlayed" "[I") (lw_at 95 (by decide +kernel))) (fun _ h9 => h9) rfl hin rfl (by decide +kernel) rfl rfl (Nat.le_of_ble_eq_true rfl) (dg ddX3_init 52 rfl) (fun H locs hP hD hS => ?_)
  have hP : va_P D vwCl [(b, .inr (4, [.int 0, .int 10, .int 0, .int 0, .int 0, .ref q1, .ref q2, .ref q3, .ref q4, .ref q5, .ref q6, .ref q7, .ref q8, .ref q9, .null, .null, .null, .null])), (q1, .inl (cy 1, 8, .inr (.inr (.inl fz0)))), (q2, .inl (cy 0, 8, .inl z0)), (q3, .inl (cy 0, 8, .inl z0)), (q4, .inl (cy 0, 8, .inl z0)), (q5, .inl (cy 0, 8, .inl z0)), (q6, .inl (cy 0, 8, .inl z0)), (q7, .inl (cy 0, 8, .inl z0)), (q8, .inl (cy 0, 8, .inl z0)), (q9, .inl (cy 0, 8, .inl z0))] H := hP
  have hD : va_D A [(b, .inr (4, [.int 0, .int 10, .int 0, .int 0, .int 0, .ref q1, .ref q2, .ref q3, .ref q4, .ref q5, .ref q6, .ref q7, .ref q8, .ref q9, .null, .null, .null, .null])), (q1, .inl (cy 1, 8, .inr (.inr (.inl fz0)))), (q2, .inl (cy 0, 8, .inl z0)), (q3, .inl (cy 0, 8, .inl z0)), (q4, .inl (cy 0, 8, .inl z0)), (q5, .inl (cy 0, 8, .inl z0)), (q6, .inl (cy 0, 8, .inl z0)), (q7, .inl (cy 0, 8, .inl z0)), (q8, .inl (cy 0, 8, .inl z0)), (q9, .inl (cy 0, 8, .inl z0))] := hD
  refine lv_aload_n hx hb (dg ddX3_init 53 rfl) rfl (lv_at hl 0 rfl) ?_
  refine lv_bipush (v := 8) hx hb (dg ddX3_init 54 rfl) (by decide) ?_
  refine na_i CX hK hP hD hS hA (N' := 8) (by decide) rfl (Nat.le_of_ble_eq_true rfl) (Nat.le_of_ble_eq_true rfl) (Nat.le_of_ble_eq_true rfl) (dg ddX3_init 55 rfl) (fun q10 H hP hD hS => ?_)
  have hP : va_P D vwCl [(b, .inr (4, [.int 0, .int 10, .int 0, .int 0, .int 0, .ref q1, .ref q2, .ref q3, .ref q4, .ref q5, .ref q6, .ref q7, .ref q8, .ref q9, .null, .null, .null, .null])), (q1, .inl (cy 1, 8, .inr (.inr (.inl fz0)))), (q2, .inl (cy 0, 8, .inl z0)), (q3, .inl (cy 0, 8, .inl z0)), (q4, .inl (cy 0, 8, .inl z0)), (q5, .inl (cy 0, 8, .inl z0)), (q6, .inl (cy 0, 8, .inl z0)), (q7, .inl (cy 0, 8, .inl z0)), (q8, .inl (cy 0, 8, .inl z0)), (q9, .inl (cy 0, 8, .inl z0)), (q10, .inl (cy 0, 8, .inl z0))] H := hP
  have hD : va_D A [(b, .inr (4, [.int 0, .int 10, .int 0, .int 0, .int 0, .ref q1, .ref q2, .ref q3, .ref q4, .ref q5, .ref q6, .ref q7, .ref q8, .ref q9, .null, .null, .null, .null])), (q1, .inl (cy 1, 8, .inr (.inr (.inl fz0)))), (q2, .inl (cy 0, 8, .inl z0)), (q3, .inl (cy 0, 8, .inl z0)), (q4, .inl (cy 0, 8, .inl z0)), (q5, .inl (cy 0, 8, .inl z0)), (q6, .inl (cy 0, 8, .inl z0)), (q7, .inl (cy 0, 8, .inl z0)), (q8, .inl (cy 0, 8, .inl z0)), (q9, .inl (cy 0, 8, .inl z0)), (q10, .inl (cy 0, 8, .inl z0))] := hD
  refine W.widen (k := 10) (n := 80) (Nat.le_of_ble_eq_true rfl) (Nat.le_of_ble_eq_true rfl) ?_
  refine va_putF (D := D) (ci := 4) (v := .ref q10) (ty := (.array .int)) (C := RX3) (T := TX3) (N := 18) hx hb CX.2.2.1 inX3 tyX3 tyX3_ok nmX3 CX.2.2.2 hK hP hD hS 0 rfl rfl 14 (by decide) (CX.2.2.1 (.fieldLink RX3 56 "BuskPitches$State" "newStrings" "[I") (lw_at 97 (by decide +kernel))) (fun _ h9 => h9) rfl hin rfl (by decide +kernel) rfl rfl (Nat.le_of_ble_eq_true rfl) (dg ddX3_init 56 rfl) (fun H locs hP hD hS => ?_)
  have hP : va_P D vwCl [(b, .inr (4, [.int 0, .int 10, .int 0, .int 0, .int 0, .ref q1, .ref q2, .ref q3, .ref q4, .ref q5, .ref q6, .ref q7, .ref q8, .ref q9, .ref q10, .null, .null, .null])), (q1, .inl (cy 1, 8, .inr (.inr (.inl fz0)))), (q2, .inl (cy 0, 8, .inl z0)), (q3, .inl (cy 0, 8, .inl z0)), (q4, .inl (cy 0, 8, .inl z0)), (q5, .inl (cy 0, 8, .inl z0)), (q6, .inl (cy 0, 8, .inl z0)), (q7, .inl (cy 0, 8, .inl z0)), (q8, .inl (cy 0, 8, .inl z0)), (q9, .inl (cy 0, 8, .inl z0)), (q10, .inl (cy 0, 8, .inl z0))] H := hP
  have hD : va_D A [(b, .inr (4, [.int 0, .int 10, .int 0, .int 0, .int 0, .ref q1, .ref q2, .ref q3, .ref q4, .ref q5, .ref q6, .ref q7, .ref q8, .ref q9, .ref q10, .null, .null, .null])), (q1, .inl (cy 1, 8, .inr (.inr (.inl fz0)))), (q2, .inl (cy 0, 8, .inl z0)), (q3, .inl (cy 0, 8, .inl z0)), (q4, .inl (cy 0, 8, .inl z0)), (q5, .inl (cy 0, 8, .inl z0)), (q6, .inl (cy 0, 8, .inl z0)), (q7, .inl (cy 0, 8, .inl z0)), (q8, .inl (cy 0, 8, .inl z0)), (q9, .inl (cy 0, 8, .inl z0)), (q10, .inl (cy 0, 8, .inl z0))] := hD
  refine lv_aload_n hx hb (dg ddX3_init 57 rfl) rfl (lv_at hl 0 rfl) ?_
  refine lv_bipush (v := 8) hx hb (dg ddX3_init 58 rfl) (by decide) ?_
  refine na_f CX hK hP hD hS hA (N' := 8) (by decide) rfl (Nat.le_of_ble_eq_true rfl) (Nat.le_of_ble_eq_true rfl) (Nat.le_of_ble_eq_true rfl) (dg ddX3_init 59 rfl) (fun q11 H hP hD hS => ?_)
  have hP : va_P D vwCl [(b, .inr (4, [.int 0, .int 10, .int 0, .int 0, .int 0, .ref q1, .ref q2, .ref q3, .ref q4, .ref q5, .ref q6, .ref q7, .ref q8, .ref q9, .ref q10, .null, .null, .null])), (q1, .inl (cy 1, 8, .inr (.inr (.inl fz0)))), (q2, .inl (cy 0, 8, .inl z0)), (q3, .inl (cy 0, 8, .inl z0)), (q4, .inl (cy 0, 8, .inl z0)), (q5, .inl (cy 0, 8, .inl z0)), (q6, .inl (cy 0, 8, .inl z0)), (q7, .inl (cy 0, 8, .inl z0)), (q8, .inl (cy 0, 8, .inl z0)), (q9, .inl (cy 0, 8, .inl z0)), (q10, .inl (cy 0, 8, .inl z0)), (q11, .inl (cy 1, 8, .inr (.inr (.inl fz0))))] H := hP
  have hD : va_D A [(b, .inr (4, [.int 0, .int 10, .int 0, .int 0, .int 0, .ref q1, .ref q2, .ref q3, .ref q4, .ref q5, .ref q6, .ref q7, .ref q8, .ref q9, .ref q10, .null, .null, .null])), (q1, .inl (cy 1, 8, .inr (.inr (.inl fz0)))), (q2, .inl (cy 0, 8, .inl z0)), (q3, .inl (cy 0, 8, .inl z0)), (q4, .inl (cy 0, 8, .inl z0)), (q5, .inl (cy 0, 8, .inl z0)), (q6, .inl (cy 0, 8, .inl z0)), (q7, .inl (cy 0, 8, .inl z0)), (q8, .inl (cy 0, 8, .inl z0)), (q9, .inl (cy 0, 8, .inl z0)), (q10, .inl (cy 0, 8, .inl z0)), (q11, .inl (cy 1, 8, .inr (.inr (.inl fz0))))] := hD
  refine W.widen (k := 11) (n := 88) (Nat.le_of_ble_eq_true rfl) (Nat.le_of_ble_eq_true rfl) ?_
  refine va_putF (D := D) (ci := 4) (v := .ref q11) (ty := (.array .float)) (C := RX3) (T := TX3) (N := 18) hx hb CX.2.2.1 inX3 tyX3 tyX3_ok nmX3 CX.2.2.2 hK hP hD hS 0 rfl rfl 15 (by decide) (CX.2.2.1 (.fieldLink RX3 59 "BuskPitches$State" "hats" "[F") (lw_at 99 (by decide +kernel))) (fun _ h9 => h9) rfl hin rfl (by decide +kernel) rfl rfl (Nat.le_of_ble_eq_true rfl) (dg ddX3_init 60 rfl) (fun H locs hP hD hS => ?_)
  have hP : va_P D vwCl [(b, .inr (4, [.int 0, .int 10, .int 0, .int 0, .int 0, .ref q1, .ref q2, .ref q3, .ref q4, .ref q5, .ref q6, .ref q7, .ref q8, .ref q9, .ref q10, .ref q11, .null, .null])), (q1, .inl (cy 1, 8, .inr (.inr (.inl fz0)))), (q2, .inl (cy 0, 8, .inl z0)), (q3, .inl (cy 0, 8, .inl z0)), (q4, .inl (cy 0, 8, .inl z0)), (q5, .inl (cy 0, 8, .inl z0)), (q6, .inl (cy 0, 8, .inl z0)), (q7, .inl (cy 0, 8, .inl z0)), (q8, .inl (cy 0, 8, .inl z0)), (q9, .inl (cy 0, 8, .inl z0)), (q10, .inl (cy 0, 8, .inl z0)), (q11, .inl (cy 1, 8, .inr (.inr (.inl fz0))))] H := hP
  have hD : va_D A [(b, .inr (4, [.int 0, .int 10, .int 0, .int 0, .int 0, .ref q1, .ref q2, .ref q3, .ref q4, .ref q5, .ref q6, .ref q7, .ref q8, .ref q9, .ref q10, .ref q11, .null, .null])), (q1, .inl (cy 1, 8, .inr (.inr (.inl fz0)))), (q2, .inl (cy 0, 8, .inl z0)), (q3, .inl (cy 0, 8, .inl z0)), (q4, .inl (cy 0, 8, .inl z0)), (q5, .inl (cy 0, 8, .inl z0)), (q6, .inl (cy 0, 8, .inl z0)), (q7, .inl (cy 0, 8, .inl z0)), (q8, .inl (cy 0, 8, .inl z0)), (q9, .inl (cy 0, 8, .inl z0)), (q10, .inl (cy 0, 8, .inl z0)), (q11, .inl (cy 1, 8, .inr (.inr (.inl fz0))))] := hD
  refine lv_aload_n hx hb (dg ddX3_init 61 rfl) rfl (lv_at hl 0 rfl) ?_
  refine lv_bipush (v := 8) hx hb (dg ddX3_init 62 rfl) (by decide) ?_
  refine na_f CX hK hP hD hS hA (N' := 8) (by decide) rfl (Nat.le_of_ble_eq_true rfl) (Nat.le_of_ble_eq_true rfl) (Nat.le_of_ble_eq_true rfl) (dg ddX3_init 63 rfl) (fun q12 H hP hD hS => ?_)
  have hP : va_P D vwCl [(b, .inr (4, [.int 0, .int 10, .int 0, .int 0, .int 0, .ref q1, .ref q2, .ref q3, .ref q4, .ref q5, .ref q6, .ref q7, .ref q8, .ref q9, .ref q10, .ref q11, .null, .null])), (q1, .inl (cy 1, 8, .inr (.inr (.inl fz0)))), (q2, .inl (cy 0, 8, .inl z0)), (q3, .inl (cy 0, 8, .inl z0)), (q4, .inl (cy 0, 8, .inl z0)), (q5, .inl (cy 0, 8, .inl z0)), (q6, .inl (cy 0, 8, .inl z0)), (q7, .inl (cy 0, 8, .inl z0)), (q8, .inl (cy 0, 8, .inl z0)), (q9, .inl (cy 0, 8, .inl z0)), (q10, .inl (cy 0, 8, .inl z0)), (q11, .inl (cy 1, 8, .inr (.inr (.inl fz0)))), (q12, .inl (cy 1, 8, .inr (.inr (.inl fz0))))] H := hP
  have hD : va_D A [(b, .inr (4, [.int 0, .int 10, .int 0, .int 0, .int 0, .ref q1, .ref q2, .ref q3, .ref q4, .ref q5, .ref q6, .ref q7, .ref q8, .ref q9, .ref q10, .ref q11, .null, .null])), (q1, .inl (cy 1, 8, .inr (.inr (.inl fz0)))), (q2, .inl (cy 0, 8, .inl z0)), (q3, .inl (cy 0, 8, .inl z0)), (q4, .inl (cy 0, 8, .inl z0)), (q5, .inl (cy 0, 8, .inl z0)), (q6, .inl (cy 0, 8, .inl z0)), (q7, .inl (cy 0, 8, .inl z0)), (q8, .inl (cy 0, 8, .inl z0)), (q9, .inl (cy 0, 8, .inl z0)), (q10, .inl (cy 0, 8, .inl z0)), (q11, .inl (cy 1, 8, .inr (.inr (.inl fz0)))), (q12, .inl (cy 1, 8, .inr (.inr (.inl fz0))))] := hD
  refine W.widen (k := 12) (n := 96) (Nat.le_of_ble_eq_true rfl) (Nat.le_of_ble_eq_true rfl) ?_
  refine va_putF (D := D) (ci := 4) (v := .ref q12) (ty := (.array .float)) (C := RX3) (T := TX3) (N := 18) hx hb CX.2.2.1 inX3 tyX3 tyX3_ok nmX3 CX.2.2.2 hK hP hD hS 0 rfl rfl 16 (by decide) (CX.2.2.1 (.fieldLink RX3 62 "BuskPitches$State" "wears" "[F") (lw_at 101 (by decide +kernel))) (fun _ h9 => h9) rfl hin rfl (by decide +kernel) rfl rfl (Nat.le_of_ble_eq_true rfl) (dg ddX3_init 64 rfl) (fun H locs hP hD hS => ?_)
  have hP : va_P D vwCl [(b, .inr (4, [.int 0, .int 10, .int 0, .int 0, .int 0, .ref q1, .ref q2, .ref q3, .ref q4, .ref q5, .ref q6, .ref q7, .ref q8, .ref q9, .ref q10, .ref q11, .ref q12, .null])), (q1, .inl (cy 1, 8, .inr (.inr (.inl fz0)))), (q2, .inl (cy 0, 8, .inl z0)), (q3, .inl (cy 0, 8, .inl z0)), (q4, .inl (cy 0, 8, .inl z0)), (q5, .inl (cy 0, 8, .inl z0)), (q6, .inl (cy 0, 8, .inl z0)), (q7, .inl (cy 0, 8, .inl z0)), (q8, .inl (cy 0, 8, .inl z0)), (q9, .inl (cy 0, 8, .inl z0)), (q10, .inl (cy 0, 8, .inl z0)), (q11, .inl (cy 1, 8, .inr (.inr (.inl fz0)))), (q12, .inl (cy 1, 8, .inr (.inr (.inl fz0))))] H := hP
  have hD : va_D A [(b, .inr (4, [.int 0, .int 10, .int 0, .int 0, .int 0, .ref q1, .ref q2, .ref q3, .ref q4, .ref q5, .ref q6, .ref q7, .ref q8, .ref q9, .ref q10, .ref q11, .ref q12, .null])), (q1, .inl (cy 1, 8, .inr (.inr (.inl fz0)))), (q2, .inl (cy 0, 8, .inl z0)), (q3, .inl (cy 0, 8, .inl z0)), (q4, .inl (cy 0, 8, .inl z0)), (q5, .inl (cy 0, 8, .inl z0)), (q6, .inl (cy 0, 8, .inl z0)), (q7, .inl (cy 0, 8, .inl z0)), (q8, .inl (cy 0, 8, .inl z0)), (q9, .inl (cy 0, 8, .inl z0)), (q10, .inl (cy 0, 8, .inl z0)), (q11, .inl (cy 1, 8, .inr (.inr (.inl fz0)))), (q12, .inl (cy 1, 8, .inr (.inr (.inl fz0))))] := hD
  refine lv_aload_n hx hb (dg ddX3_init 65 rfl) rfl (lv_at hl 0 rfl) ?_
  refine lv_bipush (v := 10) hx hb (dg ddX3_init 66 rfl) (by decide) ?_
  refine na_f CX hK hP hD hS hA (N' := 10) (by decide) rfl (Nat.le_of_ble_eq_true rfl) (Nat.le_of_ble_eq_true rfl) (Nat.le_of_ble_eq_true rfl) (dg ddX3_init 67 rfl) (fun q13 H hP hD hS => ?_)
  have hP : va_P D vwCl [(b, .inr (4, [.int 0, .int 10, .int 0, .int 0, .int 0, .ref q1, .ref q2, .ref q3, .ref q4, .ref q5, .ref q6, .ref q7, .ref q8, .ref q9, .ref q10, .ref q11, .ref q12, .null])), (q1, .inl (cy 1, 8, .inr (.inr (.inl fz0)))), (q2, .inl (cy 0, 8, .inl z0)), (q3, .inl (cy 0, 8, .inl z0)), (q4, .inl (cy 0, 8, .inl z0)), (q5, .inl (cy 0, 8, .inl z0)), (q6, .inl (cy 0, 8, .inl z0)), (q7, .inl (cy 0, 8, .inl z0)), (q8, .inl (cy 0, 8, .inl z0)), (q9, .inl (cy 0, 8, .inl z0)), (q10, .inl (cy 0, 8, .inl z0)), (q11, .inl (cy 1, 8, .inr (.inr (.inl fz0)))), (q12, .inl (cy 1, 8, .inr (.inr (.inl fz0)))), (q13, .inl (cy 1, 10, .inr (.inr (.inl fz0))))] H := hP
  have hD : va_D A [(b, .inr (4, [.int 0, .int 10, .int 0, .int 0, .int 0, .ref q1, .ref q2, .ref q3, .ref q4, .ref q5, .ref q6, .ref q7, .ref q8, .ref q9, .ref q10, .ref q11, .ref q12, .null])), (q1, .inl (cy 1, 8, .inr (.inr (.inl fz0)))), (q2, .inl (cy 0, 8, .inl z0)), (q3, .inl (cy 0, 8, .inl z0)), (q4, .inl (cy 0, 8, .inl z0)), (q5, .inl (cy 0, 8, .inl z0)), (q6, .inl (cy 0, 8, .inl z0)), (q7, .inl (cy 0, 8, .inl z0)), (q8, .inl (cy 0, 8, .inl z0)), (q9, .inl (cy 0, 8, .inl z0)), (q10, .inl (cy 0, 8, .inl z0)), (q11, .inl (cy 1, 8, .inr (.inr (.inl fz0)))), (q12, .inl (cy 1, 8, .inr (.inr (.inl fz0)))), (q13, .inl (cy 1, 10, .inr (.inr (.inl fz0))))] := hD
  refine W.widen (k := 13) (n := 106) (Nat.le_of_ble_eq_true rfl) (Nat.le_of_ble_eq_true rfl) ?_
  refine va_putF (D := D) (ci := 4) (v := .ref q13) (ty := (.array .float)) (C := RX3) (T := TX3) (N := 18) hx hb CX.2.2.1 inX3 tyX3 tyX3_ok nmX3 CX.2.2.2 hK hP hD hS 0 rfl rfl 17 (by decide) (CX.2.2.1 (.fieldLink RX3 65 "BuskPitches$State" "row" "[F") (lw_at 103 (by decide +kernel))) (fun _ h9 => h9) rfl hin rfl (by decide +kernel) rfl rfl (Nat.le_of_ble_eq_true rfl) (dg ddX3_init 68 rfl) (fun H locs hP hD hS => ?_)
  have hP : va_P D vwCl [(b, .inr (4, [.int 0, .int 10, .int 0, .int 0, .int 0, .ref q1, .ref q2, .ref q3, .ref q4, .ref q5, .ref q6, .ref q7, .ref q8, .ref q9, .ref q10, .ref q11, .ref q12, .ref q13])), (q1, .inl (cy 1, 8, .inr (.inr (.inl fz0)))), (q2, .inl (cy 0, 8, .inl z0)), (q3, .inl (cy 0, 8, .inl z0)), (q4, .inl (cy 0, 8, .inl z0)), (q5, .inl (cy 0, 8, .inl z0)), (q6, .inl (cy 0, 8, .inl z0)), (q7, .inl (cy 0, 8, .inl z0)), (q8, .inl (cy 0, 8, .inl z0)), (q9, .inl (cy 0, 8, .inl z0)), (q10, .inl (cy 0, 8, .inl z0)), (q11, .inl (cy 1, 8, .inr (.inr (.inl fz0)))), (q12, .inl (cy 1, 8, .inr (.inr (.inl fz0)))), (q13, .inl (cy 1, 10, .inr (.inr (.inl fz0))))] H := hP
  have hD : va_D A [(b, .inr (4, [.int 0, .int 10, .int 0, .int 0, .int 0, .ref q1, .ref q2, .ref q3, .ref q4, .ref q5, .ref q6, .ref q7, .ref q8, .ref q9, .ref q10, .ref q11, .ref q12, .ref q13])), (q1, .inl (cy 1, 8, .inr (.inr (.inl fz0)))), (q2, .inl (cy 0, 8, .inl z0)), (q3, .inl (cy 0, 8, .inl z0)), (q4, .inl (cy 0, 8, .inl z0)), (q5, .inl (cy 0, 8, .inl z0)), (q6, .inl (cy 0, 8, .inl z0)), (q7, .inl (cy 0, 8, .inl z0)), (q8, .inl (cy 0, 8, .inl z0)), (q9, .inl (cy 0, 8, .inl z0)), (q10, .inl (cy 0, 8, .inl z0)), (q11, .inl (cy 1, 8, .inr (.inr (.inl fz0)))), (q12, .inl (cy 1, 8, .inr (.inr (.inl fz0)))), (q13, .inl (cy 1, 10, .inr (.inr (.inl fz0))))] := hD
  obtain ⟨q, hq⟩ : ∃ q : Nat → Nat, q = (fun k => match k with | 0 => b | 1 => q1 | 2 => q2 | 3 => q3 | 4 => q4 | 5 => q5 | 6 => q6 | 7 => q7 | 8 => q8 | 9 => q9 | 10 => q10 | 11 => q11 | 12 => q12 | _ => q13) := ⟨_, rfl⟩
  have hP : va_P D vwCl (wX3 q cy 0 10 0 0 0 fz0 z0 z0 z0 z0 z0 z0 z0 z0 z0 fz0 fz0 fz0) H := by rw [hq]; exact hP
  have hD : va_D A (wX3 q cy 0 10 0 0 0 fz0 z0 z0 z0 z0 z0 z0 z0 z0 z0 fz0 fz0 fz0) := by rw [hq]; exact hD
  have hb0 : q 0 = b := congrFun hq 0
  clear hq
  have hl : lv_has ls 1 [(0, .ref (q 0))] := by rw [hb0]; exact hl
  refine lv_aload_n hx hb (dg ddX3_init 69 rfl) rfl (lv_at hl 0 rfl) ?_
  refine gf_RX3_27 CX hK hP 0 rfl rfl (dg ddX3_init 70 rfl) ?_
  refine lv_ldcf hx hb CX.2.2.2 (CX.2.2.1 (.constantFloat RX3 68 (1117782016)) (lw_at 62 (by decide +kernel))) (dg ddX3_init 71 rfl) ?_
  refine crs1 CX hml (As := [.ref (q 1), .float 1117782016]) (rest := []) (ws := (wX3 q cy 0 10 0 0 0 fz0 z0 z0 z0 z0 z0 z0 z0 z0 z0 fz0 fz0 fz0)) (wsn := (wX3 q cy 0 10 0 0 0 lim0 z0 z0 z0 z0 z0 z0 z0 z0 z0 fz0 fz0 fz0)) (k := 1) (c_J7_fill_e525d l D cy (q 1) 8 fz0 1117782016 _ fill8f_eq) lk_RX3_69 rfl rfl hRM hP hD hS hA hK hN rfl rfl rfl hl.1 rfl (Nat.le_of_ble_eq_true rfl) ⟨Nat.le_of_ble_eq_true rfl, Nat.le_of_ble_eq_true rfl⟩ (dg ddX3_init 72 rfl) (fun H locs hP hD hS => ?_)
  refine lv_aload_n hx hb (dg ddX3_init 73 rfl) rfl (lv_at hl 0 rfl) ?_
  refine gf_RX3_44 CX hK hP 0 rfl rfl (dg ddX3_init 74 rfl) ?_
  refine lv_iconst (v := -1) hx hb (dg ddX3_init 75 rfl) (by decide) ?_
  refine crs1 CX hml (As := [.ref (q 6), .int (-1)]) (rest := []) (ws := (wX3 q cy 0 10 0 0 0 lim0 z0 z0 z0 z0 z0 z0 z0 z0 z0 fz0 fz0 fz0)) (wsn := (wX3 q cy 0 10 0 0 0 lim0 z0 z0 z0 z0 pm0 z0 z0 z0 z0 fz0 fz0 fz0)) (k := 6) (c_J7_fill_53178 l D cy (q 6) 8 z0 (-1) _ fill8i_eq) lk_RX3_75 rfl rfl hRM hP hD hS hA hK hN rfl rfl rfl hl.1 rfl (Nat.le_of_ble_eq_true rfl) ⟨Nat.le_of_ble_eq_true rfl, Nat.le_of_ble_eq_true rfl⟩ (dg ddX3_init 76 rfl) (fun H locs hP hD hS => ?_)
  refine lv_aload_n hx hb (dg ddX3_init 77 rfl) rfl (lv_at hl 0 rfl) ?_
  refine gf_RX3_47 CX hK hP 0 rfl rfl (dg ddX3_init 78 rfl) ?_
  refine lv_iconst (v := -1) hx hb (dg ddX3_init 79 rfl) (by decide) ?_
  refine crs1 CX hml (As := [.ref (q 7), .int (-1)]) (rest := []) (ws := (wX3 q cy 0 10 0 0 0 lim0 z0 z0 z0 z0 pm0 z0 z0 z0 z0 fz0 fz0 fz0)) (wsn := (wX3 q cy 0 10 0 0 0 lim0 z0 z0 z0 z0 pm0 pm0 z0 z0 z0 fz0 fz0 fz0)) (k := 7) (c_J7_fill_53178 l D cy (q 7) 8 z0 (-1) _ fill8i_eq) lk_RX3_75 rfl rfl hRM hP hD hS hA hK hN rfl rfl rfl hl.1 rfl (Nat.le_of_ble_eq_true rfl) ⟨Nat.le_of_ble_eq_true rfl, Nat.le_of_ble_eq_true rfl⟩ (dg ddX3_init 80 rfl) (fun H locs hP hD hS => ?_)
  refine lv_aload_n hx hb (dg ddX3_init 81 rfl) rfl (lv_at hl 0 rfl) ?_
  refine gf_RX3_50 CX hK hP 0 rfl rfl (dg ddX3_init 82 rfl) ?_
  refine lv_iconst (v := -1) hx hb (dg ddX3_init 83 rfl) (by decide) ?_
  refine crs1 CX hml (As := [.ref (q 8), .int (-1)]) (rest := []) (ws := (wX3 q cy 0 10 0 0 0 lim0 z0 z0 z0 z0 pm0 pm0 z0 z0 z0 fz0 fz0 fz0)) (wsn := (wX3 q cy 0 10 0 0 0 lim0 z0 z0 z0 z0 pm0 pm0 pm0 z0 z0 fz0 fz0 fz0)) (k := 8) (c_J7_fill_53178 l D cy (q 8) 8 z0 (-1) _ fill8i_eq) lk_RX3_75 rfl rfl hRM hP hD hS hA hK hN rfl rfl rfl hl.1 rfl (Nat.le_of_ble_eq_true rfl) ⟨Nat.le_of_ble_eq_true rfl, Nat.le_of_ble_eq_true rfl⟩ (dg ddX3_init 84 rfl) (fun H locs hP hD hS => ?_)
  exact e_ct (g := fun q : Nat → Nat => q 0) (W1 := W3 cy) CX hr hlk q hb0 hP hD hS (dg ddX3_init 85 rfl)
set_option maxHeartbeats 4000000 in
set_option maxRecDepth 100000 in
theorem c_X2_init (l : Launch) (D : va_G) (cy : Nat → ClassId) (b sz : Nat) : Met l yX2_init (.code yX2_init cX2_init 1 none :: lw_all) { frames := 1, cells := 1, slots := 60, locals := 12 } (va_Pc [.ref b] (sZ D cy [(b, .inr (3, [.null, .int 0]))] sz)) (qU D (fun q : Nat → Nat => q 0) b (W2 cy) (va_A [(b, .inr (3, [.null, .int 0]))] sz)) 1 60 (va_A [(b, .inr (3, [.null, .int 0]))] sz) := by
  refine mk_ct (Qc := qU D (fun q : Nat → Nat => q 0) b (W2 cy)) (Rc := RX2) (by decide +kernel) rfl rfl (Nat.le_of_ble_eq_true rfl) ?_
  intro p e s m args below meth c ls A CX hml hr hlk hin hK hN hE hP hD hS hA hl
  have hx := CX.1
  have hb := CX.2.1
  refine lv_aload_n hx hb (dg ddX2_init 0 rfl) rfl (lv_at hl 0 rfl) ?_
  refine oI CX (hml.trans hl.1.symm) (lw_at 168 (by decide +kernel)) (lw_at 54 (by decide +kernel)) (lw_at 55 (by decide +kernel)) (Nat.le_of_ble_eq_true rfl) (Nat.le_of_ble_eq_true rfl) (dg ddX2_init 1 rfl) ?_
  refine lv_aload_n hx hb (dg ddX2_init 2 rfl) rfl (lv_at hl 0 rfl) ?_
  refine lv_bipush (v := 60) hx hb (dg ddX2_init 3 rfl) (by decide) ?_
  refine na_c CX hK hP hD hS hA (N' := 60) (by decide) rfl (Nat.le_of_ble_eq_true rfl) (Nat.le_of_ble_eq_true rfl) (Nat.le_of_ble_eq_true rfl) (dg ddX2_init 4 rfl) (fun q1 H hP hD hS => ?_)
  have hP : va_P D vwCl [(b, .inr (3, [.null, .int 0])), (q1, .inl (cy 2, 60, .inl z0))] H := hP
  have hD : va_D A [(b, .inr (3, [.null, .int 0])), (q1, .inl (cy 2, 60, .inl z0))] := hD
  refine W.widen (k := 1) (n := 60) (Nat.le_of_ble_eq_true rfl) (Nat.le_of_ble_eq_true rfl) ?_
  refine va_putF (D := D) (ci := 3) (v := .ref q1) (ty := (.array .char)) (C := RX2) (T := TX2) (N := 2) hx hb CX.2.2.1 inX2 tyX2 tyX2_ok nmX2 CX.2.2.2 hK hP hD hS 0 rfl rfl 0 (by decide) (CX.2.2.1 (.fieldLink RX2 9 "BuskPitches$Input" "signs" "[C") (lw_at 169 (by decide +kernel))) (fun _ h9 => h9) rfl hin rfl (by decide +kernel) rfl rfl (Nat.le_of_ble_eq_true rfl) (dg ddX2_init 5 rfl) (fun H locs hP hD hS => ?_)
  have hP : va_P D vwCl [(b, .inr (3, [.ref q1, .int 0])), (q1, .inl (cy 2, 60, .inl z0))] H := hP
  have hD : va_D A [(b, .inr (3, [.ref q1, .int 0])), (q1, .inl (cy 2, 60, .inl z0))] := hD
  refine lv_aload_n hx hb (dg ddX2_init 6 rfl) rfl (lv_at hl 0 rfl) ?_
  refine lv_iconst (v := 0) hx hb (dg ddX2_init 7 rfl) (by decide) ?_
  refine pf_RX2_15 CX hK hP hD hS 0 rfl (dg ddX2_init 8 rfl) (Nat.le_of_ble_eq_true rfl) (fun H locs hP hD hS => ?_)
  have hP : va_P D vwCl [(b, .inr (3, [.ref q1, .int 0])), (q1, .inl (cy 2, 60, .inl z0))] H := hP
  have hD : va_D A [(b, .inr (3, [.ref q1, .int 0])), (q1, .inl (cy 2, 60, .inl z0))] := hD
  exact e_ct (g := fun q : Nat → Nat => q 0) (W1 := W2 cy) CX hr hlk (fun k => match k with | 0 => b | _ => q1) rfl hP hD hS (dg ddX2_init 9 rfl)
