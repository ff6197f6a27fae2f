/-! constructors: the reference -/
def rw0 (k : Nat) : Nat → Int32 := fun j => if j = 1 then 10 else if 8 ≤ j ∧ j < 8 + 4 * k ∧ (j - 8) % 4 = 0 then 1117782016 else if 8 ≤ j ∧ j < 8 + 4 * k ∧ (j - 8) % 4 = 3 then -1 else 0
theorem rw0_0 : upd z0 1 10 = rw0 0 := by
  funext j
  unfold rw0
  by_cases e : j = 1
  · rw [e, upd_eq, if_pos rfl]
  · rw [upd_ne _ _ e, if_neg e, if_neg (by omega), if_neg (by omega)]
    rfl
theorem rw0_s (k : Nat) : upd (upd (rw0 k) (8 + 4 * k) 1117782016) (8 + 4 * k + 3) (-1) = rw0 (k + 1) := by
  funext j
  by_cases e3 : j = 8 + 4 * k + 3
  · rw [e3, upd_eq]
    unfold rw0
    rw [if_neg (by omega), if_neg (by omega), if_pos (by omega)]
  · rw [upd_ne _ _ e3]
    by_cases e0 : j = 8 + 4 * k
    · rw [e0, upd_eq]
      unfold rw0
      rw [if_neg (by omega), if_pos (by omega)]
    · rw [upd_ne _ _ e0]
      unfold rw0
      by_cases a1 : j = 1
      · rw [if_pos a1, if_pos a1]
      · rw [if_neg a1, if_neg a1]
        by_cases a2 : 8 ≤ j ∧ j < 8 + 4 * k ∧ (j - 8) % 4 = 0
        · rw [if_pos a2, if_pos (by omega)]
        · have b2 : ¬ (8 ≤ j ∧ j < 8 + 4 * (k + 1) ∧ (j - 8) % 4 = 0) := by omega
          rw [if_neg a2, if_neg b2]
          by_cases a3 : 8 ≤ j ∧ j < 8 + 4 * k ∧ (j - 8) % 4 = 3
          · rw [if_pos a3, if_pos (by omega)]
          · have b3 : ¬ (8 ≤ j ∧ j < 8 + 4 * (k + 1) ∧ (j - 8) % 4 = 3) := by omega
            rw [if_neg a3, if_neg b3]
def W5_ (cy : Nat → ClassId) (q : Nat → Nat) : va_W := wX5 q cy 0 0 0 0 0 0 0 0 (-1) 0 0 0 0 (rw0 8) z0 z0 z0 (fun _ => z0) fz0 fz0 z0
def qm (b q1 q2 q3 q4 q5 q6 q7 q8 : Nat) (r : Nat → Nat) : Nat → Nat := fun k => if k = 0 then b else if k = 1 then q1 else if k = 2 then q2 else if k = 3 then q3 else if k = 4 then q4 else if k = 5 then q5 else if k = 6 then q6 else if k = 7 then q7 else if k = 8 then q8 else r (k - 20)
theorem qm_r (b q1 q2 q3 q4 q5 q6 q7 q8 : Nat) (r : Nat → Nat) (i : Nat) : qm b q1 q2 q3 q4 q5 q6 q7 q8 r (20 + i) = r i := by
  unfold qm
  rw [if_neg (by omega), if_neg (by omega), if_neg (by omega), if_neg (by omega), if_neg (by omega), if_neg (by omega), if_neg (by omega), if_neg (by omega), if_neg (by omega), Nat.add_sub_cancel_left]
theorem hr_pl (cy : Nat → ClassId) (q r : Nat → Nat) (f : Nat → va_E) (h : ∀ i, q (20 + i) = r i) : va_pl ([] ++ (List.range 8).map r) (vr_up f ((List.range 8).map r) (.inl (cy 0, 112, .inl z0))) = hrows q cy (fun _ => z0) := by
  unfold va_pl hrows
  rw [List.nil_append, List.map_map]
  refine List.map_congr_left fun i hi => ?_
  show (r i, vr_up f _ _ (r i)) = _
  rw [vr_up_in (List.mem_map.mpr ⟨i, hi, rfl⟩), h i]
set_option maxHeartbeats 4000000 in
set_option maxRecDepth 100000 in
theorem c_X5_init (l : Launch) (D : va_G) (cy : Nat → ClassId) (b sz : Nat) : Met l yX5_init (.code yX5_init cX5_init 2 none :: lw_all) ⟨3, 16, 1430, 60⟩ (va_Pc [.ref b] (sZ D cy [(b, .inr (6, [.int 0, .null, .null, .null, .null, .null, .null, .null, .int 0, .int 0, .int 0, .int 0, .int 0, .null, .int 0, .int 0, .int 0, .int 0, .int 0, .int 0, .int 0]))] sz)) (qU D (fun q : Nat → Nat => q 0) b (W5_ cy) (va_A [(b, .inr (6, [.int 0, .null, .null, .null, .null, .null, .null, .null, .int 0, .int 0, .int 0, .int 0, .int 0, .null, .int 0, .int 0, .int 0, .int 0, .int 0, .int 0, .int 0]))] sz)) 16 1430 (va_A [(b, .inr (6, [.int 0, .null, .null, .null, .null, .null, .null, .null, .int 0, .int 0, .int 0, .int 0, .int 0, .null, .int 0, .int 0, .int 0, .int 0, .int 0, .int 0, .int 0]))] sz) := by
  refine mk_ct (Qc := qU D (fun q : Nat → Nat => q 0) b (W5_ cy)) (Rc := RX5) (by decide +kernel) rfl rfl (Nat.le_of_ble_eq_true rfl) ?_
  intro p e s m args below meth c ls A CX hml hr hlk hin hK hN hE hP hD hS hA hl
  have hx := CX.1
  have hb := CX.2.1
  have hRF : (⟨2, 0, 0, 40⟩ : Room).frames + 1 ≤ (⟨3, 16, 1430, 60⟩ : Room).frames ∧ 8 + (1 + 11) + (⟨2, 0, 0, 40⟩ : Room).locals ≤ (⟨3, 16, 1430, 60⟩ : Room).locals := ⟨Nat.le_of_ble_eq_true rfl, Nat.le_of_ble_eq_true rfl⟩
  have hRP : (⟨1, 0, 0, 12⟩ : Room).frames + 1 ≤ (⟨3, 16, 1430, 60⟩ : Room).frames ∧ 8 + (4 + 11) + (⟨1, 0, 0, 12⟩ : Room).locals ≤ (⟨3, 16, 1430, 60⟩ : Room).locals := ⟨Nat.le_of_ble_eq_true rfl, Nat.le_of_ble_eq_true rfl⟩
  have K : ∀ (n i : Nat) (q : Nat → Nat) (H : Heap) (locs : List Loc) (ls : Array Slot), i + n = 8 → q 0 = b → lv_has ls 2 [(0, .ref (q 0)), (1, .int (nI i))] → va_P D vwCl (wX5 q cy 0 0 0 0 0 0 0 0 (-1) 0 0 0 0 (rw0 i) z0 z0 z0 (fun _ => z0) fz0 fz0 z0) H → va_D A (wX5 q cy 0 0 0 0 0 0 0 0 (-1) 0 0 0 0 (rw0 i) z0 z0 z0 (fun _ => z0) fz0 fz0 z0) → va_S A s.heap H locs → W p l e ⟨3, 16, 1430, 60⟩ s m args below meth c H locs 16 1430 (MQ below (qU D (fun q : Nat → Nat => q 0) b (W5_ cy) A) args s 16 1430 A) (F0 m 87 ls []) := by
    intro n
    induction n with
    | zero =>
      intro i q H locs ls hi hq hl hP hD hS
      obtain rfl : i = 8 := by omega
      refine lv_iload_n hx hb (dg ddX5_init 45 rfl) rfl (lv_at hl 1 rfl) ?_
      refine lv_bipush (v := 8) hx hb (dg ddX5_init 46 rfl) (by decide) ?_
      refine lv_icmp_ge (tgt := 117) hx hb (dg ddX5_init 47 rfl) (by decide) (fun h1 => ?_) (fun h1 => absurd (by decide) h1)
      exact e_ct (g := fun q : Nat → Nat => q 0) (W1 := W5_ cy) CX hr hlk q hq hP hD hS (dg ddX5_init 61 rfl)
    | succ n ih =>
      intro i q H locs ls hi hq hl hP hD hS
      refine lv_iload_n hx hb (dg ddX5_init 45 rfl) rfl (lv_at hl 1 rfl) ?_
      refine lv_bipush (v := 8) hx hb (dg ddX5_init 46 rfl) (by decide) ?_
      refine lv_icmp_ge (tgt := 117) hx hb (dg ddX5_init 47 rfl) (by decide) (fun h1 => absurd (show nI 8 ≤ nI i from h1) (nI_ge (by omega) (by omega))) (fun h1 => ?_)
      refine lv_aload_n hx hb (dg ddX5_init 48 rfl) rfl (lv_at hl 0 rfl) ?_
      refine lv_iload_n hx hb (dg ddX5_init 49 rfl) rfl (lv_at hl 1 rfl) ?_
      refine lv_iconst (v := 0) hx hb (dg ddX5_init 50 rfl) (by decide) ?_
      refine lv_ldcf hx hb CX.2.2.2 (CX.2.2.1 (.constantFloat RX5 42 (1117782016)) (lw_at 1004 (by decide +kernel))) (dg ddX5_init 51 rfl) ?_
      have e1 : f_Jxf58ca_floatToIntBits_5c35a 1117782016 = some 1117782016 := fToI_n (by decide)
      refine cro_si CX hml (As := [.float 1117782016]) (rest := [.int 0, .int (nI i), .ref (q 0)]) (c_Jxf58ca_floatToIntBits_5c35a l D cy 1117782016 e1) lk_RX5_43 rfl rfl hRF vaP_nil hK hN rfl hl.1 rfl (Nat.le_of_ble_eq_true rfl) ⟨Nat.le_of_ble_eq_true rfl, Nat.le_of_ble_eq_true rfl⟩ (dg ddX5_init 52 rfl) ?_
      refine crw_vv CX hml (As := [.int (nI i), .int 0, .int 1117782016]) (rest := []) (c_X5_putPitch l D cy q 0 0 0 0 0 0 0 0 (-1) 0 0 0 0 (rw0 i) z0 z0 z0 (fun _ => z0) fz0 fz0 z0 (nI i) 0 1117782016 _ (puP0 (rw0 i) (show i < 8 by omega) 1117782016)) lk_RX5_49 rfl rfl hRP hP hD hS hA hK hN 0 rfl rfl rfl hl.1 rfl (Nat.le_of_ble_eq_true rfl) ⟨Nat.le_of_ble_eq_true rfl, Nat.le_of_ble_eq_true rfl⟩ (dg ddX5_init 53 rfl) (fun H locs hP hD hS => ?_)
      refine lv_aload_n hx hb (dg ddX5_init 54 rfl) rfl (lv_at hl 0 rfl) ?_
      refine lv_iload_n hx hb (dg ddX5_init 55 rfl) rfl (lv_at hl 1 rfl) ?_
      refine lv_iconst (v := 3) hx hb (dg ddX5_init 56 rfl) (by decide) ?_
      refine lv_iconst (v := -1) hx hb (dg ddX5_init 57 rfl) (by decide) ?_
      refine crw_vv CX hml (As := [.int (nI i), .int 3, .int (-1)]) (rest := []) (c_X5_putPitch l D cy q 0 0 0 0 0 0 0 0 (-1) 0 0 0 0 (upd (rw0 i) (8 + 4 * i) 1117782016) z0 z0 z0 (fun _ => z0) fz0 fz0 z0 (nI i) 3 (-1) _ (puP3 _ (show i < 8 by omega) (-1))) lk_RX5_49 rfl rfl hRP hP hD hS hA hK hN 0 rfl rfl rfl hl.1 rfl (Nat.le_of_ble_eq_true rfl) ⟨Nat.le_of_ble_eq_true rfl, Nat.le_of_ble_eq_true rfl⟩ (dg ddX5_init 58 rfl) (fun H locs hP hD hS => ?_)
      rw [rw0_s] at hP hD
      refine lv_iinc (v := nI (i + 1)) (lv' := [(1, .int (nI (i + 1))), (0, .ref (q 0))]) hx hb (dg ddX5_init 59 rfl) hl (k := 1) rfl (by rw [← nI_1]; exact congrArg (HAdd.hAdd (nI i)) (by decide)) (by decide) rfl (fun ls hl => ?_)
      refine lv_goto (tgt := 87) hx hb (dg ddX5_init 60 rfl) (by decide) ?_
      exact ih (i + 1) q H locs ls (by omega) hq (lv_sub hl [1, 0] rfl) hP hD hS
  refine lv_aload_n hx hb (dg ddX5_init 0 rfl) rfl (lv_at hl 0 rfl) ?_
  refine oI CX (hml.trans hl.1.symm) (lw_at 1001 (by decide +kernel)) (lw_at 91 (by decide +kernel)) (lw_at 92 (by decide +kernel)) (Nat.le_of_ble_eq_true rfl) (Nat.le_of_ble_eq_true rfl) (dg ddX5_init 1 rfl) ?_
  refine lv_aload_n hx hb (dg ddX5_init 2 rfl) rfl (lv_at hl 0 rfl) ?_
  refine lv_bipush (v := 112) hx hb (dg ddX5_init 3 rfl) (by decide) ?_
  refine na_i CX hK hP hD hS hA (N' := 112) (by decide) rfl (Nat.le_of_ble_eq_true rfl) (Nat.le_of_ble_eq_true rfl) (Nat.le_of_ble_eq_true rfl) (dg ddX5_init 4 rfl) (fun q1 H hP hD hS => ?_)
  have hP : va_P D vwCl [(b, .inr (6, [.int 0, .null, .null, .null, .null, .null, .null, .null, .int 0, .int 0, .int 0, .int 0, .int 0, .null, .int 0, .int 0, .int 0, .int 0, .int 0, .int 0, .int 0])), (q1, .inl (cy 0, 112, .inl z0))] H := hP
  have hD : va_D A [(b, .inr (6, [.int 0, .null, .null, .null, .null, .null, .null, .null, .int 0, .int 0, .int 0, .int 0, .int 0, .null, .int 0, .int 0, .int 0, .int 0, .int 0, .int 0, .int 0])), (q1, .inl (cy 0, 112, .inl z0))] := hD
  refine W.widen (k := 1) (n := 112) (Nat.le_of_ble_eq_true rfl) (Nat.le_of_ble_eq_true rfl) ?_
  refine va_putF (D := D) (ci := 6) (v := .ref q1) (ty := (.array .int)) (C := RX5) (T := TX5) (N := 21) hx hb CX.2.2.1 inX5 tyX5 tyX5_ok nmX5 CX.2.2.2 hK hP hD hS 0 rfl rfl 1 (by decide) (CX.2.2.1 (.fieldLink RX5 9 "BuskPitchesModel" "now" "[I") (lw_at 1020 (by decide +kernel))) (fun _ h9 => h9) rfl hin rfl (by decide +kernel) rfl rfl (Nat.le_of_ble_eq_true rfl) (dg ddX5_init 5 rfl) (fun H locs hP hD hS => ?_)
  have hP : va_P D vwCl [(b, .inr (6, [.int 0, .ref q1, .null, .null, .null, .null, .null, .null, .int 0, .int 0, .int 0, .int 0, .int 0, .null, .int 0, .int 0, .int 0, .int 0, .int 0, .int 0, .int 0])), (q1, .inl (cy 0, 112, .inl z0))] H := hP
  have hD : va_D A [(b, .inr (6, [.int 0, .ref q1, .null, .null, .null, .null, .null, .null, .int 0, .int 0, .int 0, .int 0, .int 0, .null, .int 0, .int 0, .int 0, .int 0, .int 0, .int 0, .int 0])), (q1, .inl (cy 0, 112, .inl z0))] := hD
  refine lv_aload_n hx hb (dg ddX5_init 6 rfl) rfl (lv_at hl 0 rfl) ?_
  refine lv_bipush (v := 112) hx hb (dg ddX5_init 7 rfl) (by decide) ?_
  refine na_i CX hK hP hD hS hA (N' := 112) (by decide) rfl (Nat.le_of_ble_eq_true rfl) (Nat.le_of_ble_eq_true rfl) (Nat.le_of_ble_eq_true rfl) (dg ddX5_init 8 rfl) (fun q2 H hP hD hS => ?_)
  have hP : va_P D vwCl [(b, .inr (6, [.int 0, .ref q1, .null, .null, .null, .null, .null, .null, .int 0, .int 0, .int 0, .int 0, .int 0, .null, .int 0, .int 0, .int 0, .int 0, .int 0, .int 0, .int 0])), (q1, .inl (cy 0, 112, .inl z0)), (q2, .inl (cy 0, 112, .inl z0))] H := hP
  have hD : va_D A [(b, .inr (6, [.int 0, .ref q1, .null, .null, .null, .null, .null, .null, .int 0, .int 0, .int 0, .int 0, .int 0, .null, .int 0, .int 0, .int 0, .int 0, .int 0, .int 0, .int 0])), (q1, .inl (cy 0, 112, .inl z0)), (q2, .inl (cy 0, 112, .inl z0))] := hD
  refine W.widen (k := 2) (n := 224) (Nat.le_of_ble_eq_true rfl) (Nat.le_of_ble_eq_true rfl) ?_
  refine va_putF (D := D) (ci := 6) (v := .ref q2) (ty := (.array .int)) (C := RX5) (T := TX5) (N := 21) hx hb CX.2.2.1 inX5 tyX5 tyX5_ok nmX5 CX.2.2.2 hK hP hD hS 0 rfl rfl 2 (by decide) (CX.2.2.1 (.fieldLink RX5 13 "BuskPitchesModel" "saved" "[I") (lw_at 1021 (by decide +kernel))) (fun _ h9 => h9) rfl hin rfl (by decide +kernel) rfl rfl (Nat.le_of_ble_eq_true rfl) (dg ddX5_init 9 rfl) (fun H locs hP hD hS => ?_)
  have hP : va_P D vwCl [(b, .inr (6, [.int 0, .ref q1, .ref q2, .null, .null, .null, .null, .null, .int 0, .int 0, .int 0, .int 0, .int 0, .null, .int 0, .int 0, .int 0, .int 0, .int 0, .int 0, .int 0])), (q1, .inl (cy 0, 112, .inl z0)), (q2, .inl (cy 0, 112, .inl z0))] H := hP
  have hD : va_D A [(b, .inr (6, [.int 0, .ref q1, .ref q2, .null, .null, .null, .null, .null, .int 0, .int 0, .int 0, .int 0, .int 0, .null, .int 0, .int 0, .int 0, .int 0, .int 0, .int 0, .int 0])), (q1, .inl (cy 0, 112, .inl z0)), (q2, .inl (cy 0, 112, .inl z0))] := hD
  refine lv_aload_n hx hb (dg ddX5_init 10 rfl) rfl (lv_at hl 0 rfl) ?_
  refine lv_bipush (v := 112) hx hb (dg ddX5_init 11 rfl) (by decide) ?_
  refine na_i CX hK hP hD hS hA (N' := 112) (by decide) rfl (Nat.le_of_ble_eq_true rfl) (Nat.le_of_ble_eq_true rfl) (Nat.le_of_ble_eq_true rfl) (dg ddX5_init 12 rfl) (fun q3 H hP hD hS => ?_)
  have hP : va_P D vwCl [(b, .inr (6, [.int 0, .ref q1, .ref q2, .null, .null, .null, .null, .null, .int 0, .int 0, .int 0, .int 0, .int 0, .null, .int 0, .int 0, .int 0, .int 0, .int 0, .int 0, .int 0])), (q1, .inl (cy 0, 112, .inl z0)), (q2, .inl (cy 0, 112, .inl z0)), (q3, .inl (cy 0, 112, .inl z0))] H := hP
  have hD : va_D A [(b, .inr (6, [.int 0, .ref q1, .ref q2, .null, .null, .null, .null, .null, .int 0, .int 0, .int 0, .int 0, .int 0, .null, .int 0, .int 0, .int 0, .int 0, .int 0, .int 0, .int 0])), (q1, .inl (cy 0, 112, .inl z0)), (q2, .inl (cy 0, 112, .inl z0)), (q3, .inl (cy 0, 112, .inl z0))] := hD
  refine W.widen (k := 3) (n := 336) (Nat.le_of_ble_eq_true rfl) (Nat.le_of_ble_eq_true rfl) ?_
  refine va_putF (D := D) (ci := 6) (v := .ref q3) (ty := (.array .int)) (C := RX5) (T := TX5) (N := 21) hx hb CX.2.2.1 inX5 tyX5 tyX5_ok nmX5 CX.2.2.2 hK hP hD hS 0 rfl rfl 3 (by decide) (CX.2.2.1 (.fieldLink RX5 16 "BuskPitchesModel" "ahead" "[I") (lw_at 1022 (by decide +kernel))) (fun _ h9 => h9) rfl hin rfl (by decide +kernel) rfl rfl (Nat.le_of_ble_eq_true rfl) (dg ddX5_init 13 rfl) (fun H locs hP hD hS => ?_)
  have hP : va_P D vwCl [(b, .inr (6, [.int 0, .ref q1, .ref q2, .ref q3, .null, .null, .null, .null, .int 0, .int 0, .int 0, .int 0, .int 0, .null, .int 0, .int 0, .int 0, .int 0, .int 0, .int 0, .int 0])), (q1, .inl (cy 0, 112, .inl z0)), (q2, .inl (cy 0, 112, .inl z0)), (q3, .inl (cy 0, 112, .inl z0))] H := hP
  have hD : va_D A [(b, .inr (6, [.int 0, .ref q1, .ref q2, .ref q3, .null, .null, .null, .null, .int 0, .int 0, .int 0, .int 0, .int 0, .null, .int 0, .int 0, .int 0, .int 0, .int 0, .int 0, .int 0])), (q1, .inl (cy 0, 112, .inl z0)), (q2, .inl (cy 0, 112, .inl z0)), (q3, .inl (cy 0, 112, .inl z0))] := hD
  refine lv_aload_n hx hb (dg ddX5_init 14 rfl) rfl (lv_at hl 0 rfl) ?_
  refine lv_bipush (v := 112) hx hb (dg ddX5_init 15 rfl) (by decide) ?_
  refine na_i CX hK hP hD hS hA (N' := 112) (by decide) rfl (Nat.le_of_ble_eq_true rfl) (Nat.le_of_ble_eq_true rfl) (Nat.le_of_ble_eq_true rfl) (dg ddX5_init 16 rfl) (fun q4 H hP hD hS => ?_)
  have hP : va_P D vwCl [(b, .inr (6, [.int 0, .ref q1, .ref q2, .ref q3, .null, .null, .null, .null, .int 0, .int 0, .int 0, .int 0, .int 0, .null, .int 0, .int 0, .int 0, .int 0, .int 0, .int 0, .int 0])), (q1, .inl (cy 0, 112, .inl z0)), (q2, .inl (cy 0, 112, .inl z0)), (q3, .inl (cy 0, 112, .inl z0)), (q4, .inl (cy 0, 112, .inl z0))] H := hP
  have hD : va_D A [(b, .inr (6, [.int 0, .ref q1, .ref q2, .ref q3, .null, .null, .null, .null, .int 0, .int 0, .int 0, .int 0, .int 0, .null, .int 0, .int 0, .int 0, .int 0, .int 0, .int 0, .int 0])), (q1, .inl (cy 0, 112, .inl z0)), (q2, .inl (cy 0, 112, .inl z0)), (q3, .inl (cy 0, 112, .inl z0)), (q4, .inl (cy 0, 112, .inl z0))] := hD
  refine W.widen (k := 4) (n := 448) (Nat.le_of_ble_eq_true rfl) (Nat.le_of_ble_eq_true rfl) ?_
  refine va_putF (D := D) (ci := 6) (v := .ref q4) (ty := (.array .int)) (C := RX5) (T := TX5) (N := 21) hx hb CX.2.2.1 inX5 tyX5 tyX5_ok nmX5 CX.2.2.2 hK hP hD hS 0 rfl rfl 4 (by decide) (CX.2.2.1 (.fieldLink RX5 19 "BuskPitchesModel" "before" "[I") (lw_at 1023 (by decide +kernel))) (fun _ h9 => h9) rfl hin rfl (by decide +kernel) rfl rfl (Nat.le_of_ble_eq_true rfl) (dg ddX5_init 17 rfl) (fun H locs hP hD hS => ?_)
  have hP : va_P D vwCl [(b, .inr (6, [.int 0, .ref q1, .ref q2, .ref q3, .ref q4, .null, .null, .null, .int 0, .int 0, .int 0, .int 0, .int 0, .null, .int 0, .int 0, .int 0, .int 0, .int 0, .int 0, .int 0])), (q1, .inl (cy 0, 112, .inl z0)), (q2, .inl (cy 0, 112, .inl z0)), (q3, .inl (cy 0, 112, .inl z0)), (q4, .inl (cy 0, 112, .inl z0))] H := hP
  have hD : va_D A [(b, .inr (6, [.int 0, .ref q1, .ref q2, .ref q3, .ref q4, .null, .null, .null, .int 0, .int 0, .int 0, .int 0, .int 0, .null, .int 0, .int 0, .int 0, .int 0, .int 0, .int 0, .int 0])), (q1, .inl (cy 0, 112, .inl z0)), (q2, .inl (cy 0, 112, .inl z0)), (q3, .inl (cy 0, 112, .inl z0)), (q4, .inl (cy 0, 112, .inl z0))] := hD
  refine lv_aload_n hx hb (dg ddX5_init 18 rfl) rfl (lv_at hl 0 rfl) ?_
  refine lv_bipush (v := 8) hx hb (dg ddX5_init 19 rfl) (by decide) ?_
  refine lv_bipush (v := 112) hx hb (dg ddX5_init 20 rfl) (by decide) ?_
  have hP : va_P D vwCl ([(b, .inr (6, [.int 0, .ref q1, .ref q2, .ref q3, .ref q4, .null, .null, .null, .int 0, .int 0, .int 0, .int 0, .int 0, .null, .int 0, .int 0, .int 0, .int 0, .int 0, .int 0, .int 0])), (q1, .inl (cy 0, 112, .inl z0)), (q2, .inl (cy 0, 112, .inl z0)), (q3, .inl (cy 0, 112, .inl z0)), (q4, .inl (cy 0, 112, .inl z0))] ++ va_pl [] (fun _ => .inl (cy 0, 112, .inl z0))) H := by
    show va_P D vwCl ([(b, .inr (6, [.int 0, .ref q1, .ref q2, .ref q3, .ref q4, .null, .null, .null, .int 0, .int 0, .int 0, .int 0, .int 0, .null, .int 0, .int 0, .int 0, .int 0, .int 0, .int 0, .int 0])), (q1, .inl (cy 0, 112, .inl z0)), (q2, .inl (cy 0, 112, .inl z0)), (q3, .inl (cy 0, 112, .inl z0)), (q4, .inl (cy 0, 112, .inl z0))] ++ []) H
    rw [List.append_nil]; exact hP
  have hD : va_D A ([(b, .inr (6, [.int 0, .ref q1, .ref q2, .ref q3, .ref q4, .null, .null, .null, .int 0, .int 0, .int 0, .int 0, .int 0, .null, .int 0, .int 0, .int 0, .int 0, .int 0, .int 0, .int 0])), (q1, .inl (cy 0, 112, .inl z0)), (q2, .inl (cy 0, 112, .inl z0)), (q3, .inl (cy 0, 112, .inl z0)), (q4, .inl (cy 0, 112, .inl z0))] ++ va_pl [] (fun _ => .inl (cy 0, 112, .inl z0))) := by
    show va_D A ([(b, .inr (6, [.int 0, .ref q1, .ref q2, .ref q3, .ref q4, .null, .null, .null, .int 0, .int 0, .int 0, .int 0, .int 0, .null, .int 0, .int 0, .int 0, .int 0, .int 0, .int 0, .int 0])), (q1, .inl (cy 0, 112, .inl z0)), (q2, .inl (cy 0, 112, .inl z0)), (q3, .inl (cy 0, 112, .inl z0)), (q4, .inl (cy 0, 112, .inl z0))] ++ [])
    rw [List.append_nil]; exact hD
  refine va_mna (own := RX5) (index := 22) (ty := .int) (cy := cy 0) (N' := 8) (K' := 112) (z := (112, .inl z0)) hx hb CX.2.2.2 ((show ("[" ++ (FieldType.array .int).toString) = "[[I" from by decide +kernel) ▸ CX.2.2.1 (.classLink RX5 22 "[[I") (lw_at 1002 (by decide +kernel))) hE.2.1 (CX.2.2.1 (.arrayClass .int) (lw_at 179 (by decide +kernel))) (hK.2 0 _ rfl).2 hK hP hD hS hA (by decide) (by decide) rfl rfl (Nat.le_of_ble_eq_true rfl) (Nat.le_of_ble_eq_true rfl) (Nat.le_of_ble_eq_true rfl) rfl rfl (Nat.le_of_ble_eq_true rfl) (Nat.le_of_ble_eq_true rfl) (fun c => arrV_new c 112 (.int 0)) (dg ddX5_init 21 rfl) (fun q5 r cA H hr1 hr2 hK1 hP hD hS => ?_)
  have hc1 : s.vm.findClass _ = some cA := (hK1.2 7 _ rfl).2
  have hc2 : s.vm.findClass _ = some (cy 4) := (hK.2 4 _ rfl).2
  obtain rfl : cA = cy 4 := Option.some.inj (hc1.symm.trans hc2)
  clear hK1 hr1 hr2
  generalize hPL : va_pl ([] ++ (List.range 8).map r) (vr_up (fun _ => .inl (cy 0, 112, .inl z0)) ((List.range 8).map r) (.inl (cy 0, 112, .inl z0))) = PL at hP hD
  refine W.widen (k := 13) (n := 1352) (Nat.le_of_ble_eq_true rfl) (Nat.le_of_ble_eq_true rfl) ?_
  have hP : va_P D vwCl ([(b, .inr (6, [.int 0, .ref q1, .ref q2, .ref q3, .ref q4, .null, .null, .null, .int 0, .int 0, .int 0, .int 0, .int 0, .null, .int 0, .int 0, .int 0, .int 0, .int 0, .int 0, .int 0])), (q1, .inl (cy 0, 112, .inl z0)), (q2, .inl (cy 0, 112, .inl z0)), (q3, .inl (cy 0, 112, .inl z0)), (q4, .inl (cy 0, 112, .inl z0)), (q5, .inl (cy 4, 8, .inr (.inr (.inr (.inr (fun i => if i < 8 then some (r i) else none))))))] ++ PL : va_W) H := hP
  have hD : va_D A ([(b, .inr (6, [.int 0, .ref q1, .ref q2, .ref q3, .ref q4, .null, .null, .null, .int 0, .int 0, .int 0, .int 0, .int 0, .null, .int 0, .int 0, .int 0, .int 0, .int 0, .int 0, .int 0])), (q1, .inl (cy 0, 112, .inl z0)), (q2, .inl (cy 0, 112, .inl z0)), (q3, .inl (cy 0, 112, .inl z0)), (q4, .inl (cy 0, 112, .inl z0)), (q5, .inl (cy 4, 8, .inr (.inr (.inr (.inr (fun i => if i < 8 then some (r i) else none))))))] ++ PL : va_W) := hD
  refine va_putF (D := D) (ci := 6) (v := .ref q5) (ty := (.array (.array .int))) (C := RX5) (T := TX5) (N := 21) hx hb CX.2.2.1 inX5 tyX5 tyX5_ok nmX5 CX.2.2.2 hK hP hD hS 0 rfl rfl 5 (by decide) (CX.2.2.1 (.fieldLink RX5 24 "BuskPitchesModel" "history" "[[I") (lw_at 1024 (by decide +kernel))) (fun _ h9 => h9) rfl hin rfl (by decide +kernel) rfl rfl (Nat.le_of_ble_eq_true rfl) (dg ddX5_init 22 rfl) (fun H locs hP hD hS => ?_)
  have hP : va_P D vwCl ([(b, .inr (6, [.int 0, .ref q1, .ref q2, .ref q3, .ref q4, .ref q5, .null, .null, .int 0, .int 0, .int 0, .int 0, .int 0, .null, .int 0, .int 0, .int 0, .int 0, .int 0, .int 0, .int 0])), (q1, .inl (cy 0, 112, .inl z0)), (q2, .inl (cy 0, 112, .inl z0)), (q3, .inl (cy 0, 112, .inl z0)), (q4, .inl (cy 0, 112, .inl z0)), (q5, .inl (cy 4, 8, .inr (.inr (.inr (.inr (fun i => if i < 8 then some (r i) else none))))))] ++ PL : va_W) H := hP
  have hD : va_D A ([(b, .inr (6, [.int 0, .ref q1, .ref q2, .ref q3, .ref q4, .ref q5, .null, .null, .int 0, .int 0, .int 0, .int 0, .int 0, .null, .int 0, .int 0, .int 0, .int 0, .int 0, .int 0, .int 0])), (q1, .inl (cy 0, 112, .inl z0)), (q2, .inl (cy 0, 112, .inl z0)), (q3, .inl (cy 0, 112, .inl z0)), (q4, .inl (cy 0, 112, .inl z0)), (q5, .inl (cy 4, 8, .inr (.inr (.inr (.inr (fun i => if i < 8 then some (r i) else none))))))] ++ PL : va_W) := hD
  refine lv_aload_n hx hb (dg ddX5_init 23 rfl) rfl (lv_at hl 0 rfl) ?_
  refine lv_bipush (v := 8) hx hb (dg ddX5_init 24 rfl) (by decide) ?_
  refine na_f CX hK hP hD hS hA (N' := 8) (by decide) rfl (Nat.le_of_ble_eq_true rfl) (Nat.le_of_ble_eq_true rfl) (Nat.le_of_ble_eq_true rfl) (dg ddX5_init 25 rfl) (fun q6 H hP hD hS => ?_)
  have hP : va_P D vwCl ([(b, .inr (6, [.int 0, .ref q1, .ref q2, .ref q3, .ref q4, .ref q5, .null, .null, .int 0, .int 0, .int 0, .int 0, .int 0, .null, .int 0, .int 0, .int 0, .int 0, .int 0, .int 0, .int 0])), (q1, .inl (cy 0, 112, .inl z0)), (q2, .inl (cy 0, 112, .inl z0)), (q3, .inl (cy 0, 112, .inl z0)), (q4, .inl (cy 0, 112, .inl z0)), (q5, .inl (cy 4, 8, .inr (.inr (.inr (.inr (fun i => if i < 8 then some (r i) else none))))))] ++ PL ++ [(q6, .inl (cy 1, 8, .inr (.inr (.inl fz0))))] : va_W) H := hP
  have hD : va_D A ([(b, .inr (6, [.int 0, .ref q1, .ref q2, .ref q3, .ref q4, .ref q5, .null, .null, .int 0, .int 0, .int 0, .int 0, .int 0, .null, .int 0, .int 0, .int 0, .int 0, .int 0, .int 0, .int 0])), (q1, .inl (cy 0, 112, .inl z0)), (q2, .inl (cy 0, 112, .inl z0)), (q3, .inl (cy 0, 112, .inl z0)), (q4, .inl (cy 0, 112, .inl z0)), (q5, .inl (cy 4, 8, .inr (.inr (.inr (.inr (fun i => if i < 8 then some (r i) else none))))))] ++ PL ++ [(q6, .inl (cy 1, 8, .inr (.inr (.inl fz0))))] : va_W) := hD
  refine W.widen (k := 14) (n := 1360) (Nat.le_of_ble_eq_true rfl) (Nat.le_of_ble_eq_true rfl) ?_
  refine va_putF (D := D) (ci := 6) (v := .ref q6) (ty := (.array .float)) (C := RX5) (T := TX5) (N := 21) hx hb CX.2.2.1 inX5 tyX5 tyX5_ok nmX5 CX.2.2.2 hK hP hD hS 0 rfl rfl 6 (by decide) (CX.2.2.1 (.fieldLink RX5 27 "BuskPitchesModel" "noises" "[F") (lw_at 1025 (by decide +kernel))) (fun _ h9 => h9) rfl hin rfl (by decide +kernel) rfl rfl (Nat.le_of_ble_eq_true rfl) (dg ddX5_init 26 rfl) (fun H locs hP hD hS => ?_)
  have hP : va_P D vwCl ([(b, .inr (6, [.int 0, .ref q1, .ref q2, .ref q3, .ref q4, .ref q5, .ref q6, .null, .int 0, .int 0, .int 0, .int 0, .int 0, .null, .int 0, .int 0, .int 0, .int 0, .int 0, .int 0, .int 0])), (q1, .inl (cy 0, 112, .inl z0)), (q2, .inl (cy 0, 112, .inl z0)), (q3, .inl (cy 0, 112, .inl z0)), (q4, .inl (cy 0, 112, .inl z0)), (q5, .inl (cy 4, 8, .inr (.inr (.inr (.inr (fun i => if i < 8 then some (r i) else none))))))] ++ PL ++ [(q6, .inl (cy 1, 8, .inr (.inr (.inl fz0))))] : va_W) H := hP
  have hD : va_D A ([(b, .inr (6, [.int 0, .ref q1, .ref q2, .ref q3, .ref q4, .ref q5, .ref q6, .null, .int 0, .int 0, .int 0, .int 0, .int 0, .null, .int 0, .int 0, .int 0, .int 0, .int 0, .int 0, .int 0])), (q1, .inl (cy 0, 112, .inl z0)), (q2, .inl (cy 0, 112, .inl z0)), (q3, .inl (cy 0, 112, .inl z0)), (q4, .inl (cy 0, 112, .inl z0)), (q5, .inl (cy 4, 8, .inr (.inr (.inr (.inr (fun i => if i < 8 then some (r i) else none))))))] ++ PL ++ [(q6, .inl (cy 1, 8, .inr (.inr (.inl fz0))))] : va_W) := hD
  refine lv_aload_n hx hb (dg ddX5_init 27 rfl) rfl (lv_at hl 0 rfl) ?_
  refine lv_bipush (v := 10) hx hb (dg ddX5_init 28 rfl) (by decide) ?_
  refine na_f CX hK hP hD hS hA (N' := 10) (by decide) rfl (Nat.le_of_ble_eq_true rfl) (Nat.le_of_ble_eq_true rfl) (Nat.le_of_ble_eq_true rfl) (dg ddX5_init 29 rfl) (fun q7 H hP hD hS => ?_)
  have hP : va_P D vwCl ([(b, .inr (6, [.int 0, .ref q1, .ref q2, .ref q3, .ref q4, .ref q5, .ref q6, .null, .int 0, .int 0, .int 0, .int 0, .int 0, .null, .int 0, .int 0, .int 0, .int 0, .int 0, .int 0, .int 0])), (q1, .inl (cy 0, 112, .inl z0)), (q2, .inl (cy 0, 112, .inl z0)), (q3, .inl (cy 0, 112, .inl z0)), (q4, .inl (cy 0, 112, .inl z0)), (q5, .inl (cy 4, 8, .inr (.inr (.inr (.inr (fun i => if i < 8 then some (r i) else none))))))] ++ PL ++ [(q6, .inl (cy 1, 8, .inr (.inr (.inl fz0))))] ++ [(q7, .inl (cy 1, 10, .inr (.inr (.inl fz0))))] : va_W) H := hP
  have hD : va_D A ([(b, .inr (6, [.int 0, .ref q1, .ref q2, .ref q3, .ref q4, .ref q5, .ref q6, .null, .int 0, .int 0, .int 0, .int 0, .int 0, .null, .int 0, .int 0, .int 0, .int 0, .int 0, .int 0, .int 0])), (q1, .inl (cy 0, 112, .inl z0)), (q2, .inl (cy 0, 112, .inl z0)), (q3, .inl (cy 0, 112, .inl z0)), (q4, .inl (cy 0, 112, .inl z0)), (q5, .inl (cy 4, 8, .inr (.inr (.inr (.inr (fun i => if i < 8 then some (r i) else none))))))] ++ PL ++ [(q6, .inl (cy 1, 8, .inr (.inr (.inl fz0))))] ++ [(q7, .inl (cy 1, 10, .inr (.inr (.inl fz0))))] : va_W) := hD
  refine W.widen (k := 15) (n := 1370) (Nat.le_of_ble_eq_true rfl) (Nat.le_of_ble_eq_true rfl) ?_
  refine va_putF (D := D) (ci := 6) (v := .ref q7) (ty := (.array .float)) (C := RX5) (T := TX5) (N := 21) hx hb CX.2.2.1 inX5 tyX5 tyX5_ok nmX5 CX.2.2.2 hK hP hD hS 0 rfl rfl 7 (by decide) (CX.2.2.1 (.fieldLink RX5 31 "BuskPitchesModel" "owns" "[F") (lw_at 1026 (by decide +kernel))) (fun _ h9 => h9) rfl hin rfl (by decide +kernel) rfl rfl (Nat.le_of_ble_eq_true rfl) (dg ddX5_init 30 rfl) (fun H locs hP hD hS => ?_)
  have hP : va_P D vwCl ([(b, .inr (6, [.int 0, .ref q1, .ref q2, .ref q3, .ref q4, .ref q5, .ref q6, .ref q7, .int 0, .int 0, .int 0, .int 0, .int 0, .null, .int 0, .int 0, .int 0, .int 0, .int 0, .int 0, .int 0])), (q1, .inl (cy 0, 112, .inl z0)), (q2, .inl (cy 0, 112, .inl z0)), (q3, .inl (cy 0, 112, .inl z0)), (q4, .inl (cy 0, 112, .inl z0)), (q5, .inl (cy 4, 8, .inr (.inr (.inr (.inr (fun i => if i < 8 then some (r i) else none))))))] ++ PL ++ [(q6, .inl (cy 1, 8, .inr (.inr (.inl fz0))))] ++ [(q7, .inl (cy 1, 10, .inr (.inr (.inl fz0))))] : va_W) H := hP
  have hD : va_D A ([(b, .inr (6, [.int 0, .ref q1, .ref q2, .ref q3, .ref q4, .ref q5, .ref q6, .ref q7, .int 0, .int 0, .int 0, .int 0, .int 0, .null, .int 0, .int 0, .int 0, .int 0, .int 0, .int 0, .int 0])), (q1, .inl (cy 0, 112, .inl z0)), (q2, .inl (cy 0, 112, .inl z0)), (q3, .inl (cy 0, 112, .inl z0)), (q4, .inl (cy 0, 112, .inl z0)), (q5, .inl (cy 4, 8, .inr (.inr (.inr (.inr (fun i => if i < 8 then some (r i) else none))))))] ++ PL ++ [(q6, .inl (cy 1, 8, .inr (.inr (.inl fz0))))] ++ [(q7, .inl (cy 1, 10, .inr (.inr (.inl fz0))))] : va_W) := hD
  refine lv_aload_n hx hb (dg ddX5_init 31 rfl) rfl (lv_at hl 0 rfl) ?_
  refine lv_bipush (v := 60) hx hb (dg ddX5_init 32 rfl) (by decide) ?_
  refine na_c CX hK hP hD hS hA (N' := 60) (by decide) rfl (Nat.le_of_ble_eq_true rfl) (Nat.le_of_ble_eq_true rfl) (Nat.le_of_ble_eq_true rfl) (dg ddX5_init 33 rfl) (fun q8 H hP hD hS => ?_)
  have hP : va_P D vwCl ([(b, .inr (6, [.int 0, .ref q1, .ref q2, .ref q3, .ref q4, .ref q5, .ref q6, .ref q7, .int 0, .int 0, .int 0, .int 0, .int 0, .null, .int 0, .int 0, .int 0, .int 0, .int 0, .int 0, .int 0])), (q1, .inl (cy 0, 112, .inl z0)), (q2, .inl (cy 0, 112, .inl z0)), (q3, .inl (cy 0, 112, .inl z0)), (q4, .inl (cy 0, 112, .inl z0)), (q5, .inl (cy 4, 8, .inr (.inr (.inr (.inr (fun i => if i < 8 then some (r i) else none))))))] ++ PL ++ [(q6, .inl (cy 1, 8, .inr (.inr (.inl fz0))))] ++ [(q7, .inl (cy 1, 10, .inr (.inr (.inl fz0))))] ++ [(q8, .inl (cy 2, 60, .inl z0))] : va_W) H := hP
  have hD : va_D A ([(b, .inr (6, [.int 0, .ref q1, .ref q2, .ref q3, .ref q4, .ref q5, .ref q6, .ref q7, .int 0, .int 0, .int 0, .int 0, .int 0, .null, .int 0, .int 0, .int 0, .int 0, .int 0, .int 0, .int 0])), (q1, .inl (cy 0, 112, .inl z0)), (q2, .inl (cy 0, 112, .inl z0)), (q3, .inl (cy 0, 112, .inl z0)), (q4, .inl (cy 0, 112, .inl z0)), (q5, .inl (cy 4, 8, .inr (.inr (.inr (.inr (fun i => if i < 8 then some (r i) else none))))))] ++ PL ++ [(q6, .inl (cy 1, 8, .inr (.inr (.inl fz0))))] ++ [(q7, .inl (cy 1, 10, .inr (.inr (.inl fz0))))] ++ [(q8, .inl (cy 2, 60, .inl z0))] : va_W) := hD
  refine W.widen (k := 16) (n := 1430) (Nat.le_of_ble_eq_true rfl) (Nat.le_of_ble_eq_true rfl) ?_
  refine va_putF (D := D) (ci := 6) (v := .ref q8) (ty := (.array .char)) (C := RX5) (T := TX5) (N := 21) hx hb CX.2.2.1 inX5 tyX5 tyX5_ok nmX5 CX.2.2.2 hK hP hD hS 0 rfl rfl 13 (by decide) (CX.2.2.1 (.fieldLink RX5 34 "BuskPitchesModel" "input" "[C") (lw_at 1032 (by decide +kernel))) (fun _ h9 => h9) rfl hin rfl (by decide +kernel) rfl rfl (Nat.le_of_ble_eq_true rfl) (dg ddX5_init 34 rfl) (fun H locs hP hD hS => ?_)
  have hP : va_P D vwCl ([(b, .inr (6, [.int 0, .ref q1, .ref q2, .ref q3, .ref q4, .ref q5, .ref q6, .ref q7, .int 0, .int 0, .int 0, .int 0, .int 0, .ref q8, .int 0, .int 0, .int 0, .int 0, .int 0, .int 0, .int 0])), (q1, .inl (cy 0, 112, .inl z0)), (q2, .inl (cy 0, 112, .inl z0)), (q3, .inl (cy 0, 112, .inl z0)), (q4, .inl (cy 0, 112, .inl z0)), (q5, .inl (cy 4, 8, .inr (.inr (.inr (.inr (fun i => if i < 8 then some (r i) else none))))))] ++ PL ++ [(q6, .inl (cy 1, 8, .inr (.inr (.inl fz0))))] ++ [(q7, .inl (cy 1, 10, .inr (.inr (.inl fz0))))] ++ [(q8, .inl (cy 2, 60, .inl z0))] : va_W) H := hP
  have hD : va_D A ([(b, .inr (6, [.int 0, .ref q1, .ref q2, .ref q3, .ref q4, .ref q5, .ref q6, .ref q7, .int 0, .int 0, .int 0, .int 0, .int 0, .ref q8, .int 0, .int 0, .int 0, .int 0, .int 0, .int 0, .int 0])), (q1, .inl (cy 0, 112, .inl z0)), (q2, .inl (cy 0, 112, .inl z0)), (q3, .inl (cy 0, 112, .inl z0)), (q4, .inl (cy 0, 112, .inl z0)), (q5, .inl (cy 4, 8, .inr (.inr (.inr (.inr (fun i => if i < 8 then some (r i) else none))))))] ++ PL ++ [(q6, .inl (cy 1, 8, .inr (.inr (.inl fz0))))] ++ [(q7, .inl (cy 1, 10, .inr (.inr (.inl fz0))))] ++ [(q8, .inl (cy 2, 60, .inl z0))] : va_W) := hD
  have pm : ([(b, .inr (6, [.int 0, .ref q1, .ref q2, .ref q3, .ref q4, .ref q5, .ref q6, .ref q7, .int 0, .int 0, .int 0, .int 0, .int 0, .ref q8, .int 0, .int 0, .int 0, .int 0, .int 0, .int 0, .int 0])), (q1, .inl (cy 0, 112, .inl z0)), (q2, .inl (cy 0, 112, .inl z0)), (q3, .inl (cy 0, 112, .inl z0)), (q4, .inl (cy 0, 112, .inl z0)), (q5, .inl (cy 4, 8, .inr (.inr (.inr (.inr (fun i => if i < 8 then some (r i) else none))))))] ++ PL ++ [(q6, .inl (cy 1, 8, .inr (.inr (.inl fz0))))] ++ [(q7, .inl (cy 1, 10, .inr (.inr (.inl fz0))))] ++ [(q8, .inl (cy 2, 60, .inl z0))] : va_W).Perm (([(b, .inr (6, [.int 0, .ref q1, .ref q2, .ref q3, .ref q4, .ref q5, .ref q6, .ref q7, .int 0, .int 0, .int 0, .int 0, .int 0, .ref q8, .int 0, .int 0, .int 0, .int 0, .int 0, .int 0, .int 0])), (q1, .inl (cy 0, 112, .inl z0)), (q2, .inl (cy 0, 112, .inl z0)), (q3, .inl (cy 0, 112, .inl z0)), (q4, .inl (cy 0, 112, .inl z0)), (q5, .inl (cy 4, 8, .inr (.inr (.inr (.inr (fun i => if i < 8 then some (r i) else none))))))] : va_W) ++ (([(q6, .inl (cy 1, 8, .inr (.inr (.inl fz0)))), (q7, .inl (cy 1, 10, .inr (.inr (.inl fz0)))), (q8, .inl (cy 2, 60, .inl z0))] : va_W) ++ PL)) := by
    rw [List.append_assoc, List.append_assoc, List.append_assoc]
    exact List.Perm.append_left _ List.perm_append_comm
  have hP := vaP_aq (k := 5) (g := fun i => some (r i)) (vaP_perm pm hP) rfl (fun j hj => if_pos hj)
  have hD := vaD_set (k := 5) (e := .inl (cy 4, 8, .inr (.inr (.inr (.inr (fun i => some (r i))))))) (vaD_perm pm hD) rfl
  clear pm
  obtain ⟨q, hq⟩ : ∃ q, q = qm b q1 q2 q3 q4 q5 q6 q7 q8 r := ⟨_, rfl⟩
  have h20 : ∀ i, q (20 + i) = r i := fun i => by rw [hq]; exact qm_r _ _ _ _ _ _ _ _ _ r i
  have hb0 : q 0 = b := by rw [hq]; rfl
  have e : wX5 q cy 0 0 0 0 0 0 0 0 0 0 0 0 0 z0 z0 z0 z0 (fun _ => z0) fz0 fz0 z0 = ([(b, .inr (6, [.int 0, .ref q1, .ref q2, .ref q3, .ref q4, .ref q5, .ref q6, .ref q7, .int 0, .int 0, .int 0, .int 0, .int 0, .ref q8, .int 0, .int 0, .int 0, .int 0, .int 0, .int 0, .int 0])), (q1, .inl (cy 0, 112, .inl z0)), (q2, .inl (cy 0, 112, .inl z0)), (q3, .inl (cy 0, 112, .inl z0)), (q4, .inl (cy 0, 112, .inl z0)), (q5, .inl (cy 4, 8, .inr (.inr (.inr (.inr (fun i => if i < 8 then some (r i) else none))))))] : va_W).set 5 (q5, .inl (cy 4, 8, .inr (.inr (.inr (.inr (fun i => some (r i))))))) ++ (([(q6, .inl (cy 1, 8, .inr (.inr (.inl fz0)))), (q7, .inl (cy 1, 10, .inr (.inr (.inl fz0)))), (q8, .inl (cy 2, 60, .inl z0))] : va_W) ++ PL) := by
    rw [← hPL, hr_pl cy q r _ h20]
    unfold wX5
    simp only [h20]
    rw [hq]
    rfl
  have hP : va_P D vwCl (wX5 q cy 0 0 0 0 0 0 0 0 0 0 0 0 0 z0 z0 z0 z0 (fun _ => z0) fz0 fz0 z0) H := by rw [e]; exact hP
  have hD : va_D A (wX5 q cy 0 0 0 0 0 0 0 0 0 0 0 0 0 z0 z0 z0 z0 (fun _ => z0) fz0 fz0 z0) := by rw [e]; exact hD
  clear e hq hPL h20
  have hl : lv_has ls 2 [(0, .ref (q 0))] := by rw [hb0]; exact hl
  refine lv_aload_n hx hb (dg ddX5_init 35 rfl) rfl (lv_at hl 0 rfl) ?_
  refine lv_iconst (v := -1) hx hb (dg ddX5_init 36 rfl) (by decide) ?_
  refine pf_RX5_38 CX hK hP hD hS 0 rfl (dg ddX5_init 37 rfl) (Nat.le_of_ble_eq_true rfl) (fun H locs hP hD hS => ?_)
  refine lv_aload_n hx hb (dg ddX5_init 38 rfl) rfl (lv_at hl 0 rfl) ?_
  refine gf_RX5_9 CX hK hP 0 rfl rfl (dg ddX5_init 39 rfl) ?_
  refine lv_iconst (v := 1) hx hb (dg ddX5_init 40 rfl) (by decide) ?_
  refine lv_bipush (v := 10) hx hb (dg ddX5_init 41 rfl) (by decide) ?_
  refine va_iast hx hb hK hP hD hS 1 0 rfl rfl (inb_in (show inb 1 112 = true by decide)) (dg ddX5_init 42 rfl) (fun H locs hP hD hS => ?_)
  have hP : va_P D vwCl (wX5 q cy 0 0 0 0 0 0 0 0 (-1) 0 0 0 0 (rw0 0) z0 z0 z0 (fun _ => z0) fz0 fz0 z0) H := by rw [← rw0_0]; exact (show va_P D vwCl (wX5 q cy 0 0 0 0 0 0 0 0 (-1) 0 0 0 0 (upd z0 1 10) z0 z0 z0 (fun _ => z0) fz0 fz0 z0) H from hP)
  have hD : va_D A (wX5 q cy 0 0 0 0 0 0 0 0 (-1) 0 0 0 0 (rw0 0) z0 z0 z0 (fun _ => z0) fz0 fz0 z0) := by rw [← rw0_0]; exact (show va_D A (wX5 q cy 0 0 0 0 0 0 0 0 (-1) 0 0 0 0 (upd z0 1 10) z0 z0 z0 (fun _ => z0) fz0 fz0 z0) from hD)
  refine lv_iconst (v := 0) hx hb (dg ddX5_init 43 rfl) (by decide) ?_
  refine lv_istore_n (lv' := [(1, .int 0), (0, .ref (q 0))]) hx hb (dg ddX5_init 44 rfl) rfl hl (by decide) rfl (fun ls hl => ?_)
  exact K 8 0 q H _ ls rfl hb0 (lv_sub hl [1, 0] rfl) hP hD hS
