/-! by program: Input -/
def f_X2_put (v_len : Int32) (v_sig : Nat → Int32) (a1 : Int32) : Option (Int32 × (Nat → Int32)) := if v_len < 0 then (some (v_len, v_sig)) else (if 60 ≤ v_len then (some (v_len, v_sig)) else (og (inb v_len 60) (some ((v_len + 1), (upd v_sig v_len.toNatClampNeg (vp_nar .char a1))))))
set_option maxHeartbeats 4000000 in
set_option maxRecDepth 100000 in
theorem c_X2_put (l : Launch) (D : va_G) (cy : Nat → ClassId) (q : Nat → Nat) (v_len : Int32) (v_sig : Nat → Int32) (a1 : Int32) (sz : Nat) {res : Int32 × (Nat → Int32)} (hf : f_X2_put v_len v_sig a1 = some res) : Met l yX2_put (.code yX2_put cX2_put 2 none :: lw_all) { frames := 1, cells := 0, slots := 0, locals := 12 } (va_Pc [.ref (q 0), .int a1] (sW D cy (wX2 q cy v_len v_sig) sz)) (qV D (wX2 q cy res.1 res.2) (va_A (wX2 q cy v_len v_sig) sz)) 0 0 (va_A (wX2 q cy v_len v_sig) sz) := by
  refine mk_rw (Qc := qV D (wX2 q cy res.1 res.2) ) (Rc := RX2) (by decide +kernel) rfl (Nat.le_of_ble_eq_true rfl) ?_
  intro p e s m args below meth c ls A CX hml hr hlk hK hN hP hD hS hA hl
  have hx := CX.1
  have hb := CX.2.1
  refine lv_aload_n hx hb (dg ddX2_put 0 rfl) rfl (lv_at hl 0 rfl) ?_
  refine gf_RX2_15 CX hK hP 0 rfl rfl (dg ddX2_put 1 rfl) ?_
  refine lv_if_lt (tgt := 36) hx hb (dg ddX2_put 2 rfl) (by decide) (fun h1 => ?_) (fun h1 => ?_)
  · have hf := it_t h1 hf
    cases hf
    exact e_wv CX hr hlk hP hD hS (dg ddX2_put 19 rfl)
  · have hf := it_f h1 hf
    refine lv_aload_n hx hb (dg ddX2_put 3 rfl) rfl (lv_at hl 0 rfl) ?_
    refine gf_RX2_15 CX hK hP 0 rfl rfl (dg ddX2_put 4 rfl) ?_
    refine lv_bipush (v := 60) hx hb (dg ddX2_put 5 rfl) (by decide) ?_
    refine lv_icmp_ge (tgt := 36) hx hb (dg ddX2_put 6 rfl) (by decide) (fun h2 => ?_) (fun h2 => ?_)
    · have hf := it_t h2 hf
      cases hf
      exact e_wv CX hr hlk hP hD hS (dg ddX2_put 19 rfl)
    · have hf := it_f h2 hf
      refine lv_aload_n hx hb (dg ddX2_put 7 rfl) rfl (lv_at hl 0 rfl) ?_
      refine gf_RX2_9 CX hK hP 0 rfl rfl (dg ddX2_put 8 rfl) ?_
      refine lv_aload_n hx hb (dg ddX2_put 9 rfl) rfl (lv_at hl 0 rfl) ?_
      refine gf_RX2_15 CX hK hP 0 rfl rfl (dg ddX2_put 10 rfl) ?_
      refine lv_iload_n hx hb (dg ddX2_put 11 rfl) rfl (lv_at hl 1 rfl) ?_
      obtain ⟨h3, hf⟩ := og_some hf
      refine va_cast hx hb hK hP hD hS 1 2 rfl rfl (inb_in h3) (dg ddX2_put 12 rfl) (fun H locs hP hD hS => ?_)
      have hP : va_P D vwCl (wX2 q cy v_len (upd v_sig v_len.toNatClampNeg (vp_nar .char a1))) H := hP
      have hD : va_D A (wX2 q cy v_len (upd v_sig v_len.toNatClampNeg (vp_nar .char a1))) := hD
      refine lv_aload_n hx hb (dg ddX2_put 13 rfl) rfl (lv_at hl 0 rfl) ?_
      refine lv_dup hx hb (dg ddX2_put 14 rfl) rfl ?_
      refine gf_RX2_15 CX hK hP 0 rfl rfl (dg ddX2_put 15 rfl) ?_
      refine lv_iconst (v := 1) hx hb (dg ddX2_put 16 rfl) (by decide) ?_
      refine lv_iadd hx hb (dg ddX2_put 17 rfl) ?_
      refine pf_RX2_15 CX hK hP hD hS 0 rfl (dg ddX2_put 18 rfl) (Nat.le_of_ble_eq_true rfl) (fun H locs hP hD hS => ?_)
      have hP : va_P D vwCl (wX2 q cy (v_len + 1) (upd v_sig v_len.toNatClampNeg (vp_nar .char a1))) H := hP
      have hD : va_D A (wX2 q cy (v_len + 1) (upd v_sig v_len.toNatClampNeg (vp_nar .char a1))) := hD
      cases hf
      exact e_wv CX hr hlk hP hD hS (dg ddX2_put 19 rfl)
def f_X2_signAt (v_len : Int32) (v_sig : Nat → Int32) (a1 : Int32) : Option (Int32) := if a1 < 0 then (some 0) else (if v_len ≤ a1 then (some 0) else (if 60 ≤ a1 then (some 0) else (og (inb a1 60) (og (isC (v_sig a1.toNatClampNeg)) (some (v_sig a1.toNatClampNeg))))))
set_option maxHeartbeats 4000000 in
set_option maxRecDepth 100000 in
theorem c_X2_signAt (l : Launch) (D : va_G) (cy : Nat → ClassId) (q : Nat → Nat) (v_len : Int32) (v_sig : Nat → Int32) (a1 : Int32) {res : Int32} (hf : f_X2_signAt v_len v_sig a1 = some res) : Met l yX2_signAt (.code yX2_signAt cX2_signAt 2 (some .char) :: lw_all) { frames := 1, cells := 0, slots := 0, locals := 12 } (va_Pc [.ref (q 0), .int a1] (sR D cy (wX2 q cy v_len v_sig))) (vp_Si (fun r => r = res)) 0 0 (fun _ => False) := by
  refine mk_ro (Rc := RX2) (by decide +kernel) rfl (Nat.le_of_ble_eq_true rfl) ?_
  intro p e s m args below meth c ls CX hml hr hlk hK hN hP hl
  have hx := CX.1
  have hb := CX.2.1
  refine lv_iload_n hx hb (dg ddX2_signAt 0 rfl) rfl (lv_at hl 1 rfl) ?_
  refine lv_if_lt (tgt := 27) hx hb (dg ddX2_signAt 1 rfl) (by decide) (fun h1 => ?_) (fun h1 => ?_)
  · have hf := it_t h1 hf
    refine lv_iconst (v := 0) hx hb (dg ddX2_signAt 14 rfl) (by decide) ?_
    exact e_rz CX hr hlk (by decide) (Option.some.inj hf) (dg ddX2_signAt 15 rfl)
  · have hf := it_f h1 hf
    refine lv_iload_n hx hb (dg ddX2_signAt 2 rfl) rfl (lv_at hl 1 rfl) ?_
    refine lv_aload_n hx hb (dg ddX2_signAt 3 rfl) rfl (lv_at hl 0 rfl) ?_
    refine gf_RX2_15 CX hK hP 0 rfl rfl (dg ddX2_signAt 4 rfl) ?_
    refine lv_icmp_ge (tgt := 27) hx hb (dg ddX2_signAt 5 rfl) (by decide) (fun h2 => ?_) (fun h2 => ?_)
    · have hf := it_t h2 hf
      refine lv_iconst (v := 0) hx hb (dg ddX2_signAt 14 rfl) (by decide) ?_
      exact e_rz CX hr hlk (by decide) (Option.some.inj hf) (dg ddX2_signAt 15 rfl)
    · have hf := it_f h2 hf
      refine lv_iload_n hx hb (dg ddX2_signAt 6 rfl) rfl (lv_at hl 1 rfl) ?_
      refine lv_bipush (v := 60) hx hb (dg ddX2_signAt 7 rfl) (by decide) ?_
      refine lv_icmp_ge (tgt := 27) hx hb (dg ddX2_signAt 8 rfl) (by decide) (fun h3 => ?_) (fun h3 => ?_)
      · have hf := it_t h3 hf
        refine lv_iconst (v := 0) hx hb (dg ddX2_signAt 14 rfl) (by decide) ?_
        exact e_rz CX hr hlk (by decide) (Option.some.inj hf) (dg ddX2_signAt 15 rfl)
      · have hf := it_f h3 hf
        refine lv_aload_n hx hb (dg ddX2_signAt 9 rfl) rfl (lv_at hl 0 rfl) ?_
        refine gf_RX2_9 CX hK hP 0 rfl rfl (dg ddX2_signAt 10 rfl) ?_
        refine lv_iload_n hx hb (dg ddX2_signAt 11 rfl) rfl (lv_at hl 1 rfl) ?_
        obtain ⟨h4, hf⟩ := og_some hf
        refine va_cald hx hb hK hP 1 2 rfl rfl (inb_in h4) (dg ddX2_signAt 12 rfl) ?_
        refine lv_goto (tgt := 28) hx hb (dg ddX2_signAt 13 rfl) (by decide) ?_
        obtain ⟨h5, hf⟩ := og_some hf
        exact e_rz CX hr hlk (isC_n h5) (Option.some.inj hf) (dg ddX2_signAt 15 rfl)
def f_X2_numberIn_c5  (v_len : Int32) (v_sig : Nat → Int32) (a2 : Int32) : Nat → Int32 → Int32 → Option (Int32)
  | 0, _, _ => none
  | n + 1, x3, x4 => if a2 ≤ x4 then (some x3) else (ob (f_X2_signAt v_len v_sig x4) fun r3 => (f_X2_numberIn_c5 v_len v_sig a2 n ((10 * x3) + (r3 - 48)) (x4 + 1)))
def f_X2_numberIn (v_len : Int32) (v_sig : Nat → Int32) (a1 : Int32) (a2 : Int32) : Option (Int32) := f_X2_numberIn_c5 v_len v_sig a2 4096 0 a1
set_option maxHeartbeats 4000000 in
set_option maxRecDepth 100000 in
theorem c_X2_numberIn (l : Launch) (D : va_G) (cy : Nat → ClassId) (q : Nat → Nat) (v_len : Int32) (v_sig : Nat → Int32) (a1 : Int32) (a2 : Int32) {res : Int32} (hf : f_X2_numberIn v_len v_sig a1 a2 = some res) : Met l yX2_numberIn (.code yX2_numberIn cX2_numberIn 5 (some .int) :: lw_all) { frames := 2, cells := 0, slots := 0, locals := 33 } (va_Pc [.ref (q 0), .int a1, .int a2] (sR D cy (wX2 q cy v_len v_sig))) (vp_Si (fun r => r = res)) 0 0 (fun _ => False) := by
  refine mk_ro (Rc := RX2) (by decide +kernel) rfl (Nat.le_of_ble_eq_true rfl) ?_
  intro p e s m args below meth c ls CX hml hr hlk hK hN hP hl
  have hx := CX.1
  have hb := CX.2.1
  have hRMX2_signAt : (⟨1, 0, 0, 12⟩ : Room).frames + 1 ≤ (⟨2, 0, 0, 33⟩ : Room).frames ∧ 8 + (2 + 11) + (⟨1, 0, 0, 12⟩ : Room).locals ≤ (⟨2, 0, 0, 33⟩ : Room).locals := ⟨Nat.le_of_ble_eq_true rfl, Nat.le_of_ble_eq_true rfl⟩
  have hl0 := hl
  have K5 : ∀ (n : Nat), ∀ (x3 : Int32) (x4 : Int32) (ls : Array Slot) (hl : lv_has ls 5 [(0, .ref (q 0)), (2, .int a2), (3, .int x3), (4, .int x4)]) (hf : f_X2_numberIn_c5 v_len v_sig a2 n x3 x4 = some res), W p l e ⟨2, 0, 0, 33⟩ s m args below meth c s.heap [] 0 0 (MQ below (vp_Si (fun r => r = res)) args s 0 0 (fun _ => False)) (F0 m 5 ls []) := by
    intro n
    induction n with
    | zero => intro x3 x4 ls hl hf; cases (show none = some res from hf)
    | succ n ih =>
    intro x3 x4 ls hl hf
    refine lv_iload hx hb (dg ddX2_numberIn 4 rfl) (lv_at hl 3 rfl) ?_
    refine lv_iload_n hx hb (dg ddX2_numberIn 5 rfl) rfl (lv_at hl 1 rfl) ?_
    refine lv_icmp_ge (tgt := 32) hx hb (dg ddX2_numberIn 6 rfl) (by decide) (fun h1 => ?_) (fun h1 => ?_)
    · have hf := it_t h1 hf
      refine lv_iload_n hx hb (dg ddX2_numberIn 19 rfl) rfl (lv_at hl 2 rfl) ?_
      exact e_ri CX hr hlk (Option.some.inj hf) (dg ddX2_numberIn 20 rfl)
    · have hf := it_f h1 hf
      refine lv_bipush (v := 10) hx hb (dg ddX2_numberIn 7 rfl) (by decide) ?_
      refine lv_iload_n hx hb (dg ddX2_numberIn 8 rfl) rfl (lv_at hl 2 rfl) ?_
      refine lv_imul hx hb (dg ddX2_numberIn 9 rfl) ?_
      refine lv_aload_n hx hb (dg ddX2_numberIn 10 rfl) rfl (lv_at hl 0 rfl) ?_
      refine lv_iload hx hb (dg ddX2_numberIn 11 rfl) (lv_at hl 3 rfl) ?_
      obtain ⟨r3, e2, hf⟩ := ob_some hf
      refine cro_vi CX hml (As := [.int x4]) (rest := [.int (10 * x3)]) (c_X2_signAt l D cy q v_len v_sig x4 e2) lk_RX2_19 rfl rfl hRMX2_signAt hP hK hN 0 rfl rfl rfl hl.1 rfl (Nat.le_of_ble_eq_true rfl) ⟨Nat.le_of_ble_eq_true rfl, Nat.le_of_ble_eq_true rfl⟩ (dg ddX2_numberIn 12 rfl) ?_
      refine lv_bipush (v := 48) hx hb (dg ddX2_numberIn 13 rfl) (by decide) ?_
      refine lv_isub hx hb (dg ddX2_numberIn 14 rfl) ?_
      refine lv_iadd hx hb (dg ddX2_numberIn 15 rfl) ?_
      refine lv_istore_n (lv' := [(3, .int ((10 * x3) + (r3 - 48))), (0, .ref (q 0)), (2, .int a2), (4, .int x4)]) hx hb (dg ddX2_numberIn 16 rfl) rfl hl (by decide) rfl (fun ls hl => ?_)
      refine lv_iinc (v := x4 + 1) (lv' := [(4, .int (x4 + 1)), (3, .int ((10 * x3) + (r3 - 48))), (0, .ref (q 0)), (2, .int a2)]) hx hb (dg ddX2_numberIn 17 rfl) hl (k := 3) rfl (congrArg (HAdd.hAdd x4) (by decide)) (by decide) rfl (fun ls hl => ?_)
      refine lv_goto (tgt := 5) hx hb (dg ddX2_numberIn 18 rfl) (by decide) ?_
      exact ih ((10 * x3) + (r3 - 48)) (x4 + 1) _ (lv_sub hl [2, 3, 1, 0] rfl) hf
  refine lv_iconst (v := 0) hx hb (dg ddX2_numberIn 0 rfl) (by decide) ?_
  refine lv_istore_n (lv' := [(3, .int 0), (0, .ref (q 0)), (1, .int a1), (2, .int a2)]) hx hb (dg ddX2_numberIn 1 rfl) rfl hl (by decide) rfl (fun ls hl => ?_)
  refine lv_iload_n hx hb (dg ddX2_numberIn 2 rfl) rfl (lv_at hl 2 rfl) ?_
  refine lv_istore (lv' := [(4, .int a1), (3, .int 0), (0, .ref (q 0)), (1, .int a1), (2, .int a2)]) hx hb (dg ddX2_numberIn 3 rfl) hl (by decide) rfl (fun ls hl => ?_)
  exact K5 4096 0 a1 _ (lv_sub hl [2, 4, 1, 0] rfl) hf
def f_X2_stageAfterLetter (a1 : Int32) : Option (Int32) := if a1 = 97 then (some 1) else (if a1 = 99 then (some 4) else (if a1 = 100 then (some 2) else (if a1 = 112 then (some 4) else (if a1 = 115 then (some 1) else (if a1 = 119 then (some 1) else (if a1 = 120 then (some 1) else (some 7)))))))
set_option maxHeartbeats 4000000 in
set_option maxRecDepth 100000 in
theorem c_X2_stageAfterLetter (l : Launch) (D : va_G) (cy : Nat → ClassId) (a1 : Int32) {res : Int32} (hf : f_X2_stageAfterLetter a1 = some res) : Met l yX2_stageAfterLetter (.code yX2_stageAfterLetter cX2_stageAfterLetter 1 (some .int) :: lw_all) { frames := 1, cells := 0, slots := 0, locals := 12 } (va_Pc [.int a1] (sR D cy [])) (vp_Si (fun r => r = res)) 0 0 (fun _ => False) := by
  refine mk_ro (Rc := RX2) (by decide +kernel) rfl (Nat.le_of_ble_eq_true rfl) ?_
  intro p e s m args below meth c ls CX hml hr hlk hK hN hP hl
  have hx := CX.1
  have hb := CX.2.1
  refine lv_iload_n hx hb (dg ddX2_stageAfterLetter 0 rfl) rfl (lv_at hl 0 rfl) ?_
  by_cases h1 : a1 = 97
  · have hf := it_t h1 hf
    refine lv_tableIn (off := 111) (tgt := 112) hx hb (dg ddX2_stageAfterLetter 1 rfl) (by rw [h1]; decide) (by rw [h1]; decide) (by rw [h1]; rfl) (by decide) ?_
    refine lv_iconst (v := 1) hx hb (dg ddX2_stageAfterLetter 2 rfl) (by decide) ?_
    exact e_ri CX hr hlk (Option.some.inj hf) (dg ddX2_stageAfterLetter 3 rfl)
  have hf := it_f h1 hf
  by_cases h2 : a1 = 99
  · have hf := it_t h2 hf
    refine lv_tableIn (off := 115) (tgt := 116) hx hb (dg ddX2_stageAfterLetter 1 rfl) (by rw [h2]; decide) (by rw [h2]; decide) (by rw [h2]; rfl) (by decide) ?_
    refine lv_iconst (v := 4) hx hb (dg ddX2_stageAfterLetter 6 rfl) (by decide) ?_
    exact e_ri CX hr hlk (Option.some.inj hf) (dg ddX2_stageAfterLetter 7 rfl)
  have hf := it_f h2 hf
  by_cases h3 : a1 = 100
  · have hf := it_t h3 hf
    refine lv_tableIn (off := 113) (tgt := 114) hx hb (dg ddX2_stageAfterLetter 1 rfl) (by rw [h3]; decide) (by rw [h3]; decide) (by rw [h3]; rfl) (by decide) ?_
    refine lv_iconst (v := 2) hx hb (dg ddX2_stageAfterLetter 4 rfl) (by decide) ?_
    exact e_ri CX hr hlk (Option.some.inj hf) (dg ddX2_stageAfterLetter 5 rfl)
  have hf := it_f h3 hf
  by_cases h4 : a1 = 112
  · have hf := it_t h4 hf
    refine lv_tableIn (off := 115) (tgt := 116) hx hb (dg ddX2_stageAfterLetter 1 rfl) (by rw [h4]; decide) (by rw [h4]; decide) (by rw [h4]; rfl) (by decide) ?_
    refine lv_iconst (v := 4) hx hb (dg ddX2_stageAfterLetter 6 rfl) (by decide) ?_
    exact e_ri CX hr hlk (Option.some.inj hf) (dg ddX2_stageAfterLetter 7 rfl)
  have hf := it_f h4 hf
  by_cases h5 : a1 = 115
  · have hf := it_t h5 hf
    refine lv_tableIn (off := 111) (tgt := 112) hx hb (dg ddX2_stageAfterLetter 1 rfl) (by rw [h5]; decide) (by rw [h5]; decide) (by rw [h5]; rfl) (by decide) ?_
    refine lv_iconst (v := 1) hx hb (dg ddX2_stageAfterLetter 2 rfl) (by decide) ?_
    exact e_ri CX hr hlk (Option.some.inj hf) (dg ddX2_stageAfterLetter 3 rfl)
  have hf := it_f h5 hf
  by_cases h6 : a1 = 119
  · have hf := it_t h6 hf
    refine lv_tableIn (off := 111) (tgt := 112) hx hb (dg ddX2_stageAfterLetter 1 rfl) (by rw [h6]; decide) (by rw [h6]; decide) (by rw [h6]; rfl) (by decide) ?_
    refine lv_iconst (v := 1) hx hb (dg ddX2_stageAfterLetter 2 rfl) (by decide) ?_
    exact e_ri CX hr hlk (Option.some.inj hf) (dg ddX2_stageAfterLetter 3 rfl)
  have hf := it_f h6 hf
  by_cases h7 : a1 = 120
  · have hf := it_t h7 hf
    refine lv_tableIn (off := 111) (tgt := 112) hx hb (dg ddX2_stageAfterLetter 1 rfl) (by rw [h7]; decide) (by rw [h7]; decide) (by rw [h7]; rfl) (by decide) ?_
    refine lv_iconst (v := 1) hx hb (dg ddX2_stageAfterLetter 2 rfl) (by decide) ?_
    exact e_ri CX hr hlk (Option.some.inj hf) (dg ddX2_stageAfterLetter 3 rfl)
  have hf := it_f h7 hf
  refine lv_tabD (off := 117) (tgt := 118) hx hb (dg ddX2_stageAfterLetter 1 rfl) (by have g0 : (a1).toInt ≠ 97 := ne_ti h1 (by decide); have g1 : (a1).toInt ≠ 99 := ne_ti h2 (by decide); have g2 : (a1).toInt ≠ 100 := ne_ti h3 (by decide); have g3 : (a1).toInt ≠ 112 := ne_ti h4 (by decide); have g4 : (a1).toInt ≠ 115 := ne_ti h5 (by decide); have g5 : (a1).toInt ≠ 119 := ne_ti h6 (by decide); have g6 : (a1).toInt ≠ 120 := ne_ti h7 (by decide); rcases (show ((a1).toInt < 97 ∨ 120 < (a1).toInt) ∨ (a1).toInt = 98 ∨ (a1).toInt = 101 ∨ (a1).toInt = 102 ∨ (a1).toInt = 103 ∨ (a1).toInt = 104 ∨ (a1).toInt = 105 ∨ (a1).toInt = 106 ∨ (a1).toInt = 107 ∨ (a1).toInt = 108 ∨ (a1).toInt = 109 ∨ (a1).toInt = 110 ∨ (a1).toInt = 111 ∨ (a1).toInt = 113 ∨ (a1).toInt = 114 ∨ (a1).toInt = 116 ∨ (a1).toInt = 117 ∨ (a1).toInt = 118 by omega) with h | h | h | h | h | h | h | h | h | h | h | h | h | h | h | h | h | h <;> first | exact Or.inl ⟨h, rfl⟩ | exact Or.inr (by rw [h]; decide)) (by decide) ?_
  refine lv_bipush (v := 7) hx hb (dg ddX2_stageAfterLetter 8 rfl) (by decide) ?_
  exact e_ri CX hr hlk (Option.some.inj hf) (dg ddX2_stageAfterLetter 9 rfl)
def f_X2_stageAfterEnd (a1 : Int32) : Option (Int32) := if a1 = 59 then (some 0) else (some 7)
set_option maxHeartbeats 4000000 in
set_option maxRecDepth 100000 in
theorem c_X2_stageAfterEnd (l : Launch) (D : va_G) (cy : Nat → ClassId) (a1 : Int32) {res : Int32} (hf : f_X2_stageAfterEnd a1 = some res) : Met l yX2_stageAfterEnd (.code yX2_stageAfterEnd cX2_stageAfterEnd 1 (some .int) :: lw_all) { frames := 1, cells := 0, slots := 0, locals := 12 } (va_Pc [.int a1] (sR D cy [])) (vp_Si (fun r => r = res)) 0 0 (fun _ => False) := by
  refine mk_ro (Rc := RX2) (by decide +kernel) rfl (Nat.le_of_ble_eq_true rfl) ?_
  intro p e s m args below meth c ls CX hml hr hlk hK hN hP hl
  have hx := CX.1
  have hb := CX.2.1
  refine lv_iload_n hx hb (dg ddX2_stageAfterEnd 0 rfl) rfl (lv_at hl 0 rfl) ?_
  refine lv_bipush (v := 59) hx hb (dg ddX2_stageAfterEnd 1 rfl) (by decide) ?_
  refine lv_icmp_ne (tgt := 10) hx hb (dg ddX2_stageAfterEnd 2 rfl) (by decide) (fun h1 => ?_) (fun h1 => ?_)
  · have hf := it_f h1 hf
    refine lv_bipush (v := 7) hx hb (dg ddX2_stageAfterEnd 5 rfl) (by decide) ?_
    exact e_ri CX hr hlk (Option.some.inj hf) (dg ddX2_stageAfterEnd 6 rfl)
  · have hf := it_t h1 hf
    refine lv_iconst (v := 0) hx hb (dg ddX2_stageAfterEnd 3 rfl) (by decide) ?_
    refine lv_goto (tgt := 12) hx hb (dg ddX2_stageAfterEnd 4 rfl) (by decide) ?_
    exact e_ri CX hr hlk (Option.some.inj hf) (dg ddX2_stageAfterEnd 6 rfl)
def f_X2_stageAfter_c17  (a1 : Int32) (a2 : Int32) (t0 : Int32) : Option (Int32) := if a1 = 0 then (ob (f_X2_stageAfterLetter a2) fun r3 => (some r3)) else (if a1 = 1 then (if t0 = 0 then (some 7) else (some 6)) else (if a1 = 2 then (if t0 = 0 then (some 7) else (some 3)) else (if a1 = 3 then (if a2 = 35 then (some 4) else (some 7)) else (if a1 = 4 then (if t0 = 0 then (some 7) else (some 5)) else (if a1 = 5 then (if t0 = 0 then (ob (f_X2_stageAfterEnd a2) fun r15 => (some r15)) else (some 6)) else (ob (f_X2_stageAfterEnd a2) fun r17 => (some r17)))))))
def f_X2_stageAfter_c16  (a1 : Int32) (a2 : Int32)  : Option (Int32) := f_X2_stageAfter_c17 a1 a2 0
def f_X2_stageAfter (a1 : Int32) (a2 : Int32) : Option (Int32) := if a2 < 48 then (f_X2_stageAfter_c16 a1 a2 ) else (if 57 < a2 then (f_X2_stageAfter_c16 a1 a2 ) else (f_X2_stageAfter_c17 a1 a2 1))
set_option maxHeartbeats 4000000 in
set_option maxRecDepth 100000 in
theorem c_X2_stageAfter (l : Launch) (D : va_G) (cy : Nat → ClassId) (a1 : Int32) (a2 : Int32) {res : Int32} (hf : f_X2_stageAfter a1 a2 = some res) : Met l yX2_stageAfter (.code yX2_stageAfter cX2_stageAfter 3 (some .int) :: lw_all) { frames := 2, cells := 0, slots := 0, locals := 32 } (va_Pc [.int a1, .int a2] (sR D cy [])) (vp_Si (fun r => r = res)) 0 0 (fun _ => False) := by
  refine mk_ro (Rc := RX2) (by decide +kernel) rfl (Nat.le_of_ble_eq_true rfl) ?_
  intro p e s m args below meth c ls CX hml hr hlk hK hN hP hl
  have hx := CX.1
  have hb := CX.2.1
  have hRMX2_stageAfterEnd : (⟨1, 0, 0, 12⟩ : Room).frames + 1 ≤ (⟨2, 0, 0, 32⟩ : Room).frames ∧ 8 + (1 + 11) + (⟨1, 0, 0, 12⟩ : Room).locals ≤ (⟨2, 0, 0, 32⟩ : Room).locals := ⟨Nat.le_of_ble_eq_true rfl, Nat.le_of_ble_eq_true rfl⟩
  have hRMX2_stageAfterLetter : (⟨1, 0, 0, 12⟩ : Room).frames + 1 ≤ (⟨2, 0, 0, 32⟩ : Room).frames ∧ 8 + (1 + 11) + (⟨1, 0, 0, 12⟩ : Room).locals ≤ (⟨2, 0, 0, 32⟩ : Room).locals := ⟨Nat.le_of_ble_eq_true rfl, Nat.le_of_ble_eq_true rfl⟩
  have hl0 := hl
  have K17 : ∀ (t0 : Int32) (ls : Array Slot) (hl : lv_has ls 3 [(0, .int a1), (1, .int a2)]) (hf : f_X2_stageAfter_c17 a1 a2 t0 = some res), W p l e ⟨2, 0, 0, 32⟩ s m args below meth c s.heap [] 0 0 (MQ below (vp_Si (fun r => r = res)) args s 0 0 (fun _ => False)) (F0 m 17 ls [.int t0]) := by
    intro t0 ls hl hf
    refine lv_istore_n (lv' := [(2, .int t0), (0, .int a1), (1, .int a2)]) hx hb (dg ddX2_stageAfter 9 rfl) rfl hl (by decide) rfl (fun ls hl => ?_)
    refine lv_iload_n hx hb (dg ddX2_stageAfter 10 rfl) rfl (lv_at hl 1 rfl) ?_
    by_cases h1 : a1 = 0
    · have hf := it_t h1 hf
      refine lv_tableIn (off := 37) (tgt := 56) hx hb (dg ddX2_stageAfter 11 rfl) (by rw [h1]; decide) (by rw [h1]; decide) (by rw [h1]; rfl) (by decide) ?_
      refine lv_iload_n hx hb (dg ddX2_stageAfter 12 rfl) rfl (lv_at hl 2 rfl) ?_
      obtain ⟨r3, e2, hf⟩ := ob_some hf
      refine cro_si CX hml (As := [.int a2]) (rest := []) (c_X2_stageAfterLetter l D cy a2 e2) lk_RX2_27 rfl rfl hRMX2_stageAfterLetter vaP_nil hK hN rfl hl.1 rfl (Nat.le_of_ble_eq_true rfl) ⟨Nat.le_of_ble_eq_true rfl, Nat.le_of_ble_eq_true rfl⟩ (dg ddX2_stageAfter 13 rfl) ?_
      exact e_ri CX hr hlk (Option.some.inj hf) (dg ddX2_stageAfter 14 rfl)
    have hf := it_f h1 hf
    by_cases h4 : a1 = 1
    · have hf := it_t h4 hf
      refine lv_tableIn (off := 42) (tgt := 61) hx hb (dg ddX2_stageAfter 11 rfl) (by rw [h4]; decide) (by rw [h4]; decide) (by rw [h4]; rfl) (by decide) ?_
      refine lv_iload_n hx hb (dg ddX2_stageAfter 15 rfl) rfl (lv_at hl 0 rfl) ?_
      refine lv_if_eq (tgt := 70) hx hb (dg ddX2_stageAfter 16 rfl) (by decide) (fun h5 => ?_) (fun h5 => ?_)
      · have hf := it_t h5 hf
        refine lv_bipush (v := 7) hx hb (dg ddX2_stageAfter 19 rfl) (by decide) ?_
        exact e_ri CX hr hlk (Option.some.inj hf) (dg ddX2_stageAfter 20 rfl)
      · have hf := it_f h5 hf
        refine lv_bipush (v := 6) hx hb (dg ddX2_stageAfter 17 rfl) (by decide) ?_
        refine lv_goto (tgt := 72) hx hb (dg ddX2_stageAfter 18 rfl) (by decide) ?_
        exact e_ri CX hr hlk (Option.some.inj hf) (dg ddX2_stageAfter 20 rfl)
    have hf := it_f h4 hf
    by_cases h6 : a1 = 2
    · have hf := it_t h6 hf
      refine lv_tableIn (off := 54) (tgt := 73) hx hb (dg ddX2_stageAfter 11 rfl) (by rw [h6]; decide) (by rw [h6]; decide) (by rw [h6]; rfl) (by decide) ?_
      refine lv_iload_n hx hb (dg ddX2_stageAfter 21 rfl) rfl (lv_at hl 0 rfl) ?_
      refine lv_if_eq (tgt := 81) hx hb (dg ddX2_stageAfter 22 rfl) (by decide) (fun h7 => ?_) (fun h7 => ?_)
      · have hf := it_t h7 hf
        refine lv_bipush (v := 7) hx hb (dg ddX2_stageAfter 25 rfl) (by decide) ?_
        exact e_ri CX hr hlk (Option.some.inj hf) (dg ddX2_stageAfter 26 rfl)
      · have hf := it_f h7 hf
        refine lv_iconst (v := 3) hx hb (dg ddX2_stageAfter 23 rfl) (by decide) ?_
        refine lv_goto (tgt := 83) hx hb (dg ddX2_stageAfter 24 rfl) (by decide) ?_
        exact e_ri CX hr hlk (Option.some.inj hf) (dg ddX2_stageAfter 26 rfl)
    have hf := it_f h6 hf
    by_cases h8 : a1 = 3
    · have hf := it_t h8 hf
      refine lv_tableIn (off := 65) (tgt := 84) hx hb (dg ddX2_stageAfter 11 rfl) (by rw [h8]; decide) (by rw [h8]; decide) (by rw [h8]; rfl) (by decide) ?_
      refine lv_iload_n hx hb (dg ddX2_stageAfter 27 rfl) rfl (lv_at hl 2 rfl) ?_
      refine lv_bipush (v := 35) hx hb (dg ddX2_stageAfter 28 rfl) (by decide) ?_
      refine lv_icmp_ne (tgt := 94) hx hb (dg ddX2_stageAfter 29 rfl) (by decide) (fun h9 => ?_) (fun h9 => ?_)
      · have hf := it_f h9 hf
        refine lv_bipush (v := 7) hx hb (dg ddX2_stageAfter 32 rfl) (by decide) ?_
        exact e_ri CX hr hlk (Option.some.inj hf) (dg ddX2_stageAfter 33 rfl)
      · have hf := it_t h9 hf
        refine lv_iconst (v := 4) hx hb (dg ddX2_stageAfter 30 rfl) (by decide) ?_
        refine lv_goto (tgt := 96) hx hb (dg ddX2_stageAfter 31 rfl) (by decide) ?_
        exact e_ri CX hr hlk (Option.some.inj hf) (dg ddX2_stageAfter 33 rfl)
    have hf := it_f h8 hf
    by_cases h10 : a1 = 4
    · have hf := it_t h10 hf
      refine lv_tableIn (off := 78) (tgt := 97) hx hb (dg ddX2_stageAfter 11 rfl) (by rw [h10]; decide) (by rw [h10]; decide) (by rw [h10]; rfl) (by decide) ?_
      refine lv_iload_n hx hb (dg ddX2_stageAfter 34 rfl) rfl (lv_at hl 0 rfl) ?_
      refine lv_if_eq (tgt := 105) hx hb (dg ddX2_stageAfter 35 rfl) (by decide) (fun h11 => ?_) (fun h11 => ?_)
      · have hf := it_t h11 hf
        refine lv_bipush (v := 7) hx hb (dg ddX2_stageAfter 38 rfl) (by decide) ?_
        exact e_ri CX hr hlk (Option.some.inj hf) (dg ddX2_stageAfter 39 rfl)
      · have hf := it_f h11 hf
        refine lv_iconst (v := 5) hx hb (dg ddX2_stageAfter 36 rfl) (by decide) ?_
        refine lv_goto (tgt := 107) hx hb (dg ddX2_stageAfter 37 rfl) (by decide) ?_
        exact e_ri CX hr hlk (Option.some.inj hf) (dg ddX2_stageAfter 39 rfl)
    have hf := it_f h10 hf
    by_cases h12 : a1 = 5
    · have hf := it_t h12 hf
      refine lv_tableIn (off := 89) (tgt := 108) hx hb (dg ddX2_stageAfter 11 rfl) (by rw [h12]; decide) (by rw [h12]; decide) (by rw [h12]; rfl) (by decide) ?_
      refine lv_iload_n hx hb (dg ddX2_stageAfter 40 rfl) rfl (lv_at hl 0 rfl) ?_
      refine lv_if_eq (tgt := 117) hx hb (dg ddX2_stageAfter 41 rfl) (by decide) (fun h13 => ?_) (fun h13 => ?_)
      · have hf := it_t h13 hf
        refine lv_iload_n hx hb (dg ddX2_stageAfter 44 rfl) rfl (lv_at hl 2 rfl) ?_
        obtain ⟨r15, e14, hf⟩ := ob_some hf
        refine cro_si CX hml (As := [.int a2]) (rest := []) (c_X2_stageAfterEnd l D cy a2 e14) lk_RX2_31 rfl rfl hRMX2_stageAfterEnd vaP_nil hK hN rfl hl.1 rfl (Nat.le_of_ble_eq_true rfl) ⟨Nat.le_of_ble_eq_true rfl, Nat.le_of_ble_eq_true rfl⟩ (dg ddX2_stageAfter 45 rfl) ?_
        exact e_ri CX hr hlk (Option.some.inj hf) (dg ddX2_stageAfter 46 rfl)
      · have hf := it_f h13 hf
        refine lv_bipush (v := 6) hx hb (dg ddX2_stageAfter 42 rfl) (by decide) ?_
        refine lv_goto (tgt := 121) hx hb (dg ddX2_stageAfter 43 rfl) (by decide) ?_
        exact e_ri CX hr hlk (Option.some.inj hf) (dg ddX2_stageAfter 46 rfl)
    have hf := it_f h12 hf
    refine lv_tabD (off := 103) (tgt := 122) hx hb (dg ddX2_stageAfter 11 rfl) (by have g0 : (a1).toInt ≠ 0 := ne_ti h1 (by decide); have g1 : (a1).toInt ≠ 1 := ne_ti h4 (by decide); have g2 : (a1).toInt ≠ 2 := ne_ti h6 (by decide); have g3 : (a1).toInt ≠ 3 := ne_ti h8 (by decide); have g4 : (a1).toInt ≠ 4 := ne_ti h10 (by decide); have g5 : (a1).toInt ≠ 5 := ne_ti h12 (by decide); exact Or.inl ⟨by omega, rfl⟩) (by decide) ?_
    refine lv_iload_n hx hb (dg ddX2_stageAfter 47 rfl) rfl (lv_at hl 2 rfl) ?_
    obtain ⟨r17, e16, hf⟩ := ob_some hf
    refine cro_si CX hml (As := [.int a2]) (rest := []) (c_X2_stageAfterEnd l D cy a2 e16) lk_RX2_31 rfl rfl hRMX2_stageAfterEnd vaP_nil hK hN rfl hl.1 rfl (Nat.le_of_ble_eq_true rfl) ⟨Nat.le_of_ble_eq_true rfl, Nat.le_of_ble_eq_true rfl⟩ (dg ddX2_stageAfter 48 rfl) ?_
    exact e_ri CX hr hlk (Option.some.inj hf) (dg ddX2_stageAfter 49 rfl)
  have K16 : ∀ (ls : Array Slot) (hl : lv_has ls 3 [(0, .int a1), (1, .int a2)]) (hf : f_X2_stageAfter_c16 a1 a2  = some res), W p l e ⟨2, 0, 0, 32⟩ s m args below meth c s.heap [] 0 0 (MQ below (vp_Si (fun r => r = res)) args s 0 0 (fun _ => False)) (F0 m 16 ls []) := by
    intro  ls hl hf
    refine lv_iconst (v := 0) hx hb (dg ddX2_stageAfter 8 rfl) (by decide) ?_
    exact K17  0 _ (lv_sub hl [0, 1] rfl) hf
  refine lv_iload_n hx hb (dg ddX2_stageAfter 0 rfl) rfl (lv_at hl 1 rfl) ?_
  refine lv_bipush (v := 48) hx hb (dg ddX2_stageAfter 1 rfl) (by decide) ?_
  refine lv_icmp_lt (tgt := 16) hx hb (dg ddX2_stageAfter 2 rfl) (by decide) (fun h1 => ?_) (fun h1 => ?_)
  · have hf := it_t h1 hf
    exact K16   _ (lv_sub hl [0, 1] rfl) hf
  · have hf := it_f h1 hf
    refine lv_iload_n hx hb (dg ddX2_stageAfter 3 rfl) rfl (lv_at hl 1 rfl) ?_
    refine lv_bipush (v := 57) hx hb (dg ddX2_stageAfter 4 rfl) (by decide) ?_
    refine lv_icmp_gt (tgt := 16) hx hb (dg ddX2_stageAfter 5 rfl) (by decide) (fun h2 => ?_) (fun h2 => ?_)
    · have hf := it_t h2 hf
      exact K16   _ (lv_sub hl [0, 1] rfl) hf
    · have hf := it_f h2 hf
      refine lv_iconst (v := 1) hx hb (dg ddX2_stageAfter 6 rfl) (by decide) ?_
      refine lv_goto (tgt := 17) hx hb (dg ddX2_stageAfter 7 rfl) (by decide) ?_
      exact K17  1 _ (lv_sub hl [0, 1] rfl) hf
def f_X2_findError_c4  (v_len : Int32) (v_sig : Nat → Int32) : Nat → Int32 → Int32 → Option (Int32)
  | 0, _, _ => none
  | n + 1, x1, x2 => if v_len ≤ x2 then (if x1 = 5 then (some (-1)) else (if x1 = 6 then (some (-1)) else (some v_len))) else (ob (f_X2_signAt v_len v_sig x2) fun r5 => (ob (f_X2_stageAfter x1 r5) fun r7 => (if r7 = 7 then (some x2) else (f_X2_findError_c4 v_len v_sig n r7 (x2 + 1)))))
def f_X2_findError (v_len : Int32) (v_sig : Nat → Int32) : Option (Int32) := f_X2_findError_c4 v_len v_sig 4096 0 0
set_option maxHeartbeats 4000000 in
set_option maxRecDepth 100000 in
theorem c_X2_findError (l : Launch) (D : va_G) (cy : Nat → ClassId) (q : Nat → Nat) (v_len : Int32) (v_sig : Nat → Int32) {res : Int32} (hf : f_X2_findError v_len v_sig = some res) : Met l yX2_findError (.code yX2_findError cX2_findError 3 (some .int) :: lw_all) { frames := 3, cells := 0, slots := 0, locals := 54 } (va_Pc [.ref (q 0)] (sR D cy (wX2 q cy v_len v_sig))) (vp_Si (fun r => r = res)) 0 0 (fun _ => False) := by
  refine mk_ro (Rc := RX2) (by decide +kernel) rfl (Nat.le_of_ble_eq_true rfl) ?_
  intro p e s m args below meth c ls CX hml hr hlk hK hN hP hl
  have hx := CX.1
  have hb := CX.2.1
  have hRMX2_signAt : (⟨1, 0, 0, 12⟩ : Room).frames + 1 ≤ (⟨3, 0, 0, 54⟩ : Room).frames ∧ 8 + (2 + 11) + (⟨1, 0, 0, 12⟩ : Room).locals ≤ (⟨3, 0, 0, 54⟩ : Room).locals := ⟨Nat.le_of_ble_eq_true rfl, Nat.le_of_ble_eq_true rfl⟩
  have hRMX2_stageAfter : (⟨2, 0, 0, 32⟩ : Room).frames + 1 ≤ (⟨3, 0, 0, 54⟩ : Room).frames ∧ 8 + (3 + 11) + (⟨2, 0, 0, 32⟩ : Room).locals ≤ (⟨3, 0, 0, 54⟩ : Room).locals := ⟨Nat.le_of_ble_eq_true rfl, Nat.le_of_ble_eq_true rfl⟩
  have hl0 := hl
  have K4 : ∀ (n : Nat), ∀ (x1 : Int32) (x2 : Int32) (ls : Array Slot) (hl : lv_has ls 3 [(0, .ref (q 0)), (1, .int x1), (2, .int x2)]) (hf : f_X2_findError_c4 v_len v_sig n x1 x2 = some res), W p l e ⟨3, 0, 0, 54⟩ s m args below meth c s.heap [] 0 0 (MQ below (vp_Si (fun r => r = res)) args s 0 0 (fun _ => False)) (F0 m 4 ls []) := by
    intro n
    induction n with
    | zero => intro x1 x2 ls hl hf; cases (show none = some res from hf)
    | succ n ih =>
    intro x1 x2 ls hl hf
    refine lv_iload_n hx hb (dg ddX2_findError 4 rfl) rfl (lv_at hl 2 rfl) ?_
    refine lv_aload_n hx hb (dg ddX2_findError 5 rfl) rfl (lv_at hl 0 rfl) ?_
    refine gf_RX2_15 CX hK hP 0 rfl rfl (dg ddX2_findError 6 rfl) ?_
    refine lv_icmp_ge (tgt := 36) hx hb (dg ddX2_findError 7 rfl) (by decide) (fun h1 => ?_) (fun h1 => ?_)
    · have hf := it_t h1 hf
      refine lv_iload_n hx hb (dg ddX2_findError 21 rfl) rfl (lv_at hl 1 rfl) ?_
      refine lv_iconst (v := 5) hx hb (dg ddX2_findError 22 rfl) (by decide) ?_
      refine lv_icmp_eq (tgt := 47) hx hb (dg ddX2_findError 23 rfl) (by decide) (fun h2 => ?_) (fun h2 => ?_)
      · have hf := it_t h2 hf
        refine lv_iconst (v := (-1)) hx hb (dg ddX2_findError 27 rfl) (by decide) ?_
        refine lv_goto (tgt := 55) hx hb (dg ddX2_findError 28 rfl) (by decide) ?_
        exact e_ri CX hr hlk (Option.some.inj hf) (dg ddX2_findError 31 rfl)
      · have hf := it_f h2 hf
        refine lv_iload_n hx hb (dg ddX2_findError 24 rfl) rfl (lv_at hl 1 rfl) ?_
        refine lv_bipush (v := 6) hx hb (dg ddX2_findError 25 rfl) (by decide) ?_
        refine lv_icmp_ne (tgt := 51) hx hb (dg ddX2_findError 26 rfl) (by decide) (fun h3 => ?_) (fun h3 => ?_)
        · have hf := it_f h3 hf
          refine lv_aload_n hx hb (dg ddX2_findError 29 rfl) rfl (lv_at hl 0 rfl) ?_
          refine gf_RX2_15 CX hK hP 0 rfl rfl (dg ddX2_findError 30 rfl) ?_
          exact e_ri CX hr hlk (Option.some.inj hf) (dg ddX2_findError 31 rfl)
        · have hf := it_t h3 hf
          refine lv_iconst (v := (-1)) hx hb (dg ddX2_findError 27 rfl) (by decide) ?_
          refine lv_goto (tgt := 55) hx hb (dg ddX2_findError 28 rfl) (by decide) ?_
          exact e_ri CX hr hlk (Option.some.inj hf) (dg ddX2_findError 31 rfl)
    · have hf := it_f h1 hf
      refine lv_iload_n hx hb (dg ddX2_findError 8 rfl) rfl (lv_at hl 1 rfl) ?_
      refine lv_aload_n hx hb (dg ddX2_findError 9 rfl) rfl (lv_at hl 0 rfl) ?_
      refine lv_iload_n hx hb (dg ddX2_findError 10 rfl) rfl (lv_at hl 2 rfl) ?_
      obtain ⟨r5, e4, hf⟩ := ob_some hf
      refine cro_vi CX hml (As := [.int x2]) (rest := [.int x1]) (c_X2_signAt l D cy q v_len v_sig x2 e4) lk_RX2_19 rfl rfl hRMX2_signAt hP hK hN 0 rfl rfl rfl hl.1 rfl (Nat.le_of_ble_eq_true rfl) ⟨Nat.le_of_ble_eq_true rfl, Nat.le_of_ble_eq_true rfl⟩ (dg ddX2_findError 11 rfl) ?_
      obtain ⟨r7, e6, hf⟩ := ob_some hf
      refine cro_si CX hml (As := [.int x1, .int r5]) (rest := []) (c_X2_stageAfter l D cy x1 r5 e6) lk_RX2_23 rfl rfl hRMX2_stageAfter vaP_nil hK hN rfl hl.1 rfl (Nat.le_of_ble_eq_true rfl) ⟨Nat.le_of_ble_eq_true rfl, Nat.le_of_ble_eq_true rfl⟩ (dg ddX2_findError 12 rfl) ?_
      refine lv_istore_n (lv' := [(1, .int r7), (0, .ref (q 0)), (2, .int x2)]) hx hb (dg ddX2_findError 13 rfl) rfl hl (by decide) rfl (fun ls hl => ?_)
      refine lv_iload_n hx hb (dg ddX2_findError 14 rfl) rfl (lv_at hl 0 rfl) ?_
      refine lv_bipush (v := 7) hx hb (dg ddX2_findError 15 rfl) (by decide) ?_
      refine lv_icmp_ne (tgt := 30) hx hb (dg ddX2_findError 16 rfl) (by decide) (fun h8 => ?_) (fun h8 => ?_)
      · have hf := it_f h8 hf
        refine lv_iinc (v := x2 + 1) (lv' := [(2, .int (x2 + 1)), (1, .int r7), (0, .ref (q 0))]) hx hb (dg ddX2_findError 19 rfl) hl (k := 2) rfl (congrArg (HAdd.hAdd x2) (by decide)) (by decide) rfl (fun ls hl => ?_)
        refine lv_goto (tgt := 4) hx hb (dg ddX2_findError 20 rfl) (by decide) ?_
        exact ih r7 (x2 + 1) _ (lv_sub hl [2, 1, 0] rfl) hf
      · have hf := it_t h8 hf
        refine lv_iload_n hx hb (dg ddX2_findError 17 rfl) rfl (lv_at hl 2 rfl) ?_
        exact e_ri CX hr hlk (Option.some.inj hf) (dg ddX2_findError 18 rfl)
  refine lv_iconst (v := 0) hx hb (dg ddX2_findError 0 rfl) (by decide) ?_
  refine lv_istore_n (lv' := [(1, .int 0), (0, .ref (q 0))]) hx hb (dg ddX2_findError 1 rfl) rfl hl (by decide) rfl (fun ls hl => ?_)
  refine lv_iconst (v := 0) hx hb (dg ddX2_findError 2 rfl) (by decide) ?_
  refine lv_istore_n (lv' := [(2, .int 0), (1, .int 0), (0, .ref (q 0))]) hx hb (dg ddX2_findError 3 rfl) rfl hl (by decide) rfl (fun ls hl => ?_)
  exact K4 4096 0 0 _ (lv_sub hl [2, 1, 0] rfl) hf
