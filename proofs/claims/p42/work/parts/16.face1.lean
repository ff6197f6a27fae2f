/-! by program: the face, what throws nothing -/
def f_X4_loudest_c4  (x_now : SV) : Nat → Int32 → Int32 → Option (Int32)
  | 0, _, _ => none
  | n + 1, x1, x2 => if 8 ≤ x2 then (some x1) else (ob (f_X3_noiseOn (g_kin x_now) (g_lou x_now) (g_pit x_now) x2) fun r3 => (ob (f_X3_noiseOn (g_kin x_now) (g_lou x_now) (g_pit x_now) x1) fun r5 => (if (Op.cmpValue (FP.fcmp r3 r5) .l) ≤ 0 then (f_X4_loudest_c4 x_now n x1 (x2 + 1)) else (f_X4_loudest_c4 x_now n x2 (x2 + 1)))))
def f_X4_loudest (x_now : SV) : Option (Int32) := f_X4_loudest_c4 x_now 4096 0 1
set_option maxHeartbeats 4000000 in
set_option maxRecDepth 100000 in
theorem c_X4_loudest (l : Launch) (D : va_G) (cy : Nat → ClassId) (q : Nat → Nat → Nat) (x_isv : Int32) (x_te : Int32) (x_re : Int32) (x_de : Int32) (x_now : SV) (x_spa : SV) (x_sna : SV) (x_len : Int32) (x_sig : Nat → Int32) (x_nxt : Int32) (x_cnt : Int32) (x_rng : Nat → SV) {res : Int32} (hf : f_X4_loudest x_now = some res) : Met l yX4_loudest (.code yX4_loudest cX4_loudest 3 (some .int) :: lw_all) { frames := 6, cells := 0, slots := 0, locals := 119 } (va_Pc [.ref (q 0 0)] (sR D cy (wX4 q cy x_isv x_te x_re x_de x_now x_spa x_sna x_len x_sig x_nxt x_cnt x_rng))) (vp_Si (fun r => r = res)) 0 0 (fun _ => False) := by
  refine mk_ro (Rc := RX4) (by decide +kernel) rfl (Nat.le_of_ble_eq_true rfl) ?_
  intro p e s m args below meth c ls CX hml hr hlk hK hN hP hl
  have hx := CX.1
  have hb := CX.2.1
  have hRMX3_noiseOn : (⟨5, 0, 0, 98⟩ : Room).frames + 1 ≤ (⟨6, 0, 0, 119⟩ : Room).frames ∧ 8 + (2 + 11) + (⟨5, 0, 0, 98⟩ : Room).locals ≤ (⟨6, 0, 0, 119⟩ : Room).locals := ⟨Nat.le_of_ble_eq_true rfl, Nat.le_of_ble_eq_true rfl⟩
  have hl0 := hl
  have K4 : ∀ (n : Nat), ∀ (x1 : Int32) (x2 : Int32) (ls : Array Slot) (hl : lv_has ls 3 [(0, .ref (q 0 0)), (1, .int x1), (2, .int x2)]) (hf : f_X4_loudest_c4 x_now n x1 x2 = some res), W p l e ⟨6, 0, 0, 119⟩ s m args below meth c s.heap [] 0 0 (MQ below (vp_Si (fun r => r = res)) args s 0 0 (fun _ => False)) (F0 m 4 ls []) := by
    intro n
    induction n with
    | zero => intro x1 x2 ls hl hf; cases (show none = some res from hf)
    | succ n ih =>
    intro x1 x2 ls hl hf
    refine lv_iload_n hx hb (dg ddX4_loudest 4 rfl) rfl (lv_at hl 2 rfl) ?_
    refine lv_bipush (v := 8) hx hb (dg ddX4_loudest 5 rfl) (by decide) ?_
    refine lv_icmp_ge (tgt := 38) hx hb (dg ddX4_loudest 6 rfl) (by decide) (fun h1 => ?_) (fun h1 => ?_)
    · have hf := it_t h1 hf
      refine lv_iload_n hx hb (dg ddX4_loudest 21 rfl) rfl (lv_at hl 1 rfl) ?_
      exact e_ri CX hr hlk (Option.some.inj hf) (dg ddX4_loudest 22 rfl)
    · have hf := it_f h1 hf
      refine lv_aload_n hx hb (dg ddX4_loudest 7 rfl) rfl (lv_at hl 0 rfl) ?_
      refine gf_RX4_10 CX hK hP 0 rfl rfl (dg ddX4_loudest 8 rfl) ?_
      refine lv_iload_n hx hb (dg ddX4_loudest 9 rfl) rfl (lv_at hl 2 rfl) ?_
      obtain ⟨r3, e2, hf⟩ := ob_some hf
      refine cro_vf CX hml (As := [.int x2]) (rest := []) (c_X3_noiseOn l D cy (q 1) (g_hour x_now) (g_crowd x_now) (g_buskers x_now) (g_answered x_now) (g_draws x_now) (g_lim x_now) (g_cmp x_now) (g_sof x_now) (g_kin x_now) (g_lou x_now) (g_pit x_now) (g_pla x_now) (g_cas x_now) (g_hrs x_now) (g_nws x_now) (g_hat x_now) (g_wea x_now) (g_row x_now) x2 e2) lk_RX4_169 rfl rfl hRMX3_noiseOn (vaP_l (vaP_perm (pm_n _ _ _ _ _ _) hP)) hK hN 0 rfl rfl rfl hl.1 rfl (Nat.le_of_ble_eq_true rfl) ⟨Nat.le_of_ble_eq_true rfl, Nat.le_of_ble_eq_true rfl⟩ (dg ddX4_loudest 10 rfl) ?_
      refine lv_aload_n hx hb (dg ddX4_loudest 11 rfl) rfl (lv_at hl 0 rfl) ?_
      refine gf_RX4_10 CX hK hP 0 rfl rfl (dg ddX4_loudest 12 rfl) ?_
      refine lv_iload_n hx hb (dg ddX4_loudest 13 rfl) rfl (lv_at hl 1 rfl) ?_
      obtain ⟨r5, e4, hf⟩ := ob_some hf
      refine cro_vf CX hml (As := [.int x1]) (rest := [.float r3]) (c_X3_noiseOn l D cy (q 1) (g_hour x_now) (g_crowd x_now) (g_buskers x_now) (g_answered x_now) (g_draws x_now) (g_lim x_now) (g_cmp x_now) (g_sof x_now) (g_kin x_now) (g_lou x_now) (g_pit x_now) (g_pla x_now) (g_cas x_now) (g_hrs x_now) (g_nws x_now) (g_hat x_now) (g_wea x_now) (g_row x_now) x1 e4) lk_RX4_169 rfl rfl hRMX3_noiseOn (vaP_l (vaP_perm (pm_n _ _ _ _ _ _) hP)) hK hN 0 rfl rfl rfl hl.1 rfl (Nat.le_of_ble_eq_true rfl) ⟨Nat.le_of_ble_eq_true rfl, Nat.le_of_ble_eq_true rfl⟩ (dg ddX4_loudest 14 rfl) ?_
      refine lv_fcmp hx hb (dg ddX4_loudest 15 rfl) ?_
      refine lv_if_le (tgt := 32) hx hb (dg ddX4_loudest 16 rfl) (by decide) (fun h6 => ?_) (fun h6 => ?_)
      · have hf := it_t h6 hf
        refine lv_iinc (v := x2 + 1) (lv' := [(2, .int (x2 + 1)), (0, .ref (q 0 0)), (1, .int x1)]) hx hb (dg ddX4_loudest 19 rfl) hl (k := 2) rfl (congrArg (HAdd.hAdd x2) (by decide)) (by decide) rfl (fun ls hl => ?_)
        refine lv_goto (tgt := 4) hx hb (dg ddX4_loudest 20 rfl) (by decide) ?_
        exact ih x1 (x2 + 1) _ (lv_sub hl [1, 2, 0] rfl) hf
      · have hf := it_f h6 hf
        refine lv_iload_n hx hb (dg ddX4_loudest 17 rfl) rfl (lv_at hl 2 rfl) ?_
        refine lv_istore_n (lv' := [(1, .int x2), (0, .ref (q 0 0)), (2, .int x2)]) hx hb (dg ddX4_loudest 18 rfl) rfl hl (by decide) rfl (fun ls hl => ?_)
        refine lv_iinc (v := x2 + 1) (lv' := [(2, .int (x2 + 1)), (1, .int x2), (0, .ref (q 0 0))]) hx hb (dg ddX4_loudest 19 rfl) hl (k := 2) rfl (congrArg (HAdd.hAdd x2) (by decide)) (by decide) rfl (fun ls hl => ?_)
        refine lv_goto (tgt := 4) hx hb (dg ddX4_loudest 20 rfl) (by decide) ?_
        exact ih x2 (x2 + 1) _ (lv_sub hl [2, 1, 0] rfl) hf
  refine lv_iconst (v := 0) hx hb (dg ddX4_loudest 0 rfl) (by decide) ?_
  refine lv_istore_n (lv' := [(1, .int 0), (0, .ref (q 0 0))]) hx hb (dg ddX4_loudest 1 rfl) rfl hl (by decide) rfl (fun ls hl => ?_)
  refine lv_iconst (v := 1) hx hb (dg ddX4_loudest 2 rfl) (by decide) ?_
  refine lv_istore_n (lv' := [(2, .int 1), (1, .int 0), (0, .ref (q 0 0))]) hx hb (dg ddX4_loudest 3 rfl) rfl hl (by decide) rfl (fun ls hl => ?_)
  exact K4 4096 0 1 _ (lv_sub hl [2, 1, 0] rfl) hf
def f_X4_errorPosition (x_te : Int32) : Option (Int32) := some x_te
set_option maxHeartbeats 4000000 in
set_option maxRecDepth 100000 in
theorem c_X4_errorPosition (l : Launch) (D : va_G) (cy : Nat → ClassId) (q : Nat → Nat → Nat) (x_isv : Int32) (x_te : Int32) (x_re : Int32) (x_de : Int32) (x_now : SV) (x_spa : SV) (x_sna : SV) (x_len : Int32) (x_sig : Nat → Int32) (x_nxt : Int32) (x_cnt : Int32) (x_rng : Nat → SV) {res : Int32} (hf : f_X4_errorPosition x_te = some res) : Met l yX4_errorPosition (.code yX4_errorPosition cX4_errorPosition 1 (some .int) :: lw_all) { frames := 1, cells := 0, slots := 0, locals := 12 } (va_Pc [.ref (q 0 0)] (sR D cy (wX4 q cy x_isv x_te x_re x_de x_now x_spa x_sna x_len x_sig x_nxt x_cnt x_rng))) (vp_Si (fun r => r = res)) 0 0 (fun _ => False) := by
  refine mk_ro (Rc := RX4) (by decide +kernel) rfl (Nat.le_of_ble_eq_true rfl) ?_
  intro p e s m args below meth c ls CX hml hr hlk hK hN hP hl
  have hx := CX.1
  have hb := CX.2.1
  refine lv_aload_n hx hb (dg ddX4_errorPosition 0 rfl) rfl (lv_at hl 0 rfl) ?_
  refine gf_RX4_40 CX hK hP 0 rfl rfl (dg ddX4_errorPosition 1 rfl) ?_
  exact e_ri CX hr hlk (Option.some.inj hf) (dg ddX4_errorPosition 2 rfl)
def f_X4_isNoiseTheSameTwice_c9   : Nat → Int32 → SV → Option (Int32 × SV)
  | 0, _, _ => none
  | n + 1, x1, x_now => if 8 ≤ x1 then (some (1, x_now)) else (ob (f_X3_noiseOn (g_kin x_now) (g_lou x_now) (g_pit x_now) x1) fun r3 => (ob (f_X3_noiseByRow (g_row x_now) x1) fun r5 => (if (Op.cmpValue (FP.fcmp r3 r5) .l) = 0 then (f_X4_isNoiseTheSameTwice_c9  n (x1 + 1) x_now) else (some (0, x_now)))))
def f_X4_isNoiseTheSameTwice (x_now : SV) : Option (Int32 × SV) := ob (f_X3_layRow (g_kin x_now) (g_lou x_now) (g_pit x_now) (g_row x_now)) fun r2 => (f_X4_isNoiseTheSameTwice_c9  4096 0 (s_row x_now r2))
set_option maxHeartbeats 4000000 in
set_option maxRecDepth 100000 in
theorem c_X4_isNoiseTheSameTwice (l : Launch) (D : va_G) (cy : Nat → ClassId) (q : Nat → Nat → Nat) (x_isv : Int32) (x_te : Int32) (x_re : Int32) (x_de : Int32) (x_now : SV) (x_spa : SV) (x_sna : SV) (x_len : Int32) (x_sig : Nat → Int32) (x_nxt : Int32) (x_cnt : Int32) (x_rng : Nat → SV) (sz : Nat) {res : Int32 × SV} (hf : f_X4_isNoiseTheSameTwice x_now = some res) : Met l yX4_isNoiseTheSameTwice (.code yX4_isNoiseTheSameTwice cX4_isNoiseTheSameTwice 2 (some .boolean) :: lw_all) { frames := 6, cells := 0, slots := 0, locals := 119 } (va_Pc [.ref (q 0 0)] (sW D cy (wX4 q cy x_isv x_te x_re x_de x_now x_spa x_sna x_len x_sig x_nxt x_cnt x_rng) sz)) (qI D (wX4 q cy x_isv x_te x_re x_de res.2 x_spa x_sna x_len x_sig x_nxt x_cnt x_rng) res.1 (va_A (wX4 q cy x_isv x_te x_re x_de x_now x_spa x_sna x_len x_sig x_nxt x_cnt x_rng) sz)) 0 0 (va_A (wX4 q cy x_isv x_te x_re x_de x_now x_spa x_sna x_len x_sig x_nxt x_cnt x_rng) sz) := by
  refine mk_rw (Qc := qI D (wX4 q cy x_isv x_te x_re x_de res.2 x_spa x_sna x_len x_sig x_nxt x_cnt x_rng) res.1) (Rc := RX4) (by decide +kernel) rfl (Nat.le_of_ble_eq_true rfl) ?_
  intro p e s m args below meth c ls A CX hml hr hlk hK hN hP hD hS hA hl
  have hx := CX.1
  have hb := CX.2.1
  have hRMX3_layRow : (⟨2, 0, 0, 35⟩ : Room).frames + 1 ≤ (⟨6, 0, 0, 119⟩ : Room).frames ∧ 8 + (2 + 11) + (⟨2, 0, 0, 35⟩ : Room).locals ≤ (⟨6, 0, 0, 119⟩ : Room).locals := ⟨Nat.le_of_ble_eq_true rfl, Nat.le_of_ble_eq_true rfl⟩
  have hRMX3_noiseByRow : (⟨1, 0, 0, 12⟩ : Room).frames + 1 ≤ (⟨6, 0, 0, 119⟩ : Room).frames ∧ 8 + (2 + 11) + (⟨1, 0, 0, 12⟩ : Room).locals ≤ (⟨6, 0, 0, 119⟩ : Room).locals := ⟨Nat.le_of_ble_eq_true rfl, Nat.le_of_ble_eq_true rfl⟩
  have hRMX3_noiseOn : (⟨5, 0, 0, 98⟩ : Room).frames + 1 ≤ (⟨6, 0, 0, 119⟩ : Room).frames ∧ 8 + (2 + 11) + (⟨5, 0, 0, 98⟩ : Room).locals ≤ (⟨6, 0, 0, 119⟩ : Room).locals := ⟨Nat.le_of_ble_eq_true rfl, Nat.le_of_ble_eq_true rfl⟩
  have hl0 := hl
  have K9 : ∀ (n : Nat), ∀ (x1 : Int32) (x_now : SV) (H : Heap) (locs : List Loc) (hP : va_P D vwCl (wX4 q cy x_isv x_te x_re x_de x_now x_spa x_sna x_len x_sig x_nxt x_cnt x_rng) H) (hD : va_D A (wX4 q cy x_isv x_te x_re x_de x_now x_spa x_sna x_len x_sig x_nxt x_cnt x_rng)) (hS : va_S A s.heap H locs) (ls : Array Slot) (hl : lv_has ls 2 [(0, .ref (q 0 0)), (1, .int x1)]) (hf : f_X4_isNoiseTheSameTwice_c9 n x1 x_now = some res), W p l e ⟨6, 0, 0, 119⟩ s m args below meth c H locs 0 0 (MQ below (qI D (wX4 q cy x_isv x_te x_re x_de res.2 x_spa x_sna x_len x_sig x_nxt x_cnt x_rng) res.1 A) args s 0 0 A) (F0 m 9 ls []) := by
    intro n
    induction n with
    | zero => intro x1 x_now H locs hP hD hS ls hl hf; cases (show none = some res from hf)
    | succ n ih =>
    intro x1 x_now H locs hP hD hS ls hl hf
    refine lv_iload_n hx hb (dg ddX4_isNoiseTheSameTwice 5 rfl) rfl (lv_at hl 1 rfl) ?_
    refine lv_bipush (v := 8) hx hb (dg ddX4_isNoiseTheSameTwice 6 rfl) (by decide) ?_
    refine lv_icmp_ge (tgt := 43) hx hb (dg ddX4_isNoiseTheSameTwice 7 rfl) (by decide) (fun h1 => ?_) (fun h1 => ?_)
    · have hf := it_t h1 hf
      refine lv_iconst (v := 1) hx hb (dg ddX4_isNoiseTheSameTwice 22 rfl) (by decide) ?_
      cases hf
      exact e_wz CX hr hlk (by decide) rfl hP hD hS (dg ddX4_isNoiseTheSameTwice 23 rfl)
    · have hf := it_f h1 hf
      refine lv_aload_n hx hb (dg ddX4_isNoiseTheSameTwice 8 rfl) rfl (lv_at hl 0 rfl) ?_
      refine gf_RX4_10 CX hK hP 0 rfl rfl (dg ddX4_isNoiseTheSameTwice 9 rfl) ?_
      refine lv_iload_n hx hb (dg ddX4_isNoiseTheSameTwice 10 rfl) rfl (lv_at hl 1 rfl) ?_
      obtain ⟨r3, e2, hf⟩ := ob_some hf
      refine cro_vf CX hml (As := [.int x1]) (rest := []) (c_X3_noiseOn l D cy (q 1) (g_hour x_now) (g_crowd x_now) (g_buskers x_now) (g_answered x_now) (g_draws x_now) (g_lim x_now) (g_cmp x_now) (g_sof x_now) (g_kin x_now) (g_lou x_now) (g_pit x_now) (g_pla x_now) (g_cas x_now) (g_hrs x_now) (g_nws x_now) (g_hat x_now) (g_wea x_now) (g_row x_now) x1 e2) lk_RX4_169 rfl rfl hRMX3_noiseOn (vaP_l (vaP_perm (pm_n _ _ _ _ _ _) hP)) hK hN 0 rfl rfl rfl hl.1 rfl (Nat.le_of_ble_eq_true rfl) ⟨Nat.le_of_ble_eq_true rfl, Nat.le_of_ble_eq_true rfl⟩ (dg ddX4_isNoiseTheSameTwice 11 rfl) ?_
      refine lv_aload_n hx hb (dg ddX4_isNoiseTheSameTwice 12 rfl) rfl (lv_at hl 0 rfl) ?_
      refine gf_RX4_10 CX hK hP 0 rfl rfl (dg ddX4_isNoiseTheSameTwice 13 rfl) ?_
      refine lv_iload_n hx hb (dg ddX4_isNoiseTheSameTwice 14 rfl) rfl (lv_at hl 1 rfl) ?_
      obtain ⟨r5, e4, hf⟩ := ob_some hf
      refine cro_vf CX hml (As := [.int x1]) (rest := [.float r3]) (c_X3_noiseByRow l D cy (q 1) (g_hour x_now) (g_crowd x_now) (g_buskers x_now) (g_answered x_now) (g_draws x_now) (g_lim x_now) (g_cmp x_now) (g_sof x_now) (g_kin x_now) (g_lou x_now) (g_pit x_now) (g_pla x_now) (g_cas x_now) (g_hrs x_now) (g_nws x_now) (g_hat x_now) (g_wea x_now) (g_row x_now) x1 e4) lk_RX4_176 rfl rfl hRMX3_noiseByRow (vaP_l (vaP_perm (pm_n _ _ _ _ _ _) hP)) hK hN 0 rfl rfl rfl hl.1 rfl (Nat.le_of_ble_eq_true rfl) ⟨Nat.le_of_ble_eq_true rfl, Nat.le_of_ble_eq_true rfl⟩ (dg ddX4_isNoiseTheSameTwice 15 rfl) ?_
      refine lv_fcmp hx hb (dg ddX4_isNoiseTheSameTwice 16 rfl) ?_
      refine lv_if_eq (tgt := 37) hx hb (dg ddX4_isNoiseTheSameTwice 17 rfl) (by decide) (fun h6 => ?_) (fun h6 => ?_)
      · have hf := it_t h6 hf
        refine lv_iinc (v := x1 + 1) (lv' := [(1, .int (x1 + 1)), (0, .ref (q 0 0))]) hx hb (dg ddX4_isNoiseTheSameTwice 20 rfl) hl (k := 1) rfl (congrArg (HAdd.hAdd x1) (by decide)) (by decide) rfl (fun ls hl => ?_)
        refine lv_goto (tgt := 9) hx hb (dg ddX4_isNoiseTheSameTwice 21 rfl) (by decide) ?_
        exact ih (x1 + 1) x_now _ _ hP hD hS _ (lv_sub hl [1, 0] rfl) hf
      · have hf := it_f h6 hf
        refine lv_iconst (v := 0) hx hb (dg ddX4_isNoiseTheSameTwice 18 rfl) (by decide) ?_
        cases hf
        exact e_wz CX hr hlk (by decide) rfl hP hD hS (dg ddX4_isNoiseTheSameTwice 19 rfl)
  refine lv_aload_n hx hb (dg ddX4_isNoiseTheSameTwice 0 rfl) rfl (lv_at hl 0 rfl) ?_
  refine gf_RX4_10 CX hK hP 0 rfl rfl (dg ddX4_isNoiseTheSameTwice 1 rfl) ?_
  obtain ⟨r2, e1, hf⟩ := ob_some hf
  refine crf_vv CX hml (As := []) (rest := []) (ws := (wX4 q cy x_isv x_te x_re x_de x_now x_spa x_sna x_len x_sig x_nxt x_cnt x_rng)) (wsn := (wX4 q cy x_isv x_te x_re x_de (s_row x_now r2) x_spa x_sna x_len x_sig x_nxt x_cnt x_rng)) (c_X3_layRow l D cy (q 1) (g_hour x_now) (g_crowd x_now) (g_buskers x_now) (g_answered x_now) (g_draws x_now) (g_lim x_now) (g_cmp x_now) (g_sof x_now) (g_kin x_now) (g_lou x_now) (g_pit x_now) (g_pla x_now) (g_cas x_now) (g_hrs x_now) (g_nws x_now) (g_hat x_now) (g_wea x_now) (g_row x_now)  _ e1) lk_RX4_173 rfl rfl hRMX3_layRow hP hD hS hA hK hN (pm_n _ _ _ _ _ _) ((pm_n _ _ _ _ _ _).symm) 0 rfl rfl rfl hl.1 rfl (Nat.le_of_ble_eq_true rfl) ⟨Nat.le_of_ble_eq_true rfl, Nat.le_of_ble_eq_true rfl⟩ (dg ddX4_isNoiseTheSameTwice 2 rfl) (fun H locs hP hD hS => ?_)
  refine lv_iconst (v := 0) hx hb (dg ddX4_isNoiseTheSameTwice 3 rfl) (by decide) ?_
  refine lv_istore_n (lv' := [(1, .int 0), (0, .ref (q 0 0))]) hx hb (dg ddX4_isNoiseTheSameTwice 4 rfl) rfl hl (by decide) rfl (fun ls hl => ?_)
  exact K9 4096 0 (s_row x_now r2) _ _ hP hD hS _ (lv_sub hl [1, 0] rfl) hf
def f_X4_isNobodySharing_c2  (x_now : SV) : Nat → Int32 → Option (Int32)
  | 0, _ => none
  | n + 1, x1 => if 8 ≤ x1 then (some 1) else (og (inb x1 8) (if ((g_pit x_now) x1.toNatClampNeg) = (-1) then (f_X4_isNobodySharing_c2 x_now n (x1 + 1)) else (ob (f_X3_playerOn (g_pit x_now) ((g_pit x_now) x1.toNatClampNeg)) fun r5 => (if r5 = x1 then (f_X4_isNobodySharing_c2 x_now n (x1 + 1)) else (some 0)))))
def f_X4_isNobodySharing (x_now : SV) : Option (Int32) := f_X4_isNobodySharing_c2 x_now 4096 0
set_option maxHeartbeats 4000000 in
set_option maxRecDepth 100000 in
theorem c_X4_isNobodySharing (l : Launch) (D : va_G) (cy : Nat → ClassId) (q : Nat → Nat → Nat) (x_isv : Int32) (x_te : Int32) (x_re : Int32) (x_de : Int32) (x_now : SV) (x_spa : SV) (x_sna : SV) (x_len : Int32) (x_sig : Nat → Int32) (x_nxt : Int32) (x_cnt : Int32) (x_rng : Nat → SV) {res : Int32} (hf : f_X4_isNobodySharing x_now = some res) : Met l yX4_isNobodySharing (.code yX4_isNobodySharing cX4_isNobodySharing 3 (some .boolean) :: lw_all) { frames := 3, cells := 0, slots := 0, locals := 54 } (va_Pc [.ref (q 0 0)] (sR D cy (wX4 q cy x_isv x_te x_re x_de x_now x_spa x_sna x_len x_sig x_nxt x_cnt x_rng))) (vp_Si (fun r => r = res)) 0 0 (fun _ => False) := by
  refine mk_ro (Rc := RX4) (by decide +kernel) rfl (Nat.le_of_ble_eq_true rfl) ?_
  intro p e s m args below meth c ls CX hml hr hlk hK hN hP hl
  have hx := CX.1
  have hb := CX.2.1
  have hRMX3_playerOn : (⟨2, 0, 0, 32⟩ : Room).frames + 1 ≤ (⟨3, 0, 0, 54⟩ : Room).frames ∧ 8 + (3 + 11) + (⟨2, 0, 0, 32⟩ : Room).locals ≤ (⟨3, 0, 0, 54⟩ : Room).locals := ⟨Nat.le_of_ble_eq_true rfl, Nat.le_of_ble_eq_true rfl⟩
  have hl0 := hl
  have K2 : ∀ (n : Nat), ∀ (x1 : Int32) (ls : Array Slot) (hl : lv_has ls 3 [(0, .ref (q 0 0)), (1, .int x1)]) (hf : f_X4_isNobodySharing_c2 x_now n x1 = some res), W p l e ⟨3, 0, 0, 54⟩ s m args below meth c s.heap [] 0 0 (MQ below (vp_Si (fun r => r = res)) args s 0 0 (fun _ => False)) (F0 m 2 ls []) := by
    intro n
    induction n with
    | zero => intro x1 ls hl hf; cases (show none = some res from hf)
    | succ n ih =>
    intro x1 ls hl hf
    refine lv_iload_n hx hb (dg ddX4_isNobodySharing 2 rfl) rfl (lv_at hl 1 rfl) ?_
    refine lv_bipush (v := 8) hx hb (dg ddX4_isNobodySharing 3 rfl) (by decide) ?_
    refine lv_icmp_ge (tgt := 43) hx hb (dg ddX4_isNobodySharing 4 rfl) (by decide) (fun h1 => ?_) (fun h1 => ?_)
    · have hf := it_t h1 hf
      refine lv_iconst (v := 1) hx hb (dg ddX4_isNobodySharing 24 rfl) (by decide) ?_
      exact e_rz CX hr hlk (by decide) (Option.some.inj hf) (dg ddX4_isNobodySharing 25 rfl)
    · have hf := it_f h1 hf
      refine lv_aload_n hx hb (dg ddX4_isNobodySharing 5 rfl) rfl (lv_at hl 0 rfl) ?_
      refine gf_RX4_10 CX hK hP 0 rfl rfl (dg ddX4_isNobodySharing 6 rfl) ?_
      refine gf_RX4_95 CX hK hP 1 rfl rfl (dg ddX4_isNobodySharing 7 rfl) ?_
      refine lv_iload_n hx hb (dg ddX4_isNobodySharing 8 rfl) rfl (lv_at hl 1 rfl) ?_
      obtain ⟨h2, hf⟩ := og_some hf
      refine va_iald hx hb hK hP 7 0 rfl rfl (inb_in h2) (dg ddX4_isNobodySharing 9 rfl) ?_
      refine lv_istore_n (lv' := [(2, .int ((g_pit x_now) x1.toNatClampNeg)), (0, .ref (q 0 0)), (1, .int x1)]) hx hb (dg ddX4_isNobodySharing 10 rfl) rfl hl (by decide) rfl (fun ls hl => ?_)
      refine lv_iload_n hx hb (dg ddX4_isNobodySharing 11 rfl) rfl (lv_at hl 0 rfl) ?_
      refine lv_iconst (v := (-1)) hx hb (dg ddX4_isNobodySharing 12 rfl) (by decide) ?_
      refine lv_icmp_eq (tgt := 37) hx hb (dg ddX4_isNobodySharing 13 rfl) (by decide) (fun h3 => ?_) (fun h3 => ?_)
      · have hf := it_t h3 hf
        refine lv_iinc (v := x1 + 1) (lv' := [(1, .int (x1 + 1)), (2, .int ((g_pit x_now) x1.toNatClampNeg)), (0, .ref (q 0 0))]) hx hb (dg ddX4_isNobodySharing 22 rfl) hl (k := 2) rfl (congrArg (HAdd.hAdd x1) (by decide)) (by decide) rfl (fun ls hl => ?_)
        refine lv_goto (tgt := 2) hx hb (dg ddX4_isNobodySharing 23 rfl) (by decide) ?_
        exact ih (x1 + 1) _ (lv_sub hl [2, 0] rfl) hf
      · have hf := it_f h3 hf
        refine lv_aload_n hx hb (dg ddX4_isNobodySharing 14 rfl) rfl (lv_at hl 1 rfl) ?_
        refine gf_RX4_10 CX hK hP 0 rfl rfl (dg ddX4_isNobodySharing 15 rfl) ?_
        refine lv_iload_n hx hb (dg ddX4_isNobodySharing 16 rfl) rfl (lv_at hl 0 rfl) ?_
        obtain ⟨r5, e4, hf⟩ := ob_some hf
        refine cro_vi CX hml (As := [.int ((g_pit x_now) x1.toNatClampNeg)]) (rest := []) (c_X3_playerOn l D cy (q 1) (g_hour x_now) (g_crowd x_now) (g_buskers x_now) (g_answered x_now) (g_draws x_now) (g_lim x_now) (g_cmp x_now) (g_sof x_now) (g_kin x_now) (g_lou x_now) (g_pit x_now) (g_pla x_now) (g_cas x_now) (g_hrs x_now) (g_nws x_now) (g_hat x_now) (g_wea x_now) (g_row x_now) ((g_pit x_now) x1.toNatClampNeg) e4) lk_RX4_126 rfl rfl hRMX3_playerOn (vaP_l (vaP_perm (pm_n _ _ _ _ _ _) hP)) hK hN 0 rfl rfl rfl hl.1 rfl (Nat.le_of_ble_eq_true rfl) ⟨Nat.le_of_ble_eq_true rfl, Nat.le_of_ble_eq_true rfl⟩ (dg ddX4_isNobodySharing 17 rfl) ?_
        refine lv_iload_n hx hb (dg ddX4_isNobodySharing 18 rfl) rfl (lv_at hl 2 rfl) ?_
        refine lv_icmp_eq (tgt := 37) hx hb (dg ddX4_isNobodySharing 19 rfl) (by decide) (fun h6 => ?_) (fun h6 => ?_)
        · have hf := it_t h6 hf
          refine lv_iinc (v := x1 + 1) (lv' := [(1, .int (x1 + 1)), (2, .int ((g_pit x_now) x1.toNatClampNeg)), (0, .ref (q 0 0))]) hx hb (dg ddX4_isNobodySharing 22 rfl) hl (k := 2) rfl (congrArg (HAdd.hAdd x1) (by decide)) (by decide) rfl (fun ls hl => ?_)
          refine lv_goto (tgt := 2) hx hb (dg ddX4_isNobodySharing 23 rfl) (by decide) ?_
          exact ih (x1 + 1) _ (lv_sub hl [2, 0] rfl) hf
        · have hf := it_f h6 hf
          refine lv_iconst (v := 0) hx hb (dg ddX4_isNobodySharing 20 rfl) (by decide) ?_
          exact e_rz CX hr hlk (by decide) (Option.some.inj hf) (dg ddX4_isNobodySharing 21 rfl)
  refine lv_iconst (v := 0) hx hb (dg ddX4_isNobodySharing 0 rfl) (by decide) ?_
  refine lv_istore_n (lv' := [(1, .int 0), (0, .ref (q 0 0))]) hx hb (dg ddX4_isNobodySharing 1 rfl) rfl hl (by decide) rfl (fun ls hl => ?_)
  exact K2 4096 0 _ (lv_sub hl [1, 0] rfl) hf
def f_X4_sum_c10  (w1 : Nat → Int32) : Nat → Int32 → Int32 → Int32 → Option (Int32)
  | 0, _, _, _ => none
  | n + 1, x1, x3, x4 => if x3 ≤ x4 then (some x1) else (og (inb x4 8) (f_X4_sum_c10 w1 n (x1 + (w1 x4.toNatClampNeg)) x3 (x4 + 1)))
def f_X4_sum (w1 : Nat → Int32) : Option (Int32) := f_X4_sum_c10 w1 4096 0 8 0
set_option maxHeartbeats 4000000 in
set_option maxRecDepth 100000 in
theorem c_X4_sum (l : Launch) (D : va_G) (cy : Nat → ClassId) (r1 : Nat) (w1 : Nat → Int32) {res : Int32} (hf : f_X4_sum w1 = some res) : Met l yX4_sum (.code yX4_sum cX4_sum 6 (some .int) :: lw_all) { frames := 1, cells := 0, slots := 0, locals := 12 } (va_Pc [.ref (r1)] (sR D cy [(r1, .inl (cy 0, 8, .inl w1))])) (vp_Si (fun r => r = res)) 0 0 (fun _ => False) := by
  refine mk_ro (Rc := RX4) (by decide +kernel) rfl (Nat.le_of_ble_eq_true rfl) ?_
  intro p e s m args below meth c ls CX hml hr hlk hK hN hP hl
  have hx := CX.1
  have hb := CX.2.1
  have hl0 := hl
  have K10 : ∀ (n : Nat), ∀ (x1 : Int32) (x3 : Int32) (x4 : Int32) (ls : Array Slot) (hl : lv_has ls 6 [(1, .int x1), (2, .ref (r1)), (3, .int x3), (4, .int x4)]) (hf : f_X4_sum_c10 w1 n x1 x3 x4 = some res), W p l e ⟨1, 0, 0, 12⟩ s m args below meth c s.heap [] 0 0 (MQ below (vp_Si (fun r => r = res)) args s 0 0 (fun _ => False)) (F0 m 10 ls []) := by
    intro n
    induction n with
    | zero => intro x1 x3 x4 ls hl hf; cases (show none = some res from hf)
    | succ n ih =>
    intro x1 x3 x4 ls hl hf
    refine lv_iload hx hb (dg ddX4_sum 9 rfl) (lv_at hl 3 rfl) ?_
    refine lv_iload_n hx hb (dg ddX4_sum 10 rfl) rfl (lv_at hl 2 rfl) ?_
    refine lv_icmp_ge (tgt := 33) hx hb (dg ddX4_sum 11 rfl) (by decide) (fun h1 => ?_) (fun h1 => ?_)
    · have hf := it_t h1 hf
      refine lv_iload_n hx hb (dg ddX4_sum 22 rfl) rfl (lv_at hl 0 rfl) ?_
      exact e_ri CX hr hlk (Option.some.inj hf) (dg ddX4_sum 23 rfl)
    · have hf := it_f h1 hf
      refine lv_aload_n hx hb (dg ddX4_sum 12 rfl) rfl (lv_at hl 1 rfl) ?_
      refine lv_iload hx hb (dg ddX4_sum 13 rfl) (lv_at hl 3 rfl) ?_
      obtain ⟨h2, hf⟩ := og_some hf
      refine va_iald hx hb hK hP 0 0 rfl rfl (inb_in h2) (dg ddX4_sum 14 rfl) ?_
      refine lv_istore (lv' := [(5, .int (w1 x4.toNatClampNeg)), (1, .int x1), (2, .ref (r1)), (3, .int x3), (4, .int x4)]) hx hb (dg ddX4_sum 15 rfl) hl (by decide) rfl (fun ls hl => ?_)
      refine lv_iload_n hx hb (dg ddX4_sum 16 rfl) rfl (lv_at hl 1 rfl) ?_
      refine lv_iload hx hb (dg ddX4_sum 17 rfl) (lv_at hl 0 rfl) ?_
      refine lv_iadd hx hb (dg ddX4_sum 18 rfl) ?_
      refine lv_istore_n (lv' := [(1, .int (x1 + (w1 x4.toNatClampNeg))), (5, .int (w1 x4.toNatClampNeg)), (2, .ref (r1)), (3, .int x3), (4, .int x4)]) hx hb (dg ddX4_sum 19 rfl) rfl hl (by decide) rfl (fun ls hl => ?_)
      refine lv_iinc (v := x4 + 1) (lv' := [(4, .int (x4 + 1)), (1, .int (x1 + (w1 x4.toNatClampNeg))), (5, .int (w1 x4.toNatClampNeg)), (2, .ref (r1)), (3, .int x3)]) hx hb (dg ddX4_sum 20 rfl) hl (k := 4) rfl (congrArg (HAdd.hAdd x4) (by decide)) (by decide) rfl (fun ls hl => ?_)
      refine lv_goto (tgt := 10) hx hb (dg ddX4_sum 21 rfl) (by decide) ?_
      exact ih (x1 + (w1 x4.toNatClampNeg)) x3 (x4 + 1) _ (lv_sub hl [1, 3, 4, 0] rfl) hf
  refine lv_iconst (v := 0) hx hb (dg ddX4_sum 0 rfl) (by decide) ?_
  refine lv_istore_n (lv' := [(1, .int 0), (0, .ref (r1))]) hx hb (dg ddX4_sum 1 rfl) rfl hl (by decide) rfl (fun ls hl => ?_)
  refine lv_aload_n hx hb (dg ddX4_sum 2 rfl) rfl (lv_at hl 1 rfl) ?_
  refine lv_astore_n (lv' := [(2, .ref (r1)), (1, .int 0), (0, .ref (r1))]) hx hb (dg ddX4_sum 3 rfl) rfl hl (by decide) rfl (fun ls hl => ?_)
  refine lv_aload_n hx hb (dg ddX4_sum 4 rfl) rfl (lv_at hl 0 rfl) ?_
  refine va_alen hx hb hK hP 0 0 rfl rfl (v := 8) (show Int32.ofNat 8 = 8 from by decide) (dg ddX4_sum 5 rfl) ?_
  refine lv_istore_n (lv' := [(3, .int 8), (2, .ref (r1)), (1, .int 0), (0, .ref (r1))]) hx hb (dg ddX4_sum 6 rfl) rfl hl (by decide) rfl (fun ls hl => ?_)
  refine lv_iconst (v := 0) hx hb (dg ddX4_sum 7 rfl) (by decide) ?_
  refine lv_istore (lv' := [(4, .int 0), (3, .int 8), (2, .ref (r1)), (1, .int 0), (0, .ref (r1))]) hx hb (dg ddX4_sum 8 rfl) hl (by decide) rfl (fun ls hl => ?_)
  exact K10 4096 0 8 0 _ (lv_sub hl [3, 2, 1, 0] rfl) hf
def f_X4_isWell (x_now : SV) : Option (Int32 × SV) := ob (f_X4_isNoiseTheSameTwice x_now) fun r2 => (if r2.1 = 0 then (some (0, r2.2)) else (ob (f_X4_isNobodySharing r2.2) fun r5 => (if r5 = 0 then (some (0, r2.2)) else (ob (f_X3_countAtHome (g_buskers r2.2) (g_pit r2.2) (g_pla r2.2)) fun r8 => (ob (f_X3_countWaiting (g_pla r2.2)) fun r10 => (ob (f_X3_countPlaying (g_pit r2.2)) fun r12 => (if ((r8 + r10) + r12) = (g_buskers r2.2) then (ob (f_X4_sum (g_cmp r2.2)) fun r15 => (ob (f_X4_sum (g_sof r2.2)) fun r17 => (if (r15 + (g_answered r2.2)) = r17 then (some (1, r2.2)) else (some (0, r2.2))))) else (some (0, r2.2)))))))))
set_option maxHeartbeats 4000000 in
set_option maxRecDepth 100000 in
theorem c_X4_isWell (l : Launch) (D : va_G) (cy : Nat → ClassId) (q : Nat → Nat → Nat) (x_isv : Int32) (x_te : Int32) (x_re : Int32) (x_de : Int32) (x_now : SV) (x_spa : SV) (x_sna : SV) (x_len : Int32) (x_sig : Nat → Int32) (x_nxt : Int32) (x_cnt : Int32) (x_rng : Nat → SV) (sz : Nat) {res : Int32 × SV} (hf : f_X4_isWell x_now = some res) : Met l yX4_isWell (.code yX4_isWell cX4_isWell 1 (some .boolean) :: lw_all) { frames := 7, cells := 0, slots := 0, locals := 140 } (va_Pc [.ref (q 0 0)] (sW D cy (wX4 q cy x_isv x_te x_re x_de x_now x_spa x_sna x_len x_sig x_nxt x_cnt x_rng) sz)) (qI D (wX4 q cy x_isv x_te x_re x_de res.2 x_spa x_sna x_len x_sig x_nxt x_cnt x_rng) res.1 (va_A (wX4 q cy x_isv x_te x_re x_de x_now x_spa x_sna x_len x_sig x_nxt x_cnt x_rng) sz)) 0 0 (va_A (wX4 q cy x_isv x_te x_re x_de x_now x_spa x_sna x_len x_sig x_nxt x_cnt x_rng) sz) := by
  refine mk_rw (Qc := qI D (wX4 q cy x_isv x_te x_re x_de res.2 x_spa x_sna x_len x_sig x_nxt x_cnt x_rng) res.1) (Rc := RX4) (by decide +kernel) rfl (Nat.le_of_ble_eq_true rfl) ?_
  intro p e s m args below meth c ls A CX hml hr hlk hK hN hP hD hS hA hl
  have hx := CX.1
  have hb := CX.2.1
  have hRMX3_countAtHome : (⟨2, 0, 0, 33⟩ : Room).frames + 1 ≤ (⟨7, 0, 0, 140⟩ : Room).frames ∧ 8 + (3 + 11) + (⟨2, 0, 0, 33⟩ : Room).locals ≤ (⟨7, 0, 0, 140⟩ : Room).locals := ⟨Nat.le_of_ble_eq_true rfl, Nat.le_of_ble_eq_true rfl⟩
  have hRMX3_countPlaying : (⟨1, 0, 0, 12⟩ : Room).frames + 1 ≤ (⟨7, 0, 0, 140⟩ : Room).frames ∧ 8 + (6 + 11) + (⟨1, 0, 0, 12⟩ : Room).locals ≤ (⟨7, 0, 0, 140⟩ : Room).locals := ⟨Nat.le_of_ble_eq_true rfl, Nat.le_of_ble_eq_true rfl⟩
  have hRMX3_countWaiting : (⟨1, 0, 0, 12⟩ : Room).frames + 1 ≤ (⟨7, 0, 0, 140⟩ : Room).frames ∧ 8 + (6 + 11) + (⟨1, 0, 0, 12⟩ : Room).locals ≤ (⟨7, 0, 0, 140⟩ : Room).locals := ⟨Nat.le_of_ble_eq_true rfl, Nat.le_of_ble_eq_true rfl⟩
  have hRMX4_isNobodySharing : (⟨3, 0, 0, 54⟩ : Room).frames + 1 ≤ (⟨7, 0, 0, 140⟩ : Room).frames ∧ 8 + (3 + 11) + (⟨3, 0, 0, 54⟩ : Room).locals ≤ (⟨7, 0, 0, 140⟩ : Room).locals := ⟨Nat.le_of_ble_eq_true rfl, Nat.le_of_ble_eq_true rfl⟩
  have hRMX4_isNoiseTheSameTwice : (⟨6, 0, 0, 119⟩ : Room).frames + 1 ≤ (⟨7, 0, 0, 140⟩ : Room).frames ∧ 8 + (2 + 11) + (⟨6, 0, 0, 119⟩ : Room).locals ≤ (⟨7, 0, 0, 140⟩ : Room).locals := ⟨Nat.le_of_ble_eq_true rfl, Nat.le_of_ble_eq_true rfl⟩
  have hRMX4_sum : (⟨1, 0, 0, 12⟩ : Room).frames + 1 ≤ (⟨7, 0, 0, 140⟩ : Room).frames ∧ 8 + (6 + 11) + (⟨1, 0, 0, 12⟩ : Room).locals ≤ (⟨7, 0, 0, 140⟩ : Room).locals := ⟨Nat.le_of_ble_eq_true rfl, Nat.le_of_ble_eq_true rfl⟩
  refine lv_aload_n hx hb (dg ddX4_isWell 0 rfl) rfl (lv_at hl 0 rfl) ?_
  obtain ⟨r2, e1, hf⟩ := ob_some hf
  refine crw_vi CX hml (As := []) (rest := []) (c_X4_isNoiseTheSameTwice l D cy q x_isv x_te x_re x_de x_now x_spa x_sna x_len x_sig x_nxt x_cnt x_rng _ e1) lk_RX4_309 rfl rfl hRMX4_isNoiseTheSameTwice hP hD hS hA hK hN 0 rfl rfl rfl hl.1 rfl (Nat.le_of_ble_eq_true rfl) ⟨Nat.le_of_ble_eq_true rfl, Nat.le_of_ble_eq_true rfl⟩ (dg ddX4_isWell 1 rfl) (fun H locs hP hD hS => ?_)
  refine lv_if_eq (tgt := 82) hx hb (dg ddX4_isWell 2 rfl) (by decide) (fun h3 => ?_) (fun h3 => ?_)
  · have hf := it_t h3 hf
    refine lv_iconst (v := 0) hx hb (dg ddX4_isWell 36 rfl) (by decide) ?_
    cases hf
    exact e_wz CX hr hlk (by decide) rfl hP hD hS (dg ddX4_isWell 37 rfl)
  · have hf := it_f h3 hf
    refine lv_aload_n hx hb (dg ddX4_isWell 3 rfl) rfl (lv_at hl 0 rfl) ?_
    obtain ⟨r5, e4, hf⟩ := ob_some hf
    refine cro_vi CX hml (As := []) (rest := []) (c_X4_isNobodySharing l D cy q x_isv x_te x_re x_de r2.2 x_spa x_sna x_len x_sig x_nxt x_cnt x_rng e4) lk_RX4_313 rfl rfl hRMX4_isNobodySharing hP hK hN 0 rfl rfl rfl hl.1 rfl (Nat.le_of_ble_eq_true rfl) ⟨Nat.le_of_ble_eq_true rfl, Nat.le_of_ble_eq_true rfl⟩ (dg ddX4_isWell 4 rfl) ?_
    refine lv_if_eq (tgt := 82) hx hb (dg ddX4_isWell 5 rfl) (by decide) (fun h6 => ?_) (fun h6 => ?_)
    · have hf := it_t h6 hf
      refine lv_iconst (v := 0) hx hb (dg ddX4_isWell 36 rfl) (by decide) ?_
      cases hf
      exact e_wz CX hr hlk (by decide) rfl hP hD hS (dg ddX4_isWell 37 rfl)
    · have hf := it_f h6 hf
      refine lv_aload_n hx hb (dg ddX4_isWell 6 rfl) rfl (lv_at hl 0 rfl) ?_
      refine gf_RX4_10 CX hK hP 0 rfl rfl (dg ddX4_isWell 7 rfl) ?_
      obtain ⟨r8, e7, hf⟩ := ob_some hf
      refine cro_vi CX hml (As := []) (rest := []) (c_X3_countAtHome l D cy (q 1) (g_hour r2.2) (g_crowd r2.2) (g_buskers r2.2) (g_answered r2.2) (g_draws r2.2) (g_lim r2.2) (g_cmp r2.2) (g_sof r2.2) (g_kin r2.2) (g_lou r2.2) (g_pit r2.2) (g_pla r2.2) (g_cas r2.2) (g_hrs r2.2) (g_nws r2.2) (g_hat r2.2) (g_wea r2.2) (g_row r2.2)  e7) lk_RX4_282 rfl rfl hRMX3_countAtHome (vaP_l (vaP_perm (pm_n _ _ _ _ _ _) hP)) hK hN 0 rfl rfl rfl hl.1 rfl (Nat.le_of_ble_eq_true rfl) ⟨Nat.le_of_ble_eq_true rfl, Nat.le_of_ble_eq_true rfl⟩ (dg ddX4_isWell 8 rfl) ?_
      refine lv_aload_n hx hb (dg ddX4_isWell 9 rfl) rfl (lv_at hl 0 rfl) ?_
      refine gf_RX4_10 CX hK hP 0 rfl rfl (dg ddX4_isWell 10 rfl) ?_
      obtain ⟨r10, e9, hf⟩ := ob_some hf
      refine cro_vi CX hml (As := []) (rest := [.int r8]) (c_X3_countWaiting l D cy (q 1) (g_hour r2.2) (g_crowd r2.2) (g_buskers r2.2) (g_answered r2.2) (g_draws r2.2) (g_lim r2.2) (g_cmp r2.2) (g_sof r2.2) (g_kin r2.2) (g_lou r2.2) (g_pit r2.2) (g_pla r2.2) (g_cas r2.2) (g_hrs r2.2) (g_nws r2.2) (g_hat r2.2) (g_wea r2.2) (g_row r2.2)  e9) lk_RX4_285 rfl rfl hRMX3_countWaiting (vaP_l (vaP_perm (pm_n _ _ _ _ _ _) hP)) hK hN 0 rfl rfl rfl hl.1 rfl (Nat.le_of_ble_eq_true rfl) ⟨Nat.le_of_ble_eq_true rfl, Nat.le_of_ble_eq_true rfl⟩ (dg ddX4_isWell 11 rfl) ?_
      refine lv_iadd hx hb (dg ddX4_isWell 12 rfl) ?_
      refine lv_aload_n hx hb (dg ddX4_isWell 13 rfl) rfl (lv_at hl 0 rfl) ?_
      refine gf_RX4_10 CX hK hP 0 rfl rfl (dg ddX4_isWell 14 rfl) ?_
      obtain ⟨r12, e11, hf⟩ := ob_some hf
      refine cro_vi CX hml (As := []) (rest := [.int (r8 + r10)]) (c_X3_countPlaying l D cy (q 1) (g_hour r2.2) (g_crowd r2.2) (g_buskers r2.2) (g_answered r2.2) (g_draws r2.2) (g_lim r2.2) (g_cmp r2.2) (g_sof r2.2) (g_kin r2.2) (g_lou r2.2) (g_pit r2.2) (g_pla r2.2) (g_cas r2.2) (g_hrs r2.2) (g_nws r2.2) (g_hat r2.2) (g_wea r2.2) (g_row r2.2)  e11) lk_RX4_245 rfl rfl hRMX3_countPlaying (vaP_l (vaP_perm (pm_n _ _ _ _ _ _) hP)) hK hN 0 rfl rfl rfl hl.1 rfl (Nat.le_of_ble_eq_true rfl) ⟨Nat.le_of_ble_eq_true rfl, Nat.le_of_ble_eq_true rfl⟩ (dg ddX4_isWell 15 rfl) ?_
      refine lv_iadd hx hb (dg ddX4_isWell 16 rfl) ?_
      refine lv_aload_n hx hb (dg ddX4_isWell 17 rfl) rfl (lv_at hl 0 rfl) ?_
      refine gf_RX4_10 CX hK hP 0 rfl rfl (dg ddX4_isWell 18 rfl) ?_
      refine gf_RX4_279 CX hK hP 1 rfl rfl (dg ddX4_isWell 19 rfl) ?_
      refine lv_icmp_ne (tgt := 82) hx hb (dg ddX4_isWell 20 rfl) (by decide) (fun h13 => ?_) (fun h13 => ?_)
      · have hf := it_f h13 hf
        refine lv_iconst (v := 0) hx hb (dg ddX4_isWell 36 rfl) (by decide) ?_
        cases hf
        exact e_wz CX hr hlk (by decide) rfl hP hD hS (dg ddX4_isWell 37 rfl)
      · have hf := it_t h13 hf
        refine lv_aload_n hx hb (dg ddX4_isWell 21 rfl) rfl (lv_at hl 0 rfl) ?_
        refine gf_RX4_10 CX hK hP 0 rfl rfl (dg ddX4_isWell 22 rfl) ?_
        refine gf_RX4_129 CX hK hP 1 rfl rfl (dg ddX4_isWell 23 rfl) ?_
        obtain ⟨r15, e14, hf⟩ := ob_some hf
        refine cro_si CX hml (As := [.ref (q 1 2)]) (rest := []) (c_X4_sum l D cy (q 1 2) (g_cmp r2.2) e14) lk_RX4_291 rfl rfl hRMX4_sum (vaP_1 hP 3 rfl) hK hN rfl hl.1 rfl (Nat.le_of_ble_eq_true rfl) ⟨Nat.le_of_ble_eq_true rfl, Nat.le_of_ble_eq_true rfl⟩ (dg ddX4_isWell 24 rfl) ?_
        refine lv_aload_n hx hb (dg ddX4_isWell 25 rfl) rfl (lv_at hl 0 rfl) ?_
        refine gf_RX4_10 CX hK hP 0 rfl rfl (dg ddX4_isWell 26 rfl) ?_
        refine gf_RX4_295 CX hK hP 1 rfl rfl (dg ddX4_isWell 27 rfl) ?_
        refine lv_iadd hx hb (dg ddX4_isWell 28 rfl) ?_
        refine lv_aload_n hx hb (dg ddX4_isWell 29 rfl) rfl (lv_at hl 0 rfl) ?_
        refine gf_RX4_10 CX hK hP 0 rfl rfl (dg ddX4_isWell 30 rfl) ?_
        refine gf_RX4_132 CX hK hP 1 rfl rfl (dg ddX4_isWell 31 rfl) ?_
        obtain ⟨r17, e16, hf⟩ := ob_some hf
        refine cro_si CX hml (As := [.ref (q 1 3)]) (rest := [.int (r15 + (g_answered r2.2))]) (c_X4_sum l D cy (q 1 3) (g_sof r2.2) e16) lk_RX4_291 rfl rfl hRMX4_sum (vaP_1 hP 4 rfl) hK hN rfl hl.1 rfl (Nat.le_of_ble_eq_true rfl) ⟨Nat.le_of_ble_eq_true rfl, Nat.le_of_ble_eq_true rfl⟩ (dg ddX4_isWell 32 rfl) ?_
        refine lv_icmp_ne (tgt := 82) hx hb (dg ddX4_isWell 33 rfl) (by decide) (fun h18 => ?_) (fun h18 => ?_)
        · have hf := it_f h18 hf
          refine lv_iconst (v := 0) hx hb (dg ddX4_isWell 36 rfl) (by decide) ?_
          cases hf
          exact e_wz CX hr hlk (by decide) rfl hP hD hS (dg ddX4_isWell 37 rfl)
        · have hf := it_t h18 hf
          refine lv_iconst (v := 1) hx hb (dg ddX4_isWell 34 rfl) (by decide) ?_
          refine lv_goto (tgt := 83) hx hb (dg ddX4_isWell 35 rfl) (by decide) ?_
          cases hf
          exact e_wz CX hr hlk (by decide) rfl hP hD hS (dg ddX4_isWell 37 rfl)
def f_X4_save (x_isv : Int32) (x_now : SV) (x_sna : SV) : Option (Int32 × Int32 × SV) := ob (f_X3_copyFrom (g_hour x_sna) (g_crowd x_sna) (g_buskers x_sna) (g_answered x_sna) (g_draws x_sna) (g_lim x_sna) (g_cmp x_sna) (g_sof x_sna) (g_kin x_sna) (g_lou x_sna) (g_pit x_sna) (g_pla x_sna) (g_cas x_sna) (g_hrs x_sna) (g_nws x_sna) (g_hat x_sna) (g_wea x_sna) (g_hour x_now) (g_crowd x_now) (g_buskers x_now) (g_answered x_now) (g_draws x_now) (g_lim x_now) (g_cmp x_now) (g_sof x_now) (g_kin x_now) (g_lou x_now) (g_pit x_now) (g_pla x_now) (g_cas x_now) (g_hrs x_now) (g_nws x_now) (g_hat x_now) (g_wea x_now)) fun r2 => (some ((g_buskers x_now), 1, (sv_cp x_sna r2)))
set_option maxHeartbeats 4000000 in
set_option maxRecDepth 100000 in
theorem c_X4_save (l : Launch) (D : va_G) (cy : Nat → ClassId) (q : Nat → Nat → Nat) (x_isv : Int32) (x_te : Int32) (x_re : Int32) (x_de : Int32) (x_now : SV) (x_spa : SV) (x_sna : SV) (x_len : Int32) (x_sig : Nat → Int32) (x_nxt : Int32) (x_cnt : Int32) (x_rng : Nat → SV) (sz : Nat) {res : Int32 × Int32 × SV} (hf : f_X4_save x_isv x_now x_sna = some res) : Met l yX4_save (.code yX4_save cX4_save 1 (some .int) :: lw_all) { frames := 2, cells := 0, slots := 0, locals := 61 } (va_Pc [.ref (q 0 0)] (sW D cy (wX4 q cy x_isv x_te x_re x_de x_now x_spa x_sna x_len x_sig x_nxt x_cnt x_rng) sz)) (qI D (wX4 q cy res.2.1 x_te x_re x_de x_now x_spa res.2.2 x_len x_sig x_nxt x_cnt x_rng) res.1 (va_A (wX4 q cy x_isv x_te x_re x_de x_now x_spa x_sna x_len x_sig x_nxt x_cnt x_rng) sz)) 0 0 (va_A (wX4 q cy x_isv x_te x_re x_de x_now x_spa x_sna x_len x_sig x_nxt x_cnt x_rng) sz) := by
  refine mk_rw (Qc := qI D (wX4 q cy res.2.1 x_te x_re x_de x_now x_spa res.2.2 x_len x_sig x_nxt x_cnt x_rng) res.1) (Rc := RX4) (by decide +kernel) rfl (Nat.le_of_ble_eq_true rfl) ?_
  intro p e s m args below meth c ls A CX hml hr hlk hK hN hP hD hS hA hl
  have hx := CX.1
  have hb := CX.2.1
  have hRMX3_copyFrom : (⟨1, 0, 0, 40⟩ : Room).frames + 1 ≤ (⟨2, 0, 0, 61⟩ : Room).frames ∧ 8 + (2 + 11) + (⟨1, 0, 0, 40⟩ : Room).locals ≤ (⟨2, 0, 0, 61⟩ : Room).locals := ⟨Nat.le_of_ble_eq_true rfl, Nat.le_of_ble_eq_true rfl⟩
  refine lv_aload_n hx hb (dg ddX4_save 0 rfl) rfl (lv_at hl 0 rfl) ?_
  refine gf_RX4_19 CX hK hP 0 rfl rfl (dg ddX4_save 1 rfl) ?_
  refine lv_aload_n hx hb (dg ddX4_save 2 rfl) rfl (lv_at hl 0 rfl) ?_
  refine gf_RX4_10 CX hK hP 0 rfl rfl (dg ddX4_save 3 rfl) ?_
  obtain ⟨r2, e1, hf⟩ := ob_some hf
  refine crf_vv CX hml (As := [.ref (q 1 0)]) (rest := []) (ws := (wX4 q cy x_isv x_te x_re x_de x_now x_spa x_sna x_len x_sig x_nxt x_cnt x_rng)) (wsn := (wX4 q cy x_isv x_te x_re x_de x_now x_spa (sv_cp x_sna r2) x_len x_sig x_nxt x_cnt x_rng)) (c_X3_copyFrom l D cy (q 3) (q 1) (g_hour x_sna) (g_crowd x_sna) (g_buskers x_sna) (g_answered x_sna) (g_draws x_sna) (g_lim x_sna) (g_cmp x_sna) (g_sof x_sna) (g_kin x_sna) (g_lou x_sna) (g_pit x_sna) (g_pla x_sna) (g_cas x_sna) (g_hrs x_sna) (g_nws x_sna) (g_hat x_sna) (g_wea x_sna) (g_row x_sna) (g_hour x_now) (g_crowd x_now) (g_buskers x_now) (g_answered x_now) (g_draws x_now) (g_lim x_now) (g_cmp x_now) (g_sof x_now) (g_kin x_now) (g_lou x_now) (g_pit x_now) (g_pla x_now) (g_cas x_now) (g_hrs x_now) (g_nws x_now) (g_hat x_now) (g_wea x_now) (g_row x_now) _ e1) lk_RX4_242 rfl rfl hRMX3_copyFrom hP hD hS hA hK hN (pm_pn _ _ _ _ _ _) ((pm_pn _ _ _ _ _ _).symm) 0 rfl rfl rfl hl.1 rfl (Nat.le_of_ble_eq_true rfl) ⟨Nat.le_of_ble_eq_true rfl, Nat.le_of_ble_eq_true rfl⟩ (dg ddX4_save 4 rfl) (fun H locs hP hD hS => ?_)
  refine lv_aload_n hx hb (dg ddX4_save 5 rfl) rfl (lv_at hl 0 rfl) ?_
  refine lv_iconst (v := 1) hx hb (dg ddX4_save 6 rfl) (by decide) ?_
  refine pf_RX4_22 CX hK hP hD hS 0 rfl (isZ_n (by decide : isZ 1 = true)) (isZ_f (by decide : isZ 1 = true)) (dg ddX4_save 7 rfl) (Nat.le_of_ble_eq_true rfl) (fun H locs hP hD hS => ?_)
  have hP : va_P D vwCl (wX4 q cy 1 x_te x_re x_de x_now x_spa (sv_cp x_sna r2) x_len x_sig x_nxt x_cnt x_rng) H := hP
  have hD : va_D A (wX4 q cy 1 x_te x_re x_de x_now x_spa (sv_cp x_sna r2) x_len x_sig x_nxt x_cnt x_rng) := hD
  refine lv_aload_n hx hb (dg ddX4_save 8 rfl) rfl (lv_at hl 0 rfl) ?_
  refine gf_RX4_10 CX hK hP 0 rfl rfl (dg ddX4_save 9 rfl) ?_
  refine gf_RX4_279 CX hK hP 1 rfl rfl (dg ddX4_save 10 rfl) ?_
  cases hf
  exact e_wi CX hr hlk rfl hP hD hS (dg ddX4_save 11 rfl)
def f_X4_refuse (x_re : Int32) (x_de : Int32) (a1 : Int32) (a2 : Int32) : Option (Int32 × Int32 × Int32) := some (3, a1, a2)
set_option maxHeartbeats 4000000 in
set_option maxRecDepth 100000 in
theorem c_X4_refuse (l : Launch) (D : va_G) (cy : Nat → ClassId) (q : Nat → Nat → Nat) (x_isv : Int32) (x_te : Int32) (x_re : Int32) (x_de : Int32) (x_now : SV) (x_spa : SV) (x_sna : SV) (x_len : Int32) (x_sig : Nat → Int32) (x_nxt : Int32) (x_cnt : Int32) (x_rng : Nat → SV) (a1 : Int32) (a2 : Int32) (sz : Nat) {res : Int32 × Int32 × Int32} (hf : f_X4_refuse x_re x_de a1 a2 = some res) : Met l yX4_refuse (.code yX4_refuse cX4_refuse 3 (some .int) :: lw_all) { frames := 1, cells := 0, slots := 0, locals := 12 } (va_Pc [.ref (q 0 0), .int a1, .int a2] (sW D cy (wX4 q cy x_isv x_te x_re x_de x_now x_spa x_sna x_len x_sig x_nxt x_cnt x_rng) sz)) (qI D (wX4 q cy x_isv x_te res.2.1 res.2.2 x_now x_spa x_sna x_len x_sig x_nxt x_cnt x_rng) res.1 (va_A (wX4 q cy x_isv x_te x_re x_de x_now x_spa x_sna x_len x_sig x_nxt x_cnt x_rng) sz)) 0 0 (va_A (wX4 q cy x_isv x_te x_re x_de x_now x_spa x_sna x_len x_sig x_nxt x_cnt x_rng) sz) := by
  refine mk_rw (Qc := qI D (wX4 q cy x_isv x_te res.2.1 res.2.2 x_now x_spa x_sna x_len x_sig x_nxt x_cnt x_rng) res.1) (Rc := RX4) (by decide +kernel) rfl (Nat.le_of_ble_eq_true rfl) ?_
  intro p e s m args below meth c ls A CX hml hr hlk hK hN hP hD hS hA hl
  have hx := CX.1
  have hb := CX.2.1
  refine lv_aload_n hx hb (dg ddX4_refuse 0 rfl) rfl (lv_at hl 0 rfl) ?_
  refine lv_iload_n hx hb (dg ddX4_refuse 1 rfl) rfl (lv_at hl 1 rfl) ?_
  refine pf_RX4_44 CX hK hP hD hS 0 rfl (dg ddX4_refuse 2 rfl) (Nat.le_of_ble_eq_true rfl) (fun H locs hP hD hS => ?_)
  have hP : va_P D vwCl (wX4 q cy x_isv x_te a1 x_de x_now x_spa x_sna x_len x_sig x_nxt x_cnt x_rng) H := hP
  have hD : va_D A (wX4 q cy x_isv x_te a1 x_de x_now x_spa x_sna x_len x_sig x_nxt x_cnt x_rng) := hD
  refine lv_aload_n hx hb (dg ddX4_refuse 3 rfl) rfl (lv_at hl 0 rfl) ?_
  refine lv_iload_n hx hb (dg ddX4_refuse 4 rfl) rfl (lv_at hl 2 rfl) ?_
  refine pf_RX4_47 CX hK hP hD hS 0 rfl (dg ddX4_refuse 5 rfl) (Nat.le_of_ble_eq_true rfl) (fun H locs hP hD hS => ?_)
  have hP : va_P D vwCl (wX4 q cy x_isv x_te a1 a2 x_now x_spa x_sna x_len x_sig x_nxt x_cnt x_rng) H := hP
  have hD : va_D A (wX4 q cy x_isv x_te a1 a2 x_now x_spa x_sna x_len x_sig x_nxt x_cnt x_rng) := hD
  refine lv_iconst (v := 3) hx hb (dg ddX4_refuse 6 rfl) (by decide) ?_
  cases hf
  exact e_wi CX hr hlk rfl hP hD hS (dg ddX4_refuse 7 rfl)
def f_X4_hindranceOfRange (a1 : Int32) (a2 : Int32) (a3 : Int32) : Option (Int32) := if a1 < a2 then (some 2) else (if a1 ≤ a3 then (some 0) else (some 2))
set_option maxHeartbeats 4000000 in
set_option maxRecDepth 100000 in
theorem c_X4_hindranceOfRange (l : Launch) (D : va_G) (cy : Nat → ClassId) (a1 : Int32) (a2 : Int32) (a3 : Int32) {res : Int32} (hf : f_X4_hindranceOfRange a1 a2 a3 = some res) : Met l yX4_hindranceOfRange (.code yX4_hindranceOfRange cX4_hindranceOfRange 3 (some .int) :: lw_all) { frames := 1, cells := 0, slots := 0, locals := 12 } (va_Pc [.int a1, .int a2, .int a3] (sR D cy [])) (vp_Si (fun r => r = res)) 0 0 (fun _ => False) := by
  refine mk_ro (Rc := RX4) (by decide +kernel) rfl (Nat.le_of_ble_eq_true rfl) ?_
  intro p e s m args below meth c ls CX hml hr hlk hK hN hP hl
  have hx := CX.1
  have hb := CX.2.1
  refine lv_iload_n hx hb (dg ddX4_hindranceOfRange 0 rfl) rfl (lv_at hl 0 rfl) ?_
  refine lv_iload_n hx hb (dg ddX4_hindranceOfRange 1 rfl) rfl (lv_at hl 1 rfl) ?_
  refine lv_icmp_lt (tgt := 10) hx hb (dg ddX4_hindranceOfRange 2 rfl) (by decide) (fun h1 => ?_) (fun h1 => ?_)
  · have hf := it_t h1 hf
    refine lv_iconst (v := 2) hx hb (dg ddX4_hindranceOfRange 6 rfl) (by decide) ?_
    refine lv_goto (tgt := 15) hx hb (dg ddX4_hindranceOfRange 7 rfl) (by decide) ?_
    exact e_ri CX hr hlk (Option.some.inj hf) (dg ddX4_hindranceOfRange 9 rfl)
  · have hf := it_f h1 hf
    refine lv_iload_n hx hb (dg ddX4_hindranceOfRange 3 rfl) rfl (lv_at hl 0 rfl) ?_
    refine lv_iload_n hx hb (dg ddX4_hindranceOfRange 4 rfl) rfl (lv_at hl 2 rfl) ?_
    refine lv_icmp_le (tgt := 14) hx hb (dg ddX4_hindranceOfRange 5 rfl) (by decide) (fun h2 => ?_) (fun h2 => ?_)
    · have hf := it_t h2 hf
      refine lv_iconst (v := 0) hx hb (dg ddX4_hindranceOfRange 8 rfl) (by decide) ?_
      exact e_ri CX hr hlk (Option.some.inj hf) (dg ddX4_hindranceOfRange 9 rfl)
    · have hf := it_f h2 hf
      refine lv_iconst (v := 2) hx hb (dg ddX4_hindranceOfRange 6 rfl) (by decide) ?_
      refine lv_goto (tgt := 15) hx hb (dg ddX4_hindranceOfRange 7 rfl) (by decide) ?_
      exact e_ri CX hr hlk (Option.some.inj hf) (dg ddX4_hindranceOfRange 9 rfl)
def f_X4_hindranceOfPitchNumber (a1 : Int32) : Option (Int32) := ob (f_X4_isPitch a1) fun r2 => (if r2 = 0 then (some 1) else (some 0))
set_option maxHeartbeats 4000000 in
set_option maxRecDepth 100000 in
theorem c_X4_hindranceOfPitchNumber (l : Launch) (D : va_G) (cy : Nat → ClassId) (a1 : Int32) {res : Int32} (hf : f_X4_hindranceOfPitchNumber a1 = some res) : Met l yX4_hindranceOfPitchNumber (.code yX4_hindranceOfPitchNumber cX4_hindranceOfPitchNumber 1 (some .int) :: lw_all) { frames := 2, cells := 0, slots := 0, locals := 32 } (va_Pc [.int a1] (sR D cy [])) (vp_Si (fun r => r = res)) 0 0 (fun _ => False) := by
  refine mk_ro (Rc := RX4) (by decide +kernel) rfl (Nat.le_of_ble_eq_true rfl) ?_
  intro p e s m args below meth c ls CX hml hr hlk hK hN hP hl
  have hx := CX.1
  have hb := CX.2.1
  have hRMX4_isPitch : (⟨1, 0, 0, 12⟩ : Room).frames + 1 ≤ (⟨2, 0, 0, 32⟩ : Room).frames ∧ 8 + (1 + 11) + (⟨1, 0, 0, 12⟩ : Room).locals ≤ (⟨2, 0, 0, 32⟩ : Room).locals := ⟨Nat.le_of_ble_eq_true rfl, Nat.le_of_ble_eq_true rfl⟩
  refine lv_iload_n hx hb (dg ddX4_hindranceOfPitchNumber 0 rfl) rfl (lv_at hl 0 rfl) ?_
  obtain ⟨r2, e1, hf⟩ := ob_some hf
  refine cro_si CX hml (As := [.int a1]) (rest := []) (c_X4_isPitch l D cy a1 e1) lk_RX4_338 rfl rfl hRMX4_isPitch vaP_nil hK hN rfl hl.1 rfl (Nat.le_of_ble_eq_true rfl) ⟨Nat.le_of_ble_eq_true rfl, Nat.le_of_ble_eq_true rfl⟩ (dg ddX4_hindranceOfPitchNumber 1 rfl) ?_
  refine lv_if_eq (tgt := 11) hx hb (dg ddX4_hindranceOfPitchNumber 2 rfl) (by decide) (fun h3 => ?_) (fun h3 => ?_)
  · have hf := it_t h3 hf
    refine lv_iconst (v := 1) hx hb (dg ddX4_hindranceOfPitchNumber 5 rfl) (by decide) ?_
    exact e_ri CX hr hlk (Option.some.inj hf) (dg ddX4_hindranceOfPitchNumber 6 rfl)
  · have hf := it_f h3 hf
    refine lv_iconst (v := 0) hx hb (dg ddX4_hindranceOfPitchNumber 3 rfl) (by decide) ?_
    refine lv_goto (tgt := 12) hx hb (dg ddX4_hindranceOfPitchNumber 4 rfl) (by decide) ?_
    exact e_ri CX hr hlk (Option.some.inj hf) (dg ddX4_hindranceOfPitchNumber 6 rfl)
def f_X4_hindranceOfBuskerNumber (x_now : SV) (a1 : Int32) : Option (Int32) := ob (f_X3_hasBusker (g_buskers x_now) a1) fun r2 => (if r2 = 0 then (some 1) else (some 0))
set_option maxHeartbeats 4000000 in
set_option maxRecDepth 100000 in
theorem c_X4_hindranceOfBuskerNumber (l : Launch) (D : va_G) (cy : Nat → ClassId) (q : Nat → Nat → Nat) (x_isv : Int32) (x_te : Int32) (x_re : Int32) (x_de : Int32) (x_now : SV) (x_spa : SV) (x_sna : SV) (x_len : Int32) (x_sig : Nat → Int32) (x_nxt : Int32) (x_cnt : Int32) (x_rng : Nat → SV) (a1 : Int32) {res : Int32} (hf : f_X4_hindranceOfBuskerNumber x_now a1 = some res) : Met l yX4_hindranceOfBuskerNumber (.code yX4_hindranceOfBuskerNumber cX4_hindranceOfBuskerNumber 2 (some .int) :: lw_all) { frames := 2, cells := 0, slots := 0, locals := 33 } (va_Pc [.ref (q 0 0), .int a1] (sR D cy (wX4 q cy x_isv x_te x_re x_de x_now x_spa x_sna x_len x_sig x_nxt x_cnt x_rng))) (vp_Si (fun r => r = res)) 0 0 (fun _ => False) := by
  refine mk_ro (Rc := RX4) (by decide +kernel) rfl (Nat.le_of_ble_eq_true rfl) ?_
  intro p e s m args below meth c ls CX hml hr hlk hK hN hP hl
  have hx := CX.1
  have hb := CX.2.1
  have hRMX3_hasBusker : (⟨1, 0, 0, 12⟩ : Room).frames + 1 ≤ (⟨2, 0, 0, 33⟩ : Room).frames ∧ 8 + (2 + 11) + (⟨1, 0, 0, 12⟩ : Room).locals ≤ (⟨2, 0, 0, 33⟩ : Room).locals := ⟨Nat.le_of_ble_eq_true rfl, Nat.le_of_ble_eq_true rfl⟩
  refine lv_aload_n hx hb (dg ddX4_hindranceOfBuskerNumber 0 rfl) rfl (lv_at hl 0 rfl) ?_
  refine gf_RX4_10 CX hK hP 0 rfl rfl (dg ddX4_hindranceOfBuskerNumber 1 rfl) ?_
  refine lv_iload_n hx hb (dg ddX4_hindranceOfBuskerNumber 2 rfl) rfl (lv_at hl 1 rfl) ?_
  obtain ⟨r2, e1, hf⟩ := ob_some hf
  refine cro_vi CX hml (As := [.int a1]) (rest := []) (c_X3_hasBusker l D cy (q 1) (g_hour x_now) (g_crowd x_now) (g_buskers x_now) (g_answered x_now) (g_draws x_now) (g_lim x_now) (g_cmp x_now) (g_sof x_now) (g_kin x_now) (g_lou x_now) (g_pit x_now) (g_pla x_now) (g_cas x_now) (g_hrs x_now) (g_nws x_now) (g_hat x_now) (g_wea x_now) (g_row x_now) a1 e1) lk_RX4_224 rfl rfl hRMX3_hasBusker (vaP_l (vaP_perm (pm_n _ _ _ _ _ _) hP)) hK hN 0 rfl rfl rfl hl.1 rfl (Nat.le_of_ble_eq_true rfl) ⟨Nat.le_of_ble_eq_true rfl, Nat.le_of_ble_eq_true rfl⟩ (dg ddX4_hindranceOfBuskerNumber 3 rfl) ?_
  refine lv_if_eq (tgt := 15) hx hb (dg ddX4_hindranceOfBuskerNumber 4 rfl) (by decide) (fun h3 => ?_) (fun h3 => ?_)
  · have hf := it_t h3 hf
    refine lv_iconst (v := 1) hx hb (dg ddX4_hindranceOfBuskerNumber 7 rfl) (by decide) ?_
    exact e_ri CX hr hlk (Option.some.inj hf) (dg ddX4_hindranceOfBuskerNumber 8 rfl)
  · have hf := it_f h3 hf
    refine lv_iconst (v := 0) hx hb (dg ddX4_hindranceOfBuskerNumber 5 rfl) (by decide) ?_
    refine lv_goto (tgt := 16) hx hb (dg ddX4_hindranceOfBuskerNumber 6 rfl) (by decide) ?_
    exact e_ri CX hr hlk (Option.some.inj hf) (dg ddX4_hindranceOfBuskerNumber 8 rfl)
def f_X4_hindranceOfCrowd (a1 : Int32) : Option (Int32) := ob (f_X4_hindranceOfRange a1 0 50) fun r2 => (some r2)
set_option maxHeartbeats 4000000 in
set_option maxRecDepth 100000 in
theorem c_X4_hindranceOfCrowd (l : Launch) (D : va_G) (cy : Nat → ClassId) (a1 : Int32) {res : Int32} (hf : f_X4_hindranceOfCrowd a1 = some res) : Met l yX4_hindranceOfCrowd (.code yX4_hindranceOfCrowd cX4_hindranceOfCrowd 1 (some .int) :: lw_all) { frames := 2, cells := 0, slots := 0, locals := 34 } (va_Pc [.int a1] (sR D cy [])) (vp_Si (fun r => r = res)) 0 0 (fun _ => False) := by
  refine mk_ro (Rc := RX4) (by decide +kernel) rfl (Nat.le_of_ble_eq_true rfl) ?_
  intro p e s m args below meth c ls CX hml hr hlk hK hN hP hl
  have hx := CX.1
  have hb := CX.2.1
  have hRMX4_hindranceOfRange : (⟨1, 0, 0, 12⟩ : Room).frames + 1 ≤ (⟨2, 0, 0, 34⟩ : Room).frames ∧ 8 + (3 + 11) + (⟨1, 0, 0, 12⟩ : Room).locals ≤ (⟨2, 0, 0, 34⟩ : Room).locals := ⟨Nat.le_of_ble_eq_true rfl, Nat.le_of_ble_eq_true rfl⟩
  refine lv_iload_n hx hb (dg ddX4_hindranceOfCrowd 0 rfl) rfl (lv_at hl 0 rfl) ?_
  refine lv_iconst (v := 0) hx hb (dg ddX4_hindranceOfCrowd 1 rfl) (by decide) ?_
  refine lv_bipush (v := 50) hx hb (dg ddX4_hindranceOfCrowd 2 rfl) (by decide) ?_
  obtain ⟨r2, e1, hf⟩ := ob_some hf
  refine cro_si CX hml (As := [.int a1, .int 0, .int 50]) (rest := []) (c_X4_hindranceOfRange l D cy a1 0 50 e1) lk_RX4_341 rfl rfl hRMX4_hindranceOfRange vaP_nil hK hN rfl hl.1 rfl (Nat.le_of_ble_eq_true rfl) ⟨Nat.le_of_ble_eq_true rfl, Nat.le_of_ble_eq_true rfl⟩ (dg ddX4_hindranceOfCrowd 3 rfl) ?_
  exact e_ri CX hr hlk (Option.some.inj hf) (dg ddX4_hindranceOfCrowd 4 rfl)
def f_X4_hindranceOfPass (a1 : Int32) : Option (Int32) := ob (f_X4_hindranceOfRange a1 1 60) fun r2 => (some r2)
set_option maxHeartbeats 4000000 in
set_option maxRecDepth 100000 in
theorem c_X4_hindranceOfPass (l : Launch) (D : va_G) (cy : Nat → ClassId) (a1 : Int32) {res : Int32} (hf : f_X4_hindranceOfPass a1 = some res) : Met l yX4_hindranceOfPass (.code yX4_hindranceOfPass cX4_hindranceOfPass 1 (some .int) :: lw_all) { frames := 2, cells := 0, slots := 0, locals := 34 } (va_Pc [.int a1] (sR D cy [])) (vp_Si (fun r => r = res)) 0 0 (fun _ => False) := by
  refine mk_ro (Rc := RX4) (by decide +kernel) rfl (Nat.le_of_ble_eq_true rfl) ?_
  intro p e s m args below meth c ls CX hml hr hlk hK hN hP hl
  have hx := CX.1
  have hb := CX.2.1
  have hRMX4_hindranceOfRange : (⟨1, 0, 0, 12⟩ : Room).frames + 1 ≤ (⟨2, 0, 0, 34⟩ : Room).frames ∧ 8 + (3 + 11) + (⟨1, 0, 0, 12⟩ : Room).locals ≤ (⟨2, 0, 0, 34⟩ : Room).locals := ⟨Nat.le_of_ble_eq_true rfl, Nat.le_of_ble_eq_true rfl⟩
  refine lv_iload_n hx hb (dg ddX4_hindranceOfPass 0 rfl) rfl (lv_at hl 0 rfl) ?_
  refine lv_iconst (v := 1) hx hb (dg ddX4_hindranceOfPass 1 rfl) (by decide) ?_
  refine lv_bipush (v := 60) hx hb (dg ddX4_hindranceOfPass 2 rfl) (by decide) ?_
  obtain ⟨r2, e1, hf⟩ := ob_some hf
  refine cro_si CX hml (As := [.int a1, .int 1, .int 60]) (rest := []) (c_X4_hindranceOfRange l D cy a1 1 60 e1) lk_RX4_341 rfl rfl hRMX4_hindranceOfRange vaP_nil hK hN rfl hl.1 rfl (Nat.le_of_ble_eq_true rfl) ⟨Nat.le_of_ble_eq_true rfl, Nat.le_of_ble_eq_true rfl⟩ (dg ddX4_hindranceOfPass 3 rfl) ?_
  exact e_ri CX hr hlk (Option.some.inj hf) (dg ddX4_hindranceOfPass 4 rfl)
def f_X4_hindranceOfLookAhead (a1 : Int32) : Option (Int32) := ob (f_X4_hindranceOfRange a1 0 60) fun r2 => (some r2)
set_option maxHeartbeats 4000000 in
set_option maxRecDepth 100000 in
theorem c_X4_hindranceOfLookAhead (l : Launch) (D : va_G) (cy : Nat → ClassId) (a1 : Int32) {res : Int32} (hf : f_X4_hindranceOfLookAhead a1 = some res) : Met l yX4_hindranceOfLookAhead (.code yX4_hindranceOfLookAhead cX4_hindranceOfLookAhead 1 (some .int) :: lw_all) { frames := 2, cells := 0, slots := 0, locals := 34 } (va_Pc [.int a1] (sR D cy [])) (vp_Si (fun r => r = res)) 0 0 (fun _ => False) := by
  refine mk_ro (Rc := RX4) (by decide +kernel) rfl (Nat.le_of_ble_eq_true rfl) ?_
  intro p e s m args below meth c ls CX hml hr hlk hK hN hP hl
  have hx := CX.1
  have hb := CX.2.1
  have hRMX4_hindranceOfRange : (⟨1, 0, 0, 12⟩ : Room).frames + 1 ≤ (⟨2, 0, 0, 34⟩ : Room).frames ∧ 8 + (3 + 11) + (⟨1, 0, 0, 12⟩ : Room).locals ≤ (⟨2, 0, 0, 34⟩ : Room).locals := ⟨Nat.le_of_ble_eq_true rfl, Nat.le_of_ble_eq_true rfl⟩
  refine lv_iload_n hx hb (dg ddX4_hindranceOfLookAhead 0 rfl) rfl (lv_at hl 0 rfl) ?_
  refine lv_iconst (v := 0) hx hb (dg ddX4_hindranceOfLookAhead 1 rfl) (by decide) ?_
  refine lv_bipush (v := 60) hx hb (dg ddX4_hindranceOfLookAhead 2 rfl) (by decide) ?_
  obtain ⟨r2, e1, hf⟩ := ob_some hf
  refine cro_si CX hml (As := [.int a1, .int 0, .int 60]) (rest := []) (c_X4_hindranceOfRange l D cy a1 0 60 e1) lk_RX4_341 rfl rfl hRMX4_hindranceOfRange vaP_nil hK hN rfl hl.1 rfl (Nat.le_of_ble_eq_true rfl) ⟨Nat.le_of_ble_eq_true rfl, Nat.le_of_ble_eq_true rfl⟩ (dg ddX4_hindranceOfLookAhead 3 rfl) ?_
  exact e_ri CX hr hlk (Option.some.inj hf) (dg ddX4_hindranceOfLookAhead 4 rfl)
def f_X4_hindranceOfLimit (a1 : Int32) (a2 : Int32) : Option (Int32) := ob (f_X4_isPitch a1) fun r2 => (if r2 = 0 then (some 1) else (ob (f_X4_hindranceOfRange a2 40 120) fun r5 => (some r5)))
set_option maxHeartbeats 4000000 in
set_option maxRecDepth 100000 in
theorem c_X4_hindranceOfLimit (l : Launch) (D : va_G) (cy : Nat → ClassId) (a1 : Int32) (a2 : Int32) {res : Int32} (hf : f_X4_hindranceOfLimit a1 a2 = some res) : Met l yX4_hindranceOfLimit (.code yX4_hindranceOfLimit cX4_hindranceOfLimit 2 (some .int) :: lw_all) { frames := 2, cells := 0, slots := 0, locals := 34 } (va_Pc [.int a1, .int a2] (sR D cy [])) (vp_Si (fun r => r = res)) 0 0 (fun _ => False) := by
  refine mk_ro (Rc := RX4) (by decide +kernel) rfl (Nat.le_of_ble_eq_true rfl) ?_
  intro p e s m args below meth c ls CX hml hr hlk hK hN hP hl
  have hx := CX.1
  have hb := CX.2.1
  have hRMX4_hindranceOfRange : (⟨1, 0, 0, 12⟩ : Room).frames + 1 ≤ (⟨2, 0, 0, 34⟩ : Room).frames ∧ 8 + (3 + 11) + (⟨1, 0, 0, 12⟩ : Room).locals ≤ (⟨2, 0, 0, 34⟩ : Room).locals := ⟨Nat.le_of_ble_eq_true rfl, Nat.le_of_ble_eq_true rfl⟩
  have hRMX4_isPitch : (⟨1, 0, 0, 12⟩ : Room).frames + 1 ≤ (⟨2, 0, 0, 34⟩ : Room).frames ∧ 8 + (1 + 11) + (⟨1, 0, 0, 12⟩ : Room).locals ≤ (⟨2, 0, 0, 34⟩ : Room).locals := ⟨Nat.le_of_ble_eq_true rfl, Nat.le_of_ble_eq_true rfl⟩
  refine lv_iload_n hx hb (dg ddX4_hindranceOfLimit 0 rfl) rfl (lv_at hl 0 rfl) ?_
  obtain ⟨r2, e1, hf⟩ := ob_some hf
  refine cro_si CX hml (As := [.int a1]) (rest := []) (c_X4_isPitch l D cy a1 e1) lk_RX4_338 rfl rfl hRMX4_isPitch vaP_nil hK hN rfl hl.1 rfl (Nat.le_of_ble_eq_true rfl) ⟨Nat.le_of_ble_eq_true rfl, Nat.le_of_ble_eq_true rfl⟩ (dg ddX4_hindranceOfLimit 1 rfl) ?_
  refine lv_if_ne (tgt := 9) hx hb (dg ddX4_hindranceOfLimit 2 rfl) (by decide) (fun h3 => ?_) (fun h3 => ?_)
  · have hf := it_f h3 hf
    refine lv_iload_n hx hb (dg ddX4_hindranceOfLimit 5 rfl) rfl (lv_at hl 1 rfl) ?_
    refine lv_bipush (v := 40) hx hb (dg ddX4_hindranceOfLimit 6 rfl) (by decide) ?_
    refine lv_bipush (v := 120) hx hb (dg ddX4_hindranceOfLimit 7 rfl) (by decide) ?_
    obtain ⟨r5, e4, hf⟩ := ob_some hf
    refine cro_si CX hml (As := [.int a2, .int 40, .int 120]) (rest := []) (c_X4_hindranceOfRange l D cy a2 40 120 e4) lk_RX4_341 rfl rfl hRMX4_hindranceOfRange vaP_nil hK hN rfl hl.1 rfl (Nat.le_of_ble_eq_true rfl) ⟨Nat.le_of_ble_eq_true rfl, Nat.le_of_ble_eq_true rfl⟩ (dg ddX4_hindranceOfLimit 8 rfl) ?_
    exact e_ri CX hr hlk (Option.some.inj hf) (dg ddX4_hindranceOfLimit 9 rfl)
  · have hf := it_t h3 hf
    refine lv_iconst (v := 1) hx hb (dg ddX4_hindranceOfLimit 3 rfl) (by decide) ?_
    exact e_ri CX hr hlk (Option.some.inj hf) (dg ddX4_hindranceOfLimit 4 rfl)
def f_X4_hindranceOfBusker_c11  (x_now : SV) (a2 : Int32) (x_re : Int32) (x_de : Int32) : Option (Int32 × Int32 × Int32) := if a2 < 1 then (some (2, x_re, x_de)) else (if a2 ≤ 9 then (if (g_buskers x_now) < 8 then (some (0, x_re, x_de)) else (ob (f_X4_refuse x_re x_de 1 8) fun r5 => (some (r5.1, r5.2.1, r5.2.2)))) else (some (2, x_re, x_de)))
def f_X4_hindranceOfBusker (x_re : Int32) (x_de : Int32) (x_now : SV) (a1 : Int32) (a2 : Int32) : Option (Int32 × Int32 × Int32) := if a1 = 0 then (f_X4_hindranceOfBusker_c11 x_now a2 x_re x_de) else (if a1 = 1 then (f_X4_hindranceOfBusker_c11 x_now a2 x_re x_de) else (some (2, x_re, x_de)))
set_option maxHeartbeats 4000000 in
set_option maxRecDepth 100000 in
theorem c_X4_hindranceOfBusker (l : Launch) (D : va_G) (cy : Nat → ClassId) (q : Nat → Nat → Nat) (x_isv : Int32) (x_te : Int32) (x_re : Int32) (x_de : Int32) (x_now : SV) (x_spa : SV) (x_sna : SV) (x_len : Int32) (x_sig : Nat → Int32) (x_nxt : Int32) (x_cnt : Int32) (x_rng : Nat → SV) (a1 : Int32) (a2 : Int32) (sz : Nat) {res : Int32 × Int32 × Int32} (hf : f_X4_hindranceOfBusker x_re x_de x_now a1 a2 = some res) : Met l yX4_hindranceOfBusker (.code yX4_hindranceOfBusker cX4_hindranceOfBusker 3 (some .int) :: lw_all) { frames := 2, cells := 0, slots := 0, locals := 34 } (va_Pc [.ref (q 0 0), .int a1, .int a2] (sW D cy (wX4 q cy x_isv x_te x_re x_de x_now x_spa x_sna x_len x_sig x_nxt x_cnt x_rng) sz)) (qI D (wX4 q cy x_isv x_te res.2.1 res.2.2 x_now x_spa x_sna x_len x_sig x_nxt x_cnt x_rng) res.1 (va_A (wX4 q cy x_isv x_te x_re x_de x_now x_spa x_sna x_len x_sig x_nxt x_cnt x_rng) sz)) 0 0 (va_A (wX4 q cy x_isv x_te x_re x_de x_now x_spa x_sna x_len x_sig x_nxt x_cnt x_rng) sz) := by
  refine mk_rw (Qc := qI D (wX4 q cy x_isv x_te res.2.1 res.2.2 x_now x_spa x_sna x_len x_sig x_nxt x_cnt x_rng) res.1) (Rc := RX4) (by decide +kernel) rfl (Nat.le_of_ble_eq_true rfl) ?_
  intro p e s m args below meth c ls A CX hml hr hlk hK hN hP hD hS hA hl
  have hx := CX.1
  have hb := CX.2.1
  have hRMX4_refuse : (⟨1, 0, 0, 12⟩ : Room).frames + 1 ≤ (⟨2, 0, 0, 34⟩ : Room).frames ∧ 8 + (3 + 11) + (⟨1, 0, 0, 12⟩ : Room).locals ≤ (⟨2, 0, 0, 34⟩ : Room).locals := ⟨Nat.le_of_ble_eq_true rfl, Nat.le_of_ble_eq_true rfl⟩
  have hl0 := hl
  have K11 : ∀ (x_re : Int32) (x_de : Int32) (H : Heap) (locs : List Loc) (hP : va_P D vwCl (wX4 q cy x_isv x_te x_re x_de x_now x_spa x_sna x_len x_sig x_nxt x_cnt x_rng) H) (hD : va_D A (wX4 q cy x_isv x_te x_re x_de x_now x_spa x_sna x_len x_sig x_nxt x_cnt x_rng)) (hS : va_S A s.heap H locs) (ls : Array Slot) (hl : lv_has ls 3 [(0, .ref (q 0 0)), (2, .int a2)]) (hf : f_X4_hindranceOfBusker_c11 x_now a2 x_re x_de = some res), W p l e ⟨2, 0, 0, 34⟩ s m args below meth c H locs 0 0 (MQ below (qI D (wX4 q cy x_isv x_te res.2.1 res.2.2 x_now x_spa x_sna x_len x_sig x_nxt x_cnt x_rng) res.1 A) args s 0 0 A) (F0 m 11 ls []) := by
    intro x_re x_de H locs hP hD hS ls hl hf
    refine lv_iload_n hx hb (dg ddX4_hindranceOfBusker 7 rfl) rfl (lv_at hl 1 rfl) ?_
    refine lv_iconst (v := 1) hx hb (dg ddX4_hindranceOfBusker 8 rfl) (by decide) ?_
    refine lv_icmp_lt (tgt := 22) hx hb (dg ddX4_hindranceOfBusker 9 rfl) (by decide) (fun h1 => ?_) (fun h1 => ?_)
    · have hf := it_t h1 hf
      refine lv_iconst (v := 2) hx hb (dg ddX4_hindranceOfBusker 13 rfl) (by decide) ?_
      cases hf
      exact e_wi CX hr hlk rfl hP hD hS (dg ddX4_hindranceOfBusker 14 rfl)
    · have hf := it_f h1 hf
      refine lv_iload_n hx hb (dg ddX4_hindranceOfBusker 10 rfl) rfl (lv_at hl 1 rfl) ?_
      refine lv_bipush (v := 9) hx hb (dg ddX4_hindranceOfBusker 11 rfl) (by decide) ?_
      refine lv_icmp_le (tgt := 24) hx hb (dg ddX4_hindranceOfBusker 12 rfl) (by decide) (fun h2 => ?_) (fun h2 => ?_)
      · have hf := it_t h2 hf
        refine lv_aload_n hx hb (dg ddX4_hindranceOfBusker 15 rfl) rfl (lv_at hl 0 rfl) ?_
        refine gf_RX4_10 CX hK hP 0 rfl rfl (dg ddX4_hindranceOfBusker 16 rfl) ?_
        refine gf_RX4_279 CX hK hP 1 rfl rfl (dg ddX4_hindranceOfBusker 17 rfl) ?_
        refine lv_bipush (v := 8) hx hb (dg ddX4_hindranceOfBusker 18 rfl) (by decide) ?_
        refine lv_icmp_lt (tgt := 44) hx hb (dg ddX4_hindranceOfBusker 19 rfl) (by decide) (fun h3 => ?_) (fun h3 => ?_)
        · have hf := it_t h3 hf
          refine lv_iconst (v := 0) hx hb (dg ddX4_hindranceOfBusker 25 rfl) (by decide) ?_
          cases hf
          exact e_wi CX hr hlk rfl hP hD hS (dg ddX4_hindranceOfBusker 26 rfl)
        · have hf := it_f h3 hf
          refine lv_aload_n hx hb (dg ddX4_hindranceOfBusker 20 rfl) rfl (lv_at hl 0 rfl) ?_
          refine lv_iconst (v := 1) hx hb (dg ddX4_hindranceOfBusker 21 rfl) (by decide) ?_
          refine lv_bipush (v := 8) hx hb (dg ddX4_hindranceOfBusker 22 rfl) (by decide) ?_
          obtain ⟨r5, e4, hf⟩ := ob_some hf
          refine crw_vi CX hml (As := [.int 1, .int 8]) (rest := []) (c_X4_refuse l D cy q x_isv x_te x_re x_de x_now x_spa x_sna x_len x_sig x_nxt x_cnt x_rng 1 8 _ e4) lk_RX4_345 rfl rfl hRMX4_refuse hP hD hS hA hK hN 0 rfl rfl rfl hl.1 rfl (Nat.le_of_ble_eq_true rfl) ⟨Nat.le_of_ble_eq_true rfl, Nat.le_of_ble_eq_true rfl⟩ (dg ddX4_hindranceOfBusker 23 rfl) (fun H locs hP hD hS => ?_)
          cases hf
          exact e_wi CX hr hlk rfl hP hD hS (dg ddX4_hindranceOfBusker 24 rfl)
      · have hf := it_f h2 hf
        refine lv_iconst (v := 2) hx hb (dg ddX4_hindranceOfBusker 13 rfl) (by decide) ?_
        cases hf
        exact e_wi CX hr hlk rfl hP hD hS (dg ddX4_hindranceOfBusker 14 rfl)
  refine lv_iload_n hx hb (dg ddX4_hindranceOfBusker 0 rfl) rfl (lv_at hl 1 rfl) ?_
  refine lv_if_eq (tgt := 11) hx hb (dg ddX4_hindranceOfBusker 1 rfl) (by decide) (fun h1 => ?_) (fun h1 => ?_)
  · have hf := it_t h1 hf
    exact K11  x_re x_de _ _ hP hD hS _ (lv_sub hl [0, 2] rfl) hf
  · have hf := it_f h1 hf
    refine lv_iload_n hx hb (dg ddX4_hindranceOfBusker 2 rfl) rfl (lv_at hl 1 rfl) ?_
    refine lv_iconst (v := 1) hx hb (dg ddX4_hindranceOfBusker 3 rfl) (by decide) ?_
    refine lv_icmp_eq (tgt := 11) hx hb (dg ddX4_hindranceOfBusker 4 rfl) (by decide) (fun h2 => ?_) (fun h2 => ?_)
    · have hf := it_t h2 hf
      exact K11  x_re x_de _ _ hP hD hS _ (lv_sub hl [0, 2] rfl) hf
    · have hf := it_f h2 hf
      refine lv_iconst (v := 2) hx hb (dg ddX4_hindranceOfBusker 5 rfl) (by decide) ?_
      cases hf
      exact e_wi CX hr hlk rfl hP hD hS (dg ddX4_hindranceOfBusker 6 rfl)
def f_X4_hindranceOfJoin (x_re : Int32) (x_de : Int32) (x_now : SV) (a1 : Int32) : Option (Int32 × Int32 × Int32) := ob (f_X3_hasBusker (g_buskers x_now) a1) fun r2 => (if r2 = 0 then (some (1, x_re, x_de)) else (og (inb a1 8) (if ((g_pla x_now) a1.toNatClampNeg) = (-1) then (og (inb a1 8) (if ((g_pit x_now) a1.toNatClampNeg) = (-1) then (ob (f_X3_isSnapped (g_wea x_now) a1) fun r9 => (if r9 = 0 then (some (0, x_re, x_de)) else (ob (f_X4_refuse x_re x_de 4 a1) fun r12 => (some (r12.1, r12.2.1, r12.2.2))))) else (og (inb a1 8) (ob (f_X4_refuse x_re x_de 3 ((g_pit x_now) a1.toNatClampNeg)) fun r15 => (some (r15.1, r15.2.1, r15.2.2)))))) else (og (inb a1 8) (ob (f_X4_refuse x_re x_de 2 ((g_pla x_now) a1.toNatClampNeg)) fun r18 => (some (r18.1, r18.2.1, r18.2.2)))))))
set_option maxHeartbeats 4000000 in
set_option maxRecDepth 100000 in
theorem c_X4_hindranceOfJoin (l : Launch) (D : va_G) (cy : Nat → ClassId) (q : Nat → Nat → Nat) (x_isv : Int32) (x_te : Int32) (x_re : Int32) (x_de : Int32) (x_now : SV) (x_spa : SV) (x_sna : SV) (x_len : Int32) (x_sig : Nat → Int32) (x_nxt : Int32) (x_cnt : Int32) (x_rng : Nat → SV) (a1 : Int32) (sz : Nat) {res : Int32 × Int32 × Int32} (hf : f_X4_hindranceOfJoin x_re x_de x_now a1 = some res) : Met l yX4_hindranceOfJoin (.code yX4_hindranceOfJoin cX4_hindranceOfJoin 2 (some .int) :: lw_all) { frames := 2, cells := 0, slots := 0, locals := 34 } (va_Pc [.ref (q 0 0), .int a1] (sW D cy (wX4 q cy x_isv x_te x_re x_de x_now x_spa x_sna x_len x_sig x_nxt x_cnt x_rng) sz)) (qI D (wX4 q cy x_isv x_te res.2.1 res.2.2 x_now x_spa x_sna x_len x_sig x_nxt x_cnt x_rng) res.1 (va_A (wX4 q cy x_isv x_te x_re x_de x_now x_spa x_sna x_len x_sig x_nxt x_cnt x_rng) sz)) 0 0 (va_A (wX4 q cy x_isv x_te x_re x_de x_now x_spa x_sna x_len x_sig x_nxt x_cnt x_rng) sz) := by
  refine mk_rw (Qc := qI D (wX4 q cy x_isv x_te res.2.1 res.2.2 x_now x_spa x_sna x_len x_sig x_nxt x_cnt x_rng) res.1) (Rc := RX4) (by decide +kernel) rfl (Nat.le_of_ble_eq_true rfl) ?_
  intro p e s m args below meth c ls A CX hml hr hlk hK hN hP hD hS hA hl
  have hx := CX.1
  have hb := CX.2.1
  have hRMX3_hasBusker : (⟨1, 0, 0, 12⟩ : Room).frames + 1 ≤ (⟨2, 0, 0, 34⟩ : Room).frames ∧ 8 + (2 + 11) + (⟨1, 0, 0, 12⟩ : Room).locals ≤ (⟨2, 0, 0, 34⟩ : Room).locals := ⟨Nat.le_of_ble_eq_true rfl, Nat.le_of_ble_eq_true rfl⟩
  have hRMX3_isSnapped : (⟨1, 0, 0, 12⟩ : Room).frames + 1 ≤ (⟨2, 0, 0, 34⟩ : Room).frames ∧ 8 + (2 + 11) + (⟨1, 0, 0, 12⟩ : Room).locals ≤ (⟨2, 0, 0, 34⟩ : Room).locals := ⟨Nat.le_of_ble_eq_true rfl, Nat.le_of_ble_eq_true rfl⟩
  have hRMX4_refuse : (⟨1, 0, 0, 12⟩ : Room).frames + 1 ≤ (⟨2, 0, 0, 34⟩ : Room).frames ∧ 8 + (3 + 11) + (⟨1, 0, 0, 12⟩ : Room).locals ≤ (⟨2, 0, 0, 34⟩ : Room).locals := ⟨Nat.le_of_ble_eq_true rfl, Nat.le_of_ble_eq_true rfl⟩
  refine lv_aload_n hx hb (dg ddX4_hindranceOfJoin 0 rfl) rfl (lv_at hl 0 rfl) ?_
  refine gf_RX4_10 CX hK hP 0 rfl rfl (dg ddX4_hindranceOfJoin 1 rfl) ?_
  refine lv_iload_n hx hb (dg ddX4_hindranceOfJoin 2 rfl) rfl (lv_at hl 1 rfl) ?_
  obtain ⟨r2, e1, hf⟩ := ob_some hf
  refine cro_vi CX hml (As := [.int a1]) (rest := []) (c_X3_hasBusker l D cy (q 1) (g_hour x_now) (g_crowd x_now) (g_buskers x_now) (g_answered x_now) (g_draws x_now) (g_lim x_now) (g_cmp x_now) (g_sof x_now) (g_kin x_now) (g_lou x_now) (g_pit x_now) (g_pla x_now) (g_cas x_now) (g_hrs x_now) (g_nws x_now) (g_hat x_now) (g_wea x_now) (g_row x_now) a1 e1) lk_RX4_224 rfl rfl hRMX3_hasBusker (vaP_l (vaP_perm (pm_n _ _ _ _ _ _) hP)) hK hN 0 rfl rfl rfl hl.1 rfl (Nat.le_of_ble_eq_true rfl) ⟨Nat.le_of_ble_eq_true rfl, Nat.le_of_ble_eq_true rfl⟩ (dg ddX4_hindranceOfJoin 3 rfl) ?_
  refine lv_if_ne (tgt := 13) hx hb (dg ddX4_hindranceOfJoin 4 rfl) (by decide) (fun h3 => ?_) (fun h3 => ?_)
  · have hf := it_f h3 hf
    refine lv_aload_n hx hb (dg ddX4_hindranceOfJoin 7 rfl) rfl (lv_at hl 0 rfl) ?_
    refine gf_RX4_10 CX hK hP 0 rfl rfl (dg ddX4_hindranceOfJoin 8 rfl) ?_
    refine gf_RX4_98 CX hK hP 1 rfl rfl (dg ddX4_hindranceOfJoin 9 rfl) ?_
    refine lv_iload_n hx hb (dg ddX4_hindranceOfJoin 10 rfl) rfl (lv_at hl 1 rfl) ?_
    obtain ⟨h4, hf⟩ := og_some hf
    refine va_iald hx hb hK hP 8 0 rfl rfl (inb_in h4) (dg ddX4_hindranceOfJoin 11 rfl) ?_
    refine lv_iconst (v := (-1)) hx hb (dg ddX4_hindranceOfJoin 12 rfl) (by decide) ?_
    refine lv_icmp_eq (tgt := 41) hx hb (dg ddX4_hindranceOfJoin 13 rfl) (by decide) (fun h5 => ?_) (fun h5 => ?_)
    · have hf := it_t h5 hf
      refine lv_aload_n hx hb (dg ddX4_hindranceOfJoin 23 rfl) rfl (lv_at hl 0 rfl) ?_
      refine gf_RX4_10 CX hK hP 0 rfl rfl (dg ddX4_hindranceOfJoin 24 rfl) ?_
      refine gf_RX4_95 CX hK hP 1 rfl rfl (dg ddX4_hindranceOfJoin 25 rfl) ?_
      refine lv_iload_n hx hb (dg ddX4_hindranceOfJoin 26 rfl) rfl (lv_at hl 1 rfl) ?_
      obtain ⟨h6, hf⟩ := og_some hf
      refine va_iald hx hb hK hP 7 0 rfl rfl (inb_in h6) (dg ddX4_hindranceOfJoin 27 rfl) ?_
      refine lv_iconst (v := (-1)) hx hb (dg ddX4_hindranceOfJoin 28 rfl) (by decide) ?_
      refine lv_icmp_eq (tgt := 69) hx hb (dg ddX4_hindranceOfJoin 29 rfl) (by decide) (fun h7 => ?_) (fun h7 => ?_)
      · have hf := it_t h7 hf
        refine lv_aload_n hx hb (dg ddX4_hindranceOfJoin 39 rfl) rfl (lv_at hl 0 rfl) ?_
        refine gf_RX4_10 CX hK hP 0 rfl rfl (dg ddX4_hindranceOfJoin 40 rfl) ?_
        refine lv_iload_n hx hb (dg ddX4_hindranceOfJoin 41 rfl) rfl (lv_at hl 1 rfl) ?_
        obtain ⟨r9, e8, hf⟩ := ob_some hf
        refine cro_vi CX hml (As := [.int a1]) (rest := []) (c_X3_isSnapped l D cy (q 1) (g_hour x_now) (g_crowd x_now) (g_buskers x_now) (g_answered x_now) (g_draws x_now) (g_lim x_now) (g_cmp x_now) (g_sof x_now) (g_kin x_now) (g_lou x_now) (g_pit x_now) (g_pla x_now) (g_cas x_now) (g_hrs x_now) (g_nws x_now) (g_hat x_now) (g_wea x_now) (g_row x_now) a1 e8) lk_RX4_348 rfl rfl hRMX3_isSnapped (vaP_l (vaP_perm (pm_n _ _ _ _ _ _) hP)) hK hN 0 rfl rfl rfl hl.1 rfl (Nat.le_of_ble_eq_true rfl) ⟨Nat.le_of_ble_eq_true rfl, Nat.le_of_ble_eq_true rfl⟩ (dg ddX4_hindranceOfJoin 42 rfl) ?_
        refine lv_if_eq (tgt := 87) hx hb (dg ddX4_hindranceOfJoin 43 rfl) (by decide) (fun h10 => ?_) (fun h10 => ?_)
        · have hf := it_t h10 hf
          refine lv_iconst (v := 0) hx hb (dg ddX4_hindranceOfJoin 49 rfl) (by decide) ?_
          cases hf
          exact e_wi CX hr hlk rfl hP hD hS (dg ddX4_hindranceOfJoin 50 rfl)
        · have hf := it_f h10 hf
          refine lv_aload_n hx hb (dg ddX4_hindranceOfJoin 44 rfl) rfl (lv_at hl 0 rfl) ?_
          refine lv_iconst (v := 4) hx hb (dg ddX4_hindranceOfJoin 45 rfl) (by decide) ?_
          refine lv_iload_n hx hb (dg ddX4_hindranceOfJoin 46 rfl) rfl (lv_at hl 1 rfl) ?_
          obtain ⟨r12, e11, hf⟩ := ob_some hf
          refine crw_vi CX hml (As := [.int 4, .int a1]) (rest := []) (c_X4_refuse l D cy q x_isv x_te x_re x_de x_now x_spa x_sna x_len x_sig x_nxt x_cnt x_rng 4 a1 _ e11) lk_RX4_345 rfl rfl hRMX4_refuse hP hD hS hA hK hN 0 rfl rfl rfl hl.1 rfl (Nat.le_of_ble_eq_true rfl) ⟨Nat.le_of_ble_eq_true rfl, Nat.le_of_ble_eq_true rfl⟩ (dg ddX4_hindranceOfJoin 47 rfl) (fun H locs hP hD hS => ?_)
          cases hf
          exact e_wi CX hr hlk rfl hP hD hS (dg ddX4_hindranceOfJoin 48 rfl)
      · have hf := it_f h7 hf
        refine lv_aload_n hx hb (dg ddX4_hindranceOfJoin 30 rfl) rfl (lv_at hl 0 rfl) ?_
        refine lv_iconst (v := 3) hx hb (dg ddX4_hindranceOfJoin 31 rfl) (by decide) ?_
        refine lv_aload_n hx hb (dg ddX4_hindranceOfJoin 32 rfl) rfl (lv_at hl 0 rfl) ?_
        refine gf_RX4_10 CX hK hP 0 rfl rfl (dg ddX4_hindranceOfJoin 33 rfl) ?_
        refine gf_RX4_95 CX hK hP 1 rfl rfl (dg ddX4_hindranceOfJoin 34 rfl) ?_
        refine lv_iload_n hx hb (dg ddX4_hindranceOfJoin 35 rfl) rfl (lv_at hl 1 rfl) ?_
        obtain ⟨h13, hf⟩ := og_some hf
        refine va_iald hx hb hK hP 7 0 rfl rfl (inb_in h13) (dg ddX4_hindranceOfJoin 36 rfl) ?_
        obtain ⟨r15, e14, hf⟩ := ob_some hf
        refine crw_vi CX hml (As := [.int 3, .int ((g_pit x_now) a1.toNatClampNeg)]) (rest := []) (c_X4_refuse l D cy q x_isv x_te x_re x_de x_now x_spa x_sna x_len x_sig x_nxt x_cnt x_rng 3 ((g_pit x_now) a1.toNatClampNeg) _ e14) lk_RX4_345 rfl rfl hRMX4_refuse hP hD hS hA hK hN 0 rfl rfl rfl hl.1 rfl (Nat.le_of_ble_eq_true rfl) ⟨Nat.le_of_ble_eq_true rfl, Nat.le_of_ble_eq_true rfl⟩ (dg ddX4_hindranceOfJoin 37 rfl) (fun H locs hP hD hS => ?_)
        cases hf
        exact e_wi CX hr hlk rfl hP hD hS (dg ddX4_hindranceOfJoin 38 rfl)
    · have hf := it_f h5 hf
      refine lv_aload_n hx hb (dg ddX4_hindranceOfJoin 14 rfl) rfl (lv_at hl 0 rfl) ?_
      refine lv_iconst (v := 2) hx hb (dg ddX4_hindranceOfJoin 15 rfl) (by decide) ?_
      refine lv_aload_n hx hb (dg ddX4_hindranceOfJoin 16 rfl) rfl (lv_at hl 0 rfl) ?_
      refine gf_RX4_10 CX hK hP 0 rfl rfl (dg ddX4_hindranceOfJoin 17 rfl) ?_
      refine gf_RX4_98 CX hK hP 1 rfl rfl (dg ddX4_hindranceOfJoin 18 rfl) ?_
      refine lv_iload_n hx hb (dg ddX4_hindranceOfJoin 19 rfl) rfl (lv_at hl 1 rfl) ?_
      obtain ⟨h16, hf⟩ := og_some hf
      refine va_iald hx hb hK hP 8 0 rfl rfl (inb_in h16) (dg ddX4_hindranceOfJoin 20 rfl) ?_
      obtain ⟨r18, e17, hf⟩ := ob_some hf
      refine crw_vi CX hml (As := [.int 2, .int ((g_pla x_now) a1.toNatClampNeg)]) (rest := []) (c_X4_refuse l D cy q x_isv x_te x_re x_de x_now x_spa x_sna x_len x_sig x_nxt x_cnt x_rng 2 ((g_pla x_now) a1.toNatClampNeg) _ e17) lk_RX4_345 rfl rfl hRMX4_refuse hP hD hS hA hK hN 0 rfl rfl rfl hl.1 rfl (Nat.le_of_ble_eq_true rfl) ⟨Nat.le_of_ble_eq_true rfl, Nat.le_of_ble_eq_true rfl⟩ (dg ddX4_hindranceOfJoin 21 rfl) (fun H locs hP hD hS => ?_)
      cases hf
      exact e_wi CX hr hlk rfl hP hD hS (dg ddX4_hindranceOfJoin 22 rfl)
  · have hf := it_t h3 hf
    refine lv_iconst (v := 1) hx hb (dg ddX4_hindranceOfJoin 5 rfl) (by decide) ?_
    cases hf
    exact e_wi CX hr hlk rfl hP hD hS (dg ddX4_hindranceOfJoin 6 rfl)
def f_X4_hindranceOfDraw (x_re : Int32) (x_de : Int32) (x_now : SV) (a1 : Int32) (a2 : Int32) : Option (Int32 × Int32 × Int32) := ob (f_X4_isPitch a1) fun r2 => (if r2 = 0 then (some (1, x_re, x_de)) else (if a2 < 0 then (some (2, x_re, x_de)) else (if a2 ≤ 99 then (ob (f_X3_playerOn (g_pit x_now) a1) fun r7 => (if r7 = (-1) then (ob (f_X3_countWaiting (g_pla x_now)) fun r10 => (if r10 = 0 then (ob (f_X4_refuse x_re x_de 6 0) fun r13 => (some (r13.1, r13.2.1, r13.2.2))) else (some (0, x_re, x_de)))) else (ob (f_X3_playerOn (g_pit x_now) a1) fun r15 => (ob (f_X4_refuse x_re x_de 5 r15) fun r17 => (some (r17.1, r17.2.1, r17.2.2)))))) else (some (2, x_re, x_de)))))
set_option maxHeartbeats 4000000 in
set_option maxRecDepth 100000 in
theorem c_X4_hindranceOfDraw (l : Launch) (D : va_G) (cy : Nat → ClassId) (q : Nat → Nat → Nat) (x_isv : Int32) (x_te : Int32) (x_re : Int32) (x_de : Int32) (x_now : SV) (x_spa : SV) (x_sna : SV) (x_len : Int32) (x_sig : Nat → Int32) (x_nxt : Int32) (x_cnt : Int32) (x_rng : Nat → SV) (a1 : Int32) (a2 : Int32) (sz : Nat) {res : Int32 × Int32 × Int32} (hf : f_X4_hindranceOfDraw x_re x_de x_now a1 a2 = some res) : Met l yX4_hindranceOfDraw (.code yX4_hindranceOfDraw cX4_hindranceOfDraw 3 (some .int) :: lw_all) { frames := 3, cells := 0, slots := 0, locals := 54 } (va_Pc [.ref (q 0 0), .int a1, .int a2] (sW D cy (wX4 q cy x_isv x_te x_re x_de x_now x_spa x_sna x_len x_sig x_nxt x_cnt x_rng) sz)) (qI D (wX4 q cy x_isv x_te res.2.1 res.2.2 x_now x_spa x_sna x_len x_sig x_nxt x_cnt x_rng) res.1 (va_A (wX4 q cy x_isv x_te x_re x_de x_now x_spa x_sna x_len x_sig x_nxt x_cnt x_rng) sz)) 0 0 (va_A (wX4 q cy x_isv x_te x_re x_de x_now x_spa x_sna x_len x_sig x_nxt x_cnt x_rng) sz) := by
  refine mk_rw (Qc := qI D (wX4 q cy x_isv x_te res.2.1 res.2.2 x_now x_spa x_sna x_len x_sig x_nxt x_cnt x_rng) res.1) (Rc := RX4) (by decide +kernel) rfl (Nat.le_of_ble_eq_true rfl) ?_
  intro p e s m args below meth c ls A CX hml hr hlk hK hN hP hD hS hA hl
  have hx := CX.1
  have hb := CX.2.1
  have hRMX3_countWaiting : (⟨1, 0, 0, 12⟩ : Room).frames + 1 ≤ (⟨3, 0, 0, 54⟩ : Room).frames ∧ 8 + (6 + 11) + (⟨1, 0, 0, 12⟩ : Room).locals ≤ (⟨3, 0, 0, 54⟩ : Room).locals := ⟨Nat.le_of_ble_eq_true rfl, Nat.le_of_ble_eq_true rfl⟩
  have hRMX3_playerOn : (⟨2, 0, 0, 32⟩ : Room).frames + 1 ≤ (⟨3, 0, 0, 54⟩ : Room).frames ∧ 8 + (3 + 11) + (⟨2, 0, 0, 32⟩ : Room).locals ≤ (⟨3, 0, 0, 54⟩ : Room).locals := ⟨Nat.le_of_ble_eq_true rfl, Nat.le_of_ble_eq_true rfl⟩
  have hRMX4_isPitch : (⟨1, 0, 0, 12⟩ : Room).frames + 1 ≤ (⟨3, 0, 0, 54⟩ : Room).frames ∧ 8 + (1 + 11) + (⟨1, 0, 0, 12⟩ : Room).locals ≤ (⟨3, 0, 0, 54⟩ : Room).locals := ⟨Nat.le_of_ble_eq_true rfl, Nat.le_of_ble_eq_true rfl⟩
  have hRMX4_refuse : (⟨1, 0, 0, 12⟩ : Room).frames + 1 ≤ (⟨3, 0, 0, 54⟩ : Room).frames ∧ 8 + (3 + 11) + (⟨1, 0, 0, 12⟩ : Room).locals ≤ (⟨3, 0, 0, 54⟩ : Room).locals := ⟨Nat.le_of_ble_eq_true rfl, Nat.le_of_ble_eq_true rfl⟩
  refine lv_iload_n hx hb (dg ddX4_hindranceOfDraw 0 rfl) rfl (lv_at hl 1 rfl) ?_
  obtain ⟨r2, e1, hf⟩ := ob_some hf
  refine cro_si CX hml (As := [.int a1]) (rest := []) (c_X4_isPitch l D cy a1 e1) lk_RX4_338 rfl rfl hRMX4_isPitch vaP_nil hK hN rfl hl.1 rfl (Nat.le_of_ble_eq_true rfl) ⟨Nat.le_of_ble_eq_true rfl, Nat.le_of_ble_eq_true rfl⟩ (dg ddX4_hindranceOfDraw 1 rfl) ?_
  refine lv_if_ne (tgt := 9) hx hb (dg ddX4_hindranceOfDraw 2 rfl) (by decide) (fun h3 => ?_) (fun h3 => ?_)
  · have hf := it_f h3 hf
    refine lv_iload_n hx hb (dg ddX4_hindranceOfDraw 5 rfl) rfl (lv_at hl 2 rfl) ?_
    refine lv_if_lt (tgt := 19) hx hb (dg ddX4_hindranceOfDraw 6 rfl) (by decide) (fun h4 => ?_) (fun h4 => ?_)
    · have hf := it_t h4 hf
      refine lv_iconst (v := 2) hx hb (dg ddX4_hindranceOfDraw 10 rfl) (by decide) ?_
      cases hf
      exact e_wi CX hr hlk rfl hP hD hS (dg ddX4_hindranceOfDraw 11 rfl)
    · have hf := it_f h4 hf
      refine lv_iload_n hx hb (dg ddX4_hindranceOfDraw 7 rfl) rfl (lv_at hl 2 rfl) ?_
      refine lv_bipush (v := 99) hx hb (dg ddX4_hindranceOfDraw 8 rfl) (by decide) ?_
      refine lv_icmp_le (tgt := 21) hx hb (dg ddX4_hindranceOfDraw 9 rfl) (by decide) (fun h5 => ?_) (fun h5 => ?_)
      · have hf := it_t h5 hf
        refine lv_aload_n hx hb (dg ddX4_hindranceOfDraw 12 rfl) rfl (lv_at hl 0 rfl) ?_
        refine gf_RX4_10 CX hK hP 0 rfl rfl (dg ddX4_hindranceOfDraw 13 rfl) ?_
        refine lv_iload_n hx hb (dg ddX4_hindranceOfDraw 14 rfl) rfl (lv_at hl 1 rfl) ?_
        obtain ⟨r7, e6, hf⟩ := ob_some hf
        refine cro_vi CX hml (As := [.int a1]) (rest := []) (c_X3_playerOn l D cy (q 1) (g_hour x_now) (g_crowd x_now) (g_buskers x_now) (g_answered x_now) (g_draws x_now) (g_lim x_now) (g_cmp x_now) (g_sof x_now) (g_kin x_now) (g_lou x_now) (g_pit x_now) (g_pla x_now) (g_cas x_now) (g_hrs x_now) (g_nws x_now) (g_hat x_now) (g_wea x_now) (g_row x_now) a1 e6) lk_RX4_126 rfl rfl hRMX3_playerOn (vaP_l (vaP_perm (pm_n _ _ _ _ _ _) hP)) hK hN 0 rfl rfl rfl hl.1 rfl (Nat.le_of_ble_eq_true rfl) ⟨Nat.le_of_ble_eq_true rfl, Nat.le_of_ble_eq_true rfl⟩ (dg ddX4_hindranceOfDraw 15 rfl) ?_
        refine lv_iconst (v := (-1)) hx hb (dg ddX4_hindranceOfDraw 16 rfl) (by decide) ?_
        refine lv_icmp_eq (tgt := 47) hx hb (dg ddX4_hindranceOfDraw 17 rfl) (by decide) (fun h8 => ?_) (fun h8 => ?_)
        · have hf := it_t h8 hf
          refine lv_aload_n hx hb (dg ddX4_hindranceOfDraw 26 rfl) rfl (lv_at hl 0 rfl) ?_
          refine gf_RX4_10 CX hK hP 0 rfl rfl (dg ddX4_hindranceOfDraw 27 rfl) ?_
          obtain ⟨r10, e9, hf⟩ := ob_some hf
          refine cro_vi CX hml (As := []) (rest := []) (c_X3_countWaiting l D cy (q 1) (g_hour x_now) (g_crowd x_now) (g_buskers x_now) (g_answered x_now) (g_draws x_now) (g_lim x_now) (g_cmp x_now) (g_sof x_now) (g_kin x_now) (g_lou x_now) (g_pit x_now) (g_pla x_now) (g_cas x_now) (g_hrs x_now) (g_nws x_now) (g_hat x_now) (g_wea x_now) (g_row x_now)  e9) lk_RX4_285 rfl rfl hRMX3_countWaiting (vaP_l (vaP_perm (pm_n _ _ _ _ _ _) hP)) hK hN 0 rfl rfl rfl hl.1 rfl (Nat.le_of_ble_eq_true rfl) ⟨Nat.le_of_ble_eq_true rfl, Nat.le_of_ble_eq_true rfl⟩ (dg ddX4_hindranceOfDraw 28 rfl) ?_
          refine lv_if_ne (tgt := 65) hx hb (dg ddX4_hindranceOfDraw 29 rfl) (by decide) (fun h11 => ?_) (fun h11 => ?_)
          · have hf := it_f h11 hf
            refine lv_iconst (v := 0) hx hb (dg ddX4_hindranceOfDraw 35 rfl) (by decide) ?_
            cases hf
            exact e_wi CX hr hlk rfl hP hD hS (dg ddX4_hindranceOfDraw 36 rfl)
          · have hf := it_t h11 hf
            refine lv_aload_n hx hb (dg ddX4_hindranceOfDraw 30 rfl) rfl (lv_at hl 0 rfl) ?_
            refine lv_bipush (v := 6) hx hb (dg ddX4_hindranceOfDraw 31 rfl) (by decide) ?_
            refine lv_iconst (v := 0) hx hb (dg ddX4_hindranceOfDraw 32 rfl) (by decide) ?_
            obtain ⟨r13, e12, hf⟩ := ob_some hf
            refine crw_vi CX hml (As := [.int 6, .int 0]) (rest := []) (c_X4_refuse l D cy q x_isv x_te x_re x_de x_now x_spa x_sna x_len x_sig x_nxt x_cnt x_rng 6 0 _ e12) lk_RX4_345 rfl rfl hRMX4_refuse hP hD hS hA hK hN 0 rfl rfl rfl hl.1 rfl (Nat.le_of_ble_eq_true rfl) ⟨Nat.le_of_ble_eq_true rfl, Nat.le_of_ble_eq_true rfl⟩ (dg ddX4_hindranceOfDraw 33 rfl) (fun H locs hP hD hS => ?_)
            cases hf
            exact e_wi CX hr hlk rfl hP hD hS (dg ddX4_hindranceOfDraw 34 rfl)
        · have hf := it_f h8 hf
          refine lv_aload_n hx hb (dg ddX4_hindranceOfDraw 18 rfl) rfl (lv_at hl 0 rfl) ?_
          refine lv_iconst (v := 5) hx hb (dg ddX4_hindranceOfDraw 19 rfl) (by decide) ?_
          refine lv_aload_n hx hb (dg ddX4_hindranceOfDraw 20 rfl) rfl (lv_at hl 0 rfl) ?_
          refine gf_RX4_10 CX hK hP 0 rfl rfl (dg ddX4_hindranceOfDraw 21 rfl) ?_
          refine lv_iload_n hx hb (dg ddX4_hindranceOfDraw 22 rfl) rfl (lv_at hl 1 rfl) ?_
          obtain ⟨r15, e14, hf⟩ := ob_some hf
          refine cro_vi CX hml (As := [.int a1]) (rest := [.int 5, .ref (q 0 0)]) (c_X3_playerOn l D cy (q 1) (g_hour x_now) (g_crowd x_now) (g_buskers x_now) (g_answered x_now) (g_draws x_now) (g_lim x_now) (g_cmp x_now) (g_sof x_now) (g_kin x_now) (g_lou x_now) (g_pit x_now) (g_pla x_now) (g_cas x_now) (g_hrs x_now) (g_nws x_now) (g_hat x_now) (g_wea x_now) (g_row x_now) a1 e14) lk_RX4_126 rfl rfl hRMX3_playerOn (vaP_l (vaP_perm (pm_n _ _ _ _ _ _) hP)) hK hN 0 rfl rfl rfl hl.1 rfl (Nat.le_of_ble_eq_true rfl) ⟨Nat.le_of_ble_eq_true rfl, Nat.le_of_ble_eq_true rfl⟩ (dg ddX4_hindranceOfDraw 23 rfl) ?_
          obtain ⟨r17, e16, hf⟩ := ob_some hf
          refine crw_vi CX hml (As := [.int 5, .int r15]) (rest := []) (c_X4_refuse l D cy q x_isv x_te x_re x_de x_now x_spa x_sna x_len x_sig x_nxt x_cnt x_rng 5 r15 _ e16) lk_RX4_345 rfl rfl hRMX4_refuse hP hD hS hA hK hN 0 rfl rfl rfl hl.1 rfl (Nat.le_of_ble_eq_true rfl) ⟨Nat.le_of_ble_eq_true rfl, Nat.le_of_ble_eq_true rfl⟩ (dg ddX4_hindranceOfDraw 24 rfl) (fun H locs hP hD hS => ?_)
          cases hf
          exact e_wi CX hr hlk rfl hP hD hS (dg ddX4_hindranceOfDraw 25 rfl)
      · have hf := it_f h5 hf
        refine lv_iconst (v := 2) hx hb (dg ddX4_hindranceOfDraw 10 rfl) (by decide) ?_
        cases hf
        exact e_wi CX hr hlk rfl hP hD hS (dg ddX4_hindranceOfDraw 11 rfl)
  · have hf := it_t h3 hf
    refine lv_iconst (v := 1) hx hb (dg ddX4_hindranceOfDraw 3 rfl) (by decide) ?_
    cases hf
    exact e_wi CX hr hlk rfl hP hD hS (dg ddX4_hindranceOfDraw 4 rfl)
def f_X4_hindranceOfLeave (x_re : Int32) (x_de : Int32) (x_now : SV) (a1 : Int32) : Option (Int32 × Int32 × Int32) := ob (f_X4_isPitch a1) fun r2 => (if r2 = 0 then (some (1, x_re, x_de)) else (ob (f_X3_playerOn (g_pit x_now) a1) fun r5 => (if r5 = (-1) then (ob (f_X4_refuse x_re x_de 7 a1) fun r8 => (some (r8.1, r8.2.1, r8.2.2))) else (some (0, x_re, x_de)))))
set_option maxHeartbeats 4000000 in
set_option maxRecDepth 100000 in
theorem c_X4_hindranceOfLeave (l : Launch) (D : va_G) (cy : Nat → ClassId) (q : Nat → Nat → Nat) (x_isv : Int32) (x_te : Int32) (x_re : Int32) (x_de : Int32) (x_now : SV) (x_spa : SV) (x_sna : SV) (x_len : Int32) (x_sig : Nat → Int32) (x_nxt : Int32) (x_cnt : Int32) (x_rng : Nat → SV) (a1 : Int32) (sz : Nat) {res : Int32 × Int32 × Int32} (hf : f_X4_hindranceOfLeave x_re x_de x_now a1 = some res) : Met l yX4_hindranceOfLeave (.code yX4_hindranceOfLeave cX4_hindranceOfLeave 2 (some .int) :: lw_all) { frames := 3, cells := 0, slots := 0, locals := 54 } (va_Pc [.ref (q 0 0), .int a1] (sW D cy (wX4 q cy x_isv x_te x_re x_de x_now x_spa x_sna x_len x_sig x_nxt x_cnt x_rng) sz)) (qI D (wX4 q cy x_isv x_te res.2.1 res.2.2 x_now x_spa x_sna x_len x_sig x_nxt x_cnt x_rng) res.1 (va_A (wX4 q cy x_isv x_te x_re x_de x_now x_spa x_sna x_len x_sig x_nxt x_cnt x_rng) sz)) 0 0 (va_A (wX4 q cy x_isv x_te x_re x_de x_now x_spa x_sna x_len x_sig x_nxt x_cnt x_rng) sz) := by
  refine mk_rw (Qc := qI D (wX4 q cy x_isv x_te res.2.1 res.2.2 x_now x_spa x_sna x_len x_sig x_nxt x_cnt x_rng) res.1) (Rc := RX4) (by decide +kernel) rfl (Nat.le_of_ble_eq_true rfl) ?_
  intro p e s m args below meth c ls A CX hml hr hlk hK hN hP hD hS hA hl
  have hx := CX.1
  have hb := CX.2.1
  have hRMX3_playerOn : (⟨2, 0, 0, 32⟩ : Room).frames + 1 ≤ (⟨3, 0, 0, 54⟩ : Room).frames ∧ 8 + (3 + 11) + (⟨2, 0, 0, 32⟩ : Room).locals ≤ (⟨3, 0, 0, 54⟩ : Room).locals := ⟨Nat.le_of_ble_eq_true rfl, Nat.le_of_ble_eq_true rfl⟩
  have hRMX4_isPitch : (⟨1, 0, 0, 12⟩ : Room).frames + 1 ≤ (⟨3, 0, 0, 54⟩ : Room).frames ∧ 8 + (1 + 11) + (⟨1, 0, 0, 12⟩ : Room).locals ≤ (⟨3, 0, 0, 54⟩ : Room).locals := ⟨Nat.le_of_ble_eq_true rfl, Nat.le_of_ble_eq_true rfl⟩
  have hRMX4_refuse : (⟨1, 0, 0, 12⟩ : Room).frames + 1 ≤ (⟨3, 0, 0, 54⟩ : Room).frames ∧ 8 + (3 + 11) + (⟨1, 0, 0, 12⟩ : Room).locals ≤ (⟨3, 0, 0, 54⟩ : Room).locals := ⟨Nat.le_of_ble_eq_true rfl, Nat.le_of_ble_eq_true rfl⟩
  refine lv_iload_n hx hb (dg ddX4_hindranceOfLeave 0 rfl) rfl (lv_at hl 1 rfl) ?_
  obtain ⟨r2, e1, hf⟩ := ob_some hf
  refine cro_si CX hml (As := [.int a1]) (rest := []) (c_X4_isPitch l D cy a1 e1) lk_RX4_338 rfl rfl hRMX4_isPitch vaP_nil hK hN rfl hl.1 rfl (Nat.le_of_ble_eq_true rfl) ⟨Nat.le_of_ble_eq_true rfl, Nat.le_of_ble_eq_true rfl⟩ (dg ddX4_hindranceOfLeave 1 rfl) ?_
  refine lv_if_ne (tgt := 9) hx hb (dg ddX4_hindranceOfLeave 2 rfl) (by decide) (fun h3 => ?_) (fun h3 => ?_)
  · have hf := it_f h3 hf
    refine lv_aload_n hx hb (dg ddX4_hindranceOfLeave 5 rfl) rfl (lv_at hl 0 rfl) ?_
    refine gf_RX4_10 CX hK hP 0 rfl rfl (dg ddX4_hindranceOfLeave 6 rfl) ?_
    refine lv_iload_n hx hb (dg ddX4_hindranceOfLeave 7 rfl) rfl (lv_at hl 1 rfl) ?_
    obtain ⟨r5, e4, hf⟩ := ob_some hf
    refine cro_vi CX hml (As := [.int a1]) (rest := []) (c_X3_playerOn l D cy (q 1) (g_hour x_now) (g_crowd x_now) (g_buskers x_now) (g_answered x_now) (g_draws x_now) (g_lim x_now) (g_cmp x_now) (g_sof x_now) (g_kin x_now) (g_lou x_now) (g_pit x_now) (g_pla x_now) (g_cas x_now) (g_hrs x_now) (g_nws x_now) (g_hat x_now) (g_wea x_now) (g_row x_now) a1 e4) lk_RX4_126 rfl rfl hRMX3_playerOn (vaP_l (vaP_perm (pm_n _ _ _ _ _ _) hP)) hK hN 0 rfl rfl rfl hl.1 rfl (Nat.le_of_ble_eq_true rfl) ⟨Nat.le_of_ble_eq_true rfl, Nat.le_of_ble_eq_true rfl⟩ (dg ddX4_hindranceOfLeave 8 rfl) ?_
    refine lv_iconst (v := (-1)) hx hb (dg ddX4_hindranceOfLeave 9 rfl) (by decide) ?_
    refine lv_icmp_ne (tgt := 31) hx hb (dg ddX4_hindranceOfLeave 10 rfl) (by decide) (fun h6 => ?_) (fun h6 => ?_)
    · have hf := it_f h6 hf
      refine lv_iconst (v := 0) hx hb (dg ddX4_hindranceOfLeave 16 rfl) (by decide) ?_
      cases hf
      exact e_wi CX hr hlk rfl hP hD hS (dg ddX4_hindranceOfLeave 17 rfl)
    · have hf := it_t h6 hf
      refine lv_aload_n hx hb (dg ddX4_hindranceOfLeave 11 rfl) rfl (lv_at hl 0 rfl) ?_
      refine lv_bipush (v := 7) hx hb (dg ddX4_hindranceOfLeave 12 rfl) (by decide) ?_
      refine lv_iload_n hx hb (dg ddX4_hindranceOfLeave 13 rfl) rfl (lv_at hl 1 rfl) ?_
      obtain ⟨r8, e7, hf⟩ := ob_some hf
      refine crw_vi CX hml (As := [.int 7, .int a1]) (rest := []) (c_X4_refuse l D cy q x_isv x_te x_re x_de x_now x_spa x_sna x_len x_sig x_nxt x_cnt x_rng 7 a1 _ e7) lk_RX4_345 rfl rfl hRMX4_refuse hP hD hS hA hK hN 0 rfl rfl rfl hl.1 rfl (Nat.le_of_ble_eq_true rfl) ⟨Nat.le_of_ble_eq_true rfl, Nat.le_of_ble_eq_true rfl⟩ (dg ddX4_hindranceOfLeave 14 rfl) (fun H locs hP hD hS => ?_)
      refine lv_goto (tgt := 32) hx hb (dg ddX4_hindranceOfLeave 15 rfl) (by decide) ?_
      cases hf
      exact e_wi CX hr hlk rfl hP hD hS (dg ddX4_hindranceOfLeave 17 rfl)
  · have hf := it_t h3 hf
    refine lv_iconst (v := 1) hx hb (dg ddX4_hindranceOfLeave 3 rfl) (by decide) ?_
    cases hf
    exact e_wi CX hr hlk rfl hP hD hS (dg ddX4_hindranceOfLeave 4 rfl)
def f_X4_hindranceOfSwap (x_re : Int32) (x_de : Int32) (x_now : SV) (a1 : Int32) (a2 : Int32) : Option (Int32 × Int32 × Int32) := ob (f_X4_isPitch a1) fun r2 => (if r2 = 0 then (some (1, x_re, x_de)) else (ob (f_X4_isPitch a2) fun r5 => (if r5 = 0 then (some (1, x_re, x_de)) else (ob (f_X3_playerOn (g_pit x_now) a1) fun r8 => (if r8 = (-1) then (ob (f_X4_refuse x_re x_de 7 a1) fun r16 => (some (r16.1, r16.2.1, r16.2.2))) else (ob (f_X3_playerOn (g_pit x_now) a2) fun r11 => (if r11 = (-1) then (ob (f_X4_refuse x_re x_de 7 a2) fun r14 => (some (r14.1, r14.2.1, r14.2.2))) else (some (0, x_re, x_de)))))))))
set_option maxHeartbeats 4000000 in
set_option maxRecDepth 100000 in
theorem c_X4_hindranceOfSwap (l : Launch) (D : va_G) (cy : Nat → ClassId) (q : Nat → Nat → Nat) (x_isv : Int32) (x_te : Int32) (x_re : Int32) (x_de : Int32) (x_now : SV) (x_spa : SV) (x_sna : SV) (x_len : Int32) (x_sig : Nat → Int32) (x_nxt : Int32) (x_cnt : Int32) (x_rng : Nat → SV) (a1 : Int32) (a2 : Int32) (sz : Nat) {res : Int32 × Int32 × Int32} (hf : f_X4_hindranceOfSwap x_re x_de x_now a1 a2 = some res) : Met l yX4_hindranceOfSwap (.code yX4_hindranceOfSwap cX4_hindranceOfSwap 3 (some .int) :: lw_all) { frames := 3, cells := 0, slots := 0, locals := 54 } (va_Pc [.ref (q 0 0), .int a1, .int a2] (sW D cy (wX4 q cy x_isv x_te x_re x_de x_now x_spa x_sna x_len x_sig x_nxt x_cnt x_rng) sz)) (qI D (wX4 q cy x_isv x_te res.2.1 res.2.2 x_now x_spa x_sna x_len x_sig x_nxt x_cnt x_rng) res.1 (va_A (wX4 q cy x_isv x_te x_re x_de x_now x_spa x_sna x_len x_sig x_nxt x_cnt x_rng) sz)) 0 0 (va_A (wX4 q cy x_isv x_te x_re x_de x_now x_spa x_sna x_len x_sig x_nxt x_cnt x_rng) sz) := by
  refine mk_rw (Qc := qI D (wX4 q cy x_isv x_te res.2.1 res.2.2 x_now x_spa x_sna x_len x_sig x_nxt x_cnt x_rng) res.1) (Rc := RX4) (by decide +kernel) rfl (Nat.le_of_ble_eq_true rfl) ?_
  intro p e s m args below meth c ls A CX hml hr hlk hK hN hP hD hS hA hl
  have hx := CX.1
  have hb := CX.2.1
  have hRMX3_playerOn : (⟨2, 0, 0, 32⟩ : Room).frames + 1 ≤ (⟨3, 0, 0, 54⟩ : Room).frames ∧ 8 + (3 + 11) + (⟨2, 0, 0, 32⟩ : Room).locals ≤ (⟨3, 0, 0, 54⟩ : Room).locals := ⟨Nat.le_of_ble_eq_true rfl, Nat.le_of_ble_eq_true rfl⟩
  have hRMX4_isPitch : (⟨1, 0, 0, 12⟩ : Room).frames + 1 ≤ (⟨3, 0, 0, 54⟩ : Room).frames ∧ 8 + (1 + 11) + (⟨1, 0, 0, 12⟩ : Room).locals ≤ (⟨3, 0, 0, 54⟩ : Room).locals := ⟨Nat.le_of_ble_eq_true rfl, Nat.le_of_ble_eq_true rfl⟩
  have hRMX4_refuse : (⟨1, 0, 0, 12⟩ : Room).frames + 1 ≤ (⟨3, 0, 0, 54⟩ : Room).frames ∧ 8 + (3 + 11) + (⟨1, 0, 0, 12⟩ : Room).locals ≤ (⟨3, 0, 0, 54⟩ : Room).locals := ⟨Nat.le_of_ble_eq_true rfl, Nat.le_of_ble_eq_true rfl⟩
  refine lv_iload_n hx hb (dg ddX4_hindranceOfSwap 0 rfl) rfl (lv_at hl 1 rfl) ?_
  obtain ⟨r2, e1, hf⟩ := ob_some hf
  refine cro_si CX hml (As := [.int a1]) (rest := []) (c_X4_isPitch l D cy a1 e1) lk_RX4_338 rfl rfl hRMX4_isPitch vaP_nil hK hN rfl hl.1 rfl (Nat.le_of_ble_eq_true rfl) ⟨Nat.le_of_ble_eq_true rfl, Nat.le_of_ble_eq_true rfl⟩ (dg ddX4_hindranceOfSwap 1 rfl) ?_
  refine lv_if_eq (tgt := 14) hx hb (dg ddX4_hindranceOfSwap 2 rfl) (by decide) (fun h3 => ?_) (fun h3 => ?_)
  · have hf := it_t h3 hf
    refine lv_iconst (v := 1) hx hb (dg ddX4_hindranceOfSwap 6 rfl) (by decide) ?_
    cases hf
    exact e_wi CX hr hlk rfl hP hD hS (dg ddX4_hindranceOfSwap 7 rfl)
  · have hf := it_f h3 hf
    refine lv_iload_n hx hb (dg ddX4_hindranceOfSwap 3 rfl) rfl (lv_at hl 2 rfl) ?_
    obtain ⟨r5, e4, hf⟩ := ob_some hf
    refine cro_si CX hml (As := [.int a2]) (rest := []) (c_X4_isPitch l D cy a2 e4) lk_RX4_338 rfl rfl hRMX4_isPitch vaP_nil hK hN rfl hl.1 rfl (Nat.le_of_ble_eq_true rfl) ⟨Nat.le_of_ble_eq_true rfl, Nat.le_of_ble_eq_true rfl⟩ (dg ddX4_hindranceOfSwap 4 rfl) ?_
    refine lv_if_ne (tgt := 16) hx hb (dg ddX4_hindranceOfSwap 5 rfl) (by decide) (fun h6 => ?_) (fun h6 => ?_)
    · have hf := it_f h6 hf
      refine lv_aload_n hx hb (dg ddX4_hindranceOfSwap 8 rfl) rfl (lv_at hl 0 rfl) ?_
      refine gf_RX4_10 CX hK hP 0 rfl rfl (dg ddX4_hindranceOfSwap 9 rfl) ?_
      refine lv_iload_n hx hb (dg ddX4_hindranceOfSwap 10 rfl) rfl (lv_at hl 1 rfl) ?_
      obtain ⟨r8, e7, hf⟩ := ob_some hf
      refine cro_vi CX hml (As := [.int a1]) (rest := []) (c_X3_playerOn l D cy (q 1) (g_hour x_now) (g_crowd x_now) (g_buskers x_now) (g_answered x_now) (g_draws x_now) (g_lim x_now) (g_cmp x_now) (g_sof x_now) (g_kin x_now) (g_lou x_now) (g_pit x_now) (g_pla x_now) (g_cas x_now) (g_hrs x_now) (g_nws x_now) (g_hat x_now) (g_wea x_now) (g_row x_now) a1 e7) lk_RX4_126 rfl rfl hRMX3_playerOn (vaP_l (vaP_perm (pm_n _ _ _ _ _ _) hP)) hK hN 0 rfl rfl rfl hl.1 rfl (Nat.le_of_ble_eq_true rfl) ⟨Nat.le_of_ble_eq_true rfl, Nat.le_of_ble_eq_true rfl⟩ (dg ddX4_hindranceOfSwap 11 rfl) ?_
      refine lv_iconst (v := (-1)) hx hb (dg ddX4_hindranceOfSwap 12 rfl) (by decide) ?_
      refine lv_icmp_ne (tgt := 36) hx hb (dg ddX4_hindranceOfSwap 13 rfl) (by decide) (fun h9 => ?_) (fun h9 => ?_)
      · have hf := it_f h9 hf
        refine lv_aload_n hx hb (dg ddX4_hindranceOfSwap 19 rfl) rfl (lv_at hl 0 rfl) ?_
        refine gf_RX4_10 CX hK hP 0 rfl rfl (dg ddX4_hindranceOfSwap 20 rfl) ?_
        refine lv_iload_n hx hb (dg ddX4_hindranceOfSwap 21 rfl) rfl (lv_at hl 2 rfl) ?_
        obtain ⟨r11, e10, hf⟩ := ob_some hf
        refine cro_vi CX hml (As := [.int a2]) (rest := []) (c_X3_playerOn l D cy (q 1) (g_hour x_now) (g_crowd x_now) (g_buskers x_now) (g_answered x_now) (g_draws x_now) (g_lim x_now) (g_cmp x_now) (g_sof x_now) (g_kin x_now) (g_lou x_now) (g_pit x_now) (g_pla x_now) (g_cas x_now) (g_hrs x_now) (g_nws x_now) (g_hat x_now) (g_wea x_now) (g_row x_now) a2 e10) lk_RX4_126 rfl rfl hRMX3_playerOn (vaP_l (vaP_perm (pm_n _ _ _ _ _ _) hP)) hK hN 0 rfl rfl rfl hl.1 rfl (Nat.le_of_ble_eq_true rfl) ⟨Nat.le_of_ble_eq_true rfl, Nat.le_of_ble_eq_true rfl⟩ (dg ddX4_hindranceOfSwap 22 rfl) ?_
        refine lv_iconst (v := (-1)) hx hb (dg ddX4_hindranceOfSwap 23 rfl) (by decide) ?_
        refine lv_icmp_ne (tgt := 58) hx hb (dg ddX4_hindranceOfSwap 24 rfl) (by decide) (fun h12 => ?_) (fun h12 => ?_)
        · have hf := it_f h12 hf
          refine lv_iconst (v := 0) hx hb (dg ddX4_hindranceOfSwap 30 rfl) (by decide) ?_
          cases hf
          exact e_wi CX hr hlk rfl hP hD hS (dg ddX4_hindranceOfSwap 31 rfl)
        · have hf := it_t h12 hf
          refine lv_aload_n hx hb (dg ddX4_hindranceOfSwap 25 rfl) rfl (lv_at hl 0 rfl) ?_
          refine lv_bipush (v := 7) hx hb (dg ddX4_hindranceOfSwap 26 rfl) (by decide) ?_
          refine lv_iload_n hx hb (dg ddX4_hindranceOfSwap 27 rfl) rfl (lv_at hl 2 rfl) ?_
          obtain ⟨r14, e13, hf⟩ := ob_some hf
          refine crw_vi CX hml (As := [.int 7, .int a2]) (rest := []) (c_X4_refuse l D cy q x_isv x_te x_re x_de x_now x_spa x_sna x_len x_sig x_nxt x_cnt x_rng 7 a2 _ e13) lk_RX4_345 rfl rfl hRMX4_refuse hP hD hS hA hK hN 0 rfl rfl rfl hl.1 rfl (Nat.le_of_ble_eq_true rfl) ⟨Nat.le_of_ble_eq_true rfl, Nat.le_of_ble_eq_true rfl⟩ (dg ddX4_hindranceOfSwap 28 rfl) (fun H locs hP hD hS => ?_)
          refine lv_goto (tgt := 59) hx hb (dg ddX4_hindranceOfSwap 29 rfl) (by decide) ?_
          cases hf
          exact e_wi CX hr hlk rfl hP hD hS (dg ddX4_hindranceOfSwap 31 rfl)
      · have hf := it_t h9 hf
        refine lv_aload_n hx hb (dg ddX4_hindranceOfSwap 14 rfl) rfl (lv_at hl 0 rfl) ?_
        refine lv_bipush (v := 7) hx hb (dg ddX4_hindranceOfSwap 15 rfl) (by decide) ?_
        refine lv_iload_n hx hb (dg ddX4_hindranceOfSwap 16 rfl) rfl (lv_at hl 1 rfl) ?_
        obtain ⟨r16, e15, hf⟩ := ob_some hf
        refine crw_vi CX hml (As := [.int 7, .int a1]) (rest := []) (c_X4_refuse l D cy q x_isv x_te x_re x_de x_now x_spa x_sna x_len x_sig x_nxt x_cnt x_rng 7 a1 _ e15) lk_RX4_345 rfl rfl hRMX4_refuse hP hD hS hA hK hN 0 rfl rfl rfl hl.1 rfl (Nat.le_of_ble_eq_true rfl) ⟨Nat.le_of_ble_eq_true rfl, Nat.le_of_ble_eq_true rfl⟩ (dg ddX4_hindranceOfSwap 17 rfl) (fun H locs hP hD hS => ?_)
        cases hf
        exact e_wi CX hr hlk rfl hP hD hS (dg ddX4_hindranceOfSwap 18 rfl)
    · have hf := it_t h6 hf
      refine lv_iconst (v := 1) hx hb (dg ddX4_hindranceOfSwap 6 rfl) (by decide) ?_
      cases hf
      exact e_wi CX hr hlk rfl hP hD hS (dg ddX4_hindranceOfSwap 7 rfl)
def f_X4_hindranceOfStrings (x_re : Int32) (x_de : Int32) (x_now : SV) (a1 : Int32) : Option (Int32 × Int32 × Int32) := ob (f_X3_hasBusker (g_buskers x_now) a1) fun r2 => (if r2 = 0 then (some (1, x_re, x_de)) else (og (inb a1 8) (if 0 ≤ (Op.cmpValue (FP.fcmp ((g_hat x_now) a1.toNatClampNeg) FP.fconst2) .g) then (some (0, x_re, x_de)) else (og (inb a1 8) (ob (f_X4_refuse x_re x_de 8 (FP.f2i ((g_hat x_now) a1.toNatClampNeg))) fun r8 => (some (r8.1, r8.2.1, r8.2.2)))))))
set_option maxHeartbeats 4000000 in
set_option maxRecDepth 100000 in
theorem c_X4_hindranceOfStrings (l : Launch) (D : va_G) (cy : Nat → ClassId) (q : Nat → Nat → Nat) (x_isv : Int32) (x_te : Int32) (x_re : Int32) (x_de : Int32) (x_now : SV) (x_spa : SV) (x_sna : SV) (x_len : Int32) (x_sig : Nat → Int32) (x_nxt : Int32) (x_cnt : Int32) (x_rng : Nat → SV) (a1 : Int32) (sz : Nat) {res : Int32 × Int32 × Int32} (hf : f_X4_hindranceOfStrings x_re x_de x_now a1 = some res) : Met l yX4_hindranceOfStrings (.code yX4_hindranceOfStrings cX4_hindranceOfStrings 2 (some .int) :: lw_all) { frames := 2, cells := 0, slots := 0, locals := 34 } (va_Pc [.ref (q 0 0), .int a1] (sW D cy (wX4 q cy x_isv x_te x_re x_de x_now x_spa x_sna x_len x_sig x_nxt x_cnt x_rng) sz)) (qI D (wX4 q cy x_isv x_te res.2.1 res.2.2 x_now x_spa x_sna x_len x_sig x_nxt x_cnt x_rng) res.1 (va_A (wX4 q cy x_isv x_te x_re x_de x_now x_spa x_sna x_len x_sig x_nxt x_cnt x_rng) sz)) 0 0 (va_A (wX4 q cy x_isv x_te x_re x_de x_now x_spa x_sna x_len x_sig x_nxt x_cnt x_rng) sz) := by
  refine mk_rw (Qc := qI D (wX4 q cy x_isv x_te res.2.1 res.2.2 x_now x_spa x_sna x_len x_sig x_nxt x_cnt x_rng) res.1) (Rc := RX4) (by decide +kernel) rfl (Nat.le_of_ble_eq_true rfl) ?_
  intro p e s m args below meth c ls A CX hml hr hlk hK hN hP hD hS hA hl
  have hx := CX.1
  have hb := CX.2.1
  have hRMX3_hasBusker : (⟨1, 0, 0, 12⟩ : Room).frames + 1 ≤ (⟨2, 0, 0, 34⟩ : Room).frames ∧ 8 + (2 + 11) + (⟨1, 0, 0, 12⟩ : Room).locals ≤ (⟨2, 0, 0, 34⟩ : Room).locals := ⟨Nat.le_of_ble_eq_true rfl, Nat.le_of_ble_eq_true rfl⟩
  have hRMX4_refuse : (⟨1, 0, 0, 12⟩ : Room).frames + 1 ≤ (⟨2, 0, 0, 34⟩ : Room).frames ∧ 8 + (3 + 11) + (⟨1, 0, 0, 12⟩ : Room).locals ≤ (⟨2, 0, 0, 34⟩ : Room).locals := ⟨Nat.le_of_ble_eq_true rfl, Nat.le_of_ble_eq_true rfl⟩
  refine lv_aload_n hx hb (dg ddX4_hindranceOfStrings 0 rfl) rfl (lv_at hl 0 rfl) ?_
  refine gf_RX4_10 CX hK hP 0 rfl rfl (dg ddX4_hindranceOfStrings 1 rfl) ?_
  refine lv_iload_n hx hb (dg ddX4_hindranceOfStrings 2 rfl) rfl (lv_at hl 1 rfl) ?_
  obtain ⟨r2, e1, hf⟩ := ob_some hf
  refine cro_vi CX hml (As := [.int a1]) (rest := []) (c_X3_hasBusker l D cy (q 1) (g_hour x_now) (g_crowd x_now) (g_buskers x_now) (g_answered x_now) (g_draws x_now) (g_lim x_now) (g_cmp x_now) (g_sof x_now) (g_kin x_now) (g_lou x_now) (g_pit x_now) (g_pla x_now) (g_cas x_now) (g_hrs x_now) (g_nws x_now) (g_hat x_now) (g_wea x_now) (g_row x_now) a1 e1) lk_RX4_224 rfl rfl hRMX3_hasBusker (vaP_l (vaP_perm (pm_n _ _ _ _ _ _) hP)) hK hN 0 rfl rfl rfl hl.1 rfl (Nat.le_of_ble_eq_true rfl) ⟨Nat.le_of_ble_eq_true rfl, Nat.le_of_ble_eq_true rfl⟩ (dg ddX4_hindranceOfStrings 3 rfl) ?_
  refine lv_if_ne (tgt := 13) hx hb (dg ddX4_hindranceOfStrings 4 rfl) (by decide) (fun h3 => ?_) (fun h3 => ?_)
  · have hf := it_f h3 hf
    refine lv_aload_n hx hb (dg ddX4_hindranceOfStrings 7 rfl) rfl (lv_at hl 0 rfl) ?_
    refine gf_RX4_10 CX hK hP 0 rfl rfl (dg ddX4_hindranceOfStrings 8 rfl) ?_
    refine gf_RX4_117 CX hK hP 1 rfl rfl (dg ddX4_hindranceOfStrings 9 rfl) ?_
    refine lv_iload_n hx hb (dg ddX4_hindranceOfStrings 10 rfl) rfl (lv_at hl 1 rfl) ?_
    obtain ⟨h4, hf⟩ := og_some hf
    refine va_fald hx hb hK hP 12 1 rfl rfl (inb_in h4) (dg ddX4_hindranceOfStrings 11 rfl) ?_
    refine lv_fconst2 hx hb (dg ddX4_hindranceOfStrings 12 rfl) ?_
    refine lv_fcmp hx hb (dg ddX4_hindranceOfStrings 13 rfl) ?_
    refine lv_if_ge (tgt := 46) hx hb (dg ddX4_hindranceOfStrings 14 rfl) (by decide) (fun h5 => ?_) (fun h5 => ?_)
    · have hf := it_t h5 hf
      refine lv_iconst (v := 0) hx hb (dg ddX4_hindranceOfStrings 25 rfl) (by decide) ?_
      cases hf
      exact e_wi CX hr hlk rfl hP hD hS (dg ddX4_hindranceOfStrings 26 rfl)
    · have hf := it_f h5 hf
      refine lv_aload_n hx hb (dg ddX4_hindranceOfStrings 15 rfl) rfl (lv_at hl 0 rfl) ?_
      refine lv_bipush (v := 8) hx hb (dg ddX4_hindranceOfStrings 16 rfl) (by decide) ?_
      refine lv_aload_n hx hb (dg ddX4_hindranceOfStrings 17 rfl) rfl (lv_at hl 0 rfl) ?_
      refine gf_RX4_10 CX hK hP 0 rfl rfl (dg ddX4_hindranceOfStrings 18 rfl) ?_
      refine gf_RX4_117 CX hK hP 1 rfl rfl (dg ddX4_hindranceOfStrings 19 rfl) ?_
      refine lv_iload_n hx hb (dg ddX4_hindranceOfStrings 20 rfl) rfl (lv_at hl 1 rfl) ?_
      obtain ⟨h6, hf⟩ := og_some hf
      refine va_fald hx hb hK hP 12 1 rfl rfl (inb_in h6) (dg ddX4_hindranceOfStrings 21 rfl) ?_
      refine lv_f2i hx hb (dg ddX4_hindranceOfStrings 22 rfl) ?_
      obtain ⟨r8, e7, hf⟩ := ob_some hf
      refine crw_vi CX hml (As := [.int 8, .int (FP.f2i ((g_hat x_now) a1.toNatClampNeg))]) (rest := []) (c_X4_refuse l D cy q x_isv x_te x_re x_de x_now x_spa x_sna x_len x_sig x_nxt x_cnt x_rng 8 (FP.f2i ((g_hat x_now) a1.toNatClampNeg)) _ e7) lk_RX4_345 rfl rfl hRMX4_refuse hP hD hS hA hK hN 0 rfl rfl rfl hl.1 rfl (Nat.le_of_ble_eq_true rfl) ⟨Nat.le_of_ble_eq_true rfl, Nat.le_of_ble_eq_true rfl⟩ (dg ddX4_hindranceOfStrings 23 rfl) (fun H locs hP hD hS => ?_)
      refine lv_goto (tgt := 47) hx hb (dg ddX4_hindranceOfStrings 24 rfl) (by decide) ?_
      cases hf
      exact e_wi CX hr hlk rfl hP hD hS (dg ddX4_hindranceOfStrings 26 rfl)
  · have hf := it_t h3 hf
    refine lv_iconst (v := 1) hx hb (dg ddX4_hindranceOfStrings 5 rfl) (by decide) ?_
    cases hf
    exact e_wi CX hr hlk rfl hP hD hS (dg ddX4_hindranceOfStrings 6 rfl)
def f_X4_hindranceOfAnswer (x_re : Int32) (x_de : Int32) (x_now : SV) (a1 : Int32) : Option (Int32 × Int32 × Int32) := ob (f_X4_isPitch a1) fun r2 => (if r2 = 0 then (some (1, x_re, x_de)) else (og (inb a1 8) (if ((g_cmp x_now) a1.toNatClampNeg) = 0 then (ob (f_X4_refuse x_re x_de 9 a1) fun r7 => (some (r7.1, r7.2.1, r7.2.2))) else (some (0, x_re, x_de)))))
set_option maxHeartbeats 4000000 in
set_option maxRecDepth 100000 in
theorem c_X4_hindranceOfAnswer (l : Launch) (D : va_G) (cy : Nat → ClassId) (q : Nat → Nat → Nat) (x_isv : Int32) (x_te : Int32) (x_re : Int32) (x_de : Int32) (x_now : SV) (x_spa : SV) (x_sna : SV) (x_len : Int32) (x_sig : Nat → Int32) (x_nxt : Int32) (x_cnt : Int32) (x_rng : Nat → SV) (a1 : Int32) (sz : Nat) {res : Int32 × Int32 × Int32} (hf : f_X4_hindranceOfAnswer x_re x_de x_now a1 = some res) : Met l yX4_hindranceOfAnswer (.code yX4_hindranceOfAnswer cX4_hindranceOfAnswer 2 (some .int) :: lw_all) { frames := 2, cells := 0, slots := 0, locals := 34 } (va_Pc [.ref (q 0 0), .int a1] (sW D cy (wX4 q cy x_isv x_te x_re x_de x_now x_spa x_sna x_len x_sig x_nxt x_cnt x_rng) sz)) (qI D (wX4 q cy x_isv x_te res.2.1 res.2.2 x_now x_spa x_sna x_len x_sig x_nxt x_cnt x_rng) res.1 (va_A (wX4 q cy x_isv x_te x_re x_de x_now x_spa x_sna x_len x_sig x_nxt x_cnt x_rng) sz)) 0 0 (va_A (wX4 q cy x_isv x_te x_re x_de x_now x_spa x_sna x_len x_sig x_nxt x_cnt x_rng) sz) := by
  refine mk_rw (Qc := qI D (wX4 q cy x_isv x_te res.2.1 res.2.2 x_now x_spa x_sna x_len x_sig x_nxt x_cnt x_rng) res.1) (Rc := RX4) (by decide +kernel) rfl (Nat.le_of_ble_eq_true rfl) ?_
  intro p e s m args below meth c ls A CX hml hr hlk hK hN hP hD hS hA hl
  have hx := CX.1
  have hb := CX.2.1
  have hRMX4_isPitch : (⟨1, 0, 0, 12⟩ : Room).frames + 1 ≤ (⟨2, 0, 0, 34⟩ : Room).frames ∧ 8 + (1 + 11) + (⟨1, 0, 0, 12⟩ : Room).locals ≤ (⟨2, 0, 0, 34⟩ : Room).locals := ⟨Nat.le_of_ble_eq_true rfl, Nat.le_of_ble_eq_true rfl⟩
  have hRMX4_refuse : (⟨1, 0, 0, 12⟩ : Room).frames + 1 ≤ (⟨2, 0, 0, 34⟩ : Room).frames ∧ 8 + (3 + 11) + (⟨1, 0, 0, 12⟩ : Room).locals ≤ (⟨2, 0, 0, 34⟩ : Room).locals := ⟨Nat.le_of_ble_eq_true rfl, Nat.le_of_ble_eq_true rfl⟩
  refine lv_iload_n hx hb (dg ddX4_hindranceOfAnswer 0 rfl) rfl (lv_at hl 1 rfl) ?_
  obtain ⟨r2, e1, hf⟩ := ob_some hf
  refine cro_si CX hml (As := [.int a1]) (rest := []) (c_X4_isPitch l D cy a1 e1) lk_RX4_338 rfl rfl hRMX4_isPitch vaP_nil hK hN rfl hl.1 rfl (Nat.le_of_ble_eq_true rfl) ⟨Nat.le_of_ble_eq_true rfl, Nat.le_of_ble_eq_true rfl⟩ (dg ddX4_hindranceOfAnswer 1 rfl) ?_
  refine lv_if_ne (tgt := 9) hx hb (dg ddX4_hindranceOfAnswer 2 rfl) (by decide) (fun h3 => ?_) (fun h3 => ?_)
  · have hf := it_f h3 hf
    refine lv_aload_n hx hb (dg ddX4_hindranceOfAnswer 5 rfl) rfl (lv_at hl 0 rfl) ?_
    refine gf_RX4_10 CX hK hP 0 rfl rfl (dg ddX4_hindranceOfAnswer 6 rfl) ?_
    refine gf_RX4_129 CX hK hP 1 rfl rfl (dg ddX4_hindranceOfAnswer 7 rfl) ?_
    refine lv_iload_n hx hb (dg ddX4_hindranceOfAnswer 8 rfl) rfl (lv_at hl 1 rfl) ?_
    obtain ⟨h4, hf⟩ := og_some hf
    refine va_iald hx hb hK hP 3 0 rfl rfl (inb_in h4) (dg ddX4_hindranceOfAnswer 9 rfl) ?_
    refine lv_if_ne (tgt := 31) hx hb (dg ddX4_hindranceOfAnswer 10 rfl) (by decide) (fun h5 => ?_) (fun h5 => ?_)
    · have hf := it_f h5 hf
      refine lv_iconst (v := 0) hx hb (dg ddX4_hindranceOfAnswer 16 rfl) (by decide) ?_
      cases hf
      exact e_wi CX hr hlk rfl hP hD hS (dg ddX4_hindranceOfAnswer 17 rfl)
    · have hf := it_t h5 hf
      refine lv_aload_n hx hb (dg ddX4_hindranceOfAnswer 11 rfl) rfl (lv_at hl 0 rfl) ?_
      refine lv_bipush (v := 9) hx hb (dg ddX4_hindranceOfAnswer 12 rfl) (by decide) ?_
      refine lv_iload_n hx hb (dg ddX4_hindranceOfAnswer 13 rfl) rfl (lv_at hl 1 rfl) ?_
      obtain ⟨r7, e6, hf⟩ := ob_some hf
      refine crw_vi CX hml (As := [.int 9, .int a1]) (rest := []) (c_X4_refuse l D cy q x_isv x_te x_re x_de x_now x_spa x_sna x_len x_sig x_nxt x_cnt x_rng 9 a1 _ e6) lk_RX4_345 rfl rfl hRMX4_refuse hP hD hS hA hK hN 0 rfl rfl rfl hl.1 rfl (Nat.le_of_ble_eq_true rfl) ⟨Nat.le_of_ble_eq_true rfl, Nat.le_of_ble_eq_true rfl⟩ (dg ddX4_hindranceOfAnswer 14 rfl) (fun H locs hP hD hS => ?_)
      refine lv_goto (tgt := 32) hx hb (dg ddX4_hindranceOfAnswer 15 rfl) (by decide) ?_
      cases hf
      exact e_wi CX hr hlk rfl hP hD hS (dg ddX4_hindranceOfAnswer 17 rfl)
  · have hf := it_t h3 hf
    refine lv_iconst (v := 1) hx hb (dg ddX4_hindranceOfAnswer 3 rfl) (by decide) ?_
    cases hf
    exact e_wi CX hr hlk rfl hP hD hS (dg ddX4_hindranceOfAnswer 4 rfl)
def f_X4_hindranceOfRack (x_re : Int32) (x_de : Int32) (x_now : SV) (a1 : Int32) (a2 : Int32) : Option (Int32 × Int32 × Int32) := ob (f_X3_hasBusker (g_buskers x_now) a1) fun r2 => (if r2 = 0 then (some (1, x_re, x_de)) else (if a2 < 0 then (some (1, x_re, x_de)) else (if a2 < 2 then (og (inb a1 8) (if ((g_cas x_now) a1.toNatClampNeg) = (-1) then (ob (f_X3_freePlaceOn (g_kin x_now) (g_cas x_now) a2) fun r9 => (if r9 = (-1) then (ob (f_X4_refuse x_re x_de 11 a2) fun r16 => (some (r16.1, r16.2.1, r16.2.2))) else (og (inb a1 8) (if ((g_kin x_now) a1.toNatClampNeg) = a2 then (some (0, x_re, x_de)) else (ob (f_X4_refuse x_re x_de 12 a2) fun r14 => (some (r14.1, r14.2.1, r14.2.2))))))) else (og (inb a1 8) (ob (f_X4_refuse x_re x_de 10 ((g_cas x_now) a1.toNatClampNeg)) fun r19 => (some (r19.1, r19.2.1, r19.2.2)))))) else (some (1, x_re, x_de)))))
set_option maxHeartbeats 4000000 in
set_option maxRecDepth 100000 in
theorem c_X4_hindranceOfRack (l : Launch) (D : va_G) (cy : Nat → ClassId) (q : Nat → Nat → Nat) (x_isv : Int32) (x_te : Int32) (x_re : Int32) (x_de : Int32) (x_now : SV) (x_spa : SV) (x_sna : SV) (x_len : Int32) (x_sig : Nat → Int32) (x_nxt : Int32) (x_cnt : Int32) (x_rng : Nat → SV) (a1 : Int32) (a2 : Int32) (sz : Nat) {res : Int32 × Int32 × Int32} (hf : f_X4_hindranceOfRack x_re x_de x_now a1 a2 = some res) : Met l yX4_hindranceOfRack (.code yX4_hindranceOfRack cX4_hindranceOfRack 3 (some .int) :: lw_all) { frames := 3, cells := 0, slots := 0, locals := 57 } (va_Pc [.ref (q 0 0), .int a1, .int a2] (sW D cy (wX4 q cy x_isv x_te x_re x_de x_now x_spa x_sna x_len x_sig x_nxt x_cnt x_rng) sz)) (qI D (wX4 q cy x_isv x_te res.2.1 res.2.2 x_now x_spa x_sna x_len x_sig x_nxt x_cnt x_rng) res.1 (va_A (wX4 q cy x_isv x_te x_re x_de x_now x_spa x_sna x_len x_sig x_nxt x_cnt x_rng) sz)) 0 0 (va_A (wX4 q cy x_isv x_te x_re x_de x_now x_spa x_sna x_len x_sig x_nxt x_cnt x_rng) sz) := by
  refine mk_rw (Qc := qI D (wX4 q cy x_isv x_te res.2.1 res.2.2 x_now x_spa x_sna x_len x_sig x_nxt x_cnt x_rng) res.1) (Rc := RX4) (by decide +kernel) rfl (Nat.le_of_ble_eq_true rfl) ?_
  intro p e s m args below meth c ls A CX hml hr hlk hK hN hP hD hS hA hl
  have hx := CX.1
  have hb := CX.2.1
  have hRMX3_freePlaceOn : (⟨2, 0, 0, 35⟩ : Room).frames + 1 ≤ (⟨3, 0, 0, 57⟩ : Room).frames ∧ 8 + (3 + 11) + (⟨2, 0, 0, 35⟩ : Room).locals ≤ (⟨3, 0, 0, 57⟩ : Room).locals := ⟨Nat.le_of_ble_eq_true rfl, Nat.le_of_ble_eq_true rfl⟩
  have hRMX3_hasBusker : (⟨1, 0, 0, 12⟩ : Room).frames + 1 ≤ (⟨3, 0, 0, 57⟩ : Room).frames ∧ 8 + (2 + 11) + (⟨1, 0, 0, 12⟩ : Room).locals ≤ (⟨3, 0, 0, 57⟩ : Room).locals := ⟨Nat.le_of_ble_eq_true rfl, Nat.le_of_ble_eq_true rfl⟩
  have hRMX4_refuse : (⟨1, 0, 0, 12⟩ : Room).frames + 1 ≤ (⟨3, 0, 0, 57⟩ : Room).frames ∧ 8 + (3 + 11) + (⟨1, 0, 0, 12⟩ : Room).locals ≤ (⟨3, 0, 0, 57⟩ : Room).locals := ⟨Nat.le_of_ble_eq_true rfl, Nat.le_of_ble_eq_true rfl⟩
  refine lv_aload_n hx hb (dg ddX4_hindranceOfRack 0 rfl) rfl (lv_at hl 0 rfl) ?_
  refine gf_RX4_10 CX hK hP 0 rfl rfl (dg ddX4_hindranceOfRack 1 rfl) ?_
  refine lv_iload_n hx hb (dg ddX4_hindranceOfRack 2 rfl) rfl (lv_at hl 1 rfl) ?_
  obtain ⟨r2, e1, hf⟩ := ob_some hf
  refine cro_vi CX hml (As := [.int a1]) (rest := []) (c_X3_hasBusker l D cy (q 1) (g_hour x_now) (g_crowd x_now) (g_buskers x_now) (g_answered x_now) (g_draws x_now) (g_lim x_now) (g_cmp x_now) (g_sof x_now) (g_kin x_now) (g_lou x_now) (g_pit x_now) (g_pla x_now) (g_cas x_now) (g_hrs x_now) (g_nws x_now) (g_hat x_now) (g_wea x_now) (g_row x_now) a1 e1) lk_RX4_224 rfl rfl hRMX3_hasBusker (vaP_l (vaP_perm (pm_n _ _ _ _ _ _) hP)) hK hN 0 rfl rfl rfl hl.1 rfl (Nat.le_of_ble_eq_true rfl) ⟨Nat.le_of_ble_eq_true rfl, Nat.le_of_ble_eq_true rfl⟩ (dg ddX4_hindranceOfRack 3 rfl) ?_
  refine lv_if_eq (tgt := 20) hx hb (dg ddX4_hindranceOfRack 4 rfl) (by decide) (fun h3 => ?_) (fun h3 => ?_)
  · have hf := it_t h3 hf
    refine lv_iconst (v := 1) hx hb (dg ddX4_hindranceOfRack 10 rfl) (by decide) ?_
    cases hf
    exact e_wi CX hr hlk rfl hP hD hS (dg ddX4_hindranceOfRack 11 rfl)
  · have hf := it_f h3 hf
    refine lv_iload_n hx hb (dg ddX4_hindranceOfRack 5 rfl) rfl (lv_at hl 2 rfl) ?_
    refine lv_if_lt (tgt := 20) hx hb (dg ddX4_hindranceOfRack 6 rfl) (by decide) (fun h4 => ?_) (fun h4 => ?_)
    · have hf := it_t h4 hf
      refine lv_iconst (v := 1) hx hb (dg ddX4_hindranceOfRack 10 rfl) (by decide) ?_
      cases hf
      exact e_wi CX hr hlk rfl hP hD hS (dg ddX4_hindranceOfRack 11 rfl)
    · have hf := it_f h4 hf
      refine lv_iload_n hx hb (dg ddX4_hindranceOfRack 7 rfl) rfl (lv_at hl 2 rfl) ?_
      refine lv_iconst (v := 2) hx hb (dg ddX4_hindranceOfRack 8 rfl) (by decide) ?_
      refine lv_icmp_lt (tgt := 22) hx hb (dg ddX4_hindranceOfRack 9 rfl) (by decide) (fun h5 => ?_) (fun h5 => ?_)
      · have hf := it_t h5 hf
        refine lv_aload_n hx hb (dg ddX4_hindranceOfRack 12 rfl) rfl (lv_at hl 0 rfl) ?_
        refine gf_RX4_10 CX hK hP 0 rfl rfl (dg ddX4_hindranceOfRack 13 rfl) ?_
        refine gf_RX4_101 CX hK hP 1 rfl rfl (dg ddX4_hindranceOfRack 14 rfl) ?_
        refine lv_iload_n hx hb (dg ddX4_hindranceOfRack 15 rfl) rfl (lv_at hl 1 rfl) ?_
        obtain ⟨h6, hf⟩ := og_some hf
        refine va_iald hx hb hK hP 9 0 rfl rfl (inb_in h6) (dg ddX4_hindranceOfRack 16 rfl) ?_
        refine lv_iconst (v := (-1)) hx hb (dg ddX4_hindranceOfRack 17 rfl) (by decide) ?_
        refine lv_icmp_eq (tgt := 51) hx hb (dg ddX4_hindranceOfRack 18 rfl) (by decide) (fun h7 => ?_) (fun h7 => ?_)
        · have hf := it_t h7 hf
          refine lv_aload_n hx hb (dg ddX4_hindranceOfRack 28 rfl) rfl (lv_at hl 0 rfl) ?_
          refine gf_RX4_10 CX hK hP 0 rfl rfl (dg ddX4_hindranceOfRack 29 rfl) ?_
          refine lv_iload_n hx hb (dg ddX4_hindranceOfRack 30 rfl) rfl (lv_at hl 2 rfl) ?_
          obtain ⟨r9, e8, hf⟩ := ob_some hf
          refine cro_vi CX hml (As := [.int a2]) (rest := []) (c_X3_freePlaceOn l D cy (q 1) (g_hour x_now) (g_crowd x_now) (g_buskers x_now) (g_answered x_now) (g_draws x_now) (g_lim x_now) (g_cmp x_now) (g_sof x_now) (g_kin x_now) (g_lou x_now) (g_pit x_now) (g_pla x_now) (g_cas x_now) (g_hrs x_now) (g_nws x_now) (g_hat x_now) (g_wea x_now) (g_row x_now) a2 e8) lk_RX4_351 rfl rfl hRMX3_freePlaceOn (vaP_l (vaP_perm (pm_n _ _ _ _ _ _) hP)) hK hN 0 rfl rfl rfl hl.1 rfl (Nat.le_of_ble_eq_true rfl) ⟨Nat.le_of_ble_eq_true rfl, Nat.le_of_ble_eq_true rfl⟩ (dg ddX4_hindranceOfRack 31 rfl) ?_
          refine lv_iconst (v := (-1)) hx hb (dg ddX4_hindranceOfRack 32 rfl) (by decide) ?_
          refine lv_icmp_ne (tgt := 71) hx hb (dg ddX4_hindranceOfRack 33 rfl) (by decide) (fun h10 => ?_) (fun h10 => ?_)
          · have hf := it_f h10 hf
            refine lv_aload_n hx hb (dg ddX4_hindranceOfRack 39 rfl) rfl (lv_at hl 0 rfl) ?_
            refine gf_RX4_10 CX hK hP 0 rfl rfl (dg ddX4_hindranceOfRack 40 rfl) ?_
            refine gf_RX4_88 CX hK hP 1 rfl rfl (dg ddX4_hindranceOfRack 41 rfl) ?_
            refine lv_iload_n hx hb (dg ddX4_hindranceOfRack 42 rfl) rfl (lv_at hl 1 rfl) ?_
            obtain ⟨h11, hf⟩ := og_some hf
            refine va_iald hx hb hK hP 5 0 rfl rfl (inb_in h11) (dg ddX4_hindranceOfRack 43 rfl) ?_
            refine lv_iload_n hx hb (dg ddX4_hindranceOfRack 44 rfl) rfl (lv_at hl 2 rfl) ?_
            refine lv_icmp_ne (tgt := 88) hx hb (dg ddX4_hindranceOfRack 45 rfl) (by decide) (fun h12 => ?_) (fun h12 => ?_)
            · have hf := it_f h12 hf
              refine lv_aload_n hx hb (dg ddX4_hindranceOfRack 48 rfl) rfl (lv_at hl 0 rfl) ?_
              refine lv_bipush (v := 12) hx hb (dg ddX4_hindranceOfRack 49 rfl) (by decide) ?_
              refine lv_iload_n hx hb (dg ddX4_hindranceOfRack 50 rfl) rfl (lv_at hl 2 rfl) ?_
              obtain ⟨r14, e13, hf⟩ := ob_some hf
              refine crw_vi CX hml (As := [.int 12, .int a2]) (rest := []) (c_X4_refuse l D cy q x_isv x_te x_re x_de x_now x_spa x_sna x_len x_sig x_nxt x_cnt x_rng 12 a2 _ e13) lk_RX4_345 rfl rfl hRMX4_refuse hP hD hS hA hK hN 0 rfl rfl rfl hl.1 rfl (Nat.le_of_ble_eq_true rfl) ⟨Nat.le_of_ble_eq_true rfl, Nat.le_of_ble_eq_true rfl⟩ (dg ddX4_hindranceOfRack 51 rfl) (fun H locs hP hD hS => ?_)
              cases hf
              exact e_wi CX hr hlk rfl hP hD hS (dg ddX4_hindranceOfRack 52 rfl)
            · have hf := it_t h12 hf
              refine lv_iconst (v := 0) hx hb (dg ddX4_hindranceOfRack 46 rfl) (by decide) ?_
              refine lv_goto (tgt := 95) hx hb (dg ddX4_hindranceOfRack 47 rfl) (by decide) ?_
              cases hf
              exact e_wi CX hr hlk rfl hP hD hS (dg ddX4_hindranceOfRack 52 rfl)
          · have hf := it_t h10 hf
            refine lv_aload_n hx hb (dg ddX4_hindranceOfRack 34 rfl) rfl (lv_at hl 0 rfl) ?_
            refine lv_bipush (v := 11) hx hb (dg ddX4_hindranceOfRack 35 rfl) (by decide) ?_
            refine lv_iload_n hx hb (dg ddX4_hindranceOfRack 36 rfl) rfl (lv_at hl 2 rfl) ?_
            obtain ⟨r16, e15, hf⟩ := ob_some hf
            refine crw_vi CX hml (As := [.int 11, .int a2]) (rest := []) (c_X4_refuse l D cy q x_isv x_te x_re x_de x_now x_spa x_sna x_len x_sig x_nxt x_cnt x_rng 11 a2 _ e15) lk_RX4_345 rfl rfl hRMX4_refuse hP hD hS hA hK hN 0 rfl rfl rfl hl.1 rfl (Nat.le_of_ble_eq_true rfl) ⟨Nat.le_of_ble_eq_true rfl, Nat.le_of_ble_eq_true rfl⟩ (dg ddX4_hindranceOfRack 37 rfl) (fun H locs hP hD hS => ?_)
            cases hf
            exact e_wi CX hr hlk rfl hP hD hS (dg ddX4_hindranceOfRack 38 rfl)
        · have hf := it_f h7 hf
          refine lv_aload_n hx hb (dg ddX4_hindranceOfRack 19 rfl) rfl (lv_at hl 0 rfl) ?_
          refine lv_bipush (v := 10) hx hb (dg ddX4_hindranceOfRack 20 rfl) (by decide) ?_
          refine lv_aload_n hx hb (dg ddX4_hindranceOfRack 21 rfl) rfl (lv_at hl 0 rfl) ?_
          refine gf_RX4_10 CX hK hP 0 rfl rfl (dg ddX4_hindranceOfRack 22 rfl) ?_
          refine gf_RX4_101 CX hK hP 1 rfl rfl (dg ddX4_hindranceOfRack 23 rfl) ?_
          refine lv_iload_n hx hb (dg ddX4_hindranceOfRack 24 rfl) rfl (lv_at hl 1 rfl) ?_
          obtain ⟨h17, hf⟩ := og_some hf
          refine va_iald hx hb hK hP 9 0 rfl rfl (inb_in h17) (dg ddX4_hindranceOfRack 25 rfl) ?_
          obtain ⟨r19, e18, hf⟩ := ob_some hf
          refine crw_vi CX hml (As := [.int 10, .int ((g_cas x_now) a1.toNatClampNeg)]) (rest := []) (c_X4_refuse l D cy q x_isv x_te x_re x_de x_now x_spa x_sna x_len x_sig x_nxt x_cnt x_rng 10 ((g_cas x_now) a1.toNatClampNeg) _ e18) lk_RX4_345 rfl rfl hRMX4_refuse hP hD hS hA hK hN 0 rfl rfl rfl hl.1 rfl (Nat.le_of_ble_eq_true rfl) ⟨Nat.le_of_ble_eq_true rfl, Nat.le_of_ble_eq_true rfl⟩ (dg ddX4_hindranceOfRack 26 rfl) (fun H locs hP hD hS => ?_)
          cases hf
          exact e_wi CX hr hlk rfl hP hD hS (dg ddX4_hindranceOfRack 27 rfl)
      · have hf := it_f h5 hf
        refine lv_iconst (v := 1) hx hb (dg ddX4_hindranceOfRack 10 rfl) (by decide) ?_
        cases hf
        exact e_wi CX hr hlk rfl hP hD hS (dg ddX4_hindranceOfRack 11 rfl)
def f_X4_hindranceOfUnrack (x_re : Int32) (x_de : Int32) (x_now : SV) (a1 : Int32) : Option (Int32 × Int32 × Int32) := ob (f_X3_hasBusker (g_buskers x_now) a1) fun r2 => (if r2 = 0 then (some (1, x_re, x_de)) else (og (inb a1 8) (if ((g_cas x_now) a1.toNatClampNeg) = (-1) then (ob (f_X4_refuse x_re x_de 13 a1) fun r7 => (some (r7.1, r7.2.1, r7.2.2))) else (some (0, x_re, x_de)))))
set_option maxHeartbeats 4000000 in
set_option maxRecDepth 100000 in
theorem c_X4_hindranceOfUnrack (l : Launch) (D : va_G) (cy : Nat → ClassId) (q : Nat → Nat → Nat) (x_isv : Int32) (x_te : Int32) (x_re : Int32) (x_de : Int32) (x_now : SV) (x_spa : SV) (x_sna : SV) (x_len : Int32) (x_sig : Nat → Int32) (x_nxt : Int32) (x_cnt : Int32) (x_rng : Nat → SV) (a1 : Int32) (sz : Nat) {res : Int32 × Int32 × Int32} (hf : f_X4_hindranceOfUnrack x_re x_de x_now a1 = some res) : Met l yX4_hindranceOfUnrack (.code yX4_hindranceOfUnrack cX4_hindranceOfUnrack 2 (some .int) :: lw_all) { frames := 2, cells := 0, slots := 0, locals := 34 } (va_Pc [.ref (q 0 0), .int a1] (sW D cy (wX4 q cy x_isv x_te x_re x_de x_now x_spa x_sna x_len x_sig x_nxt x_cnt x_rng) sz)) (qI D (wX4 q cy x_isv x_te res.2.1 res.2.2 x_now x_spa x_sna x_len x_sig x_nxt x_cnt x_rng) res.1 (va_A (wX4 q cy x_isv x_te x_re x_de x_now x_spa x_sna x_len x_sig x_nxt x_cnt x_rng) sz)) 0 0 (va_A (wX4 q cy x_isv x_te x_re x_de x_now x_spa x_sna x_len x_sig x_nxt x_cnt x_rng) sz) := by
  refine mk_rw (Qc := qI D (wX4 q cy x_isv x_te res.2.1 res.2.2 x_now x_spa x_sna x_len x_sig x_nxt x_cnt x_rng) res.1) (Rc := RX4) (by decide +kernel) rfl (Nat.le_of_ble_eq_true rfl) ?_
  intro p e s m args below meth c ls A CX hml hr hlk hK hN hP hD hS hA hl
  have hx := CX.1
  have hb := CX.2.1
  have hRMX3_hasBusker : (⟨1, 0, 0, 12⟩ : Room).frames + 1 ≤ (⟨2, 0, 0, 34⟩ : Room).frames ∧ 8 + (2 + 11) + (⟨1, 0, 0, 12⟩ : Room).locals ≤ (⟨2, 0, 0, 34⟩ : Room).locals := ⟨Nat.le_of_ble_eq_true rfl, Nat.le_of_ble_eq_true rfl⟩
  have hRMX4_refuse : (⟨1, 0, 0, 12⟩ : Room).frames + 1 ≤ (⟨2, 0, 0, 34⟩ : Room).frames ∧ 8 + (3 + 11) + (⟨1, 0, 0, 12⟩ : Room).locals ≤ (⟨2, 0, 0, 34⟩ : Room).locals := ⟨Nat.le_of_ble_eq_true rfl, Nat.le_of_ble_eq_true rfl⟩
  refine lv_aload_n hx hb (dg ddX4_hindranceOfUnrack 0 rfl) rfl (lv_at hl 0 rfl) ?_
  refine gf_RX4_10 CX hK hP 0 rfl rfl (dg ddX4_hindranceOfUnrack 1 rfl) ?_
  refine lv_iload_n hx hb (dg ddX4_hindranceOfUnrack 2 rfl) rfl (lv_at hl 1 rfl) ?_
  obtain ⟨r2, e1, hf⟩ := ob_some hf
  refine cro_vi CX hml (As := [.int a1]) (rest := []) (c_X3_hasBusker l D cy (q 1) (g_hour x_now) (g_crowd x_now) (g_buskers x_now) (g_answered x_now) (g_draws x_now) (g_lim x_now) (g_cmp x_now) (g_sof x_now) (g_kin x_now) (g_lou x_now) (g_pit x_now) (g_pla x_now) (g_cas x_now) (g_hrs x_now) (g_nws x_now) (g_hat x_now) (g_wea x_now) (g_row x_now) a1 e1) lk_RX4_224 rfl rfl hRMX3_hasBusker (vaP_l (vaP_perm (pm_n _ _ _ _ _ _) hP)) hK hN 0 rfl rfl rfl hl.1 rfl (Nat.le_of_ble_eq_true rfl) ⟨Nat.le_of_ble_eq_true rfl, Nat.le_of_ble_eq_true rfl⟩ (dg ddX4_hindranceOfUnrack 3 rfl) ?_
  refine lv_if_ne (tgt := 13) hx hb (dg ddX4_hindranceOfUnrack 4 rfl) (by decide) (fun h3 => ?_) (fun h3 => ?_)
  · have hf := it_f h3 hf
    refine lv_aload_n hx hb (dg ddX4_hindranceOfUnrack 7 rfl) rfl (lv_at hl 0 rfl) ?_
    refine gf_RX4_10 CX hK hP 0 rfl rfl (dg ddX4_hindranceOfUnrack 8 rfl) ?_
    refine gf_RX4_101 CX hK hP 1 rfl rfl (dg ddX4_hindranceOfUnrack 9 rfl) ?_
    refine lv_iload_n hx hb (dg ddX4_hindranceOfUnrack 10 rfl) rfl (lv_at hl 1 rfl) ?_
    obtain ⟨h4, hf⟩ := og_some hf
    refine va_iald hx hb hK hP 9 0 rfl rfl (inb_in h4) (dg ddX4_hindranceOfUnrack 11 rfl) ?_
    refine lv_iconst (v := (-1)) hx hb (dg ddX4_hindranceOfUnrack 12 rfl) (by decide) ?_
    refine lv_icmp_ne (tgt := 36) hx hb (dg ddX4_hindranceOfUnrack 13 rfl) (by decide) (fun h5 => ?_) (fun h5 => ?_)
    · have hf := it_f h5 hf
      refine lv_iconst (v := 0) hx hb (dg ddX4_hindranceOfUnrack 19 rfl) (by decide) ?_
      cases hf
      exact e_wi CX hr hlk rfl hP hD hS (dg ddX4_hindranceOfUnrack 20 rfl)
    · have hf := it_t h5 hf
      refine lv_aload_n hx hb (dg ddX4_hindranceOfUnrack 14 rfl) rfl (lv_at hl 0 rfl) ?_
      refine lv_bipush (v := 13) hx hb (dg ddX4_hindranceOfUnrack 15 rfl) (by decide) ?_
      refine lv_iload_n hx hb (dg ddX4_hindranceOfUnrack 16 rfl) rfl (lv_at hl 1 rfl) ?_
      obtain ⟨r7, e6, hf⟩ := ob_some hf
      refine crw_vi CX hml (As := [.int 13, .int a1]) (rest := []) (c_X4_refuse l D cy q x_isv x_te x_re x_de x_now x_spa x_sna x_len x_sig x_nxt x_cnt x_rng 13 a1 _ e6) lk_RX4_345 rfl rfl hRMX4_refuse hP hD hS hA hK hN 0 rfl rfl rfl hl.1 rfl (Nat.le_of_ble_eq_true rfl) ⟨Nat.le_of_ble_eq_true rfl, Nat.le_of_ble_eq_true rfl⟩ (dg ddX4_hindranceOfUnrack 17 rfl) (fun H locs hP hD hS => ?_)
      refine lv_goto (tgt := 37) hx hb (dg ddX4_hindranceOfUnrack 18 rfl) (by decide) ?_
      cases hf
      exact e_wi CX hr hlk rfl hP hD hS (dg ddX4_hindranceOfUnrack 20 rfl)
  · have hf := it_t h3 hf
    refine lv_iconst (v := 1) hx hb (dg ddX4_hindranceOfUnrack 5 rfl) (by decide) ?_
    cases hf
    exact e_wi CX hr hlk rfl hP hD hS (dg ddX4_hindranceOfUnrack 6 rfl)
def f_X4_tryDraw (x_re : Int32) (x_de : Int32) (x_now : SV) (a1 : Int32) (a2 : Int32) : Option (Int32 × Int32 × Int32 × SV) := ob (f_X4_hindranceOfDraw x_re x_de x_now a1 a2) fun r2 => (if r2.1 = 0 then (ob (f_X3_drawFor (g_draws x_now) (g_pit x_now) (g_pla x_now) a1 a2) fun r5 => (some (r2.1, r2.2.1, r2.2.2, (s_pla (s_pit (s_draws x_now r5.2.1) r5.2.2.1) r5.2.2.2)))) else (some (r2.1, r2.2.1, r2.2.2, x_now)))
set_option maxHeartbeats 4000000 in
set_option maxRecDepth 100000 in
theorem c_X4_tryDraw (l : Launch) (D : va_G) (cy : Nat → ClassId) (q : Nat → Nat → Nat) (x_isv : Int32) (x_te : Int32) (x_re : Int32) (x_de : Int32) (x_now : SV) (x_spa : SV) (x_sna : SV) (x_len : Int32) (x_sig : Nat → Int32) (x_nxt : Int32) (x_cnt : Int32) (x_rng : Nat → SV) (a1 : Int32) (a2 : Int32) (sz : Nat) {res : Int32 × Int32 × Int32 × SV} (hf : f_X4_tryDraw x_re x_de x_now a1 a2 = some res) : Met l yX4_tryDraw (.code yX4_tryDraw cX4_tryDraw 4 (some .int) :: lw_all) { frames := 4, cells := 0, slots := 0, locals := 76 } (va_Pc [.ref (q 0 0), .int a1, .int a2] (sW D cy (wX4 q cy x_isv x_te x_re x_de x_now x_spa x_sna x_len x_sig x_nxt x_cnt x_rng) sz)) (qI D (wX4 q cy x_isv x_te res.2.1 res.2.2.1 res.2.2.2 x_spa x_sna x_len x_sig x_nxt x_cnt x_rng) res.1 (va_A (wX4 q cy x_isv x_te x_re x_de x_now x_spa x_sna x_len x_sig x_nxt x_cnt x_rng) sz)) 0 0 (va_A (wX4 q cy x_isv x_te x_re x_de x_now x_spa x_sna x_len x_sig x_nxt x_cnt x_rng) sz) := by
  refine mk_rw (Qc := qI D (wX4 q cy x_isv x_te res.2.1 res.2.2.1 res.2.2.2 x_spa x_sna x_len x_sig x_nxt x_cnt x_rng) res.1) (Rc := RX4) (by decide +kernel) rfl (Nat.le_of_ble_eq_true rfl) ?_
  intro p e s m args below meth c ls A CX hml hr hlk hK hN hP hD hS hA hl
  have hx := CX.1
  have hb := CX.2.1
  have hRMX3_drawFor : (⟨2, 0, 0, 37⟩ : Room).frames + 1 ≤ (⟨4, 0, 0, 76⟩ : Room).frames ∧ 8 + (7 + 11) + (⟨2, 0, 0, 37⟩ : Room).locals ≤ (⟨4, 0, 0, 76⟩ : Room).locals := ⟨Nat.le_of_ble_eq_true rfl, Nat.le_of_ble_eq_true rfl⟩
  have hRMX4_hindranceOfDraw : (⟨3, 0, 0, 54⟩ : Room).frames + 1 ≤ (⟨4, 0, 0, 76⟩ : Room).frames ∧ 8 + (3 + 11) + (⟨3, 0, 0, 54⟩ : Room).locals ≤ (⟨4, 0, 0, 76⟩ : Room).locals := ⟨Nat.le_of_ble_eq_true rfl, Nat.le_of_ble_eq_true rfl⟩
  refine lv_aload_n hx hb (dg ddX4_tryDraw 0 rfl) rfl (lv_at hl 0 rfl) ?_
  refine lv_iload_n hx hb (dg ddX4_tryDraw 1 rfl) rfl (lv_at hl 1 rfl) ?_
  refine lv_iload_n hx hb (dg ddX4_tryDraw 2 rfl) rfl (lv_at hl 2 rfl) ?_
  obtain ⟨r2, e1, hf⟩ := ob_some hf
  refine crw_vi CX hml (As := [.int a1, .int a2]) (rest := []) (c_X4_hindranceOfDraw l D cy q x_isv x_te x_re x_de x_now x_spa x_sna x_len x_sig x_nxt x_cnt x_rng a1 a2 _ e1) lk_RX4_143 rfl rfl hRMX4_hindranceOfDraw hP hD hS hA hK hN 0 rfl rfl rfl hl.1 rfl (Nat.le_of_ble_eq_true rfl) ⟨Nat.le_of_ble_eq_true rfl, Nat.le_of_ble_eq_true rfl⟩ (dg ddX4_tryDraw 3 rfl) (fun H locs hP hD hS => ?_)
  refine lv_istore_n (lv' := [(3, .int r2.1), (0, .ref (q 0 0)), (1, .int a1), (2, .int a2)]) hx hb (dg ddX4_tryDraw 4 rfl) rfl hl (by decide) rfl (fun ls hl => ?_)
  refine lv_iload_n hx hb (dg ddX4_tryDraw 5 rfl) rfl (lv_at hl 0 rfl) ?_
  refine lv_if_ne (tgt := 21) hx hb (dg ddX4_tryDraw 6 rfl) (by decide) (fun h3 => ?_) (fun h3 => ?_)
  · have hf := it_f h3 hf
    refine lv_iload_n hx hb (dg ddX4_tryDraw 13 rfl) rfl (lv_at hl 0 rfl) ?_
    cases hf
    exact e_wi CX hr hlk rfl hP hD hS (dg ddX4_tryDraw 14 rfl)
  · have hf := it_t h3 hf
    refine lv_aload_n hx hb (dg ddX4_tryDraw 7 rfl) rfl (lv_at hl 1 rfl) ?_
    refine gf_RX4_10 CX hK hP 0 rfl rfl (dg ddX4_tryDraw 8 rfl) ?_
    refine lv_iload_n hx hb (dg ddX4_tryDraw 9 rfl) rfl (lv_at hl 2 rfl) ?_
    refine lv_iload_n hx hb (dg ddX4_tryDraw 10 rfl) rfl (lv_at hl 3 rfl) ?_
    obtain ⟨r5, e4, hf⟩ := ob_some hf
    refine crf_vi CX hml (As := [.int a1, .int a2]) (rest := []) (ws := (wX4 q cy x_isv x_te r2.2.1 r2.2.2 x_now x_spa x_sna x_len x_sig x_nxt x_cnt x_rng)) (wsn := (wX4 q cy x_isv x_te r2.2.1 r2.2.2 (s_pla (s_pit (s_draws x_now r5.2.1) r5.2.2.1) r5.2.2.2) x_spa x_sna x_len x_sig x_nxt x_cnt x_rng)) (c_X3_drawFor l D cy (q 1) (g_hour x_now) (g_crowd x_now) (g_buskers x_now) (g_answered x_now) (g_draws x_now) (g_lim x_now) (g_cmp x_now) (g_sof x_now) (g_kin x_now) (g_lou x_now) (g_pit x_now) (g_pla x_now) (g_cas x_now) (g_hrs x_now) (g_nws x_now) (g_hat x_now) (g_wea x_now) (g_row x_now) a1 a2 _ e4) lk_RX4_146 rfl rfl hRMX3_drawFor hP hD hS hA hK hN (pm_n _ _ _ _ _ _) ((pm_n _ _ _ _ _ _).symm) 0 rfl rfl rfl hl.1 rfl (Nat.le_of_ble_eq_true rfl) ⟨Nat.le_of_ble_eq_true rfl, Nat.le_of_ble_eq_true rfl⟩ (dg ddX4_tryDraw 11 rfl) (fun H locs hP hD hS => ?_)
    refine lv_pop hx hb (dg ddX4_tryDraw 12 rfl) rfl ?_
    refine lv_iload_n hx hb (dg ddX4_tryDraw 13 rfl) rfl (lv_at hl 0 rfl) ?_
    cases hf
    exact e_wi CX hr hlk rfl hP hD hS (dg ddX4_tryDraw 14 rfl)
def f_X4_hindranceOfOrder (x_re : Int32) (x_de : Int32) (x_now : SV) (a1 : Int32) (a2 : Int32) : Option (Int32 × Int32 × Int32) := if a1 = 97 then (ob (f_X4_hindranceOfAnswer x_re x_de x_now a2) fun r3 => (some (r3.1, r3.2.1, r3.2.2))) else (if a1 = 99 then (ob (f_X4_hindranceOfCrowd a2) fun r6 => (some (r6, x_re, x_de))) else (if a1 = 112 then (ob (f_X4_hindranceOfPass a2) fun r9 => (some (r9, x_re, x_de))) else (if a1 = 115 then (ob (f_X4_hindranceOfStrings x_re x_de x_now a2) fun r12 => (some (r12.1, r12.2.1, r12.2.2))) else (if a1 = 119 then (ob (f_X4_hindranceOfJoin x_re x_de x_now a2) fun r15 => (some (r15.1, r15.2.1, r15.2.2))) else (if a1 = 120 then (ob (f_X4_hindranceOfLeave x_re x_de x_now a2) fun r18 => (some (r18.1, r18.2.1, r18.2.2))) else (some (2, x_re, x_de)))))))
set_option maxHeartbeats 4000000 in
set_option maxRecDepth 100000 in
theorem c_X4_hindranceOfOrder (l : Launch) (D : va_G) (cy : Nat → ClassId) (q : Nat → Nat → Nat) (x_isv : Int32) (x_te : Int32) (x_re : Int32) (x_de : Int32) (x_now : SV) (x_spa : SV) (x_sna : SV) (x_len : Int32) (x_sig : Nat → Int32) (x_nxt : Int32) (x_cnt : Int32) (x_rng : Nat → SV) (a1 : Int32) (a2 : Int32) (sz : Nat) {res : Int32 × Int32 × Int32} (hf : f_X4_hindranceOfOrder x_re x_de x_now a1 a2 = some res) : Met l yX4_hindranceOfOrder (.code yX4_hindranceOfOrder cX4_hindranceOfOrder 3 (some .int) :: lw_all) { frames := 4, cells := 0, slots := 0, locals := 75 } (va_Pc [.ref (q 0 0), .int a1, .int a2] (sW D cy (wX4 q cy x_isv x_te x_re x_de x_now x_spa x_sna x_len x_sig x_nxt x_cnt x_rng) sz)) (qI D (wX4 q cy x_isv x_te res.2.1 res.2.2 x_now x_spa x_sna x_len x_sig x_nxt x_cnt x_rng) res.1 (va_A (wX4 q cy x_isv x_te x_re x_de x_now x_spa x_sna x_len x_sig x_nxt x_cnt x_rng) sz)) 0 0 (va_A (wX4 q cy x_isv x_te x_re x_de x_now x_spa x_sna x_len x_sig x_nxt x_cnt x_rng) sz) := by
  refine mk_rw (Qc := qI D (wX4 q cy x_isv x_te res.2.1 res.2.2 x_now x_spa x_sna x_len x_sig x_nxt x_cnt x_rng) res.1) (Rc := RX4) (by decide +kernel) rfl (Nat.le_of_ble_eq_true rfl) ?_
  intro p e s m args below meth c ls A CX hml hr hlk hK hN hP hD hS hA hl
  have hx := CX.1
  have hb := CX.2.1
  have hRMX4_hindranceOfAnswer : (⟨2, 0, 0, 34⟩ : Room).frames + 1 ≤ (⟨4, 0, 0, 75⟩ : Room).frames ∧ 8 + (2 + 11) + (⟨2, 0, 0, 34⟩ : Room).locals ≤ (⟨4, 0, 0, 75⟩ : Room).locals := ⟨Nat.le_of_ble_eq_true rfl, Nat.le_of_ble_eq_true rfl⟩
  have hRMX4_hindranceOfCrowd : (⟨2, 0, 0, 34⟩ : Room).frames + 1 ≤ (⟨4, 0, 0, 75⟩ : Room).frames ∧ 8 + (1 + 11) + (⟨2, 0, 0, 34⟩ : Room).locals ≤ (⟨4, 0, 0, 75⟩ : Room).locals := ⟨Nat.le_of_ble_eq_true rfl, Nat.le_of_ble_eq_true rfl⟩
  have hRMX4_hindranceOfJoin : (⟨2, 0, 0, 34⟩ : Room).frames + 1 ≤ (⟨4, 0, 0, 75⟩ : Room).frames ∧ 8 + (2 + 11) + (⟨2, 0, 0, 34⟩ : Room).locals ≤ (⟨4, 0, 0, 75⟩ : Room).locals := ⟨Nat.le_of_ble_eq_true rfl, Nat.le_of_ble_eq_true rfl⟩
  have hRMX4_hindranceOfLeave : (⟨3, 0, 0, 54⟩ : Room).frames + 1 ≤ (⟨4, 0, 0, 75⟩ : Room).frames ∧ 8 + (2 + 11) + (⟨3, 0, 0, 54⟩ : Room).locals ≤ (⟨4, 0, 0, 75⟩ : Room).locals := ⟨Nat.le_of_ble_eq_true rfl, Nat.le_of_ble_eq_true rfl⟩
  have hRMX4_hindranceOfPass : (⟨2, 0, 0, 34⟩ : Room).frames + 1 ≤ (⟨4, 0, 0, 75⟩ : Room).frames ∧ 8 + (1 + 11) + (⟨2, 0, 0, 34⟩ : Room).locals ≤ (⟨4, 0, 0, 75⟩ : Room).locals := ⟨Nat.le_of_ble_eq_true rfl, Nat.le_of_ble_eq_true rfl⟩
  have hRMX4_hindranceOfStrings : (⟨2, 0, 0, 34⟩ : Room).frames + 1 ≤ (⟨4, 0, 0, 75⟩ : Room).frames ∧ 8 + (2 + 11) + (⟨2, 0, 0, 34⟩ : Room).locals ≤ (⟨4, 0, 0, 75⟩ : Room).locals := ⟨Nat.le_of_ble_eq_true rfl, Nat.le_of_ble_eq_true rfl⟩
  refine lv_iload_n hx hb (dg ddX4_hindranceOfOrder 0 rfl) rfl (lv_at hl 1 rfl) ?_
  by_cases h1 : a1 = 97
  · have hf := it_t h1 hf
    refine lv_lookup (off := 77) (tgt := 78) hx hb (dg ddX4_hindranceOfOrder 1 rfl) (by decide) (by rw [h1]; decide) (by decide) ?_
    refine lv_aload_n hx hb (dg ddX4_hindranceOfOrder 14 rfl) rfl (lv_at hl 0 rfl) ?_
    refine lv_iload_n hx hb (dg ddX4_hindranceOfOrder 15 rfl) rfl (lv_at hl 2 rfl) ?_
    obtain ⟨r3, e2, hf⟩ := ob_some hf
    refine crw_vi CX hml (As := [.int a2]) (rest := []) (c_X4_hindranceOfAnswer l D cy q x_isv x_te x_re x_de x_now x_spa x_sna x_len x_sig x_nxt x_cnt x_rng a2 _ e2) lk_RX4_199 rfl rfl hRMX4_hindranceOfAnswer hP hD hS hA hK hN 0 rfl rfl rfl hl.1 rfl (Nat.le_of_ble_eq_true rfl) ⟨Nat.le_of_ble_eq_true rfl, Nat.le_of_ble_eq_true rfl⟩ (dg ddX4_hindranceOfOrder 16 rfl) (fun H locs hP hD hS => ?_)
    cases hf
    exact e_wi CX hr hlk rfl hP hD hS (dg ddX4_hindranceOfOrder 17 rfl)
  have hf := it_f h1 hf
  by_cases h4 : a1 = 99
  · have hf := it_t h4 hf
    refine lv_lookup (off := 83) (tgt := 84) hx hb (dg ddX4_hindranceOfOrder 1 rfl) (by decide) (by rw [h4]; decide) (by decide) ?_
    refine lv_iload_n hx hb (dg ddX4_hindranceOfOrder 18 rfl) rfl (lv_at hl 2 rfl) ?_
    obtain ⟨r6, e5, hf⟩ := ob_some hf
    refine cro_si CX hml (As := [.int a2]) (rest := []) (c_X4_hindranceOfCrowd l D cy a2 e5) lk_RX4_50 rfl rfl hRMX4_hindranceOfCrowd vaP_nil hK hN rfl hl.1 rfl (Nat.le_of_ble_eq_true rfl) ⟨Nat.le_of_ble_eq_true rfl, Nat.le_of_ble_eq_true rfl⟩ (dg ddX4_hindranceOfOrder 19 rfl) ?_
    cases hf
    exact e_wi CX hr hlk rfl hP hD hS (dg ddX4_hindranceOfOrder 20 rfl)
  have hf := it_f h4 hf
  by_cases h7 : a1 = 112
  · have hf := it_t h7 hf
    refine lv_lookup (off := 88) (tgt := 89) hx hb (dg ddX4_hindranceOfOrder 1 rfl) (by decide) (by rw [h7]; decide) (by decide) ?_
    refine lv_iload_n hx hb (dg ddX4_hindranceOfOrder 21 rfl) rfl (lv_at hl 2 rfl) ?_
    obtain ⟨r9, e8, hf⟩ := ob_some hf
    refine cro_si CX hml (As := [.int a2]) (rest := []) (c_X4_hindranceOfPass l D cy a2 e8) lk_RX4_233 rfl rfl hRMX4_hindranceOfPass vaP_nil hK hN rfl hl.1 rfl (Nat.le_of_ble_eq_true rfl) ⟨Nat.le_of_ble_eq_true rfl, Nat.le_of_ble_eq_true rfl⟩ (dg ddX4_hindranceOfOrder 22 rfl) ?_
    cases hf
    exact e_wi CX hr hlk rfl hP hD hS (dg ddX4_hindranceOfOrder 23 rfl)
  have hf := it_f h7 hf
  by_cases h10 : a1 = 115
  · have hf := it_t h10 hf
    refine lv_lookup (off := 71) (tgt := 72) hx hb (dg ddX4_hindranceOfOrder 1 rfl) (by decide) (by rw [h10]; decide) (by decide) ?_
    refine lv_aload_n hx hb (dg ddX4_hindranceOfOrder 10 rfl) rfl (lv_at hl 0 rfl) ?_
    refine lv_iload_n hx hb (dg ddX4_hindranceOfOrder 11 rfl) rfl (lv_at hl 2 rfl) ?_
    obtain ⟨r12, e11, hf⟩ := ob_some hf
    refine crw_vi CX hml (As := [.int a2]) (rest := []) (c_X4_hindranceOfStrings l D cy q x_isv x_te x_re x_de x_now x_spa x_sna x_len x_sig x_nxt x_cnt x_rng a2 _ e11) lk_RX4_188 rfl rfl hRMX4_hindranceOfStrings hP hD hS hA hK hN 0 rfl rfl rfl hl.1 rfl (Nat.le_of_ble_eq_true rfl) ⟨Nat.le_of_ble_eq_true rfl, Nat.le_of_ble_eq_true rfl⟩ (dg ddX4_hindranceOfOrder 12 rfl) (fun H locs hP hD hS => ?_)
    cases hf
    exact e_wi CX hr hlk rfl hP hD hS (dg ddX4_hindranceOfOrder 13 rfl)
  have hf := it_f h10 hf
  by_cases h13 : a1 = 119
  · have hf := it_t h13 hf
    refine lv_lookup (off := 59) (tgt := 60) hx hb (dg ddX4_hindranceOfOrder 1 rfl) (by decide) (by rw [h13]; decide) (by decide) ?_
    refine lv_aload_n hx hb (dg ddX4_hindranceOfOrder 2 rfl) rfl (lv_at hl 0 rfl) ?_
    refine lv_iload_n hx hb (dg ddX4_hindranceOfOrder 3 rfl) rfl (lv_at hl 2 rfl) ?_
    obtain ⟨r15, e14, hf⟩ := ob_some hf
    refine crw_vi CX hml (As := [.int a2]) (rest := []) (c_X4_hindranceOfJoin l D cy q x_isv x_te x_re x_de x_now x_spa x_sna x_len x_sig x_nxt x_cnt x_rng a2 _ e14) lk_RX4_137 rfl rfl hRMX4_hindranceOfJoin hP hD hS hA hK hN 0 rfl rfl rfl hl.1 rfl (Nat.le_of_ble_eq_true rfl) ⟨Nat.le_of_ble_eq_true rfl, Nat.le_of_ble_eq_true rfl⟩ (dg ddX4_hindranceOfOrder 4 rfl) (fun H locs hP hD hS => ?_)
    cases hf
    exact e_wi CX hr hlk rfl hP hD hS (dg ddX4_hindranceOfOrder 5 rfl)
  have hf := it_f h13 hf
  by_cases h16 : a1 = 120
  · have hf := it_t h16 hf
    refine lv_lookup (off := 65) (tgt := 66) hx hb (dg ddX4_hindranceOfOrder 1 rfl) (by decide) (by rw [h16]; decide) (by decide) ?_
    refine lv_aload_n hx hb (dg ddX4_hindranceOfOrder 6 rfl) rfl (lv_at hl 0 rfl) ?_
    refine lv_iload_n hx hb (dg ddX4_hindranceOfOrder 7 rfl) rfl (lv_at hl 2 rfl) ?_
    obtain ⟨r18, e17, hf⟩ := ob_some hf
    refine crw_vi CX hml (As := [.int a2]) (rest := []) (c_X4_hindranceOfLeave l D cy q x_isv x_te x_re x_de x_now x_spa x_sna x_len x_sig x_nxt x_cnt x_rng a2 _ e17) lk_RX4_157 rfl rfl hRMX4_hindranceOfLeave hP hD hS hA hK hN 0 rfl rfl rfl hl.1 rfl (Nat.le_of_ble_eq_true rfl) ⟨Nat.le_of_ble_eq_true rfl, Nat.le_of_ble_eq_true rfl⟩ (dg ddX4_hindranceOfOrder 8 rfl) (fun H locs hP hD hS => ?_)
    cases hf
    exact e_wi CX hr hlk rfl hP hD hS (dg ddX4_hindranceOfOrder 9 rfl)
  have hf := it_f h16 hf
  refine lv_lookup (off := 93) (tgt := 94) hx hb (dg ddX4_hindranceOfOrder 1 rfl) (by decide) (by have g0 : (a1).toInt ≠ 97 := ne_ti h1 (by decide); have g1 : (a1).toInt ≠ 99 := ne_ti h4 (by decide); have g2 : (a1).toInt ≠ 112 := ne_ti h7 (by decide); have g3 : (a1).toInt ≠ 115 := ne_ti h10 (by decide); have g4 : (a1).toInt ≠ 119 := ne_ti h13 (by decide); have g5 : (a1).toInt ≠ 120 := ne_ti h16 (by decide); have k0 := g0.symm; have k1 := g1.symm; have k2 := g2.symm; have k3 := g3.symm; have k4 := g4.symm; have k5 := g5.symm; simp [Op.lookupswitch.offset, List.find?, *]) (by decide) ?_
  refine lv_iconst (v := 2) hx hb (dg ddX4_hindranceOfOrder 24 rfl) (by decide) ?_
  cases hf
  exact e_wi CX hr hlk rfl hP hD hS (dg ddX4_hindranceOfOrder 25 rfl)
def f_X4_doOrder (x_now : SV) (a1 : Int32) (a2 : Int32) : Option (SV) := if a1 = 97 then (ob (f_X3_answerComplaints (g_answered x_now) (g_cmp x_now) a2) fun r3 => (some (s_cmp (s_answered x_now r3.2.1) r3.2.2))) else (if a1 = 99 then (some (s_crowd x_now a2)) else (if a1 = 112 then (ob (f_X3_passHours (g_hour x_now) (g_crowd x_now) (g_lim x_now) (g_cmp x_now) (g_sof x_now) (g_kin x_now) (g_lou x_now) (g_pit x_now) (g_hrs x_now) (g_hat x_now) (g_wea x_now) (g_row x_now) a2) fun r7 => (some (s_row (s_wea (s_hat (s_hrs (s_pit (s_sof (s_cmp (s_hour x_now r7.2.1) r7.2.2.1) r7.2.2.2.1) r7.2.2.2.2.1) r7.2.2.2.2.2.1) r7.2.2.2.2.2.2.1) r7.2.2.2.2.2.2.2.1) r7.2.2.2.2.2.2.2.2))) else (if a1 = 115 then (ob (f_X3_buyStrings (g_nws x_now) (g_hat x_now) (g_wea x_now) a2) fun r10 => (some (s_wea (s_hat (s_nws x_now r10.1) r10.2.1) r10.2.2))) else (if a1 = 119 then (ob (f_X3_putInLine (g_pla x_now) a2) fun r13 => (some (s_pla x_now r13.2))) else (if a1 = 120 then (ob (f_X3_sendHomeFrom (g_pit x_now) a2) fun r16 => (some (s_pit x_now r16.2))) else (some x_now))))))
set_option maxHeartbeats 4000000 in
set_option maxRecDepth 100000 in
theorem c_X4_doOrder (l : Launch) (D : va_G) (cy : Nat → ClassId) (q : Nat → Nat → Nat) (x_isv : Int32) (x_te : Int32) (x_re : Int32) (x_de : Int32) (x_now : SV) (x_spa : SV) (x_sna : SV) (x_len : Int32) (x_sig : Nat → Int32) (x_nxt : Int32) (x_cnt : Int32) (x_rng : Nat → SV) (a1 : Int32) (a2 : Int32) (sz : Nat) {res : SV} (hf : f_X4_doOrder x_now a1 a2 = some res) : Met l yX4_doOrder (.code yX4_doOrder cX4_doOrder 3 none :: lw_all) { frames := 4, cells := 0, slots := 0, locals := 83 } (va_Pc [.ref (q 0 0), .int a1, .int a2] (sW D cy (wX4 q cy x_isv x_te x_re x_de x_now x_spa x_sna x_len x_sig x_nxt x_cnt x_rng) sz)) (qV D (wX4 q cy x_isv x_te x_re x_de res x_spa x_sna x_len x_sig x_nxt x_cnt x_rng) (va_A (wX4 q cy x_isv x_te x_re x_de x_now x_spa x_sna x_len x_sig x_nxt x_cnt x_rng) sz)) 0 0 (va_A (wX4 q cy x_isv x_te x_re x_de x_now x_spa x_sna x_len x_sig x_nxt x_cnt x_rng) sz) := by
  refine mk_rw (Qc := qV D (wX4 q cy x_isv x_te x_re x_de res x_spa x_sna x_len x_sig x_nxt x_cnt x_rng) ) (Rc := RX4) (by decide +kernel) rfl (Nat.le_of_ble_eq_true rfl) ?_
  intro p e s m args below meth c ls A CX hml hr hlk hK hN hP hD hS hA hl
  have hx := CX.1
  have hb := CX.2.1
  have hRMX3_answerComplaints : (⟨1, 0, 0, 12⟩ : Room).frames + 1 ≤ (⟨4, 0, 0, 83⟩ : Room).frames ∧ 8 + (3 + 11) + (⟨1, 0, 0, 12⟩ : Room).locals ≤ (⟨4, 0, 0, 83⟩ : Room).locals := ⟨Nat.le_of_ble_eq_true rfl, Nat.le_of_ble_eq_true rfl⟩
  have hRMX3_buyStrings : (⟨1, 0, 0, 12⟩ : Room).frames + 1 ≤ (⟨4, 0, 0, 83⟩ : Room).frames ∧ 8 + (2 + 11) + (⟨1, 0, 0, 12⟩ : Room).locals ≤ (⟨4, 0, 0, 83⟩ : Room).locals := ⟨Nat.le_of_ble_eq_true rfl, Nat.le_of_ble_eq_true rfl⟩
  have hRMX3_passHours : (⟨3, 0, 0, 58⟩ : Room).frames + 1 ≤ (⟨4, 0, 0, 83⟩ : Room).frames ∧ 8 + (6 + 11) + (⟨3, 0, 0, 58⟩ : Room).locals ≤ (⟨4, 0, 0, 83⟩ : Room).locals := ⟨Nat.le_of_ble_eq_true rfl, Nat.le_of_ble_eq_true rfl⟩
  have hRMX3_putInLine : (⟨2, 0, 0, 37⟩ : Room).frames + 1 ≤ (⟨4, 0, 0, 83⟩ : Room).frames ∧ 8 + (2 + 11) + (⟨2, 0, 0, 37⟩ : Room).locals ≤ (⟨4, 0, 0, 83⟩ : Room).locals := ⟨Nat.le_of_ble_eq_true rfl, Nat.le_of_ble_eq_true rfl⟩
  have hRMX3_sendHomeFrom : (⟨3, 0, 0, 54⟩ : Room).frames + 1 ≤ (⟨4, 0, 0, 83⟩ : Room).frames ∧ 8 + (3 + 11) + (⟨3, 0, 0, 54⟩ : Room).locals ≤ (⟨4, 0, 0, 83⟩ : Room).locals := ⟨Nat.le_of_ble_eq_true rfl, Nat.le_of_ble_eq_true rfl⟩
  refine lv_iload_n hx hb (dg ddX4_doOrder 0 rfl) rfl (lv_at hl 1 rfl) ?_
  by_cases h1 : a1 = 97
  · have hf := it_t h1 hf
    refine lv_lookup (off := 94) (tgt := 95) hx hb (dg ddX4_doOrder 1 rfl) (by decide) (by rw [h1]; decide) (by decide) ?_
    refine lv_aload_n hx hb (dg ddX4_doOrder 19 rfl) rfl (lv_at hl 0 rfl) ?_
    refine gf_RX4_10 CX hK hP 0 rfl rfl (dg ddX4_doOrder 20 rfl) ?_
    refine lv_iload_n hx hb (dg ddX4_doOrder 21 rfl) rfl (lv_at hl 2 rfl) ?_
    obtain ⟨r3, e2, hf⟩ := ob_some hf
    refine crf_vi CX hml (As := [.int a2]) (rest := []) (ws := (wX4 q cy x_isv x_te x_re x_de x_now x_spa x_sna x_len x_sig x_nxt x_cnt x_rng)) (wsn := (wX4 q cy x_isv x_te x_re x_de (s_cmp (s_answered x_now r3.2.1) r3.2.2) x_spa x_sna x_len x_sig x_nxt x_cnt x_rng)) (c_X3_answerComplaints l D cy (q 1) (g_hour x_now) (g_crowd x_now) (g_buskers x_now) (g_answered x_now) (g_draws x_now) (g_lim x_now) (g_cmp x_now) (g_sof x_now) (g_kin x_now) (g_lou x_now) (g_pit x_now) (g_pla x_now) (g_cas x_now) (g_hrs x_now) (g_nws x_now) (g_hat x_now) (g_wea x_now) (g_row x_now) a2 _ e2) lk_RX4_202 rfl rfl hRMX3_answerComplaints hP hD hS hA hK hN (pm_n _ _ _ _ _ _) ((pm_n _ _ _ _ _ _).symm) 0 rfl rfl rfl hl.1 rfl (Nat.le_of_ble_eq_true rfl) ⟨Nat.le_of_ble_eq_true rfl, Nat.le_of_ble_eq_true rfl⟩ (dg ddX4_doOrder 22 rfl) (fun H locs hP hD hS => ?_)
    refine lv_pop hx hb (dg ddX4_doOrder 23 rfl) rfl ?_
    refine lv_goto (tgt := 130) hx hb (dg ddX4_doOrder 24 rfl) (by decide) ?_
    cases hf
    exact e_wv CX hr hlk hP hD hS (dg ddX4_doOrder 36 rfl)
  have hf := it_f h1 hf
  by_cases h4 : a1 = 99
  · have hf := it_t h4 hf
    refine lv_lookup (off := 106) (tgt := 107) hx hb (dg ddX4_doOrder 1 rfl) (by decide) (by rw [h4]; decide) (by decide) ?_
    refine lv_aload_n hx hb (dg ddX4_doOrder 25 rfl) rfl (lv_at hl 0 rfl) ?_
    refine gf_RX4_10 CX hK hP 0 rfl rfl (dg ddX4_doOrder 26 rfl) ?_
    refine lv_iload_n hx hb (dg ddX4_doOrder 27 rfl) rfl (lv_at hl 2 rfl) ?_
    refine pf_RX4_62 CX hK hP hD hS 1 rfl (dg ddX4_doOrder 28 rfl) (Nat.le_of_ble_eq_true rfl) (fun H locs hP hD hS => ?_)
    have hP : va_P D vwCl (wX4 q cy x_isv x_te x_re x_de (s_crowd x_now a2) x_spa x_sna x_len x_sig x_nxt x_cnt x_rng) H := hP
    have hD : va_D A (wX4 q cy x_isv x_te x_re x_de (s_crowd x_now a2) x_spa x_sna x_len x_sig x_nxt x_cnt x_rng) := hD
    refine lv_goto (tgt := 130) hx hb (dg ddX4_doOrder 29 rfl) (by decide) ?_
    cases hf
    exact e_wv CX hr hlk hP hD hS (dg ddX4_doOrder 36 rfl)
  have hf := it_f h4 hf
  by_cases h5 : a1 = 112
  · have hf := it_t h5 hf
    refine lv_lookup (off := 117) (tgt := 118) hx hb (dg ddX4_doOrder 1 rfl) (by decide) (by rw [h5]; decide) (by decide) ?_
    refine lv_aload_n hx hb (dg ddX4_doOrder 30 rfl) rfl (lv_at hl 0 rfl) ?_
    refine gf_RX4_10 CX hK hP 0 rfl rfl (dg ddX4_doOrder 31 rfl) ?_
    refine lv_iload_n hx hb (dg ddX4_doOrder 32 rfl) rfl (lv_at hl 2 rfl) ?_
    obtain ⟨r7, e6, hf⟩ := ob_some hf
    refine crf_vi CX hml (As := [.int a2]) (rest := []) (ws := (wX4 q cy x_isv x_te x_re x_de x_now x_spa x_sna x_len x_sig x_nxt x_cnt x_rng)) (wsn := (wX4 q cy x_isv x_te x_re x_de (s_row (s_wea (s_hat (s_hrs (s_pit (s_sof (s_cmp (s_hour x_now r7.2.1) r7.2.2.1) r7.2.2.2.1) r7.2.2.2.2.1) r7.2.2.2.2.2.1) r7.2.2.2.2.2.2.1) r7.2.2.2.2.2.2.2.1) r7.2.2.2.2.2.2.2.2) x_spa x_sna x_len x_sig x_nxt x_cnt x_rng)) (c_X3_passHours l D cy (q 1) (g_hour x_now) (g_crowd x_now) (g_buskers x_now) (g_answered x_now) (g_draws x_now) (g_lim x_now) (g_cmp x_now) (g_sof x_now) (g_kin x_now) (g_lou x_now) (g_pit x_now) (g_pla x_now) (g_cas x_now) (g_hrs x_now) (g_nws x_now) (g_hat x_now) (g_wea x_now) (g_row x_now) a2 _ e6) lk_RX4_236 rfl rfl hRMX3_passHours hP hD hS hA hK hN (pm_n _ _ _ _ _ _) ((pm_n _ _ _ _ _ _).symm) 0 rfl rfl rfl hl.1 rfl (Nat.le_of_ble_eq_true rfl) ⟨Nat.le_of_ble_eq_true rfl, Nat.le_of_ble_eq_true rfl⟩ (dg ddX4_doOrder 33 rfl) (fun H locs hP hD hS => ?_)
    refine lv_pop hx hb (dg ddX4_doOrder 34 rfl) rfl ?_
    refine lv_goto (tgt := 130) hx hb (dg ddX4_doOrder 35 rfl) (by decide) ?_
    cases hf
    exact e_wv CX hr hlk hP hD hS (dg ddX4_doOrder 36 rfl)
  have hf := it_f h5 hf
  by_cases h8 : a1 = 115
  · have hf := it_t h8 hf
    refine lv_lookup (off := 83) (tgt := 84) hx hb (dg ddX4_doOrder 1 rfl) (by decide) (by rw [h8]; decide) (by decide) ?_
    refine lv_aload_n hx hb (dg ddX4_doOrder 14 rfl) rfl (lv_at hl 0 rfl) ?_
    refine gf_RX4_10 CX hK hP 0 rfl rfl (dg ddX4_doOrder 15 rfl) ?_
    refine lv_iload_n hx hb (dg ddX4_doOrder 16 rfl) rfl (lv_at hl 2 rfl) ?_
    obtain ⟨r10, e9, hf⟩ := ob_some hf
    refine crf_vv CX hml (As := [.int a2]) (rest := []) (ws := (wX4 q cy x_isv x_te x_re x_de x_now x_spa x_sna x_len x_sig x_nxt x_cnt x_rng)) (wsn := (wX4 q cy x_isv x_te x_re x_de (s_wea (s_hat (s_nws x_now r10.1) r10.2.1) r10.2.2) x_spa x_sna x_len x_sig x_nxt x_cnt x_rng)) (c_X3_buyStrings l D cy (q 1) (g_hour x_now) (g_crowd x_now) (g_buskers x_now) (g_answered x_now) (g_draws x_now) (g_lim x_now) (g_cmp x_now) (g_sof x_now) (g_kin x_now) (g_lou x_now) (g_pit x_now) (g_pla x_now) (g_cas x_now) (g_hrs x_now) (g_nws x_now) (g_hat x_now) (g_wea x_now) (g_row x_now) a2 _ e9) lk_RX4_191 rfl rfl hRMX3_buyStrings hP hD hS hA hK hN (pm_n _ _ _ _ _ _) ((pm_n _ _ _ _ _ _).symm) 0 rfl rfl rfl hl.1 rfl (Nat.le_of_ble_eq_true rfl) ⟨Nat.le_of_ble_eq_true rfl, Nat.le_of_ble_eq_true rfl⟩ (dg ddX4_doOrder 17 rfl) (fun H locs hP hD hS => ?_)
    refine lv_goto (tgt := 130) hx hb (dg ddX4_doOrder 18 rfl) (by decide) ?_
    cases hf
    exact e_wv CX hr hlk hP hD hS (dg ddX4_doOrder 36 rfl)
  have hf := it_f h8 hf
  by_cases h11 : a1 = 119
  · have hf := it_t h11 hf
    refine lv_lookup (off := 59) (tgt := 60) hx hb (dg ddX4_doOrder 1 rfl) (by decide) (by rw [h11]; decide) (by decide) ?_
    refine lv_aload_n hx hb (dg ddX4_doOrder 2 rfl) rfl (lv_at hl 0 rfl) ?_
    refine gf_RX4_10 CX hK hP 0 rfl rfl (dg ddX4_doOrder 3 rfl) ?_
    refine lv_iload_n hx hb (dg ddX4_doOrder 4 rfl) rfl (lv_at hl 2 rfl) ?_
    obtain ⟨r13, e12, hf⟩ := ob_some hf
    refine crf_vi CX hml (As := [.int a2]) (rest := []) (ws := (wX4 q cy x_isv x_te x_re x_de x_now x_spa x_sna x_len x_sig x_nxt x_cnt x_rng)) (wsn := (wX4 q cy x_isv x_te x_re x_de (s_pla x_now r13.2) x_spa x_sna x_len x_sig x_nxt x_cnt x_rng)) (c_X3_putInLine l D cy (q 1) (g_hour x_now) (g_crowd x_now) (g_buskers x_now) (g_answered x_now) (g_draws x_now) (g_lim x_now) (g_cmp x_now) (g_sof x_now) (g_kin x_now) (g_lou x_now) (g_pit x_now) (g_pla x_now) (g_cas x_now) (g_hrs x_now) (g_nws x_now) (g_hat x_now) (g_wea x_now) (g_row x_now) a2 _ e12) lk_RX4_140 rfl rfl hRMX3_putInLine hP hD hS hA hK hN (pm_n _ _ _ _ _ _) ((pm_n _ _ _ _ _ _).symm) 0 rfl rfl rfl hl.1 rfl (Nat.le_of_ble_eq_true rfl) ⟨Nat.le_of_ble_eq_true rfl, Nat.le_of_ble_eq_true rfl⟩ (dg ddX4_doOrder 5 rfl) (fun H locs hP hD hS => ?_)
    refine lv_pop hx hb (dg ddX4_doOrder 6 rfl) rfl ?_
    refine lv_goto (tgt := 130) hx hb (dg ddX4_doOrder 7 rfl) (by decide) ?_
    cases hf
    exact e_wv CX hr hlk hP hD hS (dg ddX4_doOrder 36 rfl)
  have hf := it_f h11 hf
  by_cases h14 : a1 = 120
  · have hf := it_t h14 hf
    refine lv_lookup (off := 71) (tgt := 72) hx hb (dg ddX4_doOrder 1 rfl) (by decide) (by rw [h14]; decide) (by decide) ?_
    refine lv_aload_n hx hb (dg ddX4_doOrder 8 rfl) rfl (lv_at hl 0 rfl) ?_
    refine gf_RX4_10 CX hK hP 0 rfl rfl (dg ddX4_doOrder 9 rfl) ?_
    refine lv_iload_n hx hb (dg ddX4_doOrder 10 rfl) rfl (lv_at hl 2 rfl) ?_
    obtain ⟨r16, e15, hf⟩ := ob_some hf
    refine crf_vi CX hml (As := [.int a2]) (rest := []) (ws := (wX4 q cy x_isv x_te x_re x_de x_now x_spa x_sna x_len x_sig x_nxt x_cnt x_rng)) (wsn := (wX4 q cy x_isv x_te x_re x_de (s_pit x_now r16.2) x_spa x_sna x_len x_sig x_nxt x_cnt x_rng)) (c_X3_sendHomeFrom l D cy (q 1) (g_hour x_now) (g_crowd x_now) (g_buskers x_now) (g_answered x_now) (g_draws x_now) (g_lim x_now) (g_cmp x_now) (g_sof x_now) (g_kin x_now) (g_lou x_now) (g_pit x_now) (g_pla x_now) (g_cas x_now) (g_hrs x_now) (g_nws x_now) (g_hat x_now) (g_wea x_now) (g_row x_now) a2 _ e15) lk_RX4_160 rfl rfl hRMX3_sendHomeFrom hP hD hS hA hK hN (pm_n _ _ _ _ _ _) ((pm_n _ _ _ _ _ _).symm) 0 rfl rfl rfl hl.1 rfl (Nat.le_of_ble_eq_true rfl) ⟨Nat.le_of_ble_eq_true rfl, Nat.le_of_ble_eq_true rfl⟩ (dg ddX4_doOrder 11 rfl) (fun H locs hP hD hS => ?_)
    refine lv_pop hx hb (dg ddX4_doOrder 12 rfl) rfl ?_
    refine lv_goto (tgt := 130) hx hb (dg ddX4_doOrder 13 rfl) (by decide) ?_
    cases hf
    exact e_wv CX hr hlk hP hD hS (dg ddX4_doOrder 36 rfl)
  have hf := it_f h14 hf
  refine lv_lookup (off := 129) (tgt := 130) hx hb (dg ddX4_doOrder 1 rfl) (by decide) (by have g0 : (a1).toInt ≠ 97 := ne_ti h1 (by decide); have g1 : (a1).toInt ≠ 99 := ne_ti h4 (by decide); have g2 : (a1).toInt ≠ 112 := ne_ti h5 (by decide); have g3 : (a1).toInt ≠ 115 := ne_ti h8 (by decide); have g4 : (a1).toInt ≠ 119 := ne_ti h11 (by decide); have g5 : (a1).toInt ≠ 120 := ne_ti h14 (by decide); have k0 := g0.symm; have k1 := g1.symm; have k2 := g2.symm; have k3 := g3.symm; have k4 := g4.symm; have k5 := g5.symm; simp [Op.lookupswitch.offset, List.find?, *]) (by decide) ?_
  cases hf
  exact e_wv CX hr hlk hP hD hS (dg ddX4_doOrder 36 rfl)
def f_X4_carryOutOrder (x_re : Int32) (x_de : Int32) (x_now : SV) (x_len : Int32) (x_sig : Nat → Int32) (a1 : Int32) (a2 : Int32) : Option (Int32 × Int32 × Int32 × SV) := ob (f_X2_signAt x_len x_sig a1) fun r2 => (if r2 = 100 then (ob (f_X2_numberIn x_len x_sig (a1 + 1) (a1 + 2)) fun r12 => (ob (f_X2_numberIn x_len x_sig (a1 + 3) a2) fun r14 => (ob (f_X4_tryDraw x_re x_de x_now r12 r14) fun r16 => (some (r16.1, r16.2.1, r16.2.2.1, r16.2.2.2))))) else (ob (f_X2_numberIn x_len x_sig (a1 + 1) a2) fun r5 => (ob (f_X4_hindranceOfOrder x_re x_de x_now r2 r5) fun r7 => (if r7.1 = 0 then (ob (f_X4_doOrder x_now r2 r5) fun r10 => (some (r7.1, r7.2.1, r7.2.2, r10))) else (some (r7.1, r7.2.1, r7.2.2, x_now))))))
set_option maxHeartbeats 4000000 in
set_option maxRecDepth 100000 in
theorem c_X4_carryOutOrder (l : Launch) (D : va_G) (cy : Nat → ClassId) (q : Nat → Nat → Nat) (x_isv : Int32) (x_te : Int32) (x_re : Int32) (x_de : Int32) (x_now : SV) (x_spa : SV) (x_sna : SV) (x_len : Int32) (x_sig : Nat → Int32) (x_nxt : Int32) (x_cnt : Int32) (x_rng : Nat → SV) (a1 : Int32) (a2 : Int32) (sz : Nat) {res : Int32 × Int32 × Int32 × SV} (hf : f_X4_carryOutOrder x_re x_de x_now x_len x_sig a1 a2 = some res) : Met l yX4_carryOutOrder (.code yX4_carryOutOrder cX4_carryOutOrder 6 (some .int) :: lw_all) { frames := 5, cells := 0, slots := 0, locals := 105 } (va_Pc [.ref (q 0 0), .int a1, .int a2] (sW D cy (wX4 q cy x_isv x_te x_re x_de x_now x_spa x_sna x_len x_sig x_nxt x_cnt x_rng) sz)) (qI D (wX4 q cy x_isv x_te res.2.1 res.2.2.1 res.2.2.2 x_spa x_sna x_len x_sig x_nxt x_cnt x_rng) res.1 (va_A (wX4 q cy x_isv x_te x_re x_de x_now x_spa x_sna x_len x_sig x_nxt x_cnt x_rng) sz)) 0 0 (va_A (wX4 q cy x_isv x_te x_re x_de x_now x_spa x_sna x_len x_sig x_nxt x_cnt x_rng) sz) := by
  refine mk_rw (Qc := qI D (wX4 q cy x_isv x_te res.2.1 res.2.2.1 res.2.2.2 x_spa x_sna x_len x_sig x_nxt x_cnt x_rng) res.1) (Rc := RX4) (by decide +kernel) rfl (Nat.le_of_ble_eq_true rfl) ?_
  intro p e s m args below meth c ls A CX hml hr hlk hK hN hP hD hS hA hl
  have hx := CX.1
  have hb := CX.2.1
  have hRMX2_numberIn : (⟨2, 0, 0, 33⟩ : Room).frames + 1 ≤ (⟨5, 0, 0, 105⟩ : Room).frames ∧ 8 + (5 + 11) + (⟨2, 0, 0, 33⟩ : Room).locals ≤ (⟨5, 0, 0, 105⟩ : Room).locals := ⟨Nat.le_of_ble_eq_true rfl, Nat.le_of_ble_eq_true rfl⟩
  have hRMX2_signAt : (⟨1, 0, 0, 12⟩ : Room).frames + 1 ≤ (⟨5, 0, 0, 105⟩ : Room).frames ∧ 8 + (2 + 11) + (⟨1, 0, 0, 12⟩ : Room).locals ≤ (⟨5, 0, 0, 105⟩ : Room).locals := ⟨Nat.le_of_ble_eq_true rfl, Nat.le_of_ble_eq_true rfl⟩
  have hRMX4_doOrder : (⟨4, 0, 0, 83⟩ : Room).frames + 1 ≤ (⟨5, 0, 0, 105⟩ : Room).frames ∧ 8 + (3 + 11) + (⟨4, 0, 0, 83⟩ : Room).locals ≤ (⟨5, 0, 0, 105⟩ : Room).locals := ⟨Nat.le_of_ble_eq_true rfl, Nat.le_of_ble_eq_true rfl⟩
  have hRMX4_hindranceOfOrder : (⟨4, 0, 0, 75⟩ : Room).frames + 1 ≤ (⟨5, 0, 0, 105⟩ : Room).frames ∧ 8 + (3 + 11) + (⟨4, 0, 0, 75⟩ : Room).locals ≤ (⟨5, 0, 0, 105⟩ : Room).locals := ⟨Nat.le_of_ble_eq_true rfl, Nat.le_of_ble_eq_true rfl⟩
  have hRMX4_tryDraw : (⟨4, 0, 0, 76⟩ : Room).frames + 1 ≤ (⟨5, 0, 0, 105⟩ : Room).frames ∧ 8 + (4 + 11) + (⟨4, 0, 0, 76⟩ : Room).locals ≤ (⟨5, 0, 0, 105⟩ : Room).locals := ⟨Nat.le_of_ble_eq_true rfl, Nat.le_of_ble_eq_true rfl⟩
  refine lv_aload_n hx hb (dg ddX4_carryOutOrder 0 rfl) rfl (lv_at hl 0 rfl) ?_
  refine gf_RX4_36 CX hK hP 0 rfl rfl (dg ddX4_carryOutOrder 1 rfl) ?_
  refine lv_iload_n hx hb (dg ddX4_carryOutOrder 2 rfl) rfl (lv_at hl 1 rfl) ?_
  obtain ⟨r2, e1, hf⟩ := ob_some hf
  refine cro_vi CX hml (As := [.int a1]) (rest := []) (c_X2_signAt l D cy (q 5) x_len x_sig a1 e1) lk_RX4_354 rfl rfl hRMX2_signAt (vaP_l (vaP_perm (pm_i _ _ _ _ _ _) hP)) hK hN 0 rfl rfl rfl hl.1 rfl (Nat.le_of_ble_eq_true rfl) ⟨Nat.le_of_ble_eq_true rfl, Nat.le_of_ble_eq_true rfl⟩ (dg ddX4_carryOutOrder 3 rfl) ?_
  refine lv_istore_n (lv' := [(3, .int r2), (0, .ref (q 0 0)), (1, .int a1), (2, .int a2)]) hx hb (dg ddX4_carryOutOrder 4 rfl) rfl hl (by decide) rfl (fun ls hl => ?_)
  refine lv_iload_n hx hb (dg ddX4_carryOutOrder 5 rfl) rfl (lv_at hl 0 rfl) ?_
  refine lv_bipush (v := 100) hx hb (dg ddX4_carryOutOrder 6 rfl) (by decide) ?_
  refine lv_icmp_ne (tgt := 44) hx hb (dg ddX4_carryOutOrder 7 rfl) (by decide) (fun h3 => ?_) (fun h3 => ?_)
  · have hf := it_f h3 hf
    refine lv_aload_n hx hb (dg ddX4_carryOutOrder 27 rfl) rfl (lv_at hl 1 rfl) ?_
    refine gf_RX4_36 CX hK hP 0 rfl rfl (dg ddX4_carryOutOrder 28 rfl) ?_
    refine lv_iload_n hx hb (dg ddX4_carryOutOrder 29 rfl) rfl (lv_at hl 2 rfl) ?_
    refine lv_iconst (v := 1) hx hb (dg ddX4_carryOutOrder 30 rfl) (by decide) ?_
    refine lv_iadd hx hb (dg ddX4_carryOutOrder 31 rfl) ?_
    refine lv_iload_n hx hb (dg ddX4_carryOutOrder 32 rfl) rfl (lv_at hl 3 rfl) ?_
    obtain ⟨r5, e4, hf⟩ := ob_some hf
    refine cro_vi CX hml (As := [.int (a1 + 1), .int a2]) (rest := []) (c_X2_numberIn l D cy (q 5) x_len x_sig (a1 + 1) a2 e4) lk_RX4_361 rfl rfl hRMX2_numberIn (vaP_l (vaP_perm (pm_i _ _ _ _ _ _) hP)) hK hN 0 rfl rfl rfl hl.1 rfl (Nat.le_of_ble_eq_true rfl) ⟨Nat.le_of_ble_eq_true rfl, Nat.le_of_ble_eq_true rfl⟩ (dg ddX4_carryOutOrder 33 rfl) ?_
    refine lv_istore (lv' := [(4, .int r5), (3, .int r2), (0, .ref (q 0 0)), (1, .int a1), (2, .int a2)]) hx hb (dg ddX4_carryOutOrder 34 rfl) hl (by decide) rfl (fun ls hl => ?_)
    refine lv_aload_n hx hb (dg ddX4_carryOutOrder 35 rfl) rfl (lv_at hl 2 rfl) ?_
    refine lv_iload_n hx hb (dg ddX4_carryOutOrder 36 rfl) rfl (lv_at hl 1 rfl) ?_
    refine lv_iload hx hb (dg ddX4_carryOutOrder 37 rfl) (lv_at hl 0 rfl) ?_
    obtain ⟨r7, e6, hf⟩ := ob_some hf
    refine crw_vi CX hml (As := [.int r2, .int r5]) (rest := []) (c_X4_hindranceOfOrder l D cy q x_isv x_te x_re x_de x_now x_spa x_sna x_len x_sig x_nxt x_cnt x_rng r2 r5 _ e6) lk_RX4_367 rfl rfl hRMX4_hindranceOfOrder hP hD hS hA hK hN 0 rfl rfl rfl hl.1 rfl (Nat.le_of_ble_eq_true rfl) ⟨Nat.le_of_ble_eq_true rfl, Nat.le_of_ble_eq_true rfl⟩ (dg ddX4_carryOutOrder 38 rfl) (fun H locs hP hD hS => ?_)
    refine lv_istore (lv' := [(5, .int r7.1), (4, .int r5), (3, .int r2), (0, .ref (q 0 0)), (1, .int a1), (2, .int a2)]) hx hb (dg ddX4_carryOutOrder 39 rfl) hl (by decide) rfl (fun ls hl => ?_)
    refine lv_iload hx hb (dg ddX4_carryOutOrder 40 rfl) (lv_at hl 0 rfl) ?_
    refine lv_if_ne (tgt := 78) hx hb (dg ddX4_carryOutOrder 41 rfl) (by decide) (fun h8 => ?_) (fun h8 => ?_)
    · have hf := it_f h8 hf
      refine lv_iload hx hb (dg ddX4_carryOutOrder 46 rfl) (lv_at hl 0 rfl) ?_
      cases hf
      exact e_wi CX hr hlk rfl hP hD hS (dg ddX4_carryOutOrder 47 rfl)
    · have hf := it_t h8 hf
      refine lv_aload_n hx hb (dg ddX4_carryOutOrder 42 rfl) rfl (lv_at hl 3 rfl) ?_
      refine lv_iload_n hx hb (dg ddX4_carryOutOrder 43 rfl) rfl (lv_at hl 2 rfl) ?_
      refine lv_iload hx hb (dg ddX4_carryOutOrder 44 rfl) (lv_at hl 1 rfl) ?_
      obtain ⟨r10, e9, hf⟩ := ob_some hf
      refine crw_vv CX hml (As := [.int r2, .int r5]) (rest := []) (c_X4_doOrder l D cy q x_isv x_te r7.2.1 r7.2.2 x_now x_spa x_sna x_len x_sig x_nxt x_cnt x_rng r2 r5 _ e9) lk_RX4_371 rfl rfl hRMX4_doOrder hP hD hS hA hK hN 0 rfl rfl rfl hl.1 rfl (Nat.le_of_ble_eq_true rfl) ⟨Nat.le_of_ble_eq_true rfl, Nat.le_of_ble_eq_true rfl⟩ (dg ddX4_carryOutOrder 45 rfl) (fun H locs hP hD hS => ?_)
      refine lv_iload hx hb (dg ddX4_carryOutOrder 46 rfl) (lv_at hl 0 rfl) ?_
      cases hf
      exact e_wi CX hr hlk rfl hP hD hS (dg ddX4_carryOutOrder 47 rfl)
  · have hf := it_t h3 hf
    refine lv_aload_n hx hb (dg ddX4_carryOutOrder 8 rfl) rfl (lv_at hl 1 rfl) ?_
    refine lv_aload_n hx hb (dg ddX4_carryOutOrder 9 rfl) rfl (lv_at hl 1 rfl) ?_
    refine gf_RX4_36 CX hK hP 0 rfl rfl (dg ddX4_carryOutOrder 10 rfl) ?_
    refine lv_iload_n hx hb (dg ddX4_carryOutOrder 11 rfl) rfl (lv_at hl 2 rfl) ?_
    refine lv_iconst (v := 1) hx hb (dg ddX4_carryOutOrder 12 rfl) (by decide) ?_
    refine lv_iadd hx hb (dg ddX4_carryOutOrder 13 rfl) ?_
    refine lv_iload_n hx hb (dg ddX4_carryOutOrder 14 rfl) rfl (lv_at hl 2 rfl) ?_
    refine lv_iconst (v := 2) hx hb (dg ddX4_carryOutOrder 15 rfl) (by decide) ?_
    refine lv_iadd hx hb (dg ddX4_carryOutOrder 16 rfl) ?_
    obtain ⟨r12, e11, hf⟩ := ob_some hf
    refine cro_vi CX hml (As := [.int (a1 + 1), .int (a1 + 2)]) (rest := [.ref (q 0 0)]) (c_X2_numberIn l D cy (q 5) x_len x_sig (a1 + 1) (a1 + 2) e11) lk_RX4_361 rfl rfl hRMX2_numberIn (vaP_l (vaP_perm (pm_i _ _ _ _ _ _) hP)) hK hN 0 rfl rfl rfl hl.1 rfl (Nat.le_of_ble_eq_true rfl) ⟨Nat.le_of_ble_eq_true rfl, Nat.le_of_ble_eq_true rfl⟩ (dg ddX4_carryOutOrder 17 rfl) ?_
    refine lv_aload_n hx hb (dg ddX4_carryOutOrder 18 rfl) rfl (lv_at hl 1 rfl) ?_
    refine gf_RX4_36 CX hK hP 0 rfl rfl (dg ddX4_carryOutOrder 19 rfl) ?_
    refine lv_iload_n hx hb (dg ddX4_carryOutOrder 20 rfl) rfl (lv_at hl 2 rfl) ?_
    refine lv_iconst (v := 3) hx hb (dg ddX4_carryOutOrder 21 rfl) (by decide) ?_
    refine lv_iadd hx hb (dg ddX4_carryOutOrder 22 rfl) ?_
    refine lv_iload_n hx hb (dg ddX4_carryOutOrder 23 rfl) rfl (lv_at hl 3 rfl) ?_
    obtain ⟨r14, e13, hf⟩ := ob_some hf
    refine cro_vi CX hml (As := [.int (a1 + 3), .int a2]) (rest := [.int r12, .ref (q 0 0)]) (c_X2_numberIn l D cy (q 5) x_len x_sig (a1 + 3) a2 e13) lk_RX4_361 rfl rfl hRMX2_numberIn (vaP_l (vaP_perm (pm_i _ _ _ _ _ _) hP)) hK hN 0 rfl rfl rfl hl.1 rfl (Nat.le_of_ble_eq_true rfl) ⟨Nat.le_of_ble_eq_true rfl, Nat.le_of_ble_eq_true rfl⟩ (dg ddX4_carryOutOrder 24 rfl) ?_
    obtain ⟨r16, e15, hf⟩ := ob_some hf
    refine crw_vi CX hml (As := [.int r12, .int r14]) (rest := []) (c_X4_tryDraw l D cy q x_isv x_te x_re x_de x_now x_spa x_sna x_len x_sig x_nxt x_cnt x_rng r12 r14 _ e15) lk_RX4_364 rfl rfl hRMX4_tryDraw hP hD hS hA hK hN 0 rfl rfl rfl hl.1 rfl (Nat.le_of_ble_eq_true rfl) ⟨Nat.le_of_ble_eq_true rfl, Nat.le_of_ble_eq_true rfl⟩ (dg ddX4_carryOutOrder 25 rfl) (fun H locs hP hD hS => ?_)
    cases hf
    exact e_wi CX hr hlk rfl hP hD hS (dg ddX4_carryOutOrder 26 rfl)
def f_X4_carryOut_c44 (rec6 : Int32 → Int32 → Int32 → Int32 → Int32 → SV → Option (Int32 × Int32 × Int32 × SV)) (x_len : Int32) (x_sig : Nat → Int32) (x1 : Int32) (x2 : Int32) (x3 : Int32) (x_re : Int32) (x_de : Int32) (x_now : SV) : Option (Int32 × Int32 × Int32 × SV) := ob (f_X4_carryOutOrder x_re x_de x_now x_len x_sig x2 x3) fun r2 => (if r2.1 = 0 then (rec6 (x1 + 1) (x3 + 1) (x3 + 1) r2.2.1 r2.2.2.1 r2.2.2.2) else (some ((-r2.1), r2.2.1, r2.2.2.1, r2.2.2.2)))
def f_X4_carryOut_c6  (x_len : Int32) (x_sig : Nat → Int32) : Nat → Int32 → Int32 → Int32 → Int32 → Int32 → SV → Option (Int32 × Int32 × Int32 × SV)
  | 0, _, _, _, _, _, _ => none
  | n + 1, x1, x2, x3, x_re, x_de, x_now => if x_len < x3 then (some (x1, x_re, x_de, x_now)) else (if x_len ≤ x3 then (f_X4_carryOut_c44 (f_X4_carryOut_c6 x_len x_sig n) x_len x_sig x1 x2 x3 x_re x_de x_now) else (ob (f_X2_signAt x_len x_sig x3) fun r4 => (if r4 = 59 then (f_X4_carryOut_c44 (f_X4_carryOut_c6 x_len x_sig n) x_len x_sig x1 x2 x3 x_re x_de x_now) else (f_X4_carryOut_c6 x_len x_sig n x1 x2 (x3 + 1) x_re x_de x_now))))
def f_X4_carryOut (x_re : Int32) (x_de : Int32) (x_now : SV) (x_len : Int32) (x_sig : Nat → Int32) : Option (Int32 × Int32 × Int32 × SV) := f_X4_carryOut_c6 x_len x_sig 4096 0 0 0 x_re x_de x_now
set_option maxHeartbeats 4000000 in
set_option maxRecDepth 100000 in
theorem c_X4_carryOut (l : Launch) (D : va_G) (cy : Nat → ClassId) (q : Nat → Nat → Nat) (x_isv : Int32) (x_te : Int32) (x_re : Int32) (x_de : Int32) (x_now : SV) (x_spa : SV) (x_sna : SV) (x_len : Int32) (x_sig : Nat → Int32) (x_nxt : Int32) (x_cnt : Int32) (x_rng : Nat → SV) (sz : Nat) {res : Int32 × Int32 × Int32 × SV} (hf : f_X4_carryOut x_re x_de x_now x_len x_sig = some res) : Met l yX4_carryOut (.code yX4_carryOut cX4_carryOut 5 (some .int) :: lw_all) { frames := 6, cells := 0, slots := 0, locals := 130 } (va_Pc [.ref (q 0 0)] (sW D cy (wX4 q cy x_isv x_te x_re x_de x_now x_spa x_sna x_len x_sig x_nxt x_cnt x_rng) sz)) (qI D (wX4 q cy x_isv x_te res.2.1 res.2.2.1 res.2.2.2 x_spa x_sna x_len x_sig x_nxt x_cnt x_rng) res.1 (va_A (wX4 q cy x_isv x_te x_re x_de x_now x_spa x_sna x_len x_sig x_nxt x_cnt x_rng) sz)) 0 0 (va_A (wX4 q cy x_isv x_te x_re x_de x_now x_spa x_sna x_len x_sig x_nxt x_cnt x_rng) sz) := by
  refine mk_rw (Qc := qI D (wX4 q cy x_isv x_te res.2.1 res.2.2.1 res.2.2.2 x_spa x_sna x_len x_sig x_nxt x_cnt x_rng) res.1) (Rc := RX4) (by decide +kernel) rfl (Nat.le_of_ble_eq_true rfl) ?_
  intro p e s m args below meth c ls A CX hml hr hlk hK hN hP hD hS hA hl
  have hx := CX.1
  have hb := CX.2.1
  have hRMX2_signAt : (⟨1, 0, 0, 12⟩ : Room).frames + 1 ≤ (⟨6, 0, 0, 130⟩ : Room).frames ∧ 8 + (2 + 11) + (⟨1, 0, 0, 12⟩ : Room).locals ≤ (⟨6, 0, 0, 130⟩ : Room).locals := ⟨Nat.le_of_ble_eq_true rfl, Nat.le_of_ble_eq_true rfl⟩
  have hRMX4_carryOutOrder : (⟨5, 0, 0, 105⟩ : Room).frames + 1 ≤ (⟨6, 0, 0, 130⟩ : Room).frames ∧ 8 + (6 + 11) + (⟨5, 0, 0, 105⟩ : Room).locals ≤ (⟨6, 0, 0, 130⟩ : Room).locals := ⟨Nat.le_of_ble_eq_true rfl, Nat.le_of_ble_eq_true rfl⟩
  have hl0 := hl
  have K44 : ∀ (rec6 : Int32 → Int32 → Int32 → Int32 → Int32 → SV → Option (Int32 × Int32 × Int32 × SV)) (hrec6 : ∀ (x1 : Int32) (x2 : Int32) (x3 : Int32) (x_re : Int32) (x_de : Int32) (x_now : SV) (H : Heap) (locs : List Loc) (hP : va_P D vwCl (wX4 q cy x_isv x_te x_re x_de x_now x_spa x_sna x_len x_sig x_nxt x_cnt x_rng) H) (hD : va_D A (wX4 q cy x_isv x_te x_re x_de x_now x_spa x_sna x_len x_sig x_nxt x_cnt x_rng)) (hS : va_S A s.heap H locs) (ls : Array Slot) (hl : lv_has ls 5 [(0, .ref (q 0 0)), (1, .int x1), (2, .int x2), (3, .int x3)]) (hf : rec6 x1 x2 x3 x_re x_de x_now = some res), W p l e ⟨6, 0, 0, 130⟩ s m args below meth c H locs 0 0 (MQ below (qI D (wX4 q cy x_isv x_te res.2.1 res.2.2.1 res.2.2.2 x_spa x_sna x_len x_sig x_nxt x_cnt x_rng) res.1 A) args s 0 0 A) (F0 m 6 ls [])), ∀ (x1 : Int32) (x2 : Int32) (x3 : Int32) (x_re : Int32) (x_de : Int32) (x_now : SV) (H : Heap) (locs : List Loc) (hP : va_P D vwCl (wX4 q cy x_isv x_te x_re x_de x_now x_spa x_sna x_len x_sig x_nxt x_cnt x_rng) H) (hD : va_D A (wX4 q cy x_isv x_te x_re x_de x_now x_spa x_sna x_len x_sig x_nxt x_cnt x_rng)) (hS : va_S A s.heap H locs) (ls : Array Slot) (hl : lv_has ls 5 [(0, .ref (q 0 0)), (1, .int x1), (2, .int x2), (3, .int x3)]) (hf : f_X4_carryOut_c44 rec6 x_len x_sig x1 x2 x3 x_re x_de x_now = some res), W p l e ⟨6, 0, 0, 130⟩ s m args below meth c H locs 0 0 (MQ below (qI D (wX4 q cy x_isv x_te res.2.1 res.2.2.1 res.2.2.2 x_spa x_sna x_len x_sig x_nxt x_cnt x_rng) res.1 A) args s 0 0 A) (F0 m 44 ls []) := by
    intro rec6 hrec6 x1 x2 x3 x_re x_de x_now H locs hP hD hS ls hl hf
    refine lv_aload_n hx hb (dg ddX4_carryOut 23 rfl) rfl (lv_at hl 0 rfl) ?_
    refine lv_iload_n hx hb (dg ddX4_carryOut 24 rfl) rfl (lv_at hl 2 rfl) ?_
    refine lv_iload_n hx hb (dg ddX4_carryOut 25 rfl) rfl (lv_at hl 3 rfl) ?_
    obtain ⟨r2, e1, hf⟩ := ob_some hf
    refine crw_vi CX hml (As := [.int x2, .int x3]) (rest := []) (c_X4_carryOutOrder l D cy q x_isv x_te x_re x_de x_now x_spa x_sna x_len x_sig x_nxt x_cnt x_rng x2 x3 _ e1) lk_RX4_358 rfl rfl hRMX4_carryOutOrder hP hD hS hA hK hN 0 rfl rfl rfl hl.1 rfl (Nat.le_of_ble_eq_true rfl) ⟨Nat.le_of_ble_eq_true rfl, Nat.le_of_ble_eq_true rfl⟩ (dg ddX4_carryOut 26 rfl) (fun H locs hP hD hS => ?_)
    refine lv_istore (lv' := [(4, .int r2.1), (0, .ref (q 0 0)), (1, .int x1), (2, .int x2), (3, .int x3)]) hx hb (dg ddX4_carryOut 27 rfl) hl (by decide) rfl (fun ls hl => ?_)
    refine lv_iload hx hb (dg ddX4_carryOut 28 rfl) (lv_at hl 0 rfl) ?_
    refine lv_if_eq (tgt := 61) hx hb (dg ddX4_carryOut 29 rfl) (by decide) (fun h3 => ?_) (fun h3 => ?_)
    · have hf := it_t h3 hf
      refine lv_iinc (v := x1 + 1) (lv' := [(1, .int (x1 + 1)), (4, .int r2.1), (0, .ref (q 0 0)), (2, .int x2), (3, .int x3)]) hx hb (dg ddX4_carryOut 33 rfl) hl (k := 2) rfl (congrArg (HAdd.hAdd x1) (by decide)) (by decide) rfl (fun ls hl => ?_)
      refine lv_iload_n hx hb (dg ddX4_carryOut 34 rfl) rfl (lv_at hl 4 rfl) ?_
      refine lv_iconst (v := 1) hx hb (dg ddX4_carryOut 35 rfl) (by decide) ?_
      refine lv_iadd hx hb (dg ddX4_carryOut 36 rfl) ?_
      refine lv_istore_n (lv' := [(2, .int (x3 + 1)), (1, .int (x1 + 1)), (4, .int r2.1), (0, .ref (q 0 0)), (3, .int x3)]) hx hb (dg ddX4_carryOut 37 rfl) rfl hl (by decide) rfl (fun ls hl => ?_)
      refine lv_iinc (v := x3 + 1) (lv' := [(3, .int (x3 + 1)), (2, .int (x3 + 1)), (1, .int (x1 + 1)), (4, .int r2.1), (0, .ref (q 0 0))]) hx hb (dg ddX4_carryOut 38 rfl) hl (k := 4) rfl (congrArg (HAdd.hAdd x3) (by decide)) (by decide) rfl (fun ls hl => ?_)
      refine lv_goto (tgt := 6) hx hb (dg ddX4_carryOut 39 rfl) (by decide) ?_
      exact hrec6 (x1 + 1) (x3 + 1) (x3 + 1) r2.2.1 r2.2.2.1 r2.2.2.2 _ _ hP hD hS _ (lv_sub hl [4, 2, 1, 0] rfl) hf
    · have hf := it_f h3 hf
      refine lv_iload hx hb (dg ddX4_carryOut 30 rfl) (lv_at hl 0 rfl) ?_
      refine lv_ineg hx hb (dg ddX4_carryOut 31 rfl) ?_
      cases hf
      exact e_wi CX hr hlk rfl hP hD hS (dg ddX4_carryOut 32 rfl)
  have K6 : ∀ (n : Nat), ∀ (x1 : Int32) (x2 : Int32) (x3 : Int32) (x_re : Int32) (x_de : Int32) (x_now : SV) (H : Heap) (locs : List Loc) (hP : va_P D vwCl (wX4 q cy x_isv x_te x_re x_de x_now x_spa x_sna x_len x_sig x_nxt x_cnt x_rng) H) (hD : va_D A (wX4 q cy x_isv x_te x_re x_de x_now x_spa x_sna x_len x_sig x_nxt x_cnt x_rng)) (hS : va_S A s.heap H locs) (ls : Array Slot) (hl : lv_has ls 5 [(0, .ref (q 0 0)), (1, .int x1), (2, .int x2), (3, .int x3)]) (hf : f_X4_carryOut_c6 x_len x_sig n x1 x2 x3 x_re x_de x_now = some res), W p l e ⟨6, 0, 0, 130⟩ s m args below meth c H locs 0 0 (MQ below (qI D (wX4 q cy x_isv x_te res.2.1 res.2.2.1 res.2.2.2 x_spa x_sna x_len x_sig x_nxt x_cnt x_rng) res.1 A) args s 0 0 A) (F0 m 6 ls []) := by
    intro n
    induction n with
    | zero => intro x1 x2 x3 x_re x_de x_now H locs hP hD hS ls hl hf; cases (show none = some res from hf)
    | succ n ih =>
    intro x1 x2 x3 x_re x_de x_now H locs hP hD hS ls hl hf
    refine lv_iload_n hx hb (dg ddX4_carryOut 6 rfl) rfl (lv_at hl 3 rfl) ?_
    refine lv_aload_n hx hb (dg ddX4_carryOut 7 rfl) rfl (lv_at hl 0 rfl) ?_
    refine gf_RX4_36 CX hK hP 0 rfl rfl (dg ddX4_carryOut 8 rfl) ?_
    refine gf_RX4_249 CX hK hP 43 rfl rfl (dg ddX4_carryOut 9 rfl) ?_
    refine lv_icmp_gt (tgt := 74) hx hb (dg ddX4_carryOut 10 rfl) (by decide) (fun h1 => ?_) (fun h1 => ?_)
    · have hf := it_t h1 hf
      refine lv_iload_n hx hb (dg ddX4_carryOut 40 rfl) rfl (lv_at hl 1 rfl) ?_
      cases hf
      exact e_wi CX hr hlk rfl hP hD hS (dg ddX4_carryOut 41 rfl)
    · have hf := it_f h1 hf
      refine lv_iload_n hx hb (dg ddX4_carryOut 11 rfl) rfl (lv_at hl 3 rfl) ?_
      refine lv_aload_n hx hb (dg ddX4_carryOut 12 rfl) rfl (lv_at hl 0 rfl) ?_
      refine gf_RX4_36 CX hK hP 0 rfl rfl (dg ddX4_carryOut 13 rfl) ?_
      refine gf_RX4_249 CX hK hP 43 rfl rfl (dg ddX4_carryOut 14 rfl) ?_
      refine lv_icmp_ge (tgt := 44) hx hb (dg ddX4_carryOut 15 rfl) (by decide) (fun h2 => ?_) (fun h2 => ?_)
      · have hf := it_t h2 hf
        exact K44 (f_X4_carryOut_c6 x_len x_sig n) ih  x1 x2 x3 x_re x_de x_now _ _ hP hD hS _ (lv_sub hl [0, 1, 2, 3] rfl) hf
      · have hf := it_f h2 hf
        refine lv_aload_n hx hb (dg ddX4_carryOut 16 rfl) rfl (lv_at hl 0 rfl) ?_
        refine gf_RX4_36 CX hK hP 0 rfl rfl (dg ddX4_carryOut 17 rfl) ?_
        refine lv_iload_n hx hb (dg ddX4_carryOut 18 rfl) rfl (lv_at hl 3 rfl) ?_
        obtain ⟨r4, e3, hf⟩ := ob_some hf
        refine cro_vi CX hml (As := [.int x3]) (rest := []) (c_X2_signAt l D cy (q 5) x_len x_sig x3 e3) lk_RX4_354 rfl rfl hRMX2_signAt (vaP_l (vaP_perm (pm_i _ _ _ _ _ _) hP)) hK hN 0 rfl rfl rfl hl.1 rfl (Nat.le_of_ble_eq_true rfl) ⟨Nat.le_of_ble_eq_true rfl, Nat.le_of_ble_eq_true rfl⟩ (dg ddX4_carryOut 19 rfl) ?_
        refine lv_bipush (v := 59) hx hb (dg ddX4_carryOut 20 rfl) (by decide) ?_
        refine lv_icmp_eq (tgt := 44) hx hb (dg ddX4_carryOut 21 rfl) (by decide) (fun h5 => ?_) (fun h5 => ?_)
        · have hf := it_t h5 hf
          exact K44 (f_X4_carryOut_c6 x_len x_sig n) ih  x1 x2 x3 x_re x_de x_now _ _ hP hD hS _ (lv_sub hl [0, 1, 2, 3] rfl) hf
        · have hf := it_f h5 hf
          refine lv_goto (tgt := 68) hx hb (dg ddX4_carryOut 22 rfl) (by decide) ?_
          refine lv_iinc (v := x3 + 1) (lv' := [(3, .int (x3 + 1)), (0, .ref (q 0 0)), (1, .int x1), (2, .int x2)]) hx hb (dg ddX4_carryOut 38 rfl) hl (k := 3) rfl (congrArg (HAdd.hAdd x3) (by decide)) (by decide) rfl (fun ls hl => ?_)
          refine lv_goto (tgt := 6) hx hb (dg ddX4_carryOut 39 rfl) (by decide) ?_
          exact ih x1 x2 (x3 + 1) x_re x_de x_now _ _ hP hD hS _ (lv_sub hl [1, 2, 3, 0] rfl) hf
  refine lv_iconst (v := 0) hx hb (dg ddX4_carryOut 0 rfl) (by decide) ?_
  refine lv_istore_n (lv' := [(1, .int 0), (0, .ref (q 0 0))]) hx hb (dg ddX4_carryOut 1 rfl) rfl hl (by decide) rfl (fun ls hl => ?_)
  refine lv_iconst (v := 0) hx hb (dg ddX4_carryOut 2 rfl) (by decide) ?_
  refine lv_istore_n (lv' := [(2, .int 0), (1, .int 0), (0, .ref (q 0 0))]) hx hb (dg ddX4_carryOut 3 rfl) rfl hl (by decide) rfl (fun ls hl => ?_)
  refine lv_iconst (v := 0) hx hb (dg ddX4_carryOut 4 rfl) (by decide) ?_
  refine lv_istore_n (lv' := [(3, .int 0), (2, .int 0), (1, .int 0), (0, .ref (q 0 0))]) hx hb (dg ddX4_carryOut 5 rfl) rfl hl (by decide) rfl (fun ls hl => ?_)
  exact K6 4096 0 0 0 x_re x_de x_now _ _ hP hD hS _ (lv_sub hl [3, 2, 1, 0] rfl) hf
