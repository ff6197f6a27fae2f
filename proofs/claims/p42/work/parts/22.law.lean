/-! by program: the law's methods -/
def f_L_digest_c71 (rec33 : Int64 → Int32 → Option (Int64)) (x_now : SV) (x_len : Int32) (x_cnt : Int32) : Nat → Int64 → Int32 → Int32 → Option (Int64)
  | 0, _, _, _ => none
  | n + 1, x1, x3, x4 => if 3 ≤ x4 then (rec33 x1 (x3 + 1)) else (ob (f_X4_pitchOf x_now x3 x4) fun r3 => (os r3 (fun _ => none) fun x_r3 => (f_L_digest_c71 rec33 x_now x_len x_cnt n ((31 * x1) + x_r3.toInt64) x3 (x4 + 1))))
def f_L_digest_c147 (rec106 : Int64 → Int32 → Option (Int64)) (x_now : SV) (x_len : Int32) (x_cnt : Int32) : Nat → Int64 → Int32 → Int32 → Option (Int64)
  | 0, _, _, _ => none
  | n + 1, x1, x3, x4 => if 7 ≤ x4 then (rec106 x1 (x3 + 1)) else (ob (f_X4_buskerOf x_now x3 x4) fun r3 => (os r3 (fun _ => none) fun x_r3 => (f_L_digest_c147 rec106 x_now x_len x_cnt n ((31 * x1) + x_r3.toInt64) x3 (x4 + 1))))
def f_L_digest_c183  (x_now : SV) (x_len : Int32) (x_cnt : Int32) : Nat → Int64 → Int32 → Option (Int64)
  | 0, _, _ => none
  | n + 1, x1, x3 => ob (f_X4_account x_now x_len x_cnt 4) fun r2 => (os r2 (fun _ => none) fun x_r2 => (if x_r2 ≤ x3 then (some x1) else (ob (f_L_waiting x_now x3) fun r5 => (f_L_digest_c183 x_now x_len x_cnt n ((31 * x1) + r5.toInt64) (x3 + 1)))))
def f_L_digest_c106  (x_now : SV) (x_len : Int32) (x_cnt : Int32) : Nat → Int64 → Int32 → Option (Int64)
  | 0, _, _ => none
  | n + 1, x1, x3 => ob (f_X4_account x_now x_len x_cnt 2) fun r2 => (os r2 (fun _ => none) fun x_r2 => (if x_r2 ≤ x3 then (f_L_digest_c183 x_now x_len x_cnt 9 x1 0) else (ob (f_X4_hat x_now x3) fun r5 => (os r5 (fun _ => none) fun x_r5 => (ob (f_Jxf58ca_floatToIntBits_5c35a x_r5) fun r7 => (ob (f_X4_wear x_now x3) fun r9 => (os r9 (fun _ => none) fun x_r9 => (f_L_digest_c147 (f_L_digest_c106 x_now x_len x_cnt n) x_now x_len x_cnt 8 ((31 * ((31 * x1) + r7.toInt64)) + x_r9.toInt64) x3 0))))))))
def f_L_digest_c33  (x_now : SV) (x_len : Int32) (x_cnt : Int32) : Nat → Int64 → Int32 → Option (Int64)
  | 0, _, _ => none
  | n + 1, x1, x3 => if 8 ≤ x3 then (f_L_digest_c106 x_now x_len x_cnt 9 x1 0) else (ob (f_X4_noise x_now x3) fun r3 => (os r3 (fun _ => none) fun x_r3 => (ob (f_X4_below x_now x3) fun r5 => (os r5 (fun _ => none) fun x_r5 => (ob (f_Jxf58ca_floatToIntBits_5c35a x_r5) fun r7 => (f_L_digest_c71 (f_L_digest_c33 x_now x_len x_cnt n) x_now x_len x_cnt 4 ((31 * ((31 * x1) + x_r3.toInt64)) + r7.toInt64) x3 0))))))
def f_L_digest_c6  (x_now : SV) (x_len : Int32) (x_cnt : Int32) : Nat → Int64 → Int32 → Option (Int64)
  | 0, _, _ => none
  | n + 1, x1, x3 => if 13 ≤ x3 then (f_L_digest_c33 x_now x_len x_cnt 9 x1 0) else (ob (f_X4_account x_now x_len x_cnt x3) fun r3 => (os r3 (fun _ => none) fun x_r3 => (f_L_digest_c6 x_now x_len x_cnt n ((31 * x1) + x_r3.toInt64) (x3 + 1))))
def f_L_digest (x_now : SV) (x_len : Int32) (x_cnt : Int32) : Option (Int64) := f_L_digest_c6 x_now x_len x_cnt 14 7 0
set_option maxHeartbeats 8000000 in
set_option maxRecDepth 100000 in
theorem c_L_digest (l : Launch) (D : va_G) (cy : Nat → ClassId) (q : Nat → Nat → Nat) (x_isv : Int32) (x_te : Int32) (x_re : Int32) (x_de : Int32) (x_now : SV) (x_spa : SV) (x_sna : SV) (x_len : Int32) (x_sig : Nat → Int32) (x_nxt : Int32) (x_cnt : Int32) (x_rng : Nat → SV) (sz : Nat) (hst : l.stackTraces = false) {res : Int64} (hf : f_L_digest x_now x_len x_cnt = some res) : Met l yL_digest (.code yL_digest cL_digest 5 (some .long) :: lw_all) { frames := 8, cells := 295, slots := 2360, locals := 140 } (va_Pc [.ref (q 0 0)] (sY D cy (wX4 q cy x_isv x_te x_re x_de x_now x_spa x_sna x_len x_sig x_nxt x_cnt x_rng) sz)) (qL D (wX4 q cy x_isv x_te x_re x_de x_now x_spa x_sna x_len x_sig x_nxt x_cnt x_rng) res (va_A (wX4 q cy x_isv x_te x_re x_de x_now x_spa x_sna x_len x_sig x_nxt x_cnt x_rng) sz)) 295 2360 (va_A (wX4 q cy x_isv x_te x_re x_de x_now x_spa x_sna x_len x_sig x_nxt x_cnt x_rng) sz) := by
  refine mk_lc (Qc := qL D (wX4 q cy x_isv x_te x_re x_de x_now x_spa x_sna x_len x_sig x_nxt x_cnt x_rng) res) (Rc := RL) (by decide +kernel) rfl (Nat.le_of_ble_eq_true rfl) ?_
  intro p e s m args below meth c ls A CX hml hr hlk hK hN hP hD hS hA hl hX hC
  have hx := CX.1
  have hb := CX.2.1
  have hRMJxf58ca_floatToIntBits_5c35a : (⟨2, 0, 0, 40⟩ : Room).frames + 1 ≤ (⟨8, 295, 2360, 140⟩ : Room).frames ∧ 8 + (1 + 11) + (⟨2, 0, 0, 40⟩ : Room).locals ≤ (⟨8, 295, 2360, 140⟩ : Room).locals := ⟨(Nat.le_of_ble_eq_true rfl), (Nat.le_of_ble_eq_true rfl)⟩
  have hRML_waiting : (⟨7, 1, 6, 104⟩ : Room).frames + 1 ≤ (⟨8, 295, 2360, 140⟩ : Room).frames ∧ 8 + (4 + 11) + (⟨7, 1, 6, 104⟩ : Room).locals ≤ (⟨8, 295, 2360, 140⟩ : Room).locals := ⟨(Nat.le_of_ble_eq_true rfl), (Nat.le_of_ble_eq_true rfl)⟩
  have hRMX4_account : (⟨6, 1, 6, 82⟩ : Room).frames + 1 ≤ (⟨8, 295, 2360, 140⟩ : Room).frames ∧ 8 + (2 + 11) + (⟨6, 1, 6, 82⟩ : Room).locals ≤ (⟨8, 295, 2360, 140⟩ : Room).locals := ⟨(Nat.le_of_ble_eq_true rfl), (Nat.le_of_ble_eq_true rfl)⟩
  have hRMX4_below : (⟨7, 1, 6, 119⟩ : Room).frames + 1 ≤ (⟨8, 295, 2360, 140⟩ : Room).frames ∧ 8 + (2 + 11) + (⟨7, 1, 6, 119⟩ : Room).locals ≤ (⟨8, 295, 2360, 140⟩ : Room).locals := ⟨(Nat.le_of_ble_eq_true rfl), (Nat.le_of_ble_eq_true rfl)⟩
  have hRMX4_buskerOf : (⟨7, 2, 12, 102⟩ : Room).frames + 1 ≤ (⟨8, 295, 2360, 140⟩ : Room).frames ∧ 8 + (3 + 11) + (⟨7, 2, 12, 102⟩ : Room).locals ≤ (⟨8, 295, 2360, 140⟩ : Room).locals := ⟨(Nat.le_of_ble_eq_true rfl), (Nat.le_of_ble_eq_true rfl)⟩
  have hRMX4_hat : (⟨7, 1, 6, 102⟩ : Room).frames + 1 ≤ (⟨8, 295, 2360, 140⟩ : Room).frames ∧ 8 + (2 + 11) + (⟨7, 1, 6, 102⟩ : Room).locals ≤ (⟨8, 295, 2360, 140⟩ : Room).locals := ⟨(Nat.le_of_ble_eq_true rfl), (Nat.le_of_ble_eq_true rfl)⟩
  have hRMX4_noise : (⟨7, 1, 6, 119⟩ : Room).frames + 1 ≤ (⟨8, 295, 2360, 140⟩ : Room).frames ∧ 8 + (2 + 11) + (⟨7, 1, 6, 119⟩ : Room).locals ≤ (⟨8, 295, 2360, 140⟩ : Room).locals := ⟨(Nat.le_of_ble_eq_true rfl), (Nat.le_of_ble_eq_true rfl)⟩
  have hRMX4_pitchOf : (⟨7, 2, 12, 102⟩ : Room).frames + 1 ≤ (⟨8, 295, 2360, 140⟩ : Room).frames ∧ 8 + (3 + 11) + (⟨7, 2, 12, 102⟩ : Room).locals ≤ (⟨8, 295, 2360, 140⟩ : Room).locals := ⟨(Nat.le_of_ble_eq_true rfl), (Nat.le_of_ble_eq_true rfl)⟩
  have hRMX4_wear : (⟨7, 1, 6, 102⟩ : Room).frames + 1 ≤ (⟨8, 295, 2360, 140⟩ : Room).frames ∧ 8 + (2 + 11) + (⟨7, 1, 6, 102⟩ : Room).locals ≤ (⟨8, 295, 2360, 140⟩ : Room).locals := ⟨(Nat.le_of_ble_eq_true rfl), (Nat.le_of_ble_eq_true rfl)⟩
  have K71 : ∀ (N33 : Nat) (rec33 : Int64 → Int32 → Option (Int64)) (hrec33 : ∀ (x1 : Int64) (x3 : Int32) (k ks : Nat) (hk : k + N33 ≤ 295) (hks : ks + 8 * N33 ≤ 2360) (H : Heap) (locs : List Loc) (hP : va_P D vwCl (wX4 q cy x_isv x_te x_re x_de x_now x_spa x_sna x_len x_sig x_nxt x_cnt x_rng) H) (hD : va_D A (wX4 q cy x_isv x_te x_re x_de x_now x_spa x_sna x_len x_sig x_nxt x_cnt x_rng)) (hS : va_S A s.heap H locs) (ls : Array Slot) (hl : lv_has ls 5 [(0, .ref (q 0 0)), (1, .long x1), (3, .int x3)]) (hf : rec33 x1 x3 = some res), W p l e ⟨8, 295, 2360, 140⟩ s m args below meth c H locs k ks (MQ below (qL D (wX4 q cy x_isv x_te x_re x_de x_now x_spa x_sna x_len x_sig x_nxt x_cnt x_rng) res A) args s 295 2360 A) (F0 m 33 ls [])) (n : Nat), ∀ (x1 : Int64) (x3 : Int32) (x4 : Int32) (k ks : Nat) (hk : k + (n * 2 + 0 + N33) ≤ 295) (hks : ks + 8 * (n * 2 + 0 + N33) ≤ 2360) (H : Heap) (locs : List Loc) (hP : va_P D vwCl (wX4 q cy x_isv x_te x_re x_de x_now x_spa x_sna x_len x_sig x_nxt x_cnt x_rng) H) (hD : va_D A (wX4 q cy x_isv x_te x_re x_de x_now x_spa x_sna x_len x_sig x_nxt x_cnt x_rng)) (hS : va_S A s.heap H locs) (ls : Array Slot) (hl : lv_has ls 5 [(0, .ref (q 0 0)), (1, .long x1), (3, .int x3), (4, .int x4)]) (hf : f_L_digest_c71 rec33 x_now x_len x_cnt n x1 x3 x4 = some res), W p l e ⟨8, 295, 2360, 140⟩ s m args below meth c H locs k ks (MQ below (qL D (wX4 q cy x_isv x_te x_re x_de x_now x_spa x_sna x_len x_sig x_nxt x_cnt x_rng) res A) args s 295 2360 A) (F0 m 71 ls []) := by
    intro N33 rec33 hrec33 n
    induction n with
    | zero => intro x1 x3 x4 k ks hk hks H locs hP hD hS ls hl hf; cases (show none = some res from hf)
    | succ n ih =>
    intro x1 x3 x4 k ks hk hks H locs hP hD hS ls hl hf
    refine lv_iload hx hb (dg ddL_digest 44 rfl) (lv_at hl 3 rfl) ?_
    refine lv_iconst (v := 3) hx hb (dg ddL_digest 45 rfl) (by decide) ?_
    refine lv_icmp_ge (tgt := 98) hx hb (dg ddL_digest 46 rfl) (by decide) (fun h1 => ?_) (fun h1 => ?_)
    · have hf := it_t h1 hf
      refine lv_iinc (v := x3 + 1) (lv' := [(3, .int (x3 + 1)), (0, .ref (q 0 0)), (1, .long x1), (4, .int x4)]) hx hb (dg ddL_digest 59 rfl) hl (k := 2) rfl (congrArg (HAdd.hAdd x3) (by decide)) (by decide) rfl (fun ls hl => ?_)
      refine lv_goto (tgt := 33) hx hb (dg ddL_digest 60 rfl) (by decide) ?_
      refine W.widen (k := (k + 0)) (n := (ks + 0)) (by omega) (by omega) ?_
      exact hrec33 x1 (x3 + 1) (k + 0) (ks + 0) (by omega) (by omega) _ _ hP hD hS _ (lv_sub hl [1, 2, 0] rfl) hf
    · have hf := it_f h1 hf
      refine lv_ldc2 hx hb CX.2.2.2 (CX.2.2.1 (.constantLong RL 157 (31)) (lw_at 787 (by decide +kernel))) (dg ddL_digest 47 rfl) ?_
      refine lv_lload_n hx hb (dg ddL_digest 48 rfl) rfl (lv_at hl 1 rfl) ?_
      refine lv_lmul hx hb (dg ddL_digest 49 rfl) ?_
      refine lv_aload_n hx hb (dg ddL_digest 50 rfl) rfl (lv_at hl 0 rfl) ?_
      refine lv_iload_n hx hb (dg ddL_digest 51 rfl) rfl (lv_at hl 2 rfl) ?_
      refine lv_iload hx hb (dg ddL_digest 52 rfl) (lv_at hl 3 rfl) ?_
      obtain ⟨r3, e2, hf⟩ := ob_some hf
      rcases r3 with t9 | x_r3
      · cases os_l hf
      have hf := os_r hf
      refine crv_ri CX hml (As := [.int x3, .int x4]) (rest := [.long (31 * x1)]) (ws := (wX4 q cy x_isv x_te x_re x_de x_now x_spa x_sna x_len x_sig x_nxt x_cnt x_rng)) (wsn := (wX4 q cy x_isv x_te x_re x_de x_now x_spa x_sna x_len x_sig x_nxt x_cnt x_rng)) (wr := []) (c_X4_pitchOf l D cy q x_isv x_te x_re x_de x_now x_spa x_sna x_len x_sig x_nxt x_cnt x_rng x3 x4 _ hst e2) lk_RL_175 rfl rfl hRMX4_pitchOf hP hD hS hA hK hN hX (List.Perm.of_eq (List.append_nil _).symm) (List.Perm.of_eq (List.append_nil _)) 0 rfl rfl rfl hl.1 rfl (Nat.le_of_ble_eq_true rfl) ⟨by show _ ≤ 295; omega, by show _ ≤ 2360; omega⟩ (dg ddL_digest 53 rfl) (fun H locs hP hD hS => ?_)
      refine lv_i2l (v := x_r3.toInt64) hx hb (dg ddL_digest 54 rfl) rfl ?_
      refine lv_ladd hx hb (dg ddL_digest 55 rfl) ?_
      refine lv_lstore_n (lv' := [(1, .long ((31 * x1) + x_r3.toInt64)), (0, .ref (q 0 0)), (3, .int x3), (4, .int x4)]) hx hb (dg ddL_digest 56 rfl) rfl hl (by decide) rfl (fun ls hl => ?_)
      refine lv_iinc (v := x4 + 1) (lv' := [(4, .int (x4 + 1)), (1, .long ((31 * x1) + x_r3.toInt64)), (0, .ref (q 0 0)), (3, .int x3)]) hx hb (dg ddL_digest 57 rfl) hl (k := 3) rfl (congrArg (HAdd.hAdd x4) (by decide)) (by decide) rfl (fun ls hl => ?_)
      refine lv_goto (tgt := 71) hx hb (dg ddL_digest 58 rfl) (by decide) ?_
      refine W.widen (k := (k + 2)) (n := (ks + 16)) (by omega) (by omega) ?_
      exact ih ((31 * x1) + x_r3.toInt64) x3 (x4 + 1) (k + 2) (ks + 16) (by omega) (by omega) _ _ hP hD hS _ (lv_sub hl [2, 1, 3, 0] rfl) hf
  have K147 : ∀ (N106 : Nat) (rec106 : Int64 → Int32 → Option (Int64)) (hrec106 : ∀ (x1 : Int64) (x3 : Int32) (k ks : Nat) (hk : k + N106 ≤ 295) (hks : ks + 8 * N106 ≤ 2360) (H : Heap) (locs : List Loc) (hP : va_P D vwCl (wX4 q cy x_isv x_te x_re x_de x_now x_spa x_sna x_len x_sig x_nxt x_cnt x_rng) H) (hD : va_D A (wX4 q cy x_isv x_te x_re x_de x_now x_spa x_sna x_len x_sig x_nxt x_cnt x_rng)) (hS : va_S A s.heap H locs) (ls : Array Slot) (hl : lv_has ls 5 [(0, .ref (q 0 0)), (1, .long x1), (3, .int x3)]) (hf : rec106 x1 x3 = some res), W p l e ⟨8, 295, 2360, 140⟩ s m args below meth c H locs k ks (MQ below (qL D (wX4 q cy x_isv x_te x_re x_de x_now x_spa x_sna x_len x_sig x_nxt x_cnt x_rng) res A) args s 295 2360 A) (F0 m 106 ls [])) (n : Nat), ∀ (x1 : Int64) (x3 : Int32) (x4 : Int32) (k ks : Nat) (hk : k + (n * 2 + 0 + N106) ≤ 295) (hks : ks + 8 * (n * 2 + 0 + N106) ≤ 2360) (H : Heap) (locs : List Loc) (hP : va_P D vwCl (wX4 q cy x_isv x_te x_re x_de x_now x_spa x_sna x_len x_sig x_nxt x_cnt x_rng) H) (hD : va_D A (wX4 q cy x_isv x_te x_re x_de x_now x_spa x_sna x_len x_sig x_nxt x_cnt x_rng)) (hS : va_S A s.heap H locs) (ls : Array Slot) (hl : lv_has ls 5 [(0, .ref (q 0 0)), (1, .long x1), (3, .int x3), (4, .int x4)]) (hf : f_L_digest_c147 rec106 x_now x_len x_cnt n x1 x3 x4 = some res), W p l e ⟨8, 295, 2360, 140⟩ s m args below meth c H locs k ks (MQ below (qL D (wX4 q cy x_isv x_te x_re x_de x_now x_spa x_sna x_len x_sig x_nxt x_cnt x_rng) res A) args s 295 2360 A) (F0 m 147 ls []) := by
    intro N106 rec106 hrec106 n
    induction n with
    | zero => intro x1 x3 x4 k ks hk hks H locs hP hD hS ls hl hf; cases (show none = some res from hf)
    | succ n ih =>
    intro x1 x3 x4 k ks hk hks H locs hP hD hS ls hl hf
    refine lv_iload hx hb (dg ddL_digest 89 rfl) (lv_at hl 3 rfl) ?_
    refine lv_bipush (v := 7) hx hb (dg ddL_digest 90 rfl) (by decide) ?_
    refine lv_icmp_ge (tgt := 175) hx hb (dg ddL_digest 91 rfl) (by decide) (fun h1 => ?_) (fun h1 => ?_)
    · have hf := it_t h1 hf
      refine lv_iinc (v := x3 + 1) (lv' := [(3, .int (x3 + 1)), (0, .ref (q 0 0)), (1, .long x1), (4, .int x4)]) hx hb (dg ddL_digest 104 rfl) hl (k := 2) rfl (congrArg (HAdd.hAdd x3) (by decide)) (by decide) rfl (fun ls hl => ?_)
      refine lv_goto (tgt := 106) hx hb (dg ddL_digest 105 rfl) (by decide) ?_
      refine W.widen (k := (k + 0)) (n := (ks + 0)) (by omega) (by omega) ?_
      exact hrec106 x1 (x3 + 1) (k + 0) (ks + 0) (by omega) (by omega) _ _ hP hD hS _ (lv_sub hl [1, 2, 0] rfl) hf
    · have hf := it_f h1 hf
      refine lv_ldc2 hx hb CX.2.2.2 (CX.2.2.1 (.constantLong RL 157 (31)) (lw_at 787 (by decide +kernel))) (dg ddL_digest 92 rfl) ?_
      refine lv_lload_n hx hb (dg ddL_digest 93 rfl) rfl (lv_at hl 1 rfl) ?_
      refine lv_lmul hx hb (dg ddL_digest 94 rfl) ?_
      refine lv_aload_n hx hb (dg ddL_digest 95 rfl) rfl (lv_at hl 0 rfl) ?_
      refine lv_iload_n hx hb (dg ddL_digest 96 rfl) rfl (lv_at hl 2 rfl) ?_
      refine lv_iload hx hb (dg ddL_digest 97 rfl) (lv_at hl 3 rfl) ?_
      obtain ⟨r3, e2, hf⟩ := ob_some hf
      rcases r3 with t9 | x_r3
      · cases os_l hf
      have hf := os_r hf
      refine crv_ri CX hml (As := [.int x3, .int x4]) (rest := [.long (31 * x1)]) (ws := (wX4 q cy x_isv x_te x_re x_de x_now x_spa x_sna x_len x_sig x_nxt x_cnt x_rng)) (wsn := (wX4 q cy x_isv x_te x_re x_de x_now x_spa x_sna x_len x_sig x_nxt x_cnt x_rng)) (wr := []) (c_X4_buskerOf l D cy q x_isv x_te x_re x_de x_now x_spa x_sna x_len x_sig x_nxt x_cnt x_rng x3 x4 _ hst e2) lk_RL_184 rfl rfl hRMX4_buskerOf hP hD hS hA hK hN hX (List.Perm.of_eq (List.append_nil _).symm) (List.Perm.of_eq (List.append_nil _)) 0 rfl rfl rfl hl.1 rfl (Nat.le_of_ble_eq_true rfl) ⟨by show _ ≤ 295; omega, by show _ ≤ 2360; omega⟩ (dg ddL_digest 98 rfl) (fun H locs hP hD hS => ?_)
      refine lv_i2l (v := x_r3.toInt64) hx hb (dg ddL_digest 99 rfl) rfl ?_
      refine lv_ladd hx hb (dg ddL_digest 100 rfl) ?_
      refine lv_lstore_n (lv' := [(1, .long ((31 * x1) + x_r3.toInt64)), (0, .ref (q 0 0)), (3, .int x3), (4, .int x4)]) hx hb (dg ddL_digest 101 rfl) rfl hl (by decide) rfl (fun ls hl => ?_)
      refine lv_iinc (v := x4 + 1) (lv' := [(4, .int (x4 + 1)), (1, .long ((31 * x1) + x_r3.toInt64)), (0, .ref (q 0 0)), (3, .int x3)]) hx hb (dg ddL_digest 102 rfl) hl (k := 3) rfl (congrArg (HAdd.hAdd x4) (by decide)) (by decide) rfl (fun ls hl => ?_)
      refine lv_goto (tgt := 147) hx hb (dg ddL_digest 103 rfl) (by decide) ?_
      refine W.widen (k := (k + 2)) (n := (ks + 16)) (by omega) (by omega) ?_
      exact ih ((31 * x1) + x_r3.toInt64) x3 (x4 + 1) (k + 2) (ks + 16) (by omega) (by omega) _ _ hP hD hS _ (lv_sub hl [2, 1, 3, 0] rfl) hf
  have K183 : ∀ (n : Nat), ∀ (x1 : Int64) (x3 : Int32) (k ks : Nat) (hk : k + (n * 2 + 1) ≤ 295) (hks : ks + 8 * (n * 2 + 1) ≤ 2360) (H : Heap) (locs : List Loc) (hP : va_P D vwCl (wX4 q cy x_isv x_te x_re x_de x_now x_spa x_sna x_len x_sig x_nxt x_cnt x_rng) H) (hD : va_D A (wX4 q cy x_isv x_te x_re x_de x_now x_spa x_sna x_len x_sig x_nxt x_cnt x_rng)) (hS : va_S A s.heap H locs) (ls : Array Slot) (hl : lv_has ls 5 [(0, .ref (q 0 0)), (1, .long x1), (3, .int x3)]) (hf : f_L_digest_c183 x_now x_len x_cnt n x1 x3 = some res), W p l e ⟨8, 295, 2360, 140⟩ s m args below meth c H locs k ks (MQ below (qL D (wX4 q cy x_isv x_te x_re x_de x_now x_spa x_sna x_len x_sig x_nxt x_cnt x_rng) res A) args s 295 2360 A) (F0 m 183 ls []) := by
    intro n
    induction n with
    | zero => intro x1 x3 k ks hk hks H locs hP hD hS ls hl hf; cases (show none = some res from hf)
    | succ n ih =>
    intro x1 x3 k ks hk hks H locs hP hD hS ls hl hf
    refine lv_iload_n hx hb (dg ddL_digest 108 rfl) rfl (lv_at hl 2 rfl) ?_
    refine lv_aload_n hx hb (dg ddL_digest 109 rfl) rfl (lv_at hl 0 rfl) ?_
    refine lv_iconst (v := 4) hx hb (dg ddL_digest 110 rfl) (by decide) ?_
    obtain ⟨r2, e1, hf⟩ := ob_some hf
    rcases r2 with t9 | x_r2
    · cases os_l hf
    have hf := os_r hf
    refine crv_ri CX hml (As := [.int 4]) (rest := [.int x3]) (ws := (wX4 q cy x_isv x_te x_re x_de x_now x_spa x_sna x_len x_sig x_nxt x_cnt x_rng)) (wsn := (wX4 q cy x_isv x_te x_re x_de x_now x_spa x_sna x_len x_sig x_nxt x_cnt x_rng)) (wr := []) (c_X4_account l D cy q x_isv x_te x_re x_de x_now x_spa x_sna x_len x_sig x_nxt x_cnt x_rng 4 _ hst e1) lk_RL_159 rfl rfl hRMX4_account hP hD hS hA hK hN hX (List.Perm.of_eq (List.append_nil _).symm) (List.Perm.of_eq (List.append_nil _)) 0 rfl rfl rfl hl.1 rfl (Nat.le_of_ble_eq_true rfl) ⟨by show _ ≤ 295; omega, by show _ ≤ 2360; omega⟩ (dg ddL_digest 111 rfl) (fun H locs hP hD hS => ?_)
    refine lv_icmp_ge (tgt := 211) hx hb (dg ddL_digest 112 rfl) (by decide) (fun h3 => ?_) (fun h3 => ?_)
    · have hf := it_t h3 hf
      refine lv_lload_n hx hb (dg ddL_digest 124 rfl) rfl (lv_at hl 1 rfl) ?_
      cases hf
      refine W.widen (k := 295) (n := 2360) (by omega) (by omega) ?_
      exact e_wl CX hr hlk rfl hP hD hS (dg ddL_digest 125 rfl)
    · have hf := it_f h3 hf
      refine lv_ldc2 hx hb CX.2.2.2 (CX.2.2.1 (.constantLong RL 157 (31)) (lw_at 787 (by decide +kernel))) (dg ddL_digest 113 rfl) ?_
      refine lv_lload_n hx hb (dg ddL_digest 114 rfl) rfl (lv_at hl 1 rfl) ?_
      refine lv_lmul hx hb (dg ddL_digest 115 rfl) ?_
      refine lv_aload_n hx hb (dg ddL_digest 116 rfl) rfl (lv_at hl 0 rfl) ?_
      refine lv_iload_n hx hb (dg ddL_digest 117 rfl) rfl (lv_at hl 2 rfl) ?_
      obtain ⟨r5, e4, hf⟩ := ob_some hf
      refine crl_i CX hml (As := [.ref (q 0 0), .int x3]) (rest := [.long (31 * x1)]) (ws := (wX4 q cy x_isv x_te x_re x_de x_now x_spa x_sna x_len x_sig x_nxt x_cnt x_rng)) (wsn := (wX4 q cy x_isv x_te x_re x_de x_now x_spa x_sna x_len x_sig x_nxt x_cnt x_rng)) (wr := []) (c_L_waiting l D cy q x_isv x_te x_re x_de x_now x_spa x_sna x_len x_sig x_nxt x_cnt x_rng x3 _ hst e4) lk_RL_187 rfl rfl hRML_waiting hP hD hS hA hK hN hX hC (List.Perm.of_eq (List.append_nil _).symm) (List.Perm.of_eq (List.append_nil _)) rfl hl.1 rfl (Nat.le_of_ble_eq_true rfl) ⟨by show _ ≤ 295; omega, by show _ ≤ 2360; omega⟩ (dg ddL_digest 118 rfl) (fun H locs hP hD hS => ?_)
      refine lv_i2l (v := r5.toInt64) hx hb (dg ddL_digest 119 rfl) rfl ?_
      refine lv_ladd hx hb (dg ddL_digest 120 rfl) ?_
      refine lv_lstore_n (lv' := [(1, .long ((31 * x1) + r5.toInt64)), (0, .ref (q 0 0)), (3, .int x3)]) hx hb (dg ddL_digest 121 rfl) rfl hl (by decide) rfl (fun ls hl => ?_)
      refine lv_iinc (v := x3 + 1) (lv' := [(3, .int (x3 + 1)), (1, .long ((31 * x1) + r5.toInt64)), (0, .ref (q 0 0))]) hx hb (dg ddL_digest 122 rfl) hl (k := 2) rfl (congrArg (HAdd.hAdd x3) (by decide)) (by decide) rfl (fun ls hl => ?_)
      refine lv_goto (tgt := 183) hx hb (dg ddL_digest 123 rfl) (by decide) ?_
      refine W.widen (k := (k + 2)) (n := (ks + 16)) (by omega) (by omega) ?_
      exact ih ((31 * x1) + r5.toInt64) (x3 + 1) (k + 2) (ks + 16) (by omega) (by omega) _ _ hP hD hS _ (lv_sub hl [2, 1, 0] rfl) hf
  have K106 : ∀ (n : Nat), ∀ (x1 : Int64) (x3 : Int32) (k ks : Nat) (hk : k + (n * 19 + 20) ≤ 295) (hks : ks + 8 * (n * 19 + 20) ≤ 2360) (H : Heap) (locs : List Loc) (hP : va_P D vwCl (wX4 q cy x_isv x_te x_re x_de x_now x_spa x_sna x_len x_sig x_nxt x_cnt x_rng) H) (hD : va_D A (wX4 q cy x_isv x_te x_re x_de x_now x_spa x_sna x_len x_sig x_nxt x_cnt x_rng)) (hS : va_S A s.heap H locs) (ls : Array Slot) (hl : lv_has ls 5 [(0, .ref (q 0 0)), (1, .long x1), (3, .int x3)]) (hf : f_L_digest_c106 x_now x_len x_cnt n x1 x3 = some res), W p l e ⟨8, 295, 2360, 140⟩ s m args below meth c H locs k ks (MQ below (qL D (wX4 q cy x_isv x_te x_re x_de x_now x_spa x_sna x_len x_sig x_nxt x_cnt x_rng) res A) args s 295 2360 A) (F0 m 106 ls []) := by
    intro n
    induction n with
    | zero => intro x1 x3 k ks hk hks H locs hP hD hS ls hl hf; cases (show none = some res from hf)
    | succ n ih =>
    intro x1 x3 k ks hk hks H locs hP hD hS ls hl hf
    refine lv_iload_n hx hb (dg ddL_digest 63 rfl) rfl (lv_at hl 2 rfl) ?_
    refine lv_aload_n hx hb (dg ddL_digest 64 rfl) rfl (lv_at hl 0 rfl) ?_
    refine lv_iconst (v := 2) hx hb (dg ddL_digest 65 rfl) (by decide) ?_
    obtain ⟨r2, e1, hf⟩ := ob_some hf
    rcases r2 with t9 | x_r2
    · cases os_l hf
    have hf := os_r hf
    refine crv_ri CX hml (As := [.int 2]) (rest := [.int x3]) (ws := (wX4 q cy x_isv x_te x_re x_de x_now x_spa x_sna x_len x_sig x_nxt x_cnt x_rng)) (wsn := (wX4 q cy x_isv x_te x_re x_de x_now x_spa x_sna x_len x_sig x_nxt x_cnt x_rng)) (wr := []) (c_X4_account l D cy q x_isv x_te x_re x_de x_now x_spa x_sna x_len x_sig x_nxt x_cnt x_rng 2 _ hst e1) lk_RL_159 rfl rfl hRMX4_account hP hD hS hA hK hN hX (List.Perm.of_eq (List.append_nil _).symm) (List.Perm.of_eq (List.append_nil _)) 0 rfl rfl rfl hl.1 rfl (Nat.le_of_ble_eq_true rfl) ⟨by show _ ≤ 295; omega, by show _ ≤ 2360; omega⟩ (dg ddL_digest 66 rfl) (fun H locs hP hD hS => ?_)
    refine lv_icmp_ge (tgt := 181) hx hb (dg ddL_digest 67 rfl) (by decide) (fun h3 => ?_) (fun h3 => ?_)
    · have hf := it_t h3 hf
      refine lv_iconst (v := 0) hx hb (dg ddL_digest 106 rfl) (by decide) ?_
      refine lv_istore_n (lv' := [(3, .int 0), (0, .ref (q 0 0)), (1, .long x1)]) hx hb (dg ddL_digest 107 rfl) rfl hl (by decide) rfl (fun ls hl => ?_)
      refine W.widen (k := (k + 1)) (n := (ks + 8)) (by omega) (by omega) ?_
      exact K183 9 x1 0 (k + 1) (ks + 8) (by omega) (by omega) _ _ hP hD hS _ (lv_sub hl [1, 2, 0] rfl) hf
    · have hf := it_f h3 hf
      refine lv_ldc2 hx hb CX.2.2.2 (CX.2.2.1 (.constantLong RL 157 (31)) (lw_at 787 (by decide +kernel))) (dg ddL_digest 68 rfl) ?_
      refine lv_lload_n hx hb (dg ddL_digest 69 rfl) rfl (lv_at hl 1 rfl) ?_
      refine lv_lmul hx hb (dg ddL_digest 70 rfl) ?_
      refine lv_aload_n hx hb (dg ddL_digest 71 rfl) rfl (lv_at hl 0 rfl) ?_
      refine lv_iload_n hx hb (dg ddL_digest 72 rfl) rfl (lv_at hl 2 rfl) ?_
      obtain ⟨r5, e4, hf⟩ := ob_some hf
      rcases r5 with t9 | x_r5
      · cases os_l hf
      have hf := os_r hf
      refine crv_rf CX hml (As := [.int x3]) (rest := [.long (31 * x1)]) (ws := (wX4 q cy x_isv x_te x_re x_de x_now x_spa x_sna x_len x_sig x_nxt x_cnt x_rng)) (wsn := (wX4 q cy x_isv x_te x_re x_de x_now x_spa x_sna x_len x_sig x_nxt x_cnt x_rng)) (wr := []) (c_X4_hat l D cy q x_isv x_te x_re x_de x_now x_spa x_sna x_len x_sig x_nxt x_cnt x_rng x3 _ hst e4) lk_RL_178 rfl rfl hRMX4_hat hP hD hS hA hK hN hX (List.Perm.of_eq (List.append_nil _).symm) (List.Perm.of_eq (List.append_nil _)) 0 rfl rfl rfl hl.1 rfl (Nat.le_of_ble_eq_true rfl) ⟨by show _ ≤ 295; omega, by show _ ≤ 2360; omega⟩ (dg ddL_digest 73 rfl) (fun H locs hP hD hS => ?_)
      obtain ⟨r7, e6, hf⟩ := ob_some hf
      refine cro_si CX hml (As := [.float x_r5]) (rest := [.long (31 * x1)]) (c_Jxf58ca_floatToIntBits_5c35a l D cy x_r5 e6) lk_RL_169 rfl rfl hRMJxf58ca_floatToIntBits_5c35a vaP_nil hK hN rfl hl.1 rfl (Nat.le_of_ble_eq_true rfl) ⟨by show _ ≤ 295; omega, by show _ ≤ 2360; omega⟩ (dg ddL_digest 74 rfl) ?_
      refine lv_i2l (v := r7.toInt64) hx hb (dg ddL_digest 75 rfl) rfl ?_
      refine lv_ladd hx hb (dg ddL_digest 76 rfl) ?_
      refine lv_lstore_n (lv' := [(1, .long ((31 * x1) + r7.toInt64)), (0, .ref (q 0 0)), (3, .int x3)]) hx hb (dg ddL_digest 77 rfl) rfl hl (by decide) rfl (fun ls hl => ?_)
      refine lv_ldc2 hx hb CX.2.2.2 (CX.2.2.1 (.constantLong RL 157 (31)) (lw_at 787 (by decide +kernel))) (dg ddL_digest 78 rfl) ?_
      refine lv_lload_n hx hb (dg ddL_digest 79 rfl) rfl (lv_at hl 0 rfl) ?_
      refine lv_lmul hx hb (dg ddL_digest 80 rfl) ?_
      refine lv_aload_n hx hb (dg ddL_digest 81 rfl) rfl (lv_at hl 1 rfl) ?_
      refine lv_iload_n hx hb (dg ddL_digest 82 rfl) rfl (lv_at hl 2 rfl) ?_
      obtain ⟨r9, e8, hf⟩ := ob_some hf
      rcases r9 with t9 | x_r9
      · cases os_l hf
      have hf := os_r hf
      refine crv_ri CX hml (As := [.int x3]) (rest := [.long (31 * ((31 * x1) + r7.toInt64))]) (ws := (wX4 q cy x_isv x_te x_re x_de x_now x_spa x_sna x_len x_sig x_nxt x_cnt x_rng)) (wsn := (wX4 q cy x_isv x_te x_re x_de x_now x_spa x_sna x_len x_sig x_nxt x_cnt x_rng)) (wr := []) (c_X4_wear l D cy q x_isv x_te x_re x_de x_now x_spa x_sna x_len x_sig x_nxt x_cnt x_rng x3 _ hst e8) lk_RL_181 rfl rfl hRMX4_wear hP hD hS hA hK hN hX (List.Perm.of_eq (List.append_nil _).symm) (List.Perm.of_eq (List.append_nil _)) 0 rfl rfl rfl hl.1 rfl (Nat.le_of_ble_eq_true rfl) ⟨by show _ ≤ 295; omega, by show _ ≤ 2360; omega⟩ (dg ddL_digest 83 rfl) (fun H locs hP hD hS => ?_)
      refine lv_i2l (v := x_r9.toInt64) hx hb (dg ddL_digest 84 rfl) rfl ?_
      refine lv_ladd hx hb (dg ddL_digest 85 rfl) ?_
      refine lv_lstore_n (lv' := [(1, .long ((31 * ((31 * x1) + r7.toInt64)) + x_r9.toInt64)), (0, .ref (q 0 0)), (3, .int x3)]) hx hb (dg ddL_digest 86 rfl) rfl hl (by decide) rfl (fun ls hl => ?_)
      refine lv_iconst (v := 0) hx hb (dg ddL_digest 87 rfl) (by decide) ?_
      refine lv_istore (lv' := [(4, .int 0), (1, .long ((31 * ((31 * x1) + r7.toInt64)) + x_r9.toInt64)), (0, .ref (q 0 0)), (3, .int x3)]) hx hb (dg ddL_digest 88 rfl) hl (by decide) rfl (fun ls hl => ?_)
      refine W.widen (k := (k + 3)) (n := (ks + 24)) (by omega) (by omega) ?_
      exact K147 (n * 19 + 20) (f_L_digest_c106 x_now x_len x_cnt n) ih 8 ((31 * ((31 * x1) + r7.toInt64)) + x_r9.toInt64) x3 0 (k + 3) (ks + 24) (by omega) (by omega) _ _ hP hD hS _ (lv_sub hl [2, 1, 3, 0] rfl) hf
  have K33 : ∀ (n : Nat), ∀ (x1 : Int64) (x3 : Int32) (k ks : Nat) (hk : k + (n * 10 + 191) ≤ 295) (hks : ks + 8 * (n * 10 + 191) ≤ 2360) (H : Heap) (locs : List Loc) (hP : va_P D vwCl (wX4 q cy x_isv x_te x_re x_de x_now x_spa x_sna x_len x_sig x_nxt x_cnt x_rng) H) (hD : va_D A (wX4 q cy x_isv x_te x_re x_de x_now x_spa x_sna x_len x_sig x_nxt x_cnt x_rng)) (hS : va_S A s.heap H locs) (ls : Array Slot) (hl : lv_has ls 5 [(0, .ref (q 0 0)), (1, .long x1), (3, .int x3)]) (hf : f_L_digest_c33 x_now x_len x_cnt n x1 x3 = some res), W p l e ⟨8, 295, 2360, 140⟩ s m args below meth c H locs k ks (MQ below (qL D (wX4 q cy x_isv x_te x_re x_de x_now x_spa x_sna x_len x_sig x_nxt x_cnt x_rng) res A) args s 295 2360 A) (F0 m 33 ls []) := by
    intro n
    induction n with
    | zero => intro x1 x3 k ks hk hks H locs hP hD hS ls hl hf; cases (show none = some res from hf)
    | succ n ih =>
    intro x1 x3 k ks hk hks H locs hP hD hS ls hl hf
    refine lv_iload_n hx hb (dg ddL_digest 20 rfl) rfl (lv_at hl 2 rfl) ?_
    refine lv_bipush (v := 8) hx hb (dg ddL_digest 21 rfl) (by decide) ?_
    refine lv_icmp_ge (tgt := 104) hx hb (dg ddL_digest 22 rfl) (by decide) (fun h1 => ?_) (fun h1 => ?_)
    · have hf := it_t h1 hf
      refine lv_iconst (v := 0) hx hb (dg ddL_digest 61 rfl) (by decide) ?_
      refine lv_istore_n (lv' := [(3, .int 0), (0, .ref (q 0 0)), (1, .long x1)]) hx hb (dg ddL_digest 62 rfl) rfl hl (by decide) rfl (fun ls hl => ?_)
      refine W.widen (k := (k + 0)) (n := (ks + 0)) (by omega) (by omega) ?_
      exact K106 9 x1 0 (k + 0) (ks + 0) (by omega) (by omega) _ _ hP hD hS _ (lv_sub hl [1, 2, 0] rfl) hf
    · have hf := it_f h1 hf
      refine lv_ldc2 hx hb CX.2.2.2 (CX.2.2.1 (.constantLong RL 157 (31)) (lw_at 787 (by decide +kernel))) (dg ddL_digest 23 rfl) ?_
      refine lv_lload_n hx hb (dg ddL_digest 24 rfl) rfl (lv_at hl 1 rfl) ?_
      refine lv_lmul hx hb (dg ddL_digest 25 rfl) ?_
      refine lv_aload_n hx hb (dg ddL_digest 26 rfl) rfl (lv_at hl 0 rfl) ?_
      refine lv_iload_n hx hb (dg ddL_digest 27 rfl) rfl (lv_at hl 2 rfl) ?_
      obtain ⟨r3, e2, hf⟩ := ob_some hf
      rcases r3 with t9 | x_r3
      · cases os_l hf
      have hf := os_r hf
      refine crv_ri CX hml (As := [.int x3]) (rest := [.long (31 * x1)]) (ws := (wX4 q cy x_isv x_te x_re x_de x_now x_spa x_sna x_len x_sig x_nxt x_cnt x_rng)) (wsn := (wX4 q cy x_isv x_te x_re x_de x_now x_spa x_sna x_len x_sig x_nxt x_cnt x_rng)) (wr := []) (c_X4_noise l D cy q x_isv x_te x_re x_de x_now x_spa x_sna x_len x_sig x_nxt x_cnt x_rng x3 _ hst e2) lk_RL_162 rfl rfl hRMX4_noise hP hD hS hA hK hN hX (List.Perm.of_eq (List.append_nil _).symm) (List.Perm.of_eq (List.append_nil _)) 0 rfl rfl rfl hl.1 rfl (Nat.le_of_ble_eq_true rfl) ⟨by show _ ≤ 295; omega, by show _ ≤ 2360; omega⟩ (dg ddL_digest 28 rfl) (fun H locs hP hD hS => ?_)
      refine lv_i2l (v := x_r3.toInt64) hx hb (dg ddL_digest 29 rfl) rfl ?_
      refine lv_ladd hx hb (dg ddL_digest 30 rfl) ?_
      refine lv_lstore_n (lv' := [(1, .long ((31 * x1) + x_r3.toInt64)), (0, .ref (q 0 0)), (3, .int x3)]) hx hb (dg ddL_digest 31 rfl) rfl hl (by decide) rfl (fun ls hl => ?_)
      refine lv_ldc2 hx hb CX.2.2.2 (CX.2.2.1 (.constantLong RL 157 (31)) (lw_at 787 (by decide +kernel))) (dg ddL_digest 32 rfl) ?_
      refine lv_lload_n hx hb (dg ddL_digest 33 rfl) rfl (lv_at hl 0 rfl) ?_
      refine lv_lmul hx hb (dg ddL_digest 34 rfl) ?_
      refine lv_aload_n hx hb (dg ddL_digest 35 rfl) rfl (lv_at hl 1 rfl) ?_
      refine lv_iload_n hx hb (dg ddL_digest 36 rfl) rfl (lv_at hl 2 rfl) ?_
      obtain ⟨r5, e4, hf⟩ := ob_some hf
      rcases r5 with t9 | x_r5
      · cases os_l hf
      have hf := os_r hf
      refine crv_rf CX hml (As := [.int x3]) (rest := [.long (31 * ((31 * x1) + x_r3.toInt64))]) (ws := (wX4 q cy x_isv x_te x_re x_de x_now x_spa x_sna x_len x_sig x_nxt x_cnt x_rng)) (wsn := (wX4 q cy x_isv x_te x_re x_de x_now x_spa x_sna x_len x_sig x_nxt x_cnt x_rng)) (wr := []) (c_X4_below l D cy q x_isv x_te x_re x_de x_now x_spa x_sna x_len x_sig x_nxt x_cnt x_rng x3 _ hst e4) lk_RL_165 rfl rfl hRMX4_below hP hD hS hA hK hN hX (List.Perm.of_eq (List.append_nil _).symm) (List.Perm.of_eq (List.append_nil _)) 0 rfl rfl rfl hl.1 rfl (Nat.le_of_ble_eq_true rfl) ⟨by show _ ≤ 295; omega, by show _ ≤ 2360; omega⟩ (dg ddL_digest 37 rfl) (fun H locs hP hD hS => ?_)
      obtain ⟨r7, e6, hf⟩ := ob_some hf
      refine cro_si CX hml (As := [.float x_r5]) (rest := [.long (31 * ((31 * x1) + x_r3.toInt64))]) (c_Jxf58ca_floatToIntBits_5c35a l D cy x_r5 e6) lk_RL_169 rfl rfl hRMJxf58ca_floatToIntBits_5c35a vaP_nil hK hN rfl hl.1 rfl (Nat.le_of_ble_eq_true rfl) ⟨by show _ ≤ 295; omega, by show _ ≤ 2360; omega⟩ (dg ddL_digest 38 rfl) ?_
      refine lv_i2l (v := r7.toInt64) hx hb (dg ddL_digest 39 rfl) rfl ?_
      refine lv_ladd hx hb (dg ddL_digest 40 rfl) ?_
      refine lv_lstore_n (lv' := [(1, .long ((31 * ((31 * x1) + x_r3.toInt64)) + r7.toInt64)), (0, .ref (q 0 0)), (3, .int x3)]) hx hb (dg ddL_digest 41 rfl) rfl hl (by decide) rfl (fun ls hl => ?_)
      refine lv_iconst (v := 0) hx hb (dg ddL_digest 42 rfl) (by decide) ?_
      refine lv_istore (lv' := [(4, .int 0), (1, .long ((31 * ((31 * x1) + x_r3.toInt64)) + r7.toInt64)), (0, .ref (q 0 0)), (3, .int x3)]) hx hb (dg ddL_digest 43 rfl) hl (by decide) rfl (fun ls hl => ?_)
      refine W.widen (k := (k + 2)) (n := (ks + 16)) (by omega) (by omega) ?_
      exact K71 (n * 10 + 191) (f_L_digest_c33 x_now x_len x_cnt n) ih 4 ((31 * ((31 * x1) + x_r3.toInt64)) + r7.toInt64) x3 0 (k + 2) (ks + 16) (by omega) (by omega) _ _ hP hD hS _ (lv_sub hl [2, 1, 3, 0] rfl) hf
  have K6 : ∀ (n : Nat), ∀ (x1 : Int64) (x3 : Int32) (k ks : Nat) (hk : k + (n * 1 + 281) ≤ 295) (hks : ks + 8 * (n * 1 + 281) ≤ 2360) (H : Heap) (locs : List Loc) (hP : va_P D vwCl (wX4 q cy x_isv x_te x_re x_de x_now x_spa x_sna x_len x_sig x_nxt x_cnt x_rng) H) (hD : va_D A (wX4 q cy x_isv x_te x_re x_de x_now x_spa x_sna x_len x_sig x_nxt x_cnt x_rng)) (hS : va_S A s.heap H locs) (ls : Array Slot) (hl : lv_has ls 5 [(0, .ref (q 0 0)), (1, .long x1), (3, .int x3)]) (hf : f_L_digest_c6 x_now x_len x_cnt n x1 x3 = some res), W p l e ⟨8, 295, 2360, 140⟩ s m args below meth c H locs k ks (MQ below (qL D (wX4 q cy x_isv x_te x_re x_de x_now x_spa x_sna x_len x_sig x_nxt x_cnt x_rng) res A) args s 295 2360 A) (F0 m 6 ls []) := by
    intro n
    induction n with
    | zero => intro x1 x3 k ks hk hks H locs hP hD hS ls hl hf; cases (show none = some res from hf)
    | succ n ih =>
    intro x1 x3 k ks hk hks H locs hP hD hS ls hl hf
    refine lv_iload_n hx hb (dg ddL_digest 4 rfl) rfl (lv_at hl 2 rfl) ?_
    refine lv_bipush (v := 13) hx hb (dg ddL_digest 5 rfl) (by decide) ?_
    refine lv_icmp_ge (tgt := 31) hx hb (dg ddL_digest 6 rfl) (by decide) (fun h1 => ?_) (fun h1 => ?_)
    · have hf := it_t h1 hf
      refine lv_iconst (v := 0) hx hb (dg ddL_digest 18 rfl) (by decide) ?_
      refine lv_istore_n (lv' := [(3, .int 0), (0, .ref (q 0 0)), (1, .long x1)]) hx hb (dg ddL_digest 19 rfl) rfl hl (by decide) rfl (fun ls hl => ?_)
      refine W.widen (k := (k + 0)) (n := (ks + 0)) (by omega) (by omega) ?_
      exact K33 9 x1 0 (k + 0) (ks + 0) (by omega) (by omega) _ _ hP hD hS _ (lv_sub hl [1, 2, 0] rfl) hf
    · have hf := it_f h1 hf
      refine lv_ldc2 hx hb CX.2.2.2 (CX.2.2.1 (.constantLong RL 157 (31)) (lw_at 787 (by decide +kernel))) (dg ddL_digest 7 rfl) ?_
      refine lv_lload_n hx hb (dg ddL_digest 8 rfl) rfl (lv_at hl 1 rfl) ?_
      refine lv_lmul hx hb (dg ddL_digest 9 rfl) ?_
      refine lv_aload_n hx hb (dg ddL_digest 10 rfl) rfl (lv_at hl 0 rfl) ?_
      refine lv_iload_n hx hb (dg ddL_digest 11 rfl) rfl (lv_at hl 2 rfl) ?_
      obtain ⟨r3, e2, hf⟩ := ob_some hf
      rcases r3 with t9 | x_r3
      · cases os_l hf
      have hf := os_r hf
      refine crv_ri CX hml (As := [.int x3]) (rest := [.long (31 * x1)]) (ws := (wX4 q cy x_isv x_te x_re x_de x_now x_spa x_sna x_len x_sig x_nxt x_cnt x_rng)) (wsn := (wX4 q cy x_isv x_te x_re x_de x_now x_spa x_sna x_len x_sig x_nxt x_cnt x_rng)) (wr := []) (c_X4_account l D cy q x_isv x_te x_re x_de x_now x_spa x_sna x_len x_sig x_nxt x_cnt x_rng x3 _ hst e2) lk_RL_159 rfl rfl hRMX4_account hP hD hS hA hK hN hX (List.Perm.of_eq (List.append_nil _).symm) (List.Perm.of_eq (List.append_nil _)) 0 rfl rfl rfl hl.1 rfl (Nat.le_of_ble_eq_true rfl) ⟨by show _ ≤ 295; omega, by show _ ≤ 2360; omega⟩ (dg ddL_digest 12 rfl) (fun H locs hP hD hS => ?_)
      refine lv_i2l (v := x_r3.toInt64) hx hb (dg ddL_digest 13 rfl) rfl ?_
      refine lv_ladd hx hb (dg ddL_digest 14 rfl) ?_
      refine lv_lstore_n (lv' := [(1, .long ((31 * x1) + x_r3.toInt64)), (0, .ref (q 0 0)), (3, .int x3)]) hx hb (dg ddL_digest 15 rfl) rfl hl (by decide) rfl (fun ls hl => ?_)
      refine lv_iinc (v := x3 + 1) (lv' := [(3, .int (x3 + 1)), (1, .long ((31 * x1) + x_r3.toInt64)), (0, .ref (q 0 0))]) hx hb (dg ddL_digest 16 rfl) hl (k := 2) rfl (congrArg (HAdd.hAdd x3) (by decide)) (by decide) rfl (fun ls hl => ?_)
      refine lv_goto (tgt := 6) hx hb (dg ddL_digest 17 rfl) (by decide) ?_
      refine W.widen (k := (k + 1)) (n := (ks + 8)) (by omega) (by omega) ?_
      exact ih ((31 * x1) + x_r3.toInt64) (x3 + 1) (k + 1) (ks + 8) (by omega) (by omega) _ _ hP hD hS _ (lv_sub hl [2, 1, 0] rfl) hf
  refine lv_ldc2 hx hb CX.2.2.2 (CX.2.2.1 (.constantLong RL 155 (7)) (lw_at 786 (by decide +kernel))) (dg ddL_digest 0 rfl) ?_
  refine lv_lstore_n (lv' := [(1, .long 7), (0, .ref (q 0 0))]) hx hb (dg ddL_digest 1 rfl) rfl hl (by decide) rfl (fun ls hl => ?_)
  refine lv_iconst (v := 0) hx hb (dg ddL_digest 2 rfl) (by decide) ?_
  refine lv_istore_n (lv' := [(3, .int 0), (1, .long 7), (0, .ref (q 0 0))]) hx hb (dg ddL_digest 3 rfl) rfl hl (by decide) rfl (fun ls hl => ?_)
  refine W.widen (k := (0 + 0)) (n := (0 + 0)) (by omega) (by omega) ?_
  exact K6 14 7 0 (0 + 0) (0 + 0) (by omega) (by omega) _ _ hP hD hS _ (lv_sub hl [2, 1, 0] rfl) hf
def f_L_noiseOf (x_now : SV) (a2 : Int32) : Option (UInt32) := ob (f_X4_noise x_now a2) fun r2 => (os r2 (fun _ => none) fun x_r2 => (og (okI x_r2) (some x_r2.toUInt32)))
set_option maxHeartbeats 8000000 in
set_option maxRecDepth 100000 in
theorem c_L_noiseOf (l : Launch) (D : va_G) (cy : Nat → ClassId) (q : Nat → Nat → Nat) (x_isv : Int32) (x_te : Int32) (x_re : Int32) (x_de : Int32) (x_now : SV) (x_spa : SV) (x_sna : SV) (x_len : Int32) (x_sig : Nat → Int32) (x_nxt : Int32) (x_cnt : Int32) (x_rng : Nat → SV) (a2 : Int32) (sz : Nat) (hst : l.stackTraces = false) {res : UInt32} (hf : f_L_noiseOf x_now a2 = some res) : Met l yL_noiseOf (.code yL_noiseOf cL_noiseOf 2 (some .float) :: lw_all) { frames := 8, cells := 1, slots := 8, locals := 140 } (va_Pc [.ref (q 0 0), .int a2] (sY D cy (wX4 q cy x_isv x_te x_re x_de x_now x_spa x_sna x_len x_sig x_nxt x_cnt x_rng) sz)) (qF D (wX4 q cy x_isv x_te x_re x_de x_now x_spa x_sna x_len x_sig x_nxt x_cnt x_rng) res (va_A (wX4 q cy x_isv x_te x_re x_de x_now x_spa x_sna x_len x_sig x_nxt x_cnt x_rng) sz)) 1 8 (va_A (wX4 q cy x_isv x_te x_re x_de x_now x_spa x_sna x_len x_sig x_nxt x_cnt x_rng) sz) := by
  refine mk_lc (Qc := qF D (wX4 q cy x_isv x_te x_re x_de x_now x_spa x_sna x_len x_sig x_nxt x_cnt x_rng) res) (Rc := RL) (by decide +kernel) rfl (Nat.le_of_ble_eq_true rfl) ?_
  intro p e s m args below meth c ls A CX hml hr hlk hK hN hP hD hS hA hl hX hC
  have hx := CX.1
  have hb := CX.2.1
  have hRMX4_noise : (⟨7, 1, 6, 119⟩ : Room).frames + 1 ≤ (⟨8, 1, 8, 140⟩ : Room).frames ∧ 8 + (2 + 11) + (⟨7, 1, 6, 119⟩ : Room).locals ≤ (⟨8, 1, 8, 140⟩ : Room).locals := ⟨(Nat.le_of_ble_eq_true rfl), (Nat.le_of_ble_eq_true rfl)⟩
  refine lv_aload_n hx hb (dg ddL_noiseOf 0 rfl) rfl (lv_at hl 0 rfl) ?_
  refine lv_iload_n hx hb (dg ddL_noiseOf 1 rfl) rfl (lv_at hl 1 rfl) ?_
  obtain ⟨r2, e1, hf⟩ := ob_some hf
  rcases r2 with t9 | x_r2
  · cases os_l hf
  have hf := os_r hf
  refine crv_ri CX hml (As := [.int a2]) (rest := []) (ws := (wX4 q cy x_isv x_te x_re x_de x_now x_spa x_sna x_len x_sig x_nxt x_cnt x_rng)) (wsn := (wX4 q cy x_isv x_te x_re x_de x_now x_spa x_sna x_len x_sig x_nxt x_cnt x_rng)) (wr := []) (c_X4_noise l D cy q x_isv x_te x_re x_de x_now x_spa x_sna x_len x_sig x_nxt x_cnt x_rng a2 _ hst e1) lk_RL_162 rfl rfl hRMX4_noise hP hD hS hA hK hN hX (List.Perm.of_eq (List.append_nil _).symm) (List.Perm.of_eq (List.append_nil _)) 0 rfl rfl rfl hl.1 rfl (Nat.le_of_ble_eq_true rfl) ⟨by show _ ≤ 1; omega, by show _ ≤ 8; omega⟩ (dg ddL_noiseOf 2 rfl) (fun H locs hP hD hS => ?_)
  obtain ⟨h3, hf⟩ := og_some hf
  refine vn_i2f hx hb (hml.trans hl.1.symm) CX.2.2.2 (CX.2.2.1 (.methodLink RL 189 nmI2f) (lw_at 879 (by decide +kernel))) (CX.2.2.1 _ (mNat (by simp [nmF2i, nmI2f, nmD2l]))) (CX.2.2.1 _ (mNat (by simp [nmF2i, nmI2f, nmD2l]))) (CX.2.2.1 _ (mNat (by simp [nmF2i, nmI2f, nmD2l]))) (okI_in h3) (Nat.le_of_ble_eq_true rfl) (Nat.le_of_ble_eq_true rfl) (dg ddL_noiseOf 3 rfl) ?_
  cases hf
  refine W.widen (k := 1) (n := 8) (by omega) (by omega) ?_
  exact e_wf CX hr hlk rfl hP hD hS (dg ddL_noiseOf 4 rfl)
def f_L_isPitch_c150  (a2 : Int32) (x3 : UInt32) (t0 : Int32) (x_now : SV) : Option (Int32 × SV) := if t0 = 0 then (some (0, x_now)) else (if (Op.cmpValue (FP.fcmp x3 FP.fconst0) .l) < 0 then (some (0, x_now)) else (ob (f_X4_loudest x_now) fun r4 => (ob (f_L_noiseOf x_now r4) fun r6 => (if 0 < (Op.cmpValue (FP.fcmp x3 r6) .g) then (some (0, x_now)) else (ob (f_X4_pitchOf x_now a2 1) fun r9 => (os r9 (fun _ => none) fun x_r9 => (ob (f_X4_pitchOf x_now a2 2) fun r11 => (os r11 (fun _ => none) fun x_r11 => (if x_r11 < x_r9 then (some (0, x_now)) else (ob (f_X4_pitchOf x_now a2 1) fun r14 => (os r14 (fun _ => none) fun x_r14 => (if x_r14 < 0 then (some (0, x_now)) else (ob (f_X4_pitchOf x_now a2 1) fun r17 => (os r17 (fun _ => none) fun x_r17 => (if 99 < x_r17 then (some (0, x_now)) else (some (1, x_now)))))))))))))))))
def f_L_isPitch_c145  (a2 : Int32) (x3 : UInt32) (x_now : SV) : Option (Int32 × SV) := f_L_isPitch_c150 a2 x3 1 x_now
def f_L_isPitch_c149  (a2 : Int32) (x3 : UInt32) (x_now : SV) : Option (Int32 × SV) := f_L_isPitch_c150 a2 x3 0 x_now
def f_L_isPitch_c114  (a2 : Int32) (x2 : Int32) (x3 : UInt32) (t0 : Int32) (t1 : Int32) (x_now : SV) : Option (Int32 × SV) := if t1 = t0 then (if x2 < 0 then (f_L_isPitch_c145 a2 x3 x_now) else (ob (f_X4_buskerOf x_now x2 2) fun r4 => (os r4 (fun _ => none) fun x_r4 => (if x_r4 = a2 then (ob (f_X4_noiseWith x_now a2 x2) fun r7 => (os r7 (fun _ => none) fun x_r7 => (ob (f_X4_noise x_now a2) fun r9 => (os r9 (fun _ => none) fun x_r9 => (if x_r7 = x_r9 then (f_L_isPitch_c145 a2 x3 x_now) else (f_L_isPitch_c149 a2 x3 x_now)))))) else (f_L_isPitch_c149 a2 x3 x_now))))) else (f_L_isPitch_c149 a2 x3 x_now)
def f_L_isPitch_c82  (a2 : Int32) (x2 : Int32) (x3 : UInt32) (x4 : Int32) (x5 : Int32) (t0 : Int32) (x_now : SV) : Option (Int32 × SV) := ob (f_X4_noise x_now a2) fun r2 => (os r2 (fun _ => none) fun x_r2 => (ob (f_X4_noiseAgain x_now a2) fun r4 => (os r4 (fun _ => none) fun x_r4 => (if x_r2 = x_r4.1 then (ob (f_X4_sign x_r4.2 a2) fun r7 => (os r7 (fun _ => none) fun x_r7 => (if x4 = 0 then (f_L_isPitch_c114 a2 x2 x3 x5 x_r7 x_r4.2) else (f_L_isPitch_c114 a2 x2 x3 t0 x_r7 x_r4.2)))) else (f_L_isPitch_c149 a2 x3 x_r4.2)))))
def f_L_isPitch_c55  (a2 : Int32) (x2 : Int32) (x3 : UInt32) (x4 : Int32) (t0 : Int32) (x_now : SV) : Option (Int32 × SV) := if 0 ≤ x2 then (ob (f_X4_buskerOf x_now x2 0) fun r3 => (os r3 (fun _ => none) fun x_r3 => (if x_r3 = 0 then (f_L_isPitch_c82 a2 x2 x3 x4 t0 70 x_now) else (f_L_isPitch_c82 a2 x2 x3 x4 t0 65 x_now)))) else (f_L_isPitch_c82 a2 x2 x3 x4 t0 33 x_now)
def f_L_isPitch_c28  (a2 : Int32) (x2 : Int32) (x3 : UInt32) (t0 : Int32) (x_now : SV) : Option (Int32 × SV) := if 0 ≤ x2 then (ob (f_X4_buskerOf x_now x2 0) fun r3 => (os r3 (fun _ => none) fun x_r3 => (if x_r3 = 0 then (f_L_isPitch_c55 a2 x2 x3 t0 102 x_now) else (f_L_isPitch_c55 a2 x2 x3 t0 97 x_now)))) else (f_L_isPitch_c55 a2 x2 x3 t0 46 x_now)
def f_L_isPitch (x_now : SV) (a2 : Int32) : Option (Int32 × SV) := ob (f_X4_pitchOf x_now a2 0) fun r2 => (os r2 (fun _ => none) fun x_r2 => (ob (f_L_noiseOf x_now a2) fun r4 => (ob (f_X4_below x_now a2) fun r6 => (os r6 (fun _ => none) fun x_r6 => (if 0 ≤ (Op.cmpValue (FP.fcmp x_r6 FP.fconst0) .g) then (f_L_isPitch_c28 a2 x_r2 r4 0 x_now) else (f_L_isPitch_c28 a2 x_r2 r4 1 x_now))))))
set_option maxHeartbeats 8000000 in
set_option maxRecDepth 100000 in
theorem c_L_isPitch (l : Launch) (D : va_G) (cy : Nat → ClassId) (q : Nat → Nat → Nat) (x_isv : Int32) (x_te : Int32) (x_re : Int32) (x_de : Int32) (x_now : SV) (x_spa : SV) (x_sna : SV) (x_len : Int32) (x_sig : Nat → Int32) (x_nxt : Int32) (x_cnt : Int32) (x_rng : Nat → SV) (a2 : Int32) (sz : Nat) (hst : l.stackTraces = false) {res : Int32 × SV} (hf : f_L_isPitch x_now a2 = some res) : Met l yL_isPitch (.code yL_isPitch cL_isPitch 8 (some .boolean) :: lw_all) { frames := 9, cells := 25, slots := 200, locals := 161 } (va_Pc [.ref (q 0 0), .int a2] (sY D cy (wX4 q cy x_isv x_te x_re x_de x_now x_spa x_sna x_len x_sig x_nxt x_cnt x_rng) sz)) (qI D (wX4 q cy x_isv x_te x_re x_de res.2 x_spa x_sna x_len x_sig x_nxt x_cnt x_rng) res.1 (va_A (wX4 q cy x_isv x_te x_re x_de x_now x_spa x_sna x_len x_sig x_nxt x_cnt x_rng) sz)) 25 200 (va_A (wX4 q cy x_isv x_te x_re x_de x_now x_spa x_sna x_len x_sig x_nxt x_cnt x_rng) sz) := by
  refine mk_lc (Qc := qI D (wX4 q cy x_isv x_te x_re x_de res.2 x_spa x_sna x_len x_sig x_nxt x_cnt x_rng) res.1) (Rc := RL) (by decide +kernel) rfl (Nat.le_of_ble_eq_true rfl) ?_
  intro p e s m args below meth c ls A CX hml hr hlk hK hN hP hD hS hA hl hX hC
  have hx := CX.1
  have hb := CX.2.1
  have hRML_noiseOf : (⟨8, 1, 8, 140⟩ : Room).frames + 1 ≤ (⟨9, 25, 200, 161⟩ : Room).frames ∧ 8 + (2 + 11) + (⟨8, 1, 8, 140⟩ : Room).locals ≤ (⟨9, 25, 200, 161⟩ : Room).locals := ⟨(Nat.le_of_ble_eq_true rfl), (Nat.le_of_ble_eq_true rfl)⟩
  have hRMX4_below : (⟨7, 1, 6, 119⟩ : Room).frames + 1 ≤ (⟨9, 25, 200, 161⟩ : Room).frames ∧ 8 + (2 + 11) + (⟨7, 1, 6, 119⟩ : Room).locals ≤ (⟨9, 25, 200, 161⟩ : Room).locals := ⟨(Nat.le_of_ble_eq_true rfl), (Nat.le_of_ble_eq_true rfl)⟩
  have hRMX4_buskerOf : (⟨7, 2, 12, 102⟩ : Room).frames + 1 ≤ (⟨9, 25, 200, 161⟩ : Room).frames ∧ 8 + (3 + 11) + (⟨7, 2, 12, 102⟩ : Room).locals ≤ (⟨9, 25, 200, 161⟩ : Room).locals := ⟨(Nat.le_of_ble_eq_true rfl), (Nat.le_of_ble_eq_true rfl)⟩
  have hRMX4_loudest : (⟨6, 0, 0, 119⟩ : Room).frames + 1 ≤ (⟨9, 25, 200, 161⟩ : Room).frames ∧ 8 + (3 + 11) + (⟨6, 0, 0, 119⟩ : Room).locals ≤ (⟨9, 25, 200, 161⟩ : Room).locals := ⟨(Nat.le_of_ble_eq_true rfl), (Nat.le_of_ble_eq_true rfl)⟩
  have hRMX4_noise : (⟨7, 1, 6, 119⟩ : Room).frames + 1 ≤ (⟨9, 25, 200, 161⟩ : Room).frames ∧ 8 + (2 + 11) + (⟨7, 1, 6, 119⟩ : Room).locals ≤ (⟨9, 25, 200, 161⟩ : Room).locals := ⟨(Nat.le_of_ble_eq_true rfl), (Nat.le_of_ble_eq_true rfl)⟩
  have hRMX4_noiseAgain : (⟨7, 1, 6, 102⟩ : Room).frames + 1 ≤ (⟨9, 25, 200, 161⟩ : Room).frames ∧ 8 + (2 + 11) + (⟨7, 1, 6, 102⟩ : Room).locals ≤ (⟨9, 25, 200, 161⟩ : Room).locals := ⟨(Nat.le_of_ble_eq_true rfl), (Nat.le_of_ble_eq_true rfl)⟩
  have hRMX4_noiseWith : (⟨7, 2, 12, 120⟩ : Room).frames + 1 ≤ (⟨9, 25, 200, 161⟩ : Room).frames ∧ 8 + (3 + 11) + (⟨7, 2, 12, 120⟩ : Room).locals ≤ (⟨9, 25, 200, 161⟩ : Room).locals := ⟨(Nat.le_of_ble_eq_true rfl), (Nat.le_of_ble_eq_true rfl)⟩
  have hRMX4_pitchOf : (⟨7, 2, 12, 102⟩ : Room).frames + 1 ≤ (⟨9, 25, 200, 161⟩ : Room).frames ∧ 8 + (3 + 11) + (⟨7, 2, 12, 102⟩ : Room).locals ≤ (⟨9, 25, 200, 161⟩ : Room).locals := ⟨(Nat.le_of_ble_eq_true rfl), (Nat.le_of_ble_eq_true rfl)⟩
  have hRMX4_sign : (⟨7, 1, 6, 119⟩ : Room).frames + 1 ≤ (⟨9, 25, 200, 161⟩ : Room).frames ∧ 8 + (4 + 11) + (⟨7, 1, 6, 119⟩ : Room).locals ≤ (⟨9, 25, 200, 161⟩ : Room).locals := ⟨(Nat.le_of_ble_eq_true rfl), (Nat.le_of_ble_eq_true rfl)⟩
  have K150 : ∀ (x3 : UInt32) (t0 : Int32) (x_now : SV) (k ks : Nat) (hk : k + (9) ≤ 25) (hks : ks + 8 * (9) ≤ 200) (H : Heap) (locs : List Loc) (hP : va_P D vwCl (wX4 q cy x_isv x_te x_re x_de x_now x_spa x_sna x_len x_sig x_nxt x_cnt x_rng) H) (hD : va_D A (wX4 q cy x_isv x_te x_re x_de x_now x_spa x_sna x_len x_sig x_nxt x_cnt x_rng)) (hS : va_S A s.heap H locs) (ls : Array Slot) (hl : lv_has ls 8 [(0, .ref (q 0 0)), (1, .int a2), (3, .float x3)]) (hf : f_L_isPitch_c150 a2 x3 t0 x_now = some res), W p l e ⟨9, 25, 200, 161⟩ s m args below meth c H locs k ks (MQ below (qI D (wX4 q cy x_isv x_te x_re x_de res.2 x_spa x_sna x_len x_sig x_nxt x_cnt x_rng) res.1 A) args s 25 200 A) (F0 m 150 ls [.int t0]) := by
    intro x3 t0 x_now k ks hk hks H locs hP hD hS ls hl hf
    refine lv_istore (lv' := [(7, .int t0), (0, .ref (q 0 0)), (1, .int a2), (3, .float x3)]) hx hb (dg ddL_isPitch 80 rfl) hl (by decide) rfl (fun ls hl => ?_)
    refine lv_iload hx hb (dg ddL_isPitch 81 rfl) (lv_at hl 0 rfl) ?_
    refine lv_if_eq (tgt := 215) hx hb (dg ddL_isPitch 82 rfl) (by decide) (fun h1 => ?_) (fun h1 => ?_)
    · have hf := it_t h1 hf
      refine lv_iconst (v := 0) hx hb (dg ddL_isPitch 116 rfl) (by decide) ?_
      cases hf
      refine W.widen (k := 25) (n := 200) (by omega) (by omega) ?_
      exact e_wz CX hr hlk (by decide) rfl hP hD hS (dg ddL_isPitch 117 rfl)
    · have hf := it_f h1 hf
      refine lv_fload_n hx hb (dg ddL_isPitch 83 rfl) rfl (lv_at hl 3 rfl) ?_
      refine lv_fconst0 hx hb (dg ddL_isPitch 84 rfl) ?_
      refine lv_fcmp hx hb (dg ddL_isPitch 85 rfl) ?_
      refine lv_if_lt (tgt := 215) hx hb (dg ddL_isPitch 86 rfl) (by decide) (fun h2 => ?_) (fun h2 => ?_)
      · have hf := it_t h2 hf
        refine lv_iconst (v := 0) hx hb (dg ddL_isPitch 116 rfl) (by decide) ?_
        cases hf
        refine W.widen (k := 25) (n := 200) (by omega) (by omega) ?_
        exact e_wz CX hr hlk (by decide) rfl hP hD hS (dg ddL_isPitch 117 rfl)
      · have hf := it_f h2 hf
        refine lv_fload_n hx hb (dg ddL_isPitch 87 rfl) rfl (lv_at hl 3 rfl) ?_
        refine lv_aload_n hx hb (dg ddL_isPitch 88 rfl) rfl (lv_at hl 1 rfl) ?_
        refine lv_aload_n hx hb (dg ddL_isPitch 89 rfl) rfl (lv_at hl 1 rfl) ?_
        obtain ⟨r4, e3, hf⟩ := ob_some hf
        refine cro_vi CX hml (As := []) (rest := [.ref (q 0 0), .float x3]) (c_X4_loudest l D cy q x_isv x_te x_re x_de x_now x_spa x_sna x_len x_sig x_nxt x_cnt x_rng e3) lk_RL_205 rfl rfl hRMX4_loudest hP hK hN 0 rfl rfl rfl hl.1 rfl (Nat.le_of_ble_eq_true rfl) ⟨by show _ ≤ 25; omega, by show _ ≤ 200; omega⟩ (dg ddL_isPitch 90 rfl) ?_
        obtain ⟨r6, e5, hf⟩ := ob_some hf
        refine crc_f CX hml (As := [.ref (q 0 0), .int r4]) (rest := [.float x3]) (ws := (wX4 q cy x_isv x_te x_re x_de x_now x_spa x_sna x_len x_sig x_nxt x_cnt x_rng)) (wsn := (wX4 q cy x_isv x_te x_re x_de x_now x_spa x_sna x_len x_sig x_nxt x_cnt x_rng)) (wr := []) (c_L_noiseOf l D cy q x_isv x_te x_re x_de x_now x_spa x_sna x_len x_sig x_nxt x_cnt x_rng r4 _ hst e5) lk_RL_192 rfl rfl hRML_noiseOf hP hD hS hA hK hN hX hC (List.Perm.of_eq (List.append_nil _).symm) (List.Perm.of_eq (List.append_nil _)) rfl hl.1 rfl (Nat.le_of_ble_eq_true rfl) ⟨by show _ ≤ 25; omega, by show _ ≤ 200; omega⟩ (dg ddL_isPitch 91 rfl) (fun H locs hP hD hS => ?_)
        refine lv_fcmp hx hb (dg ddL_isPitch 92 rfl) ?_
        refine lv_if_gt (tgt := 215) hx hb (dg ddL_isPitch 93 rfl) (by decide) (fun h7 => ?_) (fun h7 => ?_)
        · have hf := it_t h7 hf
          refine lv_iconst (v := 0) hx hb (dg ddL_isPitch 116 rfl) (by decide) ?_
          cases hf
          refine W.widen (k := 25) (n := 200) (by omega) (by omega) ?_
          exact e_wz CX hr hlk (by decide) rfl hP hD hS (dg ddL_isPitch 117 rfl)
        · have hf := it_f h7 hf
          refine lv_aload_n hx hb (dg ddL_isPitch 94 rfl) rfl (lv_at hl 1 rfl) ?_
          refine lv_iload_n hx hb (dg ddL_isPitch 95 rfl) rfl (lv_at hl 2 rfl) ?_
          refine lv_iconst (v := 1) hx hb (dg ddL_isPitch 96 rfl) (by decide) ?_
          obtain ⟨r9, e8, hf⟩ := ob_some hf
          rcases r9 with t9 | x_r9
          · cases os_l hf
          have hf := os_r hf
          refine crv_ri CX hml (As := [.int a2, .int 1]) (rest := []) (ws := (wX4 q cy x_isv x_te x_re x_de x_now x_spa x_sna x_len x_sig x_nxt x_cnt x_rng)) (wsn := (wX4 q cy x_isv x_te x_re x_de x_now x_spa x_sna x_len x_sig x_nxt x_cnt x_rng)) (wr := []) (c_X4_pitchOf l D cy q x_isv x_te x_re x_de x_now x_spa x_sna x_len x_sig x_nxt x_cnt x_rng a2 1 _ hst e8) lk_RL_175 rfl rfl hRMX4_pitchOf hP hD hS hA hK hN hX (List.Perm.of_eq (List.append_nil _).symm) (List.Perm.of_eq (List.append_nil _)) 0 rfl rfl rfl hl.1 rfl (Nat.le_of_ble_eq_true rfl) ⟨by show _ ≤ 25; omega, by show _ ≤ 200; omega⟩ (dg ddL_isPitch 97 rfl) (fun H locs hP hD hS => ?_)
          refine lv_aload_n hx hb (dg ddL_isPitch 98 rfl) rfl (lv_at hl 1 rfl) ?_
          refine lv_iload_n hx hb (dg ddL_isPitch 99 rfl) rfl (lv_at hl 2 rfl) ?_
          refine lv_iconst (v := 2) hx hb (dg ddL_isPitch 100 rfl) (by decide) ?_
          obtain ⟨r11, e10, hf⟩ := ob_some hf
          rcases r11 with t9 | x_r11
          · cases os_l hf
          have hf := os_r hf
          refine crv_ri CX hml (As := [.int a2, .int 2]) (rest := [.int x_r9]) (ws := (wX4 q cy x_isv x_te x_re x_de x_now x_spa x_sna x_len x_sig x_nxt x_cnt x_rng)) (wsn := (wX4 q cy x_isv x_te x_re x_de x_now x_spa x_sna x_len x_sig x_nxt x_cnt x_rng)) (wr := []) (c_X4_pitchOf l D cy q x_isv x_te x_re x_de x_now x_spa x_sna x_len x_sig x_nxt x_cnt x_rng a2 2 _ hst e10) lk_RL_175 rfl rfl hRMX4_pitchOf hP hD hS hA hK hN hX (List.Perm.of_eq (List.append_nil _).symm) (List.Perm.of_eq (List.append_nil _)) 0 rfl rfl rfl hl.1 rfl (Nat.le_of_ble_eq_true rfl) ⟨by show _ ≤ 25; omega, by show _ ≤ 200; omega⟩ (dg ddL_isPitch 101 rfl) (fun H locs hP hD hS => ?_)
          refine lv_icmp_gt (tgt := 215) hx hb (dg ddL_isPitch 102 rfl) (by decide) (fun h12 => ?_) (fun h12 => ?_)
          · have hf := it_t h12 hf
            refine lv_iconst (v := 0) hx hb (dg ddL_isPitch 116 rfl) (by decide) ?_
            cases hf
            refine W.widen (k := 25) (n := 200) (by omega) (by omega) ?_
            exact e_wz CX hr hlk (by decide) rfl hP hD hS (dg ddL_isPitch 117 rfl)
          · have hf := it_f h12 hf
            refine lv_aload_n hx hb (dg ddL_isPitch 103 rfl) rfl (lv_at hl 1 rfl) ?_
            refine lv_iload_n hx hb (dg ddL_isPitch 104 rfl) rfl (lv_at hl 2 rfl) ?_
            refine lv_iconst (v := 1) hx hb (dg ddL_isPitch 105 rfl) (by decide) ?_
            obtain ⟨r14, e13, hf⟩ := ob_some hf
            rcases r14 with t9 | x_r14
            · cases os_l hf
            have hf := os_r hf
            refine crv_ri CX hml (As := [.int a2, .int 1]) (rest := []) (ws := (wX4 q cy x_isv x_te x_re x_de x_now x_spa x_sna x_len x_sig x_nxt x_cnt x_rng)) (wsn := (wX4 q cy x_isv x_te x_re x_de x_now x_spa x_sna x_len x_sig x_nxt x_cnt x_rng)) (wr := []) (c_X4_pitchOf l D cy q x_isv x_te x_re x_de x_now x_spa x_sna x_len x_sig x_nxt x_cnt x_rng a2 1 _ hst e13) lk_RL_175 rfl rfl hRMX4_pitchOf hP hD hS hA hK hN hX (List.Perm.of_eq (List.append_nil _).symm) (List.Perm.of_eq (List.append_nil _)) 0 rfl rfl rfl hl.1 rfl (Nat.le_of_ble_eq_true rfl) ⟨by show _ ≤ 25; omega, by show _ ≤ 200; omega⟩ (dg ddL_isPitch 106 rfl) (fun H locs hP hD hS => ?_)
            refine lv_if_lt (tgt := 215) hx hb (dg ddL_isPitch 107 rfl) (by decide) (fun h15 => ?_) (fun h15 => ?_)
            · have hf := it_t h15 hf
              refine lv_iconst (v := 0) hx hb (dg ddL_isPitch 116 rfl) (by decide) ?_
              cases hf
              refine W.widen (k := 25) (n := 200) (by omega) (by omega) ?_
              exact e_wz CX hr hlk (by decide) rfl hP hD hS (dg ddL_isPitch 117 rfl)
            · have hf := it_f h15 hf
              refine lv_aload_n hx hb (dg ddL_isPitch 108 rfl) rfl (lv_at hl 1 rfl) ?_
              refine lv_iload_n hx hb (dg ddL_isPitch 109 rfl) rfl (lv_at hl 2 rfl) ?_
              refine lv_iconst (v := 1) hx hb (dg ddL_isPitch 110 rfl) (by decide) ?_
              obtain ⟨r17, e16, hf⟩ := ob_some hf
              rcases r17 with t9 | x_r17
              · cases os_l hf
              have hf := os_r hf
              refine crv_ri CX hml (As := [.int a2, .int 1]) (rest := []) (ws := (wX4 q cy x_isv x_te x_re x_de x_now x_spa x_sna x_len x_sig x_nxt x_cnt x_rng)) (wsn := (wX4 q cy x_isv x_te x_re x_de x_now x_spa x_sna x_len x_sig x_nxt x_cnt x_rng)) (wr := []) (c_X4_pitchOf l D cy q x_isv x_te x_re x_de x_now x_spa x_sna x_len x_sig x_nxt x_cnt x_rng a2 1 _ hst e16) lk_RL_175 rfl rfl hRMX4_pitchOf hP hD hS hA hK hN hX (List.Perm.of_eq (List.append_nil _).symm) (List.Perm.of_eq (List.append_nil _)) 0 rfl rfl rfl hl.1 rfl (Nat.le_of_ble_eq_true rfl) ⟨by show _ ≤ 25; omega, by show _ ≤ 200; omega⟩ (dg ddL_isPitch 111 rfl) (fun H locs hP hD hS => ?_)
              refine lv_bipush (v := 99) hx hb (dg ddL_isPitch 112 rfl) (by decide) ?_
              refine lv_icmp_gt (tgt := 215) hx hb (dg ddL_isPitch 113 rfl) (by decide) (fun h18 => ?_) (fun h18 => ?_)
              · have hf := it_t h18 hf
                refine lv_iconst (v := 0) hx hb (dg ddL_isPitch 116 rfl) (by decide) ?_
                cases hf
                refine W.widen (k := 25) (n := 200) (by omega) (by omega) ?_
                exact e_wz CX hr hlk (by decide) rfl hP hD hS (dg ddL_isPitch 117 rfl)
              · have hf := it_f h18 hf
                refine lv_iconst (v := 1) hx hb (dg ddL_isPitch 114 rfl) (by decide) ?_
                refine lv_goto (tgt := 216) hx hb (dg ddL_isPitch 115 rfl) (by decide) ?_
                cases hf
                refine W.widen (k := 25) (n := 200) (by omega) (by omega) ?_
                exact e_wz CX hr hlk (by decide) rfl hP hD hS (dg ddL_isPitch 117 rfl)
  have K145 : ∀ (x3 : UInt32) (x_now : SV) (k ks : Nat) (hk : k + (9) ≤ 25) (hks : ks + 8 * (9) ≤ 200) (H : Heap) (locs : List Loc) (hP : va_P D vwCl (wX4 q cy x_isv x_te x_re x_de x_now x_spa x_sna x_len x_sig x_nxt x_cnt x_rng) H) (hD : va_D A (wX4 q cy x_isv x_te x_re x_de x_now x_spa x_sna x_len x_sig x_nxt x_cnt x_rng)) (hS : va_S A s.heap H locs) (ls : Array Slot) (hl : lv_has ls 8 [(0, .ref (q 0 0)), (1, .int a2), (3, .float x3)]) (hf : f_L_isPitch_c145 a2 x3 x_now = some res), W p l e ⟨9, 25, 200, 161⟩ s m args below meth c H locs k ks (MQ below (qI D (wX4 q cy x_isv x_te x_re x_de res.2 x_spa x_sna x_len x_sig x_nxt x_cnt x_rng) res.1 A) args s 25 200 A) (F0 m 145 ls []) := by
    intro x3 x_now k ks hk hks H locs hP hD hS ls hl hf
    refine lv_iconst (v := 1) hx hb (dg ddL_isPitch 77 rfl) (by decide) ?_
    refine lv_goto (tgt := 150) hx hb (dg ddL_isPitch 78 rfl) (by decide) ?_
    refine W.widen (k := (k + 0)) (n := (ks + 0)) (by omega) (by omega) ?_
    exact K150  x3 1 x_now (k + 0) (ks + 0) (by omega) (by omega) _ _ hP hD hS _ (lv_sub hl [0, 1, 2] rfl) hf
  have K149 : ∀ (x3 : UInt32) (x_now : SV) (k ks : Nat) (hk : k + (9) ≤ 25) (hks : ks + 8 * (9) ≤ 200) (H : Heap) (locs : List Loc) (hP : va_P D vwCl (wX4 q cy x_isv x_te x_re x_de x_now x_spa x_sna x_len x_sig x_nxt x_cnt x_rng) H) (hD : va_D A (wX4 q cy x_isv x_te x_re x_de x_now x_spa x_sna x_len x_sig x_nxt x_cnt x_rng)) (hS : va_S A s.heap H locs) (ls : Array Slot) (hl : lv_has ls 8 [(0, .ref (q 0 0)), (1, .int a2), (3, .float x3)]) (hf : f_L_isPitch_c149 a2 x3 x_now = some res), W p l e ⟨9, 25, 200, 161⟩ s m args below meth c H locs k ks (MQ below (qI D (wX4 q cy x_isv x_te x_re x_de res.2 x_spa x_sna x_len x_sig x_nxt x_cnt x_rng) res.1 A) args s 25 200 A) (F0 m 149 ls []) := by
    intro x3 x_now k ks hk hks H locs hP hD hS ls hl hf
    refine lv_iconst (v := 0) hx hb (dg ddL_isPitch 79 rfl) (by decide) ?_
    refine W.widen (k := (k + 0)) (n := (ks + 0)) (by omega) (by omega) ?_
    exact K150  x3 0 x_now (k + 0) (ks + 0) (by omega) (by omega) _ _ hP hD hS _ (lv_sub hl [0, 1, 2] rfl) hf
  have K114 : ∀ (x2 : Int32) (x3 : UInt32) (t0 : Int32) (t1 : Int32) (x_now : SV) (k ks : Nat) (hk : k + (14) ≤ 25) (hks : ks + 8 * (14) ≤ 200) (H : Heap) (locs : List Loc) (hP : va_P D vwCl (wX4 q cy x_isv x_te x_re x_de x_now x_spa x_sna x_len x_sig x_nxt x_cnt x_rng) H) (hD : va_D A (wX4 q cy x_isv x_te x_re x_de x_now x_spa x_sna x_len x_sig x_nxt x_cnt x_rng)) (hS : va_S A s.heap H locs) (ls : Array Slot) (hl : lv_has ls 8 [(0, .ref (q 0 0)), (1, .int a2), (2, .int x2), (3, .float x3)]) (hf : f_L_isPitch_c114 a2 x2 x3 t0 t1 x_now = some res), W p l e ⟨9, 25, 200, 161⟩ s m args below meth c H locs k ks (MQ below (qI D (wX4 q cy x_isv x_te x_re x_de res.2 x_spa x_sna x_len x_sig x_nxt x_cnt x_rng) res.1 A) args s 25 200 A) (F0 m 114 ls [.int t0, .int t1]) := by
    intro x2 x3 t0 t1 x_now k ks hk hks H locs hP hD hS ls hl hf
    refine lv_icmp_ne (tgt := 149) hx hb (dg ddL_isPitch 60 rfl) (by decide) (fun h1 => ?_) (fun h1 => ?_)
    · have hf := it_f h1 hf
      refine W.widen (k := (k + 0)) (n := (ks + 0)) (by omega) (by omega) ?_
      exact K149  x3 x_now (k + 0) (ks + 0) (by omega) (by omega) _ _ hP hD hS _ (lv_sub hl [0, 1, 3] rfl) hf
    · have hf := it_t h1 hf
      refine lv_iload_n hx hb (dg ddL_isPitch 61 rfl) rfl (lv_at hl 2 rfl) ?_
      refine lv_if_lt (tgt := 145) hx hb (dg ddL_isPitch 62 rfl) (by decide) (fun h2 => ?_) (fun h2 => ?_)
      · have hf := it_t h2 hf
        refine W.widen (k := (k + 0)) (n := (ks + 0)) (by omega) (by omega) ?_
        exact K145  x3 x_now (k + 0) (ks + 0) (by omega) (by omega) _ _ hP hD hS _ (lv_sub hl [0, 1, 3] rfl) hf
      · have hf := it_f h2 hf
        refine lv_aload_n hx hb (dg ddL_isPitch 63 rfl) rfl (lv_at hl 0 rfl) ?_
        refine lv_iload_n hx hb (dg ddL_isPitch 64 rfl) rfl (lv_at hl 2 rfl) ?_
        refine lv_iconst (v := 2) hx hb (dg ddL_isPitch 65 rfl) (by decide) ?_
        obtain ⟨r4, e3, hf⟩ := ob_some hf
        rcases r4 with t9 | x_r4
        · cases os_l hf
        have hf := os_r hf
        refine crv_ri CX hml (As := [.int x2, .int 2]) (rest := []) (ws := (wX4 q cy x_isv x_te x_re x_de x_now x_spa x_sna x_len x_sig x_nxt x_cnt x_rng)) (wsn := (wX4 q cy x_isv x_te x_re x_de x_now x_spa x_sna x_len x_sig x_nxt x_cnt x_rng)) (wr := []) (c_X4_buskerOf l D cy q x_isv x_te x_re x_de x_now x_spa x_sna x_len x_sig x_nxt x_cnt x_rng x2 2 _ hst e3) lk_RL_184 rfl rfl hRMX4_buskerOf hP hD hS hA hK hN hX (List.Perm.of_eq (List.append_nil _).symm) (List.Perm.of_eq (List.append_nil _)) 0 rfl rfl rfl hl.1 rfl (Nat.le_of_ble_eq_true rfl) ⟨by show _ ≤ 25; omega, by show _ ≤ 200; omega⟩ (dg ddL_isPitch 66 rfl) (fun H locs hP hD hS => ?_)
        refine lv_iload_n hx hb (dg ddL_isPitch 67 rfl) rfl (lv_at hl 1 rfl) ?_
        refine lv_icmp_ne (tgt := 149) hx hb (dg ddL_isPitch 68 rfl) (by decide) (fun h5 => ?_) (fun h5 => ?_)
        · have hf := it_f h5 hf
          refine W.widen (k := (k + 2)) (n := (ks + 16)) (by omega) (by omega) ?_
          exact K149  x3 x_now (k + 2) (ks + 16) (by omega) (by omega) _ _ hP hD hS _ (lv_sub hl [0, 1, 3] rfl) hf
        · have hf := it_t h5 hf
          refine lv_aload_n hx hb (dg ddL_isPitch 69 rfl) rfl (lv_at hl 0 rfl) ?_
          refine lv_iload_n hx hb (dg ddL_isPitch 70 rfl) rfl (lv_at hl 1 rfl) ?_
          refine lv_iload_n hx hb (dg ddL_isPitch 71 rfl) rfl (lv_at hl 2 rfl) ?_
          obtain ⟨r7, e6, hf⟩ := ob_some hf
          rcases r7 with t9 | x_r7
          · cases os_l hf
          have hf := os_r hf
          refine crv_ri CX hml (As := [.int a2, .int x2]) (rest := []) (ws := (wX4 q cy x_isv x_te x_re x_de x_now x_spa x_sna x_len x_sig x_nxt x_cnt x_rng)) (wsn := (wX4 q cy x_isv x_te x_re x_de x_now x_spa x_sna x_len x_sig x_nxt x_cnt x_rng)) (wr := []) (c_X4_noiseWith l D cy q x_isv x_te x_re x_de x_now x_spa x_sna x_len x_sig x_nxt x_cnt x_rng a2 x2 _ hst e6) lk_RL_202 rfl rfl hRMX4_noiseWith hP hD hS hA hK hN hX (List.Perm.of_eq (List.append_nil _).symm) (List.Perm.of_eq (List.append_nil _)) 0 rfl rfl rfl hl.1 rfl (Nat.le_of_ble_eq_true rfl) ⟨by show _ ≤ 25; omega, by show _ ≤ 200; omega⟩ (dg ddL_isPitch 72 rfl) (fun H locs hP hD hS => ?_)
          refine lv_aload_n hx hb (dg ddL_isPitch 73 rfl) rfl (lv_at hl 0 rfl) ?_
          refine lv_iload_n hx hb (dg ddL_isPitch 74 rfl) rfl (lv_at hl 1 rfl) ?_
          obtain ⟨r9, e8, hf⟩ := ob_some hf
          rcases r9 with t9 | x_r9
          · cases os_l hf
          have hf := os_r hf
          refine crv_ri CX hml (As := [.int a2]) (rest := [.int x_r7]) (ws := (wX4 q cy x_isv x_te x_re x_de x_now x_spa x_sna x_len x_sig x_nxt x_cnt x_rng)) (wsn := (wX4 q cy x_isv x_te x_re x_de x_now x_spa x_sna x_len x_sig x_nxt x_cnt x_rng)) (wr := []) (c_X4_noise l D cy q x_isv x_te x_re x_de x_now x_spa x_sna x_len x_sig x_nxt x_cnt x_rng a2 _ hst e8) lk_RL_162 rfl rfl hRMX4_noise hP hD hS hA hK hN hX (List.Perm.of_eq (List.append_nil _).symm) (List.Perm.of_eq (List.append_nil _)) 0 rfl rfl rfl hl.1 rfl (Nat.le_of_ble_eq_true rfl) ⟨by show _ ≤ 25; omega, by show _ ≤ 200; omega⟩ (dg ddL_isPitch 75 rfl) (fun H locs hP hD hS => ?_)
          refine lv_icmp_ne (tgt := 149) hx hb (dg ddL_isPitch 76 rfl) (by decide) (fun h10 => ?_) (fun h10 => ?_)
          · have hf := it_f h10 hf
            refine W.widen (k := (k + 5)) (n := (ks + 40)) (by omega) (by omega) ?_
            exact K149  x3 x_now (k + 5) (ks + 40) (by omega) (by omega) _ _ hP hD hS _ (lv_sub hl [0, 1, 3] rfl) hf
          · have hf := it_t h10 hf
            refine W.widen (k := (k + 5)) (n := (ks + 40)) (by omega) (by omega) ?_
            exact K145  x3 x_now (k + 5) (ks + 40) (by omega) (by omega) _ _ hP hD hS _ (lv_sub hl [0, 1, 3] rfl) hf
  have K82 : ∀ (x2 : Int32) (x3 : UInt32) (x4 : Int32) (x5 : Int32) (t0 : Int32) (x_now : SV) (k ks : Nat) (hk : k + (17) ≤ 25) (hks : ks + 8 * (17) ≤ 200) (H : Heap) (locs : List Loc) (hP : va_P D vwCl (wX4 q cy x_isv x_te x_re x_de x_now x_spa x_sna x_len x_sig x_nxt x_cnt x_rng) H) (hD : va_D A (wX4 q cy x_isv x_te x_re x_de x_now x_spa x_sna x_len x_sig x_nxt x_cnt x_rng)) (hS : va_S A s.heap H locs) (ls : Array Slot) (hl : lv_has ls 8 [(0, .ref (q 0 0)), (1, .int a2), (2, .int x2), (3, .float x3), (4, .int x4), (5, .int x5)]) (hf : f_L_isPitch_c82 a2 x2 x3 x4 x5 t0 x_now = some res), W p l e ⟨9, 25, 200, 161⟩ s m args below meth c H locs k ks (MQ below (qI D (wX4 q cy x_isv x_te x_re x_de res.2 x_spa x_sna x_len x_sig x_nxt x_cnt x_rng) res.1 A) args s 25 200 A) (F0 m 82 ls [.int t0]) := by
    intro x2 x3 x4 x5 t0 x_now k ks hk hks H locs hP hD hS ls hl hf
    refine lv_istore (lv' := [(6, .int t0), (0, .ref (q 0 0)), (1, .int a2), (2, .int x2), (3, .float x3), (4, .int x4), (5, .int x5)]) hx hb (dg ddL_isPitch 44 rfl) hl (by decide) rfl (fun ls hl => ?_)
    refine lv_aload_n hx hb (dg ddL_isPitch 45 rfl) rfl (lv_at hl 1 rfl) ?_
    refine lv_iload_n hx hb (dg ddL_isPitch 46 rfl) rfl (lv_at hl 2 rfl) ?_
    obtain ⟨r2, e1, hf⟩ := ob_some hf
    rcases r2 with t9 | x_r2
    · cases os_l hf
    have hf := os_r hf
    refine crv_ri CX hml (As := [.int a2]) (rest := []) (ws := (wX4 q cy x_isv x_te x_re x_de x_now x_spa x_sna x_len x_sig x_nxt x_cnt x_rng)) (wsn := (wX4 q cy x_isv x_te x_re x_de x_now x_spa x_sna x_len x_sig x_nxt x_cnt x_rng)) (wr := []) (c_X4_noise l D cy q x_isv x_te x_re x_de x_now x_spa x_sna x_len x_sig x_nxt x_cnt x_rng a2 _ hst e1) lk_RL_162 rfl rfl hRMX4_noise hP hD hS hA hK hN hX (List.Perm.of_eq (List.append_nil _).symm) (List.Perm.of_eq (List.append_nil _)) 0 rfl rfl rfl hl.1 rfl (Nat.le_of_ble_eq_true rfl) ⟨by show _ ≤ 25; omega, by show _ ≤ 200; omega⟩ (dg ddL_isPitch 47 rfl) (fun H locs hP hD hS => ?_)
    refine lv_aload_n hx hb (dg ddL_isPitch 48 rfl) rfl (lv_at hl 1 rfl) ?_
    refine lv_iload_n hx hb (dg ddL_isPitch 49 rfl) rfl (lv_at hl 2 rfl) ?_
    obtain ⟨r4, e3, hf⟩ := ob_some hf
    rcases r4 with t9 | x_r4
    · cases os_l hf
    have hf := os_r hf
    refine crv_ri CX hml (As := [.int a2]) (rest := [.int x_r2]) (ws := (wX4 q cy x_isv x_te x_re x_de x_now x_spa x_sna x_len x_sig x_nxt x_cnt x_rng)) (wsn := (wX4 q cy x_isv x_te x_re x_de x_r4.2 x_spa x_sna x_len x_sig x_nxt x_cnt x_rng)) (wr := []) (c_X4_noiseAgain l D cy q x_isv x_te x_re x_de x_now x_spa x_sna x_len x_sig x_nxt x_cnt x_rng a2 _ hst e3) lk_RL_196 rfl rfl hRMX4_noiseAgain hP hD hS hA hK hN hX (List.Perm.of_eq (List.append_nil _).symm) (List.Perm.of_eq (List.append_nil _)) 0 rfl rfl rfl hl.1 rfl (Nat.le_of_ble_eq_true rfl) ⟨by show _ ≤ 25; omega, by show _ ≤ 200; omega⟩ (dg ddL_isPitch 50 rfl) (fun H locs hP hD hS => ?_)
    refine lv_icmp_ne (tgt := 149) hx hb (dg ddL_isPitch 51 rfl) (by decide) (fun h5 => ?_) (fun h5 => ?_)
    · have hf := it_f h5 hf
      refine W.widen (k := (k + 2)) (n := (ks + 16)) (by omega) (by omega) ?_
      exact K149  x3 x_r4.2 (k + 2) (ks + 16) (by omega) (by omega) _ _ hP hD hS _ (lv_sub hl [1, 2, 4] rfl) hf
    · have hf := it_t h5 hf
      refine lv_aload_n hx hb (dg ddL_isPitch 52 rfl) rfl (lv_at hl 1 rfl) ?_
      refine lv_iload_n hx hb (dg ddL_isPitch 53 rfl) rfl (lv_at hl 2 rfl) ?_
      obtain ⟨r7, e6, hf⟩ := ob_some hf
      rcases r7 with t9 | x_r7
      · cases os_l hf
      have hf := os_r hf
      refine crv_ri CX hml (As := [.int a2]) (rest := []) (ws := (wX4 q cy x_isv x_te x_re x_de x_r4.2 x_spa x_sna x_len x_sig x_nxt x_cnt x_rng)) (wsn := (wX4 q cy x_isv x_te x_re x_de x_r4.2 x_spa x_sna x_len x_sig x_nxt x_cnt x_rng)) (wr := []) (c_X4_sign l D cy q x_isv x_te x_re x_de x_r4.2 x_spa x_sna x_len x_sig x_nxt x_cnt x_rng a2 _ hst e6) lk_RL_199 rfl rfl hRMX4_sign hP hD hS hA hK hN hX (List.Perm.of_eq (List.append_nil _).symm) (List.Perm.of_eq (List.append_nil _)) 0 rfl rfl rfl hl.1 rfl (Nat.le_of_ble_eq_true rfl) ⟨by show _ ≤ 25; omega, by show _ ≤ 200; omega⟩ (dg ddL_isPitch 54 rfl) (fun H locs hP hD hS => ?_)
      refine lv_iload hx hb (dg ddL_isPitch 55 rfl) (lv_at hl 5 rfl) ?_
      refine lv_if_eq (tgt := 112) hx hb (dg ddL_isPitch 56 rfl) (by decide) (fun h8 => ?_) (fun h8 => ?_)
      · have hf := it_t h8 hf
        refine lv_iload hx hb (dg ddL_isPitch 59 rfl) (lv_at hl 6 rfl) ?_
        refine W.widen (k := (k + 3)) (n := (ks + 24)) (by omega) (by omega) ?_
        exact K114  x2 x3 x5 x_r7 x_r4.2 (k + 3) (ks + 24) (by omega) (by omega) _ _ hP hD hS _ (lv_sub hl [1, 2, 3, 4] rfl) hf
      · have hf := it_f h8 hf
        refine lv_iload hx hb (dg ddL_isPitch 57 rfl) (lv_at hl 0 rfl) ?_
        refine lv_goto (tgt := 114) hx hb (dg ddL_isPitch 58 rfl) (by decide) ?_
        refine W.widen (k := (k + 3)) (n := (ks + 24)) (by omega) (by omega) ?_
        exact K114  x2 x3 t0 x_r7 x_r4.2 (k + 3) (ks + 24) (by omega) (by omega) _ _ hP hD hS _ (lv_sub hl [1, 2, 3, 4] rfl) hf
  have K55 : ∀ (x2 : Int32) (x3 : UInt32) (x4 : Int32) (t0 : Int32) (x_now : SV) (k ks : Nat) (hk : k + (19) ≤ 25) (hks : ks + 8 * (19) ≤ 200) (H : Heap) (locs : List Loc) (hP : va_P D vwCl (wX4 q cy x_isv x_te x_re x_de x_now x_spa x_sna x_len x_sig x_nxt x_cnt x_rng) H) (hD : va_D A (wX4 q cy x_isv x_te x_re x_de x_now x_spa x_sna x_len x_sig x_nxt x_cnt x_rng)) (hS : va_S A s.heap H locs) (ls : Array Slot) (hl : lv_has ls 8 [(0, .ref (q 0 0)), (1, .int a2), (2, .int x2), (3, .float x3), (4, .int x4)]) (hf : f_L_isPitch_c55 a2 x2 x3 x4 t0 x_now = some res), W p l e ⟨9, 25, 200, 161⟩ s m args below meth c H locs k ks (MQ below (qI D (wX4 q cy x_isv x_te x_re x_de res.2 x_spa x_sna x_len x_sig x_nxt x_cnt x_rng) res.1 A) args s 25 200 A) (F0 m 55 ls [.int t0]) := by
    intro x2 x3 x4 t0 x_now k ks hk hks H locs hP hD hS ls hl hf
    refine lv_istore (lv' := [(5, .int t0), (0, .ref (q 0 0)), (1, .int a2), (2, .int x2), (3, .float x3), (4, .int x4)]) hx hb (dg ddL_isPitch 31 rfl) hl (by decide) rfl (fun ls hl => ?_)
    refine lv_iload_n hx hb (dg ddL_isPitch 32 rfl) rfl (lv_at hl 3 rfl) ?_
    refine lv_if_ge (tgt := 66) hx hb (dg ddL_isPitch 33 rfl) (by decide) (fun h1 => ?_) (fun h1 => ?_)
    · have hf := it_t h1 hf
      refine lv_aload_n hx hb (dg ddL_isPitch 36 rfl) rfl (lv_at hl 1 rfl) ?_
      refine lv_iload_n hx hb (dg ddL_isPitch 37 rfl) rfl (lv_at hl 3 rfl) ?_
      refine lv_iconst (v := 0) hx hb (dg ddL_isPitch 38 rfl) (by decide) ?_
      obtain ⟨r3, e2, hf⟩ := ob_some hf
      rcases r3 with t9 | x_r3
      · cases os_l hf
      have hf := os_r hf
      refine crv_ri CX hml (As := [.int x2, .int 0]) (rest := []) (ws := (wX4 q cy x_isv x_te x_re x_de x_now x_spa x_sna x_len x_sig x_nxt x_cnt x_rng)) (wsn := (wX4 q cy x_isv x_te x_re x_de x_now x_spa x_sna x_len x_sig x_nxt x_cnt x_rng)) (wr := []) (c_X4_buskerOf l D cy q x_isv x_te x_re x_de x_now x_spa x_sna x_len x_sig x_nxt x_cnt x_rng x2 0 _ hst e2) lk_RL_184 rfl rfl hRMX4_buskerOf hP hD hS hA hK hN hX (List.Perm.of_eq (List.append_nil _).symm) (List.Perm.of_eq (List.append_nil _)) 0 rfl rfl rfl hl.1 rfl (Nat.le_of_ble_eq_true rfl) ⟨by show _ ≤ 25; omega, by show _ ≤ 200; omega⟩ (dg ddL_isPitch 39 rfl) (fun H locs hP hD hS => ?_)
      refine lv_if_ne (tgt := 80) hx hb (dg ddL_isPitch 40 rfl) (by decide) (fun h4 => ?_) (fun h4 => ?_)
      · have hf := it_f h4 hf
        refine lv_bipush (v := 65) hx hb (dg ddL_isPitch 43 rfl) (by decide) ?_
        refine W.widen (k := (k + 2)) (n := (ks + 16)) (by omega) (by omega) ?_
        exact K82  x2 x3 x4 t0 65 x_now (k + 2) (ks + 16) (by omega) (by omega) _ _ hP hD hS _ (lv_sub hl [1, 2, 3, 4, 5, 0] rfl) hf
      · have hf := it_t h4 hf
        refine lv_bipush (v := 70) hx hb (dg ddL_isPitch 41 rfl) (by decide) ?_
        refine lv_goto (tgt := 82) hx hb (dg ddL_isPitch 42 rfl) (by decide) ?_
        refine W.widen (k := (k + 2)) (n := (ks + 16)) (by omega) (by omega) ?_
        exact K82  x2 x3 x4 t0 70 x_now (k + 2) (ks + 16) (by omega) (by omega) _ _ hP hD hS _ (lv_sub hl [1, 2, 3, 4, 5, 0] rfl) hf
    · have hf := it_f h1 hf
      refine lv_bipush (v := 33) hx hb (dg ddL_isPitch 34 rfl) (by decide) ?_
      refine lv_goto (tgt := 82) hx hb (dg ddL_isPitch 35 rfl) (by decide) ?_
      refine W.widen (k := (k + 0)) (n := (ks + 0)) (by omega) (by omega) ?_
      exact K82  x2 x3 x4 t0 33 x_now (k + 0) (ks + 0) (by omega) (by omega) _ _ hP hD hS _ (lv_sub hl [1, 2, 3, 4, 5, 0] rfl) hf
  have K28 : ∀ (x2 : Int32) (x3 : UInt32) (t0 : Int32) (x_now : SV) (k ks : Nat) (hk : k + (21) ≤ 25) (hks : ks + 8 * (21) ≤ 200) (H : Heap) (locs : List Loc) (hP : va_P D vwCl (wX4 q cy x_isv x_te x_re x_de x_now x_spa x_sna x_len x_sig x_nxt x_cnt x_rng) H) (hD : va_D A (wX4 q cy x_isv x_te x_re x_de x_now x_spa x_sna x_len x_sig x_nxt x_cnt x_rng)) (hS : va_S A s.heap H locs) (ls : Array Slot) (hl : lv_has ls 8 [(0, .ref (q 0 0)), (1, .int a2), (2, .int x2), (3, .float x3)]) (hf : f_L_isPitch_c28 a2 x2 x3 t0 x_now = some res), W p l e ⟨9, 25, 200, 161⟩ s m args below meth c H locs k ks (MQ below (qI D (wX4 q cy x_isv x_te x_re x_de res.2 x_spa x_sna x_len x_sig x_nxt x_cnt x_rng) res.1 A) args s 25 200 A) (F0 m 28 ls [.int t0]) := by
    intro x2 x3 t0 x_now k ks hk hks H locs hP hD hS ls hl hf
    refine lv_istore (lv' := [(4, .int t0), (0, .ref (q 0 0)), (1, .int a2), (2, .int x2), (3, .float x3)]) hx hb (dg ddL_isPitch 18 rfl) hl (by decide) rfl (fun ls hl => ?_)
    refine lv_iload_n hx hb (dg ddL_isPitch 19 rfl) rfl (lv_at hl 3 rfl) ?_
    refine lv_if_ge (tgt := 39) hx hb (dg ddL_isPitch 20 rfl) (by decide) (fun h1 => ?_) (fun h1 => ?_)
    · have hf := it_t h1 hf
      refine lv_aload_n hx hb (dg ddL_isPitch 23 rfl) rfl (lv_at hl 1 rfl) ?_
      refine lv_iload_n hx hb (dg ddL_isPitch 24 rfl) rfl (lv_at hl 3 rfl) ?_
      refine lv_iconst (v := 0) hx hb (dg ddL_isPitch 25 rfl) (by decide) ?_
      obtain ⟨r3, e2, hf⟩ := ob_some hf
      rcases r3 with t9 | x_r3
      · cases os_l hf
      have hf := os_r hf
      refine crv_ri CX hml (As := [.int x2, .int 0]) (rest := []) (ws := (wX4 q cy x_isv x_te x_re x_de x_now x_spa x_sna x_len x_sig x_nxt x_cnt x_rng)) (wsn := (wX4 q cy x_isv x_te x_re x_de x_now x_spa x_sna x_len x_sig x_nxt x_cnt x_rng)) (wr := []) (c_X4_buskerOf l D cy q x_isv x_te x_re x_de x_now x_spa x_sna x_len x_sig x_nxt x_cnt x_rng x2 0 _ hst e2) lk_RL_184 rfl rfl hRMX4_buskerOf hP hD hS hA hK hN hX (List.Perm.of_eq (List.append_nil _).symm) (List.Perm.of_eq (List.append_nil _)) 0 rfl rfl rfl hl.1 rfl (Nat.le_of_ble_eq_true rfl) ⟨by show _ ≤ 25; omega, by show _ ≤ 200; omega⟩ (dg ddL_isPitch 26 rfl) (fun H locs hP hD hS => ?_)
      refine lv_if_ne (tgt := 53) hx hb (dg ddL_isPitch 27 rfl) (by decide) (fun h4 => ?_) (fun h4 => ?_)
      · have hf := it_f h4 hf
        refine lv_bipush (v := 97) hx hb (dg ddL_isPitch 30 rfl) (by decide) ?_
        refine W.widen (k := (k + 2)) (n := (ks + 16)) (by omega) (by omega) ?_
        exact K55  x2 x3 t0 97 x_now (k + 2) (ks + 16) (by omega) (by omega) _ _ hP hD hS _ (lv_sub hl [1, 2, 3, 4, 0] rfl) hf
      · have hf := it_t h4 hf
        refine lv_bipush (v := 102) hx hb (dg ddL_isPitch 28 rfl) (by decide) ?_
        refine lv_goto (tgt := 55) hx hb (dg ddL_isPitch 29 rfl) (by decide) ?_
        refine W.widen (k := (k + 2)) (n := (ks + 16)) (by omega) (by omega) ?_
        exact K55  x2 x3 t0 102 x_now (k + 2) (ks + 16) (by omega) (by omega) _ _ hP hD hS _ (lv_sub hl [1, 2, 3, 4, 0] rfl) hf
    · have hf := it_f h1 hf
      refine lv_bipush (v := 46) hx hb (dg ddL_isPitch 21 rfl) (by decide) ?_
      refine lv_goto (tgt := 55) hx hb (dg ddL_isPitch 22 rfl) (by decide) ?_
      refine W.widen (k := (k + 0)) (n := (ks + 0)) (by omega) (by omega) ?_
      exact K55  x2 x3 t0 46 x_now (k + 0) (ks + 0) (by omega) (by omega) _ _ hP hD hS _ (lv_sub hl [1, 2, 3, 4, 0] rfl) hf
  refine lv_aload_n hx hb (dg ddL_isPitch 0 rfl) rfl (lv_at hl 0 rfl) ?_
  refine lv_iload_n hx hb (dg ddL_isPitch 1 rfl) rfl (lv_at hl 1 rfl) ?_
  refine lv_iconst (v := 0) hx hb (dg ddL_isPitch 2 rfl) (by decide) ?_
  obtain ⟨r2, e1, hf⟩ := ob_some hf
  rcases r2 with t9 | x_r2
  · cases os_l hf
  have hf := os_r hf
  refine crv_ri CX hml (As := [.int a2, .int 0]) (rest := []) (ws := (wX4 q cy x_isv x_te x_re x_de x_now x_spa x_sna x_len x_sig x_nxt x_cnt x_rng)) (wsn := (wX4 q cy x_isv x_te x_re x_de x_now x_spa x_sna x_len x_sig x_nxt x_cnt x_rng)) (wr := []) (c_X4_pitchOf l D cy q x_isv x_te x_re x_de x_now x_spa x_sna x_len x_sig x_nxt x_cnt x_rng a2 0 _ hst e1) lk_RL_175 rfl rfl hRMX4_pitchOf hP hD hS hA hK hN hX (List.Perm.of_eq (List.append_nil _).symm) (List.Perm.of_eq (List.append_nil _)) 0 rfl rfl rfl hl.1 rfl (Nat.le_of_ble_eq_true rfl) ⟨by show _ ≤ 25; omega, by show _ ≤ 200; omega⟩ (dg ddL_isPitch 3 rfl) (fun H locs hP hD hS => ?_)
  refine lv_istore_n (lv' := [(2, .int x_r2), (0, .ref (q 0 0)), (1, .int a2)]) hx hb (dg ddL_isPitch 4 rfl) rfl hl (by decide) rfl (fun ls hl => ?_)
  refine lv_aload_n hx hb (dg ddL_isPitch 5 rfl) rfl (lv_at hl 1 rfl) ?_
  refine lv_iload_n hx hb (dg ddL_isPitch 6 rfl) rfl (lv_at hl 2 rfl) ?_
  obtain ⟨r4, e3, hf⟩ := ob_some hf
  refine crc_f CX hml (As := [.ref (q 0 0), .int a2]) (rest := []) (ws := (wX4 q cy x_isv x_te x_re x_de x_now x_spa x_sna x_len x_sig x_nxt x_cnt x_rng)) (wsn := (wX4 q cy x_isv x_te x_re x_de x_now x_spa x_sna x_len x_sig x_nxt x_cnt x_rng)) (wr := []) (c_L_noiseOf l D cy q x_isv x_te x_re x_de x_now x_spa x_sna x_len x_sig x_nxt x_cnt x_rng a2 _ hst e3) lk_RL_192 rfl rfl hRML_noiseOf hP hD hS hA hK hN hX hC (List.Perm.of_eq (List.append_nil _).symm) (List.Perm.of_eq (List.append_nil _)) rfl hl.1 rfl (Nat.le_of_ble_eq_true rfl) ⟨by show _ ≤ 25; omega, by show _ ≤ 200; omega⟩ (dg ddL_isPitch 7 rfl) (fun H locs hP hD hS => ?_)
  refine lv_fstore_n (lv' := [(3, .float r4), (2, .int x_r2), (0, .ref (q 0 0)), (1, .int a2)]) hx hb (dg ddL_isPitch 8 rfl) rfl hl (by decide) rfl (fun ls hl => ?_)
  refine lv_aload_n hx hb (dg ddL_isPitch 9 rfl) rfl (lv_at hl 2 rfl) ?_
  refine lv_iload_n hx hb (dg ddL_isPitch 10 rfl) rfl (lv_at hl 3 rfl) ?_
  obtain ⟨r6, e5, hf⟩ := ob_some hf
  rcases r6 with t9 | x_r6
  · cases os_l hf
  have hf := os_r hf
  refine crv_rf CX hml (As := [.int a2]) (rest := []) (ws := (wX4 q cy x_isv x_te x_re x_de x_now x_spa x_sna x_len x_sig x_nxt x_cnt x_rng)) (wsn := (wX4 q cy x_isv x_te x_re x_de x_now x_spa x_sna x_len x_sig x_nxt x_cnt x_rng)) (wr := []) (c_X4_below l D cy q x_isv x_te x_re x_de x_now x_spa x_sna x_len x_sig x_nxt x_cnt x_rng a2 _ hst e5) lk_RL_165 rfl rfl hRMX4_below hP hD hS hA hK hN hX (List.Perm.of_eq (List.append_nil _).symm) (List.Perm.of_eq (List.append_nil _)) 0 rfl rfl rfl hl.1 rfl (Nat.le_of_ble_eq_true rfl) ⟨by show _ ≤ 25; omega, by show _ ≤ 200; omega⟩ (dg ddL_isPitch 11 rfl) (fun H locs hP hD hS => ?_)
  refine lv_fconst0 hx hb (dg ddL_isPitch 12 rfl) ?_
  refine lv_fcmp hx hb (dg ddL_isPitch 13 rfl) ?_
  refine lv_if_ge (tgt := 27) hx hb (dg ddL_isPitch 14 rfl) (by decide) (fun h7 => ?_) (fun h7 => ?_)
  · have hf := it_t h7 hf
    refine lv_iconst (v := 0) hx hb (dg ddL_isPitch 17 rfl) (by decide) ?_
    refine W.widen (k := (0 + 4)) (n := (0 + 32)) (by omega) (by omega) ?_
    exact K28  x_r2 r4 0 x_now (0 + 4) (0 + 32) (by omega) (by omega) _ _ hP hD hS _ (lv_sub hl [2, 3, 1, 0] rfl) hf
  · have hf := it_f h7 hf
    refine lv_iconst (v := 1) hx hb (dg ddL_isPitch 15 rfl) (by decide) ?_
    refine lv_goto (tgt := 28) hx hb (dg ddL_isPitch 16 rfl) (by decide) ?_
    refine W.widen (k := (0 + 4)) (n := (0 + 32)) (by omega) (by omega) ?_
    exact K28  x_r2 r4 1 x_now (0 + 4) (0 + 32) (by omega) (by omega) _ _ hP hD hS _ (lv_sub hl [2, 3, 1, 0] rfl) hf
def f_L_arePitches_c63 (rec15 : Int32 → Int32 → Int32 → Int32 → Int32 → SV → SV → Option (Int32 × SV × SV)) (x_len : Int32) (x_cnt : Int32) (x1 : Int32) (x2 : Int32) (x5 : Int32) (t0 : Int32) (t1 : Int32) (x_now : SV) (x_spa : SV) : Option (Int32 × SV × SV) := ob (f_L_isPitch x_now x5) fun r2 => (rec15 x1 x2 (t1 + t0) r2.1 (x5 + 1) r2.2 x_spa)
def f_L_arePitches_c79  (x_len : Int32) (x_cnt : Int32) (x1 : Int32) (x2 : Int32) (x3 : Int32) (x4 : Int32) (x_now : SV) (x_spa : SV) : Option (Int32 × SV × SV) := if x4 = 0 then (some (0, x_now, x_spa)) else (ob (f_X4_account x_now x_len x_cnt 7) fun r3 => (os r3 (fun _ => none) fun x_r3 => (if x1 = x_r3 then (ob (f_X4_account x_now x_len x_cnt 9) fun r6 => (os r6 (fun _ => none) fun x_r6 => (if x2 = x_r6 then (ob (f_X4_account x_now x_len x_cnt 8) fun r9 => (os r9 (fun _ => none) fun x_r9 => (if (x1 + x_r9) = x2 then (ob (f_X4_account x_now x_len x_cnt 5) fun r12 => (os r12 (fun _ => none) fun x_r12 => (if x3 = x_r12 then (ob (f_X4_playingIn x_now x_spa 0) fun r15 => (os r15 (fun _ => none) fun x_r15 => (if x_r15.1 = x3 then (some (1, x_now, x_r15.2)) else (some (0, x_now, x_r15.2))))) else (some (0, x_now, x_spa))))) else (some (0, x_now, x_spa))))) else (some (0, x_now, x_spa))))) else (some (0, x_now, x_spa)))))
def f_L_arePitches_c15  (x_len : Int32) (x_cnt : Int32) : Nat → Int32 → Int32 → Int32 → Int32 → Int32 → SV → SV → Option (Int32 × SV × SV)
  | 0, _, _, _, _, _, _, _ => none
  | n + 1, x1, x2, x3, x4, x5, x_now, x_spa => if x4 = 0 then (f_L_arePitches_c79 x_len x_cnt x1 x2 x3 x4 x_now x_spa) else (if 8 ≤ x5 then (f_L_arePitches_c79 x_len x_cnt x1 x2 x3 x4 x_now x_spa) else (ob (f_X4_pitchOf x_now x5 1) fun r4 => (os r4 (fun _ => none) fun x_r4 => (ob (f_X4_pitchOf x_now x5 2) fun r6 => (os r6 (fun _ => none) fun x_r6 => (ob (f_X4_pitchOf x_now x5 0) fun r8 => (os r8 (fun _ => none) fun x_r8 => (if 0 ≤ x_r8 then (f_L_arePitches_c63 (f_L_arePitches_c15 x_len x_cnt n) x_len x_cnt (x1 + x_r4) (x2 + x_r6) x5 1 x3 x_now x_spa) else (f_L_arePitches_c63 (f_L_arePitches_c15 x_len x_cnt n) x_len x_cnt (x1 + x_r4) (x2 + x_r6) x5 0 x3 x_now x_spa)))))))))
def f_L_arePitches (x_now : SV) (x_spa : SV) (x_len : Int32) (x_cnt : Int32) : Option (Int32 × SV × SV) := ob (f_X4_isWell x_now) fun r2 => (f_L_arePitches_c15 x_len x_cnt 9 0 0 0 r2.1 0 r2.2 x_spa)
set_option maxHeartbeats 8000000 in
set_option maxRecDepth 100000 in
theorem c_L_arePitches (l : Launch) (D : va_G) (cy : Nat → ClassId) (q : Nat → Nat → Nat) (x_isv : Int32) (x_te : Int32) (x_re : Int32) (x_de : Int32) (x_now : SV) (x_spa : SV) (x_sna : SV) (x_len : Int32) (x_sig : Nat → Int32) (x_nxt : Int32) (x_cnt : Int32) (x_rng : Nat → SV) (sz : Nat) (hst : l.stackTraces = false) {res : Int32 × SV × SV} (hf : f_L_arePitches x_now x_spa x_len x_cnt = some res) : Met l yL_arePitches (.code yL_arePitches cL_arePitches 6 (some .boolean) :: lw_all) { frames := 10, cells := 284, slots := 2272, locals := 188 } (va_Pc [.ref (q 0 0)] (sY D cy (wX4 q cy x_isv x_te x_re x_de x_now x_spa x_sna x_len x_sig x_nxt x_cnt x_rng) sz)) (qI D (wX4 q cy x_isv x_te x_re x_de res.2.1 res.2.2 x_sna x_len x_sig x_nxt x_cnt x_rng) res.1 (va_A (wX4 q cy x_isv x_te x_re x_de x_now x_spa x_sna x_len x_sig x_nxt x_cnt x_rng) sz)) 284 2272 (va_A (wX4 q cy x_isv x_te x_re x_de x_now x_spa x_sna x_len x_sig x_nxt x_cnt x_rng) sz) := by
  refine mk_lc (Qc := qI D (wX4 q cy x_isv x_te x_re x_de res.2.1 res.2.2 x_sna x_len x_sig x_nxt x_cnt x_rng) res.1) (Rc := RL) (by decide +kernel) rfl (Nat.le_of_ble_eq_true rfl) ?_
  intro p e s m args below meth c ls A CX hml hr hlk hK hN hP hD hS hA hl hX hC
  have hx := CX.1
  have hb := CX.2.1
  have hRML_isPitch : (⟨9, 25, 200, 161⟩ : Room).frames + 1 ≤ (⟨10, 284, 2272, 188⟩ : Room).frames ∧ 8 + (8 + 11) + (⟨9, 25, 200, 161⟩ : Room).locals ≤ (⟨10, 284, 2272, 188⟩ : Room).locals := ⟨(Nat.le_of_ble_eq_true rfl), (Nat.le_of_ble_eq_true rfl)⟩
  have hRMX4_account : (⟨6, 1, 6, 82⟩ : Room).frames + 1 ≤ (⟨10, 284, 2272, 188⟩ : Room).frames ∧ 8 + (2 + 11) + (⟨6, 1, 6, 82⟩ : Room).locals ≤ (⟨10, 284, 2272, 188⟩ : Room).locals := ⟨(Nat.le_of_ble_eq_true rfl), (Nat.le_of_ble_eq_true rfl)⟩
  have hRMX4_isWell : (⟨7, 0, 0, 140⟩ : Room).frames + 1 ≤ (⟨10, 284, 2272, 188⟩ : Room).frames ∧ 8 + (1 + 11) + (⟨7, 0, 0, 140⟩ : Room).locals ≤ (⟨10, 284, 2272, 188⟩ : Room).locals := ⟨(Nat.le_of_ble_eq_true rfl), (Nat.le_of_ble_eq_true rfl)⟩
  have hRMX4_pitchOf : (⟨7, 2, 12, 102⟩ : Room).frames + 1 ≤ (⟨10, 284, 2272, 188⟩ : Room).frames ∧ 8 + (3 + 11) + (⟨7, 2, 12, 102⟩ : Room).locals ≤ (⟨10, 284, 2272, 188⟩ : Room).locals := ⟨(Nat.le_of_ble_eq_true rfl), (Nat.le_of_ble_eq_true rfl)⟩
  have hRMX4_playingIn : (⟨7, 1, 6, 102⟩ : Room).frames + 1 ≤ (⟨10, 284, 2272, 188⟩ : Room).frames ∧ 8 + (2 + 11) + (⟨7, 1, 6, 102⟩ : Room).locals ≤ (⟨10, 284, 2272, 188⟩ : Room).locals := ⟨(Nat.le_of_ble_eq_true rfl), (Nat.le_of_ble_eq_true rfl)⟩
  have K63 : ∀ (N15 : Nat) (rec15 : Int32 → Int32 → Int32 → Int32 → Int32 → SV → SV → Option (Int32 × SV × SV)) (hrec15 : ∀ (x1 : Int32) (x2 : Int32) (x3 : Int32) (x4 : Int32) (x5 : Int32) (x_now : SV) (x_spa : SV) (k ks : Nat) (hk : k + N15 ≤ 284) (hks : ks + 8 * N15 ≤ 2272) (H : Heap) (locs : List Loc) (hP : va_P D vwCl (wX4 q cy x_isv x_te x_re x_de x_now x_spa x_sna x_len x_sig x_nxt x_cnt x_rng) H) (hD : va_D A (wX4 q cy x_isv x_te x_re x_de x_now x_spa x_sna x_len x_sig x_nxt x_cnt x_rng)) (hS : va_S A s.heap H locs) (ls : Array Slot) (hl : lv_has ls 6 [(0, .ref (q 0 0)), (1, .int x1), (2, .int x2), (3, .int x3), (4, .int x4), (5, .int x5)]) (hf : rec15 x1 x2 x3 x4 x5 x_now x_spa = some res), W p l e ⟨10, 284, 2272, 188⟩ s m args below meth c H locs k ks (MQ below (qI D (wX4 q cy x_isv x_te x_re x_de res.2.1 res.2.2 x_sna x_len x_sig x_nxt x_cnt x_rng) res.1 A) args s 284 2272 A) (F0 m 15 ls [])), ∀ (x1 : Int32) (x2 : Int32) (x5 : Int32) (t0 : Int32) (t1 : Int32) (x_now : SV) (x_spa : SV) (k ks : Nat) (hk : k + (25 + N15) ≤ 284) (hks : ks + 8 * (25 + N15) ≤ 2272) (H : Heap) (locs : List Loc) (hP : va_P D vwCl (wX4 q cy x_isv x_te x_re x_de x_now x_spa x_sna x_len x_sig x_nxt x_cnt x_rng) H) (hD : va_D A (wX4 q cy x_isv x_te x_re x_de x_now x_spa x_sna x_len x_sig x_nxt x_cnt x_rng)) (hS : va_S A s.heap H locs) (ls : Array Slot) (hl : lv_has ls 6 [(0, .ref (q 0 0)), (1, .int x1), (2, .int x2), (5, .int x5)]) (hf : f_L_arePitches_c63 rec15 x_len x_cnt x1 x2 x5 t0 t1 x_now x_spa = some res), W p l e ⟨10, 284, 2272, 188⟩ s m args below meth c H locs k ks (MQ below (qI D (wX4 q cy x_isv x_te x_re x_de res.2.1 res.2.2 x_sna x_len x_sig x_nxt x_cnt x_rng) res.1 A) args s 284 2272 A) (F0 m 63 ls [.int t0, .int t1]) := by
    intro N15 rec15 hrec15 x1 x2 x5 t0 t1 x_now x_spa k ks hk hks H locs hP hD hS ls hl hf
    refine lv_iadd hx hb (dg ddL_arePitches 39 rfl) ?_
    refine lv_istore_n (lv' := [(3, .int (t1 + t0)), (0, .ref (q 0 0)), (1, .int x1), (2, .int x2), (5, .int x5)]) hx hb (dg ddL_arePitches 40 rfl) rfl hl (by decide) rfl (fun ls hl => ?_)
    refine lv_aload_n hx hb (dg ddL_arePitches 41 rfl) rfl (lv_at hl 1 rfl) ?_
    refine lv_iload hx hb (dg ddL_arePitches 42 rfl) (lv_at hl 4 rfl) ?_
    obtain ⟨r2, e1, hf⟩ := ob_some hf
    refine crc_i CX hml (As := [.ref (q 0 0), .int x5]) (rest := []) (ws := (wX4 q cy x_isv x_te x_re x_de x_now x_spa x_sna x_len x_sig x_nxt x_cnt x_rng)) (wsn := (wX4 q cy x_isv x_te x_re x_de r2.2 x_spa x_sna x_len x_sig x_nxt x_cnt x_rng)) (wr := []) (c_L_isPitch l D cy q x_isv x_te x_re x_de x_now x_spa x_sna x_len x_sig x_nxt x_cnt x_rng x5 _ hst e1) lk_RL_212 rfl rfl hRML_isPitch hP hD hS hA hK hN hX hC (List.Perm.of_eq (List.append_nil _).symm) (List.Perm.of_eq (List.append_nil _)) rfl hl.1 rfl (Nat.le_of_ble_eq_true rfl) ⟨by show _ ≤ 284; omega, by show _ ≤ 2272; omega⟩ (dg ddL_arePitches 43 rfl) (fun H locs hP hD hS => ?_)
    refine lv_istore (lv' := [(4, .int r2.1), (3, .int (t1 + t0)), (0, .ref (q 0 0)), (1, .int x1), (2, .int x2), (5, .int x5)]) hx hb (dg ddL_arePitches 44 rfl) hl (by decide) rfl (fun ls hl => ?_)
    refine lv_iinc (v := x5 + 1) (lv' := [(5, .int (x5 + 1)), (4, .int r2.1), (3, .int (t1 + t0)), (0, .ref (q 0 0)), (1, .int x1), (2, .int x2)]) hx hb (dg ddL_arePitches 45 rfl) hl (k := 5) rfl (congrArg (HAdd.hAdd x5) (by decide)) (by decide) rfl (fun ls hl => ?_)
    refine lv_goto (tgt := 15) hx hb (dg ddL_arePitches 46 rfl) (by decide) ?_
    refine W.widen (k := (k + 25)) (n := (ks + 200)) (by omega) (by omega) ?_
    exact hrec15 x1 x2 (t1 + t0) r2.1 (x5 + 1) r2.2 x_spa (k + 25) (ks + 200) (by omega) (by omega) _ _ hP hD hS _ (lv_sub hl [3, 4, 5, 2, 1, 0] rfl) hf
  have K79 : ∀ (x1 : Int32) (x2 : Int32) (x3 : Int32) (x4 : Int32) (x_now : SV) (x_spa : SV) (k ks : Nat) (hk : k + (5) ≤ 284) (hks : ks + 8 * (5) ≤ 2272) (H : Heap) (locs : List Loc) (hP : va_P D vwCl (wX4 q cy x_isv x_te x_re x_de x_now x_spa x_sna x_len x_sig x_nxt x_cnt x_rng) H) (hD : va_D A (wX4 q cy x_isv x_te x_re x_de x_now x_spa x_sna x_len x_sig x_nxt x_cnt x_rng)) (hS : va_S A s.heap H locs) (ls : Array Slot) (hl : lv_has ls 6 [(0, .ref (q 0 0)), (1, .int x1), (2, .int x2), (3, .int x3), (4, .int x4)]) (hf : f_L_arePitches_c79 x_len x_cnt x1 x2 x3 x4 x_now x_spa = some res), W p l e ⟨10, 284, 2272, 188⟩ s m args below meth c H locs k ks (MQ below (qI D (wX4 q cy x_isv x_te x_re x_de res.2.1 res.2.2 x_sna x_len x_sig x_nxt x_cnt x_rng) res.1 A) args s 284 2272 A) (F0 m 79 ls []) := by
    intro x1 x2 x3 x4 x_now x_spa k ks hk hks H locs hP hD hS ls hl hf
    refine lv_iload hx hb (dg ddL_arePitches 47 rfl) (lv_at hl 4 rfl) ?_
    refine lv_if_eq (tgt := 138) hx hb (dg ddL_arePitches 48 rfl) (by decide) (fun h1 => ?_) (fun h1 => ?_)
    · have hf := it_t h1 hf
      refine lv_iconst (v := 0) hx hb (dg ddL_arePitches 78 rfl) (by decide) ?_
      cases hf
      refine W.widen (k := 284) (n := 2272) (by omega) (by omega) ?_
      exact e_wz CX hr hlk (by decide) rfl hP hD hS (dg ddL_arePitches 79 rfl)
    · have hf := it_f h1 hf
      refine lv_iload_n hx hb (dg ddL_arePitches 49 rfl) rfl (lv_at hl 1 rfl) ?_
      refine lv_aload_n hx hb (dg ddL_arePitches 50 rfl) rfl (lv_at hl 0 rfl) ?_
      refine lv_bipush (v := 7) hx hb (dg ddL_arePitches 51 rfl) (by decide) ?_
      obtain ⟨r3, e2, hf⟩ := ob_some hf
      rcases r3 with t9 | x_r3
      · cases os_l hf
      have hf := os_r hf
      refine crv_ri CX hml (As := [.int 7]) (rest := [.int x1]) (ws := (wX4 q cy x_isv x_te x_re x_de x_now x_spa x_sna x_len x_sig x_nxt x_cnt x_rng)) (wsn := (wX4 q cy x_isv x_te x_re x_de x_now x_spa x_sna x_len x_sig x_nxt x_cnt x_rng)) (wr := []) (c_X4_account l D cy q x_isv x_te x_re x_de x_now x_spa x_sna x_len x_sig x_nxt x_cnt x_rng 7 _ hst e2) lk_RL_159 rfl rfl hRMX4_account hP hD hS hA hK hN hX (List.Perm.of_eq (List.append_nil _).symm) (List.Perm.of_eq (List.append_nil _)) 0 rfl rfl rfl hl.1 rfl (Nat.le_of_ble_eq_true rfl) ⟨by show _ ≤ 284; omega, by show _ ≤ 2272; omega⟩ (dg ddL_arePitches 52 rfl) (fun H locs hP hD hS => ?_)
      refine lv_icmp_ne (tgt := 138) hx hb (dg ddL_arePitches 53 rfl) (by decide) (fun h4 => ?_) (fun h4 => ?_)
      · have hf := it_f h4 hf
        refine lv_iconst (v := 0) hx hb (dg ddL_arePitches 78 rfl) (by decide) ?_
        cases hf
        refine W.widen (k := 284) (n := 2272) (by omega) (by omega) ?_
        exact e_wz CX hr hlk (by decide) rfl hP hD hS (dg ddL_arePitches 79 rfl)
      · have hf := it_t h4 hf
        refine lv_iload_n hx hb (dg ddL_arePitches 54 rfl) rfl (lv_at hl 2 rfl) ?_
        refine lv_aload_n hx hb (dg ddL_arePitches 55 rfl) rfl (lv_at hl 0 rfl) ?_
        refine lv_bipush (v := 9) hx hb (dg ddL_arePitches 56 rfl) (by decide) ?_
        obtain ⟨r6, e5, hf⟩ := ob_some hf
        rcases r6 with t9 | x_r6
        · cases os_l hf
        have hf := os_r hf
        refine crv_ri CX hml (As := [.int 9]) (rest := [.int x2]) (ws := (wX4 q cy x_isv x_te x_re x_de x_now x_spa x_sna x_len x_sig x_nxt x_cnt x_rng)) (wsn := (wX4 q cy x_isv x_te x_re x_de x_now x_spa x_sna x_len x_sig x_nxt x_cnt x_rng)) (wr := []) (c_X4_account l D cy q x_isv x_te x_re x_de x_now x_spa x_sna x_len x_sig x_nxt x_cnt x_rng 9 _ hst e5) lk_RL_159 rfl rfl hRMX4_account hP hD hS hA hK hN hX (List.Perm.of_eq (List.append_nil _).symm) (List.Perm.of_eq (List.append_nil _)) 0 rfl rfl rfl hl.1 rfl (Nat.le_of_ble_eq_true rfl) ⟨by show _ ≤ 284; omega, by show _ ≤ 2272; omega⟩ (dg ddL_arePitches 57 rfl) (fun H locs hP hD hS => ?_)
        refine lv_icmp_ne (tgt := 138) hx hb (dg ddL_arePitches 58 rfl) (by decide) (fun h7 => ?_) (fun h7 => ?_)
        · have hf := it_f h7 hf
          refine lv_iconst (v := 0) hx hb (dg ddL_arePitches 78 rfl) (by decide) ?_
          cases hf
          refine W.widen (k := 284) (n := 2272) (by omega) (by omega) ?_
          exact e_wz CX hr hlk (by decide) rfl hP hD hS (dg ddL_arePitches 79 rfl)
        · have hf := it_t h7 hf
          refine lv_iload_n hx hb (dg ddL_arePitches 59 rfl) rfl (lv_at hl 1 rfl) ?_
          refine lv_aload_n hx hb (dg ddL_arePitches 60 rfl) rfl (lv_at hl 0 rfl) ?_
          refine lv_bipush (v := 8) hx hb (dg ddL_arePitches 61 rfl) (by decide) ?_
          obtain ⟨r9, e8, hf⟩ := ob_some hf
          rcases r9 with t9 | x_r9
          · cases os_l hf
          have hf := os_r hf
          refine crv_ri CX hml (As := [.int 8]) (rest := [.int x1]) (ws := (wX4 q cy x_isv x_te x_re x_de x_now x_spa x_sna x_len x_sig x_nxt x_cnt x_rng)) (wsn := (wX4 q cy x_isv x_te x_re x_de x_now x_spa x_sna x_len x_sig x_nxt x_cnt x_rng)) (wr := []) (c_X4_account l D cy q x_isv x_te x_re x_de x_now x_spa x_sna x_len x_sig x_nxt x_cnt x_rng 8 _ hst e8) lk_RL_159 rfl rfl hRMX4_account hP hD hS hA hK hN hX (List.Perm.of_eq (List.append_nil _).symm) (List.Perm.of_eq (List.append_nil _)) 0 rfl rfl rfl hl.1 rfl (Nat.le_of_ble_eq_true rfl) ⟨by show _ ≤ 284; omega, by show _ ≤ 2272; omega⟩ (dg ddL_arePitches 62 rfl) (fun H locs hP hD hS => ?_)
          refine lv_iadd hx hb (dg ddL_arePitches 63 rfl) ?_
          refine lv_iload_n hx hb (dg ddL_arePitches 64 rfl) rfl (lv_at hl 2 rfl) ?_
          refine lv_icmp_ne (tgt := 138) hx hb (dg ddL_arePitches 65 rfl) (by decide) (fun h10 => ?_) (fun h10 => ?_)
          · have hf := it_f h10 hf
            refine lv_iconst (v := 0) hx hb (dg ddL_arePitches 78 rfl) (by decide) ?_
            cases hf
            refine W.widen (k := 284) (n := 2272) (by omega) (by omega) ?_
            exact e_wz CX hr hlk (by decide) rfl hP hD hS (dg ddL_arePitches 79 rfl)
          · have hf := it_t h10 hf
            refine lv_iload_n hx hb (dg ddL_arePitches 66 rfl) rfl (lv_at hl 3 rfl) ?_
            refine lv_aload_n hx hb (dg ddL_arePitches 67 rfl) rfl (lv_at hl 0 rfl) ?_
            refine lv_iconst (v := 5) hx hb (dg ddL_arePitches 68 rfl) (by decide) ?_
            obtain ⟨r12, e11, hf⟩ := ob_some hf
            rcases r12 with t9 | x_r12
            · cases os_l hf
            have hf := os_r hf
            refine crv_ri CX hml (As := [.int 5]) (rest := [.int x3]) (ws := (wX4 q cy x_isv x_te x_re x_de x_now x_spa x_sna x_len x_sig x_nxt x_cnt x_rng)) (wsn := (wX4 q cy x_isv x_te x_re x_de x_now x_spa x_sna x_len x_sig x_nxt x_cnt x_rng)) (wr := []) (c_X4_account l D cy q x_isv x_te x_re x_de x_now x_spa x_sna x_len x_sig x_nxt x_cnt x_rng 5 _ hst e11) lk_RL_159 rfl rfl hRMX4_account hP hD hS hA hK hN hX (List.Perm.of_eq (List.append_nil _).symm) (List.Perm.of_eq (List.append_nil _)) 0 rfl rfl rfl hl.1 rfl (Nat.le_of_ble_eq_true rfl) ⟨by show _ ≤ 284; omega, by show _ ≤ 2272; omega⟩ (dg ddL_arePitches 69 rfl) (fun H locs hP hD hS => ?_)
            refine lv_icmp_ne (tgt := 138) hx hb (dg ddL_arePitches 70 rfl) (by decide) (fun h13 => ?_) (fun h13 => ?_)
            · have hf := it_f h13 hf
              refine lv_iconst (v := 0) hx hb (dg ddL_arePitches 78 rfl) (by decide) ?_
              cases hf
              refine W.widen (k := 284) (n := 2272) (by omega) (by omega) ?_
              exact e_wz CX hr hlk (by decide) rfl hP hD hS (dg ddL_arePitches 79 rfl)
            · have hf := it_t h13 hf
              refine lv_aload_n hx hb (dg ddL_arePitches 71 rfl) rfl (lv_at hl 0 rfl) ?_
              refine lv_iconst (v := 0) hx hb (dg ddL_arePitches 72 rfl) (by decide) ?_
              obtain ⟨r15, e14, hf⟩ := ob_some hf
              rcases r15 with t9 | x_r15
              · cases os_l hf
              have hf := os_r hf
              refine crv_ri CX hml (As := [.int 0]) (rest := []) (ws := (wX4 q cy x_isv x_te x_re x_de x_now x_spa x_sna x_len x_sig x_nxt x_cnt x_rng)) (wsn := (wX4 q cy x_isv x_te x_re x_de x_now x_r15.2 x_sna x_len x_sig x_nxt x_cnt x_rng)) (wr := []) (c_X4_playingIn l D cy q x_isv x_te x_re x_de x_now x_spa x_sna x_len x_sig x_nxt x_cnt x_rng 0 _ hst e14) lk_RL_216 rfl rfl hRMX4_playingIn hP hD hS hA hK hN hX (List.Perm.of_eq (List.append_nil _).symm) (List.Perm.of_eq (List.append_nil _)) 0 rfl rfl rfl hl.1 rfl (Nat.le_of_ble_eq_true rfl) ⟨by show _ ≤ 284; omega, by show _ ≤ 2272; omega⟩ (dg ddL_arePitches 73 rfl) (fun H locs hP hD hS => ?_)
              refine lv_iload_n hx hb (dg ddL_arePitches 74 rfl) rfl (lv_at hl 3 rfl) ?_
              refine lv_icmp_ne (tgt := 138) hx hb (dg ddL_arePitches 75 rfl) (by decide) (fun h16 => ?_) (fun h16 => ?_)
              · have hf := it_f h16 hf
                refine lv_iconst (v := 0) hx hb (dg ddL_arePitches 78 rfl) (by decide) ?_
                cases hf
                refine W.widen (k := 284) (n := 2272) (by omega) (by omega) ?_
                exact e_wz CX hr hlk (by decide) rfl hP hD hS (dg ddL_arePitches 79 rfl)
              · have hf := it_t h16 hf
                refine lv_iconst (v := 1) hx hb (dg ddL_arePitches 76 rfl) (by decide) ?_
                refine lv_goto (tgt := 139) hx hb (dg ddL_arePitches 77 rfl) (by decide) ?_
                cases hf
                refine W.widen (k := 284) (n := 2272) (by omega) (by omega) ?_
                exact e_wz CX hr hlk (by decide) rfl hP hD hS (dg ddL_arePitches 79 rfl)
  have K15 : ∀ (n : Nat), ∀ (x1 : Int32) (x2 : Int32) (x3 : Int32) (x4 : Int32) (x5 : Int32) (x_now : SV) (x_spa : SV) (k ks : Nat) (hk : k + (n * 31 + 5) ≤ 284) (hks : ks + 8 * (n * 31 + 5) ≤ 2272) (H : Heap) (locs : List Loc) (hP : va_P D vwCl (wX4 q cy x_isv x_te x_re x_de x_now x_spa x_sna x_len x_sig x_nxt x_cnt x_rng) H) (hD : va_D A (wX4 q cy x_isv x_te x_re x_de x_now x_spa x_sna x_len x_sig x_nxt x_cnt x_rng)) (hS : va_S A s.heap H locs) (ls : Array Slot) (hl : lv_has ls 6 [(0, .ref (q 0 0)), (1, .int x1), (2, .int x2), (3, .int x3), (4, .int x4), (5, .int x5)]) (hf : f_L_arePitches_c15 x_len x_cnt n x1 x2 x3 x4 x5 x_now x_spa = some res), W p l e ⟨10, 284, 2272, 188⟩ s m args below meth c H locs k ks (MQ below (qI D (wX4 q cy x_isv x_te x_re x_de res.2.1 res.2.2 x_sna x_len x_sig x_nxt x_cnt x_rng) res.1 A) args s 284 2272 A) (F0 m 15 ls []) := by
    intro n
    induction n with
    | zero => intro x1 x2 x3 x4 x5 x_now x_spa k ks hk hks H locs hP hD hS ls hl hf; cases (show none = some res from hf)
    | succ n ih =>
    intro x1 x2 x3 x4 x5 x_now x_spa k ks hk hks H locs hP hD hS ls hl hf
    refine lv_iload hx hb (dg ddL_arePitches 11 rfl) (lv_at hl 4 rfl) ?_
    refine lv_if_eq (tgt := 79) hx hb (dg ddL_arePitches 12 rfl) (by decide) (fun h1 => ?_) (fun h1 => ?_)
    · have hf := it_t h1 hf
      refine W.widen (k := (k + 0)) (n := (ks + 0)) (by omega) (by omega) ?_
      exact K79  x1 x2 x3 x4 x_now x_spa (k + 0) (ks + 0) (by omega) (by omega) _ _ hP hD hS _ (lv_sub hl [0, 1, 2, 3, 4] rfl) hf
    · have hf := it_f h1 hf
      refine lv_iload hx hb (dg ddL_arePitches 13 rfl) (lv_at hl 5 rfl) ?_
      refine lv_bipush (v := 8) hx hb (dg ddL_arePitches 14 rfl) (by decide) ?_
      refine lv_icmp_ge (tgt := 79) hx hb (dg ddL_arePitches 15 rfl) (by decide) (fun h2 => ?_) (fun h2 => ?_)
      · have hf := it_t h2 hf
        refine W.widen (k := (k + 0)) (n := (ks + 0)) (by omega) (by omega) ?_
        exact K79  x1 x2 x3 x4 x_now x_spa (k + 0) (ks + 0) (by omega) (by omega) _ _ hP hD hS _ (lv_sub hl [0, 1, 2, 3, 4] rfl) hf
      · have hf := it_f h2 hf
        refine lv_iload_n hx hb (dg ddL_arePitches 16 rfl) rfl (lv_at hl 1 rfl) ?_
        refine lv_aload_n hx hb (dg ddL_arePitches 17 rfl) rfl (lv_at hl 0 rfl) ?_
        refine lv_iload hx hb (dg ddL_arePitches 18 rfl) (lv_at hl 5 rfl) ?_
        refine lv_iconst (v := 1) hx hb (dg ddL_arePitches 19 rfl) (by decide) ?_
        obtain ⟨r4, e3, hf⟩ := ob_some hf
        rcases r4 with t9 | x_r4
        · cases os_l hf
        have hf := os_r hf
        refine crv_ri CX hml (As := [.int x5, .int 1]) (rest := [.int x1]) (ws := (wX4 q cy x_isv x_te x_re x_de x_now x_spa x_sna x_len x_sig x_nxt x_cnt x_rng)) (wsn := (wX4 q cy x_isv x_te x_re x_de x_now x_spa x_sna x_len x_sig x_nxt x_cnt x_rng)) (wr := []) (c_X4_pitchOf l D cy q x_isv x_te x_re x_de x_now x_spa x_sna x_len x_sig x_nxt x_cnt x_rng x5 1 _ hst e3) lk_RL_175 rfl rfl hRMX4_pitchOf hP hD hS hA hK hN hX (List.Perm.of_eq (List.append_nil _).symm) (List.Perm.of_eq (List.append_nil _)) 0 rfl rfl rfl hl.1 rfl (Nat.le_of_ble_eq_true rfl) ⟨by show _ ≤ 284; omega, by show _ ≤ 2272; omega⟩ (dg ddL_arePitches 20 rfl) (fun H locs hP hD hS => ?_)
        refine lv_iadd hx hb (dg ddL_arePitches 21 rfl) ?_
        refine lv_istore_n (lv' := [(1, .int (x1 + x_r4)), (0, .ref (q 0 0)), (2, .int x2), (3, .int x3), (4, .int x4), (5, .int x5)]) hx hb (dg ddL_arePitches 22 rfl) rfl hl (by decide) rfl (fun ls hl => ?_)
        refine lv_iload_n hx hb (dg ddL_arePitches 23 rfl) rfl (lv_at hl 2 rfl) ?_
        refine lv_aload_n hx hb (dg ddL_arePitches 24 rfl) rfl (lv_at hl 1 rfl) ?_
        refine lv_iload hx hb (dg ddL_arePitches 25 rfl) (lv_at hl 5 rfl) ?_
        refine lv_iconst (v := 2) hx hb (dg ddL_arePitches 26 rfl) (by decide) ?_
        obtain ⟨r6, e5, hf⟩ := ob_some hf
        rcases r6 with t9 | x_r6
        · cases os_l hf
        have hf := os_r hf
        refine crv_ri CX hml (As := [.int x5, .int 2]) (rest := [.int x2]) (ws := (wX4 q cy x_isv x_te x_re x_de x_now x_spa x_sna x_len x_sig x_nxt x_cnt x_rng)) (wsn := (wX4 q cy x_isv x_te x_re x_de x_now x_spa x_sna x_len x_sig x_nxt x_cnt x_rng)) (wr := []) (c_X4_pitchOf l D cy q x_isv x_te x_re x_de x_now x_spa x_sna x_len x_sig x_nxt x_cnt x_rng x5 2 _ hst e5) lk_RL_175 rfl rfl hRMX4_pitchOf hP hD hS hA hK hN hX (List.Perm.of_eq (List.append_nil _).symm) (List.Perm.of_eq (List.append_nil _)) 0 rfl rfl rfl hl.1 rfl (Nat.le_of_ble_eq_true rfl) ⟨by show _ ≤ 284; omega, by show _ ≤ 2272; omega⟩ (dg ddL_arePitches 27 rfl) (fun H locs hP hD hS => ?_)
        refine lv_iadd hx hb (dg ddL_arePitches 28 rfl) ?_
        refine lv_istore_n (lv' := [(2, .int (x2 + x_r6)), (1, .int (x1 + x_r4)), (0, .ref (q 0 0)), (3, .int x3), (4, .int x4), (5, .int x5)]) hx hb (dg ddL_arePitches 29 rfl) rfl hl (by decide) rfl (fun ls hl => ?_)
        refine lv_iload_n hx hb (dg ddL_arePitches 30 rfl) rfl (lv_at hl 3 rfl) ?_
        refine lv_aload_n hx hb (dg ddL_arePitches 31 rfl) rfl (lv_at hl 2 rfl) ?_
        refine lv_iload hx hb (dg ddL_arePitches 32 rfl) (lv_at hl 5 rfl) ?_
        refine lv_iconst (v := 0) hx hb (dg ddL_arePitches 33 rfl) (by decide) ?_
        obtain ⟨r8, e7, hf⟩ := ob_some hf
        rcases r8 with t9 | x_r8
        · cases os_l hf
        have hf := os_r hf
        refine crv_ri CX hml (As := [.int x5, .int 0]) (rest := [.int x3]) (ws := (wX4 q cy x_isv x_te x_re x_de x_now x_spa x_sna x_len x_sig x_nxt x_cnt x_rng)) (wsn := (wX4 q cy x_isv x_te x_re x_de x_now x_spa x_sna x_len x_sig x_nxt x_cnt x_rng)) (wr := []) (c_X4_pitchOf l D cy q x_isv x_te x_re x_de x_now x_spa x_sna x_len x_sig x_nxt x_cnt x_rng x5 0 _ hst e7) lk_RL_175 rfl rfl hRMX4_pitchOf hP hD hS hA hK hN hX (List.Perm.of_eq (List.append_nil _).symm) (List.Perm.of_eq (List.append_nil _)) 0 rfl rfl rfl hl.1 rfl (Nat.le_of_ble_eq_true rfl) ⟨by show _ ≤ 284; omega, by show _ ≤ 2272; omega⟩ (dg ddL_arePitches 34 rfl) (fun H locs hP hD hS => ?_)
        refine lv_if_ge (tgt := 62) hx hb (dg ddL_arePitches 35 rfl) (by decide) (fun h9 => ?_) (fun h9 => ?_)
        · have hf := it_t h9 hf
          refine lv_iconst (v := 1) hx hb (dg ddL_arePitches 38 rfl) (by decide) ?_
          refine W.widen (k := (k + 6)) (n := (ks + 48)) (by omega) (by omega) ?_
          exact K63 (n * 31 + 5) (f_L_arePitches_c15 x_len x_cnt n) ih  (x1 + x_r4) (x2 + x_r6) x5 1 x3 x_now x_spa (k + 6) (ks + 48) (by omega) (by omega) _ _ hP hD hS _ (lv_sub hl [2, 1, 0, 5] rfl) hf
        · have hf := it_f h9 hf
          refine lv_iconst (v := 0) hx hb (dg ddL_arePitches 36 rfl) (by decide) ?_
          refine lv_goto (tgt := 63) hx hb (dg ddL_arePitches 37 rfl) (by decide) ?_
          refine W.widen (k := (k + 6)) (n := (ks + 48)) (by omega) (by omega) ?_
          exact K63 (n * 31 + 5) (f_L_arePitches_c15 x_len x_cnt n) ih  (x1 + x_r4) (x2 + x_r6) x5 0 x3 x_now x_spa (k + 6) (ks + 48) (by omega) (by omega) _ _ hP hD hS _ (lv_sub hl [2, 1, 0, 5] rfl) hf
  refine lv_iconst (v := 0) hx hb (dg ddL_arePitches 0 rfl) (by decide) ?_
  refine lv_istore_n (lv' := [(1, .int 0), (0, .ref (q 0 0))]) hx hb (dg ddL_arePitches 1 rfl) rfl hl (by decide) rfl (fun ls hl => ?_)
  refine lv_iconst (v := 0) hx hb (dg ddL_arePitches 2 rfl) (by decide) ?_
  refine lv_istore_n (lv' := [(2, .int 0), (1, .int 0), (0, .ref (q 0 0))]) hx hb (dg ddL_arePitches 3 rfl) rfl hl (by decide) rfl (fun ls hl => ?_)
  refine lv_iconst (v := 0) hx hb (dg ddL_arePitches 4 rfl) (by decide) ?_
  refine lv_istore_n (lv' := [(3, .int 0), (2, .int 0), (1, .int 0), (0, .ref (q 0 0))]) hx hb (dg ddL_arePitches 5 rfl) rfl hl (by decide) rfl (fun ls hl => ?_)
  refine lv_aload_n hx hb (dg ddL_arePitches 6 rfl) rfl (lv_at hl 3 rfl) ?_
  obtain ⟨r2, e1, hf⟩ := ob_some hf
  refine crf_vi CX hml (As := []) (rest := []) (ws := (wX4 q cy x_isv x_te x_re x_de x_now x_spa x_sna x_len x_sig x_nxt x_cnt x_rng)) (wsn := (wX4 q cy x_isv x_te x_re x_de r2.2 x_spa x_sna x_len x_sig x_nxt x_cnt x_rng)) (wr := []) (c_X4_isWell l D cy q x_isv x_te x_re x_de x_now x_spa x_sna x_len x_sig x_nxt x_cnt x_rng _ e1) lk_RL_208 rfl rfl hRMX4_isWell hP hD hS hA hK hN (List.Perm.of_eq (List.append_nil _).symm) (List.Perm.of_eq (List.append_nil _)) 0 rfl rfl rfl hl.1 rfl (Nat.le_of_ble_eq_true rfl) ⟨by show _ ≤ 284; omega, by show _ ≤ 2272; omega⟩ (dg ddL_arePitches 7 rfl) (fun H locs hP hD hS => ?_)
  refine lv_istore (lv' := [(4, .int r2.1), (3, .int 0), (2, .int 0), (1, .int 0), (0, .ref (q 0 0))]) hx hb (dg ddL_arePitches 8 rfl) hl (by decide) rfl (fun ls hl => ?_)
  refine lv_iconst (v := 0) hx hb (dg ddL_arePitches 9 rfl) (by decide) ?_
  refine lv_istore (lv' := [(5, .int 0), (4, .int r2.1), (3, .int 0), (2, .int 0), (1, .int 0), (0, .ref (q 0 0))]) hx hb (dg ddL_arePitches 10 rfl) hl (by decide) rfl (fun ls hl => ?_)
  refine W.widen (k := (0 + 0)) (n := (0 + 0)) (by omega) (by omega) ?_
  exact K15 9 0 0 0 r2.1 0 r2.2 x_spa (0 + 0) (0 + 0) (by omega) (by omega) _ _ hP hD hS _ (lv_sub hl [5, 4, 3, 2, 1, 0] rfl) hf
def f_L_limitOf (x_now : SV) (x_nxt : Int32) (x_cnt : Int32) (x_rng : Nat → SV) (a2 : Int32) : Option (UInt32 × SV × Int32 × Int32 × (Nat → SV)) := ob (f_L_limit x_now x_nxt x_cnt x_rng a2 80) fun r2 => (ob (f_L_undo r2.2.1 r2.2.2.1 r2.2.2.2.1 r2.2.2.2.2) fun r4 => (og (okI r2.1) (some (r2.1.toUInt32, r4.2.1, r4.2.2.1, r4.2.2.2, r2.2.2.2.2))))
set_option maxHeartbeats 8000000 in
set_option maxRecDepth 100000 in
theorem c_L_limitOf (l : Launch) (D : va_G) (cy : Nat → ClassId) (q : Nat → Nat → Nat) (x_isv : Int32) (x_te : Int32) (x_re : Int32) (x_de : Int32) (x_now : SV) (x_spa : SV) (x_sna : SV) (x_len : Int32) (x_sig : Nat → Int32) (x_nxt : Int32) (x_cnt : Int32) (x_rng : Nat → SV) (a2 : Int32) (sz : Nat) (hst : l.stackTraces = false) {res : UInt32 × SV × Int32 × Int32 × (Nat → SV)} (hf : f_L_limitOf x_now x_nxt x_cnt x_rng a2 = some res) : Met l yL_limitOf (.code yL_limitOf cL_limitOf 3 (some .float) :: lw_all) { frames := 9, cells := 2, slots := 16, locals := 149 } (va_Pc [.ref (q 0 0), .int a2] (sY D cy (wX4 q cy x_isv x_te x_re x_de x_now x_spa x_sna x_len x_sig x_nxt x_cnt x_rng) sz)) (qF D (wX4 q cy x_isv x_te x_re x_de res.2.1 x_spa x_sna x_len x_sig res.2.2.1 res.2.2.2.1 res.2.2.2.2) res.1 (va_A (wX4 q cy x_isv x_te x_re x_de x_now x_spa x_sna x_len x_sig x_nxt x_cnt x_rng) sz)) 2 16 (va_A (wX4 q cy x_isv x_te x_re x_de x_now x_spa x_sna x_len x_sig x_nxt x_cnt x_rng) sz) := by
  refine mk_lc (Qc := qF D (wX4 q cy x_isv x_te x_re x_de res.2.1 x_spa x_sna x_len x_sig res.2.2.1 res.2.2.2.1 res.2.2.2.2) res.1) (Rc := RL) (by decide +kernel) rfl (Nat.le_of_ble_eq_true rfl) ?_
  intro p e s m args below meth c ls A CX hml hr hlk hK hN hP hD hS hA hl hX hC
  have hx := CX.1
  have hb := CX.2.1
  have hRML_limit : (⟨8, 1, 6, 125⟩ : Room).frames + 1 ≤ (⟨9, 2, 16, 149⟩ : Room).frames ∧ 8 + (5 + 11) + (⟨8, 1, 6, 125⟩ : Room).locals ≤ (⟨9, 2, 16, 149⟩ : Room).locals := ⟨(Nat.le_of_ble_eq_true rfl), (Nat.le_of_ble_eq_true rfl)⟩
  have hRML_undo : (⟨7, 1, 6, 103⟩ : Room).frames + 1 ≤ (⟨9, 2, 16, 149⟩ : Room).frames ∧ 8 + (3 + 11) + (⟨7, 1, 6, 103⟩ : Room).locals ≤ (⟨9, 2, 16, 149⟩ : Room).locals := ⟨(Nat.le_of_ble_eq_true rfl), (Nat.le_of_ble_eq_true rfl)⟩
  refine lv_aload_n hx hb (dg ddL_limitOf 0 rfl) rfl (lv_at hl 0 rfl) ?_
  refine lv_iload_n hx hb (dg ddL_limitOf 1 rfl) rfl (lv_at hl 1 rfl) ?_
  refine lv_bipush (v := 80) hx hb (dg ddL_limitOf 2 rfl) (by decide) ?_
  obtain ⟨r2, e1, hf⟩ := ob_some hf
  refine crl_i CX hml (As := [.ref (q 0 0), .int a2, .int 80]) (rest := []) (ws := (wX4 q cy x_isv x_te x_re x_de x_now x_spa x_sna x_len x_sig x_nxt x_cnt x_rng)) (wsn := (wX4 q cy x_isv x_te x_re x_de r2.2.1 x_spa x_sna x_len x_sig r2.2.2.1 r2.2.2.2.1 r2.2.2.2.2)) (wr := []) (c_L_limit l D cy q x_isv x_te x_re x_de x_now x_spa x_sna x_len x_sig x_nxt x_cnt x_rng a2 80 _ hst e1) lk_RL_117 rfl rfl hRML_limit hP hD hS hA hK hN hX hC (List.Perm.of_eq (List.append_nil _).symm) (List.Perm.of_eq (List.append_nil _)) rfl hl.1 rfl (Nat.le_of_ble_eq_true rfl) ⟨by show _ ≤ 2; omega, by show _ ≤ 16; omega⟩ (dg ddL_limitOf 3 rfl) (fun H locs hP hD hS => ?_)
  refine lv_istore_n (lv' := [(2, .int r2.1), (0, .ref (q 0 0)), (1, .int a2)]) hx hb (dg ddL_limitOf 4 rfl) rfl hl (by decide) rfl (fun ls hl => ?_)
  refine lv_aload_n hx hb (dg ddL_limitOf 5 rfl) rfl (lv_at hl 1 rfl) ?_
  obtain ⟨r4, e3, hf⟩ := ob_some hf
  refine crl_i CX hml (As := [.ref (q 0 0)]) (rest := []) (ws := (wX4 q cy x_isv x_te x_re x_de r2.2.1 x_spa x_sna x_len x_sig r2.2.2.1 r2.2.2.2.1 r2.2.2.2.2)) (wsn := (wX4 q cy x_isv x_te x_re x_de r4.2.1 x_spa x_sna x_len x_sig r4.2.2.1 r4.2.2.2 r2.2.2.2.2)) (wr := []) (c_L_undo l D cy q x_isv x_te x_re x_de r2.2.1 x_spa x_sna x_len x_sig r2.2.2.1 r2.2.2.2.1 r2.2.2.2.2 _ hst e3) lk_RL_151 rfl rfl hRML_undo hP hD hS hA hK hN hX hC (List.Perm.of_eq (List.append_nil _).symm) (List.Perm.of_eq (List.append_nil _)) rfl hl.1 rfl (Nat.le_of_ble_eq_true rfl) ⟨by show _ ≤ 2; omega, by show _ ≤ 16; omega⟩ (dg ddL_limitOf 6 rfl) (fun H locs hP hD hS => ?_)
  refine lv_pop hx hb (dg ddL_limitOf 7 rfl) rfl ?_
  refine lv_iload_n hx hb (dg ddL_limitOf 8 rfl) rfl (lv_at hl 0 rfl) ?_
  obtain ⟨h5, hf⟩ := og_some hf
  refine vn_i2f hx hb (hml.trans hl.1.symm) CX.2.2.2 (CX.2.2.1 (.methodLink RL 189 nmI2f) (lw_at 879 (by decide +kernel))) (CX.2.2.1 _ (mNat (by simp [nmF2i, nmI2f, nmD2l]))) (CX.2.2.1 _ (mNat (by simp [nmF2i, nmI2f, nmD2l]))) (CX.2.2.1 _ (mNat (by simp [nmF2i, nmI2f, nmD2l]))) (okI_in h5) (Nat.le_of_ble_eq_true rfl) (Nat.le_of_ble_eq_true rfl) (dg ddL_limitOf 9 rfl) ?_
  cases hf
  refine W.widen (k := 2) (n := 16) (by omega) (by omega) ?_
  exact e_wf CX hr hlk rfl hP hD hS (dg ddL_limitOf 10 rfl)
def f_L_isQuietest_c94 (rec9 : Int32 → UInt32 → Int32 → SV → Int32 → Int32 → (Nat → SV) → Option (Int32 × SV × Int32 × Int32 × (Nat → SV))) (a2 : Int32) (x3 : UInt32) (x4 : Int32) (x5 : UInt32) (x7 : Int32) (t0 : Int32) (x_now : SV) (x_nxt : Int32) (x_cnt : Int32) (x_rng : Nat → SV) : Option (Int32 × SV × Int32 × Int32 × (Nat → SV)) := if x7 = 0 then (rec9 t0 x3 (x4 + 1) x_now x_nxt x_cnt x_rng) else (rec9 t0 x5 (x4 + 1) x_now x_nxt x_cnt x_rng)
def f_L_isQuietest_c81 (rec9 : Int32 → UInt32 → Int32 → SV → Int32 → Int32 → (Nat → SV) → Option (Int32 × SV × Int32 × Int32 × (Nat → SV))) (a2 : Int32) (x2 : Int32) (x3 : UInt32) (x4 : Int32) (x5 : UInt32) (t0 : Int32) (x_now : SV) (x_nxt : Int32) (x_cnt : Int32) (x_rng : Nat → SV) : Option (Int32 × SV × Int32 × Int32 × (Nat → SV)) := if t0 = 0 then (f_L_isQuietest_c94 rec9 a2 x3 x4 x5 t0 x2 x_now x_nxt x_cnt x_rng) else (f_L_isQuietest_c94 rec9 a2 x3 x4 x5 t0 x4 x_now x_nxt x_cnt x_rng)
def f_L_isQuietest_c76 (rec9 : Int32 → UInt32 → Int32 → SV → Int32 → Int32 → (Nat → SV) → Option (Int32 × SV × Int32 × Int32 × (Nat → SV))) (a2 : Int32) (x2 : Int32) (x3 : UInt32) (x4 : Int32) (x5 : UInt32) (x_now : SV) (x_nxt : Int32) (x_cnt : Int32) (x_rng : Nat → SV) : Option (Int32 × SV × Int32 × Int32 × (Nat → SV)) := f_L_isQuietest_c81 rec9 a2 x2 x3 x4 x5 1 x_now x_nxt x_cnt x_rng
def f_L_isQuietest_c80 (rec9 : Int32 → UInt32 → Int32 → SV → Int32 → Int32 → (Nat → SV) → Option (Int32 × SV × Int32 × Int32 × (Nat → SV))) (a2 : Int32) (x2 : Int32) (x3 : UInt32) (x4 : Int32) (x5 : UInt32) (x_now : SV) (x_nxt : Int32) (x_cnt : Int32) (x_rng : Nat → SV) : Option (Int32 × SV × Int32 × Int32 × (Nat → SV)) := f_L_isQuietest_c81 rec9 a2 x2 x3 x4 x5 0 x_now x_nxt x_cnt x_rng
def f_L_isQuietest_c55 (rec9 : Int32 → UInt32 → Int32 → SV → Int32 → Int32 → (Nat → SV) → Option (Int32 × SV × Int32 × Int32 × (Nat → SV))) (a2 : Int32) (x2 : Int32) (x3 : UInt32) (x4 : Int32) (x5 : UInt32) (t0 : Int32) (x_now : SV) (x_nxt : Int32) (x_cnt : Int32) (x_rng : Nat → SV) : Option (Int32 × SV × Int32 × Int32 × (Nat → SV)) := if t0 = 0 then (f_L_isQuietest_c80 rec9 a2 x2 x3 x4 x5 x_now x_nxt x_cnt x_rng) else (if x2 = (-1000) then (f_L_isQuietest_c76 rec9 a2 x2 x3 x4 x5 x_now x_nxt x_cnt x_rng) else (if 0 ≤ (Op.cmpValue (FP.fcmp x5 x3) .g) then (f_L_isQuietest_c80 rec9 a2 x2 x3 x4 x5 x_now x_nxt x_cnt x_rng) else (f_L_isQuietest_c76 rec9 a2 x2 x3 x4 x5 x_now x_nxt x_cnt x_rng)))
def f_L_isQuietest_c54 (rec9 : Int32 → UInt32 → Int32 → SV → Int32 → Int32 → (Nat → SV) → Option (Int32 × SV × Int32 × Int32 × (Nat → SV))) (a2 : Int32) (x2 : Int32) (x3 : UInt32) (x4 : Int32) (x5 : UInt32) (x_now : SV) (x_nxt : Int32) (x_cnt : Int32) (x_rng : Nat → SV) : Option (Int32 × SV × Int32 × Int32 × (Nat → SV)) := f_L_isQuietest_c55 rec9 a2 x2 x3 x4 x5 0 x_now x_nxt x_cnt x_rng
def f_L_isQuietest_c9  (a2 : Int32) : Nat → Int32 → UInt32 → Int32 → SV → Int32 → Int32 → (Nat → SV) → Option (Int32 × SV × Int32 × Int32 × (Nat → SV))
  | 0, _, _, _, _, _, _, _ => none
  | n + 1, x2, x3, x4, x_now, x_nxt, x_cnt, x_rng => if 8 ≤ x4 then (ob (f_L_quietest x_now a2) fun r3 => (if r3 = x2 then (some (1, x_now, x_nxt, x_cnt, x_rng)) else (some (0, x_now, x_nxt, x_cnt, x_rng)))) else (ob (f_X4_noiseWith x_now x4 a2) fun r6 => (os r6 (fun _ => none) fun x_r6 => (og (okI x_r6) (ob (f_X4_pitchOf x_now x4 0) fun r9 => (os r9 (fun _ => none) fun x_r9 => (if 0 ≤ x_r9 then (f_L_isQuietest_c54 (f_L_isQuietest_c9 a2 n) a2 x2 x3 x4 x_r6.toUInt32 x_now x_nxt x_cnt x_rng) else (ob (f_L_limitOf x_now x_nxt x_cnt x_rng x4) fun r12 => (if 0 < (Op.cmpValue (FP.fcmp x_r6.toUInt32 r12.1) .g) then (f_L_isQuietest_c54 (f_L_isQuietest_c9 a2 n) a2 x2 x3 x4 x_r6.toUInt32 r12.2.1 r12.2.2.1 r12.2.2.2.1 r12.2.2.2.2) else (f_L_isQuietest_c55 (f_L_isQuietest_c9 a2 n) a2 x2 x3 x4 x_r6.toUInt32 1 r12.2.1 r12.2.2.1 r12.2.2.2.1 r12.2.2.2.2)))))))))
def f_L_isQuietest (x_now : SV) (x_nxt : Int32) (x_cnt : Int32) (x_rng : Nat → SV) (a2 : Int32) : Option (Int32 × SV × Int32 × Int32 × (Nat → SV)) := f_L_isQuietest_c9 a2 9 (-1000) FP.fconst0 0 x_now x_nxt x_cnt x_rng
set_option maxHeartbeats 8000000 in
set_option maxRecDepth 100000 in
theorem c_L_isQuietest (l : Launch) (D : va_G) (cy : Nat → ClassId) (q : Nat → Nat → Nat) (x_isv : Int32) (x_te : Int32) (x_re : Int32) (x_de : Int32) (x_now : SV) (x_spa : SV) (x_sna : SV) (x_len : Int32) (x_sig : Nat → Int32) (x_nxt : Int32) (x_cnt : Int32) (x_rng : Nat → SV) (a2 : Int32) (sz : Nat) (hst : l.stackTraces = false) {res : Int32 × SV × Int32 × Int32 × (Nat → SV)} (hf : f_L_isQuietest x_now x_nxt x_cnt x_rng a2 = some res) : Met l yL_isQuietest (.code yL_isQuietest cL_isQuietest 8 (some .boolean) :: lw_all) { frames := 10, cells := 56, slots := 448, locals := 191 } (va_Pc [.ref (q 0 0), .int a2] (sY D cy (wX4 q cy x_isv x_te x_re x_de x_now x_spa x_sna x_len x_sig x_nxt x_cnt x_rng) sz)) (qI D (wX4 q cy x_isv x_te x_re x_de res.2.1 x_spa x_sna x_len x_sig res.2.2.1 res.2.2.2.1 res.2.2.2.2) res.1 (va_A (wX4 q cy x_isv x_te x_re x_de x_now x_spa x_sna x_len x_sig x_nxt x_cnt x_rng) sz)) 56 448 (va_A (wX4 q cy x_isv x_te x_re x_de x_now x_spa x_sna x_len x_sig x_nxt x_cnt x_rng) sz) := by
  refine mk_lc (Qc := qI D (wX4 q cy x_isv x_te x_re x_de res.2.1 x_spa x_sna x_len x_sig res.2.2.1 res.2.2.2.1 res.2.2.2.2) res.1) (Rc := RL) (by decide +kernel) rfl (Nat.le_of_ble_eq_true rfl) ?_
  intro p e s m args below meth c ls A CX hml hr hlk hK hN hP hD hS hA hl hX hC
  have hx := CX.1
  have hb := CX.2.1
  have hRML_limitOf : (⟨9, 2, 16, 149⟩ : Room).frames + 1 ≤ (⟨10, 56, 448, 191⟩ : Room).frames ∧ 8 + (3 + 11) + (⟨9, 2, 16, 149⟩ : Room).locals ≤ (⟨10, 56, 448, 191⟩ : Room).locals := ⟨(Nat.le_of_ble_eq_true rfl), (Nat.le_of_ble_eq_true rfl)⟩
  have hRML_quietest : (⟨8, 2, 12, 168⟩ : Room).frames + 1 ≤ (⟨10, 56, 448, 191⟩ : Room).frames ∧ 8 + (4 + 11) + (⟨8, 2, 12, 168⟩ : Room).locals ≤ (⟨10, 56, 448, 191⟩ : Room).locals := ⟨(Nat.le_of_ble_eq_true rfl), (Nat.le_of_ble_eq_true rfl)⟩
  have hRMX4_noiseWith : (⟨7, 2, 12, 120⟩ : Room).frames + 1 ≤ (⟨10, 56, 448, 191⟩ : Room).frames ∧ 8 + (3 + 11) + (⟨7, 2, 12, 120⟩ : Room).locals ≤ (⟨10, 56, 448, 191⟩ : Room).locals := ⟨(Nat.le_of_ble_eq_true rfl), (Nat.le_of_ble_eq_true rfl)⟩
  have hRMX4_pitchOf : (⟨7, 2, 12, 102⟩ : Room).frames + 1 ≤ (⟨10, 56, 448, 191⟩ : Room).frames ∧ 8 + (3 + 11) + (⟨7, 2, 12, 102⟩ : Room).locals ≤ (⟨10, 56, 448, 191⟩ : Room).locals := ⟨(Nat.le_of_ble_eq_true rfl), (Nat.le_of_ble_eq_true rfl)⟩
  have K94 : ∀ (N9 : Nat) (rec9 : Int32 → UInt32 → Int32 → SV → Int32 → Int32 → (Nat → SV) → Option (Int32 × SV × Int32 × Int32 × (Nat → SV))) (hrec9 : ∀ (x2 : Int32) (x3 : UInt32) (x4 : Int32) (x_now : SV) (x_nxt : Int32) (x_cnt : Int32) (x_rng : Nat → SV) (k ks : Nat) (hk : k + N9 ≤ 56) (hks : ks + 8 * N9 ≤ 448) (H : Heap) (locs : List Loc) (hP : va_P D vwCl (wX4 q cy x_isv x_te x_re x_de x_now x_spa x_sna x_len x_sig x_nxt x_cnt x_rng) H) (hD : va_D A (wX4 q cy x_isv x_te x_re x_de x_now x_spa x_sna x_len x_sig x_nxt x_cnt x_rng)) (hS : va_S A s.heap H locs) (ls : Array Slot) (hl : lv_has ls 8 [(0, .ref (q 0 0)), (1, .int a2), (2, .int x2), (3, .float x3), (4, .int x4)]) (hf : rec9 x2 x3 x4 x_now x_nxt x_cnt x_rng = some res), W p l e ⟨10, 56, 448, 191⟩ s m args below meth c H locs k ks (MQ below (qI D (wX4 q cy x_isv x_te x_re x_de res.2.1 x_spa x_sna x_len x_sig res.2.2.1 res.2.2.2.1 res.2.2.2.2) res.1 A) args s 56 448 A) (F0 m 9 ls [])), ∀ (x3 : UInt32) (x4 : Int32) (x5 : UInt32) (x7 : Int32) (t0 : Int32) (x_now : SV) (x_nxt : Int32) (x_cnt : Int32) (x_rng : Nat → SV) (k ks : Nat) (hk : k + (0 + N9) ≤ 56) (hks : ks + 8 * (0 + N9) ≤ 448) (H : Heap) (locs : List Loc) (hP : va_P D vwCl (wX4 q cy x_isv x_te x_re x_de x_now x_spa x_sna x_len x_sig x_nxt x_cnt x_rng) H) (hD : va_D A (wX4 q cy x_isv x_te x_re x_de x_now x_spa x_sna x_len x_sig x_nxt x_cnt x_rng)) (hS : va_S A s.heap H locs) (ls : Array Slot) (hl : lv_has ls 8 [(0, .ref (q 0 0)), (1, .int a2), (3, .float x3), (4, .int x4), (5, .float x5), (7, .int x7)]) (hf : f_L_isQuietest_c94 rec9 a2 x3 x4 x5 x7 t0 x_now x_nxt x_cnt x_rng = some res), W p l e ⟨10, 56, 448, 191⟩ s m args below meth c H locs k ks (MQ below (qI D (wX4 q cy x_isv x_te x_re x_de res.2.1 x_spa x_sna x_len x_sig res.2.2.1 res.2.2.2.1 res.2.2.2.2) res.1 A) args s 56 448 A) (F0 m 94 ls [.int t0]) := by
    intro N9 rec9 hrec9 x3 x4 x5 x7 t0 x_now x_nxt x_cnt x_rng k ks hk hks H locs hP hD hS ls hl hf
    refine lv_istore_n (lv' := [(2, .int t0), (0, .ref (q 0 0)), (1, .int a2), (3, .float x3), (4, .int x4), (5, .float x5), (7, .int x7)]) hx hb (dg ddL_isQuietest 48 rfl) rfl hl (by decide) rfl (fun ls hl => ?_)
    refine lv_iload hx hb (dg ddL_isQuietest 49 rfl) (lv_at hl 6 rfl) ?_
    refine lv_if_eq (tgt := 105) hx hb (dg ddL_isQuietest 50 rfl) (by decide) (fun h1 => ?_) (fun h1 => ?_)
    · have hf := it_t h1 hf
      refine lv_fload_n hx hb (dg ddL_isQuietest 53 rfl) rfl (lv_at hl 3 rfl) ?_
      refine lv_fstore_n (lv' := [(3, .float x3), (2, .int t0), (0, .ref (q 0 0)), (1, .int a2), (4, .int x4), (5, .float x5), (7, .int x7)]) hx hb (dg ddL_isQuietest 54 rfl) rfl hl (by decide) rfl (fun ls hl => ?_)
      refine lv_iinc (v := x4 + 1) (lv' := [(4, .int (x4 + 1)), (3, .float x3), (2, .int t0), (0, .ref (q 0 0)), (1, .int a2), (5, .float x5), (7, .int x7)]) hx hb (dg ddL_isQuietest 55 rfl) hl (k := 4) rfl (congrArg (HAdd.hAdd x4) (by decide)) (by decide) rfl (fun ls hl => ?_)
      refine lv_goto (tgt := 9) hx hb (dg ddL_isQuietest 56 rfl) (by decide) ?_
      refine W.widen (k := (k + 0)) (n := (ks + 0)) (by omega) (by omega) ?_
      exact hrec9 t0 x3 (x4 + 1) x_now x_nxt x_cnt x_rng (k + 0) (ks + 0) (by omega) (by omega) _ _ hP hD hS _ (lv_sub hl [3, 4, 2, 1, 0] rfl) hf
    · have hf := it_f h1 hf
      refine lv_fload hx hb (dg ddL_isQuietest 51 rfl) (lv_at hl 5 rfl) ?_
      refine lv_goto (tgt := 106) hx hb (dg ddL_isQuietest 52 rfl) (by decide) ?_
      refine lv_fstore_n (lv' := [(3, .float x5), (2, .int t0), (0, .ref (q 0 0)), (1, .int a2), (4, .int x4), (5, .float x5), (7, .int x7)]) hx hb (dg ddL_isQuietest 54 rfl) rfl hl (by decide) rfl (fun ls hl => ?_)
      refine lv_iinc (v := x4 + 1) (lv' := [(4, .int (x4 + 1)), (3, .float x5), (2, .int t0), (0, .ref (q 0 0)), (1, .int a2), (5, .float x5), (7, .int x7)]) hx hb (dg ddL_isQuietest 55 rfl) hl (k := 4) rfl (congrArg (HAdd.hAdd x4) (by decide)) (by decide) rfl (fun ls hl => ?_)
      refine lv_goto (tgt := 9) hx hb (dg ddL_isQuietest 56 rfl) (by decide) ?_
      refine W.widen (k := (k + 0)) (n := (ks + 0)) (by omega) (by omega) ?_
      exact hrec9 t0 x5 (x4 + 1) x_now x_nxt x_cnt x_rng (k + 0) (ks + 0) (by omega) (by omega) _ _ hP hD hS _ (lv_sub hl [3, 4, 2, 1, 0] rfl) hf
  have K81 : ∀ (N9 : Nat) (rec9 : Int32 → UInt32 → Int32 → SV → Int32 → Int32 → (Nat → SV) → Option (Int32 × SV × Int32 × Int32 × (Nat → SV))) (hrec9 : ∀ (x2 : Int32) (x3 : UInt32) (x4 : Int32) (x_now : SV) (x_nxt : Int32) (x_cnt : Int32) (x_rng : Nat → SV) (k ks : Nat) (hk : k + N9 ≤ 56) (hks : ks + 8 * N9 ≤ 448) (H : Heap) (locs : List Loc) (hP : va_P D vwCl (wX4 q cy x_isv x_te x_re x_de x_now x_spa x_sna x_len x_sig x_nxt x_cnt x_rng) H) (hD : va_D A (wX4 q cy x_isv x_te x_re x_de x_now x_spa x_sna x_len x_sig x_nxt x_cnt x_rng)) (hS : va_S A s.heap H locs) (ls : Array Slot) (hl : lv_has ls 8 [(0, .ref (q 0 0)), (1, .int a2), (2, .int x2), (3, .float x3), (4, .int x4)]) (hf : rec9 x2 x3 x4 x_now x_nxt x_cnt x_rng = some res), W p l e ⟨10, 56, 448, 191⟩ s m args below meth c H locs k ks (MQ below (qI D (wX4 q cy x_isv x_te x_re x_de res.2.1 x_spa x_sna x_len x_sig res.2.2.1 res.2.2.2.1 res.2.2.2.2) res.1 A) args s 56 448 A) (F0 m 9 ls [])), ∀ (x2 : Int32) (x3 : UInt32) (x4 : Int32) (x5 : UInt32) (t0 : Int32) (x_now : SV) (x_nxt : Int32) (x_cnt : Int32) (x_rng : Nat → SV) (k ks : Nat) (hk : k + (0 + N9) ≤ 56) (hks : ks + 8 * (0 + N9) ≤ 448) (H : Heap) (locs : List Loc) (hP : va_P D vwCl (wX4 q cy x_isv x_te x_re x_de x_now x_spa x_sna x_len x_sig x_nxt x_cnt x_rng) H) (hD : va_D A (wX4 q cy x_isv x_te x_re x_de x_now x_spa x_sna x_len x_sig x_nxt x_cnt x_rng)) (hS : va_S A s.heap H locs) (ls : Array Slot) (hl : lv_has ls 8 [(0, .ref (q 0 0)), (1, .int a2), (2, .int x2), (3, .float x3), (4, .int x4), (5, .float x5)]) (hf : f_L_isQuietest_c81 rec9 a2 x2 x3 x4 x5 t0 x_now x_nxt x_cnt x_rng = some res), W p l e ⟨10, 56, 448, 191⟩ s m args below meth c H locs k ks (MQ below (qI D (wX4 q cy x_isv x_te x_re x_de res.2.1 x_spa x_sna x_len x_sig res.2.2.1 res.2.2.2.1 res.2.2.2.2) res.1 A) args s 56 448 A) (F0 m 81 ls [.int t0]) := by
    intro N9 rec9 hrec9 x2 x3 x4 x5 t0 x_now x_nxt x_cnt x_rng k ks hk hks H locs hP hD hS ls hl hf
    refine lv_istore (lv' := [(7, .int t0), (0, .ref (q 0 0)), (1, .int a2), (2, .int x2), (3, .float x3), (4, .int x4), (5, .float x5)]) hx hb (dg ddL_isQuietest 42 rfl) hl (by decide) rfl (fun ls hl => ?_)
    refine lv_iload hx hb (dg ddL_isQuietest 43 rfl) (lv_at hl 0 rfl) ?_
    refine lv_if_eq (tgt := 93) hx hb (dg ddL_isQuietest 44 rfl) (by decide) (fun h1 => ?_) (fun h1 => ?_)
    · have hf := it_t h1 hf
      refine lv_iload_n hx hb (dg ddL_isQuietest 47 rfl) rfl (lv_at hl 3 rfl) ?_
      refine W.widen (k := (k + 0)) (n := (ks + 0)) (by omega) (by omega) ?_
      exact K94 N9 rec9 hrec9  x3 x4 x5 t0 x2 x_now x_nxt x_cnt x_rng (k + 0) (ks + 0) (by omega) (by omega) _ _ hP hD hS _ (lv_sub hl [1, 2, 4, 5, 6, 0] rfl) hf
    · have hf := it_f h1 hf
      refine lv_iload hx hb (dg ddL_isQuietest 45 rfl) (lv_at hl 5 rfl) ?_
      refine lv_goto (tgt := 94) hx hb (dg ddL_isQuietest 46 rfl) (by decide) ?_
      refine W.widen (k := (k + 0)) (n := (ks + 0)) (by omega) (by omega) ?_
      exact K94 N9 rec9 hrec9  x3 x4 x5 t0 x4 x_now x_nxt x_cnt x_rng (k + 0) (ks + 0) (by omega) (by omega) _ _ hP hD hS _ (lv_sub hl [1, 2, 4, 5, 6, 0] rfl) hf
  have K76 : ∀ (N9 : Nat) (rec9 : Int32 → UInt32 → Int32 → SV → Int32 → Int32 → (Nat → SV) → Option (Int32 × SV × Int32 × Int32 × (Nat → SV))) (hrec9 : ∀ (x2 : Int32) (x3 : UInt32) (x4 : Int32) (x_now : SV) (x_nxt : Int32) (x_cnt : Int32) (x_rng : Nat → SV) (k ks : Nat) (hk : k + N9 ≤ 56) (hks : ks + 8 * N9 ≤ 448) (H : Heap) (locs : List Loc) (hP : va_P D vwCl (wX4 q cy x_isv x_te x_re x_de x_now x_spa x_sna x_len x_sig x_nxt x_cnt x_rng) H) (hD : va_D A (wX4 q cy x_isv x_te x_re x_de x_now x_spa x_sna x_len x_sig x_nxt x_cnt x_rng)) (hS : va_S A s.heap H locs) (ls : Array Slot) (hl : lv_has ls 8 [(0, .ref (q 0 0)), (1, .int a2), (2, .int x2), (3, .float x3), (4, .int x4)]) (hf : rec9 x2 x3 x4 x_now x_nxt x_cnt x_rng = some res), W p l e ⟨10, 56, 448, 191⟩ s m args below meth c H locs k ks (MQ below (qI D (wX4 q cy x_isv x_te x_re x_de res.2.1 x_spa x_sna x_len x_sig res.2.2.1 res.2.2.2.1 res.2.2.2.2) res.1 A) args s 56 448 A) (F0 m 9 ls [])), ∀ (x2 : Int32) (x3 : UInt32) (x4 : Int32) (x5 : UInt32) (x_now : SV) (x_nxt : Int32) (x_cnt : Int32) (x_rng : Nat → SV) (k ks : Nat) (hk : k + (0 + N9) ≤ 56) (hks : ks + 8 * (0 + N9) ≤ 448) (H : Heap) (locs : List Loc) (hP : va_P D vwCl (wX4 q cy x_isv x_te x_re x_de x_now x_spa x_sna x_len x_sig x_nxt x_cnt x_rng) H) (hD : va_D A (wX4 q cy x_isv x_te x_re x_de x_now x_spa x_sna x_len x_sig x_nxt x_cnt x_rng)) (hS : va_S A s.heap H locs) (ls : Array Slot) (hl : lv_has ls 8 [(0, .ref (q 0 0)), (1, .int a2), (2, .int x2), (3, .float x3), (4, .int x4), (5, .float x5)]) (hf : f_L_isQuietest_c76 rec9 a2 x2 x3 x4 x5 x_now x_nxt x_cnt x_rng = some res), W p l e ⟨10, 56, 448, 191⟩ s m args below meth c H locs k ks (MQ below (qI D (wX4 q cy x_isv x_te x_re x_de res.2.1 x_spa x_sna x_len x_sig res.2.2.1 res.2.2.2.1 res.2.2.2.2) res.1 A) args s 56 448 A) (F0 m 76 ls []) := by
    intro N9 rec9 hrec9 x2 x3 x4 x5 x_now x_nxt x_cnt x_rng k ks hk hks H locs hP hD hS ls hl hf
    refine lv_iconst (v := 1) hx hb (dg ddL_isQuietest 39 rfl) (by decide) ?_
    refine lv_goto (tgt := 81) hx hb (dg ddL_isQuietest 40 rfl) (by decide) ?_
    refine W.widen (k := (k + 0)) (n := (ks + 0)) (by omega) (by omega) ?_
    exact K81 N9 rec9 hrec9  x2 x3 x4 x5 1 x_now x_nxt x_cnt x_rng (k + 0) (ks + 0) (by omega) (by omega) _ _ hP hD hS _ (lv_sub hl [0, 1, 2, 3, 4, 5] rfl) hf
  have K80 : ∀ (N9 : Nat) (rec9 : Int32 → UInt32 → Int32 → SV → Int32 → Int32 → (Nat → SV) → Option (Int32 × SV × Int32 × Int32 × (Nat → SV))) (hrec9 : ∀ (x2 : Int32) (x3 : UInt32) (x4 : Int32) (x_now : SV) (x_nxt : Int32) (x_cnt : Int32) (x_rng : Nat → SV) (k ks : Nat) (hk : k + N9 ≤ 56) (hks : ks + 8 * N9 ≤ 448) (H : Heap) (locs : List Loc) (hP : va_P D vwCl (wX4 q cy x_isv x_te x_re x_de x_now x_spa x_sna x_len x_sig x_nxt x_cnt x_rng) H) (hD : va_D A (wX4 q cy x_isv x_te x_re x_de x_now x_spa x_sna x_len x_sig x_nxt x_cnt x_rng)) (hS : va_S A s.heap H locs) (ls : Array Slot) (hl : lv_has ls 8 [(0, .ref (q 0 0)), (1, .int a2), (2, .int x2), (3, .float x3), (4, .int x4)]) (hf : rec9 x2 x3 x4 x_now x_nxt x_cnt x_rng = some res), W p l e ⟨10, 56, 448, 191⟩ s m args below meth c H locs k ks (MQ below (qI D (wX4 q cy x_isv x_te x_re x_de res.2.1 x_spa x_sna x_len x_sig res.2.2.1 res.2.2.2.1 res.2.2.2.2) res.1 A) args s 56 448 A) (F0 m 9 ls [])), ∀ (x2 : Int32) (x3 : UInt32) (x4 : Int32) (x5 : UInt32) (x_now : SV) (x_nxt : Int32) (x_cnt : Int32) (x_rng : Nat → SV) (k ks : Nat) (hk : k + (0 + N9) ≤ 56) (hks : ks + 8 * (0 + N9) ≤ 448) (H : Heap) (locs : List Loc) (hP : va_P D vwCl (wX4 q cy x_isv x_te x_re x_de x_now x_spa x_sna x_len x_sig x_nxt x_cnt x_rng) H) (hD : va_D A (wX4 q cy x_isv x_te x_re x_de x_now x_spa x_sna x_len x_sig x_nxt x_cnt x_rng)) (hS : va_S A s.heap H locs) (ls : Array Slot) (hl : lv_has ls 8 [(0, .ref (q 0 0)), (1, .int a2), (2, .int x2), (3, .float x3), (4, .int x4), (5, .float x5)]) (hf : f_L_isQuietest_c80 rec9 a2 x2 x3 x4 x5 x_now x_nxt x_cnt x_rng = some res), W p l e ⟨10, 56, 448, 191⟩ s m args below meth c H locs k ks (MQ below (qI D (wX4 q cy x_isv x_te x_re x_de res.2.1 x_spa x_sna x_len x_sig res.2.2.1 res.2.2.2.1 res.2.2.2.2) res.1 A) args s 56 448 A) (F0 m 80 ls []) := by
    intro N9 rec9 hrec9 x2 x3 x4 x5 x_now x_nxt x_cnt x_rng k ks hk hks H locs hP hD hS ls hl hf
    refine lv_iconst (v := 0) hx hb (dg ddL_isQuietest 41 rfl) (by decide) ?_
    refine W.widen (k := (k + 0)) (n := (ks + 0)) (by omega) (by omega) ?_
    exact K81 N9 rec9 hrec9  x2 x3 x4 x5 0 x_now x_nxt x_cnt x_rng (k + 0) (ks + 0) (by omega) (by omega) _ _ hP hD hS _ (lv_sub hl [0, 1, 2, 3, 4, 5] rfl) hf
  have K55 : ∀ (N9 : Nat) (rec9 : Int32 → UInt32 → Int32 → SV → Int32 → Int32 → (Nat → SV) → Option (Int32 × SV × Int32 × Int32 × (Nat → SV))) (hrec9 : ∀ (x2 : Int32) (x3 : UInt32) (x4 : Int32) (x_now : SV) (x_nxt : Int32) (x_cnt : Int32) (x_rng : Nat → SV) (k ks : Nat) (hk : k + N9 ≤ 56) (hks : ks + 8 * N9 ≤ 448) (H : Heap) (locs : List Loc) (hP : va_P D vwCl (wX4 q cy x_isv x_te x_re x_de x_now x_spa x_sna x_len x_sig x_nxt x_cnt x_rng) H) (hD : va_D A (wX4 q cy x_isv x_te x_re x_de x_now x_spa x_sna x_len x_sig x_nxt x_cnt x_rng)) (hS : va_S A s.heap H locs) (ls : Array Slot) (hl : lv_has ls 8 [(0, .ref (q 0 0)), (1, .int a2), (2, .int x2), (3, .float x3), (4, .int x4)]) (hf : rec9 x2 x3 x4 x_now x_nxt x_cnt x_rng = some res), W p l e ⟨10, 56, 448, 191⟩ s m args below meth c H locs k ks (MQ below (qI D (wX4 q cy x_isv x_te x_re x_de res.2.1 x_spa x_sna x_len x_sig res.2.2.1 res.2.2.2.1 res.2.2.2.2) res.1 A) args s 56 448 A) (F0 m 9 ls [])), ∀ (x2 : Int32) (x3 : UInt32) (x4 : Int32) (x5 : UInt32) (t0 : Int32) (x_now : SV) (x_nxt : Int32) (x_cnt : Int32) (x_rng : Nat → SV) (k ks : Nat) (hk : k + (0 + N9) ≤ 56) (hks : ks + 8 * (0 + N9) ≤ 448) (H : Heap) (locs : List Loc) (hP : va_P D vwCl (wX4 q cy x_isv x_te x_re x_de x_now x_spa x_sna x_len x_sig x_nxt x_cnt x_rng) H) (hD : va_D A (wX4 q cy x_isv x_te x_re x_de x_now x_spa x_sna x_len x_sig x_nxt x_cnt x_rng)) (hS : va_S A s.heap H locs) (ls : Array Slot) (hl : lv_has ls 8 [(0, .ref (q 0 0)), (1, .int a2), (2, .int x2), (3, .float x3), (4, .int x4), (5, .float x5)]) (hf : f_L_isQuietest_c55 rec9 a2 x2 x3 x4 x5 t0 x_now x_nxt x_cnt x_rng = some res), W p l e ⟨10, 56, 448, 191⟩ s m args below meth c H locs k ks (MQ below (qI D (wX4 q cy x_isv x_te x_re x_de res.2.1 x_spa x_sna x_len x_sig res.2.2.1 res.2.2.2.1 res.2.2.2.2) res.1 A) args s 56 448 A) (F0 m 55 ls [.int t0]) := by
    intro N9 rec9 hrec9 x2 x3 x4 x5 t0 x_now x_nxt x_cnt x_rng k ks hk hks H locs hP hD hS ls hl hf
    refine lv_istore (lv' := [(6, .int t0), (0, .ref (q 0 0)), (1, .int a2), (2, .int x2), (3, .float x3), (4, .int x4), (5, .float x5)]) hx hb (dg ddL_isQuietest 29 rfl) hl (by decide) rfl (fun ls hl => ?_)
    refine lv_iload hx hb (dg ddL_isQuietest 30 rfl) (lv_at hl 0 rfl) ?_
    refine lv_if_eq (tgt := 80) hx hb (dg ddL_isQuietest 31 rfl) (by decide) (fun h1 => ?_) (fun h1 => ?_)
    · have hf := it_t h1 hf
      refine W.widen (k := (k + 0)) (n := (ks + 0)) (by omega) (by omega) ?_
      exact K80 N9 rec9 hrec9  x2 x3 x4 x5 x_now x_nxt x_cnt x_rng (k + 0) (ks + 0) (by omega) (by omega) _ _ hP hD hS _ (lv_sub hl [1, 2, 3, 4, 5, 6] rfl) hf
    · have hf := it_f h1 hf
      refine lv_iload_n hx hb (dg ddL_isQuietest 32 rfl) rfl (lv_at hl 3 rfl) ?_
      refine lv_sipush (v := (-1000)) hx hb (dg ddL_isQuietest 33 rfl) (by decide) ?_
      refine lv_icmp_eq (tgt := 76) hx hb (dg ddL_isQuietest 34 rfl) (by decide) (fun h2 => ?_) (fun h2 => ?_)
      · have hf := it_t h2 hf
        refine W.widen (k := (k + 0)) (n := (ks + 0)) (by omega) (by omega) ?_
        exact K76 N9 rec9 hrec9  x2 x3 x4 x5 x_now x_nxt x_cnt x_rng (k + 0) (ks + 0) (by omega) (by omega) _ _ hP hD hS _ (lv_sub hl [1, 2, 3, 4, 5, 6] rfl) hf
      · have hf := it_f h2 hf
        refine lv_fload hx hb (dg ddL_isQuietest 35 rfl) (lv_at hl 6 rfl) ?_
        refine lv_fload_n hx hb (dg ddL_isQuietest 36 rfl) rfl (lv_at hl 4 rfl) ?_
        refine lv_fcmp hx hb (dg ddL_isQuietest 37 rfl) ?_
        refine lv_if_ge (tgt := 80) hx hb (dg ddL_isQuietest 38 rfl) (by decide) (fun h3 => ?_) (fun h3 => ?_)
        · have hf := it_t h3 hf
          refine W.widen (k := (k + 0)) (n := (ks + 0)) (by omega) (by omega) ?_
          exact K80 N9 rec9 hrec9  x2 x3 x4 x5 x_now x_nxt x_cnt x_rng (k + 0) (ks + 0) (by omega) (by omega) _ _ hP hD hS _ (lv_sub hl [1, 2, 3, 4, 5, 6] rfl) hf
        · have hf := it_f h3 hf
          refine W.widen (k := (k + 0)) (n := (ks + 0)) (by omega) (by omega) ?_
          exact K76 N9 rec9 hrec9  x2 x3 x4 x5 x_now x_nxt x_cnt x_rng (k + 0) (ks + 0) (by omega) (by omega) _ _ hP hD hS _ (lv_sub hl [1, 2, 3, 4, 5, 6] rfl) hf
  have K54 : ∀ (N9 : Nat) (rec9 : Int32 → UInt32 → Int32 → SV → Int32 → Int32 → (Nat → SV) → Option (Int32 × SV × Int32 × Int32 × (Nat → SV))) (hrec9 : ∀ (x2 : Int32) (x3 : UInt32) (x4 : Int32) (x_now : SV) (x_nxt : Int32) (x_cnt : Int32) (x_rng : Nat → SV) (k ks : Nat) (hk : k + N9 ≤ 56) (hks : ks + 8 * N9 ≤ 448) (H : Heap) (locs : List Loc) (hP : va_P D vwCl (wX4 q cy x_isv x_te x_re x_de x_now x_spa x_sna x_len x_sig x_nxt x_cnt x_rng) H) (hD : va_D A (wX4 q cy x_isv x_te x_re x_de x_now x_spa x_sna x_len x_sig x_nxt x_cnt x_rng)) (hS : va_S A s.heap H locs) (ls : Array Slot) (hl : lv_has ls 8 [(0, .ref (q 0 0)), (1, .int a2), (2, .int x2), (3, .float x3), (4, .int x4)]) (hf : rec9 x2 x3 x4 x_now x_nxt x_cnt x_rng = some res), W p l e ⟨10, 56, 448, 191⟩ s m args below meth c H locs k ks (MQ below (qI D (wX4 q cy x_isv x_te x_re x_de res.2.1 x_spa x_sna x_len x_sig res.2.2.1 res.2.2.2.1 res.2.2.2.2) res.1 A) args s 56 448 A) (F0 m 9 ls [])), ∀ (x2 : Int32) (x3 : UInt32) (x4 : Int32) (x5 : UInt32) (x_now : SV) (x_nxt : Int32) (x_cnt : Int32) (x_rng : Nat → SV) (k ks : Nat) (hk : k + (0 + N9) ≤ 56) (hks : ks + 8 * (0 + N9) ≤ 448) (H : Heap) (locs : List Loc) (hP : va_P D vwCl (wX4 q cy x_isv x_te x_re x_de x_now x_spa x_sna x_len x_sig x_nxt x_cnt x_rng) H) (hD : va_D A (wX4 q cy x_isv x_te x_re x_de x_now x_spa x_sna x_len x_sig x_nxt x_cnt x_rng)) (hS : va_S A s.heap H locs) (ls : Array Slot) (hl : lv_has ls 8 [(0, .ref (q 0 0)), (1, .int a2), (2, .int x2), (3, .float x3), (4, .int x4), (5, .float x5)]) (hf : f_L_isQuietest_c54 rec9 a2 x2 x3 x4 x5 x_now x_nxt x_cnt x_rng = some res), W p l e ⟨10, 56, 448, 191⟩ s m args below meth c H locs k ks (MQ below (qI D (wX4 q cy x_isv x_te x_re x_de res.2.1 x_spa x_sna x_len x_sig res.2.2.1 res.2.2.2.1 res.2.2.2.2) res.1 A) args s 56 448 A) (F0 m 54 ls []) := by
    intro N9 rec9 hrec9 x2 x3 x4 x5 x_now x_nxt x_cnt x_rng k ks hk hks H locs hP hD hS ls hl hf
    refine lv_iconst (v := 0) hx hb (dg ddL_isQuietest 28 rfl) (by decide) ?_
    refine W.widen (k := (k + 0)) (n := (ks + 0)) (by omega) (by omega) ?_
    exact K55 N9 rec9 hrec9  x2 x3 x4 x5 0 x_now x_nxt x_cnt x_rng (k + 0) (ks + 0) (by omega) (by omega) _ _ hP hD hS _ (lv_sub hl [0, 1, 2, 3, 4, 5] rfl) hf
  have K9 : ∀ (n : Nat), ∀ (x2 : Int32) (x3 : UInt32) (x4 : Int32) (x_now : SV) (x_nxt : Int32) (x_cnt : Int32) (x_rng : Nat → SV) (k ks : Nat) (hk : k + (n * 6 + 2) ≤ 56) (hks : ks + 8 * (n * 6 + 2) ≤ 448) (H : Heap) (locs : List Loc) (hP : va_P D vwCl (wX4 q cy x_isv x_te x_re x_de x_now x_spa x_sna x_len x_sig x_nxt x_cnt x_rng) H) (hD : va_D A (wX4 q cy x_isv x_te x_re x_de x_now x_spa x_sna x_len x_sig x_nxt x_cnt x_rng)) (hS : va_S A s.heap H locs) (ls : Array Slot) (hl : lv_has ls 8 [(0, .ref (q 0 0)), (1, .int a2), (2, .int x2), (3, .float x3), (4, .int x4)]) (hf : f_L_isQuietest_c9 a2 n x2 x3 x4 x_now x_nxt x_cnt x_rng = some res), W p l e ⟨10, 56, 448, 191⟩ s m args below meth c H locs k ks (MQ below (qI D (wX4 q cy x_isv x_te x_re x_de res.2.1 x_spa x_sna x_len x_sig res.2.2.1 res.2.2.2.1 res.2.2.2.2) res.1 A) args s 56 448 A) (F0 m 9 ls []) := by
    intro n
    induction n with
    | zero => intro x2 x3 x4 x_now x_nxt x_cnt x_rng k ks hk hks H locs hP hD hS ls hl hf; cases (show none = some res from hf)
    | succ n ih =>
    intro x2 x3 x4 x_now x_nxt x_cnt x_rng k ks hk hks H locs hP hD hS ls hl hf
    refine lv_iload hx hb (dg ddL_isQuietest 6 rfl) (lv_at hl 4 rfl) ?_
    refine lv_bipush (v := 8) hx hb (dg ddL_isQuietest 7 rfl) (by decide) ?_
    refine lv_icmp_ge (tgt := 113) hx hb (dg ddL_isQuietest 8 rfl) (by decide) (fun h1 => ?_) (fun h1 => ?_)
    · have hf := it_t h1 hf
      refine lv_aload_n hx hb (dg ddL_isQuietest 57 rfl) rfl (lv_at hl 0 rfl) ?_
      refine lv_iload_n hx hb (dg ddL_isQuietest 58 rfl) rfl (lv_at hl 1 rfl) ?_
      obtain ⟨r3, e2, hf⟩ := ob_some hf
      refine crl_i CX hml (As := [.ref (q 0 0), .int a2]) (rest := []) (ws := (wX4 q cy x_isv x_te x_re x_de x_now x_spa x_sna x_len x_sig x_nxt x_cnt x_rng)) (wsn := (wX4 q cy x_isv x_te x_re x_de x_now x_spa x_sna x_len x_sig x_nxt x_cnt x_rng)) (wr := []) (c_L_quietest l D cy q x_isv x_te x_re x_de x_now x_spa x_sna x_len x_sig x_nxt x_cnt x_rng a2 _ hst e2) lk_RL_222 rfl rfl hRML_quietest hP hD hS hA hK hN hX hC (List.Perm.of_eq (List.append_nil _).symm) (List.Perm.of_eq (List.append_nil _)) rfl hl.1 rfl (Nat.le_of_ble_eq_true rfl) ⟨by show _ ≤ 56; omega, by show _ ≤ 448; omega⟩ (dg ddL_isQuietest 59 rfl) (fun H locs hP hD hS => ?_)
      refine lv_iload_n hx hb (dg ddL_isQuietest 60 rfl) rfl (lv_at hl 2 rfl) ?_
      refine lv_icmp_ne (tgt := 126) hx hb (dg ddL_isQuietest 61 rfl) (by decide) (fun h4 => ?_) (fun h4 => ?_)
      · have hf := it_f h4 hf
        refine lv_iconst (v := 0) hx hb (dg ddL_isQuietest 64 rfl) (by decide) ?_
        cases hf
        refine W.widen (k := 56) (n := 448) (by omega) (by omega) ?_
        exact e_wz CX hr hlk (by decide) rfl hP hD hS (dg ddL_isQuietest 65 rfl)
      · have hf := it_t h4 hf
        refine lv_iconst (v := 1) hx hb (dg ddL_isQuietest 62 rfl) (by decide) ?_
        refine lv_goto (tgt := 127) hx hb (dg ddL_isQuietest 63 rfl) (by decide) ?_
        cases hf
        refine W.widen (k := 56) (n := 448) (by omega) (by omega) ?_
        exact e_wz CX hr hlk (by decide) rfl hP hD hS (dg ddL_isQuietest 65 rfl)
    · have hf := it_f h1 hf
      refine lv_aload_n hx hb (dg ddL_isQuietest 9 rfl) rfl (lv_at hl 0 rfl) ?_
      refine lv_iload hx hb (dg ddL_isQuietest 10 rfl) (lv_at hl 4 rfl) ?_
      refine lv_iload_n hx hb (dg ddL_isQuietest 11 rfl) rfl (lv_at hl 1 rfl) ?_
      obtain ⟨r6, e5, hf⟩ := ob_some hf
      rcases r6 with t9 | x_r6
      · cases os_l hf
      have hf := os_r hf
      refine crv_ri CX hml (As := [.int x4, .int a2]) (rest := []) (ws := (wX4 q cy x_isv x_te x_re x_de x_now x_spa x_sna x_len x_sig x_nxt x_cnt x_rng)) (wsn := (wX4 q cy x_isv x_te x_re x_de x_now x_spa x_sna x_len x_sig x_nxt x_cnt x_rng)) (wr := []) (c_X4_noiseWith l D cy q x_isv x_te x_re x_de x_now x_spa x_sna x_len x_sig x_nxt x_cnt x_rng x4 a2 _ hst e5) lk_RL_202 rfl rfl hRMX4_noiseWith hP hD hS hA hK hN hX (List.Perm.of_eq (List.append_nil _).symm) (List.Perm.of_eq (List.append_nil _)) 0 rfl rfl rfl hl.1 rfl (Nat.le_of_ble_eq_true rfl) ⟨by show _ ≤ 56; omega, by show _ ≤ 448; omega⟩ (dg ddL_isQuietest 12 rfl) (fun H locs hP hD hS => ?_)
      obtain ⟨h7, hf⟩ := og_some hf
      refine vn_i2f hx hb (hml.trans hl.1.symm) CX.2.2.2 (CX.2.2.1 (.methodLink RL 189 nmI2f) (lw_at 879 (by decide +kernel))) (CX.2.2.1 _ (mNat (by simp [nmF2i, nmI2f, nmD2l]))) (CX.2.2.1 _ (mNat (by simp [nmF2i, nmI2f, nmD2l]))) (CX.2.2.1 _ (mNat (by simp [nmF2i, nmI2f, nmD2l]))) (okI_in h7) (Nat.le_of_ble_eq_true rfl) (Nat.le_of_ble_eq_true rfl) (dg ddL_isQuietest 13 rfl) ?_
      refine lv_fstore (lv' := [(5, .float x_r6.toUInt32), (0, .ref (q 0 0)), (1, .int a2), (2, .int x2), (3, .float x3), (4, .int x4)]) hx hb (dg ddL_isQuietest 14 rfl) hl (by decide) rfl (fun ls hl => ?_)
      refine lv_aload_n hx hb (dg ddL_isQuietest 15 rfl) rfl (lv_at hl 1 rfl) ?_
      refine lv_iload hx hb (dg ddL_isQuietest 16 rfl) (lv_at hl 5 rfl) ?_
      refine lv_iconst (v := 0) hx hb (dg ddL_isQuietest 17 rfl) (by decide) ?_
      obtain ⟨r9, e8, hf⟩ := ob_some hf
      rcases r9 with t9 | x_r9
      · cases os_l hf
      have hf := os_r hf
      refine crv_ri CX hml (As := [.int x4, .int 0]) (rest := []) (ws := (wX4 q cy x_isv x_te x_re x_de x_now x_spa x_sna x_len x_sig x_nxt x_cnt x_rng)) (wsn := (wX4 q cy x_isv x_te x_re x_de x_now x_spa x_sna x_len x_sig x_nxt x_cnt x_rng)) (wr := []) (c_X4_pitchOf l D cy q x_isv x_te x_re x_de x_now x_spa x_sna x_len x_sig x_nxt x_cnt x_rng x4 0 _ hst e8) lk_RL_175 rfl rfl hRMX4_pitchOf hP hD hS hA hK hN hX (List.Perm.of_eq (List.append_nil _).symm) (List.Perm.of_eq (List.append_nil _)) 0 rfl rfl rfl hl.1 rfl (Nat.le_of_ble_eq_true rfl) ⟨by show _ ≤ 56; omega, by show _ ≤ 448; omega⟩ (dg ddL_isQuietest 18 rfl) (fun H locs hP hD hS => ?_)
      refine lv_if_ge (tgt := 54) hx hb (dg ddL_isQuietest 19 rfl) (by decide) (fun h10 => ?_) (fun h10 => ?_)
      · have hf := it_t h10 hf
        refine W.widen (k := (k + 4)) (n := (ks + 32)) (by omega) (by omega) ?_
        exact K54 (n * 6 + 2) (f_L_isQuietest_c9 a2 n) ih  x2 x3 x4 x_r6.toUInt32 x_now x_nxt x_cnt x_rng (k + 4) (ks + 32) (by omega) (by omega) _ _ hP hD hS _ (lv_sub hl [1, 2, 3, 4, 5, 0] rfl) hf
      · have hf := it_f h10 hf
        refine lv_fload hx hb (dg ddL_isQuietest 20 rfl) (lv_at hl 0 rfl) ?_
        refine lv_aload_n hx hb (dg ddL_isQuietest 21 rfl) rfl (lv_at hl 1 rfl) ?_
        refine lv_iload hx hb (dg ddL_isQuietest 22 rfl) (lv_at hl 5 rfl) ?_
        obtain ⟨r12, e11, hf⟩ := ob_some hf
        refine crc_f CX hml (As := [.ref (q 0 0), .int x4]) (rest := [.float x_r6.toUInt32]) (ws := (wX4 q cy x_isv x_te x_re x_de x_now x_spa x_sna x_len x_sig x_nxt x_cnt x_rng)) (wsn := (wX4 q cy x_isv x_te x_re x_de r12.2.1 x_spa x_sna x_len x_sig r12.2.2.1 r12.2.2.2.1 r12.2.2.2.2)) (wr := []) (c_L_limitOf l D cy q x_isv x_te x_re x_de x_now x_spa x_sna x_len x_sig x_nxt x_cnt x_rng x4 _ hst e11) lk_RL_219 rfl rfl hRML_limitOf hP hD hS hA hK hN hX hC (List.Perm.of_eq (List.append_nil _).symm) (List.Perm.of_eq (List.append_nil _)) rfl hl.1 rfl (Nat.le_of_ble_eq_true rfl) ⟨by show _ ≤ 56; omega, by show _ ≤ 448; omega⟩ (dg ddL_isQuietest 23 rfl) (fun H locs hP hD hS => ?_)
        refine lv_fcmp hx hb (dg ddL_isQuietest 24 rfl) ?_
        refine lv_if_gt (tgt := 54) hx hb (dg ddL_isQuietest 25 rfl) (by decide) (fun h13 => ?_) (fun h13 => ?_)
        · have hf := it_t h13 hf
          refine W.widen (k := (k + 6)) (n := (ks + 48)) (by omega) (by omega) ?_
          exact K54 (n * 6 + 2) (f_L_isQuietest_c9 a2 n) ih  x2 x3 x4 x_r6.toUInt32 r12.2.1 r12.2.2.1 r12.2.2.2.1 r12.2.2.2.2 (k + 6) (ks + 48) (by omega) (by omega) _ _ hP hD hS _ (lv_sub hl [1, 2, 3, 4, 5, 0] rfl) hf
        · have hf := it_f h13 hf
          refine lv_iconst (v := 1) hx hb (dg ddL_isQuietest 26 rfl) (by decide) ?_
          refine lv_goto (tgt := 55) hx hb (dg ddL_isQuietest 27 rfl) (by decide) ?_
          refine W.widen (k := (k + 6)) (n := (ks + 48)) (by omega) (by omega) ?_
          exact K55 (n * 6 + 2) (f_L_isQuietest_c9 a2 n) ih  x2 x3 x4 x_r6.toUInt32 1 r12.2.1 r12.2.2.1 r12.2.2.2.1 r12.2.2.2.2 (k + 6) (ks + 48) (by omega) (by omega) _ _ hP hD hS _ (lv_sub hl [1, 2, 3, 4, 5, 0] rfl) hf
  refine lv_sipush (v := (-1000)) hx hb (dg ddL_isQuietest 0 rfl) (by decide) ?_
  refine lv_istore_n (lv' := [(2, .int (-1000)), (0, .ref (q 0 0)), (1, .int a2)]) hx hb (dg ddL_isQuietest 1 rfl) rfl hl (by decide) rfl (fun ls hl => ?_)
  refine lv_fconst0 hx hb (dg ddL_isQuietest 2 rfl) ?_
  refine lv_fstore_n (lv' := [(3, .float FP.fconst0), (2, .int (-1000)), (0, .ref (q 0 0)), (1, .int a2)]) hx hb (dg ddL_isQuietest 3 rfl) rfl hl (by decide) rfl (fun ls hl => ?_)
  refine lv_iconst (v := 0) hx hb (dg ddL_isQuietest 4 rfl) (by decide) ?_
  refine lv_istore (lv' := [(4, .int 0), (3, .float FP.fconst0), (2, .int (-1000)), (0, .ref (q 0 0)), (1, .int a2)]) hx hb (dg ddL_isQuietest 5 rfl) hl (by decide) rfl (fun ls hl => ?_)
  refine W.widen (k := (0 + 0)) (n := (0 + 0)) (by omega) (by omega) ?_
  exact K9 9 (-1000) FP.fconst0 0 x_now x_nxt x_cnt x_rng (0 + 0) (0 + 0) (by omega) (by omega) _ _ hP hD hS _ (lv_sub hl [3, 4, 2, 1, 0] rfl) hf
def f_L_areBuskers_c343 (rec51 : Int32 → Int32 → Int32 → Int32 → Int32 → Int32 → Int32 → SV → Option (Int32 × SV)) (x_now : SV) (x_len : Int32) (x_cnt : Int32) (x1 : Int32) (x2 : Int32) (x3 : Int32) (x4 : Int32) (x5 : Int32) (x7 : Int32) (x10 : UInt32) (t0 : Int32) (x_spa : SV) : Option (Int32 × SV) := if (Op.cmpValue (FP.fcmp x10 FP.fconst1) .l) < 0 then (if t0 = 0 then (rec51 x1 x2 x3 x4 x5 1 (x7 + 1) x_spa) else (rec51 x1 x2 x3 x4 x5 0 (x7 + 1) x_spa)) else (if t0 = 1 then (rec51 x1 x2 x3 x4 x5 1 (x7 + 1) x_spa) else (rec51 x1 x2 x3 x4 x5 0 (x7 + 1) x_spa))
def f_L_areBuskers_c296 (rec51 : Int32 → Int32 → Int32 → Int32 → Int32 → Int32 → Int32 → SV → Option (Int32 × SV)) (x_now : SV) (x_len : Int32) (x_cnt : Int32) (x1 : Int32) (x2 : Int32) (x3 : Int32) (x4 : Int32) (x5 : Int32) (x7 : Int32) (x10 : UInt32) (x_spa : SV) : Option (Int32 × SV) := ob (f_X4_buskerOf x_now x7 0) fun r2 => (os r2 (fun _ => none) fun x_r2 => (if x_r2 = 1 then (ob (f_L_snapsIn x_now x7) fun r8 => (if r8 = (-1000) then (if (Op.cmpValue (FP.fcmp x10 FP.fconst0) .l) = 0 then (rec51 x1 x2 x3 x4 x5 1 (x7 + 1) x_spa) else (rec51 x1 x2 x3 x4 x5 0 (x7 + 1) x_spa)) else (rec51 x1 x2 x3 x4 x5 0 (x7 + 1) x_spa))) else (ob (f_L_snapsIn x_now x7) fun r5 => (if r5 = 0 then (f_L_areBuskers_c343 rec51 x_now x_len x_cnt x1 x2 x3 x4 x5 x7 x10 1 x_spa) else (f_L_areBuskers_c343 rec51 x_now x_len x_cnt x1 x2 x3 x4 x5 x7 x10 0 x_spa)))))
def f_L_areBuskers_c256 (rec51 : Int32 → Int32 → Int32 → Int32 → Int32 → Int32 → Int32 → SV → Option (Int32 × SV)) (x_now : SV) (x_len : Int32) (x_cnt : Int32) (x1 : Int32) (x2 : Int32) (x3 : Int32) (x4 : Int32) (x5 : Int32) (x7 : Int32) (x10 : UInt32) (t0 : Int32) (x_spa : SV) : Option (Int32 × SV) := if t0 = 0 then (rec51 x1 x2 x3 x4 x5 0 (x7 + 1) x_spa) else (ob (f_X4_buskerOf x_now x7 4) fun r3 => (os r3 (fun _ => none) fun x_r3 => (if x_r3 < 0 then (f_L_areBuskers_c296 rec51 x_now x_len x_cnt x1 x2 x3 x4 x5 x7 x10 x_spa) else (ob (f_X4_buskerOf x_now x7 0) fun r6 => (os r6 (fun _ => none) fun x_r6 => (ob (f_X4_buskerOf x_now x7 4) fun r8 => (os r8 (fun _ => none) fun x_r8 => (ob (f_L_onRack x_now x_r6 x_r8) fun r10 => (if r10 = x7 then (f_L_areBuskers_c296 rec51 x_now x_len x_cnt x1 x2 x3 x4 x5 x7 x10 x_spa) else (rec51 x1 x2 x3 x4 x5 0 (x7 + 1) x_spa))))))))))
def f_L_areBuskers_c255 (rec51 : Int32 → Int32 → Int32 → Int32 → Int32 → Int32 → Int32 → SV → Option (Int32 × SV)) (x_now : SV) (x_len : Int32) (x_cnt : Int32) (x1 : Int32) (x2 : Int32) (x3 : Int32) (x4 : Int32) (x5 : Int32) (x7 : Int32) (x10 : UInt32) (x_spa : SV) : Option (Int32 × SV) := f_L_areBuskers_c256 rec51 x_now x_len x_cnt x1 x2 x3 x4 x5 x7 x10 0 x_spa
def f_L_areBuskers_c232 (rec51 : Int32 → Int32 → Int32 → Int32 → Int32 → Int32 → Int32 → SV → Option (Int32 × SV)) (x_now : SV) (x_len : Int32) (x_cnt : Int32) (x1 : Int32) (x2 : Int32) (x3 : Int32) (x4 : Int32) (x5 : Int32) (x7 : Int32) (x10 : UInt32) (x_spa : SV) : Option (Int32 × SV) := ob (f_X4_hatIn x_now x_spa x7 0) fun r2 => (os r2 (fun _ => none) fun x_r2 => (ob (f_X4_hat x_now x7) fun r4 => (os r4 (fun _ => none) fun x_r4 => (ob (f_Jxf58ca_floatToIntBits_5c35a x_r4) fun r6 => (if x_r2.1 = r6 then (f_L_areBuskers_c256 rec51 x_now x_len x_cnt x1 x2 x3 x4 x5 x7 x10 1 x_r2.2) else (f_L_areBuskers_c255 rec51 x_now x_len x_cnt x1 x2 x3 x4 x5 x7 x10 x_r2.2))))))
def f_L_areBuskers_c208 (rec51 : Int32 → Int32 → Int32 → Int32 → Int32 → Int32 → Int32 → SV → Option (Int32 × SV)) (x_now : SV) (x_len : Int32) (x_cnt : Int32) (x1 : Int32) (x2 : Int32) (x3 : Int32) (x4 : Int32) (x5 : Int32) (x7 : Int32) (x9 : Int32) (x10 : UInt32) (x_spa : SV) : Option (Int32 × SV) := if x9 < 0 then (f_L_areBuskers_c232 rec51 x_now x_len x_cnt x1 x2 x3 x4 x5 x7 x10 x_spa) else (ob (f_X4_pitchOf x_now x9 0) fun r3 => (os r3 (fun _ => none) fun x_r3 => (if x_r3 = x7 then (if 0 ≤ (Op.cmpValue (FP.fcmp x10 FP.fconst1) .g) then (f_L_areBuskers_c255 rec51 x_now x_len x_cnt x1 x2 x3 x4 x5 x7 x10 x_spa) else (f_L_areBuskers_c232 rec51 x_now x_len x_cnt x1 x2 x3 x4 x5 x7 x10 x_spa)) else (f_L_areBuskers_c255 rec51 x_now x_len x_cnt x1 x2 x3 x4 x5 x7 x10 x_spa))))
def f_L_areBuskers_c153 (rec51 : Int32 → Int32 → Int32 → Int32 → Int32 → Int32 → Int32 → SV → Option (Int32 × SV)) (x_now : SV) (x_len : Int32) (x_cnt : Int32) (x1 : Int32) (x2 : Int32) (x3 : Int32) (x5 : Int32) (x7 : Int32) (x8 : Int32) (x9 : Int32) (x10 : UInt32) (t0 : Int32) (t1 : Int32) (x_spa : SV) : Option (Int32 × SV) := ob (f_X4_buskerOf x_now x7 6) fun r2 => (os r2 (fun _ => none) fun x_r2 => (ob (f_X4_hat x_now x7) fun r4 => (os r4 (fun _ => none) fun x_r4 => (if (Op.cmpValue (FP.fcmp x_r4 FP.fconst0) .l) < 0 then (f_L_areBuskers_c255 rec51 x_now x_len x_cnt x1 x2 x3 (t1 + t0) (x5 + x_r2) x7 x10 x_spa) else (if (Op.cmpValue (FP.fcmp x10 FP.fconst0) .l) < 0 then (f_L_areBuskers_c255 rec51 x_now x_len x_cnt x1 x2 x3 (t1 + t0) (x5 + x_r2) x7 x10 x_spa) else (if x8 < 0 then (f_L_areBuskers_c208 rec51 x_now x_len x_cnt x1 x2 x3 (t1 + t0) (x5 + x_r2) x7 x9 x10 x_spa) else (if 0 ≤ x9 then (f_L_areBuskers_c255 rec51 x_now x_len x_cnt x1 x2 x3 (t1 + t0) (x5 + x_r2) x7 x10 x_spa) else (ob (f_L_waiting x_now x8) fun r10 => (if r10 = x7 then (f_L_areBuskers_c208 rec51 x_now x_len x_cnt x1 x2 x3 (t1 + t0) (x5 + x_r2) x7 x9 x10 x_spa) else (f_L_areBuskers_c255 rec51 x_now x_len x_cnt x1 x2 x3 (t1 + t0) (x5 + x_r2) x7 x10 x_spa))))))))))
def f_L_areBuskers_c134 (rec51 : Int32 → Int32 → Int32 → Int32 → Int32 → Int32 → Int32 → SV → Option (Int32 × SV)) (x_now : SV) (x_len : Int32) (x_cnt : Int32) (x1 : Int32) (x2 : Int32) (x4 : Int32) (x5 : Int32) (x7 : Int32) (x8 : Int32) (x9 : Int32) (x10 : UInt32) (t0 : Int32) (t1 : Int32) (x_spa : SV) : Option (Int32 × SV) := ob (f_X4_buskerOf x_now x7 4) fun r2 => (os r2 (fun _ => none) fun x_r2 => (if 0 ≤ x_r2 then (f_L_areBuskers_c153 rec51 x_now x_len x_cnt x1 x2 (t1 + t0) x5 x7 x8 x9 x10 1 x4 x_spa) else (f_L_areBuskers_c153 rec51 x_now x_len x_cnt x1 x2 (t1 + t0) x5 x7 x8 x9 x10 0 x4 x_spa)))
def f_L_areBuskers_c119 (rec51 : Int32 → Int32 → Int32 → Int32 → Int32 → Int32 → Int32 → SV → Option (Int32 × SV)) (x_now : SV) (x_len : Int32) (x_cnt : Int32) (x1 : Int32) (x3 : Int32) (x4 : Int32) (x5 : Int32) (x7 : Int32) (x8 : Int32) (x9 : Int32) (x10 : UInt32) (t0 : Int32) (t1 : Int32) (x_spa : SV) : Option (Int32 × SV) := if (Op.cmpValue (FP.fcmp x10 FP.fconst1) .l) < 0 then (f_L_areBuskers_c134 rec51 x_now x_len x_cnt x1 (t1 + t0) x4 x5 x7 x8 x9 x10 0 x3 x_spa) else (f_L_areBuskers_c134 rec51 x_now x_len x_cnt x1 (t1 + t0) x4 x5 x7 x8 x9 x10 1 x3 x_spa)
def f_L_areBuskers_c106 (rec51 : Int32 → Int32 → Int32 → Int32 → Int32 → Int32 → Int32 → SV → Option (Int32 × SV)) (x_now : SV) (x_len : Int32) (x_cnt : Int32) (x2 : Int32) (x3 : Int32) (x4 : Int32) (x5 : Int32) (x7 : Int32) (x8 : Int32) (x9 : Int32) (x10 : UInt32) (t0 : Int32) (t1 : Int32) (x_spa : SV) : Option (Int32 × SV) := if 0 ≤ x9 then (f_L_areBuskers_c119 rec51 x_now x_len x_cnt (t1 + t0) x3 x4 x5 x7 x8 x9 x10 1 x2 x_spa) else (f_L_areBuskers_c119 rec51 x_now x_len x_cnt (t1 + t0) x3 x4 x5 x7 x8 x9 x10 0 x2 x_spa)
def f_L_areBuskers_c459  (x_now : SV) (x_len : Int32) (x_cnt : Int32) (x1 : Int32) (x2 : Int32) (x3 : Int32) (x4 : Int32) (x5 : Int32) (x6 : Int32) (x_spa : SV) : Option (Int32 × SV) := if x6 = 0 then (some (0, x_spa)) else (ob (f_X4_account x_now x_len x_cnt 4) fun r3 => (os r3 (fun _ => none) fun x_r3 => (if x1 = x_r3 then (ob (f_X4_account x_now x_len x_cnt 5) fun r6 => (os r6 (fun _ => none) fun x_r6 => (if x2 = x_r6 then (ob (f_X4_account x_now x_len x_cnt 6) fun r9 => (os r9 (fun _ => none) fun x_r9 => (if x3 = x_r9 then (ob (f_X4_account x_now x_len x_cnt 10) fun r12 => (os r12 (fun _ => none) fun x_r12 => (if x4 = x_r12 then (ob (f_X4_account x_now x_len x_cnt 11) fun r15 => (os r15 (fun _ => none) fun x_r15 => (if x5 = x_r15 then (ob (f_X4_account x_now x_len x_cnt 3) fun r18 => (os r18 (fun _ => none) fun x_r18 => (ob (f_X4_account x_now x_len x_cnt 2) fun r20 => (os r20 (fun _ => none) fun x_r20 => (if x_r18 = ((x_r20 - x1) - x2) then (some (1, x_spa)) else (some (0, x_spa))))))) else (some (0, x_spa))))) else (some (0, x_spa))))) else (some (0, x_spa))))) else (some (0, x_spa))))) else (some (0, x_spa)))))
def f_L_areBuskers_c374  (x_now : SV) (x_len : Int32) (x_cnt : Int32) : Nat → Int32 → Int32 → Int32 → Int32 → Int32 → Int32 → Int32 → SV → Option (Int32 × SV)
  | 0, _, _, _, _, _, _, _, _ => none
  | n + 1, x1, x2, x3, x4, x5, x6, x7, x_spa => if x6 = 0 then (f_L_areBuskers_c459 x_now x_len x_cnt x1 x2 x3 x4 x5 x6 x_spa) else (ob (f_X4_account x_now x_len x_cnt 2) fun r3 => (os r3 (fun _ => none) fun x_r3 => (if x_r3 ≤ x7 then (f_L_areBuskers_c459 x_now x_len x_cnt x1 x2 x3 x4 x5 x6 x_spa) else (ob (f_L_ranked x_now (x7 - 1)) fun r6 => (ob (f_L_ranked x_now x7) fun r8 => (ob (f_X4_hat x_now r6) fun r10 => (os r10 (fun _ => none) fun x_r10 => (ob (f_X4_hat x_now r8) fun r12 => (os r12 (fun _ => none) fun x_r12 => (if 0 < (Op.cmpValue (FP.fcmp x_r10 x_r12) .l) then (f_L_areBuskers_c374 x_now x_len x_cnt n x1 x2 x3 x4 x5 1 (x7 + 1) x_spa) else (ob (f_X4_hat x_now r6) fun r15 => (os r15 (fun _ => none) fun x_r15 => (ob (f_X4_hat x_now r8) fun r17 => (os r17 (fun _ => none) fun x_r17 => (if (Op.cmpValue (FP.fcmp x_r15 x_r17) .l) = 0 then (if r8 ≤ r6 then (f_L_areBuskers_c374 x_now x_len x_cnt n x1 x2 x3 x4 x5 0 (x7 + 1) x_spa) else (f_L_areBuskers_c374 x_now x_len x_cnt n x1 x2 x3 x4 x5 1 (x7 + 1) x_spa)) else (f_L_areBuskers_c374 x_now x_len x_cnt n x1 x2 x3 x4 x5 0 (x7 + 1) x_spa))))))))))))))))
def f_L_areBuskers_c51  (x_now : SV) (x_len : Int32) (x_cnt : Int32) : Nat → Int32 → Int32 → Int32 → Int32 → Int32 → Int32 → Int32 → SV → Option (Int32 × SV)
  | 0, _, _, _, _, _, _, _, _ => none
  | n + 1, x1, x2, x3, x4, x5, x6, x7, x_spa => if x6 = 0 then (f_L_areBuskers_c374 x_now x_len x_cnt 9 x1 x2 x3 x4 x5 x6 1 x_spa) else (ob (f_X4_account x_now x_len x_cnt 2) fun r3 => (os r3 (fun _ => none) fun x_r3 => (if x_r3 ≤ x7 then (f_L_areBuskers_c374 x_now x_len x_cnt 9 x1 x2 x3 x4 x5 x6 1 x_spa) else (ob (f_X4_buskerOf x_now x7 3) fun r6 => (os r6 (fun _ => none) fun x_r6 => (ob (f_X4_buskerOf x_now x7 2) fun r8 => (os r8 (fun _ => none) fun x_r8 => (ob (f_X4_wear x_now x7) fun r10 => (os r10 (fun _ => none) fun x_r10 => (og (okI x_r10) (if 0 ≤ x_r6 then (f_L_areBuskers_c106 (f_L_areBuskers_c51 x_now x_len x_cnt n) x_now x_len x_cnt x2 x3 x4 x5 x7 x_r6 x_r8 x_r10.toUInt32 1 x1 x_spa) else (f_L_areBuskers_c106 (f_L_areBuskers_c51 x_now x_len x_cnt n) x_now x_len x_cnt x2 x3 x4 x5 x7 x_r6 x_r8 x_r10.toUInt32 0 x1 x_spa))))))))))))
def f_L_areBuskers (x_now : SV) (x_spa : SV) (x_len : Int32) (x_cnt : Int32) : Option (Int32 × SV) := ob (f_X4_account x_now x_len x_cnt 2) fun r2 => (os r2 (fun _ => none) fun x_r2 => (ob (f_L_ranked x_now x_r2) fun r4 => (if r4 = (-1000) then (ob (f_X4_account x_now x_len x_cnt 4) fun r7 => (os r7 (fun _ => none) fun x_r7 => (ob (f_L_waiting x_now x_r7) fun r9 => (if r9 = (-100000000) then (f_L_areBuskers_c51 x_now x_len x_cnt 9 0 0 0 0 0 1 0 x_spa) else (f_L_areBuskers_c51 x_now x_len x_cnt 9 0 0 0 0 0 0 0 x_spa))))) else (f_L_areBuskers_c51 x_now x_len x_cnt 9 0 0 0 0 0 0 0 x_spa))))
set_option maxHeartbeats 8000000 in
set_option maxRecDepth 100000 in
theorem c_L_areBuskers (l : Launch) (D : va_G) (cy : Nat → ClassId) (q : Nat → Nat → Nat) (x_isv : Int32) (x_te : Int32) (x_re : Int32) (x_de : Int32) (x_now : SV) (x_spa : SV) (x_sna : SV) (x_len : Int32) (x_sig : Nat → Int32) (x_nxt : Int32) (x_cnt : Int32) (x_rng : Nat → SV) (sz : Nat) (hst : l.stackTraces = false) {res : Int32 × SV} (hf : f_L_areBuskers x_now x_spa x_len x_cnt = some res) : Met l yL_areBuskers (.code yL_areBuskers cL_areBuskers 11 (some .boolean) :: lw_all) { frames := 9, cells := 328, slots := 2624, locals := 146 } (va_Pc [.ref (q 0 0)] (sY D cy (wX4 q cy x_isv x_te x_re x_de x_now x_spa x_sna x_len x_sig x_nxt x_cnt x_rng) sz)) (qI D (wX4 q cy x_isv x_te x_re x_de x_now res.2 x_sna x_len x_sig x_nxt x_cnt x_rng) res.1 (va_A (wX4 q cy x_isv x_te x_re x_de x_now x_spa x_sna x_len x_sig x_nxt x_cnt x_rng) sz)) 328 2624 (va_A (wX4 q cy x_isv x_te x_re x_de x_now x_spa x_sna x_len x_sig x_nxt x_cnt x_rng) sz) := by
  refine mk_lc (Qc := qI D (wX4 q cy x_isv x_te x_re x_de x_now res.2 x_sna x_len x_sig x_nxt x_cnt x_rng) res.1) (Rc := RL) (by decide +kernel) rfl (Nat.le_of_ble_eq_true rfl) ?_
  intro p e s m args below meth c ls A CX hml hr hlk hK hN hP hD hS hA hl hX hC
  have hx := CX.1
  have hb := CX.2.1
  have hRMJxf58ca_floatToIntBits_5c35a : (⟨2, 0, 0, 40⟩ : Room).frames + 1 ≤ (⟨9, 328, 2624, 146⟩ : Room).frames ∧ 8 + (1 + 11) + (⟨2, 0, 0, 40⟩ : Room).locals ≤ (⟨9, 328, 2624, 146⟩ : Room).locals := ⟨(Nat.le_of_ble_eq_true rfl), (Nat.le_of_ble_eq_true rfl)⟩
  have hRML_onRack : (⟨7, 1, 6, 105⟩ : Room).frames + 1 ≤ (⟨9, 328, 2624, 146⟩ : Room).frames ∧ 8 + (5 + 11) + (⟨7, 1, 6, 105⟩ : Room).locals ≤ (⟨9, 328, 2624, 146⟩ : Room).locals := ⟨(Nat.le_of_ble_eq_true rfl), (Nat.le_of_ble_eq_true rfl)⟩
  have hRML_ranked : (⟨7, 1, 6, 104⟩ : Room).frames + 1 ≤ (⟨9, 328, 2624, 146⟩ : Room).frames ∧ 8 + (4 + 11) + (⟨7, 1, 6, 104⟩ : Room).locals ≤ (⟨9, 328, 2624, 146⟩ : Room).locals := ⟨(Nat.le_of_ble_eq_true rfl), (Nat.le_of_ble_eq_true rfl)⟩
  have hRML_snapsIn : (⟨8, 2, 12, 123⟩ : Room).frames + 1 ≤ (⟨9, 328, 2624, 146⟩ : Room).frames ∧ 8 + (4 + 11) + (⟨8, 2, 12, 123⟩ : Room).locals ≤ (⟨9, 328, 2624, 146⟩ : Room).locals := ⟨(Nat.le_of_ble_eq_true rfl), (Nat.le_of_ble_eq_true rfl)⟩
  have hRML_waiting : (⟨7, 1, 6, 104⟩ : Room).frames + 1 ≤ (⟨9, 328, 2624, 146⟩ : Room).frames ∧ 8 + (4 + 11) + (⟨7, 1, 6, 104⟩ : Room).locals ≤ (⟨9, 328, 2624, 146⟩ : Room).locals := ⟨(Nat.le_of_ble_eq_true rfl), (Nat.le_of_ble_eq_true rfl)⟩
  have hRMX4_account : (⟨6, 1, 6, 82⟩ : Room).frames + 1 ≤ (⟨9, 328, 2624, 146⟩ : Room).frames ∧ 8 + (2 + 11) + (⟨6, 1, 6, 82⟩ : Room).locals ≤ (⟨9, 328, 2624, 146⟩ : Room).locals := ⟨(Nat.le_of_ble_eq_true rfl), (Nat.le_of_ble_eq_true rfl)⟩
  have hRMX4_buskerOf : (⟨7, 2, 12, 102⟩ : Room).frames + 1 ≤ (⟨9, 328, 2624, 146⟩ : Room).frames ∧ 8 + (3 + 11) + (⟨7, 2, 12, 102⟩ : Room).locals ≤ (⟨9, 328, 2624, 146⟩ : Room).locals := ⟨(Nat.le_of_ble_eq_true rfl), (Nat.le_of_ble_eq_true rfl)⟩
  have hRMX4_hat : (⟨7, 1, 6, 102⟩ : Room).frames + 1 ≤ (⟨9, 328, 2624, 146⟩ : Room).frames ∧ 8 + (2 + 11) + (⟨7, 1, 6, 102⟩ : Room).locals ≤ (⟨9, 328, 2624, 146⟩ : Room).locals := ⟨(Nat.le_of_ble_eq_true rfl), (Nat.le_of_ble_eq_true rfl)⟩
  have hRMX4_hatIn : (⟨7, 2, 12, 102⟩ : Room).frames + 1 ≤ (⟨9, 328, 2624, 146⟩ : Room).frames ∧ 8 + (3 + 11) + (⟨7, 2, 12, 102⟩ : Room).locals ≤ (⟨9, 328, 2624, 146⟩ : Room).locals := ⟨(Nat.le_of_ble_eq_true rfl), (Nat.le_of_ble_eq_true rfl)⟩
  have hRMX4_pitchOf : (⟨7, 2, 12, 102⟩ : Room).frames + 1 ≤ (⟨9, 328, 2624, 146⟩ : Room).frames ∧ 8 + (3 + 11) + (⟨7, 2, 12, 102⟩ : Room).locals ≤ (⟨9, 328, 2624, 146⟩ : Room).locals := ⟨(Nat.le_of_ble_eq_true rfl), (Nat.le_of_ble_eq_true rfl)⟩
  have hRMX4_wear : (⟨7, 1, 6, 102⟩ : Room).frames + 1 ≤ (⟨9, 328, 2624, 146⟩ : Room).frames ∧ 8 + (2 + 11) + (⟨7, 1, 6, 102⟩ : Room).locals ≤ (⟨9, 328, 2624, 146⟩ : Room).locals := ⟨(Nat.le_of_ble_eq_true rfl), (Nat.le_of_ble_eq_true rfl)⟩
  have K343 : ∀ (N51 : Nat) (rec51 : Int32 → Int32 → Int32 → Int32 → Int32 → Int32 → Int32 → SV → Option (Int32 × SV)) (hrec51 : ∀ (x1 : Int32) (x2 : Int32) (x3 : Int32) (x4 : Int32) (x5 : Int32) (x6 : Int32) (x7 : Int32) (x_spa : SV) (k ks : Nat) (hk : k + N51 ≤ 328) (hks : ks + 8 * N51 ≤ 2624) (H : Heap) (locs : List Loc) (hP : va_P D vwCl (wX4 q cy x_isv x_te x_re x_de x_now x_spa x_sna x_len x_sig x_nxt x_cnt x_rng) H) (hD : va_D A (wX4 q cy x_isv x_te x_re x_de x_now x_spa x_sna x_len x_sig x_nxt x_cnt x_rng)) (hS : va_S A s.heap H locs) (ls : Array Slot) (hl : lv_has ls 11 [(0, .ref (q 0 0)), (1, .int x1), (2, .int x2), (3, .int x3), (4, .int x4), (5, .int x5), (6, .int x6), (7, .int x7)]) (hf : rec51 x1 x2 x3 x4 x5 x6 x7 x_spa = some res), W p l e ⟨9, 328, 2624, 146⟩ s m args below meth c H locs k ks (MQ below (qI D (wX4 q cy x_isv x_te x_re x_de x_now res.2 x_sna x_len x_sig x_nxt x_cnt x_rng) res.1 A) args s 328 2624 A) (F0 m 51 ls [])), ∀ (x1 : Int32) (x2 : Int32) (x3 : Int32) (x4 : Int32) (x5 : Int32) (x7 : Int32) (x10 : UInt32) (t0 : Int32) (x_spa : SV) (k ks : Nat) (hk : k + (0 + N51) ≤ 328) (hks : ks + 8 * (0 + N51) ≤ 2624) (H : Heap) (locs : List Loc) (hP : va_P D vwCl (wX4 q cy x_isv x_te x_re x_de x_now x_spa x_sna x_len x_sig x_nxt x_cnt x_rng) H) (hD : va_D A (wX4 q cy x_isv x_te x_re x_de x_now x_spa x_sna x_len x_sig x_nxt x_cnt x_rng)) (hS : va_S A s.heap H locs) (ls : Array Slot) (hl : lv_has ls 11 [(0, .ref (q 0 0)), (1, .int x1), (2, .int x2), (3, .int x3), (4, .int x4), (5, .int x5), (7, .int x7), (10, .float x10)]) (hf : f_L_areBuskers_c343 rec51 x_now x_len x_cnt x1 x2 x3 x4 x5 x7 x10 t0 x_spa = some res), W p l e ⟨9, 328, 2624, 146⟩ s m args below meth c H locs k ks (MQ below (qI D (wX4 q cy x_isv x_te x_re x_de x_now res.2 x_sna x_len x_sig x_nxt x_cnt x_rng) res.1 A) args s 328 2624 A) (F0 m 343 ls [.int t0]) := by
    intro N51 rec51 hrec51 x1 x2 x3 x4 x5 x7 x10 t0 x_spa k ks hk hks H locs hP hD hS ls hl hf
    refine lv_fload hx hb (dg ddL_areBuskers 182 rfl) (lv_at hl 7 rfl) ?_
    refine lv_fconst1 hx hb (dg ddL_areBuskers 183 rfl) ?_
    refine lv_fcmp hx hb (dg ddL_areBuskers 184 rfl) ?_
    refine lv_if_lt (tgt := 354) hx hb (dg ddL_areBuskers 185 rfl) (by decide) (fun h1 => ?_) (fun h1 => ?_)
    · have hf := it_t h1 hf
      refine lv_iconst (v := 0) hx hb (dg ddL_areBuskers 188 rfl) (by decide) ?_
      refine lv_icmp_ne (tgt := 362) hx hb (dg ddL_areBuskers 189 rfl) (by decide) (fun h2 => ?_) (fun h2 => ?_)
      · have hf := it_f h2 hf
        refine lv_iconst (v := 0) hx hb (dg ddL_areBuskers 192 rfl) (by decide) ?_
        refine lv_istore (lv' := [(6, .int 0), (0, .ref (q 0 0)), (1, .int x1), (2, .int x2), (3, .int x3), (4, .int x4), (5, .int x5), (7, .int x7), (10, .float x10)]) hx hb (dg ddL_areBuskers 193 rfl) hl (by decide) rfl (fun ls hl => ?_)
        refine lv_iinc (v := x7 + 1) (lv' := [(7, .int (x7 + 1)), (6, .int 0), (0, .ref (q 0 0)), (1, .int x1), (2, .int x2), (3, .int x3), (4, .int x4), (5, .int x5), (10, .float x10)]) hx hb (dg ddL_areBuskers 194 rfl) hl (k := 7) rfl (congrArg (HAdd.hAdd x7) (by decide)) (by decide) rfl (fun ls hl => ?_)
        refine lv_goto (tgt := 51) hx hb (dg ddL_areBuskers 195 rfl) (by decide) ?_
        refine W.widen (k := (k + 0)) (n := (ks + 0)) (by omega) (by omega) ?_
        exact hrec51 x1 x2 x3 x4 x5 0 (x7 + 1) x_spa (k + 0) (ks + 0) (by omega) (by omega) _ _ hP hD hS _ (lv_sub hl [2, 3, 4, 5, 6, 7, 1, 0] rfl) hf
      · have hf := it_t h2 hf
        refine lv_iconst (v := 1) hx hb (dg ddL_areBuskers 190 rfl) (by decide) ?_
        refine lv_goto (tgt := 363) hx hb (dg ddL_areBuskers 191 rfl) (by decide) ?_
        refine lv_istore (lv' := [(6, .int 1), (0, .ref (q 0 0)), (1, .int x1), (2, .int x2), (3, .int x3), (4, .int x4), (5, .int x5), (7, .int x7), (10, .float x10)]) hx hb (dg ddL_areBuskers 193 rfl) hl (by decide) rfl (fun ls hl => ?_)
        refine lv_iinc (v := x7 + 1) (lv' := [(7, .int (x7 + 1)), (6, .int 1), (0, .ref (q 0 0)), (1, .int x1), (2, .int x2), (3, .int x3), (4, .int x4), (5, .int x5), (10, .float x10)]) hx hb (dg ddL_areBuskers 194 rfl) hl (k := 7) rfl (congrArg (HAdd.hAdd x7) (by decide)) (by decide) rfl (fun ls hl => ?_)
        refine lv_goto (tgt := 51) hx hb (dg ddL_areBuskers 195 rfl) (by decide) ?_
        refine W.widen (k := (k + 0)) (n := (ks + 0)) (by omega) (by omega) ?_
        exact hrec51 x1 x2 x3 x4 x5 1 (x7 + 1) x_spa (k + 0) (ks + 0) (by omega) (by omega) _ _ hP hD hS _ (lv_sub hl [2, 3, 4, 5, 6, 7, 1, 0] rfl) hf
    · have hf := it_f h1 hf
      refine lv_iconst (v := 1) hx hb (dg ddL_areBuskers 186 rfl) (by decide) ?_
      refine lv_goto (tgt := 355) hx hb (dg ddL_areBuskers 187 rfl) (by decide) ?_
      refine lv_icmp_ne (tgt := 362) hx hb (dg ddL_areBuskers 189 rfl) (by decide) (fun h3 => ?_) (fun h3 => ?_)
      · have hf := it_f h3 hf
        refine lv_iconst (v := 0) hx hb (dg ddL_areBuskers 192 rfl) (by decide) ?_
        refine lv_istore (lv' := [(6, .int 0), (0, .ref (q 0 0)), (1, .int x1), (2, .int x2), (3, .int x3), (4, .int x4), (5, .int x5), (7, .int x7), (10, .float x10)]) hx hb (dg ddL_areBuskers 193 rfl) hl (by decide) rfl (fun ls hl => ?_)
        refine lv_iinc (v := x7 + 1) (lv' := [(7, .int (x7 + 1)), (6, .int 0), (0, .ref (q 0 0)), (1, .int x1), (2, .int x2), (3, .int x3), (4, .int x4), (5, .int x5), (10, .float x10)]) hx hb (dg ddL_areBuskers 194 rfl) hl (k := 7) rfl (congrArg (HAdd.hAdd x7) (by decide)) (by decide) rfl (fun ls hl => ?_)
        refine lv_goto (tgt := 51) hx hb (dg ddL_areBuskers 195 rfl) (by decide) ?_
        refine W.widen (k := (k + 0)) (n := (ks + 0)) (by omega) (by omega) ?_
        exact hrec51 x1 x2 x3 x4 x5 0 (x7 + 1) x_spa (k + 0) (ks + 0) (by omega) (by omega) _ _ hP hD hS _ (lv_sub hl [2, 3, 4, 5, 6, 7, 1, 0] rfl) hf
      · have hf := it_t h3 hf
        refine lv_iconst (v := 1) hx hb (dg ddL_areBuskers 190 rfl) (by decide) ?_
        refine lv_goto (tgt := 363) hx hb (dg ddL_areBuskers 191 rfl) (by decide) ?_
        refine lv_istore (lv' := [(6, .int 1), (0, .ref (q 0 0)), (1, .int x1), (2, .int x2), (3, .int x3), (4, .int x4), (5, .int x5), (7, .int x7), (10, .float x10)]) hx hb (dg ddL_areBuskers 193 rfl) hl (by decide) rfl (fun ls hl => ?_)
        refine lv_iinc (v := x7 + 1) (lv' := [(7, .int (x7 + 1)), (6, .int 1), (0, .ref (q 0 0)), (1, .int x1), (2, .int x2), (3, .int x3), (4, .int x4), (5, .int x5), (10, .float x10)]) hx hb (dg ddL_areBuskers 194 rfl) hl (k := 7) rfl (congrArg (HAdd.hAdd x7) (by decide)) (by decide) rfl (fun ls hl => ?_)
        refine lv_goto (tgt := 51) hx hb (dg ddL_areBuskers 195 rfl) (by decide) ?_
        refine W.widen (k := (k + 0)) (n := (ks + 0)) (by omega) (by omega) ?_
        exact hrec51 x1 x2 x3 x4 x5 1 (x7 + 1) x_spa (k + 0) (ks + 0) (by omega) (by omega) _ _ hP hD hS _ (lv_sub hl [2, 3, 4, 5, 6, 7, 1, 0] rfl) hf
  have K296 : ∀ (N51 : Nat) (rec51 : Int32 → Int32 → Int32 → Int32 → Int32 → Int32 → Int32 → SV → Option (Int32 × SV)) (hrec51 : ∀ (x1 : Int32) (x2 : Int32) (x3 : Int32) (x4 : Int32) (x5 : Int32) (x6 : Int32) (x7 : Int32) (x_spa : SV) (k ks : Nat) (hk : k + N51 ≤ 328) (hks : ks + 8 * N51 ≤ 2624) (H : Heap) (locs : List Loc) (hP : va_P D vwCl (wX4 q cy x_isv x_te x_re x_de x_now x_spa x_sna x_len x_sig x_nxt x_cnt x_rng) H) (hD : va_D A (wX4 q cy x_isv x_te x_re x_de x_now x_spa x_sna x_len x_sig x_nxt x_cnt x_rng)) (hS : va_S A s.heap H locs) (ls : Array Slot) (hl : lv_has ls 11 [(0, .ref (q 0 0)), (1, .int x1), (2, .int x2), (3, .int x3), (4, .int x4), (5, .int x5), (6, .int x6), (7, .int x7)]) (hf : rec51 x1 x2 x3 x4 x5 x6 x7 x_spa = some res), W p l e ⟨9, 328, 2624, 146⟩ s m args below meth c H locs k ks (MQ below (qI D (wX4 q cy x_isv x_te x_re x_de x_now res.2 x_sna x_len x_sig x_nxt x_cnt x_rng) res.1 A) args s 328 2624 A) (F0 m 51 ls [])), ∀ (x1 : Int32) (x2 : Int32) (x3 : Int32) (x4 : Int32) (x5 : Int32) (x7 : Int32) (x10 : UInt32) (x_spa : SV) (k ks : Nat) (hk : k + (4 + N51) ≤ 328) (hks : ks + 8 * (4 + N51) ≤ 2624) (H : Heap) (locs : List Loc) (hP : va_P D vwCl (wX4 q cy x_isv x_te x_re x_de x_now x_spa x_sna x_len x_sig x_nxt x_cnt x_rng) H) (hD : va_D A (wX4 q cy x_isv x_te x_re x_de x_now x_spa x_sna x_len x_sig x_nxt x_cnt x_rng)) (hS : va_S A s.heap H locs) (ls : Array Slot) (hl : lv_has ls 11 [(0, .ref (q 0 0)), (1, .int x1), (2, .int x2), (3, .int x3), (4, .int x4), (5, .int x5), (7, .int x7), (10, .float x10)]) (hf : f_L_areBuskers_c296 rec51 x_now x_len x_cnt x1 x2 x3 x4 x5 x7 x10 x_spa = some res), W p l e ⟨9, 328, 2624, 146⟩ s m args below meth c H locs k ks (MQ below (qI D (wX4 q cy x_isv x_te x_re x_de x_now res.2 x_sna x_len x_sig x_nxt x_cnt x_rng) res.1 A) args s 328 2624 A) (F0 m 296 ls []) := by
    intro N51 rec51 hrec51 x1 x2 x3 x4 x5 x7 x10 x_spa k ks hk hks H locs hP hD hS ls hl hf
    refine lv_aload_n hx hb (dg ddL_areBuskers 159 rfl) rfl (lv_at hl 0 rfl) ?_
    refine lv_iload hx hb (dg ddL_areBuskers 160 rfl) (lv_at hl 6 rfl) ?_
    refine lv_iconst (v := 0) hx hb (dg ddL_areBuskers 161 rfl) (by decide) ?_
    obtain ⟨r2, e1, hf⟩ := ob_some hf
    rcases r2 with t9 | x_r2
    · cases os_l hf
    have hf := os_r hf
    refine crv_ri CX hml (As := [.int x7, .int 0]) (rest := []) (ws := (wX4 q cy x_isv x_te x_re x_de x_now x_spa x_sna x_len x_sig x_nxt x_cnt x_rng)) (wsn := (wX4 q cy x_isv x_te x_re x_de x_now x_spa x_sna x_len x_sig x_nxt x_cnt x_rng)) (wr := []) (c_X4_buskerOf l D cy q x_isv x_te x_re x_de x_now x_spa x_sna x_len x_sig x_nxt x_cnt x_rng x7 0 _ hst e1) lk_RL_184 rfl rfl hRMX4_buskerOf hP hD hS hA hK hN hX (List.Perm.of_eq (List.append_nil _).symm) (List.Perm.of_eq (List.append_nil _)) 0 rfl rfl rfl hl.1 rfl (Nat.le_of_ble_eq_true rfl) ⟨by show _ ≤ 328; omega, by show _ ≤ 2624; omega⟩ (dg ddL_areBuskers 162 rfl) (fun H locs hP hD hS => ?_)
    refine lv_iconst (v := 1) hx hb (dg ddL_areBuskers 163 rfl) (by decide) ?_
    refine lv_icmp_ne (tgt := 329) hx hb (dg ddL_areBuskers 164 rfl) (by decide) (fun h3 => ?_) (fun h3 => ?_)
    · have hf := it_f h3 hf
      refine lv_aload_n hx hb (dg ddL_areBuskers 175 rfl) rfl (lv_at hl 0 rfl) ?_
      refine lv_iload hx hb (dg ddL_areBuskers 176 rfl) (lv_at hl 6 rfl) ?_
      obtain ⟨r5, e4, hf⟩ := ob_some hf
      refine crl_i CX hml (As := [.ref (q 0 0), .int x7]) (rest := []) (ws := (wX4 q cy x_isv x_te x_re x_de x_now x_spa x_sna x_len x_sig x_nxt x_cnt x_rng)) (wsn := (wX4 q cy x_isv x_te x_re x_de x_now x_spa x_sna x_len x_sig x_nxt x_cnt x_rng)) (wr := []) (c_L_snapsIn l D cy q x_isv x_te x_re x_de x_now x_spa x_sna x_len x_sig x_nxt x_cnt x_rng x7 _ hst e4) lk_RL_231 rfl rfl hRML_snapsIn hP hD hS hA hK hN hX hC (List.Perm.of_eq (List.append_nil _).symm) (List.Perm.of_eq (List.append_nil _)) rfl hl.1 rfl (Nat.le_of_ble_eq_true rfl) ⟨by show _ ≤ 328; omega, by show _ ≤ 2624; omega⟩ (dg ddL_areBuskers 177 rfl) (fun H locs hP hD hS => ?_)
      refine lv_if_ne (tgt := 342) hx hb (dg ddL_areBuskers 178 rfl) (by decide) (fun h6 => ?_) (fun h6 => ?_)
      · have hf := it_f h6 hf
        refine lv_iconst (v := 0) hx hb (dg ddL_areBuskers 181 rfl) (by decide) ?_
        refine W.widen (k := (k + 4)) (n := (ks + 32)) (by omega) (by omega) ?_
        exact K343 N51 rec51 hrec51  x1 x2 x3 x4 x5 x7 x10 0 x_spa (k + 4) (ks + 32) (by omega) (by omega) _ _ hP hD hS _ (lv_sub hl [0, 1, 2, 3, 4, 5, 6, 7] rfl) hf
      · have hf := it_t h6 hf
        refine lv_iconst (v := 1) hx hb (dg ddL_areBuskers 179 rfl) (by decide) ?_
        refine lv_goto (tgt := 343) hx hb (dg ddL_areBuskers 180 rfl) (by decide) ?_
        refine W.widen (k := (k + 4)) (n := (ks + 32)) (by omega) (by omega) ?_
        exact K343 N51 rec51 hrec51  x1 x2 x3 x4 x5 x7 x10 1 x_spa (k + 4) (ks + 32) (by omega) (by omega) _ _ hP hD hS _ (lv_sub hl [0, 1, 2, 3, 4, 5, 6, 7] rfl) hf
    · have hf := it_t h3 hf
      refine lv_aload_n hx hb (dg ddL_areBuskers 165 rfl) rfl (lv_at hl 0 rfl) ?_
      refine lv_iload hx hb (dg ddL_areBuskers 166 rfl) (lv_at hl 6 rfl) ?_
      obtain ⟨r8, e7, hf⟩ := ob_some hf
      refine crl_i CX hml (As := [.ref (q 0 0), .int x7]) (rest := []) (ws := (wX4 q cy x_isv x_te x_re x_de x_now x_spa x_sna x_len x_sig x_nxt x_cnt x_rng)) (wsn := (wX4 q cy x_isv x_te x_re x_de x_now x_spa x_sna x_len x_sig x_nxt x_cnt x_rng)) (wr := []) (c_L_snapsIn l D cy q x_isv x_te x_re x_de x_now x_spa x_sna x_len x_sig x_nxt x_cnt x_rng x7 _ hst e7) lk_RL_231 rfl rfl hRML_snapsIn hP hD hS hA hK hN hX hC (List.Perm.of_eq (List.append_nil _).symm) (List.Perm.of_eq (List.append_nil _)) rfl hl.1 rfl (Nat.le_of_ble_eq_true rfl) ⟨by show _ ≤ 328; omega, by show _ ≤ 2624; omega⟩ (dg ddL_areBuskers 167 rfl) (fun H locs hP hD hS => ?_)
      refine lv_sipush (v := (-1000)) hx hb (dg ddL_areBuskers 168 rfl) (by decide) ?_
      refine lv_icmp_ne (tgt := 362) hx hb (dg ddL_areBuskers 169 rfl) (by decide) (fun h9 => ?_) (fun h9 => ?_)
      · have hf := it_f h9 hf
        refine lv_iconst (v := 0) hx hb (dg ddL_areBuskers 192 rfl) (by decide) ?_
        refine lv_istore (lv' := [(6, .int 0), (0, .ref (q 0 0)), (1, .int x1), (2, .int x2), (3, .int x3), (4, .int x4), (5, .int x5), (7, .int x7), (10, .float x10)]) hx hb (dg ddL_areBuskers 193 rfl) hl (by decide) rfl (fun ls hl => ?_)
        refine lv_iinc (v := x7 + 1) (lv' := [(7, .int (x7 + 1)), (6, .int 0), (0, .ref (q 0 0)), (1, .int x1), (2, .int x2), (3, .int x3), (4, .int x4), (5, .int x5), (10, .float x10)]) hx hb (dg ddL_areBuskers 194 rfl) hl (k := 7) rfl (congrArg (HAdd.hAdd x7) (by decide)) (by decide) rfl (fun ls hl => ?_)
        refine lv_goto (tgt := 51) hx hb (dg ddL_areBuskers 195 rfl) (by decide) ?_
        refine W.widen (k := (k + 4)) (n := (ks + 32)) (by omega) (by omega) ?_
        exact hrec51 x1 x2 x3 x4 x5 0 (x7 + 1) x_spa (k + 4) (ks + 32) (by omega) (by omega) _ _ hP hD hS _ (lv_sub hl [2, 3, 4, 5, 6, 7, 1, 0] rfl) hf
      · have hf := it_t h9 hf
        refine lv_fload hx hb (dg ddL_areBuskers 170 rfl) (lv_at hl 7 rfl) ?_
        refine lv_fconst0 hx hb (dg ddL_areBuskers 171 rfl) ?_
        refine lv_fcmp hx hb (dg ddL_areBuskers 172 rfl) ?_
        refine lv_if_ne (tgt := 362) hx hb (dg ddL_areBuskers 173 rfl) (by decide) (fun h10 => ?_) (fun h10 => ?_)
        · have hf := it_f h10 hf
          refine lv_iconst (v := 0) hx hb (dg ddL_areBuskers 192 rfl) (by decide) ?_
          refine lv_istore (lv' := [(6, .int 0), (0, .ref (q 0 0)), (1, .int x1), (2, .int x2), (3, .int x3), (4, .int x4), (5, .int x5), (7, .int x7), (10, .float x10)]) hx hb (dg ddL_areBuskers 193 rfl) hl (by decide) rfl (fun ls hl => ?_)
          refine lv_iinc (v := x7 + 1) (lv' := [(7, .int (x7 + 1)), (6, .int 0), (0, .ref (q 0 0)), (1, .int x1), (2, .int x2), (3, .int x3), (4, .int x4), (5, .int x5), (10, .float x10)]) hx hb (dg ddL_areBuskers 194 rfl) hl (k := 7) rfl (congrArg (HAdd.hAdd x7) (by decide)) (by decide) rfl (fun ls hl => ?_)
          refine lv_goto (tgt := 51) hx hb (dg ddL_areBuskers 195 rfl) (by decide) ?_
          refine W.widen (k := (k + 4)) (n := (ks + 32)) (by omega) (by omega) ?_
          exact hrec51 x1 x2 x3 x4 x5 0 (x7 + 1) x_spa (k + 4) (ks + 32) (by omega) (by omega) _ _ hP hD hS _ (lv_sub hl [2, 3, 4, 5, 6, 7, 1, 0] rfl) hf
        · have hf := it_t h10 hf
          refine lv_goto (tgt := 358) hx hb (dg ddL_areBuskers 174 rfl) (by decide) ?_
          refine lv_iconst (v := 1) hx hb (dg ddL_areBuskers 190 rfl) (by decide) ?_
          refine lv_goto (tgt := 363) hx hb (dg ddL_areBuskers 191 rfl) (by decide) ?_
          refine lv_istore (lv' := [(6, .int 1), (0, .ref (q 0 0)), (1, .int x1), (2, .int x2), (3, .int x3), (4, .int x4), (5, .int x5), (7, .int x7), (10, .float x10)]) hx hb (dg ddL_areBuskers 193 rfl) hl (by decide) rfl (fun ls hl => ?_)
          refine lv_iinc (v := x7 + 1) (lv' := [(7, .int (x7 + 1)), (6, .int 1), (0, .ref (q 0 0)), (1, .int x1), (2, .int x2), (3, .int x3), (4, .int x4), (5, .int x5), (10, .float x10)]) hx hb (dg ddL_areBuskers 194 rfl) hl (k := 7) rfl (congrArg (HAdd.hAdd x7) (by decide)) (by decide) rfl (fun ls hl => ?_)
          refine lv_goto (tgt := 51) hx hb (dg ddL_areBuskers 195 rfl) (by decide) ?_
          refine W.widen (k := (k + 4)) (n := (ks + 32)) (by omega) (by omega) ?_
          exact hrec51 x1 x2 x3 x4 x5 1 (x7 + 1) x_spa (k + 4) (ks + 32) (by omega) (by omega) _ _ hP hD hS _ (lv_sub hl [2, 3, 4, 5, 6, 7, 1, 0] rfl) hf
  have K256 : ∀ (N51 : Nat) (rec51 : Int32 → Int32 → Int32 → Int32 → Int32 → Int32 → Int32 → SV → Option (Int32 × SV)) (hrec51 : ∀ (x1 : Int32) (x2 : Int32) (x3 : Int32) (x4 : Int32) (x5 : Int32) (x6 : Int32) (x7 : Int32) (x_spa : SV) (k ks : Nat) (hk : k + N51 ≤ 328) (hks : ks + 8 * N51 ≤ 2624) (H : Heap) (locs : List Loc) (hP : va_P D vwCl (wX4 q cy x_isv x_te x_re x_de x_now x_spa x_sna x_len x_sig x_nxt x_cnt x_rng) H) (hD : va_D A (wX4 q cy x_isv x_te x_re x_de x_now x_spa x_sna x_len x_sig x_nxt x_cnt x_rng)) (hS : va_S A s.heap H locs) (ls : Array Slot) (hl : lv_has ls 11 [(0, .ref (q 0 0)), (1, .int x1), (2, .int x2), (3, .int x3), (4, .int x4), (5, .int x5), (6, .int x6), (7, .int x7)]) (hf : rec51 x1 x2 x3 x4 x5 x6 x7 x_spa = some res), W p l e ⟨9, 328, 2624, 146⟩ s m args below meth c H locs k ks (MQ below (qI D (wX4 q cy x_isv x_te x_re x_de x_now res.2 x_sna x_len x_sig x_nxt x_cnt x_rng) res.1 A) args s 328 2624 A) (F0 m 51 ls [])), ∀ (x1 : Int32) (x2 : Int32) (x3 : Int32) (x4 : Int32) (x5 : Int32) (x7 : Int32) (x10 : UInt32) (t0 : Int32) (x_spa : SV) (k ks : Nat) (hk : k + (11 + N51) ≤ 328) (hks : ks + 8 * (11 + N51) ≤ 2624) (H : Heap) (locs : List Loc) (hP : va_P D vwCl (wX4 q cy x_isv x_te x_re x_de x_now x_spa x_sna x_len x_sig x_nxt x_cnt x_rng) H) (hD : va_D A (wX4 q cy x_isv x_te x_re x_de x_now x_spa x_sna x_len x_sig x_nxt x_cnt x_rng)) (hS : va_S A s.heap H locs) (ls : Array Slot) (hl : lv_has ls 11 [(0, .ref (q 0 0)), (1, .int x1), (2, .int x2), (3, .int x3), (4, .int x4), (5, .int x5), (7, .int x7), (10, .float x10)]) (hf : f_L_areBuskers_c256 rec51 x_now x_len x_cnt x1 x2 x3 x4 x5 x7 x10 t0 x_spa = some res), W p l e ⟨9, 328, 2624, 146⟩ s m args below meth c H locs k ks (MQ below (qI D (wX4 q cy x_isv x_te x_re x_de x_now res.2 x_sna x_len x_sig x_nxt x_cnt x_rng) res.1 A) args s 328 2624 A) (F0 m 256 ls [.int t0]) := by
    intro N51 rec51 hrec51 x1 x2 x3 x4 x5 x7 x10 t0 x_spa k ks hk hks H locs hP hD hS ls hl hf
    refine lv_istore (lv' := [(6, .int t0), (0, .ref (q 0 0)), (1, .int x1), (2, .int x2), (3, .int x3), (4, .int x4), (5, .int x5), (7, .int x7), (10, .float x10)]) hx hb (dg ddL_areBuskers 139 rfl) hl (by decide) rfl (fun ls hl => ?_)
    refine lv_iload hx hb (dg ddL_areBuskers 140 rfl) (lv_at hl 0 rfl) ?_
    refine lv_if_eq (tgt := 362) hx hb (dg ddL_areBuskers 141 rfl) (by decide) (fun h1 => ?_) (fun h1 => ?_)
    · have hf := it_t h1 hf
      refine lv_iconst (v := 0) hx hb (dg ddL_areBuskers 192 rfl) (by decide) ?_
      refine lv_istore (lv' := [(6, .int 0), (0, .ref (q 0 0)), (1, .int x1), (2, .int x2), (3, .int x3), (4, .int x4), (5, .int x5), (7, .int x7), (10, .float x10)]) hx hb (dg ddL_areBuskers 193 rfl) hl (by decide) rfl (fun ls hl => ?_)
      refine lv_iinc (v := x7 + 1) (lv' := [(7, .int (x7 + 1)), (6, .int 0), (0, .ref (q 0 0)), (1, .int x1), (2, .int x2), (3, .int x3), (4, .int x4), (5, .int x5), (10, .float x10)]) hx hb (dg ddL_areBuskers 194 rfl) hl (k := 7) rfl (congrArg (HAdd.hAdd x7) (by decide)) (by decide) rfl (fun ls hl => ?_)
      refine lv_goto (tgt := 51) hx hb (dg ddL_areBuskers 195 rfl) (by decide) ?_
      refine W.widen (k := (k + 0)) (n := (ks + 0)) (by omega) (by omega) ?_
      exact hrec51 x1 x2 x3 x4 x5 0 (x7 + 1) x_spa (k + 0) (ks + 0) (by omega) (by omega) _ _ hP hD hS _ (lv_sub hl [2, 3, 4, 5, 6, 7, 1, 0] rfl) hf
    · have hf := it_f h1 hf
      refine lv_aload_n hx hb (dg ddL_areBuskers 142 rfl) rfl (lv_at hl 1 rfl) ?_
      refine lv_iload hx hb (dg ddL_areBuskers 143 rfl) (lv_at hl 7 rfl) ?_
      refine lv_iconst (v := 4) hx hb (dg ddL_areBuskers 144 rfl) (by decide) ?_
      obtain ⟨r3, e2, hf⟩ := ob_some hf
      rcases r3 with t9 | x_r3
      · cases os_l hf
      have hf := os_r hf
      refine crv_ri CX hml (As := [.int x7, .int 4]) (rest := []) (ws := (wX4 q cy x_isv x_te x_re x_de x_now x_spa x_sna x_len x_sig x_nxt x_cnt x_rng)) (wsn := (wX4 q cy x_isv x_te x_re x_de x_now x_spa x_sna x_len x_sig x_nxt x_cnt x_rng)) (wr := []) (c_X4_buskerOf l D cy q x_isv x_te x_re x_de x_now x_spa x_sna x_len x_sig x_nxt x_cnt x_rng x7 4 _ hst e2) lk_RL_184 rfl rfl hRMX4_buskerOf hP hD hS hA hK hN hX (List.Perm.of_eq (List.append_nil _).symm) (List.Perm.of_eq (List.append_nil _)) 0 rfl rfl rfl hl.1 rfl (Nat.le_of_ble_eq_true rfl) ⟨by show _ ≤ 328; omega, by show _ ≤ 2624; omega⟩ (dg ddL_areBuskers 145 rfl) (fun H locs hP hD hS => ?_)
      refine lv_if_lt (tgt := 296) hx hb (dg ddL_areBuskers 146 rfl) (by decide) (fun h4 => ?_) (fun h4 => ?_)
      · have hf := it_t h4 hf
        refine W.widen (k := (k + 2)) (n := (ks + 16)) (by omega) (by omega) ?_
        exact K296 N51 rec51 hrec51  x1 x2 x3 x4 x5 x7 x10 x_spa (k + 2) (ks + 16) (by omega) (by omega) _ _ hP hD hS _ (lv_sub hl [1, 2, 3, 4, 5, 6, 7, 8] rfl) hf
      · have hf := it_f h4 hf
        refine lv_aload_n hx hb (dg ddL_areBuskers 147 rfl) rfl (lv_at hl 1 rfl) ?_
        refine lv_aload_n hx hb (dg ddL_areBuskers 148 rfl) rfl (lv_at hl 1 rfl) ?_
        refine lv_iload hx hb (dg ddL_areBuskers 149 rfl) (lv_at hl 7 rfl) ?_
        refine lv_iconst (v := 0) hx hb (dg ddL_areBuskers 150 rfl) (by decide) ?_
        obtain ⟨r6, e5, hf⟩ := ob_some hf
        rcases r6 with t9 | x_r6
        · cases os_l hf
        have hf := os_r hf
        refine crv_ri CX hml (As := [.int x7, .int 0]) (rest := [.ref (q 0 0)]) (ws := (wX4 q cy x_isv x_te x_re x_de x_now x_spa x_sna x_len x_sig x_nxt x_cnt x_rng)) (wsn := (wX4 q cy x_isv x_te x_re x_de x_now x_spa x_sna x_len x_sig x_nxt x_cnt x_rng)) (wr := []) (c_X4_buskerOf l D cy q x_isv x_te x_re x_de x_now x_spa x_sna x_len x_sig x_nxt x_cnt x_rng x7 0 _ hst e5) lk_RL_184 rfl rfl hRMX4_buskerOf hP hD hS hA hK hN hX (List.Perm.of_eq (List.append_nil _).symm) (List.Perm.of_eq (List.append_nil _)) 0 rfl rfl rfl hl.1 rfl (Nat.le_of_ble_eq_true rfl) ⟨by show _ ≤ 328; omega, by show _ ≤ 2624; omega⟩ (dg ddL_areBuskers 151 rfl) (fun H locs hP hD hS => ?_)
        refine lv_aload_n hx hb (dg ddL_areBuskers 152 rfl) rfl (lv_at hl 1 rfl) ?_
        refine lv_iload hx hb (dg ddL_areBuskers 153 rfl) (lv_at hl 7 rfl) ?_
        refine lv_iconst (v := 4) hx hb (dg ddL_areBuskers 154 rfl) (by decide) ?_
        obtain ⟨r8, e7, hf⟩ := ob_some hf
        rcases r8 with t9 | x_r8
        · cases os_l hf
        have hf := os_r hf
        refine crv_ri CX hml (As := [.int x7, .int 4]) (rest := [.int x_r6, .ref (q 0 0)]) (ws := (wX4 q cy x_isv x_te x_re x_de x_now x_spa x_sna x_len x_sig x_nxt x_cnt x_rng)) (wsn := (wX4 q cy x_isv x_te x_re x_de x_now x_spa x_sna x_len x_sig x_nxt x_cnt x_rng)) (wr := []) (c_X4_buskerOf l D cy q x_isv x_te x_re x_de x_now x_spa x_sna x_len x_sig x_nxt x_cnt x_rng x7 4 _ hst e7) lk_RL_184 rfl rfl hRMX4_buskerOf hP hD hS hA hK hN hX (List.Perm.of_eq (List.append_nil _).symm) (List.Perm.of_eq (List.append_nil _)) 0 rfl rfl rfl hl.1 rfl (Nat.le_of_ble_eq_true rfl) ⟨by show _ ≤ 328; omega, by show _ ≤ 2624; omega⟩ (dg ddL_areBuskers 155 rfl) (fun H locs hP hD hS => ?_)
        obtain ⟨r10, e9, hf⟩ := ob_some hf
        refine crl_i CX hml (As := [.ref (q 0 0), .int x_r6, .int x_r8]) (rest := []) (ws := (wX4 q cy x_isv x_te x_re x_de x_now x_spa x_sna x_len x_sig x_nxt x_cnt x_rng)) (wsn := (wX4 q cy x_isv x_te x_re x_de x_now x_spa x_sna x_len x_sig x_nxt x_cnt x_rng)) (wr := []) (c_L_onRack l D cy q x_isv x_te x_re x_de x_now x_spa x_sna x_len x_sig x_nxt x_cnt x_rng x_r6 x_r8 _ hst e9) lk_RL_229 rfl rfl hRML_onRack hP hD hS hA hK hN hX hC (List.Perm.of_eq (List.append_nil _).symm) (List.Perm.of_eq (List.append_nil _)) rfl hl.1 rfl (Nat.le_of_ble_eq_true rfl) ⟨by show _ ≤ 328; omega, by show _ ≤ 2624; omega⟩ (dg ddL_areBuskers 156 rfl) (fun H locs hP hD hS => ?_)
        refine lv_iload hx hb (dg ddL_areBuskers 157 rfl) (lv_at hl 7 rfl) ?_
        refine lv_icmp_ne (tgt := 362) hx hb (dg ddL_areBuskers 158 rfl) (by decide) (fun h11 => ?_) (fun h11 => ?_)
        · have hf := it_f h11 hf
          refine lv_iconst (v := 0) hx hb (dg ddL_areBuskers 192 rfl) (by decide) ?_
          refine lv_istore (lv' := [(6, .int 0), (0, .ref (q 0 0)), (1, .int x1), (2, .int x2), (3, .int x3), (4, .int x4), (5, .int x5), (7, .int x7), (10, .float x10)]) hx hb (dg ddL_areBuskers 193 rfl) hl (by decide) rfl (fun ls hl => ?_)
          refine lv_iinc (v := x7 + 1) (lv' := [(7, .int (x7 + 1)), (6, .int 0), (0, .ref (q 0 0)), (1, .int x1), (2, .int x2), (3, .int x3), (4, .int x4), (5, .int x5), (10, .float x10)]) hx hb (dg ddL_areBuskers 194 rfl) hl (k := 7) rfl (congrArg (HAdd.hAdd x7) (by decide)) (by decide) rfl (fun ls hl => ?_)
          refine lv_goto (tgt := 51) hx hb (dg ddL_areBuskers 195 rfl) (by decide) ?_
          refine W.widen (k := (k + 7)) (n := (ks + 56)) (by omega) (by omega) ?_
          exact hrec51 x1 x2 x3 x4 x5 0 (x7 + 1) x_spa (k + 7) (ks + 56) (by omega) (by omega) _ _ hP hD hS _ (lv_sub hl [2, 3, 4, 5, 6, 7, 1, 0] rfl) hf
        · have hf := it_t h11 hf
          refine W.widen (k := (k + 7)) (n := (ks + 56)) (by omega) (by omega) ?_
          exact K296 N51 rec51 hrec51  x1 x2 x3 x4 x5 x7 x10 x_spa (k + 7) (ks + 56) (by omega) (by omega) _ _ hP hD hS _ (lv_sub hl [1, 2, 3, 4, 5, 6, 7, 8] rfl) hf
  have K255 : ∀ (N51 : Nat) (rec51 : Int32 → Int32 → Int32 → Int32 → Int32 → Int32 → Int32 → SV → Option (Int32 × SV)) (hrec51 : ∀ (x1 : Int32) (x2 : Int32) (x3 : Int32) (x4 : Int32) (x5 : Int32) (x6 : Int32) (x7 : Int32) (x_spa : SV) (k ks : Nat) (hk : k + N51 ≤ 328) (hks : ks + 8 * N51 ≤ 2624) (H : Heap) (locs : List Loc) (hP : va_P D vwCl (wX4 q cy x_isv x_te x_re x_de x_now x_spa x_sna x_len x_sig x_nxt x_cnt x_rng) H) (hD : va_D A (wX4 q cy x_isv x_te x_re x_de x_now x_spa x_sna x_len x_sig x_nxt x_cnt x_rng)) (hS : va_S A s.heap H locs) (ls : Array Slot) (hl : lv_has ls 11 [(0, .ref (q 0 0)), (1, .int x1), (2, .int x2), (3, .int x3), (4, .int x4), (5, .int x5), (6, .int x6), (7, .int x7)]) (hf : rec51 x1 x2 x3 x4 x5 x6 x7 x_spa = some res), W p l e ⟨9, 328, 2624, 146⟩ s m args below meth c H locs k ks (MQ below (qI D (wX4 q cy x_isv x_te x_re x_de x_now res.2 x_sna x_len x_sig x_nxt x_cnt x_rng) res.1 A) args s 328 2624 A) (F0 m 51 ls [])), ∀ (x1 : Int32) (x2 : Int32) (x3 : Int32) (x4 : Int32) (x5 : Int32) (x7 : Int32) (x10 : UInt32) (x_spa : SV) (k ks : Nat) (hk : k + (11 + N51) ≤ 328) (hks : ks + 8 * (11 + N51) ≤ 2624) (H : Heap) (locs : List Loc) (hP : va_P D vwCl (wX4 q cy x_isv x_te x_re x_de x_now x_spa x_sna x_len x_sig x_nxt x_cnt x_rng) H) (hD : va_D A (wX4 q cy x_isv x_te x_re x_de x_now x_spa x_sna x_len x_sig x_nxt x_cnt x_rng)) (hS : va_S A s.heap H locs) (ls : Array Slot) (hl : lv_has ls 11 [(0, .ref (q 0 0)), (1, .int x1), (2, .int x2), (3, .int x3), (4, .int x4), (5, .int x5), (7, .int x7), (10, .float x10)]) (hf : f_L_areBuskers_c255 rec51 x_now x_len x_cnt x1 x2 x3 x4 x5 x7 x10 x_spa = some res), W p l e ⟨9, 328, 2624, 146⟩ s m args below meth c H locs k ks (MQ below (qI D (wX4 q cy x_isv x_te x_re x_de x_now res.2 x_sna x_len x_sig x_nxt x_cnt x_rng) res.1 A) args s 328 2624 A) (F0 m 255 ls []) := by
    intro N51 rec51 hrec51 x1 x2 x3 x4 x5 x7 x10 x_spa k ks hk hks H locs hP hD hS ls hl hf
    refine lv_iconst (v := 0) hx hb (dg ddL_areBuskers 138 rfl) (by decide) ?_
    refine W.widen (k := (k + 0)) (n := (ks + 0)) (by omega) (by omega) ?_
    exact K256 N51 rec51 hrec51  x1 x2 x3 x4 x5 x7 x10 0 x_spa (k + 0) (ks + 0) (by omega) (by omega) _ _ hP hD hS _ (lv_sub hl [0, 1, 2, 3, 4, 5, 6, 7] rfl) hf
  have K232 : ∀ (N51 : Nat) (rec51 : Int32 → Int32 → Int32 → Int32 → Int32 → Int32 → Int32 → SV → Option (Int32 × SV)) (hrec51 : ∀ (x1 : Int32) (x2 : Int32) (x3 : Int32) (x4 : Int32) (x5 : Int32) (x6 : Int32) (x7 : Int32) (x_spa : SV) (k ks : Nat) (hk : k + N51 ≤ 328) (hks : ks + 8 * N51 ≤ 2624) (H : Heap) (locs : List Loc) (hP : va_P D vwCl (wX4 q cy x_isv x_te x_re x_de x_now x_spa x_sna x_len x_sig x_nxt x_cnt x_rng) H) (hD : va_D A (wX4 q cy x_isv x_te x_re x_de x_now x_spa x_sna x_len x_sig x_nxt x_cnt x_rng)) (hS : va_S A s.heap H locs) (ls : Array Slot) (hl : lv_has ls 11 [(0, .ref (q 0 0)), (1, .int x1), (2, .int x2), (3, .int x3), (4, .int x4), (5, .int x5), (6, .int x6), (7, .int x7)]) (hf : rec51 x1 x2 x3 x4 x5 x6 x7 x_spa = some res), W p l e ⟨9, 328, 2624, 146⟩ s m args below meth c H locs k ks (MQ below (qI D (wX4 q cy x_isv x_te x_re x_de x_now res.2 x_sna x_len x_sig x_nxt x_cnt x_rng) res.1 A) args s 328 2624 A) (F0 m 51 ls [])), ∀ (x1 : Int32) (x2 : Int32) (x3 : Int32) (x4 : Int32) (x5 : Int32) (x7 : Int32) (x10 : UInt32) (x_spa : SV) (k ks : Nat) (hk : k + (14 + N51) ≤ 328) (hks : ks + 8 * (14 + N51) ≤ 2624) (H : Heap) (locs : List Loc) (hP : va_P D vwCl (wX4 q cy x_isv x_te x_re x_de x_now x_spa x_sna x_len x_sig x_nxt x_cnt x_rng) H) (hD : va_D A (wX4 q cy x_isv x_te x_re x_de x_now x_spa x_sna x_len x_sig x_nxt x_cnt x_rng)) (hS : va_S A s.heap H locs) (ls : Array Slot) (hl : lv_has ls 11 [(0, .ref (q 0 0)), (1, .int x1), (2, .int x2), (3, .int x3), (4, .int x4), (5, .int x5), (7, .int x7), (10, .float x10)]) (hf : f_L_areBuskers_c232 rec51 x_now x_len x_cnt x1 x2 x3 x4 x5 x7 x10 x_spa = some res), W p l e ⟨9, 328, 2624, 146⟩ s m args below meth c H locs k ks (MQ below (qI D (wX4 q cy x_isv x_te x_re x_de x_now res.2 x_sna x_len x_sig x_nxt x_cnt x_rng) res.1 A) args s 328 2624 A) (F0 m 232 ls []) := by
    intro N51 rec51 hrec51 x1 x2 x3 x4 x5 x7 x10 x_spa k ks hk hks H locs hP hD hS ls hl hf
    refine lv_aload_n hx hb (dg ddL_areBuskers 127 rfl) rfl (lv_at hl 0 rfl) ?_
    refine lv_iload hx hb (dg ddL_areBuskers 128 rfl) (lv_at hl 6 rfl) ?_
    refine lv_iconst (v := 0) hx hb (dg ddL_areBuskers 129 rfl) (by decide) ?_
    obtain ⟨r2, e1, hf⟩ := ob_some hf
    rcases r2 with t9 | x_r2
    · cases os_l hf
    have hf := os_r hf
    refine crv_ri CX hml (As := [.int x7, .int 0]) (rest := []) (ws := (wX4 q cy x_isv x_te x_re x_de x_now x_spa x_sna x_len x_sig x_nxt x_cnt x_rng)) (wsn := (wX4 q cy x_isv x_te x_re x_de x_now x_r2.2 x_sna x_len x_sig x_nxt x_cnt x_rng)) (wr := []) (c_X4_hatIn l D cy q x_isv x_te x_re x_de x_now x_spa x_sna x_len x_sig x_nxt x_cnt x_rng x7 0 _ hst e1) lk_RL_226 rfl rfl hRMX4_hatIn hP hD hS hA hK hN hX (List.Perm.of_eq (List.append_nil _).symm) (List.Perm.of_eq (List.append_nil _)) 0 rfl rfl rfl hl.1 rfl (Nat.le_of_ble_eq_true rfl) ⟨by show _ ≤ 328; omega, by show _ ≤ 2624; omega⟩ (dg ddL_areBuskers 130 rfl) (fun H locs hP hD hS => ?_)
    refine lv_aload_n hx hb (dg ddL_areBuskers 131 rfl) rfl (lv_at hl 0 rfl) ?_
    refine lv_iload hx hb (dg ddL_areBuskers 132 rfl) (lv_at hl 6 rfl) ?_
    obtain ⟨r4, e3, hf⟩ := ob_some hf
    rcases r4 with t9 | x_r4
    · cases os_l hf
    have hf := os_r hf
    refine crv_rf CX hml (As := [.int x7]) (rest := [.int x_r2.1]) (ws := (wX4 q cy x_isv x_te x_re x_de x_now x_r2.2 x_sna x_len x_sig x_nxt x_cnt x_rng)) (wsn := (wX4 q cy x_isv x_te x_re x_de x_now x_r2.2 x_sna x_len x_sig x_nxt x_cnt x_rng)) (wr := []) (c_X4_hat l D cy q x_isv x_te x_re x_de x_now x_r2.2 x_sna x_len x_sig x_nxt x_cnt x_rng x7 _ hst e3) lk_RL_178 rfl rfl hRMX4_hat hP hD hS hA hK hN hX (List.Perm.of_eq (List.append_nil _).symm) (List.Perm.of_eq (List.append_nil _)) 0 rfl rfl rfl hl.1 rfl (Nat.le_of_ble_eq_true rfl) ⟨by show _ ≤ 328; omega, by show _ ≤ 2624; omega⟩ (dg ddL_areBuskers 133 rfl) (fun H locs hP hD hS => ?_)
    obtain ⟨r6, e5, hf⟩ := ob_some hf
    refine cro_si CX hml (As := [.float x_r4]) (rest := [.int x_r2.1]) (c_Jxf58ca_floatToIntBits_5c35a l D cy x_r4 e5) lk_RL_169 rfl rfl hRMJxf58ca_floatToIntBits_5c35a vaP_nil hK hN rfl hl.1 rfl (Nat.le_of_ble_eq_true rfl) ⟨by show _ ≤ 328; omega, by show _ ≤ 2624; omega⟩ (dg ddL_areBuskers 134 rfl) ?_
    refine lv_icmp_ne (tgt := 255) hx hb (dg ddL_areBuskers 135 rfl) (by decide) (fun h7 => ?_) (fun h7 => ?_)
    · have hf := it_f h7 hf
      refine W.widen (k := (k + 3)) (n := (ks + 24)) (by omega) (by omega) ?_
      exact K255 N51 rec51 hrec51  x1 x2 x3 x4 x5 x7 x10 x_r2.2 (k + 3) (ks + 24) (by omega) (by omega) _ _ hP hD hS _ (lv_sub hl [0, 1, 2, 3, 4, 5, 6, 7] rfl) hf
    · have hf := it_t h7 hf
      refine lv_iconst (v := 1) hx hb (dg ddL_areBuskers 136 rfl) (by decide) ?_
      refine lv_goto (tgt := 256) hx hb (dg ddL_areBuskers 137 rfl) (by decide) ?_
      refine W.widen (k := (k + 3)) (n := (ks + 24)) (by omega) (by omega) ?_
      exact K256 N51 rec51 hrec51  x1 x2 x3 x4 x5 x7 x10 1 x_r2.2 (k + 3) (ks + 24) (by omega) (by omega) _ _ hP hD hS _ (lv_sub hl [0, 1, 2, 3, 4, 5, 6, 7] rfl) hf
  have K208 : ∀ (N51 : Nat) (rec51 : Int32 → Int32 → Int32 → Int32 → Int32 → Int32 → Int32 → SV → Option (Int32 × SV)) (hrec51 : ∀ (x1 : Int32) (x2 : Int32) (x3 : Int32) (x4 : Int32) (x5 : Int32) (x6 : Int32) (x7 : Int32) (x_spa : SV) (k ks : Nat) (hk : k + N51 ≤ 328) (hks : ks + 8 * N51 ≤ 2624) (H : Heap) (locs : List Loc) (hP : va_P D vwCl (wX4 q cy x_isv x_te x_re x_de x_now x_spa x_sna x_len x_sig x_nxt x_cnt x_rng) H) (hD : va_D A (wX4 q cy x_isv x_te x_re x_de x_now x_spa x_sna x_len x_sig x_nxt x_cnt x_rng)) (hS : va_S A s.heap H locs) (ls : Array Slot) (hl : lv_has ls 11 [(0, .ref (q 0 0)), (1, .int x1), (2, .int x2), (3, .int x3), (4, .int x4), (5, .int x5), (6, .int x6), (7, .int x7)]) (hf : rec51 x1 x2 x3 x4 x5 x6 x7 x_spa = some res), W p l e ⟨9, 328, 2624, 146⟩ s m args below meth c H locs k ks (MQ below (qI D (wX4 q cy x_isv x_te x_re x_de x_now res.2 x_sna x_len x_sig x_nxt x_cnt x_rng) res.1 A) args s 328 2624 A) (F0 m 51 ls [])), ∀ (x1 : Int32) (x2 : Int32) (x3 : Int32) (x4 : Int32) (x5 : Int32) (x7 : Int32) (x9 : Int32) (x10 : UInt32) (x_spa : SV) (k ks : Nat) (hk : k + (16 + N51) ≤ 328) (hks : ks + 8 * (16 + N51) ≤ 2624) (H : Heap) (locs : List Loc) (hP : va_P D vwCl (wX4 q cy x_isv x_te x_re x_de x_now x_spa x_sna x_len x_sig x_nxt x_cnt x_rng) H) (hD : va_D A (wX4 q cy x_isv x_te x_re x_de x_now x_spa x_sna x_len x_sig x_nxt x_cnt x_rng)) (hS : va_S A s.heap H locs) (ls : Array Slot) (hl : lv_has ls 11 [(0, .ref (q 0 0)), (1, .int x1), (2, .int x2), (3, .int x3), (4, .int x4), (5, .int x5), (7, .int x7), (9, .int x9), (10, .float x10)]) (hf : f_L_areBuskers_c208 rec51 x_now x_len x_cnt x1 x2 x3 x4 x5 x7 x9 x10 x_spa = some res), W p l e ⟨9, 328, 2624, 146⟩ s m args below meth c H locs k ks (MQ below (qI D (wX4 q cy x_isv x_te x_re x_de x_now res.2 x_sna x_len x_sig x_nxt x_cnt x_rng) res.1 A) args s 328 2624 A) (F0 m 208 ls []) := by
    intro N51 rec51 hrec51 x1 x2 x3 x4 x5 x7 x9 x10 x_spa k ks hk hks H locs hP hD hS ls hl hf
    refine lv_iload hx hb (dg ddL_areBuskers 115 rfl) (lv_at hl 7 rfl) ?_
    refine lv_if_lt (tgt := 232) hx hb (dg ddL_areBuskers 116 rfl) (by decide) (fun h1 => ?_) (fun h1 => ?_)
    · have hf := it_t h1 hf
      refine W.widen (k := (k + 0)) (n := (ks + 0)) (by omega) (by omega) ?_
      exact K232 N51 rec51 hrec51  x1 x2 x3 x4 x5 x7 x10 x_spa (k + 0) (ks + 0) (by omega) (by omega) _ _ hP hD hS _ (lv_sub hl [0, 1, 2, 3, 4, 5, 6, 8] rfl) hf
    · have hf := it_f h1 hf
      refine lv_aload_n hx hb (dg ddL_areBuskers 117 rfl) rfl (lv_at hl 0 rfl) ?_
      refine lv_iload hx hb (dg ddL_areBuskers 118 rfl) (lv_at hl 7 rfl) ?_
      refine lv_iconst (v := 0) hx hb (dg ddL_areBuskers 119 rfl) (by decide) ?_
      obtain ⟨r3, e2, hf⟩ := ob_some hf
      rcases r3 with t9 | x_r3
      · cases os_l hf
      have hf := os_r hf
      refine crv_ri CX hml (As := [.int x9, .int 0]) (rest := []) (ws := (wX4 q cy x_isv x_te x_re x_de x_now x_spa x_sna x_len x_sig x_nxt x_cnt x_rng)) (wsn := (wX4 q cy x_isv x_te x_re x_de x_now x_spa x_sna x_len x_sig x_nxt x_cnt x_rng)) (wr := []) (c_X4_pitchOf l D cy q x_isv x_te x_re x_de x_now x_spa x_sna x_len x_sig x_nxt x_cnt x_rng x9 0 _ hst e2) lk_RL_175 rfl rfl hRMX4_pitchOf hP hD hS hA hK hN hX (List.Perm.of_eq (List.append_nil _).symm) (List.Perm.of_eq (List.append_nil _)) 0 rfl rfl rfl hl.1 rfl (Nat.le_of_ble_eq_true rfl) ⟨by show _ ≤ 328; omega, by show _ ≤ 2624; omega⟩ (dg ddL_areBuskers 120 rfl) (fun H locs hP hD hS => ?_)
      refine lv_iload hx hb (dg ddL_areBuskers 121 rfl) (lv_at hl 6 rfl) ?_
      refine lv_icmp_ne (tgt := 255) hx hb (dg ddL_areBuskers 122 rfl) (by decide) (fun h4 => ?_) (fun h4 => ?_)
      · have hf := it_f h4 hf
        refine W.widen (k := (k + 2)) (n := (ks + 16)) (by omega) (by omega) ?_
        exact K255 N51 rec51 hrec51  x1 x2 x3 x4 x5 x7 x10 x_spa (k + 2) (ks + 16) (by omega) (by omega) _ _ hP hD hS _ (lv_sub hl [0, 1, 2, 3, 4, 5, 6, 8] rfl) hf
      · have hf := it_t h4 hf
        refine lv_fload hx hb (dg ddL_areBuskers 123 rfl) (lv_at hl 8 rfl) ?_
        refine lv_fconst1 hx hb (dg ddL_areBuskers 124 rfl) ?_
        refine lv_fcmp hx hb (dg ddL_areBuskers 125 rfl) ?_
        refine lv_if_ge (tgt := 255) hx hb (dg ddL_areBuskers 126 rfl) (by decide) (fun h5 => ?_) (fun h5 => ?_)
        · have hf := it_t h5 hf
          refine W.widen (k := (k + 2)) (n := (ks + 16)) (by omega) (by omega) ?_
          exact K255 N51 rec51 hrec51  x1 x2 x3 x4 x5 x7 x10 x_spa (k + 2) (ks + 16) (by omega) (by omega) _ _ hP hD hS _ (lv_sub hl [0, 1, 2, 3, 4, 5, 6, 8] rfl) hf
        · have hf := it_f h5 hf
          refine W.widen (k := (k + 2)) (n := (ks + 16)) (by omega) (by omega) ?_
          exact K232 N51 rec51 hrec51  x1 x2 x3 x4 x5 x7 x10 x_spa (k + 2) (ks + 16) (by omega) (by omega) _ _ hP hD hS _ (lv_sub hl [0, 1, 2, 3, 4, 5, 6, 8] rfl) hf
  have K153 : ∀ (N51 : Nat) (rec51 : Int32 → Int32 → Int32 → Int32 → Int32 → Int32 → Int32 → SV → Option (Int32 × SV)) (hrec51 : ∀ (x1 : Int32) (x2 : Int32) (x3 : Int32) (x4 : Int32) (x5 : Int32) (x6 : Int32) (x7 : Int32) (x_spa : SV) (k ks : Nat) (hk : k + N51 ≤ 328) (hks : ks + 8 * N51 ≤ 2624) (H : Heap) (locs : List Loc) (hP : va_P D vwCl (wX4 q cy x_isv x_te x_re x_de x_now x_spa x_sna x_len x_sig x_nxt x_cnt x_rng) H) (hD : va_D A (wX4 q cy x_isv x_te x_re x_de x_now x_spa x_sna x_len x_sig x_nxt x_cnt x_rng)) (hS : va_S A s.heap H locs) (ls : Array Slot) (hl : lv_has ls 11 [(0, .ref (q 0 0)), (1, .int x1), (2, .int x2), (3, .int x3), (4, .int x4), (5, .int x5), (6, .int x6), (7, .int x7)]) (hf : rec51 x1 x2 x3 x4 x5 x6 x7 x_spa = some res), W p l e ⟨9, 328, 2624, 146⟩ s m args below meth c H locs k ks (MQ below (qI D (wX4 q cy x_isv x_te x_re x_de x_now res.2 x_sna x_len x_sig x_nxt x_cnt x_rng) res.1 A) args s 328 2624 A) (F0 m 51 ls [])), ∀ (x1 : Int32) (x2 : Int32) (x3 : Int32) (x5 : Int32) (x7 : Int32) (x8 : Int32) (x9 : Int32) (x10 : UInt32) (t0 : Int32) (t1 : Int32) (x_spa : SV) (k ks : Nat) (hk : k + (20 + N51) ≤ 328) (hks : ks + 8 * (20 + N51) ≤ 2624) (H : Heap) (locs : List Loc) (hP : va_P D vwCl (wX4 q cy x_isv x_te x_re x_de x_now x_spa x_sna x_len x_sig x_nxt x_cnt x_rng) H) (hD : va_D A (wX4 q cy x_isv x_te x_re x_de x_now x_spa x_sna x_len x_sig x_nxt x_cnt x_rng)) (hS : va_S A s.heap H locs) (ls : Array Slot) (hl : lv_has ls 11 [(0, .ref (q 0 0)), (1, .int x1), (2, .int x2), (3, .int x3), (5, .int x5), (7, .int x7), (8, .int x8), (9, .int x9), (10, .float x10)]) (hf : f_L_areBuskers_c153 rec51 x_now x_len x_cnt x1 x2 x3 x5 x7 x8 x9 x10 t0 t1 x_spa = some res), W p l e ⟨9, 328, 2624, 146⟩ s m args below meth c H locs k ks (MQ below (qI D (wX4 q cy x_isv x_te x_re x_de x_now res.2 x_sna x_len x_sig x_nxt x_cnt x_rng) res.1 A) args s 328 2624 A) (F0 m 153 ls [.int t0, .int t1]) := by
    intro N51 rec51 hrec51 x1 x2 x3 x5 x7 x8 x9 x10 t0 t1 x_spa k ks hk hks H locs hP hD hS ls hl hf
    refine lv_iadd hx hb (dg ddL_areBuskers 87 rfl) ?_
    refine lv_istore (lv' := [(4, .int (t1 + t0)), (0, .ref (q 0 0)), (1, .int x1), (2, .int x2), (3, .int x3), (5, .int x5), (7, .int x7), (8, .int x8), (9, .int x9), (10, .float x10)]) hx hb (dg ddL_areBuskers 88 rfl) hl (by decide) rfl (fun ls hl => ?_)
    refine lv_iload hx hb (dg ddL_areBuskers 89 rfl) (lv_at hl 5 rfl) ?_
    refine lv_aload_n hx hb (dg ddL_areBuskers 90 rfl) rfl (lv_at hl 1 rfl) ?_
    refine lv_iload hx hb (dg ddL_areBuskers 91 rfl) (lv_at hl 6 rfl) ?_
    refine lv_bipush (v := 6) hx hb (dg ddL_areBuskers 92 rfl) (by decide) ?_
    obtain ⟨r2, e1, hf⟩ := ob_some hf
    rcases r2 with t9 | x_r2
    · cases os_l hf
    have hf := os_r hf
    refine crv_ri CX hml (As := [.int x7, .int 6]) (rest := [.int x5]) (ws := (wX4 q cy x_isv x_te x_re x_de x_now x_spa x_sna x_len x_sig x_nxt x_cnt x_rng)) (wsn := (wX4 q cy x_isv x_te x_re x_de x_now x_spa x_sna x_len x_sig x_nxt x_cnt x_rng)) (wr := []) (c_X4_buskerOf l D cy q x_isv x_te x_re x_de x_now x_spa x_sna x_len x_sig x_nxt x_cnt x_rng x7 6 _ hst e1) lk_RL_184 rfl rfl hRMX4_buskerOf hP hD hS hA hK hN hX (List.Perm.of_eq (List.append_nil _).symm) (List.Perm.of_eq (List.append_nil _)) 0 rfl rfl rfl hl.1 rfl (Nat.le_of_ble_eq_true rfl) ⟨by show _ ≤ 328; omega, by show _ ≤ 2624; omega⟩ (dg ddL_areBuskers 93 rfl) (fun H locs hP hD hS => ?_)
    refine lv_iadd hx hb (dg ddL_areBuskers 94 rfl) ?_
    refine lv_istore (lv' := [(5, .int (x5 + x_r2)), (4, .int (t1 + t0)), (0, .ref (q 0 0)), (1, .int x1), (2, .int x2), (3, .int x3), (7, .int x7), (8, .int x8), (9, .int x9), (10, .float x10)]) hx hb (dg ddL_areBuskers 95 rfl) hl (by decide) rfl (fun ls hl => ?_)
    refine lv_aload_n hx hb (dg ddL_areBuskers 96 rfl) rfl (lv_at hl 2 rfl) ?_
    refine lv_iload hx hb (dg ddL_areBuskers 97 rfl) (lv_at hl 6 rfl) ?_
    obtain ⟨r4, e3, hf⟩ := ob_some hf
    rcases r4 with t9 | x_r4
    · cases os_l hf
    have hf := os_r hf
    refine crv_rf CX hml (As := [.int x7]) (rest := []) (ws := (wX4 q cy x_isv x_te x_re x_de x_now x_spa x_sna x_len x_sig x_nxt x_cnt x_rng)) (wsn := (wX4 q cy x_isv x_te x_re x_de x_now x_spa x_sna x_len x_sig x_nxt x_cnt x_rng)) (wr := []) (c_X4_hat l D cy q x_isv x_te x_re x_de x_now x_spa x_sna x_len x_sig x_nxt x_cnt x_rng x7 _ hst e3) lk_RL_178 rfl rfl hRMX4_hat hP hD hS hA hK hN hX (List.Perm.of_eq (List.append_nil _).symm) (List.Perm.of_eq (List.append_nil _)) 0 rfl rfl rfl hl.1 rfl (Nat.le_of_ble_eq_true rfl) ⟨by show _ ≤ 328; omega, by show _ ≤ 2624; omega⟩ (dg ddL_areBuskers 98 rfl) (fun H locs hP hD hS => ?_)
    refine lv_fconst0 hx hb (dg ddL_areBuskers 99 rfl) ?_
    refine lv_fcmp hx hb (dg ddL_areBuskers 100 rfl) ?_
    refine lv_if_lt (tgt := 255) hx hb (dg ddL_areBuskers 101 rfl) (by decide) (fun h5 => ?_) (fun h5 => ?_)
    · have hf := it_t h5 hf
      refine W.widen (k := (k + 3)) (n := (ks + 24)) (by omega) (by omega) ?_
      exact K255 N51 rec51 hrec51  x1 x2 x3 (t1 + t0) (x5 + x_r2) x7 x10 x_spa (k + 3) (ks + 24) (by omega) (by omega) _ _ hP hD hS _ (lv_sub hl [2, 3, 4, 5, 1, 0, 6, 9] rfl) hf
    · have hf := it_f h5 hf
      refine lv_fload hx hb (dg ddL_areBuskers 102 rfl) (lv_at hl 9 rfl) ?_
      refine lv_fconst0 hx hb (dg ddL_areBuskers 103 rfl) ?_
      refine lv_fcmp hx hb (dg ddL_areBuskers 104 rfl) ?_
      refine lv_if_lt (tgt := 255) hx hb (dg ddL_areBuskers 105 rfl) (by decide) (fun h6 => ?_) (fun h6 => ?_)
      · have hf := it_t h6 hf
        refine W.widen (k := (k + 3)) (n := (ks + 24)) (by omega) (by omega) ?_
        exact K255 N51 rec51 hrec51  x1 x2 x3 (t1 + t0) (x5 + x_r2) x7 x10 x_spa (k + 3) (ks + 24) (by omega) (by omega) _ _ hP hD hS _ (lv_sub hl [2, 3, 4, 5, 1, 0, 6, 9] rfl) hf
      · have hf := it_f h6 hf
        refine lv_iload hx hb (dg ddL_areBuskers 106 rfl) (lv_at hl 7 rfl) ?_
        refine lv_if_lt (tgt := 208) hx hb (dg ddL_areBuskers 107 rfl) (by decide) (fun h7 => ?_) (fun h7 => ?_)
        · have hf := it_t h7 hf
          refine W.widen (k := (k + 3)) (n := (ks + 24)) (by omega) (by omega) ?_
          exact K208 N51 rec51 hrec51  x1 x2 x3 (t1 + t0) (x5 + x_r2) x7 x9 x10 x_spa (k + 3) (ks + 24) (by omega) (by omega) _ _ hP hD hS _ (lv_sub hl [2, 3, 4, 5, 1, 0, 6, 8, 9] rfl) hf
        · have hf := it_f h7 hf
          refine lv_iload hx hb (dg ddL_areBuskers 108 rfl) (lv_at hl 8 rfl) ?_
          refine lv_if_ge (tgt := 255) hx hb (dg ddL_areBuskers 109 rfl) (by decide) (fun h8 => ?_) (fun h8 => ?_)
          · have hf := it_t h8 hf
            refine W.widen (k := (k + 3)) (n := (ks + 24)) (by omega) (by omega) ?_
            exact K255 N51 rec51 hrec51  x1 x2 x3 (t1 + t0) (x5 + x_r2) x7 x10 x_spa (k + 3) (ks + 24) (by omega) (by omega) _ _ hP hD hS _ (lv_sub hl [2, 3, 4, 5, 1, 0, 6, 9] rfl) hf
          · have hf := it_f h8 hf
            refine lv_aload_n hx hb (dg ddL_areBuskers 110 rfl) rfl (lv_at hl 2 rfl) ?_
            refine lv_iload hx hb (dg ddL_areBuskers 111 rfl) (lv_at hl 7 rfl) ?_
            obtain ⟨r10, e9, hf⟩ := ob_some hf
            refine crl_i CX hml (As := [.ref (q 0 0), .int x8]) (rest := []) (ws := (wX4 q cy x_isv x_te x_re x_de x_now x_spa x_sna x_len x_sig x_nxt x_cnt x_rng)) (wsn := (wX4 q cy x_isv x_te x_re x_de x_now x_spa x_sna x_len x_sig x_nxt x_cnt x_rng)) (wr := []) (c_L_waiting l D cy q x_isv x_te x_re x_de x_now x_spa x_sna x_len x_sig x_nxt x_cnt x_rng x8 _ hst e9) lk_RL_187 rfl rfl hRML_waiting hP hD hS hA hK hN hX hC (List.Perm.of_eq (List.append_nil _).symm) (List.Perm.of_eq (List.append_nil _)) rfl hl.1 rfl (Nat.le_of_ble_eq_true rfl) ⟨by show _ ≤ 328; omega, by show _ ≤ 2624; omega⟩ (dg ddL_areBuskers 112 rfl) (fun H locs hP hD hS => ?_)
            refine lv_iload hx hb (dg ddL_areBuskers 113 rfl) (lv_at hl 6 rfl) ?_
            refine lv_icmp_ne (tgt := 255) hx hb (dg ddL_areBuskers 114 rfl) (by decide) (fun h11 => ?_) (fun h11 => ?_)
            · have hf := it_f h11 hf
              refine W.widen (k := (k + 4)) (n := (ks + 32)) (by omega) (by omega) ?_
              exact K255 N51 rec51 hrec51  x1 x2 x3 (t1 + t0) (x5 + x_r2) x7 x10 x_spa (k + 4) (ks + 32) (by omega) (by omega) _ _ hP hD hS _ (lv_sub hl [2, 3, 4, 5, 1, 0, 6, 9] rfl) hf
            · have hf := it_t h11 hf
              refine W.widen (k := (k + 4)) (n := (ks + 32)) (by omega) (by omega) ?_
              exact K208 N51 rec51 hrec51  x1 x2 x3 (t1 + t0) (x5 + x_r2) x7 x9 x10 x_spa (k + 4) (ks + 32) (by omega) (by omega) _ _ hP hD hS _ (lv_sub hl [2, 3, 4, 5, 1, 0, 6, 8, 9] rfl) hf
  have K134 : ∀ (N51 : Nat) (rec51 : Int32 → Int32 → Int32 → Int32 → Int32 → Int32 → Int32 → SV → Option (Int32 × SV)) (hrec51 : ∀ (x1 : Int32) (x2 : Int32) (x3 : Int32) (x4 : Int32) (x5 : Int32) (x6 : Int32) (x7 : Int32) (x_spa : SV) (k ks : Nat) (hk : k + N51 ≤ 328) (hks : ks + 8 * N51 ≤ 2624) (H : Heap) (locs : List Loc) (hP : va_P D vwCl (wX4 q cy x_isv x_te x_re x_de x_now x_spa x_sna x_len x_sig x_nxt x_cnt x_rng) H) (hD : va_D A (wX4 q cy x_isv x_te x_re x_de x_now x_spa x_sna x_len x_sig x_nxt x_cnt x_rng)) (hS : va_S A s.heap H locs) (ls : Array Slot) (hl : lv_has ls 11 [(0, .ref (q 0 0)), (1, .int x1), (2, .int x2), (3, .int x3), (4, .int x4), (5, .int x5), (6, .int x6), (7, .int x7)]) (hf : rec51 x1 x2 x3 x4 x5 x6 x7 x_spa = some res), W p l e ⟨9, 328, 2624, 146⟩ s m args below meth c H locs k ks (MQ below (qI D (wX4 q cy x_isv x_te x_re x_de x_now res.2 x_sna x_len x_sig x_nxt x_cnt x_rng) res.1 A) args s 328 2624 A) (F0 m 51 ls [])), ∀ (x1 : Int32) (x2 : Int32) (x4 : Int32) (x5 : Int32) (x7 : Int32) (x8 : Int32) (x9 : Int32) (x10 : UInt32) (t0 : Int32) (t1 : Int32) (x_spa : SV) (k ks : Nat) (hk : k + (22 + N51) ≤ 328) (hks : ks + 8 * (22 + N51) ≤ 2624) (H : Heap) (locs : List Loc) (hP : va_P D vwCl (wX4 q cy x_isv x_te x_re x_de x_now x_spa x_sna x_len x_sig x_nxt x_cnt x_rng) H) (hD : va_D A (wX4 q cy x_isv x_te x_re x_de x_now x_spa x_sna x_len x_sig x_nxt x_cnt x_rng)) (hS : va_S A s.heap H locs) (ls : Array Slot) (hl : lv_has ls 11 [(0, .ref (q 0 0)), (1, .int x1), (2, .int x2), (4, .int x4), (5, .int x5), (7, .int x7), (8, .int x8), (9, .int x9), (10, .float x10)]) (hf : f_L_areBuskers_c134 rec51 x_now x_len x_cnt x1 x2 x4 x5 x7 x8 x9 x10 t0 t1 x_spa = some res), W p l e ⟨9, 328, 2624, 146⟩ s m args below meth c H locs k ks (MQ below (qI D (wX4 q cy x_isv x_te x_re x_de x_now res.2 x_sna x_len x_sig x_nxt x_cnt x_rng) res.1 A) args s 328 2624 A) (F0 m 134 ls [.int t0, .int t1]) := by
    intro N51 rec51 hrec51 x1 x2 x4 x5 x7 x8 x9 x10 t0 t1 x_spa k ks hk hks H locs hP hD hS ls hl hf
    refine lv_iadd hx hb (dg ddL_areBuskers 76 rfl) ?_
    refine lv_istore_n (lv' := [(3, .int (t1 + t0)), (0, .ref (q 0 0)), (1, .int x1), (2, .int x2), (4, .int x4), (5, .int x5), (7, .int x7), (8, .int x8), (9, .int x9), (10, .float x10)]) hx hb (dg ddL_areBuskers 77 rfl) rfl hl (by decide) rfl (fun ls hl => ?_)
    refine lv_iload hx hb (dg ddL_areBuskers 78 rfl) (lv_at hl 4 rfl) ?_
    refine lv_aload_n hx hb (dg ddL_areBuskers 79 rfl) rfl (lv_at hl 1 rfl) ?_
    refine lv_iload hx hb (dg ddL_areBuskers 80 rfl) (lv_at hl 6 rfl) ?_
    refine lv_iconst (v := 4) hx hb (dg ddL_areBuskers 81 rfl) (by decide) ?_
    obtain ⟨r2, e1, hf⟩ := ob_some hf
    rcases r2 with t9 | x_r2
    · cases os_l hf
    have hf := os_r hf
    refine crv_ri CX hml (As := [.int x7, .int 4]) (rest := [.int x4]) (ws := (wX4 q cy x_isv x_te x_re x_de x_now x_spa x_sna x_len x_sig x_nxt x_cnt x_rng)) (wsn := (wX4 q cy x_isv x_te x_re x_de x_now x_spa x_sna x_len x_sig x_nxt x_cnt x_rng)) (wr := []) (c_X4_buskerOf l D cy q x_isv x_te x_re x_de x_now x_spa x_sna x_len x_sig x_nxt x_cnt x_rng x7 4 _ hst e1) lk_RL_184 rfl rfl hRMX4_buskerOf hP hD hS hA hK hN hX (List.Perm.of_eq (List.append_nil _).symm) (List.Perm.of_eq (List.append_nil _)) 0 rfl rfl rfl hl.1 rfl (Nat.le_of_ble_eq_true rfl) ⟨by show _ ≤ 328; omega, by show _ ≤ 2624; omega⟩ (dg ddL_areBuskers 82 rfl) (fun H locs hP hD hS => ?_)
    refine lv_if_ge (tgt := 152) hx hb (dg ddL_areBuskers 83 rfl) (by decide) (fun h3 => ?_) (fun h3 => ?_)
    · have hf := it_t h3 hf
      refine lv_iconst (v := 1) hx hb (dg ddL_areBuskers 86 rfl) (by decide) ?_
      refine W.widen (k := (k + 2)) (n := (ks + 16)) (by omega) (by omega) ?_
      exact K153 N51 rec51 hrec51  x1 x2 (t1 + t0) x5 x7 x8 x9 x10 1 x4 x_spa (k + 2) (ks + 16) (by omega) (by omega) _ _ hP hD hS _ (lv_sub hl [1, 2, 3, 0, 5, 6, 7, 8, 9] rfl) hf
    · have hf := it_f h3 hf
      refine lv_iconst (v := 0) hx hb (dg ddL_areBuskers 84 rfl) (by decide) ?_
      refine lv_goto (tgt := 153) hx hb (dg ddL_areBuskers 85 rfl) (by decide) ?_
      refine W.widen (k := (k + 2)) (n := (ks + 16)) (by omega) (by omega) ?_
      exact K153 N51 rec51 hrec51  x1 x2 (t1 + t0) x5 x7 x8 x9 x10 0 x4 x_spa (k + 2) (ks + 16) (by omega) (by omega) _ _ hP hD hS _ (lv_sub hl [1, 2, 3, 0, 5, 6, 7, 8, 9] rfl) hf
  have K119 : ∀ (N51 : Nat) (rec51 : Int32 → Int32 → Int32 → Int32 → Int32 → Int32 → Int32 → SV → Option (Int32 × SV)) (hrec51 : ∀ (x1 : Int32) (x2 : Int32) (x3 : Int32) (x4 : Int32) (x5 : Int32) (x6 : Int32) (x7 : Int32) (x_spa : SV) (k ks : Nat) (hk : k + N51 ≤ 328) (hks : ks + 8 * N51 ≤ 2624) (H : Heap) (locs : List Loc) (hP : va_P D vwCl (wX4 q cy x_isv x_te x_re x_de x_now x_spa x_sna x_len x_sig x_nxt x_cnt x_rng) H) (hD : va_D A (wX4 q cy x_isv x_te x_re x_de x_now x_spa x_sna x_len x_sig x_nxt x_cnt x_rng)) (hS : va_S A s.heap H locs) (ls : Array Slot) (hl : lv_has ls 11 [(0, .ref (q 0 0)), (1, .int x1), (2, .int x2), (3, .int x3), (4, .int x4), (5, .int x5), (6, .int x6), (7, .int x7)]) (hf : rec51 x1 x2 x3 x4 x5 x6 x7 x_spa = some res), W p l e ⟨9, 328, 2624, 146⟩ s m args below meth c H locs k ks (MQ below (qI D (wX4 q cy x_isv x_te x_re x_de x_now res.2 x_sna x_len x_sig x_nxt x_cnt x_rng) res.1 A) args s 328 2624 A) (F0 m 51 ls [])), ∀ (x1 : Int32) (x3 : Int32) (x4 : Int32) (x5 : Int32) (x7 : Int32) (x8 : Int32) (x9 : Int32) (x10 : UInt32) (t0 : Int32) (t1 : Int32) (x_spa : SV) (k ks : Nat) (hk : k + (22 + N51) ≤ 328) (hks : ks + 8 * (22 + N51) ≤ 2624) (H : Heap) (locs : List Loc) (hP : va_P D vwCl (wX4 q cy x_isv x_te x_re x_de x_now x_spa x_sna x_len x_sig x_nxt x_cnt x_rng) H) (hD : va_D A (wX4 q cy x_isv x_te x_re x_de x_now x_spa x_sna x_len x_sig x_nxt x_cnt x_rng)) (hS : va_S A s.heap H locs) (ls : Array Slot) (hl : lv_has ls 11 [(0, .ref (q 0 0)), (1, .int x1), (3, .int x3), (4, .int x4), (5, .int x5), (7, .int x7), (8, .int x8), (9, .int x9), (10, .float x10)]) (hf : f_L_areBuskers_c119 rec51 x_now x_len x_cnt x1 x3 x4 x5 x7 x8 x9 x10 t0 t1 x_spa = some res), W p l e ⟨9, 328, 2624, 146⟩ s m args below meth c H locs k ks (MQ below (qI D (wX4 q cy x_isv x_te x_re x_de x_now res.2 x_sna x_len x_sig x_nxt x_cnt x_rng) res.1 A) args s 328 2624 A) (F0 m 119 ls [.int t0, .int t1]) := by
    intro N51 rec51 hrec51 x1 x3 x4 x5 x7 x8 x9 x10 t0 t1 x_spa k ks hk hks H locs hP hD hS ls hl hf
    refine lv_iadd hx hb (dg ddL_areBuskers 66 rfl) ?_
    refine lv_istore_n (lv' := [(2, .int (t1 + t0)), (0, .ref (q 0 0)), (1, .int x1), (3, .int x3), (4, .int x4), (5, .int x5), (7, .int x7), (8, .int x8), (9, .int x9), (10, .float x10)]) hx hb (dg ddL_areBuskers 67 rfl) rfl hl (by decide) rfl (fun ls hl => ?_)
    refine lv_iload_n hx hb (dg ddL_areBuskers 68 rfl) rfl (lv_at hl 3 rfl) ?_
    refine lv_fload hx hb (dg ddL_areBuskers 69 rfl) (lv_at hl 9 rfl) ?_
    refine lv_fconst1 hx hb (dg ddL_areBuskers 70 rfl) ?_
    refine lv_fcmp hx hb (dg ddL_areBuskers 71 rfl) ?_
    refine lv_if_lt (tgt := 133) hx hb (dg ddL_areBuskers 72 rfl) (by decide) (fun h1 => ?_) (fun h1 => ?_)
    · have hf := it_t h1 hf
      refine lv_iconst (v := 0) hx hb (dg ddL_areBuskers 75 rfl) (by decide) ?_
      refine W.widen (k := (k + 0)) (n := (ks + 0)) (by omega) (by omega) ?_
      exact K134 N51 rec51 hrec51  x1 (t1 + t0) x4 x5 x7 x8 x9 x10 0 x3 x_spa (k + 0) (ks + 0) (by omega) (by omega) _ _ hP hD hS _ (lv_sub hl [1, 2, 0, 4, 5, 6, 7, 8, 9] rfl) hf
    · have hf := it_f h1 hf
      refine lv_iconst (v := 1) hx hb (dg ddL_areBuskers 73 rfl) (by decide) ?_
      refine lv_goto (tgt := 134) hx hb (dg ddL_areBuskers 74 rfl) (by decide) ?_
      refine W.widen (k := (k + 0)) (n := (ks + 0)) (by omega) (by omega) ?_
      exact K134 N51 rec51 hrec51  x1 (t1 + t0) x4 x5 x7 x8 x9 x10 1 x3 x_spa (k + 0) (ks + 0) (by omega) (by omega) _ _ hP hD hS _ (lv_sub hl [1, 2, 0, 4, 5, 6, 7, 8, 9] rfl) hf
  have K106 : ∀ (N51 : Nat) (rec51 : Int32 → Int32 → Int32 → Int32 → Int32 → Int32 → Int32 → SV → Option (Int32 × SV)) (hrec51 : ∀ (x1 : Int32) (x2 : Int32) (x3 : Int32) (x4 : Int32) (x5 : Int32) (x6 : Int32) (x7 : Int32) (x_spa : SV) (k ks : Nat) (hk : k + N51 ≤ 328) (hks : ks + 8 * N51 ≤ 2624) (H : Heap) (locs : List Loc) (hP : va_P D vwCl (wX4 q cy x_isv x_te x_re x_de x_now x_spa x_sna x_len x_sig x_nxt x_cnt x_rng) H) (hD : va_D A (wX4 q cy x_isv x_te x_re x_de x_now x_spa x_sna x_len x_sig x_nxt x_cnt x_rng)) (hS : va_S A s.heap H locs) (ls : Array Slot) (hl : lv_has ls 11 [(0, .ref (q 0 0)), (1, .int x1), (2, .int x2), (3, .int x3), (4, .int x4), (5, .int x5), (6, .int x6), (7, .int x7)]) (hf : rec51 x1 x2 x3 x4 x5 x6 x7 x_spa = some res), W p l e ⟨9, 328, 2624, 146⟩ s m args below meth c H locs k ks (MQ below (qI D (wX4 q cy x_isv x_te x_re x_de x_now res.2 x_sna x_len x_sig x_nxt x_cnt x_rng) res.1 A) args s 328 2624 A) (F0 m 51 ls [])), ∀ (x2 : Int32) (x3 : Int32) (x4 : Int32) (x5 : Int32) (x7 : Int32) (x8 : Int32) (x9 : Int32) (x10 : UInt32) (t0 : Int32) (t1 : Int32) (x_spa : SV) (k ks : Nat) (hk : k + (22 + N51) ≤ 328) (hks : ks + 8 * (22 + N51) ≤ 2624) (H : Heap) (locs : List Loc) (hP : va_P D vwCl (wX4 q cy x_isv x_te x_re x_de x_now x_spa x_sna x_len x_sig x_nxt x_cnt x_rng) H) (hD : va_D A (wX4 q cy x_isv x_te x_re x_de x_now x_spa x_sna x_len x_sig x_nxt x_cnt x_rng)) (hS : va_S A s.heap H locs) (ls : Array Slot) (hl : lv_has ls 11 [(0, .ref (q 0 0)), (2, .int x2), (3, .int x3), (4, .int x4), (5, .int x5), (7, .int x7), (8, .int x8), (9, .int x9), (10, .float x10)]) (hf : f_L_areBuskers_c106 rec51 x_now x_len x_cnt x2 x3 x4 x5 x7 x8 x9 x10 t0 t1 x_spa = some res), W p l e ⟨9, 328, 2624, 146⟩ s m args below meth c H locs k ks (MQ below (qI D (wX4 q cy x_isv x_te x_re x_de x_now res.2 x_sna x_len x_sig x_nxt x_cnt x_rng) res.1 A) args s 328 2624 A) (F0 m 106 ls [.int t0, .int t1]) := by
    intro N51 rec51 hrec51 x2 x3 x4 x5 x7 x8 x9 x10 t0 t1 x_spa k ks hk hks H locs hP hD hS ls hl hf
    refine lv_iadd hx hb (dg ddL_areBuskers 58 rfl) ?_
    refine lv_istore_n (lv' := [(1, .int (t1 + t0)), (0, .ref (q 0 0)), (2, .int x2), (3, .int x3), (4, .int x4), (5, .int x5), (7, .int x7), (8, .int x8), (9, .int x9), (10, .float x10)]) hx hb (dg ddL_areBuskers 59 rfl) rfl hl (by decide) rfl (fun ls hl => ?_)
    refine lv_iload_n hx hb (dg ddL_areBuskers 60 rfl) rfl (lv_at hl 2 rfl) ?_
    refine lv_iload hx hb (dg ddL_areBuskers 61 rfl) (lv_at hl 8 rfl) ?_
    refine lv_if_ge (tgt := 118) hx hb (dg ddL_areBuskers 62 rfl) (by decide) (fun h1 => ?_) (fun h1 => ?_)
    · have hf := it_t h1 hf
      refine lv_iconst (v := 1) hx hb (dg ddL_areBuskers 65 rfl) (by decide) ?_
      refine W.widen (k := (k + 0)) (n := (ks + 0)) (by omega) (by omega) ?_
      exact K119 N51 rec51 hrec51  (t1 + t0) x3 x4 x5 x7 x8 x9 x10 1 x2 x_spa (k + 0) (ks + 0) (by omega) (by omega) _ _ hP hD hS _ (lv_sub hl [1, 0, 3, 4, 5, 6, 7, 8, 9] rfl) hf
    · have hf := it_f h1 hf
      refine lv_iconst (v := 0) hx hb (dg ddL_areBuskers 63 rfl) (by decide) ?_
      refine lv_goto (tgt := 119) hx hb (dg ddL_areBuskers 64 rfl) (by decide) ?_
      refine W.widen (k := (k + 0)) (n := (ks + 0)) (by omega) (by omega) ?_
      exact K119 N51 rec51 hrec51  (t1 + t0) x3 x4 x5 x7 x8 x9 x10 0 x2 x_spa (k + 0) (ks + 0) (by omega) (by omega) _ _ hP hD hS _ (lv_sub hl [1, 0, 3, 4, 5, 6, 7, 8, 9] rfl) hf
  have K459 : ∀ (x1 : Int32) (x2 : Int32) (x3 : Int32) (x4 : Int32) (x5 : Int32) (x6 : Int32) (x_spa : SV) (k ks : Nat) (hk : k + (7) ≤ 328) (hks : ks + 8 * (7) ≤ 2624) (H : Heap) (locs : List Loc) (hP : va_P D vwCl (wX4 q cy x_isv x_te x_re x_de x_now x_spa x_sna x_len x_sig x_nxt x_cnt x_rng) H) (hD : va_D A (wX4 q cy x_isv x_te x_re x_de x_now x_spa x_sna x_len x_sig x_nxt x_cnt x_rng)) (hS : va_S A s.heap H locs) (ls : Array Slot) (hl : lv_has ls 11 [(0, .ref (q 0 0)), (1, .int x1), (2, .int x2), (3, .int x3), (4, .int x4), (5, .int x5), (6, .int x6)]) (hf : f_L_areBuskers_c459 x_now x_len x_cnt x1 x2 x3 x4 x5 x6 x_spa = some res), W p l e ⟨9, 328, 2624, 146⟩ s m args below meth c H locs k ks (MQ below (qI D (wX4 q cy x_isv x_te x_re x_de x_now res.2 x_sna x_len x_sig x_nxt x_cnt x_rng) res.1 A) args s 328 2624 A) (F0 m 459 ls []) := by
    intro x1 x2 x3 x4 x5 x6 x_spa k ks hk hks H locs hP hD hS ls hl hf
    refine lv_iload hx hb (dg ddL_areBuskers 240 rfl) (lv_at hl 6 rfl) ?_
    refine lv_if_eq (tgt := 535) hx hb (dg ddL_areBuskers 241 rfl) (by decide) (fun h1 => ?_) (fun h1 => ?_)
    · have hf := it_t h1 hf
      refine lv_iconst (v := 0) hx hb (dg ddL_areBuskers 280 rfl) (by decide) ?_
      cases hf
      refine W.widen (k := 328) (n := 2624) (by omega) (by omega) ?_
      exact e_wz CX hr hlk (by decide) rfl hP hD hS (dg ddL_areBuskers 281 rfl)
    · have hf := it_f h1 hf
      refine lv_iload_n hx hb (dg ddL_areBuskers 242 rfl) rfl (lv_at hl 1 rfl) ?_
      refine lv_aload_n hx hb (dg ddL_areBuskers 243 rfl) rfl (lv_at hl 0 rfl) ?_
      refine lv_iconst (v := 4) hx hb (dg ddL_areBuskers 244 rfl) (by decide) ?_
      obtain ⟨r3, e2, hf⟩ := ob_some hf
      rcases r3 with t9 | x_r3
      · cases os_l hf
      have hf := os_r hf
      refine crv_ri CX hml (As := [.int 4]) (rest := [.int x1]) (ws := (wX4 q cy x_isv x_te x_re x_de x_now x_spa x_sna x_len x_sig x_nxt x_cnt x_rng)) (wsn := (wX4 q cy x_isv x_te x_re x_de x_now x_spa x_sna x_len x_sig x_nxt x_cnt x_rng)) (wr := []) (c_X4_account l D cy q x_isv x_te x_re x_de x_now x_spa x_sna x_len x_sig x_nxt x_cnt x_rng 4 _ hst e2) lk_RL_159 rfl rfl hRMX4_account hP hD hS hA hK hN hX (List.Perm.of_eq (List.append_nil _).symm) (List.Perm.of_eq (List.append_nil _)) 0 rfl rfl rfl hl.1 rfl (Nat.le_of_ble_eq_true rfl) ⟨by show _ ≤ 328; omega, by show _ ≤ 2624; omega⟩ (dg ddL_areBuskers 245 rfl) (fun H locs hP hD hS => ?_)
      refine lv_icmp_ne (tgt := 535) hx hb (dg ddL_areBuskers 246 rfl) (by decide) (fun h4 => ?_) (fun h4 => ?_)
      · have hf := it_f h4 hf
        refine lv_iconst (v := 0) hx hb (dg ddL_areBuskers 280 rfl) (by decide) ?_
        cases hf
        refine W.widen (k := 328) (n := 2624) (by omega) (by omega) ?_
        exact e_wz CX hr hlk (by decide) rfl hP hD hS (dg ddL_areBuskers 281 rfl)
      · have hf := it_t h4 hf
        refine lv_iload_n hx hb (dg ddL_areBuskers 247 rfl) rfl (lv_at hl 2 rfl) ?_
        refine lv_aload_n hx hb (dg ddL_areBuskers 248 rfl) rfl (lv_at hl 0 rfl) ?_
        refine lv_iconst (v := 5) hx hb (dg ddL_areBuskers 249 rfl) (by decide) ?_
        obtain ⟨r6, e5, hf⟩ := ob_some hf
        rcases r6 with t9 | x_r6
        · cases os_l hf
        have hf := os_r hf
        refine crv_ri CX hml (As := [.int 5]) (rest := [.int x2]) (ws := (wX4 q cy x_isv x_te x_re x_de x_now x_spa x_sna x_len x_sig x_nxt x_cnt x_rng)) (wsn := (wX4 q cy x_isv x_te x_re x_de x_now x_spa x_sna x_len x_sig x_nxt x_cnt x_rng)) (wr := []) (c_X4_account l D cy q x_isv x_te x_re x_de x_now x_spa x_sna x_len x_sig x_nxt x_cnt x_rng 5 _ hst e5) lk_RL_159 rfl rfl hRMX4_account hP hD hS hA hK hN hX (List.Perm.of_eq (List.append_nil _).symm) (List.Perm.of_eq (List.append_nil _)) 0 rfl rfl rfl hl.1 rfl (Nat.le_of_ble_eq_true rfl) ⟨by show _ ≤ 328; omega, by show _ ≤ 2624; omega⟩ (dg ddL_areBuskers 250 rfl) (fun H locs hP hD hS => ?_)
        refine lv_icmp_ne (tgt := 535) hx hb (dg ddL_areBuskers 251 rfl) (by decide) (fun h7 => ?_) (fun h7 => ?_)
        · have hf := it_f h7 hf
          refine lv_iconst (v := 0) hx hb (dg ddL_areBuskers 280 rfl) (by decide) ?_
          cases hf
          refine W.widen (k := 328) (n := 2624) (by omega) (by omega) ?_
          exact e_wz CX hr hlk (by decide) rfl hP hD hS (dg ddL_areBuskers 281 rfl)
        · have hf := it_t h7 hf
          refine lv_iload_n hx hb (dg ddL_areBuskers 252 rfl) rfl (lv_at hl 3 rfl) ?_
          refine lv_aload_n hx hb (dg ddL_areBuskers 253 rfl) rfl (lv_at hl 0 rfl) ?_
          refine lv_bipush (v := 6) hx hb (dg ddL_areBuskers 254 rfl) (by decide) ?_
          obtain ⟨r9, e8, hf⟩ := ob_some hf
          rcases r9 with t9 | x_r9
          · cases os_l hf
          have hf := os_r hf
          refine crv_ri CX hml (As := [.int 6]) (rest := [.int x3]) (ws := (wX4 q cy x_isv x_te x_re x_de x_now x_spa x_sna x_len x_sig x_nxt x_cnt x_rng)) (wsn := (wX4 q cy x_isv x_te x_re x_de x_now x_spa x_sna x_len x_sig x_nxt x_cnt x_rng)) (wr := []) (c_X4_account l D cy q x_isv x_te x_re x_de x_now x_spa x_sna x_len x_sig x_nxt x_cnt x_rng 6 _ hst e8) lk_RL_159 rfl rfl hRMX4_account hP hD hS hA hK hN hX (List.Perm.of_eq (List.append_nil _).symm) (List.Perm.of_eq (List.append_nil _)) 0 rfl rfl rfl hl.1 rfl (Nat.le_of_ble_eq_true rfl) ⟨by show _ ≤ 328; omega, by show _ ≤ 2624; omega⟩ (dg ddL_areBuskers 255 rfl) (fun H locs hP hD hS => ?_)
          refine lv_icmp_ne (tgt := 535) hx hb (dg ddL_areBuskers 256 rfl) (by decide) (fun h10 => ?_) (fun h10 => ?_)
          · have hf := it_f h10 hf
            refine lv_iconst (v := 0) hx hb (dg ddL_areBuskers 280 rfl) (by decide) ?_
            cases hf
            refine W.widen (k := 328) (n := 2624) (by omega) (by omega) ?_
            exact e_wz CX hr hlk (by decide) rfl hP hD hS (dg ddL_areBuskers 281 rfl)
          · have hf := it_t h10 hf
            refine lv_iload hx hb (dg ddL_areBuskers 257 rfl) (lv_at hl 4 rfl) ?_
            refine lv_aload_n hx hb (dg ddL_areBuskers 258 rfl) rfl (lv_at hl 0 rfl) ?_
            refine lv_bipush (v := 10) hx hb (dg ddL_areBuskers 259 rfl) (by decide) ?_
            obtain ⟨r12, e11, hf⟩ := ob_some hf
            rcases r12 with t9 | x_r12
            · cases os_l hf
            have hf := os_r hf
            refine crv_ri CX hml (As := [.int 10]) (rest := [.int x4]) (ws := (wX4 q cy x_isv x_te x_re x_de x_now x_spa x_sna x_len x_sig x_nxt x_cnt x_rng)) (wsn := (wX4 q cy x_isv x_te x_re x_de x_now x_spa x_sna x_len x_sig x_nxt x_cnt x_rng)) (wr := []) (c_X4_account l D cy q x_isv x_te x_re x_de x_now x_spa x_sna x_len x_sig x_nxt x_cnt x_rng 10 _ hst e11) lk_RL_159 rfl rfl hRMX4_account hP hD hS hA hK hN hX (List.Perm.of_eq (List.append_nil _).symm) (List.Perm.of_eq (List.append_nil _)) 0 rfl rfl rfl hl.1 rfl (Nat.le_of_ble_eq_true rfl) ⟨by show _ ≤ 328; omega, by show _ ≤ 2624; omega⟩ (dg ddL_areBuskers 260 rfl) (fun H locs hP hD hS => ?_)
            refine lv_icmp_ne (tgt := 535) hx hb (dg ddL_areBuskers 261 rfl) (by decide) (fun h13 => ?_) (fun h13 => ?_)
            · have hf := it_f h13 hf
              refine lv_iconst (v := 0) hx hb (dg ddL_areBuskers 280 rfl) (by decide) ?_
              cases hf
              refine W.widen (k := 328) (n := 2624) (by omega) (by omega) ?_
              exact e_wz CX hr hlk (by decide) rfl hP hD hS (dg ddL_areBuskers 281 rfl)
            · have hf := it_t h13 hf
              refine lv_iload hx hb (dg ddL_areBuskers 262 rfl) (lv_at hl 5 rfl) ?_
              refine lv_aload_n hx hb (dg ddL_areBuskers 263 rfl) rfl (lv_at hl 0 rfl) ?_
              refine lv_bipush (v := 11) hx hb (dg ddL_areBuskers 264 rfl) (by decide) ?_
              obtain ⟨r15, e14, hf⟩ := ob_some hf
              rcases r15 with t9 | x_r15
              · cases os_l hf
              have hf := os_r hf
              refine crv_ri CX hml (As := [.int 11]) (rest := [.int x5]) (ws := (wX4 q cy x_isv x_te x_re x_de x_now x_spa x_sna x_len x_sig x_nxt x_cnt x_rng)) (wsn := (wX4 q cy x_isv x_te x_re x_de x_now x_spa x_sna x_len x_sig x_nxt x_cnt x_rng)) (wr := []) (c_X4_account l D cy q x_isv x_te x_re x_de x_now x_spa x_sna x_len x_sig x_nxt x_cnt x_rng 11 _ hst e14) lk_RL_159 rfl rfl hRMX4_account hP hD hS hA hK hN hX (List.Perm.of_eq (List.append_nil _).symm) (List.Perm.of_eq (List.append_nil _)) 0 rfl rfl rfl hl.1 rfl (Nat.le_of_ble_eq_true rfl) ⟨by show _ ≤ 328; omega, by show _ ≤ 2624; omega⟩ (dg ddL_areBuskers 265 rfl) (fun H locs hP hD hS => ?_)
              refine lv_icmp_ne (tgt := 535) hx hb (dg ddL_areBuskers 266 rfl) (by decide) (fun h16 => ?_) (fun h16 => ?_)
              · have hf := it_f h16 hf
                refine lv_iconst (v := 0) hx hb (dg ddL_areBuskers 280 rfl) (by decide) ?_
                cases hf
                refine W.widen (k := 328) (n := 2624) (by omega) (by omega) ?_
                exact e_wz CX hr hlk (by decide) rfl hP hD hS (dg ddL_areBuskers 281 rfl)
              · have hf := it_t h16 hf
                refine lv_aload_n hx hb (dg ddL_areBuskers 267 rfl) rfl (lv_at hl 0 rfl) ?_
                refine lv_iconst (v := 3) hx hb (dg ddL_areBuskers 268 rfl) (by decide) ?_
                obtain ⟨r18, e17, hf⟩ := ob_some hf
                rcases r18 with t9 | x_r18
                · cases os_l hf
                have hf := os_r hf
                refine crv_ri CX hml (As := [.int 3]) (rest := []) (ws := (wX4 q cy x_isv x_te x_re x_de x_now x_spa x_sna x_len x_sig x_nxt x_cnt x_rng)) (wsn := (wX4 q cy x_isv x_te x_re x_de x_now x_spa x_sna x_len x_sig x_nxt x_cnt x_rng)) (wr := []) (c_X4_account l D cy q x_isv x_te x_re x_de x_now x_spa x_sna x_len x_sig x_nxt x_cnt x_rng 3 _ hst e17) lk_RL_159 rfl rfl hRMX4_account hP hD hS hA hK hN hX (List.Perm.of_eq (List.append_nil _).symm) (List.Perm.of_eq (List.append_nil _)) 0 rfl rfl rfl hl.1 rfl (Nat.le_of_ble_eq_true rfl) ⟨by show _ ≤ 328; omega, by show _ ≤ 2624; omega⟩ (dg ddL_areBuskers 269 rfl) (fun H locs hP hD hS => ?_)
                refine lv_aload_n hx hb (dg ddL_areBuskers 270 rfl) rfl (lv_at hl 0 rfl) ?_
                refine lv_iconst (v := 2) hx hb (dg ddL_areBuskers 271 rfl) (by decide) ?_
                obtain ⟨r20, e19, hf⟩ := ob_some hf
                rcases r20 with t9 | x_r20
                · cases os_l hf
                have hf := os_r hf
                refine crv_ri CX hml (As := [.int 2]) (rest := [.int x_r18]) (ws := (wX4 q cy x_isv x_te x_re x_de x_now x_spa x_sna x_len x_sig x_nxt x_cnt x_rng)) (wsn := (wX4 q cy x_isv x_te x_re x_de x_now x_spa x_sna x_len x_sig x_nxt x_cnt x_rng)) (wr := []) (c_X4_account l D cy q x_isv x_te x_re x_de x_now x_spa x_sna x_len x_sig x_nxt x_cnt x_rng 2 _ hst e19) lk_RL_159 rfl rfl hRMX4_account hP hD hS hA hK hN hX (List.Perm.of_eq (List.append_nil _).symm) (List.Perm.of_eq (List.append_nil _)) 0 rfl rfl rfl hl.1 rfl (Nat.le_of_ble_eq_true rfl) ⟨by show _ ≤ 328; omega, by show _ ≤ 2624; omega⟩ (dg ddL_areBuskers 272 rfl) (fun H locs hP hD hS => ?_)
                refine lv_iload_n hx hb (dg ddL_areBuskers 273 rfl) rfl (lv_at hl 1 rfl) ?_
                refine lv_isub hx hb (dg ddL_areBuskers 274 rfl) ?_
                refine lv_iload_n hx hb (dg ddL_areBuskers 275 rfl) rfl (lv_at hl 2 rfl) ?_
                refine lv_isub hx hb (dg ddL_areBuskers 276 rfl) ?_
                refine lv_icmp_ne (tgt := 535) hx hb (dg ddL_areBuskers 277 rfl) (by decide) (fun h21 => ?_) (fun h21 => ?_)
                · have hf := it_f h21 hf
                  refine lv_iconst (v := 0) hx hb (dg ddL_areBuskers 280 rfl) (by decide) ?_
                  cases hf
                  refine W.widen (k := 328) (n := 2624) (by omega) (by omega) ?_
                  exact e_wz CX hr hlk (by decide) rfl hP hD hS (dg ddL_areBuskers 281 rfl)
                · have hf := it_t h21 hf
                  refine lv_iconst (v := 1) hx hb (dg ddL_areBuskers 278 rfl) (by decide) ?_
                  refine lv_goto (tgt := 536) hx hb (dg ddL_areBuskers 279 rfl) (by decide) ?_
                  cases hf
                  refine W.widen (k := 328) (n := 2624) (by omega) (by omega) ?_
                  exact e_wz CX hr hlk (by decide) rfl hP hD hS (dg ddL_areBuskers 281 rfl)
  have K374 : ∀ (n : Nat), ∀ (x1 : Int32) (x2 : Int32) (x3 : Int32) (x4 : Int32) (x5 : Int32) (x6 : Int32) (x7 : Int32) (x_spa : SV) (k ks : Nat) (hk : k + (n * 7 + 8) ≤ 328) (hks : ks + 8 * (n * 7 + 8) ≤ 2624) (H : Heap) (locs : List Loc) (hP : va_P D vwCl (wX4 q cy x_isv x_te x_re x_de x_now x_spa x_sna x_len x_sig x_nxt x_cnt x_rng) H) (hD : va_D A (wX4 q cy x_isv x_te x_re x_de x_now x_spa x_sna x_len x_sig x_nxt x_cnt x_rng)) (hS : va_S A s.heap H locs) (ls : Array Slot) (hl : lv_has ls 11 [(0, .ref (q 0 0)), (1, .int x1), (2, .int x2), (3, .int x3), (4, .int x4), (5, .int x5), (6, .int x6), (7, .int x7)]) (hf : f_L_areBuskers_c374 x_now x_len x_cnt n x1 x2 x3 x4 x5 x6 x7 x_spa = some res), W p l e ⟨9, 328, 2624, 146⟩ s m args below meth c H locs k ks (MQ below (qI D (wX4 q cy x_isv x_te x_re x_de x_now res.2 x_sna x_len x_sig x_nxt x_cnt x_rng) res.1 A) args s 328 2624 A) (F0 m 374 ls []) := by
    intro n
    induction n with
    | zero => intro x1 x2 x3 x4 x5 x6 x7 x_spa k ks hk hks H locs hP hD hS ls hl hf; cases (show none = some res from hf)
    | succ n ih =>
    intro x1 x2 x3 x4 x5 x6 x7 x_spa k ks hk hks H locs hP hD hS ls hl hf
    refine lv_iload hx hb (dg ddL_areBuskers 198 rfl) (lv_at hl 6 rfl) ?_
    refine lv_if_eq (tgt := 459) hx hb (dg ddL_areBuskers 199 rfl) (by decide) (fun h1 => ?_) (fun h1 => ?_)
    · have hf := it_t h1 hf
      refine W.widen (k := (k + 0)) (n := (ks + 0)) (by omega) (by omega) ?_
      exact K459  x1 x2 x3 x4 x5 x6 x_spa (k + 0) (ks + 0) (by omega) (by omega) _ _ hP hD hS _ (lv_sub hl [0, 1, 2, 3, 4, 5, 6] rfl) hf
    · have hf := it_f h1 hf
      refine lv_iload hx hb (dg ddL_areBuskers 200 rfl) (lv_at hl 7 rfl) ?_
      refine lv_aload_n hx hb (dg ddL_areBuskers 201 rfl) rfl (lv_at hl 0 rfl) ?_
      refine lv_iconst (v := 2) hx hb (dg ddL_areBuskers 202 rfl) (by decide) ?_
      obtain ⟨r3, e2, hf⟩ := ob_some hf
      rcases r3 with t9 | x_r3
      · cases os_l hf
      have hf := os_r hf
      refine crv_ri CX hml (As := [.int 2]) (rest := [.int x7]) (ws := (wX4 q cy x_isv x_te x_re x_de x_now x_spa x_sna x_len x_sig x_nxt x_cnt x_rng)) (wsn := (wX4 q cy x_isv x_te x_re x_de x_now x_spa x_sna x_len x_sig x_nxt x_cnt x_rng)) (wr := []) (c_X4_account l D cy q x_isv x_te x_re x_de x_now x_spa x_sna x_len x_sig x_nxt x_cnt x_rng 2 _ hst e2) lk_RL_159 rfl rfl hRMX4_account hP hD hS hA hK hN hX (List.Perm.of_eq (List.append_nil _).symm) (List.Perm.of_eq (List.append_nil _)) 0 rfl rfl rfl hl.1 rfl (Nat.le_of_ble_eq_true rfl) ⟨by show _ ≤ 328; omega, by show _ ≤ 2624; omega⟩ (dg ddL_areBuskers 203 rfl) (fun H locs hP hD hS => ?_)
      refine lv_icmp_ge (tgt := 459) hx hb (dg ddL_areBuskers 204 rfl) (by decide) (fun h4 => ?_) (fun h4 => ?_)
      · have hf := it_t h4 hf
        refine W.widen (k := (k + 1)) (n := (ks + 8)) (by omega) (by omega) ?_
        exact K459  x1 x2 x3 x4 x5 x6 x_spa (k + 1) (ks + 8) (by omega) (by omega) _ _ hP hD hS _ (lv_sub hl [0, 1, 2, 3, 4, 5, 6] rfl) hf
      · have hf := it_f h4 hf
        refine lv_aload_n hx hb (dg ddL_areBuskers 205 rfl) rfl (lv_at hl 0 rfl) ?_
        refine lv_iload hx hb (dg ddL_areBuskers 206 rfl) (lv_at hl 7 rfl) ?_
        refine lv_iconst (v := 1) hx hb (dg ddL_areBuskers 207 rfl) (by decide) ?_
        refine lv_isub hx hb (dg ddL_areBuskers 208 rfl) ?_
        obtain ⟨r6, e5, hf⟩ := ob_some hf
        refine crl_i CX hml (As := [.ref (q 0 0), .int (x7 - 1)]) (rest := []) (ws := (wX4 q cy x_isv x_te x_re x_de x_now x_spa x_sna x_len x_sig x_nxt x_cnt x_rng)) (wsn := (wX4 q cy x_isv x_te x_re x_de x_now x_spa x_sna x_len x_sig x_nxt x_cnt x_rng)) (wr := []) (c_L_ranked l D cy q x_isv x_te x_re x_de x_now x_spa x_sna x_len x_sig x_nxt x_cnt x_rng (x7 - 1) _ hst e5) lk_RL_224 rfl rfl hRML_ranked hP hD hS hA hK hN hX hC (List.Perm.of_eq (List.append_nil _).symm) (List.Perm.of_eq (List.append_nil _)) rfl hl.1 rfl (Nat.le_of_ble_eq_true rfl) ⟨by show _ ≤ 328; omega, by show _ ≤ 2624; omega⟩ (dg ddL_areBuskers 209 rfl) (fun H locs hP hD hS => ?_)
        refine lv_istore (lv' := [(8, .int r6), (0, .ref (q 0 0)), (1, .int x1), (2, .int x2), (3, .int x3), (4, .int x4), (5, .int x5), (6, .int x6), (7, .int x7)]) hx hb (dg ddL_areBuskers 210 rfl) hl (by decide) rfl (fun ls hl => ?_)
        refine lv_aload_n hx hb (dg ddL_areBuskers 211 rfl) rfl (lv_at hl 1 rfl) ?_
        refine lv_iload hx hb (dg ddL_areBuskers 212 rfl) (lv_at hl 8 rfl) ?_
        obtain ⟨r8, e7, hf⟩ := ob_some hf
        refine crl_i CX hml (As := [.ref (q 0 0), .int x7]) (rest := []) (ws := (wX4 q cy x_isv x_te x_re x_de x_now x_spa x_sna x_len x_sig x_nxt x_cnt x_rng)) (wsn := (wX4 q cy x_isv x_te x_re x_de x_now x_spa x_sna x_len x_sig x_nxt x_cnt x_rng)) (wr := []) (c_L_ranked l D cy q x_isv x_te x_re x_de x_now x_spa x_sna x_len x_sig x_nxt x_cnt x_rng x7 _ hst e7) lk_RL_224 rfl rfl hRML_ranked hP hD hS hA hK hN hX hC (List.Perm.of_eq (List.append_nil _).symm) (List.Perm.of_eq (List.append_nil _)) rfl hl.1 rfl (Nat.le_of_ble_eq_true rfl) ⟨by show _ ≤ 328; omega, by show _ ≤ 2624; omega⟩ (dg ddL_areBuskers 213 rfl) (fun H locs hP hD hS => ?_)
        refine lv_istore (lv' := [(9, .int r8), (8, .int r6), (0, .ref (q 0 0)), (1, .int x1), (2, .int x2), (3, .int x3), (4, .int x4), (5, .int x5), (6, .int x6), (7, .int x7)]) hx hb (dg ddL_areBuskers 214 rfl) hl (by decide) rfl (fun ls hl => ?_)
        refine lv_aload_n hx hb (dg ddL_areBuskers 215 rfl) rfl (lv_at hl 2 rfl) ?_
        refine lv_iload hx hb (dg ddL_areBuskers 216 rfl) (lv_at hl 1 rfl) ?_
        obtain ⟨r10, e9, hf⟩ := ob_some hf
        rcases r10 with t9 | x_r10
        · cases os_l hf
        have hf := os_r hf
        refine crv_rf CX hml (As := [.int r6]) (rest := []) (ws := (wX4 q cy x_isv x_te x_re x_de x_now x_spa x_sna x_len x_sig x_nxt x_cnt x_rng)) (wsn := (wX4 q cy x_isv x_te x_re x_de x_now x_spa x_sna x_len x_sig x_nxt x_cnt x_rng)) (wr := []) (c_X4_hat l D cy q x_isv x_te x_re x_de x_now x_spa x_sna x_len x_sig x_nxt x_cnt x_rng r6 _ hst e9) lk_RL_178 rfl rfl hRMX4_hat hP hD hS hA hK hN hX (List.Perm.of_eq (List.append_nil _).symm) (List.Perm.of_eq (List.append_nil _)) 0 rfl rfl rfl hl.1 rfl (Nat.le_of_ble_eq_true rfl) ⟨by show _ ≤ 328; omega, by show _ ≤ 2624; omega⟩ (dg ddL_areBuskers 217 rfl) (fun H locs hP hD hS => ?_)
        refine lv_aload_n hx hb (dg ddL_areBuskers 218 rfl) rfl (lv_at hl 2 rfl) ?_
        refine lv_iload hx hb (dg ddL_areBuskers 219 rfl) (lv_at hl 0 rfl) ?_
        obtain ⟨r12, e11, hf⟩ := ob_some hf
        rcases r12 with t9 | x_r12
        · cases os_l hf
        have hf := os_r hf
        refine crv_rf CX hml (As := [.int r8]) (rest := [.float x_r10]) (ws := (wX4 q cy x_isv x_te x_re x_de x_now x_spa x_sna x_len x_sig x_nxt x_cnt x_rng)) (wsn := (wX4 q cy x_isv x_te x_re x_de x_now x_spa x_sna x_len x_sig x_nxt x_cnt x_rng)) (wr := []) (c_X4_hat l D cy q x_isv x_te x_re x_de x_now x_spa x_sna x_len x_sig x_nxt x_cnt x_rng r8 _ hst e11) lk_RL_178 rfl rfl hRMX4_hat hP hD hS hA hK hN hX (List.Perm.of_eq (List.append_nil _).symm) (List.Perm.of_eq (List.append_nil _)) 0 rfl rfl rfl hl.1 rfl (Nat.le_of_ble_eq_true rfl) ⟨by show _ ≤ 328; omega, by show _ ≤ 2624; omega⟩ (dg ddL_areBuskers 220 rfl) (fun H locs hP hD hS => ?_)
        refine lv_fcmp hx hb (dg ddL_areBuskers 221 rfl) ?_
        refine lv_if_gt (tgt := 446) hx hb (dg ddL_areBuskers 222 rfl) (by decide) (fun h13 => ?_) (fun h13 => ?_)
        · have hf := it_t h13 hf
          refine lv_iconst (v := 1) hx hb (dg ddL_areBuskers 234 rfl) (by decide) ?_
          refine lv_goto (tgt := 451) hx hb (dg ddL_areBuskers 235 rfl) (by decide) ?_
          refine lv_istore (lv' := [(6, .int 1), (9, .int r8), (8, .int r6), (0, .ref (q 0 0)), (1, .int x1), (2, .int x2), (3, .int x3), (4, .int x4), (5, .int x5), (7, .int x7)]) hx hb (dg ddL_areBuskers 237 rfl) hl (by decide) rfl (fun ls hl => ?_)
          refine lv_iinc (v := x7 + 1) (lv' := [(7, .int (x7 + 1)), (6, .int 1), (9, .int r8), (8, .int r6), (0, .ref (q 0 0)), (1, .int x1), (2, .int x2), (3, .int x3), (4, .int x4), (5, .int x5)]) hx hb (dg ddL_areBuskers 238 rfl) hl (k := 9) rfl (congrArg (HAdd.hAdd x7) (by decide)) (by decide) rfl (fun ls hl => ?_)
          refine lv_goto (tgt := 374) hx hb (dg ddL_areBuskers 239 rfl) (by decide) ?_
          refine W.widen (k := (k + 5)) (n := (ks + 40)) (by omega) (by omega) ?_
          exact ih x1 x2 x3 x4 x5 1 (x7 + 1) x_spa (k + 5) (ks + 40) (by omega) (by omega) _ _ hP hD hS _ (lv_sub hl [4, 5, 6, 7, 8, 9, 1, 0] rfl) hf
        · have hf := it_f h13 hf
          refine lv_aload_n hx hb (dg ddL_areBuskers 223 rfl) rfl (lv_at hl 2 rfl) ?_
          refine lv_iload hx hb (dg ddL_areBuskers 224 rfl) (lv_at hl 1 rfl) ?_
          obtain ⟨r15, e14, hf⟩ := ob_some hf
          rcases r15 with t9 | x_r15
          · cases os_l hf
          have hf := os_r hf
          refine crv_rf CX hml (As := [.int r6]) (rest := []) (ws := (wX4 q cy x_isv x_te x_re x_de x_now x_spa x_sna x_len x_sig x_nxt x_cnt x_rng)) (wsn := (wX4 q cy x_isv x_te x_re x_de x_now x_spa x_sna x_len x_sig x_nxt x_cnt x_rng)) (wr := []) (c_X4_hat l D cy q x_isv x_te x_re x_de x_now x_spa x_sna x_len x_sig x_nxt x_cnt x_rng r6 _ hst e14) lk_RL_178 rfl rfl hRMX4_hat hP hD hS hA hK hN hX (List.Perm.of_eq (List.append_nil _).symm) (List.Perm.of_eq (List.append_nil _)) 0 rfl rfl rfl hl.1 rfl (Nat.le_of_ble_eq_true rfl) ⟨by show _ ≤ 328; omega, by show _ ≤ 2624; omega⟩ (dg ddL_areBuskers 225 rfl) (fun H locs hP hD hS => ?_)
          refine lv_aload_n hx hb (dg ddL_areBuskers 226 rfl) rfl (lv_at hl 2 rfl) ?_
          refine lv_iload hx hb (dg ddL_areBuskers 227 rfl) (lv_at hl 0 rfl) ?_
          obtain ⟨r17, e16, hf⟩ := ob_some hf
          rcases r17 with t9 | x_r17
          · cases os_l hf
          have hf := os_r hf
          refine crv_rf CX hml (As := [.int r8]) (rest := [.float x_r15]) (ws := (wX4 q cy x_isv x_te x_re x_de x_now x_spa x_sna x_len x_sig x_nxt x_cnt x_rng)) (wsn := (wX4 q cy x_isv x_te x_re x_de x_now x_spa x_sna x_len x_sig x_nxt x_cnt x_rng)) (wr := []) (c_X4_hat l D cy q x_isv x_te x_re x_de x_now x_spa x_sna x_len x_sig x_nxt x_cnt x_rng r8 _ hst e16) lk_RL_178 rfl rfl hRMX4_hat hP hD hS hA hK hN hX (List.Perm.of_eq (List.append_nil _).symm) (List.Perm.of_eq (List.append_nil _)) 0 rfl rfl rfl hl.1 rfl (Nat.le_of_ble_eq_true rfl) ⟨by show _ ≤ 328; omega, by show _ ≤ 2624; omega⟩ (dg ddL_areBuskers 228 rfl) (fun H locs hP hD hS => ?_)
          refine lv_fcmp hx hb (dg ddL_areBuskers 229 rfl) ?_
          refine lv_if_ne (tgt := 450) hx hb (dg ddL_areBuskers 230 rfl) (by decide) (fun h18 => ?_) (fun h18 => ?_)
          · have hf := it_f h18 hf
            refine lv_iconst (v := 0) hx hb (dg ddL_areBuskers 236 rfl) (by decide) ?_
            refine lv_istore (lv' := [(6, .int 0), (9, .int r8), (8, .int r6), (0, .ref (q 0 0)), (1, .int x1), (2, .int x2), (3, .int x3), (4, .int x4), (5, .int x5), (7, .int x7)]) hx hb (dg ddL_areBuskers 237 rfl) hl (by decide) rfl (fun ls hl => ?_)
            refine lv_iinc (v := x7 + 1) (lv' := [(7, .int (x7 + 1)), (6, .int 0), (9, .int r8), (8, .int r6), (0, .ref (q 0 0)), (1, .int x1), (2, .int x2), (3, .int x3), (4, .int x4), (5, .int x5)]) hx hb (dg ddL_areBuskers 238 rfl) hl (k := 9) rfl (congrArg (HAdd.hAdd x7) (by decide)) (by decide) rfl (fun ls hl => ?_)
            refine lv_goto (tgt := 374) hx hb (dg ddL_areBuskers 239 rfl) (by decide) ?_
            refine W.widen (k := (k + 7)) (n := (ks + 56)) (by omega) (by omega) ?_
            exact ih x1 x2 x3 x4 x5 0 (x7 + 1) x_spa (k + 7) (ks + 56) (by omega) (by omega) _ _ hP hD hS _ (lv_sub hl [4, 5, 6, 7, 8, 9, 1, 0] rfl) hf
          · have hf := it_t h18 hf
            refine lv_iload hx hb (dg ddL_areBuskers 231 rfl) (lv_at hl 1 rfl) ?_
            refine lv_iload hx hb (dg ddL_areBuskers 232 rfl) (lv_at hl 0 rfl) ?_
            refine lv_icmp_ge (tgt := 450) hx hb (dg ddL_areBuskers 233 rfl) (by decide) (fun h19 => ?_) (fun h19 => ?_)
            · have hf := it_t h19 hf
              refine lv_iconst (v := 0) hx hb (dg ddL_areBuskers 236 rfl) (by decide) ?_
              refine lv_istore (lv' := [(6, .int 0), (9, .int r8), (8, .int r6), (0, .ref (q 0 0)), (1, .int x1), (2, .int x2), (3, .int x3), (4, .int x4), (5, .int x5), (7, .int x7)]) hx hb (dg ddL_areBuskers 237 rfl) hl (by decide) rfl (fun ls hl => ?_)
              refine lv_iinc (v := x7 + 1) (lv' := [(7, .int (x7 + 1)), (6, .int 0), (9, .int r8), (8, .int r6), (0, .ref (q 0 0)), (1, .int x1), (2, .int x2), (3, .int x3), (4, .int x4), (5, .int x5)]) hx hb (dg ddL_areBuskers 238 rfl) hl (k := 9) rfl (congrArg (HAdd.hAdd x7) (by decide)) (by decide) rfl (fun ls hl => ?_)
              refine lv_goto (tgt := 374) hx hb (dg ddL_areBuskers 239 rfl) (by decide) ?_
              refine W.widen (k := (k + 7)) (n := (ks + 56)) (by omega) (by omega) ?_
              exact ih x1 x2 x3 x4 x5 0 (x7 + 1) x_spa (k + 7) (ks + 56) (by omega) (by omega) _ _ hP hD hS _ (lv_sub hl [4, 5, 6, 7, 8, 9, 1, 0] rfl) hf
            · have hf := it_f h19 hf
              refine lv_iconst (v := 1) hx hb (dg ddL_areBuskers 234 rfl) (by decide) ?_
              refine lv_goto (tgt := 451) hx hb (dg ddL_areBuskers 235 rfl) (by decide) ?_
              refine lv_istore (lv' := [(6, .int 1), (9, .int r8), (8, .int r6), (0, .ref (q 0 0)), (1, .int x1), (2, .int x2), (3, .int x3), (4, .int x4), (5, .int x5), (7, .int x7)]) hx hb (dg ddL_areBuskers 237 rfl) hl (by decide) rfl (fun ls hl => ?_)
              refine lv_iinc (v := x7 + 1) (lv' := [(7, .int (x7 + 1)), (6, .int 1), (9, .int r8), (8, .int r6), (0, .ref (q 0 0)), (1, .int x1), (2, .int x2), (3, .int x3), (4, .int x4), (5, .int x5)]) hx hb (dg ddL_areBuskers 238 rfl) hl (k := 9) rfl (congrArg (HAdd.hAdd x7) (by decide)) (by decide) rfl (fun ls hl => ?_)
              refine lv_goto (tgt := 374) hx hb (dg ddL_areBuskers 239 rfl) (by decide) ?_
              refine W.widen (k := (k + 7)) (n := (ks + 56)) (by omega) (by omega) ?_
              exact ih x1 x2 x3 x4 x5 1 (x7 + 1) x_spa (k + 7) (ks + 56) (by omega) (by omega) _ _ hP hD hS _ (lv_sub hl [4, 5, 6, 7, 8, 9, 1, 0] rfl) hf
  have K51 : ∀ (n : Nat), ∀ (x1 : Int32) (x2 : Int32) (x3 : Int32) (x4 : Int32) (x5 : Int32) (x6 : Int32) (x7 : Int32) (x_spa : SV) (k ks : Nat) (hk : k + (n * 28 + 72) ≤ 328) (hks : ks + 8 * (n * 28 + 72) ≤ 2624) (H : Heap) (locs : List Loc) (hP : va_P D vwCl (wX4 q cy x_isv x_te x_re x_de x_now x_spa x_sna x_len x_sig x_nxt x_cnt x_rng) H) (hD : va_D A (wX4 q cy x_isv x_te x_re x_de x_now x_spa x_sna x_len x_sig x_nxt x_cnt x_rng)) (hS : va_S A s.heap H locs) (ls : Array Slot) (hl : lv_has ls 11 [(0, .ref (q 0 0)), (1, .int x1), (2, .int x2), (3, .int x3), (4, .int x4), (5, .int x5), (6, .int x6), (7, .int x7)]) (hf : f_L_areBuskers_c51 x_now x_len x_cnt n x1 x2 x3 x4 x5 x6 x7 x_spa = some res), W p l e ⟨9, 328, 2624, 146⟩ s m args below meth c H locs k ks (MQ below (qI D (wX4 q cy x_isv x_te x_re x_de x_now res.2 x_sna x_len x_sig x_nxt x_cnt x_rng) res.1 A) args s 328 2624 A) (F0 m 51 ls []) := by
    intro n
    induction n with
    | zero => intro x1 x2 x3 x4 x5 x6 x7 x_spa k ks hk hks H locs hP hD hS ls hl hf; cases (show none = some res from hf)
    | succ n ih =>
    intro x1 x2 x3 x4 x5 x6 x7 x_spa k ks hk hks H locs hP hD hS ls hl hf
    refine lv_iload hx hb (dg ddL_areBuskers 30 rfl) (lv_at hl 6 rfl) ?_
    refine lv_if_eq (tgt := 371) hx hb (dg ddL_areBuskers 31 rfl) (by decide) (fun h1 => ?_) (fun h1 => ?_)
    · have hf := it_t h1 hf
      refine lv_iconst (v := 1) hx hb (dg ddL_areBuskers 196 rfl) (by decide) ?_
      refine lv_istore (lv' := [(7, .int 1), (0, .ref (q 0 0)), (1, .int x1), (2, .int x2), (3, .int x3), (4, .int x4), (5, .int x5), (6, .int x6)]) hx hb (dg ddL_areBuskers 197 rfl) hl (by decide) rfl (fun ls hl => ?_)
      refine W.widen (k := (k + 0)) (n := (ks + 0)) (by omega) (by omega) ?_
      exact K374 9 x1 x2 x3 x4 x5 x6 1 x_spa (k + 0) (ks + 0) (by omega) (by omega) _ _ hP hD hS _ (lv_sub hl [1, 2, 3, 4, 5, 6, 7, 0] rfl) hf
    · have hf := it_f h1 hf
      refine lv_iload hx hb (dg ddL_areBuskers 32 rfl) (lv_at hl 7 rfl) ?_
      refine lv_aload_n hx hb (dg ddL_areBuskers 33 rfl) rfl (lv_at hl 0 rfl) ?_
      refine lv_iconst (v := 2) hx hb (dg ddL_areBuskers 34 rfl) (by decide) ?_
      obtain ⟨r3, e2, hf⟩ := ob_some hf
      rcases r3 with t9 | x_r3
      · cases os_l hf
      have hf := os_r hf
      refine crv_ri CX hml (As := [.int 2]) (rest := [.int x7]) (ws := (wX4 q cy x_isv x_te x_re x_de x_now x_spa x_sna x_len x_sig x_nxt x_cnt x_rng)) (wsn := (wX4 q cy x_isv x_te x_re x_de x_now x_spa x_sna x_len x_sig x_nxt x_cnt x_rng)) (wr := []) (c_X4_account l D cy q x_isv x_te x_re x_de x_now x_spa x_sna x_len x_sig x_nxt x_cnt x_rng 2 _ hst e2) lk_RL_159 rfl rfl hRMX4_account hP hD hS hA hK hN hX (List.Perm.of_eq (List.append_nil _).symm) (List.Perm.of_eq (List.append_nil _)) 0 rfl rfl rfl hl.1 rfl (Nat.le_of_ble_eq_true rfl) ⟨by show _ ≤ 328; omega, by show _ ≤ 2624; omega⟩ (dg ddL_areBuskers 35 rfl) (fun H locs hP hD hS => ?_)
      refine lv_icmp_ge (tgt := 371) hx hb (dg ddL_areBuskers 36 rfl) (by decide) (fun h4 => ?_) (fun h4 => ?_)
      · have hf := it_t h4 hf
        refine lv_iconst (v := 1) hx hb (dg ddL_areBuskers 196 rfl) (by decide) ?_
        refine lv_istore (lv' := [(7, .int 1), (0, .ref (q 0 0)), (1, .int x1), (2, .int x2), (3, .int x3), (4, .int x4), (5, .int x5), (6, .int x6)]) hx hb (dg ddL_areBuskers 197 rfl) hl (by decide) rfl (fun ls hl => ?_)
        refine W.widen (k := (k + 1)) (n := (ks + 8)) (by omega) (by omega) ?_
        exact K374 9 x1 x2 x3 x4 x5 x6 1 x_spa (k + 1) (ks + 8) (by omega) (by omega) _ _ hP hD hS _ (lv_sub hl [1, 2, 3, 4, 5, 6, 7, 0] rfl) hf
      · have hf := it_f h4 hf
        refine lv_aload_n hx hb (dg ddL_areBuskers 37 rfl) rfl (lv_at hl 0 rfl) ?_
        refine lv_iload hx hb (dg ddL_areBuskers 38 rfl) (lv_at hl 7 rfl) ?_
        refine lv_iconst (v := 3) hx hb (dg ddL_areBuskers 39 rfl) (by decide) ?_
        obtain ⟨r6, e5, hf⟩ := ob_some hf
        rcases r6 with t9 | x_r6
        · cases os_l hf
        have hf := os_r hf
        refine crv_ri CX hml (As := [.int x7, .int 3]) (rest := []) (ws := (wX4 q cy x_isv x_te x_re x_de x_now x_spa x_sna x_len x_sig x_nxt x_cnt x_rng)) (wsn := (wX4 q cy x_isv x_te x_re x_de x_now x_spa x_sna x_len x_sig x_nxt x_cnt x_rng)) (wr := []) (c_X4_buskerOf l D cy q x_isv x_te x_re x_de x_now x_spa x_sna x_len x_sig x_nxt x_cnt x_rng x7 3 _ hst e5) lk_RL_184 rfl rfl hRMX4_buskerOf hP hD hS hA hK hN hX (List.Perm.of_eq (List.append_nil _).symm) (List.Perm.of_eq (List.append_nil _)) 0 rfl rfl rfl hl.1 rfl (Nat.le_of_ble_eq_true rfl) ⟨by show _ ≤ 328; omega, by show _ ≤ 2624; omega⟩ (dg ddL_areBuskers 40 rfl) (fun H locs hP hD hS => ?_)
        refine lv_istore (lv' := [(8, .int x_r6), (0, .ref (q 0 0)), (1, .int x1), (2, .int x2), (3, .int x3), (4, .int x4), (5, .int x5), (6, .int x6), (7, .int x7)]) hx hb (dg ddL_areBuskers 41 rfl) hl (by decide) rfl (fun ls hl => ?_)
        refine lv_aload_n hx hb (dg ddL_areBuskers 42 rfl) rfl (lv_at hl 1 rfl) ?_
        refine lv_iload hx hb (dg ddL_areBuskers 43 rfl) (lv_at hl 8 rfl) ?_
        refine lv_iconst (v := 2) hx hb (dg ddL_areBuskers 44 rfl) (by decide) ?_
        obtain ⟨r8, e7, hf⟩ := ob_some hf
        rcases r8 with t9 | x_r8
        · cases os_l hf
        have hf := os_r hf
        refine crv_ri CX hml (As := [.int x7, .int 2]) (rest := []) (ws := (wX4 q cy x_isv x_te x_re x_de x_now x_spa x_sna x_len x_sig x_nxt x_cnt x_rng)) (wsn := (wX4 q cy x_isv x_te x_re x_de x_now x_spa x_sna x_len x_sig x_nxt x_cnt x_rng)) (wr := []) (c_X4_buskerOf l D cy q x_isv x_te x_re x_de x_now x_spa x_sna x_len x_sig x_nxt x_cnt x_rng x7 2 _ hst e7) lk_RL_184 rfl rfl hRMX4_buskerOf hP hD hS hA hK hN hX (List.Perm.of_eq (List.append_nil _).symm) (List.Perm.of_eq (List.append_nil _)) 0 rfl rfl rfl hl.1 rfl (Nat.le_of_ble_eq_true rfl) ⟨by show _ ≤ 328; omega, by show _ ≤ 2624; omega⟩ (dg ddL_areBuskers 45 rfl) (fun H locs hP hD hS => ?_)
        refine lv_istore (lv' := [(9, .int x_r8), (8, .int x_r6), (0, .ref (q 0 0)), (1, .int x1), (2, .int x2), (3, .int x3), (4, .int x4), (5, .int x5), (6, .int x6), (7, .int x7)]) hx hb (dg ddL_areBuskers 46 rfl) hl (by decide) rfl (fun ls hl => ?_)
        refine lv_aload_n hx hb (dg ddL_areBuskers 47 rfl) rfl (lv_at hl 2 rfl) ?_
        refine lv_iload hx hb (dg ddL_areBuskers 48 rfl) (lv_at hl 9 rfl) ?_
        obtain ⟨r10, e9, hf⟩ := ob_some hf
        rcases r10 with t9 | x_r10
        · cases os_l hf
        have hf := os_r hf
        refine crv_ri CX hml (As := [.int x7]) (rest := []) (ws := (wX4 q cy x_isv x_te x_re x_de x_now x_spa x_sna x_len x_sig x_nxt x_cnt x_rng)) (wsn := (wX4 q cy x_isv x_te x_re x_de x_now x_spa x_sna x_len x_sig x_nxt x_cnt x_rng)) (wr := []) (c_X4_wear l D cy q x_isv x_te x_re x_de x_now x_spa x_sna x_len x_sig x_nxt x_cnt x_rng x7 _ hst e9) lk_RL_181 rfl rfl hRMX4_wear hP hD hS hA hK hN hX (List.Perm.of_eq (List.append_nil _).symm) (List.Perm.of_eq (List.append_nil _)) 0 rfl rfl rfl hl.1 rfl (Nat.le_of_ble_eq_true rfl) ⟨by show _ ≤ 328; omega, by show _ ≤ 2624; omega⟩ (dg ddL_areBuskers 49 rfl) (fun H locs hP hD hS => ?_)
        obtain ⟨h11, hf⟩ := og_some hf
        refine vn_i2f hx hb (hml.trans hl.1.symm) CX.2.2.2 (CX.2.2.1 (.methodLink RL 189 nmI2f) (lw_at 879 (by decide +kernel))) (CX.2.2.1 _ (mNat (by simp [nmF2i, nmI2f, nmD2l]))) (CX.2.2.1 _ (mNat (by simp [nmF2i, nmI2f, nmD2l]))) (CX.2.2.1 _ (mNat (by simp [nmF2i, nmI2f, nmD2l]))) (okI_in h11) (Nat.le_of_ble_eq_true rfl) (Nat.le_of_ble_eq_true rfl) (dg ddL_areBuskers 50 rfl) ?_
        refine lv_fstore (lv' := [(10, .float x_r10.toUInt32), (9, .int x_r8), (8, .int x_r6), (0, .ref (q 0 0)), (1, .int x1), (2, .int x2), (3, .int x3), (4, .int x4), (5, .int x5), (6, .int x6), (7, .int x7)]) hx hb (dg ddL_areBuskers 51 rfl) hl (by decide) rfl (fun ls hl => ?_)
        refine lv_iload_n hx hb (dg ddL_areBuskers 52 rfl) rfl (lv_at hl 4 rfl) ?_
        refine lv_iload hx hb (dg ddL_areBuskers 53 rfl) (lv_at hl 2 rfl) ?_
        refine lv_if_ge (tgt := 105) hx hb (dg ddL_areBuskers 54 rfl) (by decide) (fun h12 => ?_) (fun h12 => ?_)
        · have hf := it_t h12 hf
          refine lv_iconst (v := 1) hx hb (dg ddL_areBuskers 57 rfl) (by decide) ?_
          refine W.widen (k := (k + 6)) (n := (ks + 48)) (by omega) (by omega) ?_
          exact K106 (n * 28 + 72) (f_L_areBuskers_c51 x_now x_len x_cnt n) ih  x2 x3 x4 x5 x7 x_r6 x_r8 x_r10.toUInt32 1 x1 x_spa (k + 6) (ks + 48) (by omega) (by omega) _ _ hP hD hS _ (lv_sub hl [3, 5, 6, 7, 8, 10, 2, 1, 0] rfl) hf
        · have hf := it_f h12 hf
          refine lv_iconst (v := 0) hx hb (dg ddL_areBuskers 55 rfl) (by decide) ?_
          refine lv_goto (tgt := 106) hx hb (dg ddL_areBuskers 56 rfl) (by decide) ?_
          refine W.widen (k := (k + 6)) (n := (ks + 48)) (by omega) (by omega) ?_
          exact K106 (n * 28 + 72) (f_L_areBuskers_c51 x_now x_len x_cnt n) ih  x2 x3 x4 x5 x7 x_r6 x_r8 x_r10.toUInt32 0 x1 x_spa (k + 6) (ks + 48) (by omega) (by omega) _ _ hP hD hS _ (lv_sub hl [3, 5, 6, 7, 8, 10, 2, 1, 0] rfl) hf
  refine lv_iconst (v := 0) hx hb (dg ddL_areBuskers 0 rfl) (by decide) ?_
  refine lv_istore_n (lv' := [(1, .int 0), (0, .ref (q 0 0))]) hx hb (dg ddL_areBuskers 1 rfl) rfl hl (by decide) rfl (fun ls hl => ?_)
  refine lv_iconst (v := 0) hx hb (dg ddL_areBuskers 2 rfl) (by decide) ?_
  refine lv_istore_n (lv' := [(2, .int 0), (1, .int 0), (0, .ref (q 0 0))]) hx hb (dg ddL_areBuskers 3 rfl) rfl hl (by decide) rfl (fun ls hl => ?_)
  refine lv_iconst (v := 0) hx hb (dg ddL_areBuskers 4 rfl) (by decide) ?_
  refine lv_istore_n (lv' := [(3, .int 0), (2, .int 0), (1, .int 0), (0, .ref (q 0 0))]) hx hb (dg ddL_areBuskers 5 rfl) rfl hl (by decide) rfl (fun ls hl => ?_)
  refine lv_iconst (v := 0) hx hb (dg ddL_areBuskers 6 rfl) (by decide) ?_
  refine lv_istore (lv' := [(4, .int 0), (3, .int 0), (2, .int 0), (1, .int 0), (0, .ref (q 0 0))]) hx hb (dg ddL_areBuskers 7 rfl) hl (by decide) rfl (fun ls hl => ?_)
  refine lv_iconst (v := 0) hx hb (dg ddL_areBuskers 8 rfl) (by decide) ?_
  refine lv_istore (lv' := [(5, .int 0), (4, .int 0), (3, .int 0), (2, .int 0), (1, .int 0), (0, .ref (q 0 0))]) hx hb (dg ddL_areBuskers 9 rfl) hl (by decide) rfl (fun ls hl => ?_)
  refine lv_aload_n hx hb (dg ddL_areBuskers 10 rfl) rfl (lv_at hl 5 rfl) ?_
  refine lv_aload_n hx hb (dg ddL_areBuskers 11 rfl) rfl (lv_at hl 5 rfl) ?_
  refine lv_iconst (v := 2) hx hb (dg ddL_areBuskers 12 rfl) (by decide) ?_
  obtain ⟨r2, e1, hf⟩ := ob_some hf
  rcases r2 with t9 | x_r2
  · cases os_l hf
  have hf := os_r hf
  refine crv_ri CX hml (As := [.int 2]) (rest := [.ref (q 0 0)]) (ws := (wX4 q cy x_isv x_te x_re x_de x_now x_spa x_sna x_len x_sig x_nxt x_cnt x_rng)) (wsn := (wX4 q cy x_isv x_te x_re x_de x_now x_spa x_sna x_len x_sig x_nxt x_cnt x_rng)) (wr := []) (c_X4_account l D cy q x_isv x_te x_re x_de x_now x_spa x_sna x_len x_sig x_nxt x_cnt x_rng 2 _ hst e1) lk_RL_159 rfl rfl hRMX4_account hP hD hS hA hK hN hX (List.Perm.of_eq (List.append_nil _).symm) (List.Perm.of_eq (List.append_nil _)) 0 rfl rfl rfl hl.1 rfl (Nat.le_of_ble_eq_true rfl) ⟨by show _ ≤ 328; omega, by show _ ≤ 2624; omega⟩ (dg ddL_areBuskers 13 rfl) (fun H locs hP hD hS => ?_)
  obtain ⟨r4, e3, hf⟩ := ob_some hf
  refine crl_i CX hml (As := [.ref (q 0 0), .int x_r2]) (rest := []) (ws := (wX4 q cy x_isv x_te x_re x_de x_now x_spa x_sna x_len x_sig x_nxt x_cnt x_rng)) (wsn := (wX4 q cy x_isv x_te x_re x_de x_now x_spa x_sna x_len x_sig x_nxt x_cnt x_rng)) (wr := []) (c_L_ranked l D cy q x_isv x_te x_re x_de x_now x_spa x_sna x_len x_sig x_nxt x_cnt x_rng x_r2 _ hst e3) lk_RL_224 rfl rfl hRML_ranked hP hD hS hA hK hN hX hC (List.Perm.of_eq (List.append_nil _).symm) (List.Perm.of_eq (List.append_nil _)) rfl hl.1 rfl (Nat.le_of_ble_eq_true rfl) ⟨by show _ ≤ 328; omega, by show _ ≤ 2624; omega⟩ (dg ddL_areBuskers 14 rfl) (fun H locs hP hD hS => ?_)
  refine lv_sipush (v := (-1000)) hx hb (dg ddL_areBuskers 15 rfl) (by decide) ?_
  refine lv_icmp_ne (tgt := 45) hx hb (dg ddL_areBuskers 16 rfl) (by decide) (fun h5 => ?_) (fun h5 => ?_)
  · have hf := it_f h5 hf
    refine lv_iconst (v := 0) hx hb (dg ddL_areBuskers 26 rfl) (by decide) ?_
    refine lv_istore (lv' := [(6, .int 0), (5, .int 0), (4, .int 0), (3, .int 0), (2, .int 0), (1, .int 0), (0, .ref (q 0 0))]) hx hb (dg ddL_areBuskers 27 rfl) hl (by decide) rfl (fun ls hl => ?_)
    refine lv_iconst (v := 0) hx hb (dg ddL_areBuskers 28 rfl) (by decide) ?_
    refine lv_istore (lv' := [(7, .int 0), (6, .int 0), (5, .int 0), (4, .int 0), (3, .int 0), (2, .int 0), (1, .int 0), (0, .ref (q 0 0))]) hx hb (dg ddL_areBuskers 29 rfl) hl (by decide) rfl (fun ls hl => ?_)
    refine W.widen (k := (0 + 2)) (n := (0 + 16)) (by omega) (by omega) ?_
    exact K51 9 0 0 0 0 0 0 0 x_spa (0 + 2) (0 + 16) (by omega) (by omega) _ _ hP hD hS _ (lv_sub hl [7, 6, 5, 4, 3, 2, 1, 0] rfl) hf
  · have hf := it_t h5 hf
    refine lv_aload_n hx hb (dg ddL_areBuskers 17 rfl) rfl (lv_at hl 5 rfl) ?_
    refine lv_aload_n hx hb (dg ddL_areBuskers 18 rfl) rfl (lv_at hl 5 rfl) ?_
    refine lv_iconst (v := 4) hx hb (dg ddL_areBuskers 19 rfl) (by decide) ?_
    obtain ⟨r7, e6, hf⟩ := ob_some hf
    rcases r7 with t9 | x_r7
    · cases os_l hf
    have hf := os_r hf
    refine crv_ri CX hml (As := [.int 4]) (rest := [.ref (q 0 0)]) (ws := (wX4 q cy x_isv x_te x_re x_de x_now x_spa x_sna x_len x_sig x_nxt x_cnt x_rng)) (wsn := (wX4 q cy x_isv x_te x_re x_de x_now x_spa x_sna x_len x_sig x_nxt x_cnt x_rng)) (wr := []) (c_X4_account l D cy q x_isv x_te x_re x_de x_now x_spa x_sna x_len x_sig x_nxt x_cnt x_rng 4 _ hst e6) lk_RL_159 rfl rfl hRMX4_account hP hD hS hA hK hN hX (List.Perm.of_eq (List.append_nil _).symm) (List.Perm.of_eq (List.append_nil _)) 0 rfl rfl rfl hl.1 rfl (Nat.le_of_ble_eq_true rfl) ⟨by show _ ≤ 328; omega, by show _ ≤ 2624; omega⟩ (dg ddL_areBuskers 20 rfl) (fun H locs hP hD hS => ?_)
    obtain ⟨r9, e8, hf⟩ := ob_some hf
    refine crl_i CX hml (As := [.ref (q 0 0), .int x_r7]) (rest := []) (ws := (wX4 q cy x_isv x_te x_re x_de x_now x_spa x_sna x_len x_sig x_nxt x_cnt x_rng)) (wsn := (wX4 q cy x_isv x_te x_re x_de x_now x_spa x_sna x_len x_sig x_nxt x_cnt x_rng)) (wr := []) (c_L_waiting l D cy q x_isv x_te x_re x_de x_now x_spa x_sna x_len x_sig x_nxt x_cnt x_rng x_r7 _ hst e8) lk_RL_187 rfl rfl hRML_waiting hP hD hS hA hK hN hX hC (List.Perm.of_eq (List.append_nil _).symm) (List.Perm.of_eq (List.append_nil _)) rfl hl.1 rfl (Nat.le_of_ble_eq_true rfl) ⟨by show _ ≤ 328; omega, by show _ ≤ 2624; omega⟩ (dg ddL_areBuskers 21 rfl) (fun H locs hP hD hS => ?_)
    refine lv_ldc hx hb CX.2.2.2 (CX.2.2.1 (.constant RL 10 (-100000000)) (lw_at 336 (by decide +kernel))) (dg ddL_areBuskers 22 rfl) ?_
    refine lv_icmp_ne (tgt := 45) hx hb (dg ddL_areBuskers 23 rfl) (by decide) (fun h10 => ?_) (fun h10 => ?_)
    · have hf := it_f h10 hf
      refine lv_iconst (v := 0) hx hb (dg ddL_areBuskers 26 rfl) (by decide) ?_
      refine lv_istore (lv' := [(6, .int 0), (5, .int 0), (4, .int 0), (3, .int 0), (2, .int 0), (1, .int 0), (0, .ref (q 0 0))]) hx hb (dg ddL_areBuskers 27 rfl) hl (by decide) rfl (fun ls hl => ?_)
      refine lv_iconst (v := 0) hx hb (dg ddL_areBuskers 28 rfl) (by decide) ?_
      refine lv_istore (lv' := [(7, .int 0), (6, .int 0), (5, .int 0), (4, .int 0), (3, .int 0), (2, .int 0), (1, .int 0), (0, .ref (q 0 0))]) hx hb (dg ddL_areBuskers 29 rfl) hl (by decide) rfl (fun ls hl => ?_)
      refine W.widen (k := (0 + 4)) (n := (0 + 32)) (by omega) (by omega) ?_
      exact K51 9 0 0 0 0 0 0 0 x_spa (0 + 4) (0 + 32) (by omega) (by omega) _ _ hP hD hS _ (lv_sub hl [7, 6, 5, 4, 3, 2, 1, 0] rfl) hf
    · have hf := it_t h10 hf
      refine lv_iconst (v := 1) hx hb (dg ddL_areBuskers 24 rfl) (by decide) ?_
      refine lv_goto (tgt := 46) hx hb (dg ddL_areBuskers 25 rfl) (by decide) ?_
      refine lv_istore (lv' := [(6, .int 1), (5, .int 0), (4, .int 0), (3, .int 0), (2, .int 0), (1, .int 0), (0, .ref (q 0 0))]) hx hb (dg ddL_areBuskers 27 rfl) hl (by decide) rfl (fun ls hl => ?_)
      refine lv_iconst (v := 0) hx hb (dg ddL_areBuskers 28 rfl) (by decide) ?_
      refine lv_istore (lv' := [(7, .int 0), (6, .int 1), (5, .int 0), (4, .int 0), (3, .int 0), (2, .int 0), (1, .int 0), (0, .ref (q 0 0))]) hx hb (dg ddL_areBuskers 29 rfl) hl (by decide) rfl (fun ls hl => ?_)
      refine W.widen (k := (0 + 4)) (n := (0 + 32)) (by omega) (by omega) ?_
      exact K51 9 0 0 0 0 0 1 0 x_spa (0 + 4) (0 + 32) (by omega) (by omega) _ _ hP hD hS _ (lv_sub hl [7, 6, 5, 4, 3, 2, 1, 0] rfl) hf
def f_L_isMean_c4  (x_now : SV) (x_len : Int32) (x_cnt : Int32) : Nat → UInt64 → Int32 → Option (Int32)
  | 0, _, _ => none
  | n + 1, x1, x3 => ob (f_X4_account x_now x_len x_cnt 2) fun r2 => (os r2 (fun _ => none) fun x_r2 => (if x_r2 ≤ x3 then (ob (f_L_meanBits x_now) fun r5 => (ob (f_X4_account x_now x_len x_cnt 2) fun r7 => (os r7 (fun _ => none) fun x_r7 => (if x_r7 = 0 then (if (lg_cmp r5 (-1)) = 0 then (some 1) else (some 0)) else (ob (f_X4_account x_now x_len x_cnt 2) fun r10 => (os r10 (fun _ => none) fun x_r10 => (og (n64 (FP.ddiv x1 (FP.i2d x_r10))) (ob (f_Jxe99ae_doubleToLongBits_ccdee (FP.ddiv x1 (FP.i2d x_r10))) fun r13 => (if (lg_cmp r5 r13) = 0 then (some 1) else (some 0)))))))))) else (ob (f_X4_hat x_now x3) fun r17 => (os r17 (fun _ => none) fun x_r17 => (og (n64 (FP.f2d x_r17)) (og (n64 (FP.dadd x1 (FP.f2d x_r17))) (f_L_isMean_c4 x_now x_len x_cnt n (FP.dadd x1 (FP.f2d x_r17)) (x3 + 1))))))))
def f_L_isMean (x_now : SV) (x_len : Int32) (x_cnt : Int32) : Option (Int32) := f_L_isMean_c4 x_now x_len x_cnt 9 FP.dconst0 0
set_option maxHeartbeats 8000000 in
set_option maxRecDepth 100000 in
theorem c_L_isMean (l : Launch) (D : va_G) (cy : Nat → ClassId) (q : Nat → Nat → Nat) (x_isv : Int32) (x_te : Int32) (x_re : Int32) (x_de : Int32) (x_now : SV) (x_spa : SV) (x_sna : SV) (x_len : Int32) (x_sig : Nat → Int32) (x_nxt : Int32) (x_cnt : Int32) (x_rng : Nat → SV) (sz : Nat) (hst : l.stackTraces = false) {res : Int32} (hf : f_L_isMean x_now x_len x_cnt = some res) : Met l yL_isMean (.code yL_isMean cL_isMean 4 (some .boolean) :: lw_all) { frames := 8, cells := 22, slots := 176, locals := 128 } (va_Pc [.ref (q 0 0)] (sY D cy (wX4 q cy x_isv x_te x_re x_de x_now x_spa x_sna x_len x_sig x_nxt x_cnt x_rng) sz)) (qI D (wX4 q cy x_isv x_te x_re x_de x_now x_spa x_sna x_len x_sig x_nxt x_cnt x_rng) res (va_A (wX4 q cy x_isv x_te x_re x_de x_now x_spa x_sna x_len x_sig x_nxt x_cnt x_rng) sz)) 22 176 (va_A (wX4 q cy x_isv x_te x_re x_de x_now x_spa x_sna x_len x_sig x_nxt x_cnt x_rng) sz) := by
  refine mk_lc (Qc := qI D (wX4 q cy x_isv x_te x_re x_de x_now x_spa x_sna x_len x_sig x_nxt x_cnt x_rng) res) (Rc := RL) (by decide +kernel) rfl (Nat.le_of_ble_eq_true rfl) ?_
  intro p e s m args below meth c ls A CX hml hr hlk hK hN hP hD hS hA hl hX hC
  have hx := CX.1
  have hb := CX.2.1
  have hRMJxe99ae_doubleToLongBits_ccdee : (⟨2, 0, 0, 40⟩ : Room).frames + 1 ≤ (⟨8, 22, 176, 128⟩ : Room).frames ∧ 8 + (2 + 11) + (⟨2, 0, 0, 40⟩ : Room).locals ≤ (⟨8, 22, 176, 128⟩ : Room).locals := ⟨(Nat.le_of_ble_eq_true rfl), (Nat.le_of_ble_eq_true rfl)⟩
  have hRML_meanBits : (⟨7, 1, 6, 105⟩ : Room).frames + 1 ≤ (⟨8, 22, 176, 128⟩ : Room).frames ∧ 8 + (4 + 11) + (⟨7, 1, 6, 105⟩ : Room).locals ≤ (⟨8, 22, 176, 128⟩ : Room).locals := ⟨(Nat.le_of_ble_eq_true rfl), (Nat.le_of_ble_eq_true rfl)⟩
  have hRMX4_account : (⟨6, 1, 6, 82⟩ : Room).frames + 1 ≤ (⟨8, 22, 176, 128⟩ : Room).frames ∧ 8 + (2 + 11) + (⟨6, 1, 6, 82⟩ : Room).locals ≤ (⟨8, 22, 176, 128⟩ : Room).locals := ⟨(Nat.le_of_ble_eq_true rfl), (Nat.le_of_ble_eq_true rfl)⟩
  have hRMX4_hat : (⟨7, 1, 6, 102⟩ : Room).frames + 1 ≤ (⟨8, 22, 176, 128⟩ : Room).frames ∧ 8 + (2 + 11) + (⟨7, 1, 6, 102⟩ : Room).locals ≤ (⟨8, 22, 176, 128⟩ : Room).locals := ⟨(Nat.le_of_ble_eq_true rfl), (Nat.le_of_ble_eq_true rfl)⟩
  have K4 : ∀ (n : Nat), ∀ (x1 : UInt64) (x3 : Int32) (k ks : Nat) (hk : k + (n * 2 + 4) ≤ 22) (hks : ks + 8 * (n * 2 + 4) ≤ 176) (H : Heap) (locs : List Loc) (hP : va_P D vwCl (wX4 q cy x_isv x_te x_re x_de x_now x_spa x_sna x_len x_sig x_nxt x_cnt x_rng) H) (hD : va_D A (wX4 q cy x_isv x_te x_re x_de x_now x_spa x_sna x_len x_sig x_nxt x_cnt x_rng)) (hS : va_S A s.heap H locs) (ls : Array Slot) (hl : lv_has ls 4 [(0, .ref (q 0 0)), (1, .double x1), (3, .int x3)]) (hf : f_L_isMean_c4 x_now x_len x_cnt n x1 x3 = some res), W p l e ⟨8, 22, 176, 128⟩ s m args below meth c H locs k ks (MQ below (qI D (wX4 q cy x_isv x_te x_re x_de x_now x_spa x_sna x_len x_sig x_nxt x_cnt x_rng) res A) args s 22 176 A) (F0 m 4 ls []) := by
    intro n
    induction n with
    | zero => intro x1 x3 k ks hk hks H locs hP hD hS ls hl hf; cases (show none = some res from hf)
    | succ n ih =>
    intro x1 x3 k ks hk hks H locs hP hD hS ls hl hf
    refine lv_iload_n hx hb (dg ddL_isMean 4 rfl) rfl (lv_at hl 2 rfl) ?_
    refine lv_aload_n hx hb (dg ddL_isMean 5 rfl) rfl (lv_at hl 0 rfl) ?_
    refine lv_iconst (v := 2) hx hb (dg ddL_isMean 6 rfl) (by decide) ?_
    obtain ⟨r2, e1, hf⟩ := ob_some hf
    rcases r2 with t9 | x_r2
    · cases os_l hf
    have hf := os_r hf
    refine crv_ri CX hml (As := [.int 2]) (rest := [.int x3]) (ws := (wX4 q cy x_isv x_te x_re x_de x_now x_spa x_sna x_len x_sig x_nxt x_cnt x_rng)) (wsn := (wX4 q cy x_isv x_te x_re x_de x_now x_spa x_sna x_len x_sig x_nxt x_cnt x_rng)) (wr := []) (c_X4_account l D cy q x_isv x_te x_re x_de x_now x_spa x_sna x_len x_sig x_nxt x_cnt x_rng 2 _ hst e1) lk_RL_159 rfl rfl hRMX4_account hP hD hS hA hK hN hX (List.Perm.of_eq (List.append_nil _).symm) (List.Perm.of_eq (List.append_nil _)) 0 rfl rfl rfl hl.1 rfl (Nat.le_of_ble_eq_true rfl) ⟨by show _ ≤ 22; omega, by show _ ≤ 176; omega⟩ (dg ddL_isMean 7 rfl) (fun H locs hP hD hS => ?_)
    refine lv_icmp_ge (tgt := 28) hx hb (dg ddL_isMean 8 rfl) (by decide) (fun h3 => ?_) (fun h3 => ?_)
    · have hf := it_t h3 hf
      refine lv_aload_n hx hb (dg ddL_isMean 18 rfl) rfl (lv_at hl 0 rfl) ?_
      obtain ⟨r5, e4, hf⟩ := ob_some hf
      refine crl_l CX hml (As := [.ref (q 0 0)]) (rest := []) (ws := (wX4 q cy x_isv x_te x_re x_de x_now x_spa x_sna x_len x_sig x_nxt x_cnt x_rng)) (wsn := (wX4 q cy x_isv x_te x_re x_de x_now x_spa x_sna x_len x_sig x_nxt x_cnt x_rng)) (wr := []) (c_L_meanBits l D cy q x_isv x_te x_re x_de x_now x_spa x_sna x_len x_sig x_nxt x_cnt x_rng _ hst e4) lk_RL_233 rfl rfl hRML_meanBits hP hD hS hA hK hN hX hC (List.Perm.of_eq (List.append_nil _).symm) (List.Perm.of_eq (List.append_nil _)) rfl hl.1 rfl (Nat.le_of_ble_eq_true rfl) ⟨by show _ ≤ 22; omega, by show _ ≤ 176; omega⟩ (dg ddL_isMean 19 rfl) (fun H locs hP hD hS => ?_)
      refine lv_aload_n hx hb (dg ddL_isMean 20 rfl) rfl (lv_at hl 0 rfl) ?_
      refine lv_iconst (v := 2) hx hb (dg ddL_isMean 21 rfl) (by decide) ?_
      obtain ⟨r7, e6, hf⟩ := ob_some hf
      rcases r7 with t9 | x_r7
      · cases os_l hf
      have hf := os_r hf
      refine crv_ri CX hml (As := [.int 2]) (rest := [.long r5]) (ws := (wX4 q cy x_isv x_te x_re x_de x_now x_spa x_sna x_len x_sig x_nxt x_cnt x_rng)) (wsn := (wX4 q cy x_isv x_te x_re x_de x_now x_spa x_sna x_len x_sig x_nxt x_cnt x_rng)) (wr := []) (c_X4_account l D cy q x_isv x_te x_re x_de x_now x_spa x_sna x_len x_sig x_nxt x_cnt x_rng 2 _ hst e6) lk_RL_159 rfl rfl hRMX4_account hP hD hS hA hK hN hX (List.Perm.of_eq (List.append_nil _).symm) (List.Perm.of_eq (List.append_nil _)) 0 rfl rfl rfl hl.1 rfl (Nat.le_of_ble_eq_true rfl) ⟨by show _ ≤ 22; omega, by show _ ≤ 176; omega⟩ (dg ddL_isMean 22 rfl) (fun H locs hP hD hS => ?_)
      refine lv_if_ne (tgt := 46) hx hb (dg ddL_isMean 23 rfl) (by decide) (fun h8 => ?_) (fun h8 => ?_)
      · have hf := it_f h8 hf
        refine lv_dload_n hx hb (dg ddL_isMean 26 rfl) rfl (lv_at hl 1 rfl) ?_
        refine lv_aload_n hx hb (dg ddL_isMean 27 rfl) rfl (lv_at hl 0 rfl) ?_
        refine lv_iconst (v := 2) hx hb (dg ddL_isMean 28 rfl) (by decide) ?_
        obtain ⟨r10, e9, hf⟩ := ob_some hf
        rcases r10 with t9 | x_r10
        · cases os_l hf
        have hf := os_r hf
        refine crv_ri CX hml (As := [.int 2]) (rest := [.double x1, .long r5]) (ws := (wX4 q cy x_isv x_te x_re x_de x_now x_spa x_sna x_len x_sig x_nxt x_cnt x_rng)) (wsn := (wX4 q cy x_isv x_te x_re x_de x_now x_spa x_sna x_len x_sig x_nxt x_cnt x_rng)) (wr := []) (c_X4_account l D cy q x_isv x_te x_re x_de x_now x_spa x_sna x_len x_sig x_nxt x_cnt x_rng 2 _ hst e9) lk_RL_159 rfl rfl hRMX4_account hP hD hS hA hK hN hX (List.Perm.of_eq (List.append_nil _).symm) (List.Perm.of_eq (List.append_nil _)) 0 rfl rfl rfl hl.1 rfl (Nat.le_of_ble_eq_true rfl) ⟨by show _ ≤ 22; omega, by show _ ≤ 176; omega⟩ (dg ddL_isMean 29 rfl) (fun H locs hP hD hS => ?_)
        refine lv_i2d hx hb (dg ddL_isMean 30 rfl) ?_
        obtain ⟨h11, hf⟩ := og_some hf
        refine lv_ddiv hx hb (dg ddL_isMean 31 rfl) (n64_in h11) ?_
        obtain ⟨r13, e12, hf⟩ := ob_some hf
        refine cro_sl CX hml (As := [.double (FP.ddiv x1 (FP.i2d x_r10))]) (rest := [.long r5]) (c_Jxe99ae_doubleToLongBits_ccdee l D cy (FP.ddiv x1 (FP.i2d x_r10)) e12) lk_RL_236 rfl rfl hRMJxe99ae_doubleToLongBits_ccdee vaP_nil hK hN rfl hl.1 rfl (Nat.le_of_ble_eq_true rfl) ⟨by show _ ≤ 22; omega, by show _ ≤ 176; omega⟩ (dg ddL_isMean 32 rfl) ?_
        refine W.lcmp hx hb (dg ddL_isMean 33 rfl) ?_
        refine lv_if_ne (tgt := 65) hx hb (dg ddL_isMean 34 rfl) (by decide) (fun h14 => ?_) (fun h14 => ?_)
        · have hf := it_f h14 hf
          refine lv_iconst (v := 0) hx hb (dg ddL_isMean 37 rfl) (by decide) ?_
          cases hf
          refine W.widen (k := 22) (n := 176) (by omega) (by omega) ?_
          exact e_wz CX hr hlk (by decide) rfl hP hD hS (dg ddL_isMean 38 rfl)
        · have hf := it_t h14 hf
          refine lv_iconst (v := 1) hx hb (dg ddL_isMean 35 rfl) (by decide) ?_
          refine lv_goto (tgt := 66) hx hb (dg ddL_isMean 36 rfl) (by decide) ?_
          cases hf
          refine W.widen (k := 22) (n := 176) (by omega) (by omega) ?_
          exact e_wz CX hr hlk (by decide) rfl hP hD hS (dg ddL_isMean 38 rfl)
      · have hf := it_t h8 hf
        refine lv_ldc2 hx hb CX.2.2.2 (CX.2.2.1 (.constantLong RL 78 (-1)) (lw_at 1004 (by decide +kernel))) (dg ddL_isMean 24 rfl) ?_
        refine lv_goto (tgt := 57) hx hb (dg ddL_isMean 25 rfl) (by decide) ?_
        refine W.lcmp hx hb (dg ddL_isMean 33 rfl) ?_
        refine lv_if_ne (tgt := 65) hx hb (dg ddL_isMean 34 rfl) (by decide) (fun h15 => ?_) (fun h15 => ?_)
        · have hf := it_f h15 hf
          refine lv_iconst (v := 0) hx hb (dg ddL_isMean 37 rfl) (by decide) ?_
          cases hf
          refine W.widen (k := 22) (n := 176) (by omega) (by omega) ?_
          exact e_wz CX hr hlk (by decide) rfl hP hD hS (dg ddL_isMean 38 rfl)
        · have hf := it_t h15 hf
          refine lv_iconst (v := 1) hx hb (dg ddL_isMean 35 rfl) (by decide) ?_
          refine lv_goto (tgt := 66) hx hb (dg ddL_isMean 36 rfl) (by decide) ?_
          cases hf
          refine W.widen (k := 22) (n := 176) (by omega) (by omega) ?_
          exact e_wz CX hr hlk (by decide) rfl hP hD hS (dg ddL_isMean 38 rfl)
    · have hf := it_f h3 hf
      refine lv_dload_n hx hb (dg ddL_isMean 9 rfl) rfl (lv_at hl 1 rfl) ?_
      refine lv_aload_n hx hb (dg ddL_isMean 10 rfl) rfl (lv_at hl 0 rfl) ?_
      refine lv_iload_n hx hb (dg ddL_isMean 11 rfl) rfl (lv_at hl 2 rfl) ?_
      obtain ⟨r17, e16, hf⟩ := ob_some hf
      rcases r17 with t9 | x_r17
      · cases os_l hf
      have hf := os_r hf
      refine crv_rf CX hml (As := [.int x3]) (rest := [.double x1]) (ws := (wX4 q cy x_isv x_te x_re x_de x_now x_spa x_sna x_len x_sig x_nxt x_cnt x_rng)) (wsn := (wX4 q cy x_isv x_te x_re x_de x_now x_spa x_sna x_len x_sig x_nxt x_cnt x_rng)) (wr := []) (c_X4_hat l D cy q x_isv x_te x_re x_de x_now x_spa x_sna x_len x_sig x_nxt x_cnt x_rng x3 _ hst e16) lk_RL_178 rfl rfl hRMX4_hat hP hD hS hA hK hN hX (List.Perm.of_eq (List.append_nil _).symm) (List.Perm.of_eq (List.append_nil _)) 0 rfl rfl rfl hl.1 rfl (Nat.le_of_ble_eq_true rfl) ⟨by show _ ≤ 22; omega, by show _ ≤ 176; omega⟩ (dg ddL_isMean 12 rfl) (fun H locs hP hD hS => ?_)
      obtain ⟨h18, hf⟩ := og_some hf
      refine lv_f2d hx hb (dg ddL_isMean 13 rfl) (n64_in h18) ?_
      obtain ⟨h19, hf⟩ := og_some hf
      refine lv_dadd hx hb (dg ddL_isMean 14 rfl) (n64_in h19) ?_
      refine lv_dstore_n (lv' := [(1, .double (FP.dadd x1 (FP.f2d x_r17))), (0, .ref (q 0 0)), (3, .int x3)]) hx hb (dg ddL_isMean 15 rfl) rfl hl (by decide) rfl (fun ls hl => ?_)
      refine lv_iinc (v := x3 + 1) (lv' := [(3, .int (x3 + 1)), (1, .double (FP.dadd x1 (FP.f2d x_r17))), (0, .ref (q 0 0))]) hx hb (dg ddL_isMean 16 rfl) hl (k := 2) rfl (congrArg (HAdd.hAdd x3) (by decide)) (by decide) rfl (fun ls hl => ?_)
      refine lv_goto (tgt := 4) hx hb (dg ddL_isMean 17 rfl) (by decide) ?_
      refine W.widen (k := (k + 2)) (n := (ks + 16)) (by omega) (by omega) ?_
      exact ih (FP.dadd x1 (FP.f2d x_r17)) (x3 + 1) (k + 2) (ks + 16) (by omega) (by omega) _ _ hP hD hS _ (lv_sub hl [2, 1, 0] rfl) hf
  refine lv_dconst0 hx hb (dg ddL_isMean 0 rfl) ?_
  refine lv_dstore_n (lv' := [(1, .double FP.dconst0), (0, .ref (q 0 0))]) hx hb (dg ddL_isMean 1 rfl) rfl hl (by decide) rfl (fun ls hl => ?_)
  refine lv_iconst (v := 0) hx hb (dg ddL_isMean 2 rfl) (by decide) ?_
  refine lv_istore_n (lv' := [(3, .int 0), (1, .double FP.dconst0), (0, .ref (q 0 0))]) hx hb (dg ddL_isMean 3 rfl) rfl hl (by decide) rfl (fun ls hl => ?_)
  refine W.widen (k := (0 + 0)) (n := (0 + 0)) (by omega) (by omega) ?_
  exact K4 9 FP.dconst0 0 (0 + 0) (0 + 0) (by omega) (by omega) _ _ hP hD hS _ (lv_sub hl [2, 1, 0] rfl) hf
def f_L_isFit (x_now : SV) (x_spa : SV) (x_len : Int32) (x_cnt : Int32) : Option (Int32 × SV × SV) := ob (f_L_arePitches x_now x_spa x_len x_cnt) fun r2 => (if r2.1 = 0 then (some (0, r2.2.1, r2.2.2)) else (ob (f_L_areBuskers r2.2.1 r2.2.2 x_len x_cnt) fun r5 => (if r5.1 = 0 then (some (0, r2.2.1, r5.2)) else (ob (f_L_isMean r2.2.1 x_len x_cnt) fun r8 => (if r8 = 0 then (some (0, r2.2.1, r5.2)) else (some (1, r2.2.1, r5.2)))))))
set_option maxHeartbeats 8000000 in
set_option maxRecDepth 100000 in
theorem c_L_isFit (l : Launch) (D : va_G) (cy : Nat → ClassId) (q : Nat → Nat → Nat) (x_isv : Int32) (x_te : Int32) (x_re : Int32) (x_de : Int32) (x_now : SV) (x_spa : SV) (x_sna : SV) (x_len : Int32) (x_sig : Nat → Int32) (x_nxt : Int32) (x_cnt : Int32) (x_rng : Nat → SV) (sz : Nat) (hst : l.stackTraces = false) {res : Int32 × SV × SV} (hf : f_L_isFit x_now x_spa x_len x_cnt = some res) : Met l yL_isFit (.code yL_isFit cL_isFit 1 (some .boolean) :: lw_all) { frames := 11, cells := 634, slots := 5072, locals := 213 } (va_Pc [.ref (q 0 0)] (sY D cy (wX4 q cy x_isv x_te x_re x_de x_now x_spa x_sna x_len x_sig x_nxt x_cnt x_rng) sz)) (qI D (wX4 q cy x_isv x_te x_re x_de res.2.1 res.2.2 x_sna x_len x_sig x_nxt x_cnt x_rng) res.1 (va_A (wX4 q cy x_isv x_te x_re x_de x_now x_spa x_sna x_len x_sig x_nxt x_cnt x_rng) sz)) 634 5072 (va_A (wX4 q cy x_isv x_te x_re x_de x_now x_spa x_sna x_len x_sig x_nxt x_cnt x_rng) sz) := by
  refine mk_lc (Qc := qI D (wX4 q cy x_isv x_te x_re x_de res.2.1 res.2.2 x_sna x_len x_sig x_nxt x_cnt x_rng) res.1) (Rc := RL) (by decide +kernel) rfl (Nat.le_of_ble_eq_true rfl) ?_
  intro p e s m args below meth c ls A CX hml hr hlk hK hN hP hD hS hA hl hX hC
  have hx := CX.1
  have hb := CX.2.1
  have hRML_areBuskers : (⟨9, 328, 2624, 146⟩ : Room).frames + 1 ≤ (⟨11, 634, 5072, 213⟩ : Room).frames ∧ 8 + (11 + 11) + (⟨9, 328, 2624, 146⟩ : Room).locals ≤ (⟨11, 634, 5072, 213⟩ : Room).locals := ⟨(Nat.le_of_ble_eq_true rfl), (Nat.le_of_ble_eq_true rfl)⟩
  have hRML_arePitches : (⟨10, 284, 2272, 188⟩ : Room).frames + 1 ≤ (⟨11, 634, 5072, 213⟩ : Room).frames ∧ 8 + (6 + 11) + (⟨10, 284, 2272, 188⟩ : Room).locals ≤ (⟨11, 634, 5072, 213⟩ : Room).locals := ⟨(Nat.le_of_ble_eq_true rfl), (Nat.le_of_ble_eq_true rfl)⟩
  have hRML_isMean : (⟨8, 22, 176, 128⟩ : Room).frames + 1 ≤ (⟨11, 634, 5072, 213⟩ : Room).frames ∧ 8 + (4 + 11) + (⟨8, 22, 176, 128⟩ : Room).locals ≤ (⟨11, 634, 5072, 213⟩ : Room).locals := ⟨(Nat.le_of_ble_eq_true rfl), (Nat.le_of_ble_eq_true rfl)⟩
  refine lv_aload_n hx hb (dg ddL_isFit 0 rfl) rfl (lv_at hl 0 rfl) ?_
  obtain ⟨r2, e1, hf⟩ := ob_some hf
  refine crc_i CX hml (As := [.ref (q 0 0)]) (rest := []) (ws := (wX4 q cy x_isv x_te x_re x_de x_now x_spa x_sna x_len x_sig x_nxt x_cnt x_rng)) (wsn := (wX4 q cy x_isv x_te x_re x_de r2.2.1 r2.2.2 x_sna x_len x_sig x_nxt x_cnt x_rng)) (wr := []) (c_L_arePitches l D cy q x_isv x_te x_re x_de x_now x_spa x_sna x_len x_sig x_nxt x_cnt x_rng _ hst e1) lk_RL_242 rfl rfl hRML_arePitches hP hD hS hA hK hN hX hC (List.Perm.of_eq (List.append_nil _).symm) (List.Perm.of_eq (List.append_nil _)) rfl hl.1 rfl (Nat.le_of_ble_eq_true rfl) ⟨by show _ ≤ 634; omega, by show _ ≤ 5072; omega⟩ (dg ddL_isFit 1 rfl) (fun H locs hP hD hS => ?_)
  refine lv_if_eq (tgt := 25) hx hb (dg ddL_isFit 2 rfl) (by decide) (fun h3 => ?_) (fun h3 => ?_)
  · have hf := it_t h3 hf
    refine lv_iconst (v := 0) hx hb (dg ddL_isFit 11 rfl) (by decide) ?_
    cases hf
    refine W.widen (k := 634) (n := 5072) (by omega) (by omega) ?_
    exact e_wz CX hr hlk (by decide) rfl hP hD hS (dg ddL_isFit 12 rfl)
  · have hf := it_f h3 hf
    refine lv_aload_n hx hb (dg ddL_isFit 3 rfl) rfl (lv_at hl 0 rfl) ?_
    obtain ⟨r5, e4, hf⟩ := ob_some hf
    refine crc_i CX hml (As := [.ref (q 0 0)]) (rest := []) (ws := (wX4 q cy x_isv x_te x_re x_de r2.2.1 r2.2.2 x_sna x_len x_sig x_nxt x_cnt x_rng)) (wsn := (wX4 q cy x_isv x_te x_re x_de r2.2.1 r5.2 x_sna x_len x_sig x_nxt x_cnt x_rng)) (wr := []) (c_L_areBuskers l D cy q x_isv x_te x_re x_de r2.2.1 r2.2.2 x_sna x_len x_sig x_nxt x_cnt x_rng _ hst e4) lk_RL_246 rfl rfl hRML_areBuskers hP hD hS hA hK hN hX hC (List.Perm.of_eq (List.append_nil _).symm) (List.Perm.of_eq (List.append_nil _)) rfl hl.1 rfl (Nat.le_of_ble_eq_true rfl) ⟨by show _ ≤ 634; omega, by show _ ≤ 5072; omega⟩ (dg ddL_isFit 4 rfl) (fun H locs hP hD hS => ?_)
    refine lv_if_eq (tgt := 25) hx hb (dg ddL_isFit 5 rfl) (by decide) (fun h6 => ?_) (fun h6 => ?_)
    · have hf := it_t h6 hf
      refine lv_iconst (v := 0) hx hb (dg ddL_isFit 11 rfl) (by decide) ?_
      cases hf
      refine W.widen (k := 634) (n := 5072) (by omega) (by omega) ?_
      exact e_wz CX hr hlk (by decide) rfl hP hD hS (dg ddL_isFit 12 rfl)
    · have hf := it_f h6 hf
      refine lv_aload_n hx hb (dg ddL_isFit 6 rfl) rfl (lv_at hl 0 rfl) ?_
      obtain ⟨r8, e7, hf⟩ := ob_some hf
      refine crc_i CX hml (As := [.ref (q 0 0)]) (rest := []) (ws := (wX4 q cy x_isv x_te x_re x_de r2.2.1 r5.2 x_sna x_len x_sig x_nxt x_cnt x_rng)) (wsn := (wX4 q cy x_isv x_te x_re x_de r2.2.1 r5.2 x_sna x_len x_sig x_nxt x_cnt x_rng)) (wr := []) (c_L_isMean l D cy q x_isv x_te x_re x_de r2.2.1 r5.2 x_sna x_len x_sig x_nxt x_cnt x_rng _ hst e7) lk_RL_249 rfl rfl hRML_isMean hP hD hS hA hK hN hX hC (List.Perm.of_eq (List.append_nil _).symm) (List.Perm.of_eq (List.append_nil _)) rfl hl.1 rfl (Nat.le_of_ble_eq_true rfl) ⟨by show _ ≤ 634; omega, by show _ ≤ 5072; omega⟩ (dg ddL_isFit 7 rfl) (fun H locs hP hD hS => ?_)
      refine lv_if_eq (tgt := 25) hx hb (dg ddL_isFit 8 rfl) (by decide) (fun h9 => ?_) (fun h9 => ?_)
      · have hf := it_t h9 hf
        refine lv_iconst (v := 0) hx hb (dg ddL_isFit 11 rfl) (by decide) ?_
        cases hf
        refine W.widen (k := 634) (n := 5072) (by omega) (by omega) ?_
        exact e_wz CX hr hlk (by decide) rfl hP hD hS (dg ddL_isFit 12 rfl)
      · have hf := it_f h9 hf
        refine lv_iconst (v := 1) hx hb (dg ddL_isFit 9 rfl) (by decide) ?_
        refine lv_goto (tgt := 26) hx hb (dg ddL_isFit 10 rfl) (by decide) ?_
        cases hf
        refine W.widen (k := 634) (n := 5072) (by omega) (by omega) ?_
        exact e_wz CX hr hlk (by decide) rfl hP hD hS (dg ddL_isFit 12 rfl)
def f_L_isAhead_c204  (x_len : Int32) (x2 : Int64) (x8 : Int32) (x_now : SV) (x_spa : SV) (x_nxt : Int32) (x_cnt : Int32) (x_rng : Nat → SV) (w_a : Nat → Int32) (w_b : Nat → Int32) : Option (Int32 × SV × SV × Int32 × Int32 × (Nat → SV)) := if x8 = 0 then (some (0, x_now, x_spa, x_nxt, x_cnt, x_rng)) else (ob (f_L_undo x_now x_nxt x_cnt x_rng) fun r3 => (if r3.1 < 0 then (some (0, r3.2.1, x_spa, r3.2.2.1, r3.2.2.2, x_rng)) else (ob (f_L_digest r3.2.1 x_len r3.2.2.2) fun r6 => (if (lg_cmp r6 x2) = 0 then (some (1, r3.2.1, x_spa, r3.2.2.1, r3.2.2.2, x_rng)) else (some (0, r3.2.1, x_spa, r3.2.2.1, r3.2.2.2, x_rng))))))
def f_L_isAhead_c117  (x_len : Int32) (a2 : Int32) : Nat → Int64 → Int32 → Int32 → SV → SV → Int32 → Int32 → (Nat → SV) → (Nat → Int32) → (Nat → Int32) → Option (Int32 × SV × SV × Int32 × Int32 × (Nat → SV))
  | 0, _, _, _, _, _, _, _, _, _, _ => none
  | n + 1, x2, x8, x9, x_now, x_spa, x_nxt, x_cnt, x_rng, w_a, w_b => if x8 = 0 then (f_L_isAhead_c204 x_len x2 x8 x_now x_spa x_nxt x_cnt x_rng w_a w_b) else (ob (f_X4_account x_now x_len x_cnt 2) fun r3 => (os r3 (fun _ => none) fun x_r3 => (if x_r3 ≤ x9 then (f_L_isAhead_c204 x_len x2 x8 x_now x_spa x_nxt x_cnt x_rng w_a w_b) else (ob (f_X4_buskerOf x_now x9 5) fun r6 => (os r6 (fun _ => none) fun x_r6 => (og (inb x9 8) (ob (f_X4_hat x_now x9) fun r9 => (os r9 (fun _ => none) fun x_r9 => (ob (f_Jxf58ca_floatToIntBits_5c35a x_r9) fun r11 => (og (inb x9 8) (if r11 = (w_a x9.toNatClampNeg) then (if (x_r6 - (w_b x9.toNatClampNeg)) < 0 then (f_L_isAhead_c117 x_len a2 n x2 0 (x9 + 1) x_now x_spa x_nxt x_cnt x_rng w_a w_b) else (if a2 < (x_r6 - (w_b x9.toNatClampNeg)) then (f_L_isAhead_c117 x_len a2 n x2 0 (x9 + 1) x_now x_spa x_nxt x_cnt x_rng w_a w_b) else (ob (f_X4_buskerOf x_now x9 2) fun r17 => (os r17 (fun _ => none) fun x_r17 => (if x_r17 < 0 then (f_L_isAhead_c117 x_len a2 n x2 1 (x9 + 1) x_now x_spa x_nxt x_cnt x_rng w_a w_b) else (if (x_r6 - (w_b x9.toNatClampNeg)) = a2 then (f_L_isAhead_c117 x_len a2 n x2 1 (x9 + 1) x_now x_spa x_nxt x_cnt x_rng w_a w_b) else (f_L_isAhead_c117 x_len a2 n x2 0 (x9 + 1) x_now x_spa x_nxt x_cnt x_rng w_a w_b))))))) else (f_L_isAhead_c117 x_len a2 n x2 0 (x9 + 1) x_now x_spa x_nxt x_cnt x_rng w_a w_b))))))))))))
def f_L_isAhead_c34  (x_len : Int32) (a2 : Int32) : Nat → Int64 → Int32 → Int32 → Int32 → SV → SV → Int32 → Int32 → (Nat → SV) → (Nat → Int32) → (Nat → Int32) → Option (Int32 × SV × SV × Int32 × Int32 × (Nat → SV))
  | 0, _, _, _, _, _, _, _, _, _, _, _ => none
  | n + 1, x2, x4, x5, x8, x_now, x_spa, x_nxt, x_cnt, x_rng, w_a, w_b => ob (f_X4_account x_now x_len x_cnt 2) fun r2 => (os r2 (fun _ => none) fun x_r2 => (if x_r2 ≤ x8 then (ob (f_L_pass x_now x_nxt x_cnt x_rng a2) fun r5 => (ob (f_X4_account r5.2.1 x_len r5.2.2.2.1 5) fun r7 => (os r7 (fun _ => none) fun x_r7 => (if r5.1 = (x5 - x_r7) then (ob (f_X4_account r5.2.1 x_len r5.2.2.2.1 5) fun r10 => (os r10 (fun _ => none) fun x_r10 => (if x_r10 = x4 then (ob (f_L_isFit r5.2.1 x_spa x_len r5.2.2.2.1) fun r13 => (if r13.1 = 0 then (f_L_isAhead_c117 x_len a2 9 x2 0 0 r13.2.1 r13.2.2 r5.2.2.1 r5.2.2.2.1 r5.2.2.2.2 w_a w_b) else (f_L_isAhead_c117 x_len a2 9 x2 1 0 r13.2.1 r13.2.2 r5.2.2.1 r5.2.2.2.1 r5.2.2.2.2 w_a w_b))) else (f_L_isAhead_c117 x_len a2 9 x2 0 0 r5.2.1 x_spa r5.2.2.1 r5.2.2.2.1 r5.2.2.2.2 w_a w_b)))) else (f_L_isAhead_c117 x_len a2 9 x2 0 0 r5.2.1 x_spa r5.2.2.1 r5.2.2.2.1 r5.2.2.2.2 w_a w_b))))) else (ob (f_X4_hatIn x_now x_spa x8 a2) fun r16 => (os r16 (fun _ => none) fun x_r16 => (og (inb x8 8) (ob (f_X4_buskerOf x_now x8 5) fun r19 => (os r19 (fun _ => none) fun x_r19 => (og (inb x8 8) (f_L_isAhead_c34 x_len a2 n x2 x4 x5 (x8 + 1) x_now x_r16.2 x_nxt x_cnt x_rng (upd w_a x8.toNatClampNeg x_r16.1) (upd w_b x8.toNatClampNeg x_r19))))))))))
def f_L_isAhead (x_now : SV) (x_spa : SV) (x_len : Int32) (x_nxt : Int32) (x_cnt : Int32) (x_rng : Nat → SV) (a2 : Int32) : Option (Int32 × SV × SV × Int32 × Int32 × (Nat → SV)) := ob (f_L_digest x_now x_len x_cnt) fun r2 => (ob (f_X4_playingIn x_now x_spa a2) fun r4 => (os r4 (fun _ => none) fun x_r4 => (ob (f_X4_account x_now x_len x_cnt 5) fun r6 => (os r6 (fun _ => none) fun x_r6 => (f_L_isAhead_c34 x_len a2 9 r2 x_r4.1 x_r6 0 x_now x_r4.2 x_nxt x_cnt x_rng (fun _ => 0) (fun _ => 0))))))
set_option maxHeartbeats 8000000 in
set_option maxRecDepth 100000 in
theorem c_L_isAhead (l : Launch) (D : va_G) (cy : Nat → ClassId) (q : Nat → Nat → Nat) (x_isv : Int32) (x_te : Int32) (x_re : Int32) (x_de : Int32) (x_now : SV) (x_spa : SV) (x_sna : SV) (x_len : Int32) (x_sig : Nat → Int32) (x_nxt : Int32) (x_cnt : Int32) (x_rng : Nat → SV) (a2 : Int32) (sz : Nat) (hst : l.stackTraces = false) {res : Int32 × SV × SV × Int32 × Int32 × (Nat → SV)} (hf : f_L_isAhead x_now x_spa x_len x_nxt x_cnt x_rng a2 = some res) : Met l yL_isAhead (.code yL_isAhead cL_isAhead 11 (some .boolean) :: lw_all) { frames := 12, cells := 1333, slots := 10664, locals := 233 } (va_Pc [.ref (q 0 0), .int a2] (sY D cy (wX4 q cy x_isv x_te x_re x_de x_now x_spa x_sna x_len x_sig x_nxt x_cnt x_rng) sz)) (qI D (wX4 q cy x_isv x_te x_re x_de res.2.1 res.2.2.1 x_sna x_len x_sig res.2.2.2.1 res.2.2.2.2.1 res.2.2.2.2.2) res.1 (va_A (wX4 q cy x_isv x_te x_re x_de x_now x_spa x_sna x_len x_sig x_nxt x_cnt x_rng) sz)) 1333 10664 (va_A (wX4 q cy x_isv x_te x_re x_de x_now x_spa x_sna x_len x_sig x_nxt x_cnt x_rng) sz) := by
  refine mk_lc (Qc := qI D (wX4 q cy x_isv x_te x_re x_de res.2.1 res.2.2.1 x_sna x_len x_sig res.2.2.2.1 res.2.2.2.2.1 res.2.2.2.2.2) res.1) (Rc := RL) (by decide +kernel) rfl (Nat.le_of_ble_eq_true rfl) ?_
  intro p e s m args below meth c ls A CX hml hr hlk hK hN hP hD hS hA hl hX hC
  have hx := CX.1
  have hb := CX.2.1
  have hRMJxf58ca_floatToIntBits_5c35a : (⟨2, 0, 0, 40⟩ : Room).frames + 1 ≤ (⟨12, 1333, 10664, 233⟩ : Room).frames ∧ 8 + (1 + 11) + (⟨2, 0, 0, 40⟩ : Room).locals ≤ (⟨12, 1333, 10664, 233⟩ : Room).locals := ⟨(Nat.le_of_ble_eq_true rfl), (Nat.le_of_ble_eq_true rfl)⟩
  have hRML_digest : (⟨8, 295, 2360, 140⟩ : Room).frames + 1 ≤ (⟨12, 1333, 10664, 233⟩ : Room).frames ∧ 8 + (5 + 11) + (⟨8, 295, 2360, 140⟩ : Room).locals ≤ (⟨12, 1333, 10664, 233⟩ : Room).locals := ⟨(Nat.le_of_ble_eq_true rfl), (Nat.le_of_ble_eq_true rfl)⟩
  have hRML_isFit : (⟨11, 634, 5072, 213⟩ : Room).frames + 1 ≤ (⟨12, 1333, 10664, 233⟩ : Room).frames ∧ 8 + (1 + 11) + (⟨11, 634, 5072, 213⟩ : Room).locals ≤ (⟨12, 1333, 10664, 233⟩ : Room).locals := ⟨(Nat.le_of_ble_eq_true rfl), (Nat.le_of_ble_eq_true rfl)⟩
  have hRML_pass : (⟨8, 1, 6, 123⟩ : Room).frames + 1 ≤ (⟨12, 1333, 10664, 233⟩ : Room).frames ∧ 8 + (4 + 11) + (⟨8, 1, 6, 123⟩ : Room).locals ≤ (⟨12, 1333, 10664, 233⟩ : Room).locals := ⟨(Nat.le_of_ble_eq_true rfl), (Nat.le_of_ble_eq_true rfl)⟩
  have hRML_undo : (⟨7, 1, 6, 103⟩ : Room).frames + 1 ≤ (⟨12, 1333, 10664, 233⟩ : Room).frames ∧ 8 + (3 + 11) + (⟨7, 1, 6, 103⟩ : Room).locals ≤ (⟨12, 1333, 10664, 233⟩ : Room).locals := ⟨(Nat.le_of_ble_eq_true rfl), (Nat.le_of_ble_eq_true rfl)⟩
  have hRMX4_account : (⟨6, 1, 6, 82⟩ : Room).frames + 1 ≤ (⟨12, 1333, 10664, 233⟩ : Room).frames ∧ 8 + (2 + 11) + (⟨6, 1, 6, 82⟩ : Room).locals ≤ (⟨12, 1333, 10664, 233⟩ : Room).locals := ⟨(Nat.le_of_ble_eq_true rfl), (Nat.le_of_ble_eq_true rfl)⟩
  have hRMX4_buskerOf : (⟨7, 2, 12, 102⟩ : Room).frames + 1 ≤ (⟨12, 1333, 10664, 233⟩ : Room).frames ∧ 8 + (3 + 11) + (⟨7, 2, 12, 102⟩ : Room).locals ≤ (⟨12, 1333, 10664, 233⟩ : Room).locals := ⟨(Nat.le_of_ble_eq_true rfl), (Nat.le_of_ble_eq_true rfl)⟩
  have hRMX4_hat : (⟨7, 1, 6, 102⟩ : Room).frames + 1 ≤ (⟨12, 1333, 10664, 233⟩ : Room).frames ∧ 8 + (2 + 11) + (⟨7, 1, 6, 102⟩ : Room).locals ≤ (⟨12, 1333, 10664, 233⟩ : Room).locals := ⟨(Nat.le_of_ble_eq_true rfl), (Nat.le_of_ble_eq_true rfl)⟩
  have hRMX4_hatIn : (⟨7, 2, 12, 102⟩ : Room).frames + 1 ≤ (⟨12, 1333, 10664, 233⟩ : Room).frames ∧ 8 + (3 + 11) + (⟨7, 2, 12, 102⟩ : Room).locals ≤ (⟨12, 1333, 10664, 233⟩ : Room).locals := ⟨(Nat.le_of_ble_eq_true rfl), (Nat.le_of_ble_eq_true rfl)⟩
  have hRMX4_playingIn : (⟨7, 1, 6, 102⟩ : Room).frames + 1 ≤ (⟨12, 1333, 10664, 233⟩ : Room).frames ∧ 8 + (2 + 11) + (⟨7, 1, 6, 102⟩ : Room).locals ≤ (⟨12, 1333, 10664, 233⟩ : Room).locals := ⟨(Nat.le_of_ble_eq_true rfl), (Nat.le_of_ble_eq_true rfl)⟩
  have K204 : ∀ (ra rb : Nat), ∀ (x2 : Int64) (x8 : Int32) (x_now : SV) (x_spa : SV) (x_nxt : Int32) (x_cnt : Int32) (x_rng : Nat → SV) (w_a : Nat → Int32) (w_b : Nat → Int32) (k ks : Nat) (hk : k + (296) ≤ 1333) (hks : ks + 8 * (296) ≤ 10664) (H : Heap) (locs : List Loc) (hP : va_P D vwCl ([(rb, .inl (cy 0, 8, .inl w_b)), (ra, .inl (cy 0, 8, .inl w_a))] ++ (wX4 q cy x_isv x_te x_re x_de x_now x_spa x_sna x_len x_sig x_nxt x_cnt x_rng)) H) (hD : va_D A ([(rb, .inl (cy 0, 8, .inl w_b)), (ra, .inl (cy 0, 8, .inl w_a))] ++ (wX4 q cy x_isv x_te x_re x_de x_now x_spa x_sna x_len x_sig x_nxt x_cnt x_rng))) (hS : va_S A s.heap H locs) (ls : Array Slot) (hl : lv_has ls 11 [(0, .ref (q 0 0)), (2, .long x2), (8, .int x8)]) (hf : f_L_isAhead_c204 x_len x2 x8 x_now x_spa x_nxt x_cnt x_rng w_a w_b = some res), W p l e ⟨12, 1333, 10664, 233⟩ s m args below meth c H locs k ks (MQ below (qI D (wX4 q cy x_isv x_te x_re x_de res.2.1 res.2.2.1 x_sna x_len x_sig res.2.2.2.1 res.2.2.2.2.1 res.2.2.2.2.2) res.1 A) args s 1333 10664 A) (F0 m 204 ls []) := by
    intro ra rb x2 x8 x_now x_spa x_nxt x_cnt x_rng w_a w_b k ks hk hks H locs hP hD hS ls hl hf
    refine lv_iload hx hb (dg ddL_isAhead 106 rfl) (lv_at hl 2 rfl) ?_
    refine lv_if_eq (tgt := 229) hx hb (dg ddL_isAhead 107 rfl) (by decide) (fun h1 => ?_) (fun h1 => ?_)
    · have hf := it_t h1 hf
      refine lv_iconst (v := 0) hx hb (dg ddL_isAhead 118 rfl) (by decide) ?_
      cases hf
      refine W.widen (k := 1333) (n := 10664) (by omega) (by omega) ?_
      have hP := vaP_r hP
      have hD := vaD_r hD
      exact e_wz CX hr hlk (by decide) rfl hP hD hS (dg ddL_isAhead 119 rfl)
    · have hf := it_f h1 hf
      refine lv_aload_n hx hb (dg ddL_isAhead 108 rfl) rfl (lv_at hl 0 rfl) ?_
      obtain ⟨r3, e2, hf⟩ := ob_some hf
      refine crl_i CX hml (As := [.ref (q 0 0)]) (rest := []) (ws := ([(rb, .inl (cy 0, 8, .inl w_b)), (ra, .inl (cy 0, 8, .inl w_a))] ++ (wX4 q cy x_isv x_te x_re x_de x_now x_spa x_sna x_len x_sig x_nxt x_cnt x_rng))) (wsn := ([(rb, .inl (cy 0, 8, .inl w_b)), (ra, .inl (cy 0, 8, .inl w_a))] ++ (wX4 q cy x_isv x_te x_re x_de r3.2.1 x_spa x_sna x_len x_sig r3.2.2.1 r3.2.2.2 x_rng))) (wr := [(rb, .inl (cy 0, 8, .inl w_b)), (ra, .inl (cy 0, 8, .inl w_a))]) (c_L_undo l D cy q x_isv x_te x_re x_de x_now x_spa x_sna x_len x_sig x_nxt x_cnt x_rng _ hst e2) lk_RL_151 rfl rfl hRML_undo hP hD hS hA hK hN hX hC List.perm_append_comm List.perm_append_comm rfl hl.1 rfl (Nat.le_of_ble_eq_true rfl) ⟨by show _ ≤ 1333; omega, by show _ ≤ 10664; omega⟩ (dg ddL_isAhead 109 rfl) (fun H locs hP hD hS => ?_)
      refine lv_if_lt (tgt := 229) hx hb (dg ddL_isAhead 110 rfl) (by decide) (fun h4 => ?_) (fun h4 => ?_)
      · have hf := it_t h4 hf
        refine lv_iconst (v := 0) hx hb (dg ddL_isAhead 118 rfl) (by decide) ?_
        cases hf
        refine W.widen (k := 1333) (n := 10664) (by omega) (by omega) ?_
        have hP := vaP_r hP
        have hD := vaD_r hD
        exact e_wz CX hr hlk (by decide) rfl hP hD hS (dg ddL_isAhead 119 rfl)
      · have hf := it_f h4 hf
        refine lv_aload_n hx hb (dg ddL_isAhead 111 rfl) rfl (lv_at hl 0 rfl) ?_
        obtain ⟨r6, e5, hf⟩ := ob_some hf
        refine crc_l CX hml (As := [.ref (q 0 0)]) (rest := []) (ws := ([(rb, .inl (cy 0, 8, .inl w_b)), (ra, .inl (cy 0, 8, .inl w_a))] ++ (wX4 q cy x_isv x_te x_re x_de r3.2.1 x_spa x_sna x_len x_sig r3.2.2.1 r3.2.2.2 x_rng))) (wsn := ([(rb, .inl (cy 0, 8, .inl w_b)), (ra, .inl (cy 0, 8, .inl w_a))] ++ (wX4 q cy x_isv x_te x_re x_de r3.2.1 x_spa x_sna x_len x_sig r3.2.2.1 r3.2.2.2 x_rng))) (wr := [(rb, .inl (cy 0, 8, .inl w_b)), (ra, .inl (cy 0, 8, .inl w_a))]) (c_L_digest l D cy q x_isv x_te x_re x_de r3.2.1 x_spa x_sna x_len x_sig r3.2.2.1 r3.2.2.2 x_rng _ hst e5) lk_RL_252 rfl rfl hRML_digest hP hD hS hA hK hN hX hC List.perm_append_comm List.perm_append_comm rfl hl.1 rfl (Nat.le_of_ble_eq_true rfl) ⟨by show _ ≤ 1333; omega, by show _ ≤ 10664; omega⟩ (dg ddL_isAhead 112 rfl) (fun H locs hP hD hS => ?_)
        refine lv_lload_n hx hb (dg ddL_isAhead 113 rfl) rfl (lv_at hl 1 rfl) ?_
        refine W.lcmp hx hb (dg ddL_isAhead 114 rfl) ?_
        refine lv_if_ne (tgt := 229) hx hb (dg ddL_isAhead 115 rfl) (by decide) (fun h7 => ?_) (fun h7 => ?_)
        · have hf := it_f h7 hf
          refine lv_iconst (v := 0) hx hb (dg ddL_isAhead 118 rfl) (by decide) ?_
          cases hf
          refine W.widen (k := 1333) (n := 10664) (by omega) (by omega) ?_
          have hP := vaP_r hP
          have hD := vaD_r hD
          exact e_wz CX hr hlk (by decide) rfl hP hD hS (dg ddL_isAhead 119 rfl)
        · have hf := it_t h7 hf
          refine lv_iconst (v := 1) hx hb (dg ddL_isAhead 116 rfl) (by decide) ?_
          refine lv_goto (tgt := 230) hx hb (dg ddL_isAhead 117 rfl) (by decide) ?_
          cases hf
          refine W.widen (k := 1333) (n := 10664) (by omega) (by omega) ?_
          have hP := vaP_r hP
          have hD := vaD_r hD
          exact e_wz CX hr hlk (by decide) rfl hP hD hS (dg ddL_isAhead 119 rfl)
  have K117 : ∀ (ra rb : Nat) (n : Nat), ∀ (x2 : Int64) (x8 : Int32) (x9 : Int32) (x_now : SV) (x_spa : SV) (x_nxt : Int32) (x_cnt : Int32) (x_rng : Nat → SV) (w_a : Nat → Int32) (w_b : Nat → Int32) (k ks : Nat) (hk : k + (n * 6 + 297) ≤ 1333) (hks : ks + 8 * (n * 6 + 297) ≤ 10664) (H : Heap) (locs : List Loc) (hP : va_P D vwCl ([(rb, .inl (cy 0, 8, .inl w_b)), (ra, .inl (cy 0, 8, .inl w_a))] ++ (wX4 q cy x_isv x_te x_re x_de x_now x_spa x_sna x_len x_sig x_nxt x_cnt x_rng)) H) (hD : va_D A ([(rb, .inl (cy 0, 8, .inl w_b)), (ra, .inl (cy 0, 8, .inl w_a))] ++ (wX4 q cy x_isv x_te x_re x_de x_now x_spa x_sna x_len x_sig x_nxt x_cnt x_rng))) (hS : va_S A s.heap H locs) (ls : Array Slot) (hl : lv_has ls 11 [(0, .ref (q 0 0)), (1, .int a2), (2, .long x2), (6, .ref (ra)), (7, .ref (rb)), (8, .int x8), (9, .int x9)]) (hf : f_L_isAhead_c117 x_len a2 n x2 x8 x9 x_now x_spa x_nxt x_cnt x_rng w_a w_b = some res), W p l e ⟨12, 1333, 10664, 233⟩ s m args below meth c H locs k ks (MQ below (qI D (wX4 q cy x_isv x_te x_re x_de res.2.1 res.2.2.1 x_sna x_len x_sig res.2.2.2.1 res.2.2.2.2.1 res.2.2.2.2.2) res.1 A) args s 1333 10664 A) (F0 m 117 ls []) := by
    intro ra rb n
    induction n with
    | zero => intro x2 x8 x9 x_now x_spa x_nxt x_cnt x_rng w_a w_b k ks hk hks H locs hP hD hS ls hl hf; cases (show none = some res from hf)
    | succ n ih =>
    intro x2 x8 x9 x_now x_spa x_nxt x_cnt x_rng w_a w_b k ks hk hks H locs hP hD hS ls hl hf
    refine lv_iload hx hb (dg ddL_isAhead 63 rfl) (lv_at hl 5 rfl) ?_
    refine lv_if_eq (tgt := 204) hx hb (dg ddL_isAhead 64 rfl) (by decide) (fun h1 => ?_) (fun h1 => ?_)
    · have hf := it_t h1 hf
      refine W.widen (k := (k + 0)) (n := (ks + 0)) (by omega) (by omega) ?_
      exact K204 ra rb  x2 x8 x_now x_spa x_nxt x_cnt x_rng w_a w_b (k + 0) (ks + 0) (by omega) (by omega) _ _ hP hD hS _ (lv_sub hl [0, 2, 5] rfl) hf
    · have hf := it_f h1 hf
      refine lv_iload hx hb (dg ddL_isAhead 65 rfl) (lv_at hl 6 rfl) ?_
      refine lv_aload_n hx hb (dg ddL_isAhead 66 rfl) rfl (lv_at hl 0 rfl) ?_
      refine lv_iconst (v := 2) hx hb (dg ddL_isAhead 67 rfl) (by decide) ?_
      obtain ⟨r3, e2, hf⟩ := ob_some hf
      rcases r3 with t9 | x_r3
      · cases os_l hf
      have hf := os_r hf
      refine crv_ri CX hml (As := [.int 2]) (rest := [.int x9]) (ws := ([(rb, .inl (cy 0, 8, .inl w_b)), (ra, .inl (cy 0, 8, .inl w_a))] ++ (wX4 q cy x_isv x_te x_re x_de x_now x_spa x_sna x_len x_sig x_nxt x_cnt x_rng))) (wsn := ([(rb, .inl (cy 0, 8, .inl w_b)), (ra, .inl (cy 0, 8, .inl w_a))] ++ (wX4 q cy x_isv x_te x_re x_de x_now x_spa x_sna x_len x_sig x_nxt x_cnt x_rng))) (wr := [(rb, .inl (cy 0, 8, .inl w_b)), (ra, .inl (cy 0, 8, .inl w_a))]) (c_X4_account l D cy q x_isv x_te x_re x_de x_now x_spa x_sna x_len x_sig x_nxt x_cnt x_rng 2 _ hst e2) lk_RL_159 rfl rfl hRMX4_account hP hD hS hA hK hN hX List.perm_append_comm List.perm_append_comm 0 rfl rfl rfl hl.1 rfl (Nat.le_of_ble_eq_true rfl) ⟨by show _ ≤ 1333; omega, by show _ ≤ 10664; omega⟩ (dg ddL_isAhead 68 rfl) (fun H locs hP hD hS => ?_)
      refine lv_icmp_ge (tgt := 204) hx hb (dg ddL_isAhead 69 rfl) (by decide) (fun h4 => ?_) (fun h4 => ?_)
      · have hf := it_t h4 hf
        refine W.widen (k := (k + 1)) (n := (ks + 8)) (by omega) (by omega) ?_
        exact K204 ra rb  x2 x8 x_now x_spa x_nxt x_cnt x_rng w_a w_b (k + 1) (ks + 8) (by omega) (by omega) _ _ hP hD hS _ (lv_sub hl [0, 2, 5] rfl) hf
      · have hf := it_f h4 hf
        refine lv_aload_n hx hb (dg ddL_isAhead 70 rfl) rfl (lv_at hl 0 rfl) ?_
        refine lv_iload hx hb (dg ddL_isAhead 71 rfl) (lv_at hl 6 rfl) ?_
        refine lv_iconst (v := 5) hx hb (dg ddL_isAhead 72 rfl) (by decide) ?_
        obtain ⟨r6, e5, hf⟩ := ob_some hf
        rcases r6 with t9 | x_r6
        · cases os_l hf
        have hf := os_r hf
        refine crv_ri CX hml (As := [.int x9, .int 5]) (rest := []) (ws := ([(rb, .inl (cy 0, 8, .inl w_b)), (ra, .inl (cy 0, 8, .inl w_a))] ++ (wX4 q cy x_isv x_te x_re x_de x_now x_spa x_sna x_len x_sig x_nxt x_cnt x_rng))) (wsn := ([(rb, .inl (cy 0, 8, .inl w_b)), (ra, .inl (cy 0, 8, .inl w_a))] ++ (wX4 q cy x_isv x_te x_re x_de x_now x_spa x_sna x_len x_sig x_nxt x_cnt x_rng))) (wr := [(rb, .inl (cy 0, 8, .inl w_b)), (ra, .inl (cy 0, 8, .inl w_a))]) (c_X4_buskerOf l D cy q x_isv x_te x_re x_de x_now x_spa x_sna x_len x_sig x_nxt x_cnt x_rng x9 5 _ hst e5) lk_RL_184 rfl rfl hRMX4_buskerOf hP hD hS hA hK hN hX List.perm_append_comm List.perm_append_comm 0 rfl rfl rfl hl.1 rfl (Nat.le_of_ble_eq_true rfl) ⟨by show _ ≤ 1333; omega, by show _ ≤ 10664; omega⟩ (dg ddL_isAhead 73 rfl) (fun H locs hP hD hS => ?_)
        refine lv_aload hx hb (dg ddL_isAhead 74 rfl) (lv_at hl 4 rfl) ?_
        refine lv_iload hx hb (dg ddL_isAhead 75 rfl) (lv_at hl 6 rfl) ?_
        obtain ⟨h7, hf⟩ := og_some hf
        refine va_iald hx hb hK hP 0 0 rfl rfl (inb_in h7) (dg ddL_isAhead 76 rfl) ?_
        refine lv_isub hx hb (dg ddL_isAhead 77 rfl) ?_
        refine lv_istore (lv' := [(10, .int (x_r6 - (w_b x9.toNatClampNeg))), (0, .ref (q 0 0)), (1, .int a2), (2, .long x2), (6, .ref (ra)), (7, .ref (rb)), (8, .int x8), (9, .int x9)]) hx hb (dg ddL_isAhead 78 rfl) hl (by decide) rfl (fun ls hl => ?_)
        refine lv_aload_n hx hb (dg ddL_isAhead 79 rfl) rfl (lv_at hl 1 rfl) ?_
        refine lv_iload hx hb (dg ddL_isAhead 80 rfl) (lv_at hl 7 rfl) ?_
        obtain ⟨r9, e8, hf⟩ := ob_some hf
        rcases r9 with t9 | x_r9
        · cases os_l hf
        have hf := os_r hf
        refine crv_rf CX hml (As := [.int x9]) (rest := []) (ws := ([(rb, .inl (cy 0, 8, .inl w_b)), (ra, .inl (cy 0, 8, .inl w_a))] ++ (wX4 q cy x_isv x_te x_re x_de x_now x_spa x_sna x_len x_sig x_nxt x_cnt x_rng))) (wsn := ([(rb, .inl (cy 0, 8, .inl w_b)), (ra, .inl (cy 0, 8, .inl w_a))] ++ (wX4 q cy x_isv x_te x_re x_de x_now x_spa x_sna x_len x_sig x_nxt x_cnt x_rng))) (wr := [(rb, .inl (cy 0, 8, .inl w_b)), (ra, .inl (cy 0, 8, .inl w_a))]) (c_X4_hat l D cy q x_isv x_te x_re x_de x_now x_spa x_sna x_len x_sig x_nxt x_cnt x_rng x9 _ hst e8) lk_RL_178 rfl rfl hRMX4_hat hP hD hS hA hK hN hX List.perm_append_comm List.perm_append_comm 0 rfl rfl rfl hl.1 rfl (Nat.le_of_ble_eq_true rfl) ⟨by show _ ≤ 1333; omega, by show _ ≤ 10664; omega⟩ (dg ddL_isAhead 81 rfl) (fun H locs hP hD hS => ?_)
        obtain ⟨r11, e10, hf⟩ := ob_some hf
        refine cro_si CX hml (As := [.float x_r9]) (rest := []) (c_Jxf58ca_floatToIntBits_5c35a l D cy x_r9 e10) lk_RL_169 rfl rfl hRMJxf58ca_floatToIntBits_5c35a vaP_nil hK hN rfl hl.1 rfl (Nat.le_of_ble_eq_true rfl) ⟨by show _ ≤ 1333; omega, by show _ ≤ 10664; omega⟩ (dg ddL_isAhead 82 rfl) ?_
        refine lv_aload hx hb (dg ddL_isAhead 83 rfl) (lv_at hl 4 rfl) ?_
        refine lv_iload hx hb (dg ddL_isAhead 84 rfl) (lv_at hl 7 rfl) ?_
        obtain ⟨h12, hf⟩ := og_some hf
        refine va_iald hx hb hK hP 1 0 rfl rfl (inb_in h12) (dg ddL_isAhead 85 rfl) ?_
        refine lv_icmp_ne (tgt := 195) hx hb (dg ddL_isAhead 86 rfl) (by decide) (fun h13 => ?_) (fun h13 => ?_)
        · have hf := it_f h13 hf
          refine lv_iconst (v := 0) hx hb (dg ddL_isAhead 102 rfl) (by decide) ?_
          refine lv_istore (lv' := [(8, .int 0), (10, .int (x_r6 - (w_b x9.toNatClampNeg))), (0, .ref (q 0 0)), (1, .int a2), (2, .long x2), (6, .ref (ra)), (7, .ref (rb)), (9, .int x9)]) hx hb (dg ddL_isAhead 103 rfl) hl (by decide) rfl (fun ls hl => ?_)
          refine lv_iinc (v := x9 + 1) (lv' := [(9, .int (x9 + 1)), (8, .int 0), (10, .int (x_r6 - (w_b x9.toNatClampNeg))), (0, .ref (q 0 0)), (1, .int a2), (2, .long x2), (6, .ref (ra)), (7, .ref (rb))]) hx hb (dg ddL_isAhead 104 rfl) hl (k := 7) rfl (congrArg (HAdd.hAdd x9) (by decide)) (by decide) rfl (fun ls hl => ?_)
          refine lv_goto (tgt := 117) hx hb (dg ddL_isAhead 105 rfl) (by decide) ?_
          refine W.widen (k := (k + 4)) (n := (ks + 32)) (by omega) (by omega) ?_
          exact ih x2 0 (x9 + 1) x_now x_spa x_nxt x_cnt x_rng w_a w_b (k + 4) (ks + 32) (by omega) (by omega) _ _ hP hD hS _ (lv_sub hl [3, 4, 5, 6, 7, 1, 0] rfl) hf
        · have hf := it_t h13 hf
          refine lv_iload hx hb (dg ddL_isAhead 87 rfl) (lv_at hl 0 rfl) ?_
          refine lv_if_lt (tgt := 195) hx hb (dg ddL_isAhead 88 rfl) (by decide) (fun h14 => ?_) (fun h14 => ?_)
          · have hf := it_t h14 hf
            refine lv_iconst (v := 0) hx hb (dg ddL_isAhead 102 rfl) (by decide) ?_
            refine lv_istore (lv' := [(8, .int 0), (10, .int (x_r6 - (w_b x9.toNatClampNeg))), (0, .ref (q 0 0)), (1, .int a2), (2, .long x2), (6, .ref (ra)), (7, .ref (rb)), (9, .int x9)]) hx hb (dg ddL_isAhead 103 rfl) hl (by decide) rfl (fun ls hl => ?_)
            refine lv_iinc (v := x9 + 1) (lv' := [(9, .int (x9 + 1)), (8, .int 0), (10, .int (x_r6 - (w_b x9.toNatClampNeg))), (0, .ref (q 0 0)), (1, .int a2), (2, .long x2), (6, .ref (ra)), (7, .ref (rb))]) hx hb (dg ddL_isAhead 104 rfl) hl (k := 7) rfl (congrArg (HAdd.hAdd x9) (by decide)) (by decide) rfl (fun ls hl => ?_)
            refine lv_goto (tgt := 117) hx hb (dg ddL_isAhead 105 rfl) (by decide) ?_
            refine W.widen (k := (k + 4)) (n := (ks + 32)) (by omega) (by omega) ?_
            exact ih x2 0 (x9 + 1) x_now x_spa x_nxt x_cnt x_rng w_a w_b (k + 4) (ks + 32) (by omega) (by omega) _ _ hP hD hS _ (lv_sub hl [3, 4, 5, 6, 7, 1, 0] rfl) hf
          · have hf := it_f h14 hf
            refine lv_iload hx hb (dg ddL_isAhead 89 rfl) (lv_at hl 0 rfl) ?_
            refine lv_iload_n hx hb (dg ddL_isAhead 90 rfl) rfl (lv_at hl 2 rfl) ?_
            refine lv_icmp_gt (tgt := 195) hx hb (dg ddL_isAhead 91 rfl) (by decide) (fun h15 => ?_) (fun h15 => ?_)
            · have hf := it_t h15 hf
              refine lv_iconst (v := 0) hx hb (dg ddL_isAhead 102 rfl) (by decide) ?_
              refine lv_istore (lv' := [(8, .int 0), (10, .int (x_r6 - (w_b x9.toNatClampNeg))), (0, .ref (q 0 0)), (1, .int a2), (2, .long x2), (6, .ref (ra)), (7, .ref (rb)), (9, .int x9)]) hx hb (dg ddL_isAhead 103 rfl) hl (by decide) rfl (fun ls hl => ?_)
              refine lv_iinc (v := x9 + 1) (lv' := [(9, .int (x9 + 1)), (8, .int 0), (10, .int (x_r6 - (w_b x9.toNatClampNeg))), (0, .ref (q 0 0)), (1, .int a2), (2, .long x2), (6, .ref (ra)), (7, .ref (rb))]) hx hb (dg ddL_isAhead 104 rfl) hl (k := 7) rfl (congrArg (HAdd.hAdd x9) (by decide)) (by decide) rfl (fun ls hl => ?_)
              refine lv_goto (tgt := 117) hx hb (dg ddL_isAhead 105 rfl) (by decide) ?_
              refine W.widen (k := (k + 4)) (n := (ks + 32)) (by omega) (by omega) ?_
              exact ih x2 0 (x9 + 1) x_now x_spa x_nxt x_cnt x_rng w_a w_b (k + 4) (ks + 32) (by omega) (by omega) _ _ hP hD hS _ (lv_sub hl [3, 4, 5, 6, 7, 1, 0] rfl) hf
            · have hf := it_f h15 hf
              refine lv_aload_n hx hb (dg ddL_isAhead 92 rfl) rfl (lv_at hl 1 rfl) ?_
              refine lv_iload hx hb (dg ddL_isAhead 93 rfl) (lv_at hl 7 rfl) ?_
              refine lv_iconst (v := 2) hx hb (dg ddL_isAhead 94 rfl) (by decide) ?_
              obtain ⟨r17, e16, hf⟩ := ob_some hf
              rcases r17 with t9 | x_r17
              · cases os_l hf
              have hf := os_r hf
              refine crv_ri CX hml (As := [.int x9, .int 2]) (rest := []) (ws := ([(rb, .inl (cy 0, 8, .inl w_b)), (ra, .inl (cy 0, 8, .inl w_a))] ++ (wX4 q cy x_isv x_te x_re x_de x_now x_spa x_sna x_len x_sig x_nxt x_cnt x_rng))) (wsn := ([(rb, .inl (cy 0, 8, .inl w_b)), (ra, .inl (cy 0, 8, .inl w_a))] ++ (wX4 q cy x_isv x_te x_re x_de x_now x_spa x_sna x_len x_sig x_nxt x_cnt x_rng))) (wr := [(rb, .inl (cy 0, 8, .inl w_b)), (ra, .inl (cy 0, 8, .inl w_a))]) (c_X4_buskerOf l D cy q x_isv x_te x_re x_de x_now x_spa x_sna x_len x_sig x_nxt x_cnt x_rng x9 2 _ hst e16) lk_RL_184 rfl rfl hRMX4_buskerOf hP hD hS hA hK hN hX List.perm_append_comm List.perm_append_comm 0 rfl rfl rfl hl.1 rfl (Nat.le_of_ble_eq_true rfl) ⟨by show _ ≤ 1333; omega, by show _ ≤ 10664; omega⟩ (dg ddL_isAhead 95 rfl) (fun H locs hP hD hS => ?_)
              refine lv_if_lt (tgt := 191) hx hb (dg ddL_isAhead 96 rfl) (by decide) (fun h18 => ?_) (fun h18 => ?_)
              · have hf := it_t h18 hf
                refine lv_iconst (v := 1) hx hb (dg ddL_isAhead 100 rfl) (by decide) ?_
                refine lv_goto (tgt := 196) hx hb (dg ddL_isAhead 101 rfl) (by decide) ?_
                refine lv_istore (lv' := [(8, .int 1), (10, .int (x_r6 - (w_b x9.toNatClampNeg))), (0, .ref (q 0 0)), (1, .int a2), (2, .long x2), (6, .ref (ra)), (7, .ref (rb)), (9, .int x9)]) hx hb (dg ddL_isAhead 103 rfl) hl (by decide) rfl (fun ls hl => ?_)
                refine lv_iinc (v := x9 + 1) (lv' := [(9, .int (x9 + 1)), (8, .int 1), (10, .int (x_r6 - (w_b x9.toNatClampNeg))), (0, .ref (q 0 0)), (1, .int a2), (2, .long x2), (6, .ref (ra)), (7, .ref (rb))]) hx hb (dg ddL_isAhead 104 rfl) hl (k := 7) rfl (congrArg (HAdd.hAdd x9) (by decide)) (by decide) rfl (fun ls hl => ?_)
                refine lv_goto (tgt := 117) hx hb (dg ddL_isAhead 105 rfl) (by decide) ?_
                refine W.widen (k := (k + 6)) (n := (ks + 48)) (by omega) (by omega) ?_
                exact ih x2 1 (x9 + 1) x_now x_spa x_nxt x_cnt x_rng w_a w_b (k + 6) (ks + 48) (by omega) (by omega) _ _ hP hD hS _ (lv_sub hl [3, 4, 5, 6, 7, 1, 0] rfl) hf
              · have hf := it_f h18 hf
                refine lv_iload hx hb (dg ddL_isAhead 97 rfl) (lv_at hl 0 rfl) ?_
                refine lv_iload_n hx hb (dg ddL_isAhead 98 rfl) rfl (lv_at hl 2 rfl) ?_
                refine lv_icmp_ne (tgt := 195) hx hb (dg ddL_isAhead 99 rfl) (by decide) (fun h19 => ?_) (fun h19 => ?_)
                · have hf := it_f h19 hf
                  refine lv_iconst (v := 0) hx hb (dg ddL_isAhead 102 rfl) (by decide) ?_
                  refine lv_istore (lv' := [(8, .int 0), (10, .int (x_r6 - (w_b x9.toNatClampNeg))), (0, .ref (q 0 0)), (1, .int a2), (2, .long x2), (6, .ref (ra)), (7, .ref (rb)), (9, .int x9)]) hx hb (dg ddL_isAhead 103 rfl) hl (by decide) rfl (fun ls hl => ?_)
                  refine lv_iinc (v := x9 + 1) (lv' := [(9, .int (x9 + 1)), (8, .int 0), (10, .int (x_r6 - (w_b x9.toNatClampNeg))), (0, .ref (q 0 0)), (1, .int a2), (2, .long x2), (6, .ref (ra)), (7, .ref (rb))]) hx hb (dg ddL_isAhead 104 rfl) hl (k := 7) rfl (congrArg (HAdd.hAdd x9) (by decide)) (by decide) rfl (fun ls hl => ?_)
                  refine lv_goto (tgt := 117) hx hb (dg ddL_isAhead 105 rfl) (by decide) ?_
                  refine W.widen (k := (k + 6)) (n := (ks + 48)) (by omega) (by omega) ?_
                  exact ih x2 0 (x9 + 1) x_now x_spa x_nxt x_cnt x_rng w_a w_b (k + 6) (ks + 48) (by omega) (by omega) _ _ hP hD hS _ (lv_sub hl [3, 4, 5, 6, 7, 1, 0] rfl) hf
                · have hf := it_t h19 hf
                  refine lv_iconst (v := 1) hx hb (dg ddL_isAhead 100 rfl) (by decide) ?_
                  refine lv_goto (tgt := 196) hx hb (dg ddL_isAhead 101 rfl) (by decide) ?_
                  refine lv_istore (lv' := [(8, .int 1), (10, .int (x_r6 - (w_b x9.toNatClampNeg))), (0, .ref (q 0 0)), (1, .int a2), (2, .long x2), (6, .ref (ra)), (7, .ref (rb)), (9, .int x9)]) hx hb (dg ddL_isAhead 103 rfl) hl (by decide) rfl (fun ls hl => ?_)
                  refine lv_iinc (v := x9 + 1) (lv' := [(9, .int (x9 + 1)), (8, .int 1), (10, .int (x_r6 - (w_b x9.toNatClampNeg))), (0, .ref (q 0 0)), (1, .int a2), (2, .long x2), (6, .ref (ra)), (7, .ref (rb))]) hx hb (dg ddL_isAhead 104 rfl) hl (k := 7) rfl (congrArg (HAdd.hAdd x9) (by decide)) (by decide) rfl (fun ls hl => ?_)
                  refine lv_goto (tgt := 117) hx hb (dg ddL_isAhead 105 rfl) (by decide) ?_
                  refine W.widen (k := (k + 6)) (n := (ks + 48)) (by omega) (by omega) ?_
                  exact ih x2 1 (x9 + 1) x_now x_spa x_nxt x_cnt x_rng w_a w_b (k + 6) (ks + 48) (by omega) (by omega) _ _ hP hD hS _ (lv_sub hl [3, 4, 5, 6, 7, 1, 0] rfl) hf
  have K34 : ∀ (ra rb : Nat) (n : Nat), ∀ (x2 : Int64) (x4 : Int32) (x5 : Int32) (x8 : Int32) (x_now : SV) (x_spa : SV) (x_nxt : Int32) (x_cnt : Int32) (x_rng : Nat → SV) (w_a : Nat → Int32) (w_b : Nat → Int32) (k ks : Nat) (hk : k + (n * 5 + 989) ≤ 1333) (hks : ks + 8 * (n * 5 + 989) ≤ 10664) (H : Heap) (locs : List Loc) (hP : va_P D vwCl ([(rb, .inl (cy 0, 8, .inl w_b)), (ra, .inl (cy 0, 8, .inl w_a))] ++ (wX4 q cy x_isv x_te x_re x_de x_now x_spa x_sna x_len x_sig x_nxt x_cnt x_rng)) H) (hD : va_D A ([(rb, .inl (cy 0, 8, .inl w_b)), (ra, .inl (cy 0, 8, .inl w_a))] ++ (wX4 q cy x_isv x_te x_re x_de x_now x_spa x_sna x_len x_sig x_nxt x_cnt x_rng))) (hS : va_S A s.heap H locs) (ls : Array Slot) (hl : lv_has ls 11 [(0, .ref (q 0 0)), (1, .int a2), (2, .long x2), (4, .int x4), (5, .int x5), (6, .ref (ra)), (7, .ref (rb)), (8, .int x8)]) (hf : f_L_isAhead_c34 x_len a2 n x2 x4 x5 x8 x_now x_spa x_nxt x_cnt x_rng w_a w_b = some res), W p l e ⟨12, 1333, 10664, 233⟩ s m args below meth c H locs k ks (MQ below (qI D (wX4 q cy x_isv x_te x_re x_de res.2.1 res.2.2.1 x_sna x_len x_sig res.2.2.2.1 res.2.2.2.2.1 res.2.2.2.2.2) res.1 A) args s 1333 10664 A) (F0 m 34 ls []) := by
    intro ra rb n
    induction n with
    | zero => intro x2 x4 x5 x8 x_now x_spa x_nxt x_cnt x_rng w_a w_b k ks hk hks H locs hP hD hS ls hl hf; cases (show none = some res from hf)
    | succ n ih =>
    intro x2 x4 x5 x8 x_now x_spa x_nxt x_cnt x_rng w_a w_b k ks hk hks H locs hP hD hS ls hl hf
    refine lv_iload hx hb (dg ddL_isAhead 19 rfl) (lv_at hl 7 rfl) ?_
    refine lv_aload_n hx hb (dg ddL_isAhead 20 rfl) rfl (lv_at hl 0 rfl) ?_
    refine lv_iconst (v := 2) hx hb (dg ddL_isAhead 21 rfl) (by decide) ?_
    obtain ⟨r2, e1, hf⟩ := ob_some hf
    rcases r2 with t9 | x_r2
    · cases os_l hf
    have hf := os_r hf
    refine crv_ri CX hml (As := [.int 2]) (rest := [.int x8]) (ws := ([(rb, .inl (cy 0, 8, .inl w_b)), (ra, .inl (cy 0, 8, .inl w_a))] ++ (wX4 q cy x_isv x_te x_re x_de x_now x_spa x_sna x_len x_sig x_nxt x_cnt x_rng))) (wsn := ([(rb, .inl (cy 0, 8, .inl w_b)), (ra, .inl (cy 0, 8, .inl w_a))] ++ (wX4 q cy x_isv x_te x_re x_de x_now x_spa x_sna x_len x_sig x_nxt x_cnt x_rng))) (wr := [(rb, .inl (cy 0, 8, .inl w_b)), (ra, .inl (cy 0, 8, .inl w_a))]) (c_X4_account l D cy q x_isv x_te x_re x_de x_now x_spa x_sna x_len x_sig x_nxt x_cnt x_rng 2 _ hst e1) lk_RL_159 rfl rfl hRMX4_account hP hD hS hA hK hN hX List.perm_append_comm List.perm_append_comm 0 rfl rfl rfl hl.1 rfl (Nat.le_of_ble_eq_true rfl) ⟨by show _ ≤ 1333; omega, by show _ ≤ 10664; omega⟩ (dg ddL_isAhead 22 rfl) (fun H locs hP hD hS => ?_)
    refine lv_icmp_ge (tgt := 74) hx hb (dg ddL_isAhead 23 rfl) (by decide) (fun h3 => ?_) (fun h3 => ?_)
    · have hf := it_t h3 hf
      refine lv_aload_n hx hb (dg ddL_isAhead 40 rfl) rfl (lv_at hl 0 rfl) ?_
      refine lv_iload_n hx hb (dg ddL_isAhead 41 rfl) rfl (lv_at hl 1 rfl) ?_
      obtain ⟨r5, e4, hf⟩ := ob_some hf
      refine crl_i CX hml (As := [.ref (q 0 0), .int a2]) (rest := []) (ws := ([(rb, .inl (cy 0, 8, .inl w_b)), (ra, .inl (cy 0, 8, .inl w_a))] ++ (wX4 q cy x_isv x_te x_re x_de x_now x_spa x_sna x_len x_sig x_nxt x_cnt x_rng))) (wsn := ([(rb, .inl (cy 0, 8, .inl w_b)), (ra, .inl (cy 0, 8, .inl w_a))] ++ (wX4 q cy x_isv x_te x_re x_de r5.2.1 x_spa x_sna x_len x_sig r5.2.2.1 r5.2.2.2.1 r5.2.2.2.2))) (wr := [(rb, .inl (cy 0, 8, .inl w_b)), (ra, .inl (cy 0, 8, .inl w_a))]) (c_L_pass l D cy q x_isv x_te x_re x_de x_now x_spa x_sna x_len x_sig x_nxt x_cnt x_rng a2 _ hst e4) lk_RL_153 rfl rfl hRML_pass hP hD hS hA hK hN hX hC List.perm_append_comm List.perm_append_comm rfl hl.1 rfl (Nat.le_of_ble_eq_true rfl) ⟨by show _ ≤ 1333; omega, by show _ ≤ 10664; omega⟩ (dg ddL_isAhead 42 rfl) (fun H locs hP hD hS => ?_)
      refine lv_iload hx hb (dg ddL_isAhead 43 rfl) (lv_at hl 4 rfl) ?_
      refine lv_aload_n hx hb (dg ddL_isAhead 44 rfl) rfl (lv_at hl 0 rfl) ?_
      refine lv_iconst (v := 5) hx hb (dg ddL_isAhead 45 rfl) (by decide) ?_
      obtain ⟨r7, e6, hf⟩ := ob_some hf
      rcases r7 with t9 | x_r7
      · cases os_l hf
      have hf := os_r hf
      refine crv_ri CX hml (As := [.int 5]) (rest := [.int x5, .int r5.1]) (ws := ([(rb, .inl (cy 0, 8, .inl w_b)), (ra, .inl (cy 0, 8, .inl w_a))] ++ (wX4 q cy x_isv x_te x_re x_de r5.2.1 x_spa x_sna x_len x_sig r5.2.2.1 r5.2.2.2.1 r5.2.2.2.2))) (wsn := ([(rb, .inl (cy 0, 8, .inl w_b)), (ra, .inl (cy 0, 8, .inl w_a))] ++ (wX4 q cy x_isv x_te x_re x_de r5.2.1 x_spa x_sna x_len x_sig r5.2.2.1 r5.2.2.2.1 r5.2.2.2.2))) (wr := [(rb, .inl (cy 0, 8, .inl w_b)), (ra, .inl (cy 0, 8, .inl w_a))]) (c_X4_account l D cy q x_isv x_te x_re x_de r5.2.1 x_spa x_sna x_len x_sig r5.2.2.1 r5.2.2.2.1 r5.2.2.2.2 5 _ hst e6) lk_RL_159 rfl rfl hRMX4_account hP hD hS hA hK hN hX List.perm_append_comm List.perm_append_comm 0 rfl rfl rfl hl.1 rfl (Nat.le_of_ble_eq_true rfl) ⟨by show _ ≤ 1333; omega, by show _ ≤ 10664; omega⟩ (dg ddL_isAhead 46 rfl) (fun H locs hP hD hS => ?_)
      refine lv_isub hx hb (dg ddL_isAhead 47 rfl) ?_
      refine lv_icmp_ne (tgt := 111) hx hb (dg ddL_isAhead 48 rfl) (by decide) (fun h8 => ?_) (fun h8 => ?_)
      · have hf := it_f h8 hf
        refine lv_iconst (v := 0) hx hb (dg ddL_isAhead 59 rfl) (by decide) ?_
        refine lv_istore (lv' := [(8, .int 0), (0, .ref (q 0 0)), (1, .int a2), (2, .long x2), (4, .int x4), (5, .int x5), (6, .ref (ra)), (7, .ref (rb))]) hx hb (dg ddL_isAhead 60 rfl) hl (by decide) rfl (fun ls hl => ?_)
        refine lv_iconst (v := 0) hx hb (dg ddL_isAhead 61 rfl) (by decide) ?_
        refine lv_istore (lv' := [(9, .int 0), (8, .int 0), (0, .ref (q 0 0)), (1, .int a2), (2, .long x2), (4, .int x4), (5, .int x5), (6, .ref (ra)), (7, .ref (rb))]) hx hb (dg ddL_isAhead 62 rfl) hl (by decide) rfl (fun ls hl => ?_)
        refine W.widen (k := (k + 3)) (n := (ks + 24)) (by omega) (by omega) ?_
        exact K117 ra rb 9 x2 0 0 r5.2.1 x_spa r5.2.2.1 r5.2.2.2.1 r5.2.2.2.2 w_a w_b (k + 3) (ks + 24) (by omega) (by omega) _ _ hP hD hS _ (lv_sub hl [2, 3, 4, 7, 8, 1, 0] rfl) hf
      · have hf := it_t h8 hf
        refine lv_aload_n hx hb (dg ddL_isAhead 49 rfl) rfl (lv_at hl 0 rfl) ?_
        refine lv_iconst (v := 5) hx hb (dg ddL_isAhead 50 rfl) (by decide) ?_
        obtain ⟨r10, e9, hf⟩ := ob_some hf
        rcases r10 with t9 | x_r10
        · cases os_l hf
        have hf := os_r hf
        refine crv_ri CX hml (As := [.int 5]) (rest := []) (ws := ([(rb, .inl (cy 0, 8, .inl w_b)), (ra, .inl (cy 0, 8, .inl w_a))] ++ (wX4 q cy x_isv x_te x_re x_de r5.2.1 x_spa x_sna x_len x_sig r5.2.2.1 r5.2.2.2.1 r5.2.2.2.2))) (wsn := ([(rb, .inl (cy 0, 8, .inl w_b)), (ra, .inl (cy 0, 8, .inl w_a))] ++ (wX4 q cy x_isv x_te x_re x_de r5.2.1 x_spa x_sna x_len x_sig r5.2.2.1 r5.2.2.2.1 r5.2.2.2.2))) (wr := [(rb, .inl (cy 0, 8, .inl w_b)), (ra, .inl (cy 0, 8, .inl w_a))]) (c_X4_account l D cy q x_isv x_te x_re x_de r5.2.1 x_spa x_sna x_len x_sig r5.2.2.1 r5.2.2.2.1 r5.2.2.2.2 5 _ hst e9) lk_RL_159 rfl rfl hRMX4_account hP hD hS hA hK hN hX List.perm_append_comm List.perm_append_comm 0 rfl rfl rfl hl.1 rfl (Nat.le_of_ble_eq_true rfl) ⟨by show _ ≤ 1333; omega, by show _ ≤ 10664; omega⟩ (dg ddL_isAhead 51 rfl) (fun H locs hP hD hS => ?_)
        refine lv_iload hx hb (dg ddL_isAhead 52 rfl) (lv_at hl 3 rfl) ?_
        refine lv_icmp_ne (tgt := 111) hx hb (dg ddL_isAhead 53 rfl) (by decide) (fun h11 => ?_) (fun h11 => ?_)
        · have hf := it_f h11 hf
          refine lv_iconst (v := 0) hx hb (dg ddL_isAhead 59 rfl) (by decide) ?_
          refine lv_istore (lv' := [(8, .int 0), (0, .ref (q 0 0)), (1, .int a2), (2, .long x2), (4, .int x4), (5, .int x5), (6, .ref (ra)), (7, .ref (rb))]) hx hb (dg ddL_isAhead 60 rfl) hl (by decide) rfl (fun ls hl => ?_)
          refine lv_iconst (v := 0) hx hb (dg ddL_isAhead 61 rfl) (by decide) ?_
          refine lv_istore (lv' := [(9, .int 0), (8, .int 0), (0, .ref (q 0 0)), (1, .int a2), (2, .long x2), (4, .int x4), (5, .int x5), (6, .ref (ra)), (7, .ref (rb))]) hx hb (dg ddL_isAhead 62 rfl) hl (by decide) rfl (fun ls hl => ?_)
          refine W.widen (k := (k + 4)) (n := (ks + 32)) (by omega) (by omega) ?_
          exact K117 ra rb 9 x2 0 0 r5.2.1 x_spa r5.2.2.1 r5.2.2.2.1 r5.2.2.2.2 w_a w_b (k + 4) (ks + 32) (by omega) (by omega) _ _ hP hD hS _ (lv_sub hl [2, 3, 4, 7, 8, 1, 0] rfl) hf
        · have hf := it_t h11 hf
          refine lv_aload_n hx hb (dg ddL_isAhead 54 rfl) rfl (lv_at hl 0 rfl) ?_
          obtain ⟨r13, e12, hf⟩ := ob_some hf
          refine crc_i CX hml (As := [.ref (q 0 0)]) (rest := []) (ws := ([(rb, .inl (cy 0, 8, .inl w_b)), (ra, .inl (cy 0, 8, .inl w_a))] ++ (wX4 q cy x_isv x_te x_re x_de r5.2.1 x_spa x_sna x_len x_sig r5.2.2.1 r5.2.2.2.1 r5.2.2.2.2))) (wsn := ([(rb, .inl (cy 0, 8, .inl w_b)), (ra, .inl (cy 0, 8, .inl w_a))] ++ (wX4 q cy x_isv x_te x_re x_de r13.2.1 r13.2.2 x_sna x_len x_sig r5.2.2.1 r5.2.2.2.1 r5.2.2.2.2))) (wr := [(rb, .inl (cy 0, 8, .inl w_b)), (ra, .inl (cy 0, 8, .inl w_a))]) (c_L_isFit l D cy q x_isv x_te x_re x_de r5.2.1 x_spa x_sna x_len x_sig r5.2.2.1 r5.2.2.2.1 r5.2.2.2.2 _ hst e12) lk_RL_255 rfl rfl hRML_isFit hP hD hS hA hK hN hX hC List.perm_append_comm List.perm_append_comm rfl hl.1 rfl (Nat.le_of_ble_eq_true rfl) ⟨by show _ ≤ 1333; omega, by show _ ≤ 10664; omega⟩ (dg ddL_isAhead 55 rfl) (fun H locs hP hD hS => ?_)
          refine lv_if_eq (tgt := 111) hx hb (dg ddL_isAhead 56 rfl) (by decide) (fun h14 => ?_) (fun h14 => ?_)
          · have hf := it_t h14 hf
            refine lv_iconst (v := 0) hx hb (dg ddL_isAhead 59 rfl) (by decide) ?_
            refine lv_istore (lv' := [(8, .int 0), (0, .ref (q 0 0)), (1, .int a2), (2, .long x2), (4, .int x4), (5, .int x5), (6, .ref (ra)), (7, .ref (rb))]) hx hb (dg ddL_isAhead 60 rfl) hl (by decide) rfl (fun ls hl => ?_)
            refine lv_iconst (v := 0) hx hb (dg ddL_isAhead 61 rfl) (by decide) ?_
            refine lv_istore (lv' := [(9, .int 0), (8, .int 0), (0, .ref (q 0 0)), (1, .int a2), (2, .long x2), (4, .int x4), (5, .int x5), (6, .ref (ra)), (7, .ref (rb))]) hx hb (dg ddL_isAhead 62 rfl) hl (by decide) rfl (fun ls hl => ?_)
            refine W.widen (k := (k + 638)) (n := (ks + 5104)) (by omega) (by omega) ?_
            exact K117 ra rb 9 x2 0 0 r13.2.1 r13.2.2 r5.2.2.1 r5.2.2.2.1 r5.2.2.2.2 w_a w_b (k + 638) (ks + 5104) (by omega) (by omega) _ _ hP hD hS _ (lv_sub hl [2, 3, 4, 7, 8, 1, 0] rfl) hf
          · have hf := it_f h14 hf
            refine lv_iconst (v := 1) hx hb (dg ddL_isAhead 57 rfl) (by decide) ?_
            refine lv_goto (tgt := 112) hx hb (dg ddL_isAhead 58 rfl) (by decide) ?_
            refine lv_istore (lv' := [(8, .int 1), (0, .ref (q 0 0)), (1, .int a2), (2, .long x2), (4, .int x4), (5, .int x5), (6, .ref (ra)), (7, .ref (rb))]) hx hb (dg ddL_isAhead 60 rfl) hl (by decide) rfl (fun ls hl => ?_)
            refine lv_iconst (v := 0) hx hb (dg ddL_isAhead 61 rfl) (by decide) ?_
            refine lv_istore (lv' := [(9, .int 0), (8, .int 1), (0, .ref (q 0 0)), (1, .int a2), (2, .long x2), (4, .int x4), (5, .int x5), (6, .ref (ra)), (7, .ref (rb))]) hx hb (dg ddL_isAhead 62 rfl) hl (by decide) rfl (fun ls hl => ?_)
            refine W.widen (k := (k + 638)) (n := (ks + 5104)) (by omega) (by omega) ?_
            exact K117 ra rb 9 x2 1 0 r13.2.1 r13.2.2 r5.2.2.1 r5.2.2.2.1 r5.2.2.2.2 w_a w_b (k + 638) (ks + 5104) (by omega) (by omega) _ _ hP hD hS _ (lv_sub hl [2, 3, 4, 7, 8, 1, 0] rfl) hf
    · have hf := it_f h3 hf
      refine lv_aload hx hb (dg ddL_isAhead 24 rfl) (lv_at hl 5 rfl) ?_
      refine lv_iload hx hb (dg ddL_isAhead 25 rfl) (lv_at hl 7 rfl) ?_
      refine lv_aload_n hx hb (dg ddL_isAhead 26 rfl) rfl (lv_at hl 0 rfl) ?_
      refine lv_iload hx hb (dg ddL_isAhead 27 rfl) (lv_at hl 7 rfl) ?_
      refine lv_iload_n hx hb (dg ddL_isAhead 28 rfl) rfl (lv_at hl 1 rfl) ?_
      obtain ⟨r16, e15, hf⟩ := ob_some hf
      rcases r16 with t9 | x_r16
      · cases os_l hf
      have hf := os_r hf
      refine crv_ri CX hml (As := [.int x8, .int a2]) (rest := [.int x8, .ref (ra)]) (ws := ([(rb, .inl (cy 0, 8, .inl w_b)), (ra, .inl (cy 0, 8, .inl w_a))] ++ (wX4 q cy x_isv x_te x_re x_de x_now x_spa x_sna x_len x_sig x_nxt x_cnt x_rng))) (wsn := ([(rb, .inl (cy 0, 8, .inl w_b)), (ra, .inl (cy 0, 8, .inl w_a))] ++ (wX4 q cy x_isv x_te x_re x_de x_now x_r16.2 x_sna x_len x_sig x_nxt x_cnt x_rng))) (wr := [(rb, .inl (cy 0, 8, .inl w_b)), (ra, .inl (cy 0, 8, .inl w_a))]) (c_X4_hatIn l D cy q x_isv x_te x_re x_de x_now x_spa x_sna x_len x_sig x_nxt x_cnt x_rng x8 a2 _ hst e15) lk_RL_226 rfl rfl hRMX4_hatIn hP hD hS hA hK hN hX List.perm_append_comm List.perm_append_comm 0 rfl rfl rfl hl.1 rfl (Nat.le_of_ble_eq_true rfl) ⟨by show _ ≤ 1333; omega, by show _ ≤ 10664; omega⟩ (dg ddL_isAhead 29 rfl) (fun H locs hP hD hS => ?_)
      obtain ⟨h17, hf⟩ := og_some hf
      refine va_iast hx hb hK hP hD hS 1 0 rfl rfl (inb_in h17) (dg ddL_isAhead 30 rfl) (fun H locs hP hD hS => ?_)
      have hP : va_P D vwCl ([(rb, .inl (cy 0, 8, .inl w_b)), (ra, .inl (cy 0, 8, .inl (upd w_a x8.toNatClampNeg x_r16.1)))] ++ (wX4 q cy x_isv x_te x_re x_de x_now x_r16.2 x_sna x_len x_sig x_nxt x_cnt x_rng)) H := hP
      have hD : va_D A ([(rb, .inl (cy 0, 8, .inl w_b)), (ra, .inl (cy 0, 8, .inl (upd w_a x8.toNatClampNeg x_r16.1)))] ++ (wX4 q cy x_isv x_te x_re x_de x_now x_r16.2 x_sna x_len x_sig x_nxt x_cnt x_rng)) := hD
      refine lv_aload hx hb (dg ddL_isAhead 31 rfl) (lv_at hl 6 rfl) ?_
      refine lv_iload hx hb (dg ddL_isAhead 32 rfl) (lv_at hl 7 rfl) ?_
      refine lv_aload_n hx hb (dg ddL_isAhead 33 rfl) rfl (lv_at hl 0 rfl) ?_
      refine lv_iload hx hb (dg ddL_isAhead 34 rfl) (lv_at hl 7 rfl) ?_
      refine lv_iconst (v := 5) hx hb (dg ddL_isAhead 35 rfl) (by decide) ?_
      obtain ⟨r19, e18, hf⟩ := ob_some hf
      rcases r19 with t9 | x_r19
      · cases os_l hf
      have hf := os_r hf
      refine crv_ri CX hml (As := [.int x8, .int 5]) (rest := [.int x8, .ref (rb)]) (ws := ([(rb, .inl (cy 0, 8, .inl w_b)), (ra, .inl (cy 0, 8, .inl (upd w_a x8.toNatClampNeg x_r16.1)))] ++ (wX4 q cy x_isv x_te x_re x_de x_now x_r16.2 x_sna x_len x_sig x_nxt x_cnt x_rng))) (wsn := ([(rb, .inl (cy 0, 8, .inl w_b)), (ra, .inl (cy 0, 8, .inl (upd w_a x8.toNatClampNeg x_r16.1)))] ++ (wX4 q cy x_isv x_te x_re x_de x_now x_r16.2 x_sna x_len x_sig x_nxt x_cnt x_rng))) (wr := [(rb, .inl (cy 0, 8, .inl w_b)), (ra, .inl (cy 0, 8, .inl (upd w_a x8.toNatClampNeg x_r16.1)))]) (c_X4_buskerOf l D cy q x_isv x_te x_re x_de x_now x_r16.2 x_sna x_len x_sig x_nxt x_cnt x_rng x8 5 _ hst e18) lk_RL_184 rfl rfl hRMX4_buskerOf hP hD hS hA hK hN hX List.perm_append_comm List.perm_append_comm 0 rfl rfl rfl hl.1 rfl (Nat.le_of_ble_eq_true rfl) ⟨by show _ ≤ 1333; omega, by show _ ≤ 10664; omega⟩ (dg ddL_isAhead 36 rfl) (fun H locs hP hD hS => ?_)
      obtain ⟨h20, hf⟩ := og_some hf
      refine va_iast hx hb hK hP hD hS 0 0 rfl rfl (inb_in h20) (dg ddL_isAhead 37 rfl) (fun H locs hP hD hS => ?_)
      have hP : va_P D vwCl ([(rb, .inl (cy 0, 8, .inl (upd w_b x8.toNatClampNeg x_r19))), (ra, .inl (cy 0, 8, .inl (upd w_a x8.toNatClampNeg x_r16.1)))] ++ (wX4 q cy x_isv x_te x_re x_de x_now x_r16.2 x_sna x_len x_sig x_nxt x_cnt x_rng)) H := hP
      have hD : va_D A ([(rb, .inl (cy 0, 8, .inl (upd w_b x8.toNatClampNeg x_r19))), (ra, .inl (cy 0, 8, .inl (upd w_a x8.toNatClampNeg x_r16.1)))] ++ (wX4 q cy x_isv x_te x_re x_de x_now x_r16.2 x_sna x_len x_sig x_nxt x_cnt x_rng)) := hD
      refine lv_iinc (v := x8 + 1) (lv' := [(8, .int (x8 + 1)), (0, .ref (q 0 0)), (1, .int a2), (2, .long x2), (4, .int x4), (5, .int x5), (6, .ref (ra)), (7, .ref (rb))]) hx hb (dg ddL_isAhead 38 rfl) hl (k := 7) rfl (congrArg (HAdd.hAdd x8) (by decide)) (by decide) rfl (fun ls hl => ?_)
      refine lv_goto (tgt := 34) hx hb (dg ddL_isAhead 39 rfl) (by decide) ?_
      refine W.widen (k := (k + 5)) (n := (ks + 40)) (by omega) (by omega) ?_
      exact ih x2 x4 x5 (x8 + 1) x_now x_r16.2 x_nxt x_cnt x_rng (upd w_a x8.toNatClampNeg x_r16.1) (upd w_b x8.toNatClampNeg x_r19) (k + 5) (ks + 40) (by omega) (by omega) _ _ hP hD hS _ (lv_sub hl [1, 2, 3, 4, 5, 6, 7, 0] rfl) hf
  refine lv_aload_n hx hb (dg ddL_isAhead 0 rfl) rfl (lv_at hl 0 rfl) ?_
  obtain ⟨r2, e1, hf⟩ := ob_some hf
  refine crc_l CX hml (As := [.ref (q 0 0)]) (rest := []) (ws := (wX4 q cy x_isv x_te x_re x_de x_now x_spa x_sna x_len x_sig x_nxt x_cnt x_rng)) (wsn := (wX4 q cy x_isv x_te x_re x_de x_now x_spa x_sna x_len x_sig x_nxt x_cnt x_rng)) (wr := []) (c_L_digest l D cy q x_isv x_te x_re x_de x_now x_spa x_sna x_len x_sig x_nxt x_cnt x_rng _ hst e1) lk_RL_252 rfl rfl hRML_digest hP hD hS hA hK hN hX hC (List.Perm.of_eq (List.append_nil _).symm) (List.Perm.of_eq (List.append_nil _)) rfl hl.1 rfl (Nat.le_of_ble_eq_true rfl) ⟨by show _ ≤ 1333; omega, by show _ ≤ 10664; omega⟩ (dg ddL_isAhead 1 rfl) (fun H locs hP hD hS => ?_)
  refine lv_lstore_n (lv' := [(2, .long r2), (0, .ref (q 0 0)), (1, .int a2)]) hx hb (dg ddL_isAhead 2 rfl) rfl hl (by decide) rfl (fun ls hl => ?_)
  refine lv_aload_n hx hb (dg ddL_isAhead 3 rfl) rfl (lv_at hl 1 rfl) ?_
  refine lv_iload_n hx hb (dg ddL_isAhead 4 rfl) rfl (lv_at hl 2 rfl) ?_
  obtain ⟨r4, e3, hf⟩ := ob_some hf
  rcases r4 with t9 | x_r4
  · cases os_l hf
  have hf := os_r hf
  refine crv_ri CX hml (As := [.int a2]) (rest := []) (ws := (wX4 q cy x_isv x_te x_re x_de x_now x_spa x_sna x_len x_sig x_nxt x_cnt x_rng)) (wsn := (wX4 q cy x_isv x_te x_re x_de x_now x_r4.2 x_sna x_len x_sig x_nxt x_cnt x_rng)) (wr := []) (c_X4_playingIn l D cy q x_isv x_te x_re x_de x_now x_spa x_sna x_len x_sig x_nxt x_cnt x_rng a2 _ hst e3) lk_RL_216 rfl rfl hRMX4_playingIn hP hD hS hA hK hN hX (List.Perm.of_eq (List.append_nil _).symm) (List.Perm.of_eq (List.append_nil _)) 0 rfl rfl rfl hl.1 rfl (Nat.le_of_ble_eq_true rfl) ⟨by show _ ≤ 1333; omega, by show _ ≤ 10664; omega⟩ (dg ddL_isAhead 5 rfl) (fun H locs hP hD hS => ?_)
  refine lv_istore (lv' := [(4, .int x_r4.1), (2, .long r2), (0, .ref (q 0 0)), (1, .int a2)]) hx hb (dg ddL_isAhead 6 rfl) hl (by decide) rfl (fun ls hl => ?_)
  refine lv_aload_n hx hb (dg ddL_isAhead 7 rfl) rfl (lv_at hl 2 rfl) ?_
  refine lv_iconst (v := 5) hx hb (dg ddL_isAhead 8 rfl) (by decide) ?_
  obtain ⟨r6, e5, hf⟩ := ob_some hf
  rcases r6 with t9 | x_r6
  · cases os_l hf
  have hf := os_r hf
  refine crv_ri CX hml (As := [.int 5]) (rest := []) (ws := (wX4 q cy x_isv x_te x_re x_de x_now x_r4.2 x_sna x_len x_sig x_nxt x_cnt x_rng)) (wsn := (wX4 q cy x_isv x_te x_re x_de x_now x_r4.2 x_sna x_len x_sig x_nxt x_cnt x_rng)) (wr := []) (c_X4_account l D cy q x_isv x_te x_re x_de x_now x_r4.2 x_sna x_len x_sig x_nxt x_cnt x_rng 5 _ hst e5) lk_RL_159 rfl rfl hRMX4_account hP hD hS hA hK hN hX (List.Perm.of_eq (List.append_nil _).symm) (List.Perm.of_eq (List.append_nil _)) 0 rfl rfl rfl hl.1 rfl (Nat.le_of_ble_eq_true rfl) ⟨by show _ ≤ 1333; omega, by show _ ≤ 10664; omega⟩ (dg ddL_isAhead 9 rfl) (fun H locs hP hD hS => ?_)
  refine lv_istore (lv' := [(5, .int x_r6), (4, .int x_r4.1), (2, .long r2), (0, .ref (q 0 0)), (1, .int a2)]) hx hb (dg ddL_isAhead 10 rfl) hl (by decide) rfl (fun ls hl => ?_)
  refine lv_bipush (v := 8) hx hb (dg ddL_isAhead 11 rfl) (by decide) ?_
  refine na_i CX hK hP hD hS hA (N' := 8) (by decide) rfl (Nat.le_of_ble_eq_true rfl) (by show _ ≤ 1333; omega) (by show _ ≤ 10664; omega) (dg ddL_isAhead 12 rfl) (fun ra H hP hD hS => ?_)
  have hP := vaP_perm List.perm_append_comm hP
  have hD := vaD_perm List.perm_append_comm hD
  have hP : va_P D vwCl ([(ra, .inl (cy 0, 8, .inl (fun _ => 0)))] ++ (wX4 q cy x_isv x_te x_re x_de x_now x_r4.2 x_sna x_len x_sig x_nxt x_cnt x_rng)) H := hP
  have hD : va_D A ([(ra, .inl (cy 0, 8, .inl (fun _ => 0)))] ++ (wX4 q cy x_isv x_te x_re x_de x_now x_r4.2 x_sna x_len x_sig x_nxt x_cnt x_rng)) := hD
  refine lv_astore (lv' := [(6, .ref (ra)), (5, .int x_r6), (4, .int x_r4.1), (2, .long r2), (0, .ref (q 0 0)), (1, .int a2)]) hx hb (dg ddL_isAhead 13 rfl) hl (by decide) rfl (fun ls hl => ?_)
  refine lv_bipush (v := 8) hx hb (dg ddL_isAhead 14 rfl) (by decide) ?_
  refine na_i CX hK hP hD hS hA (N' := 8) (by decide) rfl (Nat.le_of_ble_eq_true rfl) (by show _ ≤ 1333; omega) (by show _ ≤ 10664; omega) (dg ddL_isAhead 15 rfl) (fun rb H hP hD hS => ?_)
  have hP := vaP_perm List.perm_append_comm hP
  have hD := vaD_perm List.perm_append_comm hD
  have hP : va_P D vwCl ([(rb, .inl (cy 0, 8, .inl (fun _ => 0))), (ra, .inl (cy 0, 8, .inl (fun _ => 0)))] ++ (wX4 q cy x_isv x_te x_re x_de x_now x_r4.2 x_sna x_len x_sig x_nxt x_cnt x_rng)) H := hP
  have hD : va_D A ([(rb, .inl (cy 0, 8, .inl (fun _ => 0))), (ra, .inl (cy 0, 8, .inl (fun _ => 0)))] ++ (wX4 q cy x_isv x_te x_re x_de x_now x_r4.2 x_sna x_len x_sig x_nxt x_cnt x_rng)) := hD
  refine lv_astore (lv' := [(7, .ref (rb)), (6, .ref (ra)), (5, .int x_r6), (4, .int x_r4.1), (2, .long r2), (0, .ref (q 0 0)), (1, .int a2)]) hx hb (dg ddL_isAhead 16 rfl) hl (by decide) rfl (fun ls hl => ?_)
  refine lv_iconst (v := 0) hx hb (dg ddL_isAhead 17 rfl) (by decide) ?_
  refine lv_istore (lv' := [(8, .int 0), (7, .ref (rb)), (6, .ref (ra)), (5, .int x_r6), (4, .int x_r4.1), (2, .long r2), (0, .ref (q 0 0)), (1, .int a2)]) hx hb (dg ddL_isAhead 18 rfl) hl (by decide) rfl (fun ls hl => ?_)
  refine W.widen (k := (0 + 299)) (n := (0 + 2392)) (by omega) (by omega) ?_
  exact K34 ra rb 9 r2 x_r4.1 x_r6 0 x_now x_r4.2 x_nxt x_cnt x_rng (fun _ => 0) (fun _ => 0) (0 + 299) (0 + 2392) (by omega) (by omega) _ _ hP hD hS _ (lv_sub hl [6, 7, 5, 4, 3, 2, 1, 0] rfl) hf
