/-! by program: texts written, the law's choice -/
def f_L_write_c2  (a2 : Nat) : Nat → Int32 → Int32 → (Nat → Int32) → Option (Int32 × (Nat → Int32))
  | 0, _, _, _ => none
  | n + 1, x2, x_len, x_sig => og (decide (a2 < 18)) (if (nI (tL a2)) ≤ x2 then (some (x_len, x_sig)) else (og (decide (a2 < 18)) (og (inb x2 (tL a2)) (ob (f_L_type x_len x_sig (tB a2 x2.toNatClampNeg)) fun r8 => (f_L_write_c2 a2 n (x2 + 1) r8.2.1 r8.2.2)))))
def f_L_write (x_len : Int32) (x_sig : Nat → Int32) (a2 : Nat) : Option (Int32 × (Nat → Int32)) := f_L_write_c2 a2 12 0 x_len x_sig
set_option maxHeartbeats 8000000 in
set_option maxRecDepth 100000 in
theorem c_L_write (l : Launch) (D : va_G) (cy : Nat → ClassId) (q : Nat → Nat → Nat) (tK tV : Nat → Nat) (ta : Nat) (x_isv : Int32) (x_te : Int32) (x_re : Int32) (x_de : Int32) (x_now : SV) (x_spa : SV) (x_sna : SV) (x_len : Int32) (x_sig : Nat → Int32) (x_nxt : Int32) (x_cnt : Int32) (x_rng : Nat → SV) (a2 : Nat) (sz : Nat) (hst : l.stackTraces = false) {res : Int32 × (Nat → Int32)} (hf : f_L_write x_len x_sig a2 = some res) : Met l yL_write (.code yL_write cL_write 3 (some (.object "BuskPitches")) :: lw_all) { frames := 8, cells := 12, slots := 96, locals := 161 } (va_Pc [.ref (q 0 0), .ref (tK a2)] (sT D cy tK tV ta (wX4 q cy x_isv x_te x_re x_de x_now x_spa x_sna x_len x_sig x_nxt x_cnt x_rng) sz)) (qR D (wX4 q cy x_isv x_te x_re x_de x_now x_spa x_sna res.1 res.2 x_nxt x_cnt x_rng) (q 0 0) (va_A (wX4 q cy x_isv x_te x_re x_de x_now x_spa x_sna x_len x_sig x_nxt x_cnt x_rng) sz)) 12 96 (va_A (wX4 q cy x_isv x_te x_re x_de x_now x_spa x_sna x_len x_sig x_nxt x_cnt x_rng) sz) := by
  refine mk_lt (Qc := qR D (wX4 q cy x_isv x_te x_re x_de x_now x_spa x_sna res.1 res.2 x_nxt x_cnt x_rng) (q 0 0)) (Rc := RL) (by decide +kernel) rfl (Nat.le_of_ble_eq_true rfl) ?_
  intro p e s m args below meth c ls A CX hml hr hlk hK hN hP hD hS hA hl hX hC hT
  have hx := CX.1
  have hb := CX.2.1
  have hRMJ0_charAt_5068e : (⟨5, 0, 0, 140⟩ : Room).frames + 1 ≤ (⟨8, 12, 96, 161⟩ : Room).frames ∧ 8 + (2 + 11) + (⟨5, 0, 0, 140⟩ : Room).locals ≤ (⟨8, 12, 96, 161⟩ : Room).locals := ⟨(Nat.le_of_ble_eq_true rfl), (Nat.le_of_ble_eq_true rfl)⟩
  have hRMJ0_length_8abf5 : (⟨2, 0, 0, 40⟩ : Room).frames + 1 ≤ (⟨8, 12, 96, 161⟩ : Room).frames ∧ 8 + (1 + 11) + (⟨2, 0, 0, 40⟩ : Room).locals ≤ (⟨8, 12, 96, 161⟩ : Room).locals := ⟨(Nat.le_of_ble_eq_true rfl), (Nat.le_of_ble_eq_true rfl)⟩
  have hRML_type : (⟨7, 1, 6, 103⟩ : Room).frames + 1 ≤ (⟨8, 12, 96, 161⟩ : Room).frames ∧ 8 + (3 + 11) + (⟨7, 1, 6, 103⟩ : Room).locals ≤ (⟨8, 12, 96, 161⟩ : Room).locals := ⟨(Nat.le_of_ble_eq_true rfl), (Nat.le_of_ble_eq_true rfl)⟩
  have K2 : ∀ (n : Nat), ∀ (x2 : Int32) (x_len : Int32) (x_sig : Nat → Int32) (k ks : Nat) (hk : k + (n * 1 + 0) ≤ 12) (hks : ks + 8 * (n * 1 + 0) ≤ 96) (H : Heap) (locs : List Loc) (hP : va_P D vwCl (wX4 q cy x_isv x_te x_re x_de x_now x_spa x_sna x_len x_sig x_nxt x_cnt x_rng) H) (hD : va_D A (wX4 q cy x_isv x_te x_re x_de x_now x_spa x_sna x_len x_sig x_nxt x_cnt x_rng)) (hS : va_S A s.heap H locs) (ls : Array Slot) (hl : lv_has ls 3 [(0, .ref (q 0 0)), (1, .ref (tK a2)), (2, .int x2)]) (hf : f_L_write_c2 a2 n x2 x_len x_sig = some res), W p l e ⟨8, 12, 96, 161⟩ s m args below meth c H locs k ks (MQ below (qR D (wX4 q cy x_isv x_te x_re x_de x_now x_spa x_sna res.1 res.2 x_nxt x_cnt x_rng) (q 0 0) A) args s 12 96 A) (F0 m 2 ls []) := by
    intro n
    induction n with
    | zero => intro x2 x_len x_sig k ks hk hks H locs hP hD hS ls hl hf; cases (show none = some res from hf)
    | succ n ih =>
    intro x2 x_len x_sig k ks hk hks H locs hP hD hS ls hl hf
    refine lv_iload_n hx hb (dg ddL_write 2 rfl) rfl (lv_at hl 2 rfl) ?_
    refine lv_aload_n hx hb (dg ddL_write 3 rfl) rfl (lv_at hl 1 rfl) ?_
    obtain ⟨e1, hf⟩ := og_some hf
    refine cst_i CX hml (As := []) (rest := [.int x2]) (c_J0_length l tK tV ta a2 (of_decide_eq_true e1)) lk_RL_98 rfl rfl hRMJ0_length_8abf5 hT hS (tK_at hT hS (of_decide_eq_true e1)) rfl hl.1 rfl (Nat.le_of_ble_eq_true rfl) ⟨by show _ ≤ 12; omega, by show _ ≤ 96; omega⟩ (dg ddL_write 4 rfl) ?_
    refine lv_icmp_ge (tgt := 26) hx hb (dg ddL_write 5 rfl) (by decide) (fun h3 => ?_) (fun h3 => ?_)
    · have hf := it_t h3 hf
      refine lv_aload_n hx hb (dg ddL_write 14 rfl) rfl (lv_at hl 0 rfl) ?_
      cases hf
      refine W.widen (k := 12) (n := 96) (by omega) (by omega) ?_
      exact e_wr CX hr hlk hP hD hS (dg ddL_write 15 rfl)
    · have hf := it_f h3 hf
      refine lv_aload_n hx hb (dg ddL_write 6 rfl) rfl (lv_at hl 0 rfl) ?_
      refine lv_aload_n hx hb (dg ddL_write 7 rfl) rfl (lv_at hl 1 rfl) ?_
      refine lv_iload_n hx hb (dg ddL_write 8 rfl) rfl (lv_at hl 2 rfl) ?_
      obtain ⟨e4, hf⟩ := og_some hf
      obtain ⟨h6, hf⟩ := og_some hf
      refine cst_i CX hml (As := [.int x2]) (rest := [.ref (q 0 0)]) (c_J0_charAt l tK tV ta a2 (of_decide_eq_true e4) x2 h6) lk_RL_103 rfl rfl hRMJ0_charAt_5068e hT hS (tK_at hT hS (of_decide_eq_true e4)) rfl hl.1 rfl (Nat.le_of_ble_eq_true rfl) ⟨by show _ ≤ 12; omega, by show _ ≤ 96; omega⟩ (dg ddL_write 9 rfl) ?_
      obtain ⟨r8, e7, hf⟩ := ob_some hf
      refine crl_i CX hml (As := [.ref (q 0 0), .int (tB a2 x2.toNatClampNeg)]) (rest := []) (ws := (wX4 q cy x_isv x_te x_re x_de x_now x_spa x_sna x_len x_sig x_nxt x_cnt x_rng)) (wsn := (wX4 q cy x_isv x_te x_re x_de x_now x_spa x_sna r8.2.1 r8.2.2 x_nxt x_cnt x_rng)) (wr := []) (c_L_type l D cy q x_isv x_te x_re x_de x_now x_spa x_sna x_len x_sig x_nxt x_cnt x_rng (tB a2 x2.toNatClampNeg) _ hst e7) lk_RL_107 rfl rfl hRML_type hP hD hS hA hK hN hX hC (List.Perm.of_eq (List.append_nil _).symm) (List.Perm.of_eq (List.append_nil _)) rfl hl.1 rfl (Nat.le_of_ble_eq_true rfl) ⟨by show _ ≤ 12; omega, by show _ ≤ 96; omega⟩ (dg ddL_write 10 rfl) (fun H locs hP hD hS => ?_)
      refine lv_pop hx hb (dg ddL_write 11 rfl) rfl ?_
      refine lv_iinc (v := x2 + 1) (lv' := [(2, .int (x2 + 1)), (0, .ref (q 0 0)), (1, .ref (tK a2))]) hx hb (dg ddL_write 12 rfl) hl (k := 2) rfl (congrArg (HAdd.hAdd x2) (by decide)) (by decide) rfl (fun ls hl => ?_)
      refine lv_goto (tgt := 2) hx hb (dg ddL_write 13 rfl) (by decide) ?_
      refine W.widen (k := (k + 1)) (n := (ks + 8)) (by omega) (by omega) ?_
      exact ih (x2 + 1) r8.2.1 r8.2.2 (k + 1) (ks + 8) (by omega) (by omega) _ _ hP hD hS _ (lv_sub hl [1, 2, 0] rfl) hf
  refine lv_iconst (v := 0) hx hb (dg ddL_write 0 rfl) (by decide) ?_
  refine lv_istore_n (lv' := [(2, .int 0), (0, .ref (q 0 0)), (1, .ref (tK a2))]) hx hb (dg ddL_write 1 rfl) rfl hl (by decide) rfl (fun ls hl => ?_)
  refine W.widen (k := (0 + 0)) (n := (0 + 0)) (by omega) (by omega) ?_
  exact K2 12 0 x_len x_sig (0 + 0) (0 + 0) (by omega) (by omega) _ _ hP hD hS _ (lv_sub hl [1, 2, 0] rfl) hf
def f_L_act (x_isv : Int32) (x_te : Int32) (x_re : Int32) (x_de : Int32) (x_now : SV) (x_spa : SV) (x_sna : SV) (x_len : Int32) (x_sig : Nat → Int32) (x_nxt : Int32) (x_cnt : Int32) (x_rng : Nat → SV) (a2 : Int32) : Option (Int32 × Int32 × Int32 × Int32 × Int32 × SV × SV × SV × Int32 × (Nat → Int32) × Int32 × Int32 × (Nat → SV)) := og (nz 5) (og (nz 9) (if (a2 &&& 15) = 0 then (if (((a2 >>> ((4 : Int32) &&& 31)) &&& 65535) &&& 1) = 0 then (og (nz 3) (og (nz 11) (ob (f_L_busker x_re x_de x_now x_nxt x_cnt x_rng ((((a2 >>> ((4 : Int32) &&& 31)) &&& 65535) >>> ((1 : Int32) &&& 31)) - (((a2 >>> ((4 : Int32) &&& 31)) &&& 65535) >>> ((1 : Int32) &&& 31)) / 3 * 3) ((((a2 >>> ((4 : Int32) &&& 31)) &&& 65535) >>> ((3 : Int32) &&& 31)) - (((a2 >>> ((4 : Int32) &&& 31)) &&& 65535) >>> ((3 : Int32) &&& 31)) / 11 * 11)) fun r11 => (some (r11.1, x_isv, x_te, r11.2.1, r11.2.2.1, r11.2.2.2.1, x_spa, x_sna, x_len, x_sig, r11.2.2.2.2.1, r11.2.2.2.2.2.1, r11.2.2.2.2.2.2))))) else (og (nz 53) (ob (f_L_crowd x_now x_nxt x_cnt x_rng ((((a2 >>> ((4 : Int32) &&& 31)) &&& 65535) >>> ((1 : Int32) &&& 31)) - (((a2 >>> ((4 : Int32) &&& 31)) &&& 65535) >>> ((1 : Int32) &&& 31)) / 53 * 53)) fun r7 => (some (r7.1, x_isv, x_te, x_re, x_de, r7.2.1, x_spa, x_sna, x_len, x_sig, r7.2.2.1, r7.2.2.2.1, r7.2.2.2.2))))) else (if (a2 &&& 15) = 1 then (og (nz 84) (ob (f_L_limit x_now x_nxt x_cnt x_rng ((((a2 >>> ((4 : Int32) &&& 31)) &&& 65535) >>> ((5 : Int32) &&& 31)) - (((a2 >>> ((4 : Int32) &&& 31)) &&& 65535) >>> ((5 : Int32) &&& 31)) / 9 * 9) ((39 : Int32) + ((((a2 >>> ((4 : Int32) &&& 31)) &&& 65535) >>> ((2 : Int32) &&& 31)) - (((a2 >>> ((4 : Int32) &&& 31)) &&& 65535) >>> ((2 : Int32) &&& 31)) / 84 * 84))) fun r15 => (some (r15.1, x_isv, x_te, x_re, x_de, r15.2.1, x_spa, x_sna, x_len, x_sig, r15.2.2.1, r15.2.2.2.1, r15.2.2.2.2)))) else (if (a2 &&& 15) = 2 then (ob (f_L_join x_re x_de x_now x_nxt x_cnt x_rng ((((a2 >>> ((4 : Int32) &&& 31)) &&& 65535) >>> ((2 : Int32) &&& 31)) - (((a2 >>> ((4 : Int32) &&& 31)) &&& 65535) >>> ((2 : Int32) &&& 31)) / 5 * 5)) fun r18 => (some (r18.1, x_isv, x_te, r18.2.1, r18.2.2.1, r18.2.2.2.1, x_spa, x_sna, x_len, x_sig, r18.2.2.2.2.1, r18.2.2.2.2.2.1, r18.2.2.2.2.2.2))) else (if (a2 &&& 15) = 3 then (ob (f_L_join x_re x_de x_now x_nxt x_cnt x_rng ((((a2 >>> ((4 : Int32) &&& 31)) &&& 65535) >>> ((2 : Int32) &&& 31)) - (((a2 >>> ((4 : Int32) &&& 31)) &&& 65535) >>> ((2 : Int32) &&& 31)) / 5 * 5)) fun r21 => (some (r21.1, x_isv, x_te, r21.2.1, r21.2.2.1, r21.2.2.2.1, x_spa, x_sna, x_len, x_sig, r21.2.2.2.2.1, r21.2.2.2.2.2.1, r21.2.2.2.2.2.2))) else (if (a2 &&& 15) = 4 then (og (nz 102) (ob (f_L_draw x_re x_de x_now x_nxt x_cnt x_rng ((((a2 >>> ((4 : Int32) &&& 31)) &&& 65535) >>> ((5 : Int32) &&& 31)) - (((a2 >>> ((4 : Int32) &&& 31)) &&& 65535) >>> ((5 : Int32) &&& 31)) / 9 * 9) ((((a2 >>> ((4 : Int32) &&& 31)) &&& 65535) >>> ((2 : Int32) &&& 31)) - (((a2 >>> ((4 : Int32) &&& 31)) &&& 65535) >>> ((2 : Int32) &&& 31)) / 102 * 102)) fun r25 => (some (r25.1, x_isv, x_te, r25.2.1, r25.2.2.1, r25.2.2.2.1, x_spa, x_sna, x_len, x_sig, r25.2.2.2.2.1, r25.2.2.2.2.2.1, r25.2.2.2.2.2.2)))) else (if (a2 &&& 15) = 5 then (og (nz 102) (ob (f_L_draw x_re x_de x_now x_nxt x_cnt x_rng ((((a2 >>> ((4 : Int32) &&& 31)) &&& 65535) >>> ((5 : Int32) &&& 31)) - (((a2 >>> ((4 : Int32) &&& 31)) &&& 65535) >>> ((5 : Int32) &&& 31)) / 9 * 9) ((((a2 >>> ((4 : Int32) &&& 31)) &&& 65535) >>> ((2 : Int32) &&& 31)) - (((a2 >>> ((4 : Int32) &&& 31)) &&& 65535) >>> ((2 : Int32) &&& 31)) / 102 * 102)) fun r29 => (some (r29.1, x_isv, x_te, r29.2.1, r29.2.2.1, r29.2.2.2.1, x_spa, x_sna, x_len, x_sig, r29.2.2.2.2.1, r29.2.2.2.2.2.1, r29.2.2.2.2.2.2)))) else (if (a2 &&& 15) = 6 then (og (nz 102) (ob (f_L_draw x_re x_de x_now x_nxt x_cnt x_rng ((((a2 >>> ((4 : Int32) &&& 31)) &&& 65535) >>> ((5 : Int32) &&& 31)) - (((a2 >>> ((4 : Int32) &&& 31)) &&& 65535) >>> ((5 : Int32) &&& 31)) / 9 * 9) ((((a2 >>> ((4 : Int32) &&& 31)) &&& 65535) >>> ((2 : Int32) &&& 31)) - (((a2 >>> ((4 : Int32) &&& 31)) &&& 65535) >>> ((2 : Int32) &&& 31)) / 102 * 102)) fun r33 => (some (r33.1, x_isv, x_te, r33.2.1, r33.2.2.1, r33.2.2.2.1, x_spa, x_sna, x_len, x_sig, r33.2.2.2.2.1, r33.2.2.2.2.2.1, r33.2.2.2.2.2.2)))) else (if (a2 &&& 15) = 7 then (if (((a2 >>> ((4 : Int32) &&& 31)) &&& 65535) &&& 1) = 0 then (ob (f_L_leave x_re x_de x_now x_nxt x_cnt x_rng ((((a2 >>> ((4 : Int32) &&& 31)) &&& 65535) >>> ((5 : Int32) &&& 31)) - (((a2 >>> ((4 : Int32) &&& 31)) &&& 65535) >>> ((5 : Int32) &&& 31)) / 9 * 9)) fun r40 => (some (r40.1, x_isv, x_te, r40.2.1, r40.2.2.1, r40.2.2.2.1, x_spa, x_sna, x_len, x_sig, r40.2.2.2.2.1, r40.2.2.2.2.2.1, r40.2.2.2.2.2.2))) else (og (nz 8) (ob (f_L_swap x_re x_de x_now x_nxt x_cnt x_rng ((((a2 >>> ((4 : Int32) &&& 31)) &&& 65535) >>> ((5 : Int32) &&& 31)) - (((a2 >>> ((4 : Int32) &&& 31)) &&& 65535) >>> ((5 : Int32) &&& 31)) / 9 * 9) ((((a2 >>> ((4 : Int32) &&& 31)) &&& 65535) >>> ((2 : Int32) &&& 31)) - (((a2 >>> ((4 : Int32) &&& 31)) &&& 65535) >>> ((2 : Int32) &&& 31)) / 8 * 8)) fun r38 => (some (r38.1, x_isv, x_te, r38.2.1, r38.2.2.1, r38.2.2.2.1, x_spa, x_sna, x_len, x_sig, r38.2.2.2.2.1, r38.2.2.2.2.2.1, r38.2.2.2.2.2.2))))) else (if (a2 &&& 15) = 8 then (ob (f_L_strings x_re x_de x_now x_nxt x_cnt x_rng ((((a2 >>> ((4 : Int32) &&& 31)) &&& 65535) >>> ((2 : Int32) &&& 31)) - (((a2 >>> ((4 : Int32) &&& 31)) &&& 65535) >>> ((2 : Int32) &&& 31)) / 5 * 5)) fun r43 => (some (r43.1, x_isv, x_te, r43.2.1, r43.2.2.1, r43.2.2.2.1, x_spa, x_sna, x_len, x_sig, r43.2.2.2.2.1, r43.2.2.2.2.2.1, r43.2.2.2.2.2.2))) else (if (a2 &&& 15) = 9 then (ob (f_L_answer x_re x_de x_now x_nxt x_cnt x_rng ((((a2 >>> ((4 : Int32) &&& 31)) &&& 65535) >>> ((5 : Int32) &&& 31)) - (((a2 >>> ((4 : Int32) &&& 31)) &&& 65535) >>> ((5 : Int32) &&& 31)) / 9 * 9)) fun r46 => (some (r46.1, x_isv, x_te, r46.2.1, r46.2.2.1, r46.2.2.2.1, x_spa, x_sna, x_len, x_sig, r46.2.2.2.2.1, r46.2.2.2.2.2.1, r46.2.2.2.2.2.2))) else (if (a2 &&& 15) = 10 then (if (((a2 >>> ((4 : Int32) &&& 31)) &&& 65535) &&& 1) = 0 then (og (nz 3) (ob (f_L_rack x_re x_de x_now x_nxt x_cnt x_rng ((((a2 >>> ((4 : Int32) &&& 31)) &&& 65535) >>> ((2 : Int32) &&& 31)) - (((a2 >>> ((4 : Int32) &&& 31)) &&& 65535) >>> ((2 : Int32) &&& 31)) / 5 * 5) ((((a2 >>> ((4 : Int32) &&& 31)) &&& 65535) >>> ((6 : Int32) &&& 31)) - (((a2 >>> ((4 : Int32) &&& 31)) &&& 65535) >>> ((6 : Int32) &&& 31)) / 3 * 3)) fun r53 => (some (r53.1, x_isv, x_te, r53.2.1, r53.2.2.1, r53.2.2.2.1, x_spa, x_sna, x_len, x_sig, r53.2.2.2.2.1, r53.2.2.2.2.2.1, r53.2.2.2.2.2.2)))) else (ob (f_L_unrack x_re x_de x_now x_nxt x_cnt x_rng ((((a2 >>> ((4 : Int32) &&& 31)) &&& 65535) >>> ((2 : Int32) &&& 31)) - (((a2 >>> ((4 : Int32) &&& 31)) &&& 65535) >>> ((2 : Int32) &&& 31)) / 5 * 5)) fun r50 => (some (r50.1, x_isv, x_te, r50.2.1, r50.2.2.1, r50.2.2.2.1, x_spa, x_sna, x_len, x_sig, r50.2.2.2.2.1, r50.2.2.2.2.2.1, r50.2.2.2.2.2.2)))) else (if (a2 &&& 15) = 11 then (og (nz 18) (og (inb (((a2 >>> ((4 : Int32) &&& 31)) &&& 65535) - ((a2 >>> ((4 : Int32) &&& 31)) &&& 65535) / 18 * 18) 18) (ob (f_L_write x_len x_sig ((((a2 >>> ((4 : Int32) &&& 31)) &&& 65535) - ((a2 >>> ((4 : Int32) &&& 31)) &&& 65535) / 18 * 18).toNatClampNeg)) fun r58 => (ob (f_L_read x_te x_re x_de x_now x_spa r58.1 r58.2 x_nxt x_cnt x_rng) fun r60 => (some (r60.1, x_isv, r60.2.1, r60.2.2.1, r60.2.2.2.1, r60.2.2.2.2.1, r60.2.2.2.2.2.1, x_sna, r60.2.2.2.2.2.2.1, r58.2, r60.2.2.2.2.2.2.2.1, r60.2.2.2.2.2.2.2.2.1, r60.2.2.2.2.2.2.2.2.2)))))) else (if (a2 &&& 15) = 12 then (if (((a2 >>> ((4 : Int32) &&& 31)) &&& 65535) &&& 3) = 0 then (ob (f_X4_save x_isv x_now x_sna) fun r69 => (some (r69.1, r69.2.1, x_te, x_re, x_de, x_now, x_spa, r69.2.2, x_len, x_sig, x_nxt, x_cnt, x_rng))) else (if (((a2 >>> ((4 : Int32) &&& 31)) &&& 65535) &&& 3) = 1 then (ob (f_L_restore x_isv x_now x_sna x_cnt) fun r67 => (some (r67.1, x_isv, x_te, x_re, x_de, r67.2.1, x_spa, x_sna, x_len, x_sig, x_nxt, r67.2.2, x_rng))) else (ob (f_L_undo x_now x_nxt x_cnt x_rng) fun r65 => (some (r65.1, x_isv, x_te, x_re, x_de, r65.2.1, x_spa, x_sna, x_len, x_sig, r65.2.2.1, r65.2.2.2, x_rng))))) else (if (((a2 >>> ((4 : Int32) &&& 31)) &&& 65535) &&& 3) = 0 then (og (nz 62) (ob (f_L_pass x_now x_nxt x_cnt x_rng ((((a2 >>> ((4 : Int32) &&& 31)) &&& 65535) >>> ((2 : Int32) &&& 31)) - (((a2 >>> ((4 : Int32) &&& 31)) &&& 65535) >>> ((2 : Int32) &&& 31)) / 62 * 62)) fun r76 => (some (r76.1, x_isv, x_te, x_re, x_de, r76.2.1, x_spa, x_sna, x_len, x_sig, r76.2.2.1, r76.2.2.2.1, r76.2.2.2.2)))) else (og (nz 7) (ob (f_L_pass x_now x_nxt x_cnt x_rng (((a2 >>> ((4 : Int32) &&& 31)) &&& 65535) - ((a2 >>> ((4 : Int32) &&& 31)) &&& 65535) / 7 * 7)) fun r73 => (some (r73.1, x_isv, x_te, x_re, x_de, r73.2.1, x_spa, x_sna, x_len, x_sig, r73.2.2.1, r73.2.2.2.1, r73.2.2.2.2)))))))))))))))))))
set_option maxHeartbeats 8000000 in
set_option maxRecDepth 100000 in
theorem c_L_act (l : Launch) (D : va_G) (cy : Nat → ClassId) (q : Nat → Nat → Nat) (tK tV : Nat → Nat) (ta : Nat) (x_isv : Int32) (x_te : Int32) (x_re : Int32) (x_de : Int32) (x_now : SV) (x_spa : SV) (x_sna : SV) (x_len : Int32) (x_sig : Nat → Int32) (x_nxt : Int32) (x_cnt : Int32) (x_rng : Nat → SV) (a2 : Int32) (sz : Nat) (hst : l.stackTraces = false) {res : Int32 × Int32 × Int32 × Int32 × Int32 × SV × SV × SV × Int32 × (Nat → Int32) × Int32 × Int32 × (Nat → SV)} (hf : f_L_act x_isv x_te x_re x_de x_now x_spa x_sna x_len x_sig x_nxt x_cnt x_rng a2 = some res) : Met l yL_act (.code yL_act cL_act 5 (some .int) :: lw_all) { frames := 9, cells := 13, slots := 104, locals := 197 } (va_Pc [.ref (q 0 0), .int a2] (sT D cy tK tV ta (wX4 q cy x_isv x_te x_re x_de x_now x_spa x_sna x_len x_sig x_nxt x_cnt x_rng) sz)) (qI D (wX4 q cy res.2.1 res.2.2.1 res.2.2.2.1 res.2.2.2.2.1 res.2.2.2.2.2.1 res.2.2.2.2.2.2.1 res.2.2.2.2.2.2.2.1 res.2.2.2.2.2.2.2.2.1 res.2.2.2.2.2.2.2.2.2.1 res.2.2.2.2.2.2.2.2.2.2.1 res.2.2.2.2.2.2.2.2.2.2.2.1 res.2.2.2.2.2.2.2.2.2.2.2.2) res.1 (va_A (wX4 q cy x_isv x_te x_re x_de x_now x_spa x_sna x_len x_sig x_nxt x_cnt x_rng) sz)) 13 104 (va_A (wX4 q cy x_isv x_te x_re x_de x_now x_spa x_sna x_len x_sig x_nxt x_cnt x_rng) sz) := by
  refine mk_lt (Qc := qI D (wX4 q cy res.2.1 res.2.2.1 res.2.2.2.1 res.2.2.2.2.1 res.2.2.2.2.2.1 res.2.2.2.2.2.2.1 res.2.2.2.2.2.2.2.1 res.2.2.2.2.2.2.2.2.1 res.2.2.2.2.2.2.2.2.2.1 res.2.2.2.2.2.2.2.2.2.2.1 res.2.2.2.2.2.2.2.2.2.2.2.1 res.2.2.2.2.2.2.2.2.2.2.2.2) res.1) (Rc := RL) (by decide +kernel) rfl (Nat.le_of_ble_eq_true rfl) ?_
  intro p e s m args below meth c ls A CX hml hr hlk hK hN hP hD hS hA hl hX hC hT
  have hx := CX.1
  have hb := CX.2.1
  have hRML_answer : (⟨8, 1, 6, 123⟩ : Room).frames + 1 ≤ (⟨9, 13, 104, 197⟩ : Room).frames ∧ 8 + (4 + 11) + (⟨8, 1, 6, 123⟩ : Room).locals ≤ (⟨9, 13, 104, 197⟩ : Room).locals := ⟨(Nat.le_of_ble_eq_true rfl), (Nat.le_of_ble_eq_true rfl)⟩
  have hRML_busker : (⟨8, 1, 6, 124⟩ : Room).frames + 1 ≤ (⟨9, 13, 104, 197⟩ : Room).frames ∧ 8 + (5 + 11) + (⟨8, 1, 6, 124⟩ : Room).locals ≤ (⟨9, 13, 104, 197⟩ : Room).locals := ⟨(Nat.le_of_ble_eq_true rfl), (Nat.le_of_ble_eq_true rfl)⟩
  have hRML_crowd : (⟨8, 1, 6, 124⟩ : Room).frames + 1 ≤ (⟨9, 13, 104, 197⟩ : Room).frames ∧ 8 + (4 + 11) + (⟨8, 1, 6, 124⟩ : Room).locals ≤ (⟨9, 13, 104, 197⟩ : Room).locals := ⟨(Nat.le_of_ble_eq_true rfl), (Nat.le_of_ble_eq_true rfl)⟩
  have hRML_draw : (⟨8, 1, 6, 124⟩ : Room).frames + 1 ≤ (⟨9, 13, 104, 197⟩ : Room).frames ∧ 8 + (5 + 11) + (⟨8, 1, 6, 124⟩ : Room).locals ≤ (⟨9, 13, 104, 197⟩ : Room).locals := ⟨(Nat.le_of_ble_eq_true rfl), (Nat.le_of_ble_eq_true rfl)⟩
  have hRML_join : (⟨8, 1, 6, 123⟩ : Room).frames + 1 ≤ (⟨9, 13, 104, 197⟩ : Room).frames ∧ 8 + (4 + 11) + (⟨8, 1, 6, 123⟩ : Room).locals ≤ (⟨9, 13, 104, 197⟩ : Room).locals := ⟨(Nat.le_of_ble_eq_true rfl), (Nat.le_of_ble_eq_true rfl)⟩
  have hRML_leave : (⟨8, 1, 6, 123⟩ : Room).frames + 1 ≤ (⟨9, 13, 104, 197⟩ : Room).frames ∧ 8 + (4 + 11) + (⟨8, 1, 6, 123⟩ : Room).locals ≤ (⟨9, 13, 104, 197⟩ : Room).locals := ⟨(Nat.le_of_ble_eq_true rfl), (Nat.le_of_ble_eq_true rfl)⟩
  have hRML_limit : (⟨8, 1, 6, 125⟩ : Room).frames + 1 ≤ (⟨9, 13, 104, 197⟩ : Room).frames ∧ 8 + (5 + 11) + (⟨8, 1, 6, 125⟩ : Room).locals ≤ (⟨9, 13, 104, 197⟩ : Room).locals := ⟨(Nat.le_of_ble_eq_true rfl), (Nat.le_of_ble_eq_true rfl)⟩
  have hRML_pass : (⟨8, 1, 6, 123⟩ : Room).frames + 1 ≤ (⟨9, 13, 104, 197⟩ : Room).frames ∧ 8 + (4 + 11) + (⟨8, 1, 6, 123⟩ : Room).locals ≤ (⟨9, 13, 104, 197⟩ : Room).locals := ⟨(Nat.le_of_ble_eq_true rfl), (Nat.le_of_ble_eq_true rfl)⟩
  have hRML_rack : (⟨8, 1, 6, 124⟩ : Room).frames + 1 ≤ (⟨9, 13, 104, 197⟩ : Room).frames ∧ 8 + (5 + 11) + (⟨8, 1, 6, 124⟩ : Room).locals ≤ (⟨9, 13, 104, 197⟩ : Room).locals := ⟨(Nat.le_of_ble_eq_true rfl), (Nat.le_of_ble_eq_true rfl)⟩
  have hRML_read : (⟨8, 1, 6, 175⟩ : Room).frames + 1 ≤ (⟨9, 13, 104, 197⟩ : Room).frames ∧ 8 + (3 + 11) + (⟨8, 1, 6, 175⟩ : Room).locals ≤ (⟨9, 13, 104, 197⟩ : Room).locals := ⟨(Nat.le_of_ble_eq_true rfl), (Nat.le_of_ble_eq_true rfl)⟩
  have hRML_restore : (⟨7, 1, 6, 102⟩ : Room).frames + 1 ≤ (⟨9, 13, 104, 197⟩ : Room).frames ∧ 8 + (3 + 11) + (⟨7, 1, 6, 102⟩ : Room).locals ≤ (⟨9, 13, 104, 197⟩ : Room).locals := ⟨(Nat.le_of_ble_eq_true rfl), (Nat.le_of_ble_eq_true rfl)⟩
  have hRML_strings : (⟨8, 1, 6, 123⟩ : Room).frames + 1 ≤ (⟨9, 13, 104, 197⟩ : Room).frames ∧ 8 + (4 + 11) + (⟨8, 1, 6, 123⟩ : Room).locals ≤ (⟨9, 13, 104, 197⟩ : Room).locals := ⟨(Nat.le_of_ble_eq_true rfl), (Nat.le_of_ble_eq_true rfl)⟩
  have hRML_swap : (⟨8, 1, 6, 124⟩ : Room).frames + 1 ≤ (⟨9, 13, 104, 197⟩ : Room).frames ∧ 8 + (5 + 11) + (⟨8, 1, 6, 124⟩ : Room).locals ≤ (⟨9, 13, 104, 197⟩ : Room).locals := ⟨(Nat.le_of_ble_eq_true rfl), (Nat.le_of_ble_eq_true rfl)⟩
  have hRML_undo : (⟨7, 1, 6, 103⟩ : Room).frames + 1 ≤ (⟨9, 13, 104, 197⟩ : Room).frames ∧ 8 + (3 + 11) + (⟨7, 1, 6, 103⟩ : Room).locals ≤ (⟨9, 13, 104, 197⟩ : Room).locals := ⟨(Nat.le_of_ble_eq_true rfl), (Nat.le_of_ble_eq_true rfl)⟩
  have hRML_unrack : (⟨8, 1, 6, 124⟩ : Room).frames + 1 ≤ (⟨9, 13, 104, 197⟩ : Room).frames ∧ 8 + (4 + 11) + (⟨8, 1, 6, 124⟩ : Room).locals ≤ (⟨9, 13, 104, 197⟩ : Room).locals := ⟨(Nat.le_of_ble_eq_true rfl), (Nat.le_of_ble_eq_true rfl)⟩
  have hRML_write : (⟨8, 12, 96, 161⟩ : Room).frames + 1 ≤ (⟨9, 13, 104, 197⟩ : Room).frames ∧ 8 + (3 + 11) + (⟨8, 12, 96, 161⟩ : Room).locals ≤ (⟨9, 13, 104, 197⟩ : Room).locals := ⟨(Nat.le_of_ble_eq_true rfl), (Nat.le_of_ble_eq_true rfl)⟩
  have hRMX4_save : (⟨2, 0, 0, 61⟩ : Room).frames + 1 ≤ (⟨9, 13, 104, 197⟩ : Room).frames ∧ 8 + (1 + 11) + (⟨2, 0, 0, 61⟩ : Room).locals ≤ (⟨9, 13, 104, 197⟩ : Room).locals := ⟨(Nat.le_of_ble_eq_true rfl), (Nat.le_of_ble_eq_true rfl)⟩
  refine lv_iload_n hx hb (dg ddL_act 0 rfl) rfl (lv_at hl 1 rfl) ?_
  refine lv_iconst (v := 4) hx hb (dg ddL_act 1 rfl) (by decide) ?_
  refine lv_ishr hx hb (dg ddL_act 2 rfl) ?_
  refine lv_ldc hx hb CX.2.2.2 (CX.2.2.1 (.constant RL 7 (65535)) (lw_at 331 (by decide +kernel))) (dg ddL_act 3 rfl) ?_
  refine lv_iand hx hb (dg ddL_act 4 rfl) ?_
  refine lv_istore_n (lv' := [(2, .int ((a2 >>> ((4 : Int32) &&& 31)) &&& 65535)), (0, .ref (q 0 0)), (1, .int a2)]) hx hb (dg ddL_act 5 rfl) rfl hl (by decide) rfl (fun ls hl => ?_)
  refine lv_iload_n hx hb (dg ddL_act 6 rfl) rfl (lv_at hl 0 rfl) ?_
  refine lv_iconst (v := 2) hx hb (dg ddL_act 7 rfl) (by decide) ?_
  refine lv_ishr hx hb (dg ddL_act 8 rfl) ?_
  refine lv_iconst (v := 5) hx hb (dg ddL_act 9 rfl) (by decide) ?_
  obtain ⟨h1, hf⟩ := og_some hf
  refine lv_irem hx hb (dg ddL_act 10 rfl) (nz_in h1) ?_
  refine lv_istore_n (lv' := [(3, .int ((((a2 >>> ((4 : Int32) &&& 31)) &&& 65535) >>> ((2 : Int32) &&& 31)) - (((a2 >>> ((4 : Int32) &&& 31)) &&& 65535) >>> ((2 : Int32) &&& 31)) / 5 * 5)), (2, .int ((a2 >>> ((4 : Int32) &&& 31)) &&& 65535)), (0, .ref (q 0 0)), (1, .int a2)]) hx hb (dg ddL_act 11 rfl) rfl hl (by decide) rfl (fun ls hl => ?_)
  refine lv_iload_n hx hb (dg ddL_act 12 rfl) rfl (lv_at hl 1 rfl) ?_
  refine lv_iconst (v := 5) hx hb (dg ddL_act 13 rfl) (by decide) ?_
  refine lv_ishr hx hb (dg ddL_act 14 rfl) ?_
  refine lv_bipush (v := 9) hx hb (dg ddL_act 15 rfl) (by decide) ?_
  obtain ⟨h2, hf⟩ := og_some hf
  refine lv_irem hx hb (dg ddL_act 16 rfl) (nz_in h2) ?_
  refine lv_istore (lv' := [(4, .int ((((a2 >>> ((4 : Int32) &&& 31)) &&& 65535) >>> ((5 : Int32) &&& 31)) - (((a2 >>> ((4 : Int32) &&& 31)) &&& 65535) >>> ((5 : Int32) &&& 31)) / 9 * 9)), (3, .int ((((a2 >>> ((4 : Int32) &&& 31)) &&& 65535) >>> ((2 : Int32) &&& 31)) - (((a2 >>> ((4 : Int32) &&& 31)) &&& 65535) >>> ((2 : Int32) &&& 31)) / 5 * 5)), (2, .int ((a2 >>> ((4 : Int32) &&& 31)) &&& 65535)), (0, .ref (q 0 0)), (1, .int a2)]) hx hb (dg ddL_act 17 rfl) hl (by decide) rfl (fun ls hl => ?_)
  refine lv_iload_n hx hb (dg ddL_act 18 rfl) rfl (lv_at hl 4 rfl) ?_
  refine lv_bipush (v := 15) hx hb (dg ddL_act 19 rfl) (by decide) ?_
  refine lv_iand hx hb (dg ddL_act 20 rfl) ?_
  by_cases h3 : (a2 &&& 15) = 0
  · have hf := it_t h3 hf
    refine lv_tableIn (off := 67) (tgt := 92) hx hb (dg ddL_act 21 rfl) (by rw [h3]; decide) (by rw [h3]; decide) (by rw [h3]; rfl) (by decide) ?_
    refine lv_iload_n hx hb (dg ddL_act 22 rfl) rfl (lv_at hl 2 rfl) ?_
    refine lv_iconst (v := 1) hx hb (dg ddL_act 23 rfl) (by decide) ?_
    refine lv_iand hx hb (dg ddL_act 24 rfl) ?_
    refine lv_if_ne (tgt := 116) hx hb (dg ddL_act 25 rfl) (by decide) (fun h4 => ?_) (fun h4 => ?_)
    · have hf := it_f h4 hf
      refine lv_aload_n hx hb (dg ddL_act 39 rfl) rfl (lv_at hl 3 rfl) ?_
      refine lv_iload_n hx hb (dg ddL_act 40 rfl) rfl (lv_at hl 2 rfl) ?_
      refine lv_iconst (v := 1) hx hb (dg ddL_act 41 rfl) (by decide) ?_
      refine lv_ishr hx hb (dg ddL_act 42 rfl) ?_
      refine lv_bipush (v := 53) hx hb (dg ddL_act 43 rfl) (by decide) ?_
      obtain ⟨h5, hf⟩ := og_some hf
      refine lv_irem hx hb (dg ddL_act 44 rfl) (nz_in h5) ?_
      obtain ⟨r7, e6, hf⟩ := ob_some hf
      refine crl_i CX hml (As := [.ref (q 0 0), .int ((((a2 >>> ((4 : Int32) &&& 31)) &&& 65535) >>> ((1 : Int32) &&& 31)) - (((a2 >>> ((4 : Int32) &&& 31)) &&& 65535) >>> ((1 : Int32) &&& 31)) / 53 * 53)]) (rest := []) (ws := (wX4 q cy x_isv x_te x_re x_de x_now x_spa x_sna x_len x_sig x_nxt x_cnt x_rng)) (wsn := (wX4 q cy x_isv x_te x_re x_de r7.2.1 x_spa x_sna x_len x_sig r7.2.2.1 r7.2.2.2.1 r7.2.2.2.2)) (wr := []) (c_L_crowd l D cy q x_isv x_te x_re x_de x_now x_spa x_sna x_len x_sig x_nxt x_cnt x_rng ((((a2 >>> ((4 : Int32) &&& 31)) &&& 65535) >>> ((1 : Int32) &&& 31)) - (((a2 >>> ((4 : Int32) &&& 31)) &&& 65535) >>> ((1 : Int32) &&& 31)) / 53 * 53) _ hst e6) lk_RL_114 rfl rfl hRML_crowd hP hD hS hA hK hN hX hC (List.Perm.of_eq (List.append_nil _).symm) (List.Perm.of_eq (List.append_nil _)) rfl hl.1 rfl (Nat.le_of_ble_eq_true rfl) ⟨by show _ ≤ 13; omega, by show _ ≤ 104; omega⟩ (dg ddL_act 45 rfl) (fun H locs hP hD hS => ?_)
      cases hf
      refine W.widen (k := 13) (n := 104) (by omega) (by omega) ?_
      exact e_wi CX hr hlk rfl hP hD hS (dg ddL_act 46 rfl)
    · have hf := it_t h4 hf
      refine lv_aload_n hx hb (dg ddL_act 26 rfl) rfl (lv_at hl 3 rfl) ?_
      refine lv_iload_n hx hb (dg ddL_act 27 rfl) rfl (lv_at hl 2 rfl) ?_
      refine lv_iconst (v := 1) hx hb (dg ddL_act 28 rfl) (by decide) ?_
      refine lv_ishr hx hb (dg ddL_act 29 rfl) ?_
      refine lv_iconst (v := 3) hx hb (dg ddL_act 30 rfl) (by decide) ?_
      obtain ⟨h8, hf⟩ := og_some hf
      refine lv_irem hx hb (dg ddL_act 31 rfl) (nz_in h8) ?_
      refine lv_iload_n hx hb (dg ddL_act 32 rfl) rfl (lv_at hl 2 rfl) ?_
      refine lv_iconst (v := 3) hx hb (dg ddL_act 33 rfl) (by decide) ?_
      refine lv_ishr hx hb (dg ddL_act 34 rfl) ?_
      refine lv_bipush (v := 11) hx hb (dg ddL_act 35 rfl) (by decide) ?_
      obtain ⟨h9, hf⟩ := og_some hf
      refine lv_irem hx hb (dg ddL_act 36 rfl) (nz_in h9) ?_
      obtain ⟨r11, e10, hf⟩ := ob_some hf
      refine crl_i CX hml (As := [.ref (q 0 0), .int ((((a2 >>> ((4 : Int32) &&& 31)) &&& 65535) >>> ((1 : Int32) &&& 31)) - (((a2 >>> ((4 : Int32) &&& 31)) &&& 65535) >>> ((1 : Int32) &&& 31)) / 3 * 3), .int ((((a2 >>> ((4 : Int32) &&& 31)) &&& 65535) >>> ((3 : Int32) &&& 31)) - (((a2 >>> ((4 : Int32) &&& 31)) &&& 65535) >>> ((3 : Int32) &&& 31)) / 11 * 11)]) (rest := []) (ws := (wX4 q cy x_isv x_te x_re x_de x_now x_spa x_sna x_len x_sig x_nxt x_cnt x_rng)) (wsn := (wX4 q cy x_isv x_te r11.2.1 r11.2.2.1 r11.2.2.2.1 x_spa x_sna x_len x_sig r11.2.2.2.2.1 r11.2.2.2.2.2.1 r11.2.2.2.2.2.2)) (wr := []) (c_L_busker l D cy q x_isv x_te x_re x_de x_now x_spa x_sna x_len x_sig x_nxt x_cnt x_rng ((((a2 >>> ((4 : Int32) &&& 31)) &&& 65535) >>> ((1 : Int32) &&& 31)) - (((a2 >>> ((4 : Int32) &&& 31)) &&& 65535) >>> ((1 : Int32) &&& 31)) / 3 * 3) ((((a2 >>> ((4 : Int32) &&& 31)) &&& 65535) >>> ((3 : Int32) &&& 31)) - (((a2 >>> ((4 : Int32) &&& 31)) &&& 65535) >>> ((3 : Int32) &&& 31)) / 11 * 11) _ hst e10) lk_RL_111 rfl rfl hRML_busker hP hD hS hA hK hN hX hC (List.Perm.of_eq (List.append_nil _).symm) (List.Perm.of_eq (List.append_nil _)) rfl hl.1 rfl (Nat.le_of_ble_eq_true rfl) ⟨by show _ ≤ 13; omega, by show _ ≤ 104; omega⟩ (dg ddL_act 37 rfl) (fun H locs hP hD hS => ?_)
      refine lv_goto (tgt := 126) hx hb (dg ddL_act 38 rfl) (by decide) ?_
      cases hf
      refine W.widen (k := 13) (n := 104) (by omega) (by omega) ?_
      exact e_wi CX hr hlk rfl hP hD hS (dg ddL_act 46 rfl)
  have hf := it_f h3 hf
  by_cases h12 : (a2 &&& 15) = 1
  · have hf := it_t h12 hf
    refine lv_tableIn (off := 102) (tgt := 127) hx hb (dg ddL_act 21 rfl) (by rw [h12]; decide) (by rw [h12]; decide) (by rw [h12]; rfl) (by decide) ?_
    refine lv_aload_n hx hb (dg ddL_act 47 rfl) rfl (lv_at hl 3 rfl) ?_
    refine lv_iload hx hb (dg ddL_act 48 rfl) (lv_at hl 0 rfl) ?_
    refine lv_bipush (v := 39) hx hb (dg ddL_act 49 rfl) (by decide) ?_
    refine lv_iload_n hx hb (dg ddL_act 50 rfl) rfl (lv_at hl 2 rfl) ?_
    refine lv_iconst (v := 2) hx hb (dg ddL_act 51 rfl) (by decide) ?_
    refine lv_ishr hx hb (dg ddL_act 52 rfl) ?_
    refine lv_bipush (v := 84) hx hb (dg ddL_act 53 rfl) (by decide) ?_
    obtain ⟨h13, hf⟩ := og_some hf
    refine lv_irem hx hb (dg ddL_act 54 rfl) (nz_in h13) ?_
    refine lv_iadd hx hb (dg ddL_act 55 rfl) ?_
    obtain ⟨r15, e14, hf⟩ := ob_some hf
    refine crl_i CX hml (As := [.ref (q 0 0), .int ((((a2 >>> ((4 : Int32) &&& 31)) &&& 65535) >>> ((5 : Int32) &&& 31)) - (((a2 >>> ((4 : Int32) &&& 31)) &&& 65535) >>> ((5 : Int32) &&& 31)) / 9 * 9), .int ((39 : Int32) + ((((a2 >>> ((4 : Int32) &&& 31)) &&& 65535) >>> ((2 : Int32) &&& 31)) - (((a2 >>> ((4 : Int32) &&& 31)) &&& 65535) >>> ((2 : Int32) &&& 31)) / 84 * 84))]) (rest := []) (ws := (wX4 q cy x_isv x_te x_re x_de x_now x_spa x_sna x_len x_sig x_nxt x_cnt x_rng)) (wsn := (wX4 q cy x_isv x_te x_re x_de r15.2.1 x_spa x_sna x_len x_sig r15.2.2.1 r15.2.2.2.1 r15.2.2.2.2)) (wr := []) (c_L_limit l D cy q x_isv x_te x_re x_de x_now x_spa x_sna x_len x_sig x_nxt x_cnt x_rng ((((a2 >>> ((4 : Int32) &&& 31)) &&& 65535) >>> ((5 : Int32) &&& 31)) - (((a2 >>> ((4 : Int32) &&& 31)) &&& 65535) >>> ((5 : Int32) &&& 31)) / 9 * 9) ((39 : Int32) + ((((a2 >>> ((4 : Int32) &&& 31)) &&& 65535) >>> ((2 : Int32) &&& 31)) - (((a2 >>> ((4 : Int32) &&& 31)) &&& 65535) >>> ((2 : Int32) &&& 31)) / 84 * 84)) _ hst e14) lk_RL_117 rfl rfl hRML_limit hP hD hS hA hK hN hX hC (List.Perm.of_eq (List.append_nil _).symm) (List.Perm.of_eq (List.append_nil _)) rfl hl.1 rfl (Nat.le_of_ble_eq_true rfl) ⟨by show _ ≤ 13; omega, by show _ ≤ 104; omega⟩ (dg ddL_act 56 rfl) (fun H locs hP hD hS => ?_)
    cases hf
    refine W.widen (k := 13) (n := 104) (by omega) (by omega) ?_
    exact e_wi CX hr hlk rfl hP hD hS (dg ddL_act 57 rfl)
  have hf := it_f h12 hf
  by_cases h16 : (a2 &&& 15) = 2
  · have hf := it_t h16 hf
    refine lv_tableIn (off := 118) (tgt := 143) hx hb (dg ddL_act 21 rfl) (by rw [h16]; decide) (by rw [h16]; decide) (by rw [h16]; rfl) (by decide) ?_
    refine lv_aload_n hx hb (dg ddL_act 58 rfl) rfl (lv_at hl 3 rfl) ?_
    refine lv_iload_n hx hb (dg ddL_act 59 rfl) rfl (lv_at hl 1 rfl) ?_
    obtain ⟨r18, e17, hf⟩ := ob_some hf
    refine crl_i CX hml (As := [.ref (q 0 0), .int ((((a2 >>> ((4 : Int32) &&& 31)) &&& 65535) >>> ((2 : Int32) &&& 31)) - (((a2 >>> ((4 : Int32) &&& 31)) &&& 65535) >>> ((2 : Int32) &&& 31)) / 5 * 5)]) (rest := []) (ws := (wX4 q cy x_isv x_te x_re x_de x_now x_spa x_sna x_len x_sig x_nxt x_cnt x_rng)) (wsn := (wX4 q cy x_isv x_te r18.2.1 r18.2.2.1 r18.2.2.2.1 x_spa x_sna x_len x_sig r18.2.2.2.2.1 r18.2.2.2.2.2.1 r18.2.2.2.2.2.2)) (wr := []) (c_L_join l D cy q x_isv x_te x_re x_de x_now x_spa x_sna x_len x_sig x_nxt x_cnt x_rng ((((a2 >>> ((4 : Int32) &&& 31)) &&& 65535) >>> ((2 : Int32) &&& 31)) - (((a2 >>> ((4 : Int32) &&& 31)) &&& 65535) >>> ((2 : Int32) &&& 31)) / 5 * 5) _ hst e17) lk_RL_119 rfl rfl hRML_join hP hD hS hA hK hN hX hC (List.Perm.of_eq (List.append_nil _).symm) (List.Perm.of_eq (List.append_nil _)) rfl hl.1 rfl (Nat.le_of_ble_eq_true rfl) ⟨by show _ ≤ 13; omega, by show _ ≤ 104; omega⟩ (dg ddL_act 60 rfl) (fun H locs hP hD hS => ?_)
    cases hf
    refine W.widen (k := 13) (n := 104) (by omega) (by omega) ?_
    exact e_wi CX hr hlk rfl hP hD hS (dg ddL_act 61 rfl)
  have hf := it_f h16 hf
  by_cases h19 : (a2 &&& 15) = 3
  · have hf := it_t h19 hf
    refine lv_tableIn (off := 118) (tgt := 143) hx hb (dg ddL_act 21 rfl) (by rw [h19]; decide) (by rw [h19]; decide) (by rw [h19]; rfl) (by decide) ?_
    refine lv_aload_n hx hb (dg ddL_act 58 rfl) rfl (lv_at hl 3 rfl) ?_
    refine lv_iload_n hx hb (dg ddL_act 59 rfl) rfl (lv_at hl 1 rfl) ?_
    obtain ⟨r21, e20, hf⟩ := ob_some hf
    refine crl_i CX hml (As := [.ref (q 0 0), .int ((((a2 >>> ((4 : Int32) &&& 31)) &&& 65535) >>> ((2 : Int32) &&& 31)) - (((a2 >>> ((4 : Int32) &&& 31)) &&& 65535) >>> ((2 : Int32) &&& 31)) / 5 * 5)]) (rest := []) (ws := (wX4 q cy x_isv x_te x_re x_de x_now x_spa x_sna x_len x_sig x_nxt x_cnt x_rng)) (wsn := (wX4 q cy x_isv x_te r21.2.1 r21.2.2.1 r21.2.2.2.1 x_spa x_sna x_len x_sig r21.2.2.2.2.1 r21.2.2.2.2.2.1 r21.2.2.2.2.2.2)) (wr := []) (c_L_join l D cy q x_isv x_te x_re x_de x_now x_spa x_sna x_len x_sig x_nxt x_cnt x_rng ((((a2 >>> ((4 : Int32) &&& 31)) &&& 65535) >>> ((2 : Int32) &&& 31)) - (((a2 >>> ((4 : Int32) &&& 31)) &&& 65535) >>> ((2 : Int32) &&& 31)) / 5 * 5) _ hst e20) lk_RL_119 rfl rfl hRML_join hP hD hS hA hK hN hX hC (List.Perm.of_eq (List.append_nil _).symm) (List.Perm.of_eq (List.append_nil _)) rfl hl.1 rfl (Nat.le_of_ble_eq_true rfl) ⟨by show _ ≤ 13; omega, by show _ ≤ 104; omega⟩ (dg ddL_act 60 rfl) (fun H locs hP hD hS => ?_)
    cases hf
    refine W.widen (k := 13) (n := 104) (by omega) (by omega) ?_
    exact e_wi CX hr hlk rfl hP hD hS (dg ddL_act 61 rfl)
  have hf := it_f h19 hf
  by_cases h22 : (a2 &&& 15) = 4
  · have hf := it_t h22 hf
    refine lv_tableIn (off := 124) (tgt := 149) hx hb (dg ddL_act 21 rfl) (by rw [h22]; decide) (by rw [h22]; decide) (by rw [h22]; rfl) (by decide) ?_
    refine lv_aload_n hx hb (dg ddL_act 62 rfl) rfl (lv_at hl 3 rfl) ?_
    refine lv_iload hx hb (dg ddL_act 63 rfl) (lv_at hl 0 rfl) ?_
    refine lv_iload_n hx hb (dg ddL_act 64 rfl) rfl (lv_at hl 2 rfl) ?_
    refine lv_iconst (v := 2) hx hb (dg ddL_act 65 rfl) (by decide) ?_
    refine lv_ishr hx hb (dg ddL_act 66 rfl) ?_
    refine lv_bipush (v := 102) hx hb (dg ddL_act 67 rfl) (by decide) ?_
    obtain ⟨h23, hf⟩ := og_some hf
    refine lv_irem hx hb (dg ddL_act 68 rfl) (nz_in h23) ?_
    obtain ⟨r25, e24, hf⟩ := ob_some hf
    refine crl_i CX hml (As := [.ref (q 0 0), .int ((((a2 >>> ((4 : Int32) &&& 31)) &&& 65535) >>> ((5 : Int32) &&& 31)) - (((a2 >>> ((4 : Int32) &&& 31)) &&& 65535) >>> ((5 : Int32) &&& 31)) / 9 * 9), .int ((((a2 >>> ((4 : Int32) &&& 31)) &&& 65535) >>> ((2 : Int32) &&& 31)) - (((a2 >>> ((4 : Int32) &&& 31)) &&& 65535) >>> ((2 : Int32) &&& 31)) / 102 * 102)]) (rest := []) (ws := (wX4 q cy x_isv x_te x_re x_de x_now x_spa x_sna x_len x_sig x_nxt x_cnt x_rng)) (wsn := (wX4 q cy x_isv x_te r25.2.1 r25.2.2.1 r25.2.2.2.1 x_spa x_sna x_len x_sig r25.2.2.2.2.1 r25.2.2.2.2.2.1 r25.2.2.2.2.2.2)) (wr := []) (c_L_draw l D cy q x_isv x_te x_re x_de x_now x_spa x_sna x_len x_sig x_nxt x_cnt x_rng ((((a2 >>> ((4 : Int32) &&& 31)) &&& 65535) >>> ((5 : Int32) &&& 31)) - (((a2 >>> ((4 : Int32) &&& 31)) &&& 65535) >>> ((5 : Int32) &&& 31)) / 9 * 9) ((((a2 >>> ((4 : Int32) &&& 31)) &&& 65535) >>> ((2 : Int32) &&& 31)) - (((a2 >>> ((4 : Int32) &&& 31)) &&& 65535) >>> ((2 : Int32) &&& 31)) / 102 * 102) _ hst e24) lk_RL_121 rfl rfl hRML_draw hP hD hS hA hK hN hX hC (List.Perm.of_eq (List.append_nil _).symm) (List.Perm.of_eq (List.append_nil _)) rfl hl.1 rfl (Nat.le_of_ble_eq_true rfl) ⟨by show _ ≤ 13; omega, by show _ ≤ 104; omega⟩ (dg ddL_act 69 rfl) (fun H locs hP hD hS => ?_)
    cases hf
    refine W.widen (k := 13) (n := 104) (by omega) (by omega) ?_
    exact e_wi CX hr hlk rfl hP hD hS (dg ddL_act 70 rfl)
  have hf := it_f h22 hf
  by_cases h26 : (a2 &&& 15) = 5
  · have hf := it_t h26 hf
    refine lv_tableIn (off := 124) (tgt := 149) hx hb (dg ddL_act 21 rfl) (by rw [h26]; decide) (by rw [h26]; decide) (by rw [h26]; rfl) (by decide) ?_
    refine lv_aload_n hx hb (dg ddL_act 62 rfl) rfl (lv_at hl 3 rfl) ?_
    refine lv_iload hx hb (dg ddL_act 63 rfl) (lv_at hl 0 rfl) ?_
    refine lv_iload_n hx hb (dg ddL_act 64 rfl) rfl (lv_at hl 2 rfl) ?_
    refine lv_iconst (v := 2) hx hb (dg ddL_act 65 rfl) (by decide) ?_
    refine lv_ishr hx hb (dg ddL_act 66 rfl) ?_
    refine lv_bipush (v := 102) hx hb (dg ddL_act 67 rfl) (by decide) ?_
    obtain ⟨h27, hf⟩ := og_some hf
    refine lv_irem hx hb (dg ddL_act 68 rfl) (nz_in h27) ?_
    obtain ⟨r29, e28, hf⟩ := ob_some hf
    refine crl_i CX hml (As := [.ref (q 0 0), .int ((((a2 >>> ((4 : Int32) &&& 31)) &&& 65535) >>> ((5 : Int32) &&& 31)) - (((a2 >>> ((4 : Int32) &&& 31)) &&& 65535) >>> ((5 : Int32) &&& 31)) / 9 * 9), .int ((((a2 >>> ((4 : Int32) &&& 31)) &&& 65535) >>> ((2 : Int32) &&& 31)) - (((a2 >>> ((4 : Int32) &&& 31)) &&& 65535) >>> ((2 : Int32) &&& 31)) / 102 * 102)]) (rest := []) (ws := (wX4 q cy x_isv x_te x_re x_de x_now x_spa x_sna x_len x_sig x_nxt x_cnt x_rng)) (wsn := (wX4 q cy x_isv x_te r29.2.1 r29.2.2.1 r29.2.2.2.1 x_spa x_sna x_len x_sig r29.2.2.2.2.1 r29.2.2.2.2.2.1 r29.2.2.2.2.2.2)) (wr := []) (c_L_draw l D cy q x_isv x_te x_re x_de x_now x_spa x_sna x_len x_sig x_nxt x_cnt x_rng ((((a2 >>> ((4 : Int32) &&& 31)) &&& 65535) >>> ((5 : Int32) &&& 31)) - (((a2 >>> ((4 : Int32) &&& 31)) &&& 65535) >>> ((5 : Int32) &&& 31)) / 9 * 9) ((((a2 >>> ((4 : Int32) &&& 31)) &&& 65535) >>> ((2 : Int32) &&& 31)) - (((a2 >>> ((4 : Int32) &&& 31)) &&& 65535) >>> ((2 : Int32) &&& 31)) / 102 * 102) _ hst e28) lk_RL_121 rfl rfl hRML_draw hP hD hS hA hK hN hX hC (List.Perm.of_eq (List.append_nil _).symm) (List.Perm.of_eq (List.append_nil _)) rfl hl.1 rfl (Nat.le_of_ble_eq_true rfl) ⟨by show _ ≤ 13; omega, by show _ ≤ 104; omega⟩ (dg ddL_act 69 rfl) (fun H locs hP hD hS => ?_)
    cases hf
    refine W.widen (k := 13) (n := 104) (by omega) (by omega) ?_
    exact e_wi CX hr hlk rfl hP hD hS (dg ddL_act 70 rfl)
  have hf := it_f h26 hf
  by_cases h30 : (a2 &&& 15) = 6
  · have hf := it_t h30 hf
    refine lv_tableIn (off := 124) (tgt := 149) hx hb (dg ddL_act 21 rfl) (by rw [h30]; decide) (by rw [h30]; decide) (by rw [h30]; rfl) (by decide) ?_
    refine lv_aload_n hx hb (dg ddL_act 62 rfl) rfl (lv_at hl 3 rfl) ?_
    refine lv_iload hx hb (dg ddL_act 63 rfl) (lv_at hl 0 rfl) ?_
    refine lv_iload_n hx hb (dg ddL_act 64 rfl) rfl (lv_at hl 2 rfl) ?_
    refine lv_iconst (v := 2) hx hb (dg ddL_act 65 rfl) (by decide) ?_
    refine lv_ishr hx hb (dg ddL_act 66 rfl) ?_
    refine lv_bipush (v := 102) hx hb (dg ddL_act 67 rfl) (by decide) ?_
    obtain ⟨h31, hf⟩ := og_some hf
    refine lv_irem hx hb (dg ddL_act 68 rfl) (nz_in h31) ?_
    obtain ⟨r33, e32, hf⟩ := ob_some hf
    refine crl_i CX hml (As := [.ref (q 0 0), .int ((((a2 >>> ((4 : Int32) &&& 31)) &&& 65535) >>> ((5 : Int32) &&& 31)) - (((a2 >>> ((4 : Int32) &&& 31)) &&& 65535) >>> ((5 : Int32) &&& 31)) / 9 * 9), .int ((((a2 >>> ((4 : Int32) &&& 31)) &&& 65535) >>> ((2 : Int32) &&& 31)) - (((a2 >>> ((4 : Int32) &&& 31)) &&& 65535) >>> ((2 : Int32) &&& 31)) / 102 * 102)]) (rest := []) (ws := (wX4 q cy x_isv x_te x_re x_de x_now x_spa x_sna x_len x_sig x_nxt x_cnt x_rng)) (wsn := (wX4 q cy x_isv x_te r33.2.1 r33.2.2.1 r33.2.2.2.1 x_spa x_sna x_len x_sig r33.2.2.2.2.1 r33.2.2.2.2.2.1 r33.2.2.2.2.2.2)) (wr := []) (c_L_draw l D cy q x_isv x_te x_re x_de x_now x_spa x_sna x_len x_sig x_nxt x_cnt x_rng ((((a2 >>> ((4 : Int32) &&& 31)) &&& 65535) >>> ((5 : Int32) &&& 31)) - (((a2 >>> ((4 : Int32) &&& 31)) &&& 65535) >>> ((5 : Int32) &&& 31)) / 9 * 9) ((((a2 >>> ((4 : Int32) &&& 31)) &&& 65535) >>> ((2 : Int32) &&& 31)) - (((a2 >>> ((4 : Int32) &&& 31)) &&& 65535) >>> ((2 : Int32) &&& 31)) / 102 * 102) _ hst e32) lk_RL_121 rfl rfl hRML_draw hP hD hS hA hK hN hX hC (List.Perm.of_eq (List.append_nil _).symm) (List.Perm.of_eq (List.append_nil _)) rfl hl.1 rfl (Nat.le_of_ble_eq_true rfl) ⟨by show _ ≤ 13; omega, by show _ ≤ 104; omega⟩ (dg ddL_act 69 rfl) (fun H locs hP hD hS => ?_)
    cases hf
    refine W.widen (k := 13) (n := 104) (by omega) (by omega) ?_
    exact e_wi CX hr hlk rfl hP hD hS (dg ddL_act 70 rfl)
  have hf := it_f h30 hf
  by_cases h34 : (a2 &&& 15) = 7
  · have hf := it_t h34 hf
    refine lv_tableIn (off := 137) (tgt := 162) hx hb (dg ddL_act 21 rfl) (by rw [h34]; decide) (by rw [h34]; decide) (by rw [h34]; rfl) (by decide) ?_
    refine lv_iload_n hx hb (dg ddL_act 71 rfl) rfl (lv_at hl 2 rfl) ?_
    refine lv_iconst (v := 1) hx hb (dg ddL_act 72 rfl) (by decide) ?_
    refine lv_iand hx hb (dg ddL_act 73 rfl) ?_
    refine lv_if_ne (tgt := 177) hx hb (dg ddL_act 74 rfl) (by decide) (fun h35 => ?_) (fun h35 => ?_)
    · have hf := it_f h35 hf
      refine lv_aload_n hx hb (dg ddL_act 79 rfl) rfl (lv_at hl 3 rfl) ?_
      refine lv_iload hx hb (dg ddL_act 80 rfl) (lv_at hl 0 rfl) ?_
      refine lv_iload_n hx hb (dg ddL_act 81 rfl) rfl (lv_at hl 2 rfl) ?_
      refine lv_iconst (v := 2) hx hb (dg ddL_act 82 rfl) (by decide) ?_
      refine lv_ishr hx hb (dg ddL_act 83 rfl) ?_
      refine lv_bipush (v := 8) hx hb (dg ddL_act 84 rfl) (by decide) ?_
      obtain ⟨h36, hf⟩ := og_some hf
      refine lv_irem hx hb (dg ddL_act 85 rfl) (nz_in h36) ?_
      obtain ⟨r38, e37, hf⟩ := ob_some hf
      refine crl_i CX hml (As := [.ref (q 0 0), .int ((((a2 >>> ((4 : Int32) &&& 31)) &&& 65535) >>> ((5 : Int32) &&& 31)) - (((a2 >>> ((4 : Int32) &&& 31)) &&& 65535) >>> ((5 : Int32) &&& 31)) / 9 * 9), .int ((((a2 >>> ((4 : Int32) &&& 31)) &&& 65535) >>> ((2 : Int32) &&& 31)) - (((a2 >>> ((4 : Int32) &&& 31)) &&& 65535) >>> ((2 : Int32) &&& 31)) / 8 * 8)]) (rest := []) (ws := (wX4 q cy x_isv x_te x_re x_de x_now x_spa x_sna x_len x_sig x_nxt x_cnt x_rng)) (wsn := (wX4 q cy x_isv x_te r38.2.1 r38.2.2.1 r38.2.2.2.1 x_spa x_sna x_len x_sig r38.2.2.2.2.1 r38.2.2.2.2.2.1 r38.2.2.2.2.2.2)) (wr := []) (c_L_swap l D cy q x_isv x_te x_re x_de x_now x_spa x_sna x_len x_sig x_nxt x_cnt x_rng ((((a2 >>> ((4 : Int32) &&& 31)) &&& 65535) >>> ((5 : Int32) &&& 31)) - (((a2 >>> ((4 : Int32) &&& 31)) &&& 65535) >>> ((5 : Int32) &&& 31)) / 9 * 9) ((((a2 >>> ((4 : Int32) &&& 31)) &&& 65535) >>> ((2 : Int32) &&& 31)) - (((a2 >>> ((4 : Int32) &&& 31)) &&& 65535) >>> ((2 : Int32) &&& 31)) / 8 * 8) _ hst e37) lk_RL_125 rfl rfl hRML_swap hP hD hS hA hK hN hX hC (List.Perm.of_eq (List.append_nil _).symm) (List.Perm.of_eq (List.append_nil _)) rfl hl.1 rfl (Nat.le_of_ble_eq_true rfl) ⟨by show _ ≤ 13; omega, by show _ ≤ 104; omega⟩ (dg ddL_act 86 rfl) (fun H locs hP hD hS => ?_)
      cases hf
      refine W.widen (k := 13) (n := 104) (by omega) (by omega) ?_
      exact e_wi CX hr hlk rfl hP hD hS (dg ddL_act 87 rfl)
    · have hf := it_t h35 hf
      refine lv_aload_n hx hb (dg ddL_act 75 rfl) rfl (lv_at hl 3 rfl) ?_
      refine lv_iload hx hb (dg ddL_act 76 rfl) (lv_at hl 0 rfl) ?_
      obtain ⟨r40, e39, hf⟩ := ob_some hf
      refine crl_i CX hml (As := [.ref (q 0 0), .int ((((a2 >>> ((4 : Int32) &&& 31)) &&& 65535) >>> ((5 : Int32) &&& 31)) - (((a2 >>> ((4 : Int32) &&& 31)) &&& 65535) >>> ((5 : Int32) &&& 31)) / 9 * 9)]) (rest := []) (ws := (wX4 q cy x_isv x_te x_re x_de x_now x_spa x_sna x_len x_sig x_nxt x_cnt x_rng)) (wsn := (wX4 q cy x_isv x_te r40.2.1 r40.2.2.1 r40.2.2.2.1 x_spa x_sna x_len x_sig r40.2.2.2.2.1 r40.2.2.2.2.2.1 r40.2.2.2.2.2.2)) (wr := []) (c_L_leave l D cy q x_isv x_te x_re x_de x_now x_spa x_sna x_len x_sig x_nxt x_cnt x_rng ((((a2 >>> ((4 : Int32) &&& 31)) &&& 65535) >>> ((5 : Int32) &&& 31)) - (((a2 >>> ((4 : Int32) &&& 31)) &&& 65535) >>> ((5 : Int32) &&& 31)) / 9 * 9) _ hst e39) lk_RL_123 rfl rfl hRML_leave hP hD hS hA hK hN hX hC (List.Perm.of_eq (List.append_nil _).symm) (List.Perm.of_eq (List.append_nil _)) rfl hl.1 rfl (Nat.le_of_ble_eq_true rfl) ⟨by show _ ≤ 13; omega, by show _ ≤ 104; omega⟩ (dg ddL_act 77 rfl) (fun H locs hP hD hS => ?_)
      refine lv_goto (tgt := 189) hx hb (dg ddL_act 78 rfl) (by decide) ?_
      cases hf
      refine W.widen (k := 13) (n := 104) (by omega) (by omega) ?_
      exact e_wi CX hr hlk rfl hP hD hS (dg ddL_act 87 rfl)
  have hf := it_f h34 hf
  by_cases h41 : (a2 &&& 15) = 8
  · have hf := it_t h41 hf
    refine lv_tableIn (off := 165) (tgt := 190) hx hb (dg ddL_act 21 rfl) (by rw [h41]; decide) (by rw [h41]; decide) (by rw [h41]; rfl) (by decide) ?_
    refine lv_aload_n hx hb (dg ddL_act 88 rfl) rfl (lv_at hl 3 rfl) ?_
    refine lv_iload_n hx hb (dg ddL_act 89 rfl) rfl (lv_at hl 1 rfl) ?_
    obtain ⟨r43, e42, hf⟩ := ob_some hf
    refine crl_i CX hml (As := [.ref (q 0 0), .int ((((a2 >>> ((4 : Int32) &&& 31)) &&& 65535) >>> ((2 : Int32) &&& 31)) - (((a2 >>> ((4 : Int32) &&& 31)) &&& 65535) >>> ((2 : Int32) &&& 31)) / 5 * 5)]) (rest := []) (ws := (wX4 q cy x_isv x_te x_re x_de x_now x_spa x_sna x_len x_sig x_nxt x_cnt x_rng)) (wsn := (wX4 q cy x_isv x_te r43.2.1 r43.2.2.1 r43.2.2.2.1 x_spa x_sna x_len x_sig r43.2.2.2.2.1 r43.2.2.2.2.2.1 r43.2.2.2.2.2.2)) (wr := []) (c_L_strings l D cy q x_isv x_te x_re x_de x_now x_spa x_sna x_len x_sig x_nxt x_cnt x_rng ((((a2 >>> ((4 : Int32) &&& 31)) &&& 65535) >>> ((2 : Int32) &&& 31)) - (((a2 >>> ((4 : Int32) &&& 31)) &&& 65535) >>> ((2 : Int32) &&& 31)) / 5 * 5) _ hst e42) lk_RL_127 rfl rfl hRML_strings hP hD hS hA hK hN hX hC (List.Perm.of_eq (List.append_nil _).symm) (List.Perm.of_eq (List.append_nil _)) rfl hl.1 rfl (Nat.le_of_ble_eq_true rfl) ⟨by show _ ≤ 13; omega, by show _ ≤ 104; omega⟩ (dg ddL_act 90 rfl) (fun H locs hP hD hS => ?_)
    cases hf
    refine W.widen (k := 13) (n := 104) (by omega) (by omega) ?_
    exact e_wi CX hr hlk rfl hP hD hS (dg ddL_act 91 rfl)
  have hf := it_f h41 hf
  by_cases h44 : (a2 &&& 15) = 9
  · have hf := it_t h44 hf
    refine lv_tableIn (off := 171) (tgt := 196) hx hb (dg ddL_act 21 rfl) (by rw [h44]; decide) (by rw [h44]; decide) (by rw [h44]; rfl) (by decide) ?_
    refine lv_aload_n hx hb (dg ddL_act 92 rfl) rfl (lv_at hl 3 rfl) ?_
    refine lv_iload hx hb (dg ddL_act 93 rfl) (lv_at hl 0 rfl) ?_
    obtain ⟨r46, e45, hf⟩ := ob_some hf
    refine crl_i CX hml (As := [.ref (q 0 0), .int ((((a2 >>> ((4 : Int32) &&& 31)) &&& 65535) >>> ((5 : Int32) &&& 31)) - (((a2 >>> ((4 : Int32) &&& 31)) &&& 65535) >>> ((5 : Int32) &&& 31)) / 9 * 9)]) (rest := []) (ws := (wX4 q cy x_isv x_te x_re x_de x_now x_spa x_sna x_len x_sig x_nxt x_cnt x_rng)) (wsn := (wX4 q cy x_isv x_te r46.2.1 r46.2.2.1 r46.2.2.2.1 x_spa x_sna x_len x_sig r46.2.2.2.2.1 r46.2.2.2.2.2.1 r46.2.2.2.2.2.2)) (wr := []) (c_L_answer l D cy q x_isv x_te x_re x_de x_now x_spa x_sna x_len x_sig x_nxt x_cnt x_rng ((((a2 >>> ((4 : Int32) &&& 31)) &&& 65535) >>> ((5 : Int32) &&& 31)) - (((a2 >>> ((4 : Int32) &&& 31)) &&& 65535) >>> ((5 : Int32) &&& 31)) / 9 * 9) _ hst e45) lk_RL_129 rfl rfl hRML_answer hP hD hS hA hK hN hX hC (List.Perm.of_eq (List.append_nil _).symm) (List.Perm.of_eq (List.append_nil _)) rfl hl.1 rfl (Nat.le_of_ble_eq_true rfl) ⟨by show _ ≤ 13; omega, by show _ ≤ 104; omega⟩ (dg ddL_act 94 rfl) (fun H locs hP hD hS => ?_)
    cases hf
    refine W.widen (k := 13) (n := 104) (by omega) (by omega) ?_
    exact e_wi CX hr hlk rfl hP hD hS (dg ddL_act 95 rfl)
  have hf := it_f h44 hf
  by_cases h47 : (a2 &&& 15) = 10
  · have hf := it_t h47 hf
    refine lv_tableIn (off := 178) (tgt := 203) hx hb (dg ddL_act 21 rfl) (by rw [h47]; decide) (by rw [h47]; decide) (by rw [h47]; rfl) (by decide) ?_
    refine lv_iload_n hx hb (dg ddL_act 96 rfl) rfl (lv_at hl 2 rfl) ?_
    refine lv_iconst (v := 1) hx hb (dg ddL_act 97 rfl) (by decide) ?_
    refine lv_iand hx hb (dg ddL_act 98 rfl) ?_
    refine lv_if_ne (tgt := 223) hx hb (dg ddL_act 99 rfl) (by decide) (fun h48 => ?_) (fun h48 => ?_)
    · have hf := it_f h48 hf
      refine lv_aload_n hx hb (dg ddL_act 109 rfl) rfl (lv_at hl 3 rfl) ?_
      refine lv_iload_n hx hb (dg ddL_act 110 rfl) rfl (lv_at hl 1 rfl) ?_
      obtain ⟨r50, e49, hf⟩ := ob_some hf
      refine crl_i CX hml (As := [.ref (q 0 0), .int ((((a2 >>> ((4 : Int32) &&& 31)) &&& 65535) >>> ((2 : Int32) &&& 31)) - (((a2 >>> ((4 : Int32) &&& 31)) &&& 65535) >>> ((2 : Int32) &&& 31)) / 5 * 5)]) (rest := []) (ws := (wX4 q cy x_isv x_te x_re x_de x_now x_spa x_sna x_len x_sig x_nxt x_cnt x_rng)) (wsn := (wX4 q cy x_isv x_te r50.2.1 r50.2.2.1 r50.2.2.2.1 x_spa x_sna x_len x_sig r50.2.2.2.2.1 r50.2.2.2.2.2.1 r50.2.2.2.2.2.2)) (wr := []) (c_L_unrack l D cy q x_isv x_te x_re x_de x_now x_spa x_sna x_len x_sig x_nxt x_cnt x_rng ((((a2 >>> ((4 : Int32) &&& 31)) &&& 65535) >>> ((2 : Int32) &&& 31)) - (((a2 >>> ((4 : Int32) &&& 31)) &&& 65535) >>> ((2 : Int32) &&& 31)) / 5 * 5) _ hst e49) lk_RL_133 rfl rfl hRML_unrack hP hD hS hA hK hN hX hC (List.Perm.of_eq (List.append_nil _).symm) (List.Perm.of_eq (List.append_nil _)) rfl hl.1 rfl (Nat.le_of_ble_eq_true rfl) ⟨by show _ ≤ 13; omega, by show _ ≤ 104; omega⟩ (dg ddL_act 111 rfl) (fun H locs hP hD hS => ?_)
      cases hf
      refine W.widen (k := 13) (n := 104) (by omega) (by omega) ?_
      exact e_wi CX hr hlk rfl hP hD hS (dg ddL_act 112 rfl)
    · have hf := it_t h48 hf
      refine lv_aload_n hx hb (dg ddL_act 100 rfl) rfl (lv_at hl 3 rfl) ?_
      refine lv_iload_n hx hb (dg ddL_act 101 rfl) rfl (lv_at hl 1 rfl) ?_
      refine lv_iload_n hx hb (dg ddL_act 102 rfl) rfl (lv_at hl 2 rfl) ?_
      refine lv_bipush (v := 6) hx hb (dg ddL_act 103 rfl) (by decide) ?_
      refine lv_ishr hx hb (dg ddL_act 104 rfl) ?_
      refine lv_iconst (v := 3) hx hb (dg ddL_act 105 rfl) (by decide) ?_
      obtain ⟨h51, hf⟩ := og_some hf
      refine lv_irem hx hb (dg ddL_act 106 rfl) (nz_in h51) ?_
      obtain ⟨r53, e52, hf⟩ := ob_some hf
      refine crl_i CX hml (As := [.ref (q 0 0), .int ((((a2 >>> ((4 : Int32) &&& 31)) &&& 65535) >>> ((2 : Int32) &&& 31)) - (((a2 >>> ((4 : Int32) &&& 31)) &&& 65535) >>> ((2 : Int32) &&& 31)) / 5 * 5), .int ((((a2 >>> ((4 : Int32) &&& 31)) &&& 65535) >>> ((6 : Int32) &&& 31)) - (((a2 >>> ((4 : Int32) &&& 31)) &&& 65535) >>> ((6 : Int32) &&& 31)) / 3 * 3)]) (rest := []) (ws := (wX4 q cy x_isv x_te x_re x_de x_now x_spa x_sna x_len x_sig x_nxt x_cnt x_rng)) (wsn := (wX4 q cy x_isv x_te r53.2.1 r53.2.2.1 r53.2.2.2.1 x_spa x_sna x_len x_sig r53.2.2.2.2.1 r53.2.2.2.2.2.1 r53.2.2.2.2.2.2)) (wr := []) (c_L_rack l D cy q x_isv x_te x_re x_de x_now x_spa x_sna x_len x_sig x_nxt x_cnt x_rng ((((a2 >>> ((4 : Int32) &&& 31)) &&& 65535) >>> ((2 : Int32) &&& 31)) - (((a2 >>> ((4 : Int32) &&& 31)) &&& 65535) >>> ((2 : Int32) &&& 31)) / 5 * 5) ((((a2 >>> ((4 : Int32) &&& 31)) &&& 65535) >>> ((6 : Int32) &&& 31)) - (((a2 >>> ((4 : Int32) &&& 31)) &&& 65535) >>> ((6 : Int32) &&& 31)) / 3 * 3) _ hst e52) lk_RL_131 rfl rfl hRML_rack hP hD hS hA hK hN hX hC (List.Perm.of_eq (List.append_nil _).symm) (List.Perm.of_eq (List.append_nil _)) rfl hl.1 rfl (Nat.le_of_ble_eq_true rfl) ⟨by show _ ≤ 13; omega, by show _ ≤ 104; omega⟩ (dg ddL_act 107 rfl) (fun H locs hP hD hS => ?_)
      refine lv_goto (tgt := 228) hx hb (dg ddL_act 108 rfl) (by decide) ?_
      cases hf
      refine W.widen (k := 13) (n := 104) (by omega) (by omega) ?_
      exact e_wi CX hr hlk rfl hP hD hS (dg ddL_act 112 rfl)
  have hf := it_f h47 hf
  by_cases h54 : (a2 &&& 15) = 11
  · have hf := it_t h54 hf
    refine lv_tableIn (off := 204) (tgt := 229) hx hb (dg ddL_act 21 rfl) (by rw [h54]; decide) (by rw [h54]; decide) (by rw [h54]; rfl) (by decide) ?_
    refine lv_aload_n hx hb (dg ddL_act 113 rfl) rfl (lv_at hl 3 rfl) ?_
    refine va_gets hx hb hT.1 hS CX.2.2.2 (CX.2.2.1 (.fieldLink RL 135 "BuskPitchesLaw" "TEXTS" "[Ljava/lang/String;") (lw_at 781 (by decide +kernel))) (fun _ h9 => h9) (dg ddL_act 114 rfl) ?_
    refine lv_iload_n hx hb (dg ddL_act 115 rfl) rfl (lv_at hl 2 rfl) ?_
    refine va_gets hx hb hT.1 hS CX.2.2.2 (CX.2.2.1 (.fieldLink RL 135 "BuskPitchesLaw" "TEXTS" "[Ljava/lang/String;") (lw_at 781 (by decide +kernel))) (fun _ h9 => h9) (dg ddL_act 116 rfl) ?_
    refine va_tlen hx hb hT.2.1 hS (v := 18) (by decide) (dg ddL_act 117 rfl) ?_
    obtain ⟨h55, hf⟩ := og_some hf
    refine lv_irem hx hb (dg ddL_act 118 rfl) (nz_in h55) ?_
    obtain ⟨h56, hf⟩ := og_some hf
    refine vb_tq hx hb hT.2.1 hS (inb_in h56) (v := .ref (tK (((a2 >>> ((4 : Int32) &&& 31)) &&& 65535) - ((a2 >>> ((4 : Int32) &&& 31)) &&& 65535) / 18 * 18).toNatClampNeg)) rfl (dg ddL_act 119 rfl) ?_
    obtain ⟨r58, e57, hf⟩ := ob_some hf
    refine crt_r CX hml (As := [.ref (q 0 0), .ref (tK (((a2 >>> ((4 : Int32) &&& 31)) &&& 65535) - ((a2 >>> ((4 : Int32) &&& 31)) &&& 65535) / 18 * 18).toNatClampNeg)]) (rest := []) (ws := (wX4 q cy x_isv x_te x_re x_de x_now x_spa x_sna x_len x_sig x_nxt x_cnt x_rng)) (wsn := (wX4 q cy x_isv x_te x_re x_de x_now x_spa x_sna r58.1 r58.2 x_nxt x_cnt x_rng)) (wr := []) (c_L_write l D cy q tK tV ta x_isv x_te x_re x_de x_now x_spa x_sna x_len x_sig x_nxt x_cnt x_rng ((((a2 >>> ((4 : Int32) &&& 31)) &&& 65535) - ((a2 >>> ((4 : Int32) &&& 31)) &&& 65535) / 18 * 18).toNatClampNeg) _ hst e57) lk_RL_139 rfl rfl hRML_write hP hD hS hA hK hN hX hC hT (List.Perm.of_eq (List.append_nil _).symm) (List.Perm.of_eq (List.append_nil _)) rfl hl.1 rfl (Nat.le_of_ble_eq_true rfl) ⟨by show _ ≤ 13; omega, by show _ ≤ 104; omega⟩ (dg ddL_act 120 rfl) (fun H locs hP hD hS => ?_)
    obtain ⟨r60, e59, hf⟩ := ob_some hf
    refine crl_i CX hml (As := [.ref (q 0 0)]) (rest := []) (ws := (wX4 q cy x_isv x_te x_re x_de x_now x_spa x_sna r58.1 r58.2 x_nxt x_cnt x_rng)) (wsn := (wX4 q cy x_isv r60.2.1 r60.2.2.1 r60.2.2.2.1 r60.2.2.2.2.1 r60.2.2.2.2.2.1 x_sna r60.2.2.2.2.2.2.1 r58.2 r60.2.2.2.2.2.2.2.1 r60.2.2.2.2.2.2.2.2.1 r60.2.2.2.2.2.2.2.2.2)) (wr := []) (c_L_read l D cy q x_isv x_te x_re x_de x_now x_spa x_sna r58.1 r58.2 x_nxt x_cnt x_rng _ hst e59) lk_RL_143 rfl rfl hRML_read hP hD hS hA hK hN hX hC (List.Perm.of_eq (List.append_nil _).symm) (List.Perm.of_eq (List.append_nil _)) rfl hl.1 rfl (Nat.le_of_ble_eq_true rfl) ⟨by show _ ≤ 13; omega, by show _ ≤ 104; omega⟩ (dg ddL_act 121 rfl) (fun H locs hP hD hS => ?_)
    cases hf
    refine W.widen (k := 13) (n := 104) (by omega) (by omega) ?_
    exact e_wi CX hr hlk rfl hP hD hS (dg ddL_act 122 rfl)
  have hf := it_f h54 hf
  by_cases h61 : (a2 &&& 15) = 12
  · have hf := it_t h61 hf
    refine lv_tableIn (off := 222) (tgt := 247) hx hb (dg ddL_act 21 rfl) (by rw [h61]; decide) (by rw [h61]; decide) (by rw [h61]; rfl) (by decide) ?_
    refine lv_iload_n hx hb (dg ddL_act 123 rfl) rfl (lv_at hl 2 rfl) ?_
    refine lv_iconst (v := 3) hx hb (dg ddL_act 124 rfl) (by decide) ?_
    refine lv_iand hx hb (dg ddL_act 125 rfl) ?_
    refine lv_if_ne (tgt := 260) hx hb (dg ddL_act 126 rfl) (by decide) (fun h62 => ?_) (fun h62 => ?_)
    · have hf := it_f h62 hf
      refine lv_iload_n hx hb (dg ddL_act 130 rfl) rfl (lv_at hl 2 rfl) ?_
      refine lv_iconst (v := 3) hx hb (dg ddL_act 131 rfl) (by decide) ?_
      refine lv_iand hx hb (dg ddL_act 132 rfl) ?_
      refine lv_iconst (v := 1) hx hb (dg ddL_act 133 rfl) (by decide) ?_
      refine lv_icmp_ne (tgt := 274) hx hb (dg ddL_act 134 rfl) (by decide) (fun h63 => ?_) (fun h63 => ?_)
      · have hf := it_f h63 hf
        refine lv_aload_n hx hb (dg ddL_act 138 rfl) rfl (lv_at hl 3 rfl) ?_
        obtain ⟨r65, e64, hf⟩ := ob_some hf
        refine crl_i CX hml (As := [.ref (q 0 0)]) (rest := []) (ws := (wX4 q cy x_isv x_te x_re x_de x_now x_spa x_sna x_len x_sig x_nxt x_cnt x_rng)) (wsn := (wX4 q cy x_isv x_te x_re x_de r65.2.1 x_spa x_sna x_len x_sig r65.2.2.1 r65.2.2.2 x_rng)) (wr := []) (c_L_undo l D cy q x_isv x_te x_re x_de x_now x_spa x_sna x_len x_sig x_nxt x_cnt x_rng _ hst e64) lk_RL_151 rfl rfl hRML_undo hP hD hS hA hK hN hX hC (List.Perm.of_eq (List.append_nil _).symm) (List.Perm.of_eq (List.append_nil _)) rfl hl.1 rfl (Nat.le_of_ble_eq_true rfl) ⟨by show _ ≤ 13; omega, by show _ ≤ 104; omega⟩ (dg ddL_act 139 rfl) (fun H locs hP hD hS => ?_)
        cases hf
        refine W.widen (k := 13) (n := 104) (by omega) (by omega) ?_
        exact e_wi CX hr hlk rfl hP hD hS (dg ddL_act 140 rfl)
      · have hf := it_t h63 hf
        refine lv_aload_n hx hb (dg ddL_act 135 rfl) rfl (lv_at hl 3 rfl) ?_
        obtain ⟨r67, e66, hf⟩ := ob_some hf
        refine crl_i CX hml (As := [.ref (q 0 0)]) (rest := []) (ws := (wX4 q cy x_isv x_te x_re x_de x_now x_spa x_sna x_len x_sig x_nxt x_cnt x_rng)) (wsn := (wX4 q cy x_isv x_te x_re x_de r67.2.1 x_spa x_sna x_len x_sig x_nxt r67.2.2 x_rng)) (wr := []) (c_L_restore l D cy q x_isv x_te x_re x_de x_now x_spa x_sna x_len x_sig x_nxt x_cnt x_rng _ hst e66) lk_RL_149 rfl rfl hRML_restore hP hD hS hA hK hN hX hC (List.Perm.of_eq (List.append_nil _).symm) (List.Perm.of_eq (List.append_nil _)) rfl hl.1 rfl (Nat.le_of_ble_eq_true rfl) ⟨by show _ ≤ 13; omega, by show _ ≤ 104; omega⟩ (dg ddL_act 136 rfl) (fun H locs hP hD hS => ?_)
        refine lv_goto (tgt := 278) hx hb (dg ddL_act 137 rfl) (by decide) ?_
        cases hf
        refine W.widen (k := 13) (n := 104) (by omega) (by omega) ?_
        exact e_wi CX hr hlk rfl hP hD hS (dg ddL_act 140 rfl)
    · have hf := it_t h62 hf
      refine lv_aload_n hx hb (dg ddL_act 127 rfl) rfl (lv_at hl 3 rfl) ?_
      obtain ⟨r69, e68, hf⟩ := ob_some hf
      refine crf_vi CX hml (As := []) (rest := []) (ws := (wX4 q cy x_isv x_te x_re x_de x_now x_spa x_sna x_len x_sig x_nxt x_cnt x_rng)) (wsn := (wX4 q cy r69.2.1 x_te x_re x_de x_now x_spa r69.2.2 x_len x_sig x_nxt x_cnt x_rng)) (wr := []) (c_X4_save l D cy q x_isv x_te x_re x_de x_now x_spa x_sna x_len x_sig x_nxt x_cnt x_rng _ e68) lk_RL_146 rfl rfl hRMX4_save hP hD hS hA hK hN (List.Perm.of_eq (List.append_nil _).symm) (List.Perm.of_eq (List.append_nil _)) 0 rfl rfl rfl hl.1 rfl (Nat.le_of_ble_eq_true rfl) ⟨by show _ ≤ 13; omega, by show _ ≤ 104; omega⟩ (dg ddL_act 128 rfl) (fun H locs hP hD hS => ?_)
      refine lv_goto (tgt := 278) hx hb (dg ddL_act 129 rfl) (by decide) ?_
      cases hf
      refine W.widen (k := 13) (n := 104) (by omega) (by omega) ?_
      exact e_wi CX hr hlk rfl hP hD hS (dg ddL_act 140 rfl)
  have hf := it_f h61 hf
  refine lv_tabD (off := 254) (tgt := 279) hx hb (dg ddL_act 21 rfl) (by have g0 : ((a2 &&& 15)).toInt ≠ 0 := ne_ti h3 (by decide); have g1 : ((a2 &&& 15)).toInt ≠ 1 := ne_ti h12 (by decide); have g2 : ((a2 &&& 15)).toInt ≠ 2 := ne_ti h16 (by decide); have g3 : ((a2 &&& 15)).toInt ≠ 3 := ne_ti h19 (by decide); have g4 : ((a2 &&& 15)).toInt ≠ 4 := ne_ti h22 (by decide); have g5 : ((a2 &&& 15)).toInt ≠ 5 := ne_ti h26 (by decide); have g6 : ((a2 &&& 15)).toInt ≠ 6 := ne_ti h30 (by decide); have g7 : ((a2 &&& 15)).toInt ≠ 7 := ne_ti h34 (by decide); have g8 : ((a2 &&& 15)).toInt ≠ 8 := ne_ti h41 (by decide); have g9 : ((a2 &&& 15)).toInt ≠ 9 := ne_ti h44 (by decide); have g10 : ((a2 &&& 15)).toInt ≠ 10 := ne_ti h47 (by decide); have g11 : ((a2 &&& 15)).toInt ≠ 11 := ne_ti h54 (by decide); have g12 : ((a2 &&& 15)).toInt ≠ 12 := ne_ti h61 (by decide); exact Or.inl ⟨by omega, rfl⟩) (by decide) ?_
  refine lv_aload_n hx hb (dg ddL_act 141 rfl) rfl (lv_at hl 3 rfl) ?_
  refine lv_iload_n hx hb (dg ddL_act 142 rfl) rfl (lv_at hl 2 rfl) ?_
  refine lv_iconst (v := 3) hx hb (dg ddL_act 143 rfl) (by decide) ?_
  refine lv_iand hx hb (dg ddL_act 144 rfl) ?_
  refine lv_if_ne (tgt := 295) hx hb (dg ddL_act 145 rfl) (by decide) (fun h70 => ?_) (fun h70 => ?_)
  · have hf := it_f h70 hf
    refine lv_iload_n hx hb (dg ddL_act 152 rfl) rfl (lv_at hl 2 rfl) ?_
    refine lv_bipush (v := 7) hx hb (dg ddL_act 153 rfl) (by decide) ?_
    obtain ⟨h71, hf⟩ := og_some hf
    refine lv_irem hx hb (dg ddL_act 154 rfl) (nz_in h71) ?_
    obtain ⟨r73, e72, hf⟩ := ob_some hf
    refine crl_i CX hml (As := [.ref (q 0 0), .int (((a2 >>> ((4 : Int32) &&& 31)) &&& 65535) - ((a2 >>> ((4 : Int32) &&& 31)) &&& 65535) / 7 * 7)]) (rest := []) (ws := (wX4 q cy x_isv x_te x_re x_de x_now x_spa x_sna x_len x_sig x_nxt x_cnt x_rng)) (wsn := (wX4 q cy x_isv x_te x_re x_de r73.2.1 x_spa x_sna x_len x_sig r73.2.2.1 r73.2.2.2.1 r73.2.2.2.2)) (wr := []) (c_L_pass l D cy q x_isv x_te x_re x_de x_now x_spa x_sna x_len x_sig x_nxt x_cnt x_rng (((a2 >>> ((4 : Int32) &&& 31)) &&& 65535) - ((a2 >>> ((4 : Int32) &&& 31)) &&& 65535) / 7 * 7) _ hst e72) lk_RL_153 rfl rfl hRML_pass hP hD hS hA hK hN hX hC (List.Perm.of_eq (List.append_nil _).symm) (List.Perm.of_eq (List.append_nil _)) rfl hl.1 rfl (Nat.le_of_ble_eq_true rfl) ⟨by show _ ≤ 13; omega, by show _ ≤ 104; omega⟩ (dg ddL_act 155 rfl) (fun H locs hP hD hS => ?_)
    cases hf
    refine W.widen (k := 13) (n := 104) (by omega) (by omega) ?_
    exact e_wi CX hr hlk rfl hP hD hS (dg ddL_act 156 rfl)
  · have hf := it_t h70 hf
    refine lv_iload_n hx hb (dg ddL_act 146 rfl) rfl (lv_at hl 2 rfl) ?_
    refine lv_iconst (v := 2) hx hb (dg ddL_act 147 rfl) (by decide) ?_
    refine lv_ishr hx hb (dg ddL_act 148 rfl) ?_
    refine lv_bipush (v := 62) hx hb (dg ddL_act 149 rfl) (by decide) ?_
    obtain ⟨h74, hf⟩ := og_some hf
    refine lv_irem hx hb (dg ddL_act 150 rfl) (nz_in h74) ?_
    refine lv_goto (tgt := 299) hx hb (dg ddL_act 151 rfl) (by decide) ?_
    obtain ⟨r76, e75, hf⟩ := ob_some hf
    refine crl_i CX hml (As := [.ref (q 0 0), .int ((((a2 >>> ((4 : Int32) &&& 31)) &&& 65535) >>> ((2 : Int32) &&& 31)) - (((a2 >>> ((4 : Int32) &&& 31)) &&& 65535) >>> ((2 : Int32) &&& 31)) / 62 * 62)]) (rest := []) (ws := (wX4 q cy x_isv x_te x_re x_de x_now x_spa x_sna x_len x_sig x_nxt x_cnt x_rng)) (wsn := (wX4 q cy x_isv x_te x_re x_de r76.2.1 x_spa x_sna x_len x_sig r76.2.2.1 r76.2.2.2.1 r76.2.2.2.2)) (wr := []) (c_L_pass l D cy q x_isv x_te x_re x_de x_now x_spa x_sna x_len x_sig x_nxt x_cnt x_rng ((((a2 >>> ((4 : Int32) &&& 31)) &&& 65535) >>> ((2 : Int32) &&& 31)) - (((a2 >>> ((4 : Int32) &&& 31)) &&& 65535) >>> ((2 : Int32) &&& 31)) / 62 * 62) _ hst e75) lk_RL_153 rfl rfl hRML_pass hP hD hS hA hK hN hX hC (List.Perm.of_eq (List.append_nil _).symm) (List.Perm.of_eq (List.append_nil _)) rfl hl.1 rfl (Nat.le_of_ble_eq_true rfl) ⟨by show _ ≤ 13; omega, by show _ ≤ 104; omega⟩ (dg ddL_act 155 rfl) (fun H locs hP hD hS => ?_)
    cases hf
    refine W.widen (k := 13) (n := 104) (by omega) (by omega) ?_
    exact e_wi CX hr hlk rfl hP hD hS (dg ddL_act 156 rfl)
