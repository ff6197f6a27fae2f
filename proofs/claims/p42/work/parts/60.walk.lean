/-! by program: the walk of the law -/
set_option maxHeartbeats 8000000 in
set_option maxRecDepth 100000 in
theorem w_L_law {p : Program} {l : Launch} {e : Env} {s : State} {m : MethodId} {args : Array Value} {below : List Frame} {meth : Method} {c : Code} {Q : State → Prop} {D : va_G} {cy : Nat → ClassId} {q : Nat → Nat → Nat} {tK tV : Nat → Nat} {ta b L : Nat} {xs : Nat → Int32} {A : Nat → Prop} (CX : Cx p s m c args cL_law RL) (hml : c.maxLocals = 9) (hst : l.stackTraces = false) (hK : va_K D vwCl (tyA cy) s) (hN : nst s) (hA : ∀ q, s.heap.size ≤ q → A q) (hX : exF A s s.heap) (hC : ncF s) (hT : tXF tK tV ta A s s.heap) (hXs : va_X b L xs s s.heap) (hbl : b < s.heap.size) (hbA : ¬ A b) (kend : ∀ (pc : Nat) (x : Int32), x = 1 → ∀ (H : Heap) (locs : List Loc) (ls : Array Slot) (k ks : Nat), k ≤ 57000 → ks ≤ 457000 → va_S A s.heap H locs → decode cL_law pc = .ok (.ireturn, 1) → W p l e room_1 s m args below meth c H locs k ks Q (F0 m pc ls [.int x])) (x_isv : Int32) (x_te : Int32) (x_re : Int32) (x_de : Int32) (x_now : SV) (x_spa : SV) (x_sna : SV) (x_len : Int32) (x_sig : Nat → Int32) (x_nxt : Int32) (x_cnt : Int32) (x_rng : Nat → SV) (hf : f_L_law x_isv x_te x_re x_de x_now x_spa x_sna x_len x_sig x_nxt x_cnt x_rng L xs = some 1) (k ks : Nat) (hk : k + 56548 ≤ 57000) (hks : ks + 8 * 56548 ≤ 457000) (H : Heap) (locs : List Loc) (hP : va_P D vwCl (wX4 q cy x_isv x_te x_re x_de x_now x_spa x_sna x_len x_sig x_nxt x_cnt x_rng) H) (hD : va_D A (wX4 q cy x_isv x_te x_re x_de x_now x_spa x_sna x_len x_sig x_nxt x_cnt x_rng)) (hS : va_S A s.heap H locs) (ls : Array Slot) (hl : lv_has ls 9 [(0, .ref b), (1, .ref (q 0 0))]) : W p l e room_1 s m args below meth c H locs k ks Q (F0 m 8 ls []) := by
  have hx := CX.1
  have hb := CX.2.1
  obtain ⟨E275, hE275⟩ : ∃ z : Nat, z = 295 := ⟨_, rfl⟩
  obtain ⟨E357, hE357⟩ : ∃ z : Nat, z = 1 := ⟨_, rfl⟩
  obtain ⟨E356, hE356⟩ : ∃ z : Nat, z = 1 := ⟨_, rfl⟩
  obtain ⟨E373, hE373⟩ : ∃ z : Nat, z = 297 := ⟨_, rfl⟩
  obtain ⟨E300, hE300⟩ : ∃ z : Nat, z = 297 := ⟨_, rfl⟩
  obtain ⟨E218, hE218⟩ : ∃ z : Nat, z = 6039 := ⟨_, rfl⟩
  obtain ⟨E163, hE163⟩ : ∃ z : Nat, z = 28251 := ⟨_, rfl⟩
  obtain ⟨E136, hE136⟩ : ∃ z : Nat, z = 28252 := ⟨_, rfl⟩
  obtain ⟨E85, hE85⟩ : ∃ z : Nat, z = 29399 := ⟨_, rfl⟩
  obtain ⟨E10, hE10⟩ : ∃ z : Nat, z = 56538 := ⟨_, rfl⟩
  have hRML_act : (⟨9, 13, 104, 197⟩ : Room).frames + 1 ≤ (room_1 : Room).frames ∧ 8 + (5 + 11) + (⟨9, 13, 104, 197⟩ : Room).locals ≤ (room_1 : Room).locals := ⟨(Nat.le_of_ble_eq_true rfl), (Nat.le_of_ble_eq_true rfl)⟩
  have hRML_busker : (⟨8, 1, 6, 124⟩ : Room).frames + 1 ≤ (room_1 : Room).frames ∧ 8 + (5 + 11) + (⟨8, 1, 6, 124⟩ : Room).locals ≤ (room_1 : Room).locals := ⟨(Nat.le_of_ble_eq_true rfl), (Nat.le_of_ble_eq_true rfl)⟩
  have hRML_cell : (⟨1, 0, 0, 14⟩ : Room).frames + 1 ≤ (room_1 : Room).frames ∧ 8 + (2 + 11) + (⟨1, 0, 0, 14⟩ : Room).locals ≤ (room_1 : Room).locals := ⟨(Nat.le_of_ble_eq_true rfl), (Nat.le_of_ble_eq_true rfl)⟩
  have hRML_crowd : (⟨8, 1, 6, 124⟩ : Room).frames + 1 ≤ (room_1 : Room).frames ∧ 8 + (4 + 11) + (⟨8, 1, 6, 124⟩ : Room).locals ≤ (room_1 : Room).locals := ⟨(Nat.le_of_ble_eq_true rfl), (Nat.le_of_ble_eq_true rfl)⟩
  have hRML_digest : (⟨8, 295, 2360, 140⟩ : Room).frames + 1 ≤ (room_1 : Room).frames ∧ 8 + (5 + 11) + (⟨8, 295, 2360, 140⟩ : Room).locals ≤ (room_1 : Room).locals := ⟨(Nat.le_of_ble_eq_true rfl), (Nat.le_of_ble_eq_true rfl)⟩
  have hRML_draw : (⟨8, 1, 6, 124⟩ : Room).frames + 1 ≤ (room_1 : Room).frames ∧ 8 + (5 + 11) + (⟨8, 1, 6, 124⟩ : Room).locals ≤ (room_1 : Room).locals := ⟨(Nat.le_of_ble_eq_true rfl), (Nat.le_of_ble_eq_true rfl)⟩
  have hRML_isAhead : (⟨12, 1333, 10664, 233⟩ : Room).frames + 1 ≤ (room_1 : Room).frames ∧ 8 + (11 + 11) + (⟨12, 1333, 10664, 233⟩ : Room).locals ≤ (room_1 : Room).locals := ⟨(Nat.le_of_ble_eq_true rfl), (Nat.le_of_ble_eq_true rfl)⟩
  have hRML_isFit : (⟨11, 634, 5072, 213⟩ : Room).frames + 1 ≤ (room_1 : Room).frames ∧ 8 + (1 + 11) + (⟨11, 634, 5072, 213⟩ : Room).locals ≤ (room_1 : Room).locals := ⟨(Nat.le_of_ble_eq_true rfl), (Nat.le_of_ble_eq_true rfl)⟩
  have hRML_isQuietest : (⟨10, 56, 448, 191⟩ : Room).frames + 1 ≤ (room_1 : Room).frames ∧ 8 + (8 + 11) + (⟨10, 56, 448, 191⟩ : Room).locals ≤ (room_1 : Room).locals := ⟨(Nat.le_of_ble_eq_true rfl), (Nat.le_of_ble_eq_true rfl)⟩
  have hRML_join : (⟨8, 1, 6, 123⟩ : Room).frames + 1 ≤ (room_1 : Room).frames ∧ 8 + (4 + 11) + (⟨8, 1, 6, 123⟩ : Room).locals ≤ (room_1 : Room).locals := ⟨(Nat.le_of_ble_eq_true rfl), (Nat.le_of_ble_eq_true rfl)⟩
  have hRML_pass : (⟨8, 1, 6, 123⟩ : Room).frames + 1 ≤ (room_1 : Room).frames ∧ 8 + (4 + 11) + (⟨8, 1, 6, 123⟩ : Room).locals ≤ (room_1 : Room).locals := ⟨(Nat.le_of_ble_eq_true rfl), (Nat.le_of_ble_eq_true rfl)⟩
  have hRML_rack : (⟨8, 1, 6, 124⟩ : Room).frames + 1 ≤ (room_1 : Room).frames ∧ 8 + (5 + 11) + (⟨8, 1, 6, 124⟩ : Room).locals ≤ (room_1 : Room).locals := ⟨(Nat.le_of_ble_eq_true rfl), (Nat.le_of_ble_eq_true rfl)⟩
  have hRML_read : (⟨8, 1, 6, 175⟩ : Room).frames + 1 ≤ (room_1 : Room).frames ∧ 8 + (3 + 11) + (⟨8, 1, 6, 175⟩ : Room).locals ≤ (room_1 : Room).locals := ⟨(Nat.le_of_ble_eq_true rfl), (Nat.le_of_ble_eq_true rfl)⟩
  have hRML_restore : (⟨7, 1, 6, 102⟩ : Room).frames + 1 ≤ (room_1 : Room).frames ∧ 8 + (3 + 11) + (⟨7, 1, 6, 102⟩ : Room).locals ≤ (room_1 : Room).locals := ⟨(Nat.le_of_ble_eq_true rfl), (Nat.le_of_ble_eq_true rfl)⟩
  have hRML_strings : (⟨8, 1, 6, 123⟩ : Room).frames + 1 ≤ (room_1 : Room).frames ∧ 8 + (4 + 11) + (⟨8, 1, 6, 123⟩ : Room).locals ≤ (room_1 : Room).locals := ⟨(Nat.le_of_ble_eq_true rfl), (Nat.le_of_ble_eq_true rfl)⟩
  have hRML_undo : (⟨7, 1, 6, 103⟩ : Room).frames + 1 ≤ (room_1 : Room).frames ∧ 8 + (3 + 11) + (⟨7, 1, 6, 103⟩ : Room).locals ≤ (room_1 : Room).locals := ⟨(Nat.le_of_ble_eq_true rfl), (Nat.le_of_ble_eq_true rfl)⟩
  have hRML_write : (⟨8, 12, 96, 161⟩ : Room).frames + 1 ≤ (room_1 : Room).frames ∧ 8 + (3 + 11) + (⟨8, 12, 96, 161⟩ : Room).locals ≤ (room_1 : Room).locals := ⟨(Nat.le_of_ble_eq_true rfl), (Nat.le_of_ble_eq_true rfl)⟩
  have hRMX4_account : (⟨6, 1, 6, 82⟩ : Room).frames + 1 ≤ (room_1 : Room).frames ∧ 8 + (2 + 11) + (⟨6, 1, 6, 82⟩ : Room).locals ≤ (room_1 : Room).locals := ⟨(Nat.le_of_ble_eq_true rfl), (Nat.le_of_ble_eq_true rfl)⟩
  have hRMX4_errorPosition : (⟨1, 0, 0, 12⟩ : Room).frames + 1 ≤ (room_1 : Room).frames ∧ 8 + (1 + 11) + (⟨1, 0, 0, 12⟩ : Room).locals ≤ (room_1 : Room).locals := ⟨(Nat.le_of_ble_eq_true rfl), (Nat.le_of_ble_eq_true rfl)⟩
  have hRMX4_save : (⟨2, 0, 0, 61⟩ : Room).frames + 1 ≤ (room_1 : Room).frames ∧ 8 + (1 + 11) + (⟨2, 0, 0, 61⟩ : Room).locals ≤ (room_1 : Room).locals := ⟨(Nat.le_of_ble_eq_true rfl), (Nat.le_of_ble_eq_true rfl)⟩
  have K275 : ∀ (N218 : Nat) (rec218 : Int32 → Int64 → Int32 → Int32 → Int32 → Int32 → Int32 → Int32 → SV → SV → SV → Int32 → (Nat → Int32) → Int32 → Int32 → (Nat → SV) → Option (Int32)) (hrec218 : ∀ (x3 : Int32) (x4 : Int64) (x6 : Int32) (x7 : Int32) (x_isv : Int32) (x_te : Int32) (x_re : Int32) (x_de : Int32) (x_now : SV) (x_spa : SV) (x_sna : SV) (x_len : Int32) (x_sig : Nat → Int32) (x_nxt : Int32) (x_cnt : Int32) (x_rng : Nat → SV) (k ks : Nat) (hk : k + N218 ≤ 57000) (hks : ks + 8 * N218 ≤ 457000) (H : Heap) (locs : List Loc) (hP : va_P D vwCl (wX4 q cy x_isv x_te x_re x_de x_now x_spa x_sna x_len x_sig x_nxt x_cnt x_rng) H) (hD : va_D A (wX4 q cy x_isv x_te x_re x_de x_now x_spa x_sna x_len x_sig x_nxt x_cnt x_rng)) (hS : va_S A s.heap H locs) (ls : Array Slot) (hl : lv_has ls 9 [(1, .ref (q 0 0)), (3, .int x3), (4, .long x4), (6, .int x6), (7, .int x7)]) (hf : rec218 x3 x4 x6 x7 x_isv x_te x_re x_de x_now x_spa x_sna x_len x_sig x_nxt x_cnt x_rng = some (1 : Int32)), W p l e room_1 s m args below meth c H locs k ks Q (F0 m 218 ls [])), ∀ (x4 : Int64) (x6 : Int32) (x7 : Int32) (x_isv : Int32) (x_te : Int32) (x_re : Int32) (x_de : Int32) (x_now : SV) (x_spa : SV) (x_sna : SV) (x_len : Int32) (x_sig : Nat → Int32) (x_nxt : Int32) (x_cnt : Int32) (x_rng : Nat → SV) (k ks : Nat) (hk : k + (E275 + N218) ≤ 57000) (hks : ks + 8 * (E275 + N218) ≤ 457000) (H : Heap) (locs : List Loc) (hP : va_P D vwCl (wX4 q cy x_isv x_te x_re x_de x_now x_spa x_sna x_len x_sig x_nxt x_cnt x_rng) H) (hD : va_D A (wX4 q cy x_isv x_te x_re x_de x_now x_spa x_sna x_len x_sig x_nxt x_cnt x_rng)) (hS : va_S A s.heap H locs) (ls : Array Slot) (hl : lv_has ls 9 [(1, .ref (q 0 0)), (4, .long x4), (6, .int x6), (7, .int x7)]) (hf : f_L_law_c275 rec218 L xs x4 x6 x7 x_isv x_te x_re x_de x_now x_spa x_sna x_len x_sig x_nxt x_cnt x_rng = some (1 : Int32)), W p l e room_1 s m args below meth c H locs k ks Q (F0 m 275 ls []) := by
    intro N218 rec218 hrec218 x4 x6 x7 x_isv x_te x_re x_de x_now x_spa x_sna x_len x_sig x_nxt x_cnt x_rng k ks hk hks H locs hP hD hS ls hl hf
    refine lv_aload_n hx hb (dg ddL_law4 23 rfl) rfl (lv_at hl 0 rfl) ?_
    obtain ⟨r2, e1, hf⟩ := ob_some hf
    refine crc_l CX hml (As := [.ref (q 0 0)]) (rest := []) (ws := (wX4 q cy x_isv x_te x_re x_de x_now x_spa x_sna x_len x_sig x_nxt x_cnt x_rng)) (wsn := (wX4 q cy x_isv x_te x_re x_de x_now x_spa x_sna x_len x_sig x_nxt x_cnt x_rng)) (wr := []) (c_L_digest l D cy q x_isv x_te x_re x_de x_now x_spa x_sna x_len x_sig x_nxt x_cnt x_rng _ hst e1) lk_RL_252 rfl rfl hRML_digest hP hD hS hA hK hN hX hC (List.Perm.of_eq (List.append_nil _).symm) (List.Perm.of_eq (List.append_nil _)) rfl hl.1 rfl (Nat.le_of_ble_eq_true rfl) ⟨rmC (by omega), rmS (by omega)⟩ (dg ddL_law4 24 rfl) (fun H locs hP hD hS => ?_)
    refine lv_lload hx hb (dg ddL_law4 25 rfl) (lv_at hl 1 rfl) ?_
    refine W.lcmp hx hb (dg ddL_law4 26 rfl) ?_
    refine lv_if_ne (tgt := 289) hx hb (dg ddL_law4 27 rfl) (by decide) (fun h3 => ?_) (fun h3 => ?_)
    · have hf := it_f h3 hf
      refine lv_iconst (v := 0) hx hb (dg ddL_law4 30 rfl) (by decide) ?_
      refine lv_istore_n (lv' := [(3, .int 0), (1, .ref (q 0 0)), (4, .long x4), (6, .int x6), (7, .int x7)]) hx hb (dg ddL_law4 31 rfl) rfl hl (by decide) rfl (fun ls hl => ?_)
      refine lv_iinc (v := x7 + 1) (lv' := [(7, .int (x7 + 1)), (3, .int 0), (1, .ref (q 0 0)), (4, .long x4), (6, .int x6)]) hx hb (dg ddL_law5 0 rfl) hl (k := 4) rfl (congrArg (HAdd.hAdd x7) (by decide)) (by decide) rfl (fun ls hl => ?_)
      refine lv_goto (tgt := 218) hx hb (dg ddL_law5 1 rfl) (by decide) ?_
      refine W.widen (k := (k + 295)) (n := (ks + 8 * 295)) (by omega) (by omega) ?_
      exact hrec218 0 x4 x6 (x7 + 1) x_isv x_te x_re x_de x_now x_spa x_sna x_len x_sig x_nxt x_cnt x_rng (k + 295) (ks + 8 * 295) (by omega) (by omega) _ _ hP hD hS _ (lv_sub hl [2, 1, 3, 4, 0] rfl) hf
    · have hf := it_t h3 hf
      refine lv_iconst (v := 1) hx hb (dg ddL_law4 28 rfl) (by decide) ?_
      refine lv_goto (tgt := 290) hx hb (dg ddL_law4 29 rfl) (by decide) ?_
      refine lv_istore_n (lv' := [(3, .int 1), (1, .ref (q 0 0)), (4, .long x4), (6, .int x6), (7, .int x7)]) hx hb (dg ddL_law4 31 rfl) rfl hl (by decide) rfl (fun ls hl => ?_)
      refine lv_iinc (v := x7 + 1) (lv' := [(7, .int (x7 + 1)), (3, .int 1), (1, .ref (q 0 0)), (4, .long x4), (6, .int x6)]) hx hb (dg ddL_law5 0 rfl) hl (k := 4) rfl (congrArg (HAdd.hAdd x7) (by decide)) (by decide) rfl (fun ls hl => ?_)
      refine lv_goto (tgt := 218) hx hb (dg ddL_law5 1 rfl) (by decide) ?_
      refine W.widen (k := (k + 295)) (n := (ks + 8 * 295)) (by omega) (by omega) ?_
      exact hrec218 1 x4 x6 (x7 + 1) x_isv x_te x_re x_de x_now x_spa x_sna x_len x_sig x_nxt x_cnt x_rng (k + 295) (ks + 8 * 295) (by omega) (by omega) _ _ hP hD hS _ (lv_sub hl [2, 1, 3, 4, 0] rfl) hf
  have K357 : ∀ (N300 : Nat) (rec300 : Int32 → Int64 → Int32 → Int32 → Int32 → Int32 → Int32 → Int32 → SV → SV → SV → Int32 → (Nat → Int32) → Int32 → Int32 → (Nat → SV) → Option (Int32)) (hrec300 : ∀ (x3 : Int32) (x4 : Int64) (x6 : Int32) (x7 : Int32) (x_isv : Int32) (x_te : Int32) (x_re : Int32) (x_de : Int32) (x_now : SV) (x_spa : SV) (x_sna : SV) (x_len : Int32) (x_sig : Nat → Int32) (x_nxt : Int32) (x_cnt : Int32) (x_rng : Nat → SV) (k ks : Nat) (hk : k + N300 ≤ 57000) (hks : ks + 8 * N300 ≤ 457000) (H : Heap) (locs : List Loc) (hP : va_P D vwCl (wX4 q cy x_isv x_te x_re x_de x_now x_spa x_sna x_len x_sig x_nxt x_cnt x_rng) H) (hD : va_D A (wX4 q cy x_isv x_te x_re x_de x_now x_spa x_sna x_len x_sig x_nxt x_cnt x_rng)) (hS : va_S A s.heap H locs) (ls : Array Slot) (hl : lv_has ls 9 [(1, .ref (q 0 0)), (3, .int x3), (4, .long x4), (6, .int x6), (7, .int x7)]) (hf : rec300 x3 x4 x6 x7 x_isv x_te x_re x_de x_now x_spa x_sna x_len x_sig x_nxt x_cnt x_rng = some (1 : Int32)), W p l e room_1 s m args below meth c H locs k ks Q (F0 m 300 ls [])), ∀ (x4 : Int64) (x6 : Int32) (x7 : Int32) (t0 : Int32) (x_isv : Int32) (x_te : Int32) (x_re : Int32) (x_de : Int32) (x_now : SV) (x_spa : SV) (x_sna : SV) (x_len : Int32) (x_sig : Nat → Int32) (x_nxt : Int32) (x_cnt : Int32) (x_rng : Nat → SV) (k ks : Nat) (hk : k + (E357 + N300) ≤ 57000) (hks : ks + 8 * (E357 + N300) ≤ 457000) (H : Heap) (locs : List Loc) (hP : va_P D vwCl (wX4 q cy x_isv x_te x_re x_de x_now x_spa x_sna x_len x_sig x_nxt x_cnt x_rng) H) (hD : va_D A (wX4 q cy x_isv x_te x_re x_de x_now x_spa x_sna x_len x_sig x_nxt x_cnt x_rng)) (hS : va_S A s.heap H locs) (ls : Array Slot) (hl : lv_has ls 9 [(1, .ref (q 0 0)), (4, .long x4), (6, .int x6), (7, .int x7)]) (hf : f_L_law_c357 rec300 L xs x4 x6 x7 t0 x_isv x_te x_re x_de x_now x_spa x_sna x_len x_sig x_nxt x_cnt x_rng = some (1 : Int32)), W p l e room_1 s m args below meth c H locs k ks Q (F0 m 357 ls [.int t0]) := by
    intro N300 rec300 hrec300 x4 x6 x7 t0 x_isv x_te x_re x_de x_now x_spa x_sna x_len x_sig x_nxt x_cnt x_rng k ks hk hks H locs hP hD hS ls hl hf
    refine lv_istore_n (lv' := [(3, .int t0), (1, .ref (q 0 0)), (4, .long x4), (6, .int x6), (7, .int x7)]) hx hb (dg ddL_law6 4 rfl) rfl hl (by decide) rfl (fun ls hl => ?_)
    refine lv_aload_n hx hb (dg ddL_law6 5 rfl) rfl (lv_at hl 1 rfl) ?_
    refine lv_iload hx hb (dg ddL_law6 6 rfl) (lv_at hl 4 rfl) ?_
    refine lv_iconst (v := 4) hx hb (dg ddL_law6 7 rfl) (by decide) ?_
    obtain ⟨h1, hf⟩ := og_some hf
    refine lv_irem hx hb (dg ddL_law6 8 rfl) (nz_in h1) ?_
    obtain ⟨r3, e2, hf⟩ := ob_some hf
    refine crl_i CX hml (As := [.ref (q 0 0), .int (x7 - x7 / 4 * 4)]) (rest := []) (ws := (wX4 q cy x_isv x_te x_re x_de x_now x_spa x_sna x_len x_sig x_nxt x_cnt x_rng)) (wsn := (wX4 q cy x_isv x_te r3.2.1 r3.2.2.1 r3.2.2.2.1 x_spa x_sna x_len x_sig r3.2.2.2.2.1 r3.2.2.2.2.2.1 r3.2.2.2.2.2.2)) (wr := []) (c_L_strings l D cy q x_isv x_te x_re x_de x_now x_spa x_sna x_len x_sig x_nxt x_cnt x_rng (x7 - x7 / 4 * 4) _ hst e2) lk_RL_127 rfl rfl hRML_strings hP hD hS hA hK hN hX hC (List.Perm.of_eq (List.append_nil _).symm) (List.Perm.of_eq (List.append_nil _)) rfl hl.1 rfl (Nat.le_of_ble_eq_true rfl) ⟨rmC (by omega), rmS (by omega)⟩ (dg ddL_law6 9 rfl) (fun H locs hP hD hS => ?_)
    refine lv_pop hx hb (dg ddL_law6 10 rfl) rfl ?_
    refine lv_iinc (v := x7 + 1) (lv' := [(7, .int (x7 + 1)), (3, .int t0), (1, .ref (q 0 0)), (4, .long x4), (6, .int x6)]) hx hb (dg ddL_law6 11 rfl) hl (k := 4) rfl (congrArg (HAdd.hAdd x7) (by decide)) (by decide) rfl (fun ls hl => ?_)
    refine lv_goto (tgt := 300) hx hb (dg ddL_law6 12 rfl) (by decide) ?_
    refine W.widen (k := (k + 1)) (n := (ks + 8 * 1)) (by omega) (by omega) ?_
    exact hrec300 t0 x4 x6 (x7 + 1) x_isv x_te r3.2.1 r3.2.2.1 r3.2.2.2.1 x_spa x_sna x_len x_sig r3.2.2.2.2.1 r3.2.2.2.2.2.1 r3.2.2.2.2.2.2 (k + 1) (ks + 8 * 1) (by omega) (by omega) _ _ hP hD hS _ (lv_sub hl [2, 1, 3, 4, 0] rfl) hf
  have K356 : ∀ (N300 : Nat) (rec300 : Int32 → Int64 → Int32 → Int32 → Int32 → Int32 → Int32 → Int32 → SV → SV → SV → Int32 → (Nat → Int32) → Int32 → Int32 → (Nat → SV) → Option (Int32)) (hrec300 : ∀ (x3 : Int32) (x4 : Int64) (x6 : Int32) (x7 : Int32) (x_isv : Int32) (x_te : Int32) (x_re : Int32) (x_de : Int32) (x_now : SV) (x_spa : SV) (x_sna : SV) (x_len : Int32) (x_sig : Nat → Int32) (x_nxt : Int32) (x_cnt : Int32) (x_rng : Nat → SV) (k ks : Nat) (hk : k + N300 ≤ 57000) (hks : ks + 8 * N300 ≤ 457000) (H : Heap) (locs : List Loc) (hP : va_P D vwCl (wX4 q cy x_isv x_te x_re x_de x_now x_spa x_sna x_len x_sig x_nxt x_cnt x_rng) H) (hD : va_D A (wX4 q cy x_isv x_te x_re x_de x_now x_spa x_sna x_len x_sig x_nxt x_cnt x_rng)) (hS : va_S A s.heap H locs) (ls : Array Slot) (hl : lv_has ls 9 [(1, .ref (q 0 0)), (3, .int x3), (4, .long x4), (6, .int x6), (7, .int x7)]) (hf : rec300 x3 x4 x6 x7 x_isv x_te x_re x_de x_now x_spa x_sna x_len x_sig x_nxt x_cnt x_rng = some (1 : Int32)), W p l e room_1 s m args below meth c H locs k ks Q (F0 m 300 ls [])), ∀ (x4 : Int64) (x6 : Int32) (x7 : Int32) (x_isv : Int32) (x_te : Int32) (x_re : Int32) (x_de : Int32) (x_now : SV) (x_spa : SV) (x_sna : SV) (x_len : Int32) (x_sig : Nat → Int32) (x_nxt : Int32) (x_cnt : Int32) (x_rng : Nat → SV) (k ks : Nat) (hk : k + (E356 + N300) ≤ 57000) (hks : ks + 8 * (E356 + N300) ≤ 457000) (H : Heap) (locs : List Loc) (hP : va_P D vwCl (wX4 q cy x_isv x_te x_re x_de x_now x_spa x_sna x_len x_sig x_nxt x_cnt x_rng) H) (hD : va_D A (wX4 q cy x_isv x_te x_re x_de x_now x_spa x_sna x_len x_sig x_nxt x_cnt x_rng)) (hS : va_S A s.heap H locs) (ls : Array Slot) (hl : lv_has ls 9 [(1, .ref (q 0 0)), (4, .long x4), (6, .int x6), (7, .int x7)]) (hf : f_L_law_c356 rec300 L xs x4 x6 x7 x_isv x_te x_re x_de x_now x_spa x_sna x_len x_sig x_nxt x_cnt x_rng = some (1 : Int32)), W p l e room_1 s m args below meth c H locs k ks Q (F0 m 356 ls []) := by
    intro N300 rec300 hrec300 x4 x6 x7 x_isv x_te x_re x_de x_now x_spa x_sna x_len x_sig x_nxt x_cnt x_rng k ks hk hks H locs hP hD hS ls hl hf
    refine lv_iconst (v := 0) hx hb (dg ddL_law6 3 rfl) (by decide) ?_
    refine W.widen (k := (k + 0)) (n := (ks + 8 * 0)) (by omega) (by omega) ?_
    exact K357 N300 rec300 hrec300  x4 x6 x7 0 x_isv x_te x_re x_de x_now x_spa x_sna x_len x_sig x_nxt x_cnt x_rng (k + 0) (ks + 8 * 0) (by omega) (by omega) _ _ hP hD hS _ (lv_sub hl [0, 1, 2, 3] rfl) hf
  have K373 : ∀ (x3 : Int32) (x4 : Int64) (x6 : Int32) (x_isv : Int32) (x_te : Int32) (x_re : Int32) (x_de : Int32) (x_now : SV) (x_spa : SV) (x_sna : SV) (x_len : Int32) (x_sig : Nat → Int32) (x_nxt : Int32) (x_cnt : Int32) (x_rng : Nat → SV) (k ks : Nat) (hk : k + (E373) ≤ 57000) (hks : ks + 8 * (E373) ≤ 457000) (H : Heap) (locs : List Loc) (hP : va_P D vwCl (wX4 q cy x_isv x_te x_re x_de x_now x_spa x_sna x_len x_sig x_nxt x_cnt x_rng) H) (hD : va_D A (wX4 q cy x_isv x_te x_re x_de x_now x_spa x_sna x_len x_sig x_nxt x_cnt x_rng)) (hS : va_S A s.heap H locs) (ls : Array Slot) (hl : lv_has ls 9 [(1, .ref (q 0 0)), (3, .int x3), (4, .long x4), (6, .int x6)]) (hf : f_L_law_c373 L xs x3 x4 x6 x_isv x_te x_re x_de x_now x_spa x_sna x_len x_sig x_nxt x_cnt x_rng = some (1 : Int32)), W p l e room_1 s m args below meth c H locs k ks Q (F0 m 373 ls []) := by
    intro x3 x4 x6 x_isv x_te x_re x_de x_now x_spa x_sna x_len x_sig x_nxt x_cnt x_rng k ks hk hks H locs hP hD hS ls hl hf
    refine lv_iload_n hx hb (dg ddL_law6 13 rfl) rfl (lv_at hl 1 rfl) ?_
    refine lv_if_eq (tgt := 409) hx hb (dg ddL_law6 14 rfl) (by decide) (fun h1 => ?_) (fun h1 => ?_)
    · have hf := it_t h1 hf
      refine lv_iconst (v := 0) hx hb (dg ddL_law6 30 rfl) (by decide) ?_
      exact kend _ _ (Option.some.inj hf) _ _ _ _ _ (by omega) (by omega) hS (dg ddL_law6 31 rfl)
    · have hf := it_f h1 hf
      refine lv_aload_n hx hb (dg ddL_law6 15 rfl) rfl (lv_at hl 0 rfl) ?_
      obtain ⟨r3, e2, hf⟩ := ob_some hf
      refine crl_i CX hml (As := [.ref (q 0 0)]) (rest := []) (ws := (wX4 q cy x_isv x_te x_re x_de x_now x_spa x_sna x_len x_sig x_nxt x_cnt x_rng)) (wsn := (wX4 q cy x_isv x_te x_re x_de r3.2.1 x_spa x_sna x_len x_sig x_nxt r3.2.2 x_rng)) (wr := []) (c_L_restore l D cy q x_isv x_te x_re x_de x_now x_spa x_sna x_len x_sig x_nxt x_cnt x_rng _ hst e2) lk_RL_149 rfl rfl hRML_restore hP hD hS hA hK hN hX hC (List.Perm.of_eq (List.append_nil _).symm) (List.Perm.of_eq (List.append_nil _)) rfl hl.1 rfl (Nat.le_of_ble_eq_true rfl) ⟨rmC (by omega), rmS (by omega)⟩ (dg ddL_law6 16 rfl) (fun H locs hP hD hS => ?_)
      refine lv_iload hx hb (dg ddL_law6 17 rfl) (lv_at hl 3 rfl) ?_
      refine lv_icmp_ne (tgt := 409) hx hb (dg ddL_law6 18 rfl) (by decide) (fun h4 => ?_) (fun h4 => ?_)
      · have hf := it_f h4 hf
        refine lv_iconst (v := 0) hx hb (dg ddL_law6 30 rfl) (by decide) ?_
        exact kend _ _ (Option.some.inj hf) _ _ _ _ _ (by omega) (by omega) hS (dg ddL_law6 31 rfl)
      · have hf := it_t h4 hf
        refine lv_aload_n hx hb (dg ddL_law6 19 rfl) rfl (lv_at hl 0 rfl) ?_
        obtain ⟨r6, e5, hf⟩ := ob_some hf
        refine crc_l CX hml (As := [.ref (q 0 0)]) (rest := []) (ws := (wX4 q cy x_isv x_te x_re x_de r3.2.1 x_spa x_sna x_len x_sig x_nxt r3.2.2 x_rng)) (wsn := (wX4 q cy x_isv x_te x_re x_de r3.2.1 x_spa x_sna x_len x_sig x_nxt r3.2.2 x_rng)) (wr := []) (c_L_digest l D cy q x_isv x_te x_re x_de r3.2.1 x_spa x_sna x_len x_sig x_nxt r3.2.2 x_rng _ hst e5) lk_RL_252 rfl rfl hRML_digest hP hD hS hA hK hN hX hC (List.Perm.of_eq (List.append_nil _).symm) (List.Perm.of_eq (List.append_nil _)) rfl hl.1 rfl (Nat.le_of_ble_eq_true rfl) ⟨rmC (by omega), rmS (by omega)⟩ (dg ddL_law6 20 rfl) (fun H locs hP hD hS => ?_)
        refine lv_lload hx hb (dg ddL_law6 21 rfl) (lv_at hl 2 rfl) ?_
        refine W.lcmp hx hb (dg ddL_law6 22 rfl) ?_
        refine lv_if_ne (tgt := 409) hx hb (dg ddL_law6 23 rfl) (by decide) (fun h7 => ?_) (fun h7 => ?_)
        · have hf := it_f h7 hf
          refine lv_iconst (v := 0) hx hb (dg ddL_law6 30 rfl) (by decide) ?_
          exact kend _ _ (Option.some.inj hf) _ _ _ _ _ (by omega) (by omega) hS (dg ddL_law6 31 rfl)
        · have hf := it_t h7 hf
          refine lv_aload_n hx hb (dg ddL_law6 24 rfl) rfl (lv_at hl 0 rfl) ?_
          obtain ⟨r9, e8, hf⟩ := ob_some hf
          refine crl_i CX hml (As := [.ref (q 0 0)]) (rest := []) (ws := (wX4 q cy x_isv x_te x_re x_de r3.2.1 x_spa x_sna x_len x_sig x_nxt r3.2.2 x_rng)) (wsn := (wX4 q cy x_isv x_te x_re x_de r9.2.1 x_spa x_sna x_len x_sig r9.2.2.1 r9.2.2.2 x_rng)) (wr := []) (c_L_undo l D cy q x_isv x_te x_re x_de r3.2.1 x_spa x_sna x_len x_sig x_nxt r3.2.2 x_rng _ hst e8) lk_RL_151 rfl rfl hRML_undo hP hD hS hA hK hN hX hC (List.Perm.of_eq (List.append_nil _).symm) (List.Perm.of_eq (List.append_nil _)) rfl hl.1 rfl (Nat.le_of_ble_eq_true rfl) ⟨rmC (by omega), rmS (by omega)⟩ (dg ddL_law6 25 rfl) (fun H locs hP hD hS => ?_)
          refine lv_ldc hx hb CX.2.2.2 (CX.2.2.1 (.constant RL 10 (-100000000)) (lw_at 336 (by decide +kernel))) (dg ddL_law6 26 rfl) ?_
          refine lv_icmp_ne (tgt := 409) hx hb (dg ddL_law6 27 rfl) (by decide) (fun h10 => ?_) (fun h10 => ?_)
          · have hf := it_f h10 hf
            refine lv_iconst (v := 0) hx hb (dg ddL_law6 30 rfl) (by decide) ?_
            exact kend _ _ (Option.some.inj hf) _ _ _ _ _ (by omega) (by omega) hS (dg ddL_law6 31 rfl)
          · have hf := it_t h10 hf
            refine lv_iconst (v := 1) hx hb (dg ddL_law6 28 rfl) (by decide) ?_
            refine lv_goto (tgt := 410) hx hb (dg ddL_law6 29 rfl) (by decide) ?_
            exact kend _ _ (Option.some.inj hf) _ _ _ _ _ (by omega) (by omega) hS (dg ddL_law6 31 rfl)
  have K300 : ∀ (n : Nat), ∀ (x3 : Int32) (x4 : Int64) (x6 : Int32) (x7 : Int32) (x_isv : Int32) (x_te : Int32) (x_re : Int32) (x_de : Int32) (x_now : SV) (x_spa : SV) (x_sna : SV) (x_len : Int32) (x_sig : Nat → Int32) (x_nxt : Int32) (x_cnt : Int32) (x_rng : Nat → SV) (k ks : Nat) (hk : k + (n * 638 + E300) ≤ 57000) (hks : ks + 8 * (n * 638 + E300) ≤ 457000) (H : Heap) (locs : List Loc) (hP : va_P D vwCl (wX4 q cy x_isv x_te x_re x_de x_now x_spa x_sna x_len x_sig x_nxt x_cnt x_rng) H) (hD : va_D A (wX4 q cy x_isv x_te x_re x_de x_now x_spa x_sna x_len x_sig x_nxt x_cnt x_rng)) (hS : va_S A s.heap H locs) (ls : Array Slot) (hl : lv_has ls 9 [(1, .ref (q 0 0)), (3, .int x3), (4, .long x4), (6, .int x6), (7, .int x7)]) (hf : f_L_law_c300 L xs n x3 x4 x6 x7 x_isv x_te x_re x_de x_now x_spa x_sna x_len x_sig x_nxt x_cnt x_rng = some (1 : Int32)), W p l e room_1 s m args below meth c H locs k ks Q (F0 m 300 ls []) := by
    intro n
    induction n with
    | zero => intro x3 x4 x6 x7 x_isv x_te x_re x_de x_now x_spa x_sna x_len x_sig x_nxt x_cnt x_rng k ks hk hks H locs hP hD hS ls hl hf; cases (show (none : Option Int32) = some (1 : Int32) from hf)
    | succ n ih =>
    intro x3 x4 x6 x7 x_isv x_te x_re x_de x_now x_spa x_sna x_len x_sig x_nxt x_cnt x_rng k ks hk hks H locs hP hD hS ls hl hf
    refine lv_iload_n hx hb (dg ddL_law5 4 rfl) rfl (lv_at hl 1 rfl) ?_
    refine lv_if_eq (tgt := 373) hx hb (dg ddL_law5 5 rfl) (by decide) (fun h1 => ?_) (fun h1 => ?_)
    · have hf := it_t h1 hf
      refine W.widen (k := (k + 0)) (n := (ks + 8 * 0)) (by omega) (by omega) ?_
      exact K373  x3 x4 x6 x_isv x_te x_re x_de x_now x_spa x_sna x_len x_sig x_nxt x_cnt x_rng (k + 0) (ks + 8 * 0) (by omega) (by omega) _ _ hP hD hS _ (lv_sub hl [0, 1, 2, 3] rfl) hf
    · have hf := it_f h1 hf
      refine lv_iload hx hb (dg ddL_law5 6 rfl) (lv_at hl 4 rfl) ?_
      refine lv_bipush (v := 8) hx hb (dg ddL_law5 7 rfl) (by decide) ?_
      refine lv_icmp_ge (tgt := 373) hx hb (dg ddL_law5 8 rfl) (by decide) (fun h2 => ?_) (fun h2 => ?_)
      · have hf := it_t h2 hf
        refine W.widen (k := (k + 0)) (n := (ks + 8 * 0)) (by omega) (by omega) ?_
        exact K373  x3 x4 x6 x_isv x_te x_re x_de x_now x_spa x_sna x_len x_sig x_nxt x_cnt x_rng (k + 0) (ks + 8 * 0) (by omega) (by omega) _ _ hP hD hS _ (lv_sub hl [0, 1, 2, 3] rfl) hf
      · have hf := it_f h2 hf
        refine lv_aload_n hx hb (dg ddL_law5 9 rfl) rfl (lv_at hl 0 rfl) ?_
        refine lv_iload hx hb (dg ddL_law5 10 rfl) (lv_at hl 4 rfl) ?_
        refine lv_iconst (v := 4) hx hb (dg ddL_law5 11 rfl) (by decide) ?_
        obtain ⟨h3, hf⟩ := og_some hf
        refine lv_irem hx hb (dg ddL_law5 12 rfl) (nz_in h3) ?_
        obtain ⟨r5, e4, hf⟩ := ob_some hf
        refine crl_i CX hml (As := [.ref (q 0 0), .int (x7 - x7 / 4 * 4)]) (rest := []) (ws := (wX4 q cy x_isv x_te x_re x_de x_now x_spa x_sna x_len x_sig x_nxt x_cnt x_rng)) (wsn := (wX4 q cy x_isv x_te r5.2.1 r5.2.2.1 r5.2.2.2.1 x_spa x_sna x_len x_sig r5.2.2.2.2.1 r5.2.2.2.2.2.1 r5.2.2.2.2.2.2)) (wr := []) (c_L_join l D cy q x_isv x_te x_re x_de x_now x_spa x_sna x_len x_sig x_nxt x_cnt x_rng (x7 - x7 / 4 * 4) _ hst e4) lk_RL_119 rfl rfl hRML_join hP hD hS hA hK hN hX hC (List.Perm.of_eq (List.append_nil _).symm) (List.Perm.of_eq (List.append_nil _)) rfl hl.1 rfl (Nat.le_of_ble_eq_true rfl) ⟨rmC (by omega), rmS (by omega)⟩ (dg ddL_law5 13 rfl) (fun H locs hP hD hS => ?_)
        refine lv_pop hx hb (dg ddL_law5 14 rfl) rfl ?_
        refine lv_aload_n hx hb (dg ddL_law5 15 rfl) rfl (lv_at hl 0 rfl) ?_
        refine lv_iload hx hb (dg ddL_law5 16 rfl) (lv_at hl 4 rfl) ?_
        refine lv_bipush (v := 13) hx hb (dg ddL_law5 17 rfl) (by decide) ?_
        refine lv_iload hx hb (dg ddL_law5 18 rfl) (lv_at hl 4 rfl) ?_
        refine lv_imul hx hb (dg ddL_law5 19 rfl) ?_
        obtain ⟨r7, e6, hf⟩ := ob_some hf
        refine crl_i CX hml (As := [.ref (q 0 0), .int x7, .int ((13 : Int32) * x7)]) (rest := []) (ws := (wX4 q cy x_isv x_te r5.2.1 r5.2.2.1 r5.2.2.2.1 x_spa x_sna x_len x_sig r5.2.2.2.2.1 r5.2.2.2.2.2.1 r5.2.2.2.2.2.2)) (wsn := (wX4 q cy x_isv x_te r7.2.1 r7.2.2.1 r7.2.2.2.1 x_spa x_sna x_len x_sig r7.2.2.2.2.1 r7.2.2.2.2.2.1 r7.2.2.2.2.2.2)) (wr := []) (c_L_draw l D cy q x_isv x_te r5.2.1 r5.2.2.1 r5.2.2.2.1 x_spa x_sna x_len x_sig r5.2.2.2.2.1 r5.2.2.2.2.2.1 r5.2.2.2.2.2.2 x7 ((13 : Int32) * x7) _ hst e6) lk_RL_121 rfl rfl hRML_draw hP hD hS hA hK hN hX hC (List.Perm.of_eq (List.append_nil _).symm) (List.Perm.of_eq (List.append_nil _)) rfl hl.1 rfl (Nat.le_of_ble_eq_true rfl) ⟨rmC (by omega), rmS (by omega)⟩ (dg ddL_law5 20 rfl) (fun H locs hP hD hS => ?_)
        refine lv_pop hx hb (dg ddL_law5 21 rfl) rfl ?_
        refine lv_aload_n hx hb (dg ddL_law5 22 rfl) rfl (lv_at hl 0 rfl) ?_
        refine lv_iconst (v := 1) hx hb (dg ddL_law5 23 rfl) (by decide) ?_
        refine lv_iload hx hb (dg ddL_law5 24 rfl) (lv_at hl 4 rfl) ?_
        refine lv_iconst (v := 4) hx hb (dg ddL_law5 25 rfl) (by decide) ?_
        obtain ⟨h8, hf⟩ := og_some hf
        refine lv_irem hx hb (dg ddL_law5 26 rfl) (nz_in h8) ?_
        refine lv_iadd hx hb (dg ddL_law5 27 rfl) ?_
        obtain ⟨r10, e9, hf⟩ := ob_some hf
        refine crl_i CX hml (As := [.ref (q 0 0), .int ((1 : Int32) + (x7 - x7 / 4 * 4))]) (rest := []) (ws := (wX4 q cy x_isv x_te r7.2.1 r7.2.2.1 r7.2.2.2.1 x_spa x_sna x_len x_sig r7.2.2.2.2.1 r7.2.2.2.2.2.1 r7.2.2.2.2.2.2)) (wsn := (wX4 q cy x_isv x_te r7.2.1 r7.2.2.1 r10.2.1 x_spa x_sna x_len x_sig r10.2.2.1 r10.2.2.2.1 r10.2.2.2.2)) (wr := []) (c_L_pass l D cy q x_isv x_te r7.2.1 r7.2.2.1 r7.2.2.2.1 x_spa x_sna x_len x_sig r7.2.2.2.2.1 r7.2.2.2.2.2.1 r7.2.2.2.2.2.2 ((1 : Int32) + (x7 - x7 / 4 * 4)) _ hst e9) lk_RL_153 rfl rfl hRML_pass hP hD hS hA hK hN hX hC (List.Perm.of_eq (List.append_nil _).symm) (List.Perm.of_eq (List.append_nil _)) rfl hl.1 rfl (Nat.le_of_ble_eq_true rfl) ⟨rmC (by omega), rmS (by omega)⟩ (dg ddL_law5 28 rfl) (fun H locs hP hD hS => ?_)
        refine lv_if_lt (tgt := 356) hx hb (dg ddL_law5 29 rfl) (by decide) (fun h11 => ?_) (fun h11 => ?_)
        · have hf := it_t h11 hf
          refine W.widen (k := (k + 3)) (n := (ks + 8 * 3)) (by omega) (by omega) ?_
          exact K356 (n * 638 + E300) (f_L_law_c300 L xs n) ih  x4 x6 x7 x_isv x_te r7.2.1 r7.2.2.1 r10.2.1 x_spa x_sna x_len x_sig r10.2.2.1 r10.2.2.2.1 r10.2.2.2.2 (k + 3) (ks + 8 * 3) (by omega) (by omega) _ _ hP hD hS _ (lv_sub hl [0, 2, 3, 4] rfl) hf
        · have hf := it_f h11 hf
          refine lv_aload_n hx hb (dg ddL_law5 30 rfl) rfl (lv_at hl 0 rfl) ?_
          obtain ⟨r13, e12, hf⟩ := ob_some hf
          refine crc_i CX hml (As := [.ref (q 0 0)]) (rest := []) (ws := (wX4 q cy x_isv x_te r7.2.1 r7.2.2.1 r10.2.1 x_spa x_sna x_len x_sig r10.2.2.1 r10.2.2.2.1 r10.2.2.2.2)) (wsn := (wX4 q cy x_isv x_te r7.2.1 r7.2.2.1 r13.2.1 r13.2.2 x_sna x_len x_sig r10.2.2.1 r10.2.2.2.1 r10.2.2.2.2)) (wr := []) (c_L_isFit l D cy q x_isv x_te r7.2.1 r7.2.2.1 r10.2.1 x_spa x_sna x_len x_sig r10.2.2.1 r10.2.2.2.1 r10.2.2.2.2 _ hst e12) lk_RL_255 rfl rfl hRML_isFit hP hD hS hA hK hN hX hC (List.Perm.of_eq (List.append_nil _).symm) (List.Perm.of_eq (List.append_nil _)) rfl hl.1 rfl (Nat.le_of_ble_eq_true rfl) ⟨rmC (by omega), rmS (by omega)⟩ (dg ddL_law5 31 rfl) (fun H locs hP hD hS => ?_)
          refine lv_if_eq (tgt := 356) hx hb (dg ddL_law6 0 rfl) (by decide) (fun h14 => ?_) (fun h14 => ?_)
          · have hf := it_t h14 hf
            refine W.widen (k := (k + 637)) (n := (ks + 8 * 637)) (by omega) (by omega) ?_
            exact K356 (n * 638 + E300) (f_L_law_c300 L xs n) ih  x4 x6 x7 x_isv x_te r7.2.1 r7.2.2.1 r13.2.1 r13.2.2 x_sna x_len x_sig r10.2.2.1 r10.2.2.2.1 r10.2.2.2.2 (k + 637) (ks + 8 * 637) (by omega) (by omega) _ _ hP hD hS _ (lv_sub hl [0, 2, 3, 4] rfl) hf
          · have hf := it_f h14 hf
            refine lv_iconst (v := 1) hx hb (dg ddL_law6 1 rfl) (by decide) ?_
            refine lv_goto (tgt := 357) hx hb (dg ddL_law6 2 rfl) (by decide) ?_
            refine W.widen (k := (k + 637)) (n := (ks + 8 * 637)) (by omega) (by omega) ?_
            exact K357 (n * 638 + E300) (f_L_law_c300 L xs n) ih  x4 x6 x7 1 x_isv x_te r7.2.1 r7.2.2.1 r13.2.1 r13.2.2 x_sna x_len x_sig r10.2.2.1 r10.2.2.2.1 r10.2.2.2.2 (k + 637) (ks + 8 * 637) (by omega) (by omega) _ _ hP hD hS _ (lv_sub hl [0, 2, 3, 4] rfl) hf
  have K218 : ∀ (n : Nat), ∀ (x3 : Int32) (x4 : Int64) (x6 : Int32) (x7 : Int32) (x_isv : Int32) (x_te : Int32) (x_re : Int32) (x_de : Int32) (x_now : SV) (x_spa : SV) (x_sna : SV) (x_len : Int32) (x_sig : Nat → Int32) (x_nxt : Int32) (x_cnt : Int32) (x_rng : Nat → SV) (k ks : Nat) (hk : k + (n * 943 + E218) ≤ 57000) (hks : ks + 8 * (n * 943 + E218) ≤ 457000) (H : Heap) (locs : List Loc) (hP : va_P D vwCl (wX4 q cy x_isv x_te x_re x_de x_now x_spa x_sna x_len x_sig x_nxt x_cnt x_rng) H) (hD : va_D A (wX4 q cy x_isv x_te x_re x_de x_now x_spa x_sna x_len x_sig x_nxt x_cnt x_rng)) (hS : va_S A s.heap H locs) (ls : Array Slot) (hl : lv_has ls 9 [(1, .ref (q 0 0)), (3, .int x3), (4, .long x4), (6, .int x6), (7, .int x7)]) (hf : f_L_law_c218 L xs n x3 x4 x6 x7 x_isv x_te x_re x_de x_now x_spa x_sna x_len x_sig x_nxt x_cnt x_rng = some (1 : Int32)), W p l e room_1 s m args below meth c H locs k ks Q (F0 m 218 ls []) := by
    intro n
    induction n with
    | zero => intro x3 x4 x6 x7 x_isv x_te x_re x_de x_now x_spa x_sna x_len x_sig x_nxt x_cnt x_rng k ks hk hks H locs hP hD hS ls hl hf; cases (show (none : Option Int32) = some (1 : Int32) from hf)
    | succ n ih =>
    intro x3 x4 x6 x7 x_isv x_te x_re x_de x_now x_spa x_sna x_len x_sig x_nxt x_cnt x_rng k ks hk hks H locs hP hD hS ls hl hf
    refine lv_iload_n hx hb (dg ddL_law3 29 rfl) rfl (lv_at hl 1 rfl) ?_
    refine lv_if_eq (tgt := 297) hx hb (dg ddL_law3 30 rfl) (by decide) (fun h1 => ?_) (fun h1 => ?_)
    · have hf := it_t h1 hf
      refine lv_iconst (v := 0) hx hb (dg ddL_law5 2 rfl) (by decide) ?_
      refine lv_istore (lv' := [(7, .int 0), (1, .ref (q 0 0)), (3, .int x3), (4, .long x4), (6, .int x6)]) hx hb (dg ddL_law5 3 rfl) hl (by decide) rfl (fun ls hl => ?_)
      refine W.widen (k := (k + 0)) (n := (ks + 8 * 0)) (by omega) (by omega) ?_
      exact K300 9 x3 x4 x6 0 x_isv x_te x_re x_de x_now x_spa x_sna x_len x_sig x_nxt x_cnt x_rng (k + 0) (ks + 8 * 0) (Nat.le_trans (Nat.add_le_add_left (show 9 * 638 + E300 ≤ (n + 1) * 943 + E218 from by rw [hE300, hE218]; exact Nat.le_trans (Nat.le_of_ble_eq_true rfl : 9 * 638 + 297 ≤ 6039) (Nat.le_add_left _ _)) k) hk) (Nat.le_trans (Nat.add_le_add_left (Nat.mul_le_mul_left 8 (show 9 * 638 + E300 ≤ (n + 1) * 943 + E218 from by rw [hE300, hE218]; exact Nat.le_trans (Nat.le_of_ble_eq_true rfl : 9 * 638 + 297 ≤ 6039) (Nat.le_add_left _ _))) ks) hks) _ _ hP hD hS _ (lv_sub hl [1, 2, 3, 4, 0] rfl) hf
    · have hf := it_f h1 hf
      refine lv_iload hx hb (dg ddL_law3 31 rfl) (lv_at hl 4 rfl) ?_
      refine va_gets hx hb hT.1 hS CX.2.2.2 (CX.2.2.1 (.fieldLink RL 135 "BuskPitchesLaw" "TEXTS" "[Ljava/lang/String;") (lw_at 781 (by decide +kernel))) (fun _ h9 => h9) (dg ddL_law4 0 rfl) ?_
      refine va_tlen hx hb hT.2.1 hS (v := 18) (by decide) (dg ddL_law4 1 rfl) ?_
      refine lv_icmp_ge (tgt := 297) hx hb (dg ddL_law4 2 rfl) (by decide) (fun h2 => ?_) (fun h2 => ?_)
      · have hf := it_t h2 hf
        refine lv_iconst (v := 0) hx hb (dg ddL_law5 2 rfl) (by decide) ?_
        refine lv_istore (lv' := [(7, .int 0), (1, .ref (q 0 0)), (3, .int x3), (4, .long x4), (6, .int x6)]) hx hb (dg ddL_law5 3 rfl) hl (by decide) rfl (fun ls hl => ?_)
        refine W.widen (k := (k + 0)) (n := (ks + 8 * 0)) (by omega) (by omega) ?_
        exact K300 9 x3 x4 x6 0 x_isv x_te x_re x_de x_now x_spa x_sna x_len x_sig x_nxt x_cnt x_rng (k + 0) (ks + 8 * 0) (Nat.le_trans (Nat.add_le_add_left (show 9 * 638 + E300 ≤ (n + 1) * 943 + E218 from by rw [hE300, hE218]; exact Nat.le_trans (Nat.le_of_ble_eq_true rfl : 9 * 638 + 297 ≤ 6039) (Nat.le_add_left _ _)) k) hk) (Nat.le_trans (Nat.add_le_add_left (Nat.mul_le_mul_left 8 (show 9 * 638 + E300 ≤ (n + 1) * 943 + E218 from by rw [hE300, hE218]; exact Nat.le_trans (Nat.le_of_ble_eq_true rfl : 9 * 638 + 297 ≤ 6039) (Nat.le_add_left _ _))) ks) hks) _ _ hP hD hS _ (lv_sub hl [1, 2, 3, 4, 0] rfl) hf
      · have hf := it_f h2 hf
        refine lv_aload_n hx hb (dg ddL_law4 3 rfl) rfl (lv_at hl 0 rfl) ?_
        refine va_gets hx hb hT.1 hS CX.2.2.2 (CX.2.2.1 (.fieldLink RL 135 "BuskPitchesLaw" "TEXTS" "[Ljava/lang/String;") (lw_at 781 (by decide +kernel))) (fun _ h9 => h9) (dg ddL_law4 4 rfl) ?_
        refine lv_iload hx hb (dg ddL_law4 5 rfl) (lv_at hl 4 rfl) ?_
        obtain ⟨h3, hf⟩ := og_some hf
        refine vb_tq hx hb hT.2.1 hS (inb_in h3) (v := .ref (tK x7.toNatClampNeg)) rfl (dg ddL_law4 6 rfl) ?_
        obtain ⟨r5, e4, hf⟩ := ob_some hf
        refine crt_r CX hml (As := [.ref (q 0 0), .ref (tK x7.toNatClampNeg)]) (rest := []) (ws := (wX4 q cy x_isv x_te x_re x_de x_now x_spa x_sna x_len x_sig x_nxt x_cnt x_rng)) (wsn := (wX4 q cy x_isv x_te x_re x_de x_now x_spa x_sna r5.1 r5.2 x_nxt x_cnt x_rng)) (wr := []) (c_L_write l D cy q tK tV ta x_isv x_te x_re x_de x_now x_spa x_sna x_len x_sig x_nxt x_cnt x_rng x7.toNatClampNeg _ hst e4) lk_RL_139 rfl rfl hRML_write hP hD hS hA hK hN hX hC hT (List.Perm.of_eq (List.append_nil _).symm) (List.Perm.of_eq (List.append_nil _)) rfl hl.1 rfl (Nat.le_of_ble_eq_true rfl) ⟨rmC (by omega), rmS (by omega)⟩ (dg ddL_law4 7 rfl) (fun H locs hP hD hS => ?_)
        obtain ⟨r7, e6, hf⟩ := ob_some hf
        refine crl_i CX hml (As := [.ref (q 0 0)]) (rest := []) (ws := (wX4 q cy x_isv x_te x_re x_de x_now x_spa x_sna r5.1 r5.2 x_nxt x_cnt x_rng)) (wsn := (wX4 q cy x_isv r7.2.1 r7.2.2.1 r7.2.2.2.1 r7.2.2.2.2.1 r7.2.2.2.2.2.1 x_sna r7.2.2.2.2.2.2.1 r5.2 r7.2.2.2.2.2.2.2.1 r7.2.2.2.2.2.2.2.2.1 r7.2.2.2.2.2.2.2.2.2)) (wr := []) (c_L_read l D cy q x_isv x_te x_re x_de x_now x_spa x_sna r5.1 r5.2 x_nxt x_cnt x_rng _ hst e6) lk_RL_143 rfl rfl hRML_read hP hD hS hA hK hN hX hC (List.Perm.of_eq (List.append_nil _).symm) (List.Perm.of_eq (List.append_nil _)) rfl hl.1 rfl (Nat.le_of_ble_eq_true rfl) ⟨rmC (by omega), rmS (by omega)⟩ (dg ddL_law4 8 rfl) (fun H locs hP hD hS => ?_)
        refine lv_istore (lv' := [(8, .int r7.1), (1, .ref (q 0 0)), (3, .int x3), (4, .long x4), (6, .int x6), (7, .int x7)]) hx hb (dg ddL_law4 9 rfl) hl (by decide) rfl (fun ls hl => ?_)
        refine lv_aload_n hx hb (dg ddL_law4 10 rfl) rfl (lv_at hl 1 rfl) ?_
        obtain ⟨r9, e8, hf⟩ := ob_some hf
        refine cro_vi CX hml (As := []) (rest := []) (c_X4_errorPosition l D cy q x_isv r7.2.1 r7.2.2.1 r7.2.2.2.1 r7.2.2.2.2.1 r7.2.2.2.2.2.1 x_sna r7.2.2.2.2.2.2.1 r5.2 r7.2.2.2.2.2.2.2.1 r7.2.2.2.2.2.2.2.2.1 r7.2.2.2.2.2.2.2.2.2 e8) lk_RL_272 rfl rfl hRMX4_errorPosition hP hK hN 0 rfl rfl rfl hl.1 rfl (Nat.le_of_ble_eq_true rfl) ⟨rmC (by omega), rmS (by omega)⟩ (dg ddL_law4 11 rfl) ?_
        refine lv_iconst (v := (-1)) hx hb (dg ddL_law4 12 rfl) (by decide) ?_
        refine lv_icmp_ne (tgt := 289) hx hb (dg ddL_law4 13 rfl) (by decide) (fun h10 => ?_) (fun h10 => ?_)
        · have hf := it_f h10 hf
          refine lv_iconst (v := 0) hx hb (dg ddL_law4 30 rfl) (by decide) ?_
          refine lv_istore_n (lv' := [(3, .int 0), (8, .int r7.1), (1, .ref (q 0 0)), (4, .long x4), (6, .int x6), (7, .int x7)]) hx hb (dg ddL_law4 31 rfl) rfl hl (by decide) rfl (fun ls hl => ?_)
          refine lv_iinc (v := x7 + 1) (lv' := [(7, .int (x7 + 1)), (3, .int 0), (8, .int r7.1), (1, .ref (q 0 0)), (4, .long x4), (6, .int x6)]) hx hb (dg ddL_law5 0 rfl) hl (k := 5) rfl (congrArg (HAdd.hAdd x7) (by decide)) (by decide) rfl (fun ls hl => ?_)
          refine lv_goto (tgt := 218) hx hb (dg ddL_law5 1 rfl) (by decide) ?_
          refine W.widen (k := (k + 13)) (n := (ks + 8 * 13)) (by omega) (by omega) ?_
          exact ih 0 x4 x6 (x7 + 1) x_isv r7.2.1 r7.2.2.1 r7.2.2.2.1 r7.2.2.2.2.1 r7.2.2.2.2.2.1 x_sna r7.2.2.2.2.2.2.1 r5.2 r7.2.2.2.2.2.2.2.1 r7.2.2.2.2.2.2.2.2.1 r7.2.2.2.2.2.2.2.2.2 (k + 13) (ks + 8 * 13) (by omega) (by omega) _ _ hP hD hS _ (lv_sub hl [3, 1, 4, 5, 0] rfl) hf
        · have hf := it_t h10 hf
          refine lv_iload hx hb (dg ddL_law4 14 rfl) (lv_at hl 0 rfl) ?_
          refine lv_ldc hx hb CX.2.2.2 (CX.2.2.1 (.constant RL 10 (-100000000)) (lw_at 336 (by decide +kernel))) (dg ddL_law4 15 rfl) ?_
          refine lv_icmp_eq (tgt := 275) hx hb (dg ddL_law4 16 rfl) (by decide) (fun h11 => ?_) (fun h11 => ?_)
          · have hf := it_t h11 hf
            refine W.widen (k := (k + 13)) (n := (ks + 8 * 13)) (by omega) (by omega) ?_
            exact K275 (n * 943 + E218) (f_L_law_c218 L xs n) ih  x4 x6 x7 x_isv r7.2.1 r7.2.2.1 r7.2.2.2.1 r7.2.2.2.2.1 r7.2.2.2.2.2.1 x_sna r7.2.2.2.2.2.2.1 r5.2 r7.2.2.2.2.2.2.2.1 r7.2.2.2.2.2.2.2.2.1 r7.2.2.2.2.2.2.2.2.2 (k + 13) (ks + 8 * 13) (by omega) (by omega) _ _ hP hD hS _ (lv_sub hl [1, 3, 4, 5] rfl) hf
          · have hf := it_f h11 hf
            refine lv_aload_n hx hb (dg ddL_law4 17 rfl) rfl (lv_at hl 1 rfl) ?_
            obtain ⟨r13, e12, hf⟩ := ob_some hf
            refine crc_i CX hml (As := [.ref (q 0 0)]) (rest := []) (ws := (wX4 q cy x_isv r7.2.1 r7.2.2.1 r7.2.2.2.1 r7.2.2.2.2.1 r7.2.2.2.2.2.1 x_sna r7.2.2.2.2.2.2.1 r5.2 r7.2.2.2.2.2.2.2.1 r7.2.2.2.2.2.2.2.2.1 r7.2.2.2.2.2.2.2.2.2)) (wsn := (wX4 q cy x_isv r7.2.1 r7.2.2.1 r7.2.2.2.1 r13.2.1 r13.2.2 x_sna r7.2.2.2.2.2.2.1 r5.2 r7.2.2.2.2.2.2.2.1 r7.2.2.2.2.2.2.2.2.1 r7.2.2.2.2.2.2.2.2.2)) (wr := []) (c_L_isFit l D cy q x_isv r7.2.1 r7.2.2.1 r7.2.2.2.1 r7.2.2.2.2.1 r7.2.2.2.2.2.1 x_sna r7.2.2.2.2.2.2.1 r5.2 r7.2.2.2.2.2.2.2.1 r7.2.2.2.2.2.2.2.2.1 r7.2.2.2.2.2.2.2.2.2 _ hst e12) lk_RL_255 rfl rfl hRML_isFit hP hD hS hA hK hN hX hC (List.Perm.of_eq (List.append_nil _).symm) (List.Perm.of_eq (List.append_nil _)) rfl hl.1 rfl (Nat.le_of_ble_eq_true rfl) ⟨rmC (by omega), rmS (by omega)⟩ (dg ddL_law4 18 rfl) (fun H locs hP hD hS => ?_)
            refine lv_if_eq (tgt := 289) hx hb (dg ddL_law4 19 rfl) (by decide) (fun h14 => ?_) (fun h14 => ?_)
            · have hf := it_t h14 hf
              refine lv_iconst (v := 0) hx hb (dg ddL_law4 30 rfl) (by decide) ?_
              refine lv_istore_n (lv' := [(3, .int 0), (8, .int r7.1), (1, .ref (q 0 0)), (4, .long x4), (6, .int x6), (7, .int x7)]) hx hb (dg ddL_law4 31 rfl) rfl hl (by decide) rfl (fun ls hl => ?_)
              refine lv_iinc (v := x7 + 1) (lv' := [(7, .int (x7 + 1)), (3, .int 0), (8, .int r7.1), (1, .ref (q 0 0)), (4, .long x4), (6, .int x6)]) hx hb (dg ddL_law5 0 rfl) hl (k := 5) rfl (congrArg (HAdd.hAdd x7) (by decide)) (by decide) rfl (fun ls hl => ?_)
              refine lv_goto (tgt := 218) hx hb (dg ddL_law5 1 rfl) (by decide) ?_
              refine W.widen (k := (k + 647)) (n := (ks + 8 * 647)) (by omega) (by omega) ?_
              exact ih 0 x4 x6 (x7 + 1) x_isv r7.2.1 r7.2.2.1 r7.2.2.2.1 r13.2.1 r13.2.2 x_sna r7.2.2.2.2.2.2.1 r5.2 r7.2.2.2.2.2.2.2.1 r7.2.2.2.2.2.2.2.2.1 r7.2.2.2.2.2.2.2.2.2 (k + 647) (ks + 8 * 647) (by omega) (by omega) _ _ hP hD hS _ (lv_sub hl [3, 1, 4, 5, 0] rfl) hf
            · have hf := it_f h14 hf
              refine lv_aload_n hx hb (dg ddL_law4 20 rfl) rfl (lv_at hl 1 rfl) ?_
              obtain ⟨r16, e15, hf⟩ := ob_some hf
              refine crl_i CX hml (As := [.ref (q 0 0)]) (rest := []) (ws := (wX4 q cy x_isv r7.2.1 r7.2.2.1 r7.2.2.2.1 r13.2.1 r13.2.2 x_sna r7.2.2.2.2.2.2.1 r5.2 r7.2.2.2.2.2.2.2.1 r7.2.2.2.2.2.2.2.2.1 r7.2.2.2.2.2.2.2.2.2)) (wsn := (wX4 q cy x_isv r7.2.1 r7.2.2.1 r7.2.2.2.1 r16.2.1 r13.2.2 x_sna r7.2.2.2.2.2.2.1 r5.2 r16.2.2.1 r16.2.2.2 r7.2.2.2.2.2.2.2.2.2)) (wr := []) (c_L_undo l D cy q x_isv r7.2.1 r7.2.2.1 r7.2.2.2.1 r13.2.1 r13.2.2 x_sna r7.2.2.2.2.2.2.1 r5.2 r7.2.2.2.2.2.2.2.1 r7.2.2.2.2.2.2.2.2.1 r7.2.2.2.2.2.2.2.2.2 _ hst e15) lk_RL_151 rfl rfl hRML_undo hP hD hS hA hK hN hX hC (List.Perm.of_eq (List.append_nil _).symm) (List.Perm.of_eq (List.append_nil _)) rfl hl.1 rfl (Nat.le_of_ble_eq_true rfl) ⟨rmC (by omega), rmS (by omega)⟩ (dg ddL_law4 21 rfl) (fun H locs hP hD hS => ?_)
              refine lv_if_lt (tgt := 289) hx hb (dg ddL_law4 22 rfl) (by decide) (fun h17 => ?_) (fun h17 => ?_)
              · have hf := it_t h17 hf
                refine lv_iconst (v := 0) hx hb (dg ddL_law4 30 rfl) (by decide) ?_
                refine lv_istore_n (lv' := [(3, .int 0), (8, .int r7.1), (1, .ref (q 0 0)), (4, .long x4), (6, .int x6), (7, .int x7)]) hx hb (dg ddL_law4 31 rfl) rfl hl (by decide) rfl (fun ls hl => ?_)
                refine lv_iinc (v := x7 + 1) (lv' := [(7, .int (x7 + 1)), (3, .int 0), (8, .int r7.1), (1, .ref (q 0 0)), (4, .long x4), (6, .int x6)]) hx hb (dg ddL_law5 0 rfl) hl (k := 5) rfl (congrArg (HAdd.hAdd x7) (by decide)) (by decide) rfl (fun ls hl => ?_)
                refine lv_goto (tgt := 218) hx hb (dg ddL_law5 1 rfl) (by decide) ?_
                refine W.widen (k := (k + 648)) (n := (ks + 8 * 648)) (by omega) (by omega) ?_
                exact ih 0 x4 x6 (x7 + 1) x_isv r7.2.1 r7.2.2.1 r7.2.2.2.1 r16.2.1 r13.2.2 x_sna r7.2.2.2.2.2.2.1 r5.2 r16.2.2.1 r16.2.2.2 r7.2.2.2.2.2.2.2.2.2 (k + 648) (ks + 8 * 648) (by omega) (by omega) _ _ hP hD hS _ (lv_sub hl [3, 1, 4, 5, 0] rfl) hf
              · have hf := it_f h17 hf
                refine W.widen (k := (k + 648)) (n := (ks + 8 * 648)) (by omega) (by omega) ?_
                exact K275 (n * 943 + E218) (f_L_law_c218 L xs n) ih  x4 x6 x7 x_isv r7.2.1 r7.2.2.1 r7.2.2.2.1 r16.2.1 r13.2.2 x_sna r7.2.2.2.2.2.2.1 r5.2 r16.2.2.1 r16.2.2.2 r7.2.2.2.2.2.2.2.2.2 (k + 648) (ks + 8 * 648) (by omega) (by omega) _ _ hP hD hS _ (lv_sub hl [1, 3, 4, 5] rfl) hf
  have K163 : ∀ (x3 : Int32) (x_isv : Int32) (x_te : Int32) (x_re : Int32) (x_de : Int32) (x_now : SV) (x_spa : SV) (x_sna : SV) (x_len : Int32) (x_sig : Nat → Int32) (x_nxt : Int32) (x_cnt : Int32) (x_rng : Nat → SV) (k ks : Nat) (hk : k + (E163) ≤ 57000) (hks : ks + 8 * (E163) ≤ 457000) (H : Heap) (locs : List Loc) (hP : va_P D vwCl (wX4 q cy x_isv x_te x_re x_de x_now x_spa x_sna x_len x_sig x_nxt x_cnt x_rng) H) (hD : va_D A (wX4 q cy x_isv x_te x_re x_de x_now x_spa x_sna x_len x_sig x_nxt x_cnt x_rng)) (hS : va_S A s.heap H locs) (ls : Array Slot) (hl : lv_has ls 9 [(1, .ref (q 0 0)), (3, .int x3)]) (hf : f_L_law_c163 L xs x3 x_isv x_te x_re x_de x_now x_spa x_sna x_len x_sig x_nxt x_cnt x_rng = some (1 : Int32)), W p l e room_1 s m args below meth c H locs k ks Q (F0 m 163 ls []) := by
    intro x3 x_isv x_te x_re x_de x_now x_spa x_sna x_len x_sig x_nxt x_cnt x_rng k ks hk hks H locs hP hD hS ls hl hf
    refine lv_aload_n hx hb (dg ddL_law3 0 rfl) rfl (lv_at hl 0 rfl) ?_
    obtain ⟨r2, e1, hf⟩ := ob_some hf
    refine crl_i CX hml (As := [.ref (q 0 0)]) (rest := []) (ws := (wX4 q cy x_isv x_te x_re x_de x_now x_spa x_sna x_len x_sig x_nxt x_cnt x_rng)) (wsn := (wX4 q cy x_isv r2.2.1 r2.2.2.1 r2.2.2.2.1 r2.2.2.2.2.1 r2.2.2.2.2.2.1 x_sna r2.2.2.2.2.2.2.1 x_sig r2.2.2.2.2.2.2.2.1 r2.2.2.2.2.2.2.2.2.1 r2.2.2.2.2.2.2.2.2.2)) (wr := []) (c_L_read l D cy q x_isv x_te x_re x_de x_now x_spa x_sna x_len x_sig x_nxt x_cnt x_rng _ hst e1) lk_RL_143 rfl rfl hRML_read hP hD hS hA hK hN hX hC (List.Perm.of_eq (List.append_nil _).symm) (List.Perm.of_eq (List.append_nil _)) rfl hl.1 rfl (Nat.le_of_ble_eq_true rfl) ⟨rmC (by omega), rmS (by omega)⟩ (dg ddL_law3 1 rfl) (fun H locs hP hD hS => ?_)
    refine lv_pop hx hb (dg ddL_law3 2 rfl) rfl ?_
    refine lv_aload_n hx hb (dg ddL_law3 3 rfl) rfl (lv_at hl 0 rfl) ?_
    obtain ⟨r4, e3, hf⟩ := ob_some hf
    refine crc_l CX hml (As := [.ref (q 0 0)]) (rest := []) (ws := (wX4 q cy x_isv r2.2.1 r2.2.2.1 r2.2.2.2.1 r2.2.2.2.2.1 r2.2.2.2.2.2.1 x_sna r2.2.2.2.2.2.2.1 x_sig r2.2.2.2.2.2.2.2.1 r2.2.2.2.2.2.2.2.2.1 r2.2.2.2.2.2.2.2.2.2)) (wsn := (wX4 q cy x_isv r2.2.1 r2.2.2.1 r2.2.2.2.1 r2.2.2.2.2.1 r2.2.2.2.2.2.1 x_sna r2.2.2.2.2.2.2.1 x_sig r2.2.2.2.2.2.2.2.1 r2.2.2.2.2.2.2.2.2.1 r2.2.2.2.2.2.2.2.2.2)) (wr := []) (c_L_digest l D cy q x_isv r2.2.1 r2.2.2.1 r2.2.2.2.1 r2.2.2.2.2.1 r2.2.2.2.2.2.1 x_sna r2.2.2.2.2.2.2.1 x_sig r2.2.2.2.2.2.2.2.1 r2.2.2.2.2.2.2.2.2.1 r2.2.2.2.2.2.2.2.2.2 _ hst e3) lk_RL_252 rfl rfl hRML_digest hP hD hS hA hK hN hX hC (List.Perm.of_eq (List.append_nil _).symm) (List.Perm.of_eq (List.append_nil _)) rfl hl.1 rfl (Nat.le_of_ble_eq_true rfl) ⟨rmC (by omega), rmS (by omega)⟩ (dg ddL_law3 4 rfl) (fun H locs hP hD hS => ?_)
    refine lv_lstore (lv' := [(4, .long r4), (1, .ref (q 0 0)), (3, .int x3)]) hx hb (dg ddL_law3 5 rfl) hl (by decide) rfl (fun ls hl => ?_)
    refine lv_aload_n hx hb (dg ddL_law3 6 rfl) rfl (lv_at hl 1 rfl) ?_
    obtain ⟨r6, e5, hf⟩ := ob_some hf
    refine crf_vi CX hml (As := []) (rest := []) (ws := (wX4 q cy x_isv r2.2.1 r2.2.2.1 r2.2.2.2.1 r2.2.2.2.2.1 r2.2.2.2.2.2.1 x_sna r2.2.2.2.2.2.2.1 x_sig r2.2.2.2.2.2.2.2.1 r2.2.2.2.2.2.2.2.2.1 r2.2.2.2.2.2.2.2.2.2)) (wsn := (wX4 q cy r6.2.1 r2.2.1 r2.2.2.1 r2.2.2.2.1 r2.2.2.2.2.1 r2.2.2.2.2.2.1 r6.2.2 r2.2.2.2.2.2.2.1 x_sig r2.2.2.2.2.2.2.2.1 r2.2.2.2.2.2.2.2.2.1 r2.2.2.2.2.2.2.2.2.2)) (wr := []) (c_X4_save l D cy q x_isv r2.2.1 r2.2.2.1 r2.2.2.2.1 r2.2.2.2.2.1 r2.2.2.2.2.2.1 x_sna r2.2.2.2.2.2.2.1 x_sig r2.2.2.2.2.2.2.2.1 r2.2.2.2.2.2.2.2.2.1 r2.2.2.2.2.2.2.2.2.2 _ e5) lk_RL_146 rfl rfl hRMX4_save hP hD hS hA hK hN (List.Perm.of_eq (List.append_nil _).symm) (List.Perm.of_eq (List.append_nil _)) 0 rfl rfl rfl hl.1 rfl (Nat.le_of_ble_eq_true rfl) ⟨rmC (by omega), rmS (by omega)⟩ (dg ddL_law3 7 rfl) (fun H locs hP hD hS => ?_)
    refine lv_istore (lv' := [(6, .int r6.1), (4, .long r4), (1, .ref (q 0 0)), (3, .int x3)]) hx hb (dg ddL_law3 8 rfl) hl (by decide) rfl (fun ls hl => ?_)
    refine lv_iload_n hx hb (dg ddL_law3 9 rfl) rfl (lv_at hl 3 rfl) ?_
    refine lv_if_eq (tgt := 213) hx hb (dg ddL_law3 10 rfl) (by decide) (fun h7 => ?_) (fun h7 => ?_)
    · have hf := it_t h7 hf
      refine lv_iconst (v := 0) hx hb (dg ddL_law3 25 rfl) (by decide) ?_
      refine lv_istore_n (lv' := [(3, .int 0), (6, .int r6.1), (4, .long r4), (1, .ref (q 0 0))]) hx hb (dg ddL_law3 26 rfl) rfl hl (by decide) rfl (fun ls hl => ?_)
      refine lv_iconst (v := 0) hx hb (dg ddL_law3 27 rfl) (by decide) ?_
      refine lv_istore (lv' := [(7, .int 0), (3, .int 0), (6, .int r6.1), (4, .long r4), (1, .ref (q 0 0))]) hx hb (dg ddL_law3 28 rfl) hl (by decide) rfl (fun ls hl => ?_)
      refine W.widen (k := (k + 296)) (n := (ks + 8 * 296)) (by omega) (by omega) ?_
      exact K218 19 0 r4 r6.1 0 r6.2.1 r2.2.1 r2.2.2.1 r2.2.2.2.1 r2.2.2.2.2.1 r2.2.2.2.2.2.1 r6.2.2 r2.2.2.2.2.2.2.1 x_sig r2.2.2.2.2.2.2.2.1 r2.2.2.2.2.2.2.2.2.1 r2.2.2.2.2.2.2.2.2.2 (k + 296) (ks + 8 * 296) (by omega) (by omega) _ _ hP hD hS _ (lv_sub hl [4, 1, 3, 2, 0] rfl) hf
    · have hf := it_f h7 hf
      refine lv_aload_n hx hb (dg ddL_law3 11 rfl) rfl (lv_at hl 2 rfl) ?_
      refine lv_iconst (v := 1) hx hb (dg ddL_law3 12 rfl) (by decide) ?_
      obtain ⟨r9, e8, hf⟩ := ob_some hf
      refine crc_i CX hml (As := [.ref (q 0 0), .int 1]) (rest := []) (ws := (wX4 q cy r6.2.1 r2.2.1 r2.2.2.1 r2.2.2.2.1 r2.2.2.2.2.1 r2.2.2.2.2.2.1 r6.2.2 r2.2.2.2.2.2.2.1 x_sig r2.2.2.2.2.2.2.2.1 r2.2.2.2.2.2.2.2.2.1 r2.2.2.2.2.2.2.2.2.2)) (wsn := (wX4 q cy r6.2.1 r2.2.1 r2.2.2.1 r2.2.2.2.1 r9.2.1 r9.2.2.1 r6.2.2 r2.2.2.2.2.2.2.1 x_sig r9.2.2.2.1 r9.2.2.2.2.1 r9.2.2.2.2.2)) (wr := []) (c_L_isAhead l D cy q r6.2.1 r2.2.1 r2.2.2.1 r2.2.2.2.1 r2.2.2.2.2.1 r2.2.2.2.2.2.1 r6.2.2 r2.2.2.2.2.2.2.1 x_sig r2.2.2.2.2.2.2.2.1 r2.2.2.2.2.2.2.2.2.1 r2.2.2.2.2.2.2.2.2.2 1 _ hst e8) lk_RL_269 rfl rfl hRML_isAhead hP hD hS hA hK hN hX hC (List.Perm.of_eq (List.append_nil _).symm) (List.Perm.of_eq (List.append_nil _)) rfl hl.1 rfl (Nat.le_of_ble_eq_true rfl) ⟨rmC (by omega), rmS (by omega)⟩ (dg ddL_law3 13 rfl) (fun H locs hP hD hS => ?_)
      refine lv_if_eq (tgt := 213) hx hb (dg ddL_law3 14 rfl) (by decide) (fun h10 => ?_) (fun h10 => ?_)
      · have hf := it_t h10 hf
        refine lv_iconst (v := 0) hx hb (dg ddL_law3 25 rfl) (by decide) ?_
        refine lv_istore_n (lv' := [(3, .int 0), (6, .int r6.1), (4, .long r4), (1, .ref (q 0 0))]) hx hb (dg ddL_law3 26 rfl) rfl hl (by decide) rfl (fun ls hl => ?_)
        refine lv_iconst (v := 0) hx hb (dg ddL_law3 27 rfl) (by decide) ?_
        refine lv_istore (lv' := [(7, .int 0), (3, .int 0), (6, .int r6.1), (4, .long r4), (1, .ref (q 0 0))]) hx hb (dg ddL_law3 28 rfl) hl (by decide) rfl (fun ls hl => ?_)
        refine W.widen (k := (k + 1629)) (n := (ks + 8 * 1629)) (by omega) (by omega) ?_
        exact K218 19 0 r4 r6.1 0 r6.2.1 r2.2.1 r2.2.2.1 r2.2.2.2.1 r9.2.1 r9.2.2.1 r6.2.2 r2.2.2.2.2.2.2.1 x_sig r9.2.2.2.1 r9.2.2.2.2.1 r9.2.2.2.2.2 (k + 1629) (ks + 8 * 1629) (by omega) (by omega) _ _ hP hD hS _ (lv_sub hl [4, 1, 3, 2, 0] rfl) hf
      · have hf := it_f h10 hf
        refine lv_aload_n hx hb (dg ddL_law3 15 rfl) rfl (lv_at hl 2 rfl) ?_
        refine lv_iconst (v := 5) hx hb (dg ddL_law3 16 rfl) (by decide) ?_
        obtain ⟨r12, e11, hf⟩ := ob_some hf
        refine crc_i CX hml (As := [.ref (q 0 0), .int 5]) (rest := []) (ws := (wX4 q cy r6.2.1 r2.2.1 r2.2.2.1 r2.2.2.2.1 r9.2.1 r9.2.2.1 r6.2.2 r2.2.2.2.2.2.2.1 x_sig r9.2.2.2.1 r9.2.2.2.2.1 r9.2.2.2.2.2)) (wsn := (wX4 q cy r6.2.1 r2.2.1 r2.2.2.1 r2.2.2.2.1 r12.2.1 r12.2.2.1 r6.2.2 r2.2.2.2.2.2.2.1 x_sig r12.2.2.2.1 r12.2.2.2.2.1 r12.2.2.2.2.2)) (wr := []) (c_L_isAhead l D cy q r6.2.1 r2.2.1 r2.2.2.1 r2.2.2.2.1 r9.2.1 r9.2.2.1 r6.2.2 r2.2.2.2.2.2.2.1 x_sig r9.2.2.2.1 r9.2.2.2.2.1 r9.2.2.2.2.2 5 _ hst e11) lk_RL_269 rfl rfl hRML_isAhead hP hD hS hA hK hN hX hC (List.Perm.of_eq (List.append_nil _).symm) (List.Perm.of_eq (List.append_nil _)) rfl hl.1 rfl (Nat.le_of_ble_eq_true rfl) ⟨rmC (by omega), rmS (by omega)⟩ (dg ddL_law3 17 rfl) (fun H locs hP hD hS => ?_)
        refine lv_if_eq (tgt := 213) hx hb (dg ddL_law3 18 rfl) (by decide) (fun h13 => ?_) (fun h13 => ?_)
        · have hf := it_t h13 hf
          refine lv_iconst (v := 0) hx hb (dg ddL_law3 25 rfl) (by decide) ?_
          refine lv_istore_n (lv' := [(3, .int 0), (6, .int r6.1), (4, .long r4), (1, .ref (q 0 0))]) hx hb (dg ddL_law3 26 rfl) rfl hl (by decide) rfl (fun ls hl => ?_)
          refine lv_iconst (v := 0) hx hb (dg ddL_law3 27 rfl) (by decide) ?_
          refine lv_istore (lv' := [(7, .int 0), (3, .int 0), (6, .int r6.1), (4, .long r4), (1, .ref (q 0 0))]) hx hb (dg ddL_law3 28 rfl) hl (by decide) rfl (fun ls hl => ?_)
          refine W.widen (k := (k + 2962)) (n := (ks + 8 * 2962)) (by omega) (by omega) ?_
          exact K218 19 0 r4 r6.1 0 r6.2.1 r2.2.1 r2.2.2.1 r2.2.2.2.1 r12.2.1 r12.2.2.1 r6.2.2 r2.2.2.2.2.2.2.1 x_sig r12.2.2.2.1 r12.2.2.2.2.1 r12.2.2.2.2.2 (k + 2962) (ks + 8 * 2962) (by omega) (by omega) _ _ hP hD hS _ (lv_sub hl [4, 1, 3, 2, 0] rfl) hf
        · have hf := it_f h13 hf
          refine lv_aload_n hx hb (dg ddL_law3 19 rfl) rfl (lv_at hl 2 rfl) ?_
          refine lv_bipush (v := 60) hx hb (dg ddL_law3 20 rfl) (by decide) ?_
          obtain ⟨r15, e14, hf⟩ := ob_some hf
          refine crc_i CX hml (As := [.ref (q 0 0), .int 60]) (rest := []) (ws := (wX4 q cy r6.2.1 r2.2.1 r2.2.2.1 r2.2.2.2.1 r12.2.1 r12.2.2.1 r6.2.2 r2.2.2.2.2.2.2.1 x_sig r12.2.2.2.1 r12.2.2.2.2.1 r12.2.2.2.2.2)) (wsn := (wX4 q cy r6.2.1 r2.2.1 r2.2.2.1 r2.2.2.2.1 r15.2.1 r15.2.2.1 r6.2.2 r2.2.2.2.2.2.2.1 x_sig r15.2.2.2.1 r15.2.2.2.2.1 r15.2.2.2.2.2)) (wr := []) (c_L_isAhead l D cy q r6.2.1 r2.2.1 r2.2.2.1 r2.2.2.2.1 r12.2.1 r12.2.2.1 r6.2.2 r2.2.2.2.2.2.2.1 x_sig r12.2.2.2.1 r12.2.2.2.2.1 r12.2.2.2.2.2 60 _ hst e14) lk_RL_269 rfl rfl hRML_isAhead hP hD hS hA hK hN hX hC (List.Perm.of_eq (List.append_nil _).symm) (List.Perm.of_eq (List.append_nil _)) rfl hl.1 rfl (Nat.le_of_ble_eq_true rfl) ⟨rmC (by omega), rmS (by omega)⟩ (dg ddL_law3 21 rfl) (fun H locs hP hD hS => ?_)
          refine lv_if_eq (tgt := 213) hx hb (dg ddL_law3 22 rfl) (by decide) (fun h16 => ?_) (fun h16 => ?_)
          · have hf := it_t h16 hf
            refine lv_iconst (v := 0) hx hb (dg ddL_law3 25 rfl) (by decide) ?_
            refine lv_istore_n (lv' := [(3, .int 0), (6, .int r6.1), (4, .long r4), (1, .ref (q 0 0))]) hx hb (dg ddL_law3 26 rfl) rfl hl (by decide) rfl (fun ls hl => ?_)
            refine lv_iconst (v := 0) hx hb (dg ddL_law3 27 rfl) (by decide) ?_
            refine lv_istore (lv' := [(7, .int 0), (3, .int 0), (6, .int r6.1), (4, .long r4), (1, .ref (q 0 0))]) hx hb (dg ddL_law3 28 rfl) hl (by decide) rfl (fun ls hl => ?_)
            refine W.widen (k := (k + 4295)) (n := (ks + 8 * 4295)) (by omega) (by omega) ?_
            exact K218 19 0 r4 r6.1 0 r6.2.1 r2.2.1 r2.2.2.1 r2.2.2.2.1 r15.2.1 r15.2.2.1 r6.2.2 r2.2.2.2.2.2.2.1 x_sig r15.2.2.2.1 r15.2.2.2.2.1 r15.2.2.2.2.2 (k + 4295) (ks + 8 * 4295) (by omega) (by omega) _ _ hP hD hS _ (lv_sub hl [4, 1, 3, 2, 0] rfl) hf
          · have hf := it_f h16 hf
            refine lv_iconst (v := 1) hx hb (dg ddL_law3 23 rfl) (by decide) ?_
            refine lv_goto (tgt := 214) hx hb (dg ddL_law3 24 rfl) (by decide) ?_
            refine lv_istore_n (lv' := [(3, .int 1), (6, .int r6.1), (4, .long r4), (1, .ref (q 0 0))]) hx hb (dg ddL_law3 26 rfl) rfl hl (by decide) rfl (fun ls hl => ?_)
            refine lv_iconst (v := 0) hx hb (dg ddL_law3 27 rfl) (by decide) ?_
            refine lv_istore (lv' := [(7, .int 0), (3, .int 1), (6, .int r6.1), (4, .long r4), (1, .ref (q 0 0))]) hx hb (dg ddL_law3 28 rfl) hl (by decide) rfl (fun ls hl => ?_)
            refine W.widen (k := (k + 4295)) (n := (ks + 8 * 4295)) (by omega) (by omega) ?_
            exact K218 19 1 r4 r6.1 0 r6.2.1 r2.2.1 r2.2.2.1 r2.2.2.2.1 r15.2.1 r15.2.2.1 r6.2.2 r2.2.2.2.2.2.2.1 x_sig r15.2.2.2.1 r15.2.2.2.2.1 r15.2.2.2.2.2 (k + 4295) (ks + 8 * 4295) (by omega) (by omega) _ _ hP hD hS _ (lv_sub hl [4, 1, 3, 2, 0] rfl) hf
  have K136 : ∀ (n : Nat), ∀ (x3 : Int32) (x4 : Int32) (x_isv : Int32) (x_te : Int32) (x_re : Int32) (x_de : Int32) (x_now : SV) (x_spa : SV) (x_sna : SV) (x_len : Int32) (x_sig : Nat → Int32) (x_nxt : Int32) (x_cnt : Int32) (x_rng : Nat → SV) (k ks : Nat) (hk : k + (n * 57 + E136) ≤ 57000) (hks : ks + 8 * (n * 57 + E136) ≤ 457000) (H : Heap) (locs : List Loc) (hP : va_P D vwCl (wX4 q cy x_isv x_te x_re x_de x_now x_spa x_sna x_len x_sig x_nxt x_cnt x_rng) H) (hD : va_D A (wX4 q cy x_isv x_te x_re x_de x_now x_spa x_sna x_len x_sig x_nxt x_cnt x_rng)) (hS : va_S A s.heap H locs) (ls : Array Slot) (hl : lv_has ls 9 [(1, .ref (q 0 0)), (3, .int x3), (4, .int x4)]) (hf : f_L_law_c136 L xs n x3 x4 x_isv x_te x_re x_de x_now x_spa x_sna x_len x_sig x_nxt x_cnt x_rng = some (1 : Int32)), W p l e room_1 s m args below meth c H locs k ks Q (F0 m 136 ls []) := by
    intro n
    induction n with
    | zero => intro x3 x4 x_isv x_te x_re x_de x_now x_spa x_sna x_len x_sig x_nxt x_cnt x_rng k ks hk hks H locs hP hD hS ls hl hf; cases (show (none : Option Int32) = some (1 : Int32) from hf)
    | succ n ih =>
    intro x3 x4 x_isv x_te x_re x_de x_now x_spa x_sna x_len x_sig x_nxt x_cnt x_rng k ks hk hks H locs hP hD hS ls hl hf
    refine lv_iload_n hx hb (dg ddL_law2 19 rfl) rfl (lv_at hl 1 rfl) ?_
    refine lv_if_eq (tgt := 163) hx hb (dg ddL_law2 20 rfl) (by decide) (fun h1 => ?_) (fun h1 => ?_)
    · have hf := it_t h1 hf
      refine W.widen (k := (k + 0)) (n := (ks + 8 * 0)) (by omega) (by omega) ?_
      exact K163  x3 x_isv x_te x_re x_de x_now x_spa x_sna x_len x_sig x_nxt x_cnt x_rng (k + 0) (ks + 8 * 0) (by omega) (by omega) _ _ hP hD hS _ (lv_sub hl [0, 1] rfl) hf
    · have hf := it_f h1 hf
      refine lv_iload hx hb (dg ddL_law2 21 rfl) (lv_at hl 2 rfl) ?_
      refine lv_aload_n hx hb (dg ddL_law2 22 rfl) rfl (lv_at hl 0 rfl) ?_
      refine lv_iconst (v := 2) hx hb (dg ddL_law2 23 rfl) (by decide) ?_
      obtain ⟨r3, e2, hf⟩ := ob_some hf
      rcases r3 with t9 | x_r3
      · cases os_l hf
      have hf := os_r hf
      refine crv_ri CX hml (As := [.int 2]) (rest := [.int x4]) (ws := (wX4 q cy x_isv x_te x_re x_de x_now x_spa x_sna x_len x_sig x_nxt x_cnt x_rng)) (wsn := (wX4 q cy x_isv x_te x_re x_de x_now x_spa x_sna x_len x_sig x_nxt x_cnt x_rng)) (wr := []) (c_X4_account l D cy q x_isv x_te x_re x_de x_now x_spa x_sna x_len x_sig x_nxt x_cnt x_rng 2 _ hst e2) lk_RL_159 rfl rfl hRMX4_account hP hD hS hA hK hN hX (List.Perm.of_eq (List.append_nil _).symm) (List.Perm.of_eq (List.append_nil _)) 0 rfl rfl rfl hl.1 rfl (Nat.le_of_ble_eq_true rfl) ⟨rmC (by omega), rmS (by omega)⟩ (dg ddL_law2 24 rfl) (fun H locs hP hD hS => ?_)
      refine lv_icmp_ge (tgt := 163) hx hb (dg ddL_law2 25 rfl) (by decide) (fun h4 => ?_) (fun h4 => ?_)
      · have hf := it_t h4 hf
        refine W.widen (k := (k + 1)) (n := (ks + 8 * 1)) (by omega) (by omega) ?_
        exact K163  x3 x_isv x_te x_re x_de x_now x_spa x_sna x_len x_sig x_nxt x_cnt x_rng (k + 1) (ks + 8 * 1) (by omega) (by omega) _ _ hP hD hS _ (lv_sub hl [0, 1] rfl) hf
      · have hf := it_f h4 hf
        refine lv_aload_n hx hb (dg ddL_law2 26 rfl) rfl (lv_at hl 0 rfl) ?_
        refine lv_iload hx hb (dg ddL_law2 27 rfl) (lv_at hl 2 rfl) ?_
        obtain ⟨r6, e5, hf⟩ := ob_some hf
        refine crc_i CX hml (As := [.ref (q 0 0), .int x4]) (rest := []) (ws := (wX4 q cy x_isv x_te x_re x_de x_now x_spa x_sna x_len x_sig x_nxt x_cnt x_rng)) (wsn := (wX4 q cy x_isv x_te x_re x_de r6.2.1 x_spa x_sna x_len x_sig r6.2.2.1 r6.2.2.2.1 r6.2.2.2.2)) (wr := []) (c_L_isQuietest l D cy q x_isv x_te x_re x_de x_now x_spa x_sna x_len x_sig x_nxt x_cnt x_rng x4 _ hst e5) lk_RL_266 rfl rfl hRML_isQuietest hP hD hS hA hK hN hX hC (List.Perm.of_eq (List.append_nil _).symm) (List.Perm.of_eq (List.append_nil _)) rfl hl.1 rfl (Nat.le_of_ble_eq_true rfl) ⟨rmC (by omega), rmS (by omega)⟩ (dg ddL_law2 28 rfl) (fun H locs hP hD hS => ?_)
        refine lv_istore_n (lv' := [(3, .int r6.1), (1, .ref (q 0 0)), (4, .int x4)]) hx hb (dg ddL_law2 29 rfl) rfl hl (by decide) rfl (fun ls hl => ?_)
        refine lv_iinc (v := x4 + 1) (lv' := [(4, .int (x4 + 1)), (3, .int r6.1), (1, .ref (q 0 0))]) hx hb (dg ddL_law2 30 rfl) hl (k := 2) rfl (congrArg (HAdd.hAdd x4) (by decide)) (by decide) rfl (fun ls hl => ?_)
        refine lv_goto (tgt := 136) hx hb (dg ddL_law2 31 rfl) (by decide) ?_
        refine W.widen (k := (k + 57)) (n := (ks + 8 * 57)) (by omega) (by omega) ?_
        exact ih r6.1 (x4 + 1) x_isv x_te x_re x_de r6.2.1 x_spa x_sna x_len x_sig r6.2.2.1 r6.2.2.2.1 r6.2.2.2.2 (k + 57) (ks + 8 * 57) (by omega) (by omega) _ _ hP hD hS _ (lv_sub hl [2, 1, 0] rfl) hf
  have K85 : ∀ (n : Nat), ∀ (x2 : Int32) (x3 : Int32) (x_isv : Int32) (x_te : Int32) (x_re : Int32) (x_de : Int32) (x_now : SV) (x_spa : SV) (x_sna : SV) (x_len : Int32) (x_sig : Nat → Int32) (x_nxt : Int32) (x_cnt : Int32) (x_rng : Nat → SV) (k ks : Nat) (hk : k + (n * 603 + E85) ≤ 57000) (hks : ks + 8 * (n * 603 + E85) ≤ 457000) (H : Heap) (locs : List Loc) (hP : va_P D vwCl (wX4 q cy x_isv x_te x_re x_de x_now x_spa x_sna x_len x_sig x_nxt x_cnt x_rng) H) (hD : va_D A (wX4 q cy x_isv x_te x_re x_de x_now x_spa x_sna x_len x_sig x_nxt x_cnt x_rng)) (hS : va_S A s.heap H locs) (ls : Array Slot) (hl : lv_has ls 9 [(0, .ref (b)), (1, .ref (q 0 0)), (2, .int x2), (3, .int x3)]) (hf : f_L_law_c85 L xs n x2 x3 x_isv x_te x_re x_de x_now x_spa x_sna x_len x_sig x_nxt x_cnt x_rng = some (1 : Int32)), W p l e room_1 s m args below meth c H locs k ks Q (F0 m 85 ls []) := by
    intro n
    induction n with
    | zero => intro x2 x3 x_isv x_te x_re x_de x_now x_spa x_sna x_len x_sig x_nxt x_cnt x_rng k ks hk hks H locs hP hD hS ls hl hf; cases (show (none : Option Int32) = some (1 : Int32) from hf)
    | succ n ih =>
    intro x2 x3 x_isv x_te x_re x_de x_now x_spa x_sna x_len x_sig x_nxt x_cnt x_rng k ks hk hks H locs hP hD hS ls hl hf
    refine lv_iload_n hx hb (dg ddL_law1 24 rfl) rfl (lv_at hl 3 rfl) ?_
    refine lv_iload_n hx hb (dg ddL_law1 25 rfl) rfl (lv_at hl 2 rfl) ?_
    refine lv_icmp_ge (tgt := 128) hx hb (dg ddL_law1 26 rfl) (by decide) (fun h1 => ?_) (fun h1 => ?_)
    · have hf := it_t h1 hf
      refine lv_aload_n hx hb (dg ddL_law2 14 rfl) rfl (lv_at hl 1 rfl) ?_
      obtain ⟨r3, e2, hf⟩ := ob_some hf
      refine crc_i CX hml (As := [.ref (q 0 0)]) (rest := []) (ws := (wX4 q cy x_isv x_te x_re x_de x_now x_spa x_sna x_len x_sig x_nxt x_cnt x_rng)) (wsn := (wX4 q cy x_isv x_te x_re x_de r3.2.1 r3.2.2 x_sna x_len x_sig x_nxt x_cnt x_rng)) (wr := []) (c_L_isFit l D cy q x_isv x_te x_re x_de x_now x_spa x_sna x_len x_sig x_nxt x_cnt x_rng _ hst e2) lk_RL_255 rfl rfl hRML_isFit hP hD hS hA hK hN hX hC (List.Perm.of_eq (List.append_nil _).symm) (List.Perm.of_eq (List.append_nil _)) rfl hl.1 rfl (Nat.le_of_ble_eq_true rfl) ⟨rmC (by omega), rmS (by omega)⟩ (dg ddL_law2 15 rfl) (fun H locs hP hD hS => ?_)
      refine lv_istore_n (lv' := [(3, .int r3.1), (0, .ref (b)), (1, .ref (q 0 0)), (2, .int x2)]) hx hb (dg ddL_law2 16 rfl) rfl hl (by decide) rfl (fun ls hl => ?_)
      refine lv_iconst (v := 0) hx hb (dg ddL_law2 17 rfl) (by decide) ?_
      refine lv_istore (lv' := [(4, .int 0), (3, .int r3.1), (0, .ref (b)), (1, .ref (q 0 0)), (2, .int x2)]) hx hb (dg ddL_law2 18 rfl) hl (by decide) rfl (fun ls hl => ?_)
      refine W.widen (k := (k + 634)) (n := (ks + 8 * 634)) (by omega) (by omega) ?_
      exact K136 9 r3.1 0 x_isv x_te x_re x_de r3.2.1 r3.2.2 x_sna x_len x_sig x_nxt x_cnt x_rng (k + 634) (ks + 8 * 634) (by omega) (by omega) _ _ hP hD hS _ (lv_sub hl [3, 1, 0] rfl) hf
    · have hf := it_f h1 hf
      refine lv_aload_n hx hb (dg ddL_law1 27 rfl) rfl (lv_at hl 1 rfl) ?_
      obtain ⟨r5, e4, hf⟩ := ob_some hf
      refine crc_l CX hml (As := [.ref (q 0 0)]) (rest := []) (ws := (wX4 q cy x_isv x_te x_re x_de x_now x_spa x_sna x_len x_sig x_nxt x_cnt x_rng)) (wsn := (wX4 q cy x_isv x_te x_re x_de x_now x_spa x_sna x_len x_sig x_nxt x_cnt x_rng)) (wr := []) (c_L_digest l D cy q x_isv x_te x_re x_de x_now x_spa x_sna x_len x_sig x_nxt x_cnt x_rng _ hst e4) lk_RL_252 rfl rfl hRML_digest hP hD hS hA hK hN hX hC (List.Perm.of_eq (List.append_nil _).symm) (List.Perm.of_eq (List.append_nil _)) rfl hl.1 rfl (Nat.le_of_ble_eq_true rfl) ⟨rmC (by omega), rmS (by omega)⟩ (dg ddL_law1 28 rfl) (fun H locs hP hD hS => ?_)
      refine lv_lstore (lv' := [(4, .long r5), (0, .ref (b)), (1, .ref (q 0 0)), (2, .int x2), (3, .int x3)]) hx hb (dg ddL_law1 29 rfl) hl (by decide) rfl (fun ls hl => ?_)
      refine lv_aload_n hx hb (dg ddL_law1 30 rfl) rfl (lv_at hl 2 rfl) ?_
      refine lv_aload_n hx hb (dg ddL_law1 31 rfl) rfl (lv_at hl 1 rfl) ?_
      refine lv_iload_n hx hb (dg ddL_law2 0 rfl) rfl (lv_at hl 4 rfl) ?_
      obtain ⟨r7, e6, hf⟩ := ob_some hf
      refine csc_i CX hml (As := [.ref b, .int x3]) (rest := [.ref (q 0 0)]) (c_L_cell l b L xs x3 e6) lk_RL_259 rfl rfl hRML_cell hXs hbl hbA hS rfl hl.1 rfl (Nat.le_of_ble_eq_true rfl) ⟨rmC (by omega), rmS (by omega)⟩ (dg ddL_law2 1 rfl) ?_
      obtain ⟨r9, e8, hf⟩ := ob_some hf
      refine crt_i CX hml (As := [.ref (q 0 0), .int r7]) (rest := []) (ws := (wX4 q cy x_isv x_te x_re x_de x_now x_spa x_sna x_len x_sig x_nxt x_cnt x_rng)) (wsn := (wX4 q cy r9.2.1 r9.2.2.1 r9.2.2.2.1 r9.2.2.2.2.1 r9.2.2.2.2.2.1 r9.2.2.2.2.2.2.1 r9.2.2.2.2.2.2.2.1 r9.2.2.2.2.2.2.2.2.1 r9.2.2.2.2.2.2.2.2.2.1 r9.2.2.2.2.2.2.2.2.2.2.1 r9.2.2.2.2.2.2.2.2.2.2.2.1 r9.2.2.2.2.2.2.2.2.2.2.2.2)) (wr := []) (c_L_act l D cy q tK tV ta x_isv x_te x_re x_de x_now x_spa x_sna x_len x_sig x_nxt x_cnt x_rng r7 _ hst e8) lk_RL_263 rfl rfl hRML_act hP hD hS hA hK hN hX hC hT (List.Perm.of_eq (List.append_nil _).symm) (List.Perm.of_eq (List.append_nil _)) rfl hl.1 rfl (Nat.le_of_ble_eq_true rfl) ⟨rmC (by omega), rmS (by omega)⟩ (dg ddL_law2 2 rfl) (fun H locs hP hD hS => ?_)
      refine lv_ldc hx hb CX.2.2.2 (CX.2.2.1 (.constant RL 10 (-100000000)) (lw_at 336 (by decide +kernel))) (dg ddL_law2 3 rfl) ?_
      refine lv_icmp_ne (tgt := 122) hx hb (dg ddL_law2 4 rfl) (by decide) (fun h10 => ?_) (fun h10 => ?_)
      · have hf := it_f h10 hf
        refine lv_iinc (v := x3 + 1) (lv' := [(3, .int (x3 + 1)), (4, .long r5), (0, .ref (b)), (1, .ref (q 0 0)), (2, .int x2)]) hx hb (dg ddL_law2 12 rfl) hl (k := 4) rfl (congrArg (HAdd.hAdd x3) (by decide)) (by decide) rfl (fun ls hl => ?_)
        refine lv_goto (tgt := 85) hx hb (dg ddL_law2 13 rfl) (by decide) ?_
        refine W.widen (k := (k + 308)) (n := (ks + 8 * 308)) (by omega) (by omega) ?_
        exact ih x2 (x3 + 1) r9.2.1 r9.2.2.1 r9.2.2.2.1 r9.2.2.2.2.1 r9.2.2.2.2.2.1 r9.2.2.2.2.2.2.1 r9.2.2.2.2.2.2.2.1 r9.2.2.2.2.2.2.2.2.1 r9.2.2.2.2.2.2.2.2.2.1 r9.2.2.2.2.2.2.2.2.2.2.1 r9.2.2.2.2.2.2.2.2.2.2.2.1 r9.2.2.2.2.2.2.2.2.2.2.2.2 (k + 308) (ks + 8 * 308) (by omega) (by omega) _ _ hP hD hS _ (lv_sub hl [2, 3, 4, 0] rfl) hf
      · have hf := it_t h10 hf
        refine lv_aload_n hx hb (dg ddL_law2 5 rfl) rfl (lv_at hl 2 rfl) ?_
        obtain ⟨r12, e11, hf⟩ := ob_some hf
        refine crc_l CX hml (As := [.ref (q 0 0)]) (rest := []) (ws := (wX4 q cy r9.2.1 r9.2.2.1 r9.2.2.2.1 r9.2.2.2.2.1 r9.2.2.2.2.2.1 r9.2.2.2.2.2.2.1 r9.2.2.2.2.2.2.2.1 r9.2.2.2.2.2.2.2.2.1 r9.2.2.2.2.2.2.2.2.2.1 r9.2.2.2.2.2.2.2.2.2.2.1 r9.2.2.2.2.2.2.2.2.2.2.2.1 r9.2.2.2.2.2.2.2.2.2.2.2.2)) (wsn := (wX4 q cy r9.2.1 r9.2.2.1 r9.2.2.2.1 r9.2.2.2.2.1 r9.2.2.2.2.2.1 r9.2.2.2.2.2.2.1 r9.2.2.2.2.2.2.2.1 r9.2.2.2.2.2.2.2.2.1 r9.2.2.2.2.2.2.2.2.2.1 r9.2.2.2.2.2.2.2.2.2.2.1 r9.2.2.2.2.2.2.2.2.2.2.2.1 r9.2.2.2.2.2.2.2.2.2.2.2.2)) (wr := []) (c_L_digest l D cy q r9.2.1 r9.2.2.1 r9.2.2.2.1 r9.2.2.2.2.1 r9.2.2.2.2.2.1 r9.2.2.2.2.2.2.1 r9.2.2.2.2.2.2.2.1 r9.2.2.2.2.2.2.2.2.1 r9.2.2.2.2.2.2.2.2.2.1 r9.2.2.2.2.2.2.2.2.2.2.1 r9.2.2.2.2.2.2.2.2.2.2.2.1 r9.2.2.2.2.2.2.2.2.2.2.2.2 _ hst e11) lk_RL_252 rfl rfl hRML_digest hP hD hS hA hK hN hX hC (List.Perm.of_eq (List.append_nil _).symm) (List.Perm.of_eq (List.append_nil _)) rfl hl.1 rfl (Nat.le_of_ble_eq_true rfl) ⟨rmC (by omega), rmS (by omega)⟩ (dg ddL_law2 6 rfl) (fun H locs hP hD hS => ?_)
        refine lv_lload hx hb (dg ddL_law2 7 rfl) (lv_at hl 0 rfl) ?_
        refine W.lcmp hx hb (dg ddL_law2 8 rfl) ?_
        refine lv_if_eq (tgt := 122) hx hb (dg ddL_law2 9 rfl) (by decide) (fun h13 => ?_) (fun h13 => ?_)
        · have hf := it_t h13 hf
          refine lv_iinc (v := x3 + 1) (lv' := [(3, .int (x3 + 1)), (4, .long r5), (0, .ref (b)), (1, .ref (q 0 0)), (2, .int x2)]) hx hb (dg ddL_law2 12 rfl) hl (k := 4) rfl (congrArg (HAdd.hAdd x3) (by decide)) (by decide) rfl (fun ls hl => ?_)
          refine lv_goto (tgt := 85) hx hb (dg ddL_law2 13 rfl) (by decide) ?_
          refine W.widen (k := (k + 603)) (n := (ks + 8 * 603)) (by omega) (by omega) ?_
          exact ih x2 (x3 + 1) r9.2.1 r9.2.2.1 r9.2.2.2.1 r9.2.2.2.2.1 r9.2.2.2.2.2.1 r9.2.2.2.2.2.2.1 r9.2.2.2.2.2.2.2.1 r9.2.2.2.2.2.2.2.2.1 r9.2.2.2.2.2.2.2.2.2.1 r9.2.2.2.2.2.2.2.2.2.2.1 r9.2.2.2.2.2.2.2.2.2.2.2.1 r9.2.2.2.2.2.2.2.2.2.2.2.2 (k + 603) (ks + 8 * 603) (by omega) (by omega) _ _ hP hD hS _ (lv_sub hl [2, 3, 4, 0] rfl) hf
        · have hf := it_f h13 hf
          refine lv_iconst (v := 0) hx hb (dg ddL_law2 10 rfl) (by decide) ?_
          exact kend _ _ (Option.some.inj hf) _ _ _ _ _ (by omega) (by omega) hS (dg ddL_law2 11 rfl)
  have K10 : ∀ (n : Nat), ∀ (x2 : Int32) (x_isv : Int32) (x_te : Int32) (x_re : Int32) (x_de : Int32) (x_now : SV) (x_spa : SV) (x_sna : SV) (x_len : Int32) (x_sig : Nat → Int32) (x_nxt : Int32) (x_cnt : Int32) (x_rng : Nat → SV) (k ks : Nat) (hk : k + (n * 2 + E10) ≤ 57000) (hks : ks + 8 * (n * 2 + E10) ≤ 457000) (H : Heap) (locs : List Loc) (hP : va_P D vwCl (wX4 q cy x_isv x_te x_re x_de x_now x_spa x_sna x_len x_sig x_nxt x_cnt x_rng) H) (hD : va_D A (wX4 q cy x_isv x_te x_re x_de x_now x_spa x_sna x_len x_sig x_nxt x_cnt x_rng)) (hS : va_S A s.heap H locs) (ls : Array Slot) (hl : lv_has ls 9 [(0, .ref (b)), (1, .ref (q 0 0)), (2, .int x2)]) (hf : f_L_law_c10 L xs n x2 x_isv x_te x_re x_de x_now x_spa x_sna x_len x_sig x_nxt x_cnt x_rng = some (1 : Int32)), W p l e room_1 s m args below meth c H locs k ks Q (F0 m 10 ls []) := by
    intro n
    induction n with
    | zero => intro x2 x_isv x_te x_re x_de x_now x_spa x_sna x_len x_sig x_nxt x_cnt x_rng k ks hk hks H locs hP hD hS ls hl hf; cases (show (none : Option Int32) = some (1 : Int32) from hf)
    | succ n ih =>
    intro x2 x_isv x_te x_re x_de x_now x_spa x_sna x_len x_sig x_nxt x_cnt x_rng k ks hk hks H locs hP hD hS ls hl hf
    refine lv_iload_n hx hb (dg ddL_law0 6 rfl) rfl (lv_at hl 2 rfl) ?_
    refine lv_iconst (v := 4) hx hb (dg ddL_law0 7 rfl) (by decide) ?_
    refine lv_icmp_ge (tgt := 40) hx hb (dg ddL_law0 8 rfl) (by decide) (fun h1 => ?_) (fun h1 => ?_)
    · have hf := it_t h1 hf
      refine lv_aload_n hx hb (dg ddL_law0 26 rfl) rfl (lv_at hl 1 rfl) ?_
      refine lv_iconst (v := 0) hx hb (dg ddL_law0 27 rfl) (by decide) ?_
      refine lv_iconst (v := 0) hx hb (dg ddL_law0 28 rfl) (by decide) ?_
      obtain ⟨r3, e2, hf⟩ := ob_some hf
      refine crl_i CX hml (As := [.ref (q 0 0), .int 0, .int 0]) (rest := []) (ws := (wX4 q cy x_isv x_te x_re x_de x_now x_spa x_sna x_len x_sig x_nxt x_cnt x_rng)) (wsn := (wX4 q cy x_isv x_te r3.2.1 r3.2.2.1 r3.2.2.2.1 x_spa x_sna x_len x_sig r3.2.2.2.2.1 r3.2.2.2.2.2.1 r3.2.2.2.2.2.2)) (wr := []) (c_L_draw l D cy q x_isv x_te x_re x_de x_now x_spa x_sna x_len x_sig x_nxt x_cnt x_rng 0 0 _ hst e2) lk_RL_121 rfl rfl hRML_draw hP hD hS hA hK hN hX hC (List.Perm.of_eq (List.append_nil _).symm) (List.Perm.of_eq (List.append_nil _)) rfl hl.1 rfl (Nat.le_of_ble_eq_true rfl) ⟨rmC (by omega), rmS (by omega)⟩ (dg ddL_law0 29 rfl) (fun H locs hP hD hS => ?_)
      refine lv_pop hx hb (dg ddL_law0 30 rfl) rfl ?_
      refine lv_aload_n hx hb (dg ddL_law0 31 rfl) rfl (lv_at hl 1 rfl) ?_
      refine lv_iconst (v := 1) hx hb (dg ddL_law1 0 rfl) (by decide) ?_
      refine lv_iconst (v := 1) hx hb (dg ddL_law1 1 rfl) (by decide) ?_
      obtain ⟨r5, e4, hf⟩ := ob_some hf
      refine crl_i CX hml (As := [.ref (q 0 0), .int 1, .int 1]) (rest := []) (ws := (wX4 q cy x_isv x_te r3.2.1 r3.2.2.1 r3.2.2.2.1 x_spa x_sna x_len x_sig r3.2.2.2.2.1 r3.2.2.2.2.2.1 r3.2.2.2.2.2.2)) (wsn := (wX4 q cy x_isv x_te r5.2.1 r5.2.2.1 r5.2.2.2.1 x_spa x_sna x_len x_sig r5.2.2.2.2.1 r5.2.2.2.2.2.1 r5.2.2.2.2.2.2)) (wr := []) (c_L_draw l D cy q x_isv x_te r3.2.1 r3.2.2.1 r3.2.2.2.1 x_spa x_sna x_len x_sig r3.2.2.2.2.1 r3.2.2.2.2.2.1 r3.2.2.2.2.2.2 1 1 _ hst e4) lk_RL_121 rfl rfl hRML_draw hP hD hS hA hK hN hX hC (List.Perm.of_eq (List.append_nil _).symm) (List.Perm.of_eq (List.append_nil _)) rfl hl.1 rfl (Nat.le_of_ble_eq_true rfl) ⟨rmC (by omega), rmS (by omega)⟩ (dg ddL_law1 2 rfl) (fun H locs hP hD hS => ?_)
      refine lv_pop hx hb (dg ddL_law1 3 rfl) rfl ?_
      refine lv_aload_n hx hb (dg ddL_law1 4 rfl) rfl (lv_at hl 1 rfl) ?_
      refine lv_iconst (v := 0) hx hb (dg ddL_law1 5 rfl) (by decide) ?_
      refine lv_iconst (v := 0) hx hb (dg ddL_law1 6 rfl) (by decide) ?_
      obtain ⟨r7, e6, hf⟩ := ob_some hf
      refine crl_i CX hml (As := [.ref (q 0 0), .int 0, .int 0]) (rest := []) (ws := (wX4 q cy x_isv x_te r5.2.1 r5.2.2.1 r5.2.2.2.1 x_spa x_sna x_len x_sig r5.2.2.2.2.1 r5.2.2.2.2.2.1 r5.2.2.2.2.2.2)) (wsn := (wX4 q cy x_isv x_te r7.2.1 r7.2.2.1 r7.2.2.2.1 x_spa x_sna x_len x_sig r7.2.2.2.2.1 r7.2.2.2.2.2.1 r7.2.2.2.2.2.2)) (wr := []) (c_L_rack l D cy q x_isv x_te r5.2.1 r5.2.2.1 r5.2.2.2.1 x_spa x_sna x_len x_sig r5.2.2.2.2.1 r5.2.2.2.2.2.1 r5.2.2.2.2.2.2 0 0 _ hst e6) lk_RL_131 rfl rfl hRML_rack hP hD hS hA hK hN hX hC (List.Perm.of_eq (List.append_nil _).symm) (List.Perm.of_eq (List.append_nil _)) rfl hl.1 rfl (Nat.le_of_ble_eq_true rfl) ⟨rmC (by omega), rmS (by omega)⟩ (dg ddL_law1 7 rfl) (fun H locs hP hD hS => ?_)
      refine lv_pop hx hb (dg ddL_law1 8 rfl) rfl ?_
      refine lv_aload_n hx hb (dg ddL_law1 9 rfl) rfl (lv_at hl 1 rfl) ?_
      refine lv_bipush (v := 30) hx hb (dg ddL_law1 10 rfl) (by decide) ?_
      obtain ⟨r9, e8, hf⟩ := ob_some hf
      refine crl_i CX hml (As := [.ref (q 0 0), .int 30]) (rest := []) (ws := (wX4 q cy x_isv x_te r7.2.1 r7.2.2.1 r7.2.2.2.1 x_spa x_sna x_len x_sig r7.2.2.2.2.1 r7.2.2.2.2.2.1 r7.2.2.2.2.2.2)) (wsn := (wX4 q cy x_isv x_te r7.2.1 r7.2.2.1 r9.2.1 x_spa x_sna x_len x_sig r9.2.2.1 r9.2.2.2.1 r9.2.2.2.2)) (wr := []) (c_L_crowd l D cy q x_isv x_te r7.2.1 r7.2.2.1 r7.2.2.2.1 x_spa x_sna x_len x_sig r7.2.2.2.2.1 r7.2.2.2.2.2.1 r7.2.2.2.2.2.2 30 _ hst e8) lk_RL_114 rfl rfl hRML_crowd hP hD hS hA hK hN hX hC (List.Perm.of_eq (List.append_nil _).symm) (List.Perm.of_eq (List.append_nil _)) rfl hl.1 rfl (Nat.le_of_ble_eq_true rfl) ⟨rmC (by omega), rmS (by omega)⟩ (dg ddL_law1 11 rfl) (fun H locs hP hD hS => ?_)
      refine lv_pop hx hb (dg ddL_law1 12 rfl) rfl ?_
      refine lv_aload_n hx hb (dg ddL_law1 13 rfl) rfl (lv_at hl 0 rfl) ?_
      refine va_slen hx hb hXs hbl hbA hS (dg ddL_law1 14 rfl) ?_
      refine lv_bipush (v := 44) hx hb (dg ddL_law1 15 rfl) (by decide) ?_
      refine lv_icmp_ge (tgt := 80) hx hb (dg ddL_law1 16 rfl) (by decide) (fun h10 => ?_) (fun h10 => ?_)
      · have hf := it_t h10 hf
        refine lv_bipush (v := 44) hx hb (dg ddL_law1 20 rfl) (by decide) ?_
        refine lv_istore_n (lv' := [(2, .int 44), (0, .ref (b)), (1, .ref (q 0 0))]) hx hb (dg ddL_law1 21 rfl) rfl hl (by decide) rfl (fun ls hl => ?_)
        refine lv_iconst (v := 0) hx hb (dg ddL_law1 22 rfl) (by decide) ?_
        refine lv_istore_n (lv' := [(3, .int 0), (2, .int 44), (0, .ref (b)), (1, .ref (q 0 0))]) hx hb (dg ddL_law1 23 rfl) rfl hl (by decide) rfl (fun ls hl => ?_)
        refine W.widen (k := (k + 4)) (n := (ks + 8 * 4)) (by omega) (by omega) ?_
        exact K85 45 44 0 x_isv x_te r7.2.1 r7.2.2.1 r9.2.1 x_spa x_sna x_len x_sig r9.2.2.1 r9.2.2.2.1 r9.2.2.2.2 (k + 4) (ks + 8 * 4) (by omega) (by omega) _ _ hP hD hS _ (lv_sub hl [2, 3, 1, 0] rfl) hf
      · have hf := it_f h10 hf
        refine lv_aload_n hx hb (dg ddL_law1 17 rfl) rfl (lv_at hl 0 rfl) ?_
        refine va_slen hx hb hXs hbl hbA hS (dg ddL_law1 18 rfl) ?_
        refine lv_goto (tgt := 82) hx hb (dg ddL_law1 19 rfl) (by decide) ?_
        refine lv_istore_n (lv' := [(2, .int (nI L)), (0, .ref (b)), (1, .ref (q 0 0))]) hx hb (dg ddL_law1 21 rfl) rfl hl (by decide) rfl (fun ls hl => ?_)
        refine lv_iconst (v := 0) hx hb (dg ddL_law1 22 rfl) (by decide) ?_
        refine lv_istore_n (lv' := [(3, .int 0), (2, .int (nI L)), (0, .ref (b)), (1, .ref (q 0 0))]) hx hb (dg ddL_law1 23 rfl) rfl hl (by decide) rfl (fun ls hl => ?_)
        refine W.widen (k := (k + 4)) (n := (ks + 8 * 4)) (by omega) (by omega) ?_
        exact K85 45 (nI L) 0 x_isv x_te r7.2.1 r7.2.2.1 r9.2.1 x_spa x_sna x_len x_sig r9.2.2.1 r9.2.2.2.1 r9.2.2.2.2 (k + 4) (ks + 8 * 4) (by omega) (by omega) _ _ hP hD hS _ (lv_sub hl [2, 3, 1, 0] rfl) hf
    · have hf := it_f h1 hf
      refine lv_aload_n hx hb (dg ddL_law0 9 rfl) rfl (lv_at hl 1 rfl) ?_
      refine lv_iload_n hx hb (dg ddL_law0 10 rfl) rfl (lv_at hl 2 rfl) ?_
      refine lv_iconst (v := 2) hx hb (dg ddL_law0 11 rfl) (by decide) ?_
      obtain ⟨h11, hf⟩ := og_some hf
      refine lv_irem hx hb (dg ddL_law0 12 rfl) (nz_in h11) ?_
      refine lv_iconst (v := 1) hx hb (dg ddL_law0 13 rfl) (by decide) ?_
      refine lv_iconst (v := 2) hx hb (dg ddL_law0 14 rfl) (by decide) ?_
      refine lv_iload_n hx hb (dg ddL_law0 15 rfl) rfl (lv_at hl 2 rfl) ?_
      refine lv_imul hx hb (dg ddL_law0 16 rfl) ?_
      refine lv_iadd hx hb (dg ddL_law0 17 rfl) ?_
      obtain ⟨r13, e12, hf⟩ := ob_some hf
      refine crl_i CX hml (As := [.ref (q 0 0), .int (x2 - x2 / 2 * 2), .int ((1 : Int32) + ((2 : Int32) * x2))]) (rest := []) (ws := (wX4 q cy x_isv x_te x_re x_de x_now x_spa x_sna x_len x_sig x_nxt x_cnt x_rng)) (wsn := (wX4 q cy x_isv x_te r13.2.1 r13.2.2.1 r13.2.2.2.1 x_spa x_sna x_len x_sig r13.2.2.2.2.1 r13.2.2.2.2.2.1 r13.2.2.2.2.2.2)) (wr := []) (c_L_busker l D cy q x_isv x_te x_re x_de x_now x_spa x_sna x_len x_sig x_nxt x_cnt x_rng (x2 - x2 / 2 * 2) ((1 : Int32) + ((2 : Int32) * x2)) _ hst e12) lk_RL_111 rfl rfl hRML_busker hP hD hS hA hK hN hX hC (List.Perm.of_eq (List.append_nil _).symm) (List.Perm.of_eq (List.append_nil _)) rfl hl.1 rfl (Nat.le_of_ble_eq_true rfl) ⟨rmC (by omega), rmS (by omega)⟩ (dg ddL_law0 18 rfl) (fun H locs hP hD hS => ?_)
      refine lv_pop hx hb (dg ddL_law0 19 rfl) rfl ?_
      refine lv_aload_n hx hb (dg ddL_law0 20 rfl) rfl (lv_at hl 1 rfl) ?_
      refine lv_iload_n hx hb (dg ddL_law0 21 rfl) rfl (lv_at hl 2 rfl) ?_
      obtain ⟨r15, e14, hf⟩ := ob_some hf
      refine crl_i CX hml (As := [.ref (q 0 0), .int x2]) (rest := []) (ws := (wX4 q cy x_isv x_te r13.2.1 r13.2.2.1 r13.2.2.2.1 x_spa x_sna x_len x_sig r13.2.2.2.2.1 r13.2.2.2.2.2.1 r13.2.2.2.2.2.2)) (wsn := (wX4 q cy x_isv x_te r15.2.1 r15.2.2.1 r15.2.2.2.1 x_spa x_sna x_len x_sig r15.2.2.2.2.1 r15.2.2.2.2.2.1 r15.2.2.2.2.2.2)) (wr := []) (c_L_join l D cy q x_isv x_te r13.2.1 r13.2.2.1 r13.2.2.2.1 x_spa x_sna x_len x_sig r13.2.2.2.2.1 r13.2.2.2.2.2.1 r13.2.2.2.2.2.2 x2 _ hst e14) lk_RL_119 rfl rfl hRML_join hP hD hS hA hK hN hX hC (List.Perm.of_eq (List.append_nil _).symm) (List.Perm.of_eq (List.append_nil _)) rfl hl.1 rfl (Nat.le_of_ble_eq_true rfl) ⟨rmC (by omega), rmS (by omega)⟩ (dg ddL_law0 22 rfl) (fun H locs hP hD hS => ?_)
      refine lv_pop hx hb (dg ddL_law0 23 rfl) rfl ?_
      refine lv_iinc (v := x2 + 1) (lv' := [(2, .int (x2 + 1)), (0, .ref (b)), (1, .ref (q 0 0))]) hx hb (dg ddL_law0 24 rfl) hl (k := 2) rfl (congrArg (HAdd.hAdd x2) (by decide)) (by decide) rfl (fun ls hl => ?_)
      refine lv_goto (tgt := 10) hx hb (dg ddL_law0 25 rfl) (by decide) ?_
      refine W.widen (k := (k + 2)) (n := (ks + 8 * 2)) (by omega) (by omega) ?_
      exact ih (x2 + 1) x_isv x_te r15.2.1 r15.2.2.1 r15.2.2.2.1 x_spa x_sna x_len x_sig r15.2.2.2.2.1 r15.2.2.2.2.2.1 r15.2.2.2.2.2.2 (k + 2) (ks + 8 * 2) (by omega) (by omega) _ _ hP hD hS _ (lv_sub hl [1, 2, 0] rfl) hf
  refine lv_iconst (v := 0) hx hb (dg ddL_law0 4 rfl) (by decide) ?_
  refine lv_istore_n (lv' := [(2, .int 0), (0, .ref (b)), (1, .ref (q 0 0))]) hx hb (dg ddL_law0 5 rfl) rfl hl (by decide) rfl (fun ls hl => ?_)
  refine W.widen (k := (k + 0)) (n := (ks + 8 * 0)) (by omega) (by omega) ?_
  exact K10 5 0 x_isv x_te x_re x_de x_now x_spa x_sna x_len x_sig x_nxt x_cnt x_rng (k + 0) (ks + 8 * 0) (by omega) (by omega) _ _ hP hD hS _ (lv_sub hl [1, 2, 0] rfl) hf
