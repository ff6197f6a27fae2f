/-! by program: Model -/
def f_X5_thrown (m_thr : Int32) : Option (Int32) := some m_thr
set_option maxHeartbeats 4000000 in
set_option maxRecDepth 100000 in
theorem c_X5_thrown (l : Launch) (D : va_G) (cy : Nat → ClassId) (q : Nat → Nat) (m_thr : Int32) (m_kept : Int32) (m_rea : Int32) (m_det : Int32) (m_isv : Int32) (m_iit : Int32) (m_len : Int32) (m_at : Int32) (m_err : Int32) (m_wro : Int32) (m_cmd : Int32) (m_to1 : Int32) (m_to2 : Int32) (m_now : Nat → Int32) (m_sav : Nat → Int32) (m_ahe : Nat → Int32) (m_bef : Nat → Int32) (m_hst : Nat → Nat → Int32) (m_noi : Nat → UInt32) (m_own : Nat → UInt32) (m_inp : Nat → Int32) {res : Int32} (hf : f_X5_thrown m_thr = some res) : Met l yX5_thrown (.code yX5_thrown cX5_thrown 1 (some .int) :: lw_all) { frames := 1, cells := 0, slots := 0, locals := 12 } (va_Pc [.ref (q 0)] (sR D cy (wX5 q cy m_thr m_kept m_rea m_det m_isv m_iit m_len m_at m_err m_wro m_cmd m_to1 m_to2 m_now m_sav m_ahe m_bef m_hst m_noi m_own m_inp))) (vp_Si (fun r => r = res)) 0 0 (fun _ => False) := by
  refine mk_ro (Rc := RX5) (by decide +kernel) rfl (Nat.le_of_ble_eq_true rfl) ?_
  intro p e s m args below meth c ls CX hml hr hlk hK hN hP hl
  have hx := CX.1
  have hb := CX.2.1
  refine lv_aload_n hx hb (dg ddX5_thrown 0 rfl) rfl (lv_at hl 0 rfl) ?_
  refine gf_RX5_53 CX hK hP 0 rfl rfl (dg ddX5_thrown 1 rfl) ?_
  exact e_ri CX hr hlk (Option.some.inj hf) (dg ddX5_thrown 2 rfl)
def f_X5_isBetween (a1 : Int32) (a2 : Int32) (a3 : Int32) : Option (Int32) := if a1 < a2 then (some 0) else (if a3 < a1 then (some 0) else (some 1))
set_option maxHeartbeats 4000000 in
set_option maxRecDepth 100000 in
theorem c_X5_isBetween (l : Launch) (D : va_G) (cy : Nat → ClassId) (a1 : Int32) (a2 : Int32) (a3 : Int32) {res : Int32} (hf : f_X5_isBetween a1 a2 a3 = some res) : Met l yX5_isBetween (.code yX5_isBetween cX5_isBetween 3 (some .boolean) :: lw_all) { frames := 1, cells := 0, slots := 0, locals := 12 } (va_Pc [.int a1, .int a2, .int a3] (sR D cy [])) (vp_Si (fun r => r = res)) 0 0 (fun _ => False) := by
  refine mk_ro (Rc := RX5) (by decide +kernel) rfl (Nat.le_of_ble_eq_true rfl) ?_
  intro p e s m args below meth c ls CX hml hr hlk hK hN hP hl
  have hx := CX.1
  have hb := CX.2.1
  refine lv_iload_n hx hb (dg ddX5_isBetween 0 rfl) rfl (lv_at hl 0 rfl) ?_
  refine lv_iload_n hx hb (dg ddX5_isBetween 1 rfl) rfl (lv_at hl 1 rfl) ?_
  refine lv_icmp_lt (tgt := 14) hx hb (dg ddX5_isBetween 2 rfl) (by decide) (fun h1 => ?_) (fun h1 => ?_)
  · have hf := it_t h1 hf
    refine lv_iconst (v := 0) hx hb (dg ddX5_isBetween 8 rfl) (by decide) ?_
    exact e_rz CX hr hlk (by decide) (Option.some.inj hf) (dg ddX5_isBetween 9 rfl)
  · have hf := it_f h1 hf
    refine lv_iload_n hx hb (dg ddX5_isBetween 3 rfl) rfl (lv_at hl 0 rfl) ?_
    refine lv_iload_n hx hb (dg ddX5_isBetween 4 rfl) rfl (lv_at hl 2 rfl) ?_
    refine lv_icmp_gt (tgt := 14) hx hb (dg ddX5_isBetween 5 rfl) (by decide) (fun h2 => ?_) (fun h2 => ?_)
    · have hf := it_t h2 hf
      refine lv_iconst (v := 0) hx hb (dg ddX5_isBetween 8 rfl) (by decide) ?_
      exact e_rz CX hr hlk (by decide) (Option.some.inj hf) (dg ddX5_isBetween 9 rfl)
    · have hf := it_f h2 hf
      refine lv_iconst (v := 1) hx hb (dg ddX5_isBetween 6 rfl) (by decide) ?_
      refine lv_goto (tgt := 15) hx hb (dg ddX5_isBetween 7 rfl) (by decide) ?_
      exact e_rz CX hr hlk (by decide) (Option.some.inj hf) (dg ddX5_isBetween 9 rfl)
def f_X5_copyRow_c2  (w1 : Nat → Int32) : Nat → Int32 → (Nat → Int32) → Option ((Nat → Int32))
  | 0, _, _ => none
  | n + 1, x2, w2 => if 112 ≤ x2 then (some w2) else (og (inb x2 112) (og (inb x2 112) (f_X5_copyRow_c2 w1 n (x2 + 1) (upd w2 x2.toNatClampNeg (w1 x2.toNatClampNeg)))))
def f_X5_copyRow (w1 : Nat → Int32) (w2 : Nat → Int32) : Option ((Nat → Int32)) := f_X5_copyRow_c2 w1 4096 0 w2
set_option maxHeartbeats 4000000 in
set_option maxRecDepth 100000 in
theorem c_X5_copyRow (l : Launch) (D : va_G) (cy : Nat → ClassId) (r1 : Nat) (r2 : Nat) (w1 : Nat → Int32) (w2 : Nat → Int32) (sz : Nat) {res : (Nat → Int32)} (hf : f_X5_copyRow w1 w2 = some res) : Met l yX5_copyRow (.code yX5_copyRow cX5_copyRow 3 none :: lw_all) { frames := 1, cells := 0, slots := 0, locals := 12 } (va_Pc [.ref (r1), .ref (r2)] (sW D cy [(r1, .inl (cy 0, 112, .inl w1)), (r2, .inl (cy 0, 112, .inl w2))] sz)) (qV D [(r1, .inl (cy 0, 112, .inl w1)), (r2, .inl (cy 0, 112, .inl res))] (va_A [(r1, .inl (cy 0, 112, .inl w1)), (r2, .inl (cy 0, 112, .inl w2))] sz)) 0 0 (va_A [(r1, .inl (cy 0, 112, .inl w1)), (r2, .inl (cy 0, 112, .inl w2))] sz) := by
  refine mk_rw (Qc := qV D [(r1, .inl (cy 0, 112, .inl w1)), (r2, .inl (cy 0, 112, .inl res))] ) (Rc := RX5) (by decide +kernel) rfl (Nat.le_of_ble_eq_true rfl) ?_
  intro p e s m args below meth c ls A CX hml hr hlk hK hN hP hD hS hA hl
  have hx := CX.1
  have hb := CX.2.1
  have hl0 := hl
  have K2 : ∀ (n : Nat), ∀ (x2 : Int32) (w2 : Nat → Int32) (H : Heap) (locs : List Loc) (hP : va_P D vwCl [(r1, .inl (cy 0, 112, .inl w1)), (r2, .inl (cy 0, 112, .inl w2))] H) (hD : va_D A [(r1, .inl (cy 0, 112, .inl w1)), (r2, .inl (cy 0, 112, .inl w2))]) (hS : va_S A s.heap H locs) (ls : Array Slot) (hl : lv_has ls 3 [(0, .ref (r1)), (1, .ref (r2)), (2, .int x2)]) (hf : f_X5_copyRow_c2 w1 n x2 w2 = some res), W p l e ⟨1, 0, 0, 12⟩ s m args below meth c H locs 0 0 (MQ below (qV D [(r1, .inl (cy 0, 112, .inl w1)), (r2, .inl (cy 0, 112, .inl res))] A) args s 0 0 A) (F0 m 2 ls []) := by
    intro n
    induction n with
    | zero => intro x2 w2 H locs hP hD hS ls hl hf; cases (show none = some res from hf)
    | succ n ih =>
    intro x2 w2 H locs hP hD hS ls hl hf
    refine lv_iload_n hx hb (dg ddX5_copyRow 2 rfl) rfl (lv_at hl 2 rfl) ?_
    refine lv_bipush (v := 112) hx hb (dg ddX5_copyRow 3 rfl) (by decide) ?_
    refine lv_icmp_ge (tgt := 20) hx hb (dg ddX5_copyRow 4 rfl) (by decide) (fun h1 => ?_) (fun h1 => ?_)
    · have hf := it_t h1 hf
      cases hf
      exact e_wv CX hr hlk hP hD hS (dg ddX5_copyRow 13 rfl)
    · have hf := it_f h1 hf
      refine lv_aload_n hx hb (dg ddX5_copyRow 5 rfl) rfl (lv_at hl 1 rfl) ?_
      refine lv_iload_n hx hb (dg ddX5_copyRow 6 rfl) rfl (lv_at hl 2 rfl) ?_
      refine lv_aload_n hx hb (dg ddX5_copyRow 7 rfl) rfl (lv_at hl 0 rfl) ?_
      refine lv_iload_n hx hb (dg ddX5_copyRow 8 rfl) rfl (lv_at hl 2 rfl) ?_
      obtain ⟨h2, hf⟩ := og_some hf
      refine va_iald hx hb hK hP 0 0 rfl rfl (inb_in h2) (dg ddX5_copyRow 9 rfl) ?_
      obtain ⟨h3, hf⟩ := og_some hf
      refine va_iast hx hb hK hP hD hS 1 0 rfl rfl (inb_in h3) (dg ddX5_copyRow 10 rfl) (fun H locs hP hD hS => ?_)
      have hP : va_P D vwCl [(r1, .inl (cy 0, 112, .inl w1)), (r2, .inl (cy 0, 112, .inl (upd w2 x2.toNatClampNeg (w1 x2.toNatClampNeg))))] H := hP
      have hD : va_D A [(r1, .inl (cy 0, 112, .inl w1)), (r2, .inl (cy 0, 112, .inl (upd w2 x2.toNatClampNeg (w1 x2.toNatClampNeg))))] := hD
      refine lv_iinc (v := x2 + 1) (lv' := [(2, .int (x2 + 1)), (0, .ref (r1)), (1, .ref (r2))]) hx hb (dg ddX5_copyRow 11 rfl) hl (k := 2) rfl (congrArg (HAdd.hAdd x2) (by decide)) (by decide) rfl (fun ls hl => ?_)
      refine lv_goto (tgt := 2) hx hb (dg ddX5_copyRow 12 rfl) (by decide) ?_
      exact ih (x2 + 1) (upd w2 x2.toNatClampNeg (w1 x2.toNatClampNeg)) _ _ hP hD hS _ (lv_sub hl [1, 2, 0] rfl) hf
  refine lv_iconst (v := 0) hx hb (dg ddX5_copyRow 0 rfl) (by decide) ?_
  refine lv_istore_n (lv' := [(2, .int 0), (0, .ref (r1)), (1, .ref (r2))]) hx hb (dg ddX5_copyRow 1 rfl) rfl hl (by decide) rfl (fun ls hl => ?_)
  exact K2 4096 0 w2 _ _ hP hD hS _ (lv_sub hl [1, 2, 0] rfl) hf
def f_X5_fails (m_thr : Int32) (a1 : Int32) (a2 : Int32) : Option (Int32 × Int32) := if a2 = 0 then (og (isZ a2) (some (a2, 0))) else (og (isZ a2) (some (a2, a1)))
set_option maxHeartbeats 4000000 in
set_option maxRecDepth 100000 in
theorem c_X5_fails (l : Launch) (D : va_G) (cy : Nat → ClassId) (q : Nat → Nat) (m_thr : Int32) (m_kept : Int32) (m_rea : Int32) (m_det : Int32) (m_isv : Int32) (m_iit : Int32) (m_len : Int32) (m_at : Int32) (m_err : Int32) (m_wro : Int32) (m_cmd : Int32) (m_to1 : Int32) (m_to2 : Int32) (m_now : Nat → Int32) (m_sav : Nat → Int32) (m_ahe : Nat → Int32) (m_bef : Nat → Int32) (m_hst : Nat → Nat → Int32) (m_noi : Nat → UInt32) (m_own : Nat → UInt32) (m_inp : Nat → Int32) (a1 : Int32) (a2 : Int32) (sz : Nat) {res : Int32 × Int32} (hf : f_X5_fails m_thr a1 a2 = some res) : Met l yX5_fails (.code yX5_fails cX5_fails 3 (some .boolean) :: lw_all) { frames := 1, cells := 0, slots := 0, locals := 12 } (va_Pc [.ref (q 0), .int a1, .int a2] (sW D cy (wX5 q cy m_thr m_kept m_rea m_det m_isv m_iit m_len m_at m_err m_wro m_cmd m_to1 m_to2 m_now m_sav m_ahe m_bef m_hst m_noi m_own m_inp) sz)) (qI D (wX5 q cy res.2 m_kept m_rea m_det m_isv m_iit m_len m_at m_err m_wro m_cmd m_to1 m_to2 m_now m_sav m_ahe m_bef m_hst m_noi m_own m_inp) res.1 (va_A (wX5 q cy m_thr m_kept m_rea m_det m_isv m_iit m_len m_at m_err m_wro m_cmd m_to1 m_to2 m_now m_sav m_ahe m_bef m_hst m_noi m_own m_inp) sz)) 0 0 (va_A (wX5 q cy m_thr m_kept m_rea m_det m_isv m_iit m_len m_at m_err m_wro m_cmd m_to1 m_to2 m_now m_sav m_ahe m_bef m_hst m_noi m_own m_inp) sz) := by
  refine mk_rw (Qc := qI D (wX5 q cy res.2 m_kept m_rea m_det m_isv m_iit m_len m_at m_err m_wro m_cmd m_to1 m_to2 m_now m_sav m_ahe m_bef m_hst m_noi m_own m_inp) res.1) (Rc := RX5) (by decide +kernel) rfl (Nat.le_of_ble_eq_true rfl) ?_
  intro p e s m args below meth c ls A CX hml hr hlk hK hN hP hD hS hA hl
  have hx := CX.1
  have hb := CX.2.1
  refine lv_aload_n hx hb (dg ddX5_fails 0 rfl) rfl (lv_at hl 0 rfl) ?_
  refine lv_iload_n hx hb (dg ddX5_fails 1 rfl) rfl (lv_at hl 2 rfl) ?_
  refine lv_if_eq (tgt := 9) hx hb (dg ddX5_fails 2 rfl) (by decide) (fun h1 => ?_) (fun h1 => ?_)
  · have hf := it_t h1 hf
    refine lv_iconst (v := 0) hx hb (dg ddX5_fails 5 rfl) (by decide) ?_
    refine pf_RX5_53 CX hK hP hD hS 0 rfl (dg ddX5_fails 6 rfl) (Nat.le_of_ble_eq_true rfl) (fun H locs hP hD hS => ?_)
    have hP : va_P D vwCl (wX5 q cy 0 m_kept m_rea m_det m_isv m_iit m_len m_at m_err m_wro m_cmd m_to1 m_to2 m_now m_sav m_ahe m_bef m_hst m_noi m_own m_inp) H := hP
    have hD : va_D A (wX5 q cy 0 m_kept m_rea m_det m_isv m_iit m_len m_at m_err m_wro m_cmd m_to1 m_to2 m_now m_sav m_ahe m_bef m_hst m_noi m_own m_inp) := hD
    refine lv_iload_n hx hb (dg ddX5_fails 7 rfl) rfl (lv_at hl 2 rfl) ?_
    obtain ⟨h2, hf⟩ := og_some hf
    cases hf
    exact e_wz CX hr hlk (isZ_n h2) rfl hP hD hS (dg ddX5_fails 8 rfl)
  · have hf := it_f h1 hf
    refine lv_iload_n hx hb (dg ddX5_fails 3 rfl) rfl (lv_at hl 1 rfl) ?_
    refine lv_goto (tgt := 10) hx hb (dg ddX5_fails 4 rfl) (by decide) ?_
    refine pf_RX5_53 CX hK hP hD hS 0 rfl (dg ddX5_fails 6 rfl) (Nat.le_of_ble_eq_true rfl) (fun H locs hP hD hS => ?_)
    have hP : va_P D vwCl (wX5 q cy a1 m_kept m_rea m_det m_isv m_iit m_len m_at m_err m_wro m_cmd m_to1 m_to2 m_now m_sav m_ahe m_bef m_hst m_noi m_own m_inp) H := hP
    have hD : va_D A (wX5 q cy a1 m_kept m_rea m_det m_isv m_iit m_len m_at m_err m_wro m_cmd m_to1 m_to2 m_now m_sav m_ahe m_bef m_hst m_noi m_own m_inp) := hD
    refine lv_iload_n hx hb (dg ddX5_fails 7 rfl) rfl (lv_at hl 2 rfl) ?_
    obtain ⟨h3, hf⟩ := og_some hf
    cases hf
    exact e_wz CX hr hlk (isZ_n h3) rfl hP hD hS (dg ddX5_fails 8 rfl)
def f_X5_refuse (m_rea : Int32) (m_det : Int32) (a1 : Int32) (a2 : Int32) (a3 : Int32) : Option (Int32 × Int32 × Int32) := if a1 = 0 then (og (isZ a1) (some (a1, m_rea, m_det))) else (og (isZ a1) (some (a1, a2, a3)))
set_option maxHeartbeats 4000000 in
set_option maxRecDepth 100000 in
theorem c_X5_refuse (l : Launch) (D : va_G) (cy : Nat → ClassId) (q : Nat → Nat) (m_thr : Int32) (m_kept : Int32) (m_rea : Int32) (m_det : Int32) (m_isv : Int32) (m_iit : Int32) (m_len : Int32) (m_at : Int32) (m_err : Int32) (m_wro : Int32) (m_cmd : Int32) (m_to1 : Int32) (m_to2 : Int32) (m_now : Nat → Int32) (m_sav : Nat → Int32) (m_ahe : Nat → Int32) (m_bef : Nat → Int32) (m_hst : Nat → Nat → Int32) (m_noi : Nat → UInt32) (m_own : Nat → UInt32) (m_inp : Nat → Int32) (a1 : Int32) (a2 : Int32) (a3 : Int32) (sz : Nat) {res : Int32 × Int32 × Int32} (hf : f_X5_refuse m_rea m_det a1 a2 a3 = some res) : Met l yX5_refuse (.code yX5_refuse cX5_refuse 4 (some .boolean) :: lw_all) { frames := 1, cells := 0, slots := 0, locals := 12 } (va_Pc [.ref (q 0), .int a1, .int a2, .int a3] (sW D cy (wX5 q cy m_thr m_kept m_rea m_det m_isv m_iit m_len m_at m_err m_wro m_cmd m_to1 m_to2 m_now m_sav m_ahe m_bef m_hst m_noi m_own m_inp) sz)) (qI D (wX5 q cy m_thr m_kept res.2.1 res.2.2 m_isv m_iit m_len m_at m_err m_wro m_cmd m_to1 m_to2 m_now m_sav m_ahe m_bef m_hst m_noi m_own m_inp) res.1 (va_A (wX5 q cy m_thr m_kept m_rea m_det m_isv m_iit m_len m_at m_err m_wro m_cmd m_to1 m_to2 m_now m_sav m_ahe m_bef m_hst m_noi m_own m_inp) sz)) 0 0 (va_A (wX5 q cy m_thr m_kept m_rea m_det m_isv m_iit m_len m_at m_err m_wro m_cmd m_to1 m_to2 m_now m_sav m_ahe m_bef m_hst m_noi m_own m_inp) sz) := by
  refine mk_rw (Qc := qI D (wX5 q cy m_thr m_kept res.2.1 res.2.2 m_isv m_iit m_len m_at m_err m_wro m_cmd m_to1 m_to2 m_now m_sav m_ahe m_bef m_hst m_noi m_own m_inp) res.1) (Rc := RX5) (by decide +kernel) rfl (Nat.le_of_ble_eq_true rfl) ?_
  intro p e s m args below meth c ls A CX hml hr hlk hK hN hP hD hS hA hl
  have hx := CX.1
  have hb := CX.2.1
  refine lv_iload_n hx hb (dg ddX5_refuse 0 rfl) rfl (lv_at hl 1 rfl) ?_
  refine lv_if_eq (tgt := 14) hx hb (dg ddX5_refuse 1 rfl) (by decide) (fun h1 => ?_) (fun h1 => ?_)
  · have hf := it_t h1 hf
    refine lv_iload_n hx hb (dg ddX5_refuse 8 rfl) rfl (lv_at hl 1 rfl) ?_
    obtain ⟨h2, hf⟩ := og_some hf
    cases hf
    exact e_wz CX hr hlk (isZ_n h2) rfl hP hD hS (dg ddX5_refuse 9 rfl)
  · have hf := it_f h1 hf
    refine lv_aload_n hx hb (dg ddX5_refuse 2 rfl) rfl (lv_at hl 0 rfl) ?_
    refine lv_iload_n hx hb (dg ddX5_refuse 3 rfl) rfl (lv_at hl 2 rfl) ?_
    refine pf_RX5_56 CX hK hP hD hS 0 rfl (dg ddX5_refuse 4 rfl) (Nat.le_of_ble_eq_true rfl) (fun H locs hP hD hS => ?_)
    have hP : va_P D vwCl (wX5 q cy m_thr m_kept a2 m_det m_isv m_iit m_len m_at m_err m_wro m_cmd m_to1 m_to2 m_now m_sav m_ahe m_bef m_hst m_noi m_own m_inp) H := hP
    have hD : va_D A (wX5 q cy m_thr m_kept a2 m_det m_isv m_iit m_len m_at m_err m_wro m_cmd m_to1 m_to2 m_now m_sav m_ahe m_bef m_hst m_noi m_own m_inp) := hD
    refine lv_aload_n hx hb (dg ddX5_refuse 5 rfl) rfl (lv_at hl 0 rfl) ?_
    refine lv_iload_n hx hb (dg ddX5_refuse 6 rfl) rfl (lv_at hl 3 rfl) ?_
    refine pf_RX5_59 CX hK hP hD hS 0 rfl (dg ddX5_refuse 7 rfl) (Nat.le_of_ble_eq_true rfl) (fun H locs hP hD hS => ?_)
    have hP : va_P D vwCl (wX5 q cy m_thr m_kept a2 a3 m_isv m_iit m_len m_at m_err m_wro m_cmd m_to1 m_to2 m_now m_sav m_ahe m_bef m_hst m_noi m_own m_inp) H := hP
    have hD : va_D A (wX5 q cy m_thr m_kept a2 a3 m_isv m_iit m_len m_at m_err m_wro m_cmd m_to1 m_to2 m_now m_sav m_ahe m_bef m_hst m_noi m_own m_inp) := hD
    refine lv_iload_n hx hb (dg ddX5_refuse 8 rfl) rfl (lv_at hl 1 rfl) ?_
    obtain ⟨h3, hf⟩ := og_some hf
    cases hf
    exact e_wz CX hr hlk (isZ_n h3) rfl hP hD hS (dg ddX5_refuse 9 rfl)
def f_X5_remember_now_c52  (m_now : Nat → Int32) (m_kept : Int32) (m_hst : Nat → Nat → Int32) : Option (Int32 × (Nat → Nat → Int32)) := og (inb m_kept 8) (ob (f_X5_copyRow m_now (m_hst m_kept.toNatClampNeg)) fun r3 => (some ((m_kept + 1), (vf_upd m_hst m_kept.toNatClampNeg r3))))
def f_X5_remember_now_c21  (m_now : Nat → Int32) : Nat → Int32 → Int32 → (Nat → Nat → Int32) → Option (Int32 × (Nat → Nat → Int32))
  | 0, _, _, _ => none
  | n + 1, x2, m_kept, m_hst => if m_kept ≤ x2 then (f_X5_remember_now_c52 m_now m_kept m_hst) else (og (inb (x2 + 1) 8) (og (inb x2 8) (og (decide (¬ (x2 + 1).toNatClampNeg = x2.toNatClampNeg)) (ob (f_X5_copyRow (m_hst ((x2 + 1).toNatClampNeg)) (m_hst x2.toNatClampNeg)) fun r5 => (f_X5_remember_now_c21 m_now n (x2 + 1) m_kept (vf_upd m_hst x2.toNatClampNeg r5))))))
def f_X5_remember_now (m_kept : Int32) (m_now : Nat → Int32) (m_hst : Nat → Nat → Int32) : Option (Int32 × (Nat → Nat → Int32)) := if m_kept = 8 then (f_X5_remember_now_c21 m_now 4096 0 (m_kept - 1) m_hst) else (f_X5_remember_now_c52 m_now m_kept m_hst)
set_option maxHeartbeats 4000000 in
set_option maxRecDepth 100000 in
theorem c_X5_remember_now (l : Launch) (D : va_G) (cy : Nat → ClassId) (q : Nat → Nat) (m_thr : Int32) (m_kept : Int32) (m_rea : Int32) (m_det : Int32) (m_isv : Int32) (m_iit : Int32) (m_len : Int32) (m_at : Int32) (m_err : Int32) (m_wro : Int32) (m_cmd : Int32) (m_to1 : Int32) (m_to2 : Int32) (m_now : Nat → Int32) (m_sav : Nat → Int32) (m_ahe : Nat → Int32) (m_bef : Nat → Int32) (m_hst : Nat → Nat → Int32) (m_noi : Nat → UInt32) (m_own : Nat → UInt32) (m_inp : Nat → Int32) (sz : Nat) {res : Int32 × (Nat → Nat → Int32)} (hf : f_X5_remember_now m_kept m_now m_hst = some res) : Met l yX5_remember (.code yX5_remember cX5_remember 3 none :: lw_all) { frames := 2, cells := 0, slots := 0, locals := 34 } (va_Pc [.ref (q 0), .ref (q 1)] (sW D cy (wX5 q cy m_thr m_kept m_rea m_det m_isv m_iit m_len m_at m_err m_wro m_cmd m_to1 m_to2 m_now m_sav m_ahe m_bef m_hst m_noi m_own m_inp) sz)) (qV D (wX5 q cy m_thr res.1 m_rea m_det m_isv m_iit m_len m_at m_err m_wro m_cmd m_to1 m_to2 m_now m_sav m_ahe m_bef res.2 m_noi m_own m_inp) (va_A (wX5 q cy m_thr m_kept m_rea m_det m_isv m_iit m_len m_at m_err m_wro m_cmd m_to1 m_to2 m_now m_sav m_ahe m_bef m_hst m_noi m_own m_inp) sz)) 0 0 (va_A (wX5 q cy m_thr m_kept m_rea m_det m_isv m_iit m_len m_at m_err m_wro m_cmd m_to1 m_to2 m_now m_sav m_ahe m_bef m_hst m_noi m_own m_inp) sz) := by
  refine mk_rw (Qc := qV D (wX5 q cy m_thr res.1 m_rea m_det m_isv m_iit m_len m_at m_err m_wro m_cmd m_to1 m_to2 m_now m_sav m_ahe m_bef res.2 m_noi m_own m_inp) ) (Rc := RX5) (by decide +kernel) rfl (Nat.le_of_ble_eq_true rfl) ?_
  intro p e s m args below meth c ls A CX hml hr hlk hK hN hP hD hS hA hl
  have hx := CX.1
  have hb := CX.2.1
  have hRMX5_copyRow : (⟨1, 0, 0, 12⟩ : Room).frames + 1 ≤ (⟨2, 0, 0, 34⟩ : Room).frames ∧ 8 + (3 + 11) + (⟨1, 0, 0, 12⟩ : Room).locals ≤ (⟨2, 0, 0, 34⟩ : Room).locals := ⟨Nat.le_of_ble_eq_true rfl, Nat.le_of_ble_eq_true rfl⟩
  have hl0 := hl
  have K52 : ∀ (m_kept : Int32) (m_hst : Nat → Nat → Int32) (H : Heap) (locs : List Loc) (hP : va_P D vwCl (wX5 q cy m_thr m_kept m_rea m_det m_isv m_iit m_len m_at m_err m_wro m_cmd m_to1 m_to2 m_now m_sav m_ahe m_bef m_hst m_noi m_own m_inp) H) (hD : va_D A (wX5 q cy m_thr m_kept m_rea m_det m_isv m_iit m_len m_at m_err m_wro m_cmd m_to1 m_to2 m_now m_sav m_ahe m_bef m_hst m_noi m_own m_inp)) (hS : va_S A s.heap H locs) (ls : Array Slot) (hl : lv_has ls 3 [(0, .ref (q 0)), (1, .ref (q 1))]) (hf : f_X5_remember_now_c52 m_now m_kept m_hst = some res), W p l e ⟨2, 0, 0, 34⟩ s m args below meth c H locs 0 0 (MQ below (qV D (wX5 q cy m_thr res.1 m_rea m_det m_isv m_iit m_len m_at m_err m_wro m_cmd m_to1 m_to2 m_now m_sav m_ahe m_bef res.2 m_noi m_own m_inp) A) args s 0 0 A) (F0 m 52 ls []) := by
    intro m_kept m_hst H locs hP hD hS ls hl hf
    refine lv_aload_n hx hb (dg ddX5_remember 29 rfl) rfl (lv_at hl 1 rfl) ?_
    refine lv_aload_n hx hb (dg ddX5_remember 30 rfl) rfl (lv_at hl 0 rfl) ?_
    refine gf_RX5_24 CX hK hP 0 rfl rfl (dg ddX5_remember 31 rfl) ?_
    refine lv_aload_n hx hb (dg ddX5_remember 32 rfl) rfl (lv_at hl 0 rfl) ?_
    refine gf_RX5_62 CX hK hP 0 rfl rfl (dg ddX5_remember 33 rfl) ?_
    obtain ⟨h1, hf⟩ := og_some hf
    refine va_aldA (cell := ()) hx hb hK hP 5 4 rfl rfl (inb_in h1) (dg ddX5_remember 34 rfl) ?_
    show W p l e _ s m args below meth c _ _ 0 0 _ (F0 m 62 ls (.ref (q (20 + m_kept.toNatClampNeg)) :: _))
    obtain ⟨r3, e2, hf⟩ := ob_some hf
    refine crs2 CX hml (As := [.ref (q 1), .ref (q (20 + m_kept.toNatClampNeg))]) (rest := []) (ws := (wX5 q cy m_thr m_kept m_rea m_det m_isv m_iit m_len m_at m_err m_wro m_cmd m_to1 m_to2 m_now m_sav m_ahe m_bef m_hst m_noi m_own m_inp)) (wsn := (wX5 q cy m_thr m_kept m_rea m_det m_isv m_iit m_len m_at m_err m_wro m_cmd m_to1 m_to2 m_now m_sav m_ahe m_bef (vf_upd m_hst m_kept.toNatClampNeg r3) m_noi m_own m_inp)) (k1 := 1) (k2 := (9 + m_kept.toNatClampNeg)) (c_X5_copyRow l D cy (q 1) (q (20 + m_kept.toNatClampNeg)) m_now (m_hst m_kept.toNatClampNeg) _ e2) lk_RX5_65 rfl rfl hRMX5_copyRow hP hD hS hA hK hN rfl (hrow_at (inb_lt h1)) (by omega) (hrow_set (inb_lt h1)) rfl hl.1 rfl (Nat.le_of_ble_eq_true rfl) ⟨Nat.le_of_ble_eq_true rfl, Nat.le_of_ble_eq_true rfl⟩ (dg ddX5_remember 35 rfl) (fun H locs hP hD hS => ?_)
    refine lv_aload_n hx hb (dg ddX5_remember 36 rfl) rfl (lv_at hl 0 rfl) ?_
    refine lv_dup hx hb (dg ddX5_remember 37 rfl) rfl ?_
    refine gf_RX5_62 CX hK hP 0 rfl rfl (dg ddX5_remember 38 rfl) ?_
    refine lv_iconst (v := 1) hx hb (dg ddX5_remember 39 rfl) (by decide) ?_
    refine lv_iadd hx hb (dg ddX5_remember 40 rfl) ?_
    refine pf_RX5_62 CX hK hP hD hS 0 rfl (dg ddX5_remember 41 rfl) (Nat.le_of_ble_eq_true rfl) (fun H locs hP hD hS => ?_)
    have hP : va_P D vwCl (wX5 q cy m_thr (m_kept + 1) m_rea m_det m_isv m_iit m_len m_at m_err m_wro m_cmd m_to1 m_to2 m_now m_sav m_ahe m_bef (vf_upd m_hst m_kept.toNatClampNeg r3) m_noi m_own m_inp) H := hP
    have hD : va_D A (wX5 q cy m_thr (m_kept + 1) m_rea m_det m_isv m_iit m_len m_at m_err m_wro m_cmd m_to1 m_to2 m_now m_sav m_ahe m_bef (vf_upd m_hst m_kept.toNatClampNeg r3) m_noi m_own m_inp) := hD
    cases hf
    exact e_wv CX hr hlk hP hD hS (dg ddX5_remember 42 rfl)
  have K21 : ∀ (n : Nat), ∀ (x2 : Int32) (m_kept : Int32) (m_hst : Nat → Nat → Int32) (H : Heap) (locs : List Loc) (hP : va_P D vwCl (wX5 q cy m_thr m_kept m_rea m_det m_isv m_iit m_len m_at m_err m_wro m_cmd m_to1 m_to2 m_now m_sav m_ahe m_bef m_hst m_noi m_own m_inp) H) (hD : va_D A (wX5 q cy m_thr m_kept m_rea m_det m_isv m_iit m_len m_at m_err m_wro m_cmd m_to1 m_to2 m_now m_sav m_ahe m_bef m_hst m_noi m_own m_inp)) (hS : va_S A s.heap H locs) (ls : Array Slot) (hl : lv_has ls 3 [(0, .ref (q 0)), (1, .ref (q 1)), (2, .int x2)]) (hf : f_X5_remember_now_c21 m_now n x2 m_kept m_hst = some res), W p l e ⟨2, 0, 0, 34⟩ s m args below meth c H locs 0 0 (MQ below (qV D (wX5 q cy m_thr res.1 m_rea m_det m_isv m_iit m_len m_at m_err m_wro m_cmd m_to1 m_to2 m_now m_sav m_ahe m_bef res.2 m_noi m_own m_inp) A) args s 0 0 A) (F0 m 21 ls []) := by
    intro n
    induction n with
    | zero => intro x2 m_kept m_hst H locs hP hD hS ls hl hf; cases (show none = some res from hf)
    | succ n ih =>
    intro x2 m_kept m_hst H locs hP hD hS ls hl hf
    refine lv_iload_n hx hb (dg ddX5_remember 12 rfl) rfl (lv_at hl 2 rfl) ?_
    refine lv_aload_n hx hb (dg ddX5_remember 13 rfl) rfl (lv_at hl 0 rfl) ?_
    refine gf_RX5_62 CX hK hP 0 rfl rfl (dg ddX5_remember 14 rfl) ?_
    refine lv_icmp_ge (tgt := 52) hx hb (dg ddX5_remember 15 rfl) (by decide) (fun h1 => ?_) (fun h1 => ?_)
    · have hf := it_t h1 hf
      exact K52  m_kept m_hst _ _ hP hD hS _ (lv_sub hl [0, 1] rfl) hf
    · have hf := it_f h1 hf
      refine lv_aload_n hx hb (dg ddX5_remember 16 rfl) rfl (lv_at hl 0 rfl) ?_
      refine gf_RX5_24 CX hK hP 0 rfl rfl (dg ddX5_remember 17 rfl) ?_
      refine lv_iload_n hx hb (dg ddX5_remember 18 rfl) rfl (lv_at hl 2 rfl) ?_
      refine lv_iconst (v := 1) hx hb (dg ddX5_remember 19 rfl) (by decide) ?_
      refine lv_iadd hx hb (dg ddX5_remember 20 rfl) ?_
      obtain ⟨h2, hf⟩ := og_some hf
      refine va_aldA (cell := ()) hx hb hK hP 5 4 rfl rfl (inb_in h2) (dg ddX5_remember 21 rfl) ?_
      show W p l e _ s m args below meth c _ _ 0 0 _ (F0 m 37 ls (.ref (q (20 + (x2 + 1).toNatClampNeg)) :: _))
      refine lv_aload_n hx hb (dg ddX5_remember 22 rfl) rfl (lv_at hl 0 rfl) ?_
      refine gf_RX5_24 CX hK hP 0 rfl rfl (dg ddX5_remember 23 rfl) ?_
      refine lv_iload_n hx hb (dg ddX5_remember 24 rfl) rfl (lv_at hl 2 rfl) ?_
      obtain ⟨h3, hf⟩ := og_some hf
      refine va_aldA (cell := ()) hx hb hK hP 5 4 rfl rfl (inb_in h3) (dg ddX5_remember 25 rfl) ?_
      show W p l e _ s m args below meth c _ _ 0 0 _ (F0 m 43 ls (.ref (q (20 + x2.toNatClampNeg)) :: _))
      obtain ⟨h6, hf⟩ := og_some hf
      obtain ⟨r5, e4, hf⟩ := ob_some hf
      refine crs2 CX hml (As := [.ref (q (20 + (x2 + 1).toNatClampNeg)), .ref (q (20 + x2.toNatClampNeg))]) (rest := []) (ws := (wX5 q cy m_thr m_kept m_rea m_det m_isv m_iit m_len m_at m_err m_wro m_cmd m_to1 m_to2 m_now m_sav m_ahe m_bef m_hst m_noi m_own m_inp)) (wsn := (wX5 q cy m_thr m_kept m_rea m_det m_isv m_iit m_len m_at m_err m_wro m_cmd m_to1 m_to2 m_now m_sav m_ahe m_bef (vf_upd m_hst x2.toNatClampNeg r5) m_noi m_own m_inp)) (k1 := (9 + (x2 + 1).toNatClampNeg)) (k2 := (9 + x2.toNatClampNeg)) (c_X5_copyRow l D cy (q (20 + (x2 + 1).toNatClampNeg)) (q (20 + x2.toNatClampNeg)) (m_hst ((x2 + 1).toNatClampNeg)) (m_hst x2.toNatClampNeg) _ e4) lk_RX5_65 rfl rfl hRMX5_copyRow hP hD hS hA hK hN (hrow_at (inb_lt h2)) (hrow_at (inb_lt h3)) (fun h => of_decide_eq_true h6 (Nat.add_left_cancel h)) (hrow_set (inb_lt h3)) rfl hl.1 rfl (Nat.le_of_ble_eq_true rfl) ⟨Nat.le_of_ble_eq_true rfl, Nat.le_of_ble_eq_true rfl⟩ (dg ddX5_remember 26 rfl) (fun H locs hP hD hS => ?_)
      refine lv_iinc (v := x2 + 1) (lv' := [(2, .int (x2 + 1)), (0, .ref (q 0)), (1, .ref (q 1))]) hx hb (dg ddX5_remember 27 rfl) hl (k := 2) rfl (congrArg (HAdd.hAdd x2) (by decide)) (by decide) rfl (fun ls hl => ?_)
      refine lv_goto (tgt := 21) hx hb (dg ddX5_remember 28 rfl) (by decide) ?_
      exact ih (x2 + 1) m_kept (vf_upd m_hst x2.toNatClampNeg r5) _ _ hP hD hS _ (lv_sub hl [1, 2, 0] rfl) hf
  refine lv_aload_n hx hb (dg ddX5_remember 0 rfl) rfl (lv_at hl 0 rfl) ?_
  refine gf_RX5_62 CX hK hP 0 rfl rfl (dg ddX5_remember 1 rfl) ?_
  refine lv_bipush (v := 8) hx hb (dg ddX5_remember 2 rfl) (by decide) ?_
  refine lv_icmp_ne (tgt := 52) hx hb (dg ddX5_remember 3 rfl) (by decide) (fun h1 => ?_) (fun h1 => ?_)
  · have hf := it_f h1 hf
    exact K52  m_kept m_hst _ _ hP hD hS _ (lv_sub hl [0, 1] rfl) hf
  · have hf := it_t h1 hf
    refine lv_aload_n hx hb (dg ddX5_remember 4 rfl) rfl (lv_at hl 0 rfl) ?_
    refine lv_dup hx hb (dg ddX5_remember 5 rfl) rfl ?_
    refine gf_RX5_62 CX hK hP 0 rfl rfl (dg ddX5_remember 6 rfl) ?_
    refine lv_iconst (v := 1) hx hb (dg ddX5_remember 7 rfl) (by decide) ?_
    refine lv_isub hx hb (dg ddX5_remember 8 rfl) ?_
    refine pf_RX5_62 CX hK hP hD hS 0 rfl (dg ddX5_remember 9 rfl) (Nat.le_of_ble_eq_true rfl) (fun H locs hP hD hS => ?_)
    have hP : va_P D vwCl (wX5 q cy m_thr (m_kept - 1) m_rea m_det m_isv m_iit m_len m_at m_err m_wro m_cmd m_to1 m_to2 m_now m_sav m_ahe m_bef m_hst m_noi m_own m_inp) H := hP
    have hD : va_D A (wX5 q cy m_thr (m_kept - 1) m_rea m_det m_isv m_iit m_len m_at m_err m_wro m_cmd m_to1 m_to2 m_now m_sav m_ahe m_bef m_hst m_noi m_own m_inp) := hD
    refine lv_iconst (v := 0) hx hb (dg ddX5_remember 10 rfl) (by decide) ?_
    refine lv_istore_n (lv' := [(2, .int 0), (0, .ref (q 0)), (1, .ref (q 1))]) hx hb (dg ddX5_remember 11 rfl) rfl hl (by decide) rfl (fun ls hl => ?_)
    exact K21 4096 0 (m_kept - 1) m_hst _ _ hP hD hS _ (lv_sub hl [1, 2, 0] rfl) hf
def f_X5_remember_bef_c52  (m_bef : Nat → Int32) (m_kept : Int32) (m_hst : Nat → Nat → Int32) : Option (Int32 × (Nat → Nat → Int32)) := og (inb m_kept 8) (ob (f_X5_copyRow m_bef (m_hst m_kept.toNatClampNeg)) fun r3 => (some ((m_kept + 1), (vf_upd m_hst m_kept.toNatClampNeg r3))))
def f_X5_remember_bef_c21  (m_bef : Nat → Int32) : Nat → Int32 → Int32 → (Nat → Nat → Int32) → Option (Int32 × (Nat → Nat → Int32))
  | 0, _, _, _ => none
  | n + 1, x2, m_kept, m_hst => if m_kept ≤ x2 then (f_X5_remember_bef_c52 m_bef m_kept m_hst) else (og (inb (x2 + 1) 8) (og (inb x2 8) (og (decide (¬ (x2 + 1).toNatClampNeg = x2.toNatClampNeg)) (ob (f_X5_copyRow (m_hst ((x2 + 1).toNatClampNeg)) (m_hst x2.toNatClampNeg)) fun r5 => (f_X5_remember_bef_c21 m_bef n (x2 + 1) m_kept (vf_upd m_hst x2.toNatClampNeg r5))))))
def f_X5_remember_bef (m_kept : Int32) (m_bef : Nat → Int32) (m_hst : Nat → Nat → Int32) : Option (Int32 × (Nat → Nat → Int32)) := if m_kept = 8 then (f_X5_remember_bef_c21 m_bef 4096 0 (m_kept - 1) m_hst) else (f_X5_remember_bef_c52 m_bef m_kept m_hst)
set_option maxHeartbeats 4000000 in
set_option maxRecDepth 100000 in
theorem c_X5_remember_bef (l : Launch) (D : va_G) (cy : Nat → ClassId) (q : Nat → Nat) (m_thr : Int32) (m_kept : Int32) (m_rea : Int32) (m_det : Int32) (m_isv : Int32) (m_iit : Int32) (m_len : Int32) (m_at : Int32) (m_err : Int32) (m_wro : Int32) (m_cmd : Int32) (m_to1 : Int32) (m_to2 : Int32) (m_now : Nat → Int32) (m_sav : Nat → Int32) (m_ahe : Nat → Int32) (m_bef : Nat → Int32) (m_hst : Nat → Nat → Int32) (m_noi : Nat → UInt32) (m_own : Nat → UInt32) (m_inp : Nat → Int32) (sz : Nat) {res : Int32 × (Nat → Nat → Int32)} (hf : f_X5_remember_bef m_kept m_bef m_hst = some res) : Met l yX5_remember (.code yX5_remember cX5_remember 3 none :: lw_all) { frames := 2, cells := 0, slots := 0, locals := 34 } (va_Pc [.ref (q 0), .ref (q 4)] (sW D cy (wX5 q cy m_thr m_kept m_rea m_det m_isv m_iit m_len m_at m_err m_wro m_cmd m_to1 m_to2 m_now m_sav m_ahe m_bef m_hst m_noi m_own m_inp) sz)) (qV D (wX5 q cy m_thr res.1 m_rea m_det m_isv m_iit m_len m_at m_err m_wro m_cmd m_to1 m_to2 m_now m_sav m_ahe m_bef res.2 m_noi m_own m_inp) (va_A (wX5 q cy m_thr m_kept m_rea m_det m_isv m_iit m_len m_at m_err m_wro m_cmd m_to1 m_to2 m_now m_sav m_ahe m_bef m_hst m_noi m_own m_inp) sz)) 0 0 (va_A (wX5 q cy m_thr m_kept m_rea m_det m_isv m_iit m_len m_at m_err m_wro m_cmd m_to1 m_to2 m_now m_sav m_ahe m_bef m_hst m_noi m_own m_inp) sz) := by
  refine mk_rw (Qc := qV D (wX5 q cy m_thr res.1 m_rea m_det m_isv m_iit m_len m_at m_err m_wro m_cmd m_to1 m_to2 m_now m_sav m_ahe m_bef res.2 m_noi m_own m_inp) ) (Rc := RX5) (by decide +kernel) rfl (Nat.le_of_ble_eq_true rfl) ?_
  intro p e s m args below meth c ls A CX hml hr hlk hK hN hP hD hS hA hl
  have hx := CX.1
  have hb := CX.2.1
  have hRMX5_copyRow : (⟨1, 0, 0, 12⟩ : Room).frames + 1 ≤ (⟨2, 0, 0, 34⟩ : Room).frames ∧ 8 + (3 + 11) + (⟨1, 0, 0, 12⟩ : Room).locals ≤ (⟨2, 0, 0, 34⟩ : Room).locals := ⟨Nat.le_of_ble_eq_true rfl, Nat.le_of_ble_eq_true rfl⟩
  have hl0 := hl
  have K52 : ∀ (m_kept : Int32) (m_hst : Nat → Nat → Int32) (H : Heap) (locs : List Loc) (hP : va_P D vwCl (wX5 q cy m_thr m_kept m_rea m_det m_isv m_iit m_len m_at m_err m_wro m_cmd m_to1 m_to2 m_now m_sav m_ahe m_bef m_hst m_noi m_own m_inp) H) (hD : va_D A (wX5 q cy m_thr m_kept m_rea m_det m_isv m_iit m_len m_at m_err m_wro m_cmd m_to1 m_to2 m_now m_sav m_ahe m_bef m_hst m_noi m_own m_inp)) (hS : va_S A s.heap H locs) (ls : Array Slot) (hl : lv_has ls 3 [(0, .ref (q 0)), (1, .ref (q 4))]) (hf : f_X5_remember_bef_c52 m_bef m_kept m_hst = some res), W p l e ⟨2, 0, 0, 34⟩ s m args below meth c H locs 0 0 (MQ below (qV D (wX5 q cy m_thr res.1 m_rea m_det m_isv m_iit m_len m_at m_err m_wro m_cmd m_to1 m_to2 m_now m_sav m_ahe m_bef res.2 m_noi m_own m_inp) A) args s 0 0 A) (F0 m 52 ls []) := by
    intro m_kept m_hst H locs hP hD hS ls hl hf
    refine lv_aload_n hx hb (dg ddX5_remember 29 rfl) rfl (lv_at hl 1 rfl) ?_
    refine lv_aload_n hx hb (dg ddX5_remember 30 rfl) rfl (lv_at hl 0 rfl) ?_
    refine gf_RX5_24 CX hK hP 0 rfl rfl (dg ddX5_remember 31 rfl) ?_
    refine lv_aload_n hx hb (dg ddX5_remember 32 rfl) rfl (lv_at hl 0 rfl) ?_
    refine gf_RX5_62 CX hK hP 0 rfl rfl (dg ddX5_remember 33 rfl) ?_
    obtain ⟨h1, hf⟩ := og_some hf
    refine va_aldA (cell := ()) hx hb hK hP 5 4 rfl rfl (inb_in h1) (dg ddX5_remember 34 rfl) ?_
    show W p l e _ s m args below meth c _ _ 0 0 _ (F0 m 62 ls (.ref (q (20 + m_kept.toNatClampNeg)) :: _))
    obtain ⟨r3, e2, hf⟩ := ob_some hf
    refine crs2 CX hml (As := [.ref (q 4), .ref (q (20 + m_kept.toNatClampNeg))]) (rest := []) (ws := (wX5 q cy m_thr m_kept m_rea m_det m_isv m_iit m_len m_at m_err m_wro m_cmd m_to1 m_to2 m_now m_sav m_ahe m_bef m_hst m_noi m_own m_inp)) (wsn := (wX5 q cy m_thr m_kept m_rea m_det m_isv m_iit m_len m_at m_err m_wro m_cmd m_to1 m_to2 m_now m_sav m_ahe m_bef (vf_upd m_hst m_kept.toNatClampNeg r3) m_noi m_own m_inp)) (k1 := 4) (k2 := (9 + m_kept.toNatClampNeg)) (c_X5_copyRow l D cy (q 4) (q (20 + m_kept.toNatClampNeg)) m_bef (m_hst m_kept.toNatClampNeg) _ e2) lk_RX5_65 rfl rfl hRMX5_copyRow hP hD hS hA hK hN rfl (hrow_at (inb_lt h1)) (by omega) (hrow_set (inb_lt h1)) rfl hl.1 rfl (Nat.le_of_ble_eq_true rfl) ⟨Nat.le_of_ble_eq_true rfl, Nat.le_of_ble_eq_true rfl⟩ (dg ddX5_remember 35 rfl) (fun H locs hP hD hS => ?_)
    refine lv_aload_n hx hb (dg ddX5_remember 36 rfl) rfl (lv_at hl 0 rfl) ?_
    refine lv_dup hx hb (dg ddX5_remember 37 rfl) rfl ?_
    refine gf_RX5_62 CX hK hP 0 rfl rfl (dg ddX5_remember 38 rfl) ?_
    refine lv_iconst (v := 1) hx hb (dg ddX5_remember 39 rfl) (by decide) ?_
    refine lv_iadd hx hb (dg ddX5_remember 40 rfl) ?_
    refine pf_RX5_62 CX hK hP hD hS 0 rfl (dg ddX5_remember 41 rfl) (Nat.le_of_ble_eq_true rfl) (fun H locs hP hD hS => ?_)
    have hP : va_P D vwCl (wX5 q cy m_thr (m_kept + 1) m_rea m_det m_isv m_iit m_len m_at m_err m_wro m_cmd m_to1 m_to2 m_now m_sav m_ahe m_bef (vf_upd m_hst m_kept.toNatClampNeg r3) m_noi m_own m_inp) H := hP
    have hD : va_D A (wX5 q cy m_thr (m_kept + 1) m_rea m_det m_isv m_iit m_len m_at m_err m_wro m_cmd m_to1 m_to2 m_now m_sav m_ahe m_bef (vf_upd m_hst m_kept.toNatClampNeg r3) m_noi m_own m_inp) := hD
    cases hf
    exact e_wv CX hr hlk hP hD hS (dg ddX5_remember 42 rfl)
  have K21 : ∀ (n : Nat), ∀ (x2 : Int32) (m_kept : Int32) (m_hst : Nat → Nat → Int32) (H : Heap) (locs : List Loc) (hP : va_P D vwCl (wX5 q cy m_thr m_kept m_rea m_det m_isv m_iit m_len m_at m_err m_wro m_cmd m_to1 m_to2 m_now m_sav m_ahe m_bef m_hst m_noi m_own m_inp) H) (hD : va_D A (wX5 q cy m_thr m_kept m_rea m_det m_isv m_iit m_len m_at m_err m_wro m_cmd m_to1 m_to2 m_now m_sav m_ahe m_bef m_hst m_noi m_own m_inp)) (hS : va_S A s.heap H locs) (ls : Array Slot) (hl : lv_has ls 3 [(0, .ref (q 0)), (1, .ref (q 4)), (2, .int x2)]) (hf : f_X5_remember_bef_c21 m_bef n x2 m_kept m_hst = some res), W p l e ⟨2, 0, 0, 34⟩ s m args below meth c H locs 0 0 (MQ below (qV D (wX5 q cy m_thr res.1 m_rea m_det m_isv m_iit m_len m_at m_err m_wro m_cmd m_to1 m_to2 m_now m_sav m_ahe m_bef res.2 m_noi m_own m_inp) A) args s 0 0 A) (F0 m 21 ls []) := by
    intro n
    induction n with
    | zero => intro x2 m_kept m_hst H locs hP hD hS ls hl hf; cases (show none = some res from hf)
    | succ n ih =>
    intro x2 m_kept m_hst H locs hP hD hS ls hl hf
    refine lv_iload_n hx hb (dg ddX5_remember 12 rfl) rfl (lv_at hl 2 rfl) ?_
    refine lv_aload_n hx hb (dg ddX5_remember 13 rfl) rfl (lv_at hl 0 rfl) ?_
    refine gf_RX5_62 CX hK hP 0 rfl rfl (dg ddX5_remember 14 rfl) ?_
    refine lv_icmp_ge (tgt := 52) hx hb (dg ddX5_remember 15 rfl) (by decide) (fun h1 => ?_) (fun h1 => ?_)
    · have hf := it_t h1 hf
      exact K52  m_kept m_hst _ _ hP hD hS _ (lv_sub hl [0, 1] rfl) hf
    · have hf := it_f h1 hf
      refine lv_aload_n hx hb (dg ddX5_remember 16 rfl) rfl (lv_at hl 0 rfl) ?_
      refine gf_RX5_24 CX hK hP 0 rfl rfl (dg ddX5_remember 17 rfl) ?_
      refine lv_iload_n hx hb (dg ddX5_remember 18 rfl) rfl (lv_at hl 2 rfl) ?_
      refine lv_iconst (v := 1) hx hb (dg ddX5_remember 19 rfl) (by decide) ?_
      refine lv_iadd hx hb (dg ddX5_remember 20 rfl) ?_
      obtain ⟨h2, hf⟩ := og_some hf
      refine va_aldA (cell := ()) hx hb hK hP 5 4 rfl rfl (inb_in h2) (dg ddX5_remember 21 rfl) ?_
      show W p l e _ s m args below meth c _ _ 0 0 _ (F0 m 37 ls (.ref (q (20 + (x2 + 1).toNatClampNeg)) :: _))
      refine lv_aload_n hx hb (dg ddX5_remember 22 rfl) rfl (lv_at hl 0 rfl) ?_
      refine gf_RX5_24 CX hK hP 0 rfl rfl (dg ddX5_remember 23 rfl) ?_
      refine lv_iload_n hx hb (dg ddX5_remember 24 rfl) rfl (lv_at hl 2 rfl) ?_
      obtain ⟨h3, hf⟩ := og_some hf
      refine va_aldA (cell := ()) hx hb hK hP 5 4 rfl rfl (inb_in h3) (dg ddX5_remember 25 rfl) ?_
      show W p l e _ s m args below meth c _ _ 0 0 _ (F0 m 43 ls (.ref (q (20 + x2.toNatClampNeg)) :: _))
      obtain ⟨h6, hf⟩ := og_some hf
      obtain ⟨r5, e4, hf⟩ := ob_some hf
      refine crs2 CX hml (As := [.ref (q (20 + (x2 + 1).toNatClampNeg)), .ref (q (20 + x2.toNatClampNeg))]) (rest := []) (ws := (wX5 q cy m_thr m_kept m_rea m_det m_isv m_iit m_len m_at m_err m_wro m_cmd m_to1 m_to2 m_now m_sav m_ahe m_bef m_hst m_noi m_own m_inp)) (wsn := (wX5 q cy m_thr m_kept m_rea m_det m_isv m_iit m_len m_at m_err m_wro m_cmd m_to1 m_to2 m_now m_sav m_ahe m_bef (vf_upd m_hst x2.toNatClampNeg r5) m_noi m_own m_inp)) (k1 := (9 + (x2 + 1).toNatClampNeg)) (k2 := (9 + x2.toNatClampNeg)) (c_X5_copyRow l D cy (q (20 + (x2 + 1).toNatClampNeg)) (q (20 + x2.toNatClampNeg)) (m_hst ((x2 + 1).toNatClampNeg)) (m_hst x2.toNatClampNeg) _ e4) lk_RX5_65 rfl rfl hRMX5_copyRow hP hD hS hA hK hN (hrow_at (inb_lt h2)) (hrow_at (inb_lt h3)) (fun h => of_decide_eq_true h6 (Nat.add_left_cancel h)) (hrow_set (inb_lt h3)) rfl hl.1 rfl (Nat.le_of_ble_eq_true rfl) ⟨Nat.le_of_ble_eq_true rfl, Nat.le_of_ble_eq_true rfl⟩ (dg ddX5_remember 26 rfl) (fun H locs hP hD hS => ?_)
      refine lv_iinc (v := x2 + 1) (lv' := [(2, .int (x2 + 1)), (0, .ref (q 0)), (1, .ref (q 4))]) hx hb (dg ddX5_remember 27 rfl) hl (k := 2) rfl (congrArg (HAdd.hAdd x2) (by decide)) (by decide) rfl (fun ls hl => ?_)
      refine lv_goto (tgt := 21) hx hb (dg ddX5_remember 28 rfl) (by decide) ?_
      exact ih (x2 + 1) m_kept (vf_upd m_hst x2.toNatClampNeg r5) _ _ hP hD hS _ (lv_sub hl [1, 2, 0] rfl) hf
  refine lv_aload_n hx hb (dg ddX5_remember 0 rfl) rfl (lv_at hl 0 rfl) ?_
  refine gf_RX5_62 CX hK hP 0 rfl rfl (dg ddX5_remember 1 rfl) ?_
  refine lv_bipush (v := 8) hx hb (dg ddX5_remember 2 rfl) (by decide) ?_
  refine lv_icmp_ne (tgt := 52) hx hb (dg ddX5_remember 3 rfl) (by decide) (fun h1 => ?_) (fun h1 => ?_)
  · have hf := it_f h1 hf
    exact K52  m_kept m_hst _ _ hP hD hS _ (lv_sub hl [0, 1] rfl) hf
  · have hf := it_t h1 hf
    refine lv_aload_n hx hb (dg ddX5_remember 4 rfl) rfl (lv_at hl 0 rfl) ?_
    refine lv_dup hx hb (dg ddX5_remember 5 rfl) rfl ?_
    refine gf_RX5_62 CX hK hP 0 rfl rfl (dg ddX5_remember 6 rfl) ?_
    refine lv_iconst (v := 1) hx hb (dg ddX5_remember 7 rfl) (by decide) ?_
    refine lv_isub hx hb (dg ddX5_remember 8 rfl) ?_
    refine pf_RX5_62 CX hK hP hD hS 0 rfl (dg ddX5_remember 9 rfl) (Nat.le_of_ble_eq_true rfl) (fun H locs hP hD hS => ?_)
    have hP : va_P D vwCl (wX5 q cy m_thr (m_kept - 1) m_rea m_det m_isv m_iit m_len m_at m_err m_wro m_cmd m_to1 m_to2 m_now m_sav m_ahe m_bef m_hst m_noi m_own m_inp) H := hP
    have hD : va_D A (wX5 q cy m_thr (m_kept - 1) m_rea m_det m_isv m_iit m_len m_at m_err m_wro m_cmd m_to1 m_to2 m_now m_sav m_ahe m_bef m_hst m_noi m_own m_inp) := hD
    refine lv_iconst (v := 0) hx hb (dg ddX5_remember 10 rfl) (by decide) ?_
    refine lv_istore_n (lv' := [(2, .int 0), (0, .ref (q 0)), (1, .ref (q 4))]) hx hb (dg ddX5_remember 11 rfl) rfl hl (by decide) rfl (fun ls hl => ?_)
    exact K21 4096 0 (m_kept - 1) m_hst _ _ hP hD hS _ (lv_sub hl [1, 2, 0] rfl) hf
def f_X5_change (m_kept : Int32) (m_iit : Int32) (m_now : Nat → Int32) (m_hst : Nat → Nat → Int32) : Option (Int32 × (Nat → Nat → Int32)) := if m_iit = 0 then (ob (f_X5_remember_now m_kept m_now m_hst) fun r3 => (some (r3.1, r3.2))) else (some (m_kept, m_hst))
set_option maxHeartbeats 4000000 in
set_option maxRecDepth 100000 in
theorem c_X5_change (l : Launch) (D : va_G) (cy : Nat → ClassId) (q : Nat → Nat) (m_thr : Int32) (m_kept : Int32) (m_rea : Int32) (m_det : Int32) (m_isv : Int32) (m_iit : Int32) (m_len : Int32) (m_at : Int32) (m_err : Int32) (m_wro : Int32) (m_cmd : Int32) (m_to1 : Int32) (m_to2 : Int32) (m_now : Nat → Int32) (m_sav : Nat → Int32) (m_ahe : Nat → Int32) (m_bef : Nat → Int32) (m_hst : Nat → Nat → Int32) (m_noi : Nat → UInt32) (m_own : Nat → UInt32) (m_inp : Nat → Int32) (sz : Nat) {res : Int32 × (Nat → Nat → Int32)} (hf : f_X5_change m_kept m_iit m_now m_hst = some res) : Met l yX5_change (.code yX5_change cX5_change 1 none :: lw_all) { frames := 3, cells := 0, slots := 0, locals := 56 } (va_Pc [.ref (q 0)] (sW D cy (wX5 q cy m_thr m_kept m_rea m_det m_isv m_iit m_len m_at m_err m_wro m_cmd m_to1 m_to2 m_now m_sav m_ahe m_bef m_hst m_noi m_own m_inp) sz)) (qV D (wX5 q cy m_thr res.1 m_rea m_det m_isv m_iit m_len m_at m_err m_wro m_cmd m_to1 m_to2 m_now m_sav m_ahe m_bef res.2 m_noi m_own m_inp) (va_A (wX5 q cy m_thr m_kept m_rea m_det m_isv m_iit m_len m_at m_err m_wro m_cmd m_to1 m_to2 m_now m_sav m_ahe m_bef m_hst m_noi m_own m_inp) sz)) 0 0 (va_A (wX5 q cy m_thr m_kept m_rea m_det m_isv m_iit m_len m_at m_err m_wro m_cmd m_to1 m_to2 m_now m_sav m_ahe m_bef m_hst m_noi m_own m_inp) sz) := by
  refine mk_rw (Qc := qV D (wX5 q cy m_thr res.1 m_rea m_det m_isv m_iit m_len m_at m_err m_wro m_cmd m_to1 m_to2 m_now m_sav m_ahe m_bef res.2 m_noi m_own m_inp) ) (Rc := RX5) (by decide +kernel) rfl (Nat.le_of_ble_eq_true rfl) ?_
  intro p e s m args below meth c ls A CX hml hr hlk hK hN hP hD hS hA hl
  have hx := CX.1
  have hb := CX.2.1
  have hRMX5_remember_now : (⟨2, 0, 0, 34⟩ : Room).frames + 1 ≤ (⟨3, 0, 0, 56⟩ : Room).frames ∧ 8 + (3 + 11) + (⟨2, 0, 0, 34⟩ : Room).locals ≤ (⟨3, 0, 0, 56⟩ : Room).locals := ⟨Nat.le_of_ble_eq_true rfl, Nat.le_of_ble_eq_true rfl⟩
  refine lv_aload_n hx hb (dg ddX5_change 0 rfl) rfl (lv_at hl 0 rfl) ?_
  refine gf_RX5_69 CX hK hP 0 rfl rfl (dg ddX5_change 1 rfl) ?_
  refine lv_if_ne (tgt := 15) hx hb (dg ddX5_change 2 rfl) (by decide) (fun h1 => ?_) (fun h1 => ?_)
  · have hf := it_f h1 hf
    cases hf
    exact e_wv CX hr hlk hP hD hS (dg ddX5_change 7 rfl)
  · have hf := it_t h1 hf
    refine lv_aload_n hx hb (dg ddX5_change 3 rfl) rfl (lv_at hl 0 rfl) ?_
    refine lv_aload_n hx hb (dg ddX5_change 4 rfl) rfl (lv_at hl 0 rfl) ?_
    refine gf_RX5_9 CX hK hP 0 rfl rfl (dg ddX5_change 5 rfl) ?_
    obtain ⟨r3, e2, hf⟩ := ob_some hf
    refine crw_vv CX hml (As := [.ref (q 1)]) (rest := []) (c_X5_remember_now l D cy q m_thr m_kept m_rea m_det m_isv m_iit m_len m_at m_err m_wro m_cmd m_to1 m_to2 m_now m_sav m_ahe m_bef m_hst m_noi m_own m_inp _ e2) lk_RX5_73 rfl rfl hRMX5_remember_now hP hD hS hA hK hN 0 rfl rfl rfl hl.1 rfl (Nat.le_of_ble_eq_true rfl) ⟨Nat.le_of_ble_eq_true rfl, Nat.le_of_ble_eq_true rfl⟩ (dg ddX5_change 6 rfl) (fun H locs hP hD hS => ?_)
    cases hf
    exact e_wv CX hr hlk hP hD hS (dg ddX5_change 7 rfl)
def f_X5_crowd_c17  (m_iit : Int32) (a1 : Int32) (t0 : Int32) (t1 : Int32) (m_thr : Int32) (m_kept : Int32) (m_now : Nat → Int32) (m_hst : Nat → Nat → Int32) : Option (Int32 × Int32 × Int32 × (Nat → Int32) × (Nat → Nat → Int32)) := ob (f_X5_fails m_thr t1 t0) fun r2 => (if r2.1 = 0 then (ob (f_X5_change m_kept m_iit m_now m_hst) fun r5 => (og (inb 1 112) (og (inb 1 112) (some ((m_now (1 : Int32).toNatClampNeg), r2.2, r5.1, (upd m_now (1 : Int32).toNatClampNeg a1), r5.2))))) else (some (0, r2.2, m_kept, m_now, m_hst)))
def f_X5_crowd (m_thr : Int32) (m_kept : Int32) (m_iit : Int32) (m_now : Nat → Int32) (m_hst : Nat → Nat → Int32) (a1 : Int32) : Option (Int32 × Int32 × Int32 × (Nat → Int32) × (Nat → Nat → Int32)) := ob (f_X5_isBetween a1 0 50) fun r2 => (if r2 = 0 then (f_X5_crowd_c17 m_iit a1 1 1 m_thr m_kept m_now m_hst) else (f_X5_crowd_c17 m_iit a1 0 1 m_thr m_kept m_now m_hst))
set_option maxHeartbeats 4000000 in
set_option maxRecDepth 100000 in
theorem c_X5_crowd (l : Launch) (D : va_G) (cy : Nat → ClassId) (q : Nat → Nat) (m_thr : Int32) (m_kept : Int32) (m_rea : Int32) (m_det : Int32) (m_isv : Int32) (m_iit : Int32) (m_len : Int32) (m_at : Int32) (m_err : Int32) (m_wro : Int32) (m_cmd : Int32) (m_to1 : Int32) (m_to2 : Int32) (m_now : Nat → Int32) (m_sav : Nat → Int32) (m_ahe : Nat → Int32) (m_bef : Nat → Int32) (m_hst : Nat → Nat → Int32) (m_noi : Nat → UInt32) (m_own : Nat → UInt32) (m_inp : Nat → Int32) (a1 : Int32) (sz : Nat) {res : Int32 × Int32 × Int32 × (Nat → Int32) × (Nat → Nat → Int32)} (hf : f_X5_crowd m_thr m_kept m_iit m_now m_hst a1 = some res) : Met l yX5_crowd (.code yX5_crowd cX5_crowd 3 (some .int) :: lw_all) { frames := 4, cells := 0, slots := 0, locals := 76 } (va_Pc [.ref (q 0), .int a1] (sW D cy (wX5 q cy m_thr m_kept m_rea m_det m_isv m_iit m_len m_at m_err m_wro m_cmd m_to1 m_to2 m_now m_sav m_ahe m_bef m_hst m_noi m_own m_inp) sz)) (qI D (wX5 q cy res.2.1 res.2.2.1 m_rea m_det m_isv m_iit m_len m_at m_err m_wro m_cmd m_to1 m_to2 res.2.2.2.1 m_sav m_ahe m_bef res.2.2.2.2 m_noi m_own m_inp) res.1 (va_A (wX5 q cy m_thr m_kept m_rea m_det m_isv m_iit m_len m_at m_err m_wro m_cmd m_to1 m_to2 m_now m_sav m_ahe m_bef m_hst m_noi m_own m_inp) sz)) 0 0 (va_A (wX5 q cy m_thr m_kept m_rea m_det m_isv m_iit m_len m_at m_err m_wro m_cmd m_to1 m_to2 m_now m_sav m_ahe m_bef m_hst m_noi m_own m_inp) sz) := by
  refine mk_rw (Qc := qI D (wX5 q cy res.2.1 res.2.2.1 m_rea m_det m_isv m_iit m_len m_at m_err m_wro m_cmd m_to1 m_to2 res.2.2.2.1 m_sav m_ahe m_bef res.2.2.2.2 m_noi m_own m_inp) res.1) (Rc := RX5) (by decide +kernel) rfl (Nat.le_of_ble_eq_true rfl) ?_
  intro p e s m args below meth c ls A CX hml hr hlk hK hN hP hD hS hA hl
  have hx := CX.1
  have hb := CX.2.1
  have hRMX5_change : (⟨3, 0, 0, 56⟩ : Room).frames + 1 ≤ (⟨4, 0, 0, 76⟩ : Room).frames ∧ 8 + (1 + 11) + (⟨3, 0, 0, 56⟩ : Room).locals ≤ (⟨4, 0, 0, 76⟩ : Room).locals := ⟨Nat.le_of_ble_eq_true rfl, Nat.le_of_ble_eq_true rfl⟩
  have hRMX5_fails : (⟨1, 0, 0, 12⟩ : Room).frames + 1 ≤ (⟨4, 0, 0, 76⟩ : Room).frames ∧ 8 + (3 + 11) + (⟨1, 0, 0, 12⟩ : Room).locals ≤ (⟨4, 0, 0, 76⟩ : Room).locals := ⟨Nat.le_of_ble_eq_true rfl, Nat.le_of_ble_eq_true rfl⟩
  have hRMX5_isBetween : (⟨1, 0, 0, 12⟩ : Room).frames + 1 ≤ (⟨4, 0, 0, 76⟩ : Room).frames ∧ 8 + (3 + 11) + (⟨1, 0, 0, 12⟩ : Room).locals ≤ (⟨4, 0, 0, 76⟩ : Room).locals := ⟨Nat.le_of_ble_eq_true rfl, Nat.le_of_ble_eq_true rfl⟩
  have hl0 := hl
  have K17 : ∀ (t0 : Int32) (t1 : Int32) (m_thr : Int32) (m_kept : Int32) (m_now : Nat → Int32) (m_hst : Nat → Nat → Int32) (H : Heap) (locs : List Loc) (hP : va_P D vwCl (wX5 q cy m_thr m_kept m_rea m_det m_isv m_iit m_len m_at m_err m_wro m_cmd m_to1 m_to2 m_now m_sav m_ahe m_bef m_hst m_noi m_own m_inp) H) (hD : va_D A (wX5 q cy m_thr m_kept m_rea m_det m_isv m_iit m_len m_at m_err m_wro m_cmd m_to1 m_to2 m_now m_sav m_ahe m_bef m_hst m_noi m_own m_inp)) (hS : va_S A s.heap H locs) (ls : Array Slot) (hl : lv_has ls 3 [(0, .ref (q 0)), (1, .int a1)]) (hf : f_X5_crowd_c17 m_iit a1 t0 t1 m_thr m_kept m_now m_hst = some res), W p l e ⟨4, 0, 0, 76⟩ s m args below meth c H locs 0 0 (MQ below (qI D (wX5 q cy res.2.1 res.2.2.1 m_rea m_det m_isv m_iit m_len m_at m_err m_wro m_cmd m_to1 m_to2 res.2.2.2.1 m_sav m_ahe m_bef res.2.2.2.2 m_noi m_own m_inp) res.1 A) args s 0 0 A) (F0 m 17 ls [.int t0, .int t1, .ref (q 0)]) := by
    intro t0 t1 m_thr m_kept m_now m_hst H locs hP hD hS ls hl hf
    obtain ⟨r2, e1, hf⟩ := ob_some hf
    refine crw_vi CX hml (As := [.int t1, .int t0]) (rest := []) (c_X5_fails l D cy q m_thr m_kept m_rea m_det m_isv m_iit m_len m_at m_err m_wro m_cmd m_to1 m_to2 m_now m_sav m_ahe m_bef m_hst m_noi m_own m_inp t1 t0 _ e1) lk_RX5_81 rfl rfl hRMX5_fails hP hD hS hA hK hN 0 rfl rfl rfl hl.1 rfl (Nat.le_of_ble_eq_true rfl) ⟨Nat.le_of_ble_eq_true rfl, Nat.le_of_ble_eq_true rfl⟩ (dg ddX5_crowd 10 rfl) (fun H locs hP hD hS => ?_)
    refine lv_if_eq (tgt := 25) hx hb (dg ddX5_crowd 11 rfl) (by decide) (fun h3 => ?_) (fun h3 => ?_)
    · have hf := it_t h3 hf
      refine lv_aload_n hx hb (dg ddX5_crowd 14 rfl) rfl (lv_at hl 0 rfl) ?_
      obtain ⟨r5, e4, hf⟩ := ob_some hf
      refine crw_vv CX hml (As := []) (rest := []) (c_X5_change l D cy q r2.2 m_kept m_rea m_det m_isv m_iit m_len m_at m_err m_wro m_cmd m_to1 m_to2 m_now m_sav m_ahe m_bef m_hst m_noi m_own m_inp _ e4) lk_RX5_85 rfl rfl hRMX5_change hP hD hS hA hK hN 0 rfl rfl rfl hl.1 rfl (Nat.le_of_ble_eq_true rfl) ⟨Nat.le_of_ble_eq_true rfl, Nat.le_of_ble_eq_true rfl⟩ (dg ddX5_crowd 15 rfl) (fun H locs hP hD hS => ?_)
      refine lv_aload_n hx hb (dg ddX5_crowd 16 rfl) rfl (lv_at hl 0 rfl) ?_
      refine gf_RX5_9 CX hK hP 0 rfl rfl (dg ddX5_crowd 17 rfl) ?_
      refine lv_iconst (v := 1) hx hb (dg ddX5_crowd 18 rfl) (by decide) ?_
      obtain ⟨h6, hf⟩ := og_some hf
      refine va_iald hx hb hK hP 1 0 rfl rfl (inb_in h6) (dg ddX5_crowd 19 rfl) ?_
      refine lv_istore_n (lv' := [(2, .int (m_now (1 : Int32).toNatClampNeg)), (0, .ref (q 0)), (1, .int a1)]) hx hb (dg ddX5_crowd 20 rfl) rfl hl (by decide) rfl (fun ls hl => ?_)
      refine lv_aload_n hx hb (dg ddX5_crowd 21 rfl) rfl (lv_at hl 1 rfl) ?_
      refine gf_RX5_9 CX hK hP 0 rfl rfl (dg ddX5_crowd 22 rfl) ?_
      refine lv_iconst (v := 1) hx hb (dg ddX5_crowd 23 rfl) (by decide) ?_
      refine lv_iload_n hx hb (dg ddX5_crowd 24 rfl) rfl (lv_at hl 2 rfl) ?_
      obtain ⟨h7, hf⟩ := og_some hf
      refine va_iast hx hb hK hP hD hS 1 0 rfl rfl (inb_in h7) (dg ddX5_crowd 25 rfl) (fun H locs hP hD hS => ?_)
      have hP : va_P D vwCl (wX5 q cy r2.2 r5.1 m_rea m_det m_isv m_iit m_len m_at m_err m_wro m_cmd m_to1 m_to2 (upd m_now (1 : Int32).toNatClampNeg a1) m_sav m_ahe m_bef r5.2 m_noi m_own m_inp) H := hP
      have hD : va_D A (wX5 q cy r2.2 r5.1 m_rea m_det m_isv m_iit m_len m_at m_err m_wro m_cmd m_to1 m_to2 (upd m_now (1 : Int32).toNatClampNeg a1) m_sav m_ahe m_bef r5.2 m_noi m_own m_inp) := hD
      refine lv_iload_n hx hb (dg ddX5_crowd 26 rfl) rfl (lv_at hl 0 rfl) ?_
      cases hf
      exact e_wi CX hr hlk rfl hP hD hS (dg ddX5_crowd 27 rfl)
    · have hf := it_f h3 hf
      refine lv_iconst (v := 0) hx hb (dg ddX5_crowd 12 rfl) (by decide) ?_
      cases hf
      exact e_wi CX hr hlk rfl hP hD hS (dg ddX5_crowd 13 rfl)
  refine lv_aload_n hx hb (dg ddX5_crowd 0 rfl) rfl (lv_at hl 0 rfl) ?_
  refine lv_iconst (v := 1) hx hb (dg ddX5_crowd 1 rfl) (by decide) ?_
  refine lv_iload_n hx hb (dg ddX5_crowd 2 rfl) rfl (lv_at hl 1 rfl) ?_
  refine lv_iconst (v := 0) hx hb (dg ddX5_crowd 3 rfl) (by decide) ?_
  refine lv_bipush (v := 50) hx hb (dg ddX5_crowd 4 rfl) (by decide) ?_
  obtain ⟨r2, e1, hf⟩ := ob_some hf
  refine cro_si CX hml (As := [.int a1, .int 0, .int 50]) (rest := [.int 1, .ref (q 0)]) (c_X5_isBetween l D cy a1 0 50 e1) lk_RX5_77 rfl rfl hRMX5_isBetween vaP_nil hK hN rfl hl.1 rfl (Nat.le_of_ble_eq_true rfl) ⟨Nat.le_of_ble_eq_true rfl, Nat.le_of_ble_eq_true rfl⟩ (dg ddX5_crowd 5 rfl) ?_
  refine lv_if_ne (tgt := 16) hx hb (dg ddX5_crowd 6 rfl) (by decide) (fun h3 => ?_) (fun h3 => ?_)
  · have hf := it_f h3 hf
    refine lv_iconst (v := 0) hx hb (dg ddX5_crowd 9 rfl) (by decide) ?_
    exact K17  0 1 m_thr m_kept m_now m_hst _ _ hP hD hS _ (lv_sub hl [0, 1] rfl) hf
  · have hf := it_t h3 hf
    refine lv_iconst (v := 1) hx hb (dg ddX5_crowd 7 rfl) (by decide) ?_
    refine lv_goto (tgt := 17) hx hb (dg ddX5_crowd 8 rfl) (by decide) ?_
    exact K17  1 1 m_thr m_kept m_now m_hst _ _ hP hD hS _ (lv_sub hl [0, 1] rfl) hf
def f_X5_isPitch (a1 : Int32) : Option (Int32) := ob (f_X5_isBetween a1 0 7) fun r2 => (og (isZ r2) (some r2))
set_option maxHeartbeats 4000000 in
set_option maxRecDepth 100000 in
theorem c_X5_isPitch (l : Launch) (D : va_G) (cy : Nat → ClassId) (a1 : Int32) {res : Int32} (hf : f_X5_isPitch a1 = some res) : Met l yX5_isPitch (.code yX5_isPitch cX5_isPitch 1 (some .boolean) :: lw_all) { frames := 2, cells := 0, slots := 0, locals := 34 } (va_Pc [.int a1] (sR D cy [])) (vp_Si (fun r => r = res)) 0 0 (fun _ => False) := by
  refine mk_ro (Rc := RX5) (by decide +kernel) rfl (Nat.le_of_ble_eq_true rfl) ?_
  intro p e s m args below meth c ls CX hml hr hlk hK hN hP hl
  have hx := CX.1
  have hb := CX.2.1
  have hRMX5_isBetween : (⟨1, 0, 0, 12⟩ : Room).frames + 1 ≤ (⟨2, 0, 0, 34⟩ : Room).frames ∧ 8 + (3 + 11) + (⟨1, 0, 0, 12⟩ : Room).locals ≤ (⟨2, 0, 0, 34⟩ : Room).locals := ⟨Nat.le_of_ble_eq_true rfl, Nat.le_of_ble_eq_true rfl⟩
  refine lv_iload_n hx hb (dg ddX5_isPitch 0 rfl) rfl (lv_at hl 0 rfl) ?_
  refine lv_iconst (v := 0) hx hb (dg ddX5_isPitch 1 rfl) (by decide) ?_
  refine lv_bipush (v := 7) hx hb (dg ddX5_isPitch 2 rfl) (by decide) ?_
  obtain ⟨r2, e1, hf⟩ := ob_some hf
  refine cro_si CX hml (As := [.int a1, .int 0, .int 7]) (rest := []) (c_X5_isBetween l D cy a1 0 7 e1) lk_RX5_77 rfl rfl hRMX5_isBetween vaP_nil hK hN rfl hl.1 rfl (Nat.le_of_ble_eq_true rfl) ⟨Nat.le_of_ble_eq_true rfl, Nat.le_of_ble_eq_true rfl⟩ (dg ddX5_isPitch 3 rfl) ?_
  obtain ⟨h3, hf⟩ := og_some hf
  exact e_rz CX hr hlk (isZ_n h3) (Option.some.inj hf) (dg ddX5_isPitch 4 rfl)
def f_X5_ofPitch (m_now : Nat → Int32) (a1 : Int32) (a2 : Int32) : Option (Int32) := og (inb ((8 + (4 * a1)) + a2) 112) (some (m_now ((8 + (4 * a1)) + a2).toNatClampNeg))
set_option maxHeartbeats 4000000 in
set_option maxRecDepth 100000 in
theorem c_X5_ofPitch (l : Launch) (D : va_G) (cy : Nat → ClassId) (q : Nat → Nat) (m_thr : Int32) (m_kept : Int32) (m_rea : Int32) (m_det : Int32) (m_isv : Int32) (m_iit : Int32) (m_len : Int32) (m_at : Int32) (m_err : Int32) (m_wro : Int32) (m_cmd : Int32) (m_to1 : Int32) (m_to2 : Int32) (m_now : Nat → Int32) (m_sav : Nat → Int32) (m_ahe : Nat → Int32) (m_bef : Nat → Int32) (m_hst : Nat → Nat → Int32) (m_noi : Nat → UInt32) (m_own : Nat → UInt32) (m_inp : Nat → Int32) (a1 : Int32) (a2 : Int32) {res : Int32} (hf : f_X5_ofPitch m_now a1 a2 = some res) : Met l yX5_ofPitch (.code yX5_ofPitch cX5_ofPitch 3 (some .int) :: lw_all) { frames := 1, cells := 0, slots := 0, locals := 12 } (va_Pc [.ref (q 0), .int a1, .int a2] (sR D cy (wX5 q cy m_thr m_kept m_rea m_det m_isv m_iit m_len m_at m_err m_wro m_cmd m_to1 m_to2 m_now m_sav m_ahe m_bef m_hst m_noi m_own m_inp))) (vp_Si (fun r => r = res)) 0 0 (fun _ => False) := by
  refine mk_ro (Rc := RX5) (by decide +kernel) rfl (Nat.le_of_ble_eq_true rfl) ?_
  intro p e s m args below meth c ls CX hml hr hlk hK hN hP hl
  have hx := CX.1
  have hb := CX.2.1
  refine lv_aload_n hx hb (dg ddX5_ofPitch 0 rfl) rfl (lv_at hl 0 rfl) ?_
  refine gf_RX5_9 CX hK hP 0 rfl rfl (dg ddX5_ofPitch 1 rfl) ?_
  refine lv_bipush (v := 8) hx hb (dg ddX5_ofPitch 2 rfl) (by decide) ?_
  refine lv_iconst (v := 4) hx hb (dg ddX5_ofPitch 3 rfl) (by decide) ?_
  refine lv_iload_n hx hb (dg ddX5_ofPitch 4 rfl) rfl (lv_at hl 1 rfl) ?_
  refine lv_imul hx hb (dg ddX5_ofPitch 5 rfl) ?_
  refine lv_iadd hx hb (dg ddX5_ofPitch 6 rfl) ?_
  refine lv_iload_n hx hb (dg ddX5_ofPitch 7 rfl) rfl (lv_at hl 2 rfl) ?_
  refine lv_iadd hx hb (dg ddX5_ofPitch 8 rfl) ?_
  obtain ⟨h1, hf⟩ := og_some hf
  refine va_iald hx hb hK hP 1 0 rfl rfl (inb_in h1) (dg ddX5_ofPitch 9 rfl) ?_
  exact e_ri CX hr hlk (Option.some.inj hf) (dg ddX5_ofPitch 10 rfl)
def f_X5_putPitch (m_now : Nat → Int32) (a1 : Int32) (a2 : Int32) (a3 : Int32) : Option ((Nat → Int32)) := og (inb ((8 + (4 * a1)) + a2) 112) (some (upd m_now ((8 + (4 * a1)) + a2).toNatClampNeg a3))
set_option maxHeartbeats 4000000 in
set_option maxRecDepth 100000 in
theorem c_X5_putPitch (l : Launch) (D : va_G) (cy : Nat → ClassId) (q : Nat → Nat) (m_thr : Int32) (m_kept : Int32) (m_rea : Int32) (m_det : Int32) (m_isv : Int32) (m_iit : Int32) (m_len : Int32) (m_at : Int32) (m_err : Int32) (m_wro : Int32) (m_cmd : Int32) (m_to1 : Int32) (m_to2 : Int32) (m_now : Nat → Int32) (m_sav : Nat → Int32) (m_ahe : Nat → Int32) (m_bef : Nat → Int32) (m_hst : Nat → Nat → Int32) (m_noi : Nat → UInt32) (m_own : Nat → UInt32) (m_inp : Nat → Int32) (a1 : Int32) (a2 : Int32) (a3 : Int32) (sz : Nat) {res : (Nat → Int32)} (hf : f_X5_putPitch m_now a1 a2 a3 = some res) : Met l yX5_putPitch (.code yX5_putPitch cX5_putPitch 4 none :: lw_all) { frames := 1, cells := 0, slots := 0, locals := 12 } (va_Pc [.ref (q 0), .int a1, .int a2, .int a3] (sW D cy (wX5 q cy m_thr m_kept m_rea m_det m_isv m_iit m_len m_at m_err m_wro m_cmd m_to1 m_to2 m_now m_sav m_ahe m_bef m_hst m_noi m_own m_inp) sz)) (qV D (wX5 q cy m_thr m_kept m_rea m_det m_isv m_iit m_len m_at m_err m_wro m_cmd m_to1 m_to2 res m_sav m_ahe m_bef m_hst m_noi m_own m_inp) (va_A (wX5 q cy m_thr m_kept m_rea m_det m_isv m_iit m_len m_at m_err m_wro m_cmd m_to1 m_to2 m_now m_sav m_ahe m_bef m_hst m_noi m_own m_inp) sz)) 0 0 (va_A (wX5 q cy m_thr m_kept m_rea m_det m_isv m_iit m_len m_at m_err m_wro m_cmd m_to1 m_to2 m_now m_sav m_ahe m_bef m_hst m_noi m_own m_inp) sz) := by
  refine mk_rw (Qc := qV D (wX5 q cy m_thr m_kept m_rea m_det m_isv m_iit m_len m_at m_err m_wro m_cmd m_to1 m_to2 res m_sav m_ahe m_bef m_hst m_noi m_own m_inp) ) (Rc := RX5) (by decide +kernel) rfl (Nat.le_of_ble_eq_true rfl) ?_
  intro p e s m args below meth c ls A CX hml hr hlk hK hN hP hD hS hA hl
  have hx := CX.1
  have hb := CX.2.1
  refine lv_aload_n hx hb (dg ddX5_putPitch 0 rfl) rfl (lv_at hl 0 rfl) ?_
  refine gf_RX5_9 CX hK hP 0 rfl rfl (dg ddX5_putPitch 1 rfl) ?_
  refine lv_bipush (v := 8) hx hb (dg ddX5_putPitch 2 rfl) (by decide) ?_
  refine lv_iconst (v := 4) hx hb (dg ddX5_putPitch 3 rfl) (by decide) ?_
  refine lv_iload_n hx hb (dg ddX5_putPitch 4 rfl) rfl (lv_at hl 1 rfl) ?_
  refine lv_imul hx hb (dg ddX5_putPitch 5 rfl) ?_
  refine lv_iadd hx hb (dg ddX5_putPitch 6 rfl) ?_
  refine lv_iload_n hx hb (dg ddX5_putPitch 7 rfl) rfl (lv_at hl 2 rfl) ?_
  refine lv_iadd hx hb (dg ddX5_putPitch 8 rfl) ?_
  refine lv_iload_n hx hb (dg ddX5_putPitch 9 rfl) rfl (lv_at hl 3 rfl) ?_
  obtain ⟨h1, hf⟩ := og_some hf
  refine va_iast hx hb hK hP hD hS 1 0 rfl rfl (inb_in h1) (dg ddX5_putPitch 10 rfl) (fun H locs hP hD hS => ?_)
  have hP : va_P D vwCl (wX5 q cy m_thr m_kept m_rea m_det m_isv m_iit m_len m_at m_err m_wro m_cmd m_to1 m_to2 (upd m_now ((8 + (4 * a1)) + a2).toNatClampNeg a3) m_sav m_ahe m_bef m_hst m_noi m_own m_inp) H := hP
  have hD : va_D A (wX5 q cy m_thr m_kept m_rea m_det m_isv m_iit m_len m_at m_err m_wro m_cmd m_to1 m_to2 (upd m_now ((8 + (4 * a1)) + a2).toNatClampNeg a3) m_sav m_ahe m_bef m_hst m_noi m_own m_inp) := hD
  cases hf
  exact e_wv CX hr hlk hP hD hS (dg ddX5_putPitch 11 rfl)
def f_X5_limitOf (m_now : Nat → Int32) (a1 : Int32) : Option (UInt32) := ob (f_X5_ofPitch m_now a1 0) fun r2 => (og (okI r2) (some r2.toUInt32))
set_option maxHeartbeats 4000000 in
set_option maxRecDepth 100000 in
theorem c_X5_limitOf (l : Launch) (D : va_G) (cy : Nat → ClassId) (q : Nat → Nat) (m_thr : Int32) (m_kept : Int32) (m_rea : Int32) (m_det : Int32) (m_isv : Int32) (m_iit : Int32) (m_len : Int32) (m_at : Int32) (m_err : Int32) (m_wro : Int32) (m_cmd : Int32) (m_to1 : Int32) (m_to2 : Int32) (m_now : Nat → Int32) (m_sav : Nat → Int32) (m_ahe : Nat → Int32) (m_bef : Nat → Int32) (m_hst : Nat → Nat → Int32) (m_noi : Nat → UInt32) (m_own : Nat → UInt32) (m_inp : Nat → Int32) (a1 : Int32) {res : UInt32} (hf : f_X5_limitOf m_now a1 = some res) : Met l yX5_limitOf (.code yX5_limitOf cX5_limitOf 2 (some .float) :: lw_all) { frames := 2, cells := 0, slots := 0, locals := 40 } (va_Pc [.ref (q 0), .int a1] (sR D cy (wX5 q cy m_thr m_kept m_rea m_det m_isv m_iit m_len m_at m_err m_wro m_cmd m_to1 m_to2 m_now m_sav m_ahe m_bef m_hst m_noi m_own m_inp))) (vp_Sf (fun r => r = res)) 0 0 (fun _ => False) := by
  refine mk_ro (Rc := RX5) (by decide +kernel) rfl (Nat.le_of_ble_eq_true rfl) ?_
  intro p e s m args below meth c ls CX hml hr hlk hK hN hP hl
  have hx := CX.1
  have hb := CX.2.1
  have hRMX5_ofPitch : (⟨1, 0, 0, 12⟩ : Room).frames + 1 ≤ (⟨2, 0, 0, 40⟩ : Room).frames ∧ 8 + (3 + 11) + (⟨1, 0, 0, 12⟩ : Room).locals ≤ (⟨2, 0, 0, 40⟩ : Room).locals := ⟨Nat.le_of_ble_eq_true rfl, Nat.le_of_ble_eq_true rfl⟩
  refine lv_aload_n hx hb (dg ddX5_limitOf 0 rfl) rfl (lv_at hl 0 rfl) ?_
  refine lv_iload_n hx hb (dg ddX5_limitOf 1 rfl) rfl (lv_at hl 1 rfl) ?_
  refine lv_iconst (v := 0) hx hb (dg ddX5_limitOf 2 rfl) (by decide) ?_
  obtain ⟨r2, e1, hf⟩ := ob_some hf
  refine cro_vi CX hml (As := [.int a1, .int 0]) (rest := []) (c_X5_ofPitch l D cy q m_thr m_kept m_rea m_det m_isv m_iit m_len m_at m_err m_wro m_cmd m_to1 m_to2 m_now m_sav m_ahe m_bef m_hst m_noi m_own m_inp a1 0 e1) lk_RX5_88 rfl rfl hRMX5_ofPitch hP hK hN 0 rfl rfl rfl hl.1 rfl (Nat.le_of_ble_eq_true rfl) ⟨Nat.le_of_ble_eq_true rfl, Nat.le_of_ble_eq_true rfl⟩ (dg ddX5_limitOf 3 rfl) ?_
  obtain ⟨h3, hf⟩ := og_some hf
  refine vn_i2f hx hb (hml.trans hl.1.symm) CX.2.2.2 (CX.2.2.1 (.methodLink RX5 92 nmI2f) (lw_at 1160 (by decide +kernel))) (CX.2.2.1 _ (mNat (by simp [nmF2i, nmI2f, nmD2l]))) (CX.2.2.1 _ (mNat (by simp [nmF2i, nmI2f, nmD2l]))) (CX.2.2.1 _ (mNat (by simp [nmF2i, nmI2f, nmD2l]))) (okI_in h3) (Nat.le_of_ble_eq_true rfl) (Nat.le_of_ble_eq_true rfl) (dg ddX5_limitOf 4 rfl) ?_
  exact e_rf CX hr hlk (Option.some.inj hf) (dg ddX5_limitOf 5 rfl)
def f_X5_limit_c38  (m_iit : Int32) (a1 : Int32) (a2 : Int32) (t0 : Int32) (t1 : Int32) (m_thr : Int32) (m_kept : Int32) (m_now : Nat → Int32) (m_hst : Nat → Nat → Int32) : Option (Int32 × Int32 × Int32 × (Nat → Int32) × (Nat → Nat → Int32)) := ob (f_X5_fails m_thr t1 t0) fun r2 => (if r2.1 = 0 then (ob (f_X5_change m_kept m_iit m_now m_hst) fun r5 => (ob (f_X5_ofPitch m_now a1 0) fun r7 => (ob (f_Jxf58ca_floatToIntBits_5c35a (FP.i2f a2)) fun r9 => (ob (f_X5_putPitch m_now a1 0 r9) fun r11 => (some (r7, r2.2, r5.1, r11, r5.2)))))) else (some (0, r2.2, m_kept, m_now, m_hst)))
def f_X5_limit_c14  (m_iit : Int32) (a1 : Int32) (a2 : Int32) (t0 : Int32) (t1 : Int32) (m_thr : Int32) (m_kept : Int32) (m_now : Nat → Int32) (m_hst : Nat → Nat → Int32) : Option (Int32 × Int32 × Int32 × (Nat → Int32) × (Nat → Nat → Int32)) := ob (f_X5_fails m_thr t1 t0) fun r2 => (if r2.1 = 0 then (ob (f_X5_isBetween a2 40 120) fun r5 => (if r5 = 0 then (f_X5_limit_c38 m_iit a1 a2 1 2 r2.2 m_kept m_now m_hst) else (f_X5_limit_c38 m_iit a1 a2 0 2 r2.2 m_kept m_now m_hst))) else (some (0, r2.2, m_kept, m_now, m_hst)))
def f_X5_limit (m_thr : Int32) (m_kept : Int32) (m_iit : Int32) (m_now : Nat → Int32) (m_hst : Nat → Nat → Int32) (a1 : Int32) (a2 : Int32) : Option (Int32 × Int32 × Int32 × (Nat → Int32) × (Nat → Nat → Int32)) := ob (f_X5_isPitch a1) fun r2 => (if r2 = 0 then (f_X5_limit_c14 m_iit a1 a2 1 1 m_thr m_kept m_now m_hst) else (f_X5_limit_c14 m_iit a1 a2 0 1 m_thr m_kept m_now m_hst))
set_option maxHeartbeats 4000000 in
set_option maxRecDepth 100000 in
theorem c_X5_limit (l : Launch) (D : va_G) (cy : Nat → ClassId) (q : Nat → Nat) (m_thr : Int32) (m_kept : Int32) (m_rea : Int32) (m_det : Int32) (m_isv : Int32) (m_iit : Int32) (m_len : Int32) (m_at : Int32) (m_err : Int32) (m_wro : Int32) (m_cmd : Int32) (m_to1 : Int32) (m_to2 : Int32) (m_now : Nat → Int32) (m_sav : Nat → Int32) (m_ahe : Nat → Int32) (m_bef : Nat → Int32) (m_hst : Nat → Nat → Int32) (m_noi : Nat → UInt32) (m_own : Nat → UInt32) (m_inp : Nat → Int32) (a1 : Int32) (a2 : Int32) (sz : Nat) {res : Int32 × Int32 × Int32 × (Nat → Int32) × (Nat → Nat → Int32)} (hf : f_X5_limit m_thr m_kept m_iit m_now m_hst a1 a2 = some res) : Met l yX5_limit (.code yX5_limit cX5_limit 4 (some .int) :: lw_all) { frames := 4, cells := 0, slots := 0, locals := 76 } (va_Pc [.ref (q 0), .int a1, .int a2] (sW D cy (wX5 q cy m_thr m_kept m_rea m_det m_isv m_iit m_len m_at m_err m_wro m_cmd m_to1 m_to2 m_now m_sav m_ahe m_bef m_hst m_noi m_own m_inp) sz)) (qI D (wX5 q cy res.2.1 res.2.2.1 m_rea m_det m_isv m_iit m_len m_at m_err m_wro m_cmd m_to1 m_to2 res.2.2.2.1 m_sav m_ahe m_bef res.2.2.2.2 m_noi m_own m_inp) res.1 (va_A (wX5 q cy m_thr m_kept m_rea m_det m_isv m_iit m_len m_at m_err m_wro m_cmd m_to1 m_to2 m_now m_sav m_ahe m_bef m_hst m_noi m_own m_inp) sz)) 0 0 (va_A (wX5 q cy m_thr m_kept m_rea m_det m_isv m_iit m_len m_at m_err m_wro m_cmd m_to1 m_to2 m_now m_sav m_ahe m_bef m_hst m_noi m_own m_inp) sz) := by
  refine mk_rw (Qc := qI D (wX5 q cy res.2.1 res.2.2.1 m_rea m_det m_isv m_iit m_len m_at m_err m_wro m_cmd m_to1 m_to2 res.2.2.2.1 m_sav m_ahe m_bef res.2.2.2.2 m_noi m_own m_inp) res.1) (Rc := RX5) (by decide +kernel) rfl (Nat.le_of_ble_eq_true rfl) ?_
  intro p e s m args below meth c ls A CX hml hr hlk hK hN hP hD hS hA hl
  have hx := CX.1
  have hb := CX.2.1
  have hRMJxf58ca_floatToIntBits_5c35a : (⟨2, 0, 0, 40⟩ : Room).frames + 1 ≤ (⟨4, 0, 0, 76⟩ : Room).frames ∧ 8 + (1 + 11) + (⟨2, 0, 0, 40⟩ : Room).locals ≤ (⟨4, 0, 0, 76⟩ : Room).locals := ⟨Nat.le_of_ble_eq_true rfl, Nat.le_of_ble_eq_true rfl⟩
  have hRMX5_change : (⟨3, 0, 0, 56⟩ : Room).frames + 1 ≤ (⟨4, 0, 0, 76⟩ : Room).frames ∧ 8 + (1 + 11) + (⟨3, 0, 0, 56⟩ : Room).locals ≤ (⟨4, 0, 0, 76⟩ : Room).locals := ⟨Nat.le_of_ble_eq_true rfl, Nat.le_of_ble_eq_true rfl⟩
  have hRMX5_fails : (⟨1, 0, 0, 12⟩ : Room).frames + 1 ≤ (⟨4, 0, 0, 76⟩ : Room).frames ∧ 8 + (3 + 11) + (⟨1, 0, 0, 12⟩ : Room).locals ≤ (⟨4, 0, 0, 76⟩ : Room).locals := ⟨Nat.le_of_ble_eq_true rfl, Nat.le_of_ble_eq_true rfl⟩
  have hRMX5_isBetween : (⟨1, 0, 0, 12⟩ : Room).frames + 1 ≤ (⟨4, 0, 0, 76⟩ : Room).frames ∧ 8 + (3 + 11) + (⟨1, 0, 0, 12⟩ : Room).locals ≤ (⟨4, 0, 0, 76⟩ : Room).locals := ⟨Nat.le_of_ble_eq_true rfl, Nat.le_of_ble_eq_true rfl⟩
  have hRMX5_isPitch : (⟨2, 0, 0, 34⟩ : Room).frames + 1 ≤ (⟨4, 0, 0, 76⟩ : Room).frames ∧ 8 + (1 + 11) + (⟨2, 0, 0, 34⟩ : Room).locals ≤ (⟨4, 0, 0, 76⟩ : Room).locals := ⟨Nat.le_of_ble_eq_true rfl, Nat.le_of_ble_eq_true rfl⟩
  have hRMX5_ofPitch : (⟨1, 0, 0, 12⟩ : Room).frames + 1 ≤ (⟨4, 0, 0, 76⟩ : Room).frames ∧ 8 + (3 + 11) + (⟨1, 0, 0, 12⟩ : Room).locals ≤ (⟨4, 0, 0, 76⟩ : Room).locals := ⟨Nat.le_of_ble_eq_true rfl, Nat.le_of_ble_eq_true rfl⟩
  have hRMX5_putPitch : (⟨1, 0, 0, 12⟩ : Room).frames + 1 ≤ (⟨4, 0, 0, 76⟩ : Room).frames ∧ 8 + (4 + 11) + (⟨1, 0, 0, 12⟩ : Room).locals ≤ (⟨4, 0, 0, 76⟩ : Room).locals := ⟨Nat.le_of_ble_eq_true rfl, Nat.le_of_ble_eq_true rfl⟩
  have hl0 := hl
  have K38 : ∀ (t0 : Int32) (t1 : Int32) (m_thr : Int32) (m_kept : Int32) (m_now : Nat → Int32) (m_hst : Nat → Nat → Int32) (H : Heap) (locs : List Loc) (hP : va_P D vwCl (wX5 q cy m_thr m_kept m_rea m_det m_isv m_iit m_len m_at m_err m_wro m_cmd m_to1 m_to2 m_now m_sav m_ahe m_bef m_hst m_noi m_own m_inp) H) (hD : va_D A (wX5 q cy m_thr m_kept m_rea m_det m_isv m_iit m_len m_at m_err m_wro m_cmd m_to1 m_to2 m_now m_sav m_ahe m_bef m_hst m_noi m_own m_inp)) (hS : va_S A s.heap H locs) (ls : Array Slot) (hl : lv_has ls 4 [(0, .ref (q 0)), (1, .int a1), (2, .int a2)]) (hf : f_X5_limit_c38 m_iit a1 a2 t0 t1 m_thr m_kept m_now m_hst = some res), W p l e ⟨4, 0, 0, 76⟩ s m args below meth c H locs 0 0 (MQ below (qI D (wX5 q cy res.2.1 res.2.2.1 m_rea m_det m_isv m_iit m_len m_at m_err m_wro m_cmd m_to1 m_to2 res.2.2.2.1 m_sav m_ahe m_bef res.2.2.2.2 m_noi m_own m_inp) res.1 A) args s 0 0 A) (F0 m 38 ls [.int t0, .int t1, .ref (q 0)]) := by
    intro t0 t1 m_thr m_kept m_now m_hst H locs hP hD hS ls hl hf
    obtain ⟨r2, e1, hf⟩ := ob_some hf
    refine crw_vi CX hml (As := [.int t1, .int t0]) (rest := []) (c_X5_fails l D cy q m_thr m_kept m_rea m_det m_isv m_iit m_len m_at m_err m_wro m_cmd m_to1 m_to2 m_now m_sav m_ahe m_bef m_hst m_noi m_own m_inp t1 t0 _ e1) lk_RX5_81 rfl rfl hRMX5_fails hP hD hS hA hK hN 0 rfl rfl rfl hl.1 rfl (Nat.le_of_ble_eq_true rfl) ⟨Nat.le_of_ble_eq_true rfl, Nat.le_of_ble_eq_true rfl⟩ (dg ddX5_limit 20 rfl) (fun H locs hP hD hS => ?_)
    refine lv_if_eq (tgt := 46) hx hb (dg ddX5_limit 21 rfl) (by decide) (fun h3 => ?_) (fun h3 => ?_)
    · have hf := it_t h3 hf
      refine lv_aload_n hx hb (dg ddX5_limit 24 rfl) rfl (lv_at hl 0 rfl) ?_
      obtain ⟨r5, e4, hf⟩ := ob_some hf
      refine crw_vv CX hml (As := []) (rest := []) (c_X5_change l D cy q r2.2 m_kept m_rea m_det m_isv m_iit m_len m_at m_err m_wro m_cmd m_to1 m_to2 m_now m_sav m_ahe m_bef m_hst m_noi m_own m_inp _ e4) lk_RX5_85 rfl rfl hRMX5_change hP hD hS hA hK hN 0 rfl rfl rfl hl.1 rfl (Nat.le_of_ble_eq_true rfl) ⟨Nat.le_of_ble_eq_true rfl, Nat.le_of_ble_eq_true rfl⟩ (dg ddX5_limit 25 rfl) (fun H locs hP hD hS => ?_)
      refine lv_aload_n hx hb (dg ddX5_limit 26 rfl) rfl (lv_at hl 0 rfl) ?_
      refine lv_iload_n hx hb (dg ddX5_limit 27 rfl) rfl (lv_at hl 1 rfl) ?_
      refine lv_iconst (v := 0) hx hb (dg ddX5_limit 28 rfl) (by decide) ?_
      obtain ⟨r7, e6, hf⟩ := ob_some hf
      refine cro_vi CX hml (As := [.int a1, .int 0]) (rest := []) (c_X5_ofPitch l D cy q r2.2 r5.1 m_rea m_det m_isv m_iit m_len m_at m_err m_wro m_cmd m_to1 m_to2 m_now m_sav m_ahe m_bef r5.2 m_noi m_own m_inp a1 0 e6) lk_RX5_88 rfl rfl hRMX5_ofPitch hP hK hN 0 rfl rfl rfl hl.1 rfl (Nat.le_of_ble_eq_true rfl) ⟨Nat.le_of_ble_eq_true rfl, Nat.le_of_ble_eq_true rfl⟩ (dg ddX5_limit 29 rfl) ?_
      refine lv_istore_n (lv' := [(3, .int r7), (0, .ref (q 0)), (1, .int a1), (2, .int a2)]) hx hb (dg ddX5_limit 30 rfl) rfl hl (by decide) rfl (fun ls hl => ?_)
      refine lv_aload_n hx hb (dg ddX5_limit 31 rfl) rfl (lv_at hl 1 rfl) ?_
      refine lv_iload_n hx hb (dg ddX5_limit 32 rfl) rfl (lv_at hl 2 rfl) ?_
      refine lv_iconst (v := 0) hx hb (dg ddX5_limit 33 rfl) (by decide) ?_
      refine lv_iload_n hx hb (dg ddX5_limit 34 rfl) rfl (lv_at hl 3 rfl) ?_
      refine lv_i2f hx hb (dg ddX5_limit 35 rfl) ?_
      obtain ⟨r9, e8, hf⟩ := ob_some hf
      refine cro_si CX hml (As := [.float (FP.i2f a2)]) (rest := [.int 0, .int a1, .ref (q 0)]) (c_Jxf58ca_floatToIntBits_5c35a l D cy (FP.i2f a2) e8) lk_RX5_43 rfl rfl hRMJxf58ca_floatToIntBits_5c35a vaP_nil hK hN rfl hl.1 rfl (Nat.le_of_ble_eq_true rfl) ⟨Nat.le_of_ble_eq_true rfl, Nat.le_of_ble_eq_true rfl⟩ (dg ddX5_limit 36 rfl) ?_
      obtain ⟨r11, e10, hf⟩ := ob_some hf
      refine crw_vv CX hml (As := [.int a1, .int 0, .int r9]) (rest := []) (c_X5_putPitch l D cy q r2.2 r5.1 m_rea m_det m_isv m_iit m_len m_at m_err m_wro m_cmd m_to1 m_to2 m_now m_sav m_ahe m_bef r5.2 m_noi m_own m_inp a1 0 r9 _ e10) lk_RX5_49 rfl rfl hRMX5_putPitch hP hD hS hA hK hN 0 rfl rfl rfl hl.1 rfl (Nat.le_of_ble_eq_true rfl) ⟨Nat.le_of_ble_eq_true rfl, Nat.le_of_ble_eq_true rfl⟩ (dg ddX5_limit 37 rfl) (fun H locs hP hD hS => ?_)
      refine lv_iload_n hx hb (dg ddX5_limit 38 rfl) rfl (lv_at hl 0 rfl) ?_
      cases hf
      exact e_wi CX hr hlk rfl hP hD hS (dg ddX5_limit 39 rfl)
    · have hf := it_f h3 hf
      refine lv_iconst (v := 0) hx hb (dg ddX5_limit 22 rfl) (by decide) ?_
      cases hf
      exact e_wi CX hr hlk rfl hP hD hS (dg ddX5_limit 23 rfl)
  have K14 : ∀ (t0 : Int32) (t1 : Int32) (m_thr : Int32) (m_kept : Int32) (m_now : Nat → Int32) (m_hst : Nat → Nat → Int32) (H : Heap) (locs : List Loc) (hP : va_P D vwCl (wX5 q cy m_thr m_kept m_rea m_det m_isv m_iit m_len m_at m_err m_wro m_cmd m_to1 m_to2 m_now m_sav m_ahe m_bef m_hst m_noi m_own m_inp) H) (hD : va_D A (wX5 q cy m_thr m_kept m_rea m_det m_isv m_iit m_len m_at m_err m_wro m_cmd m_to1 m_to2 m_now m_sav m_ahe m_bef m_hst m_noi m_own m_inp)) (hS : va_S A s.heap H locs) (ls : Array Slot) (hl : lv_has ls 4 [(0, .ref (q 0)), (1, .int a1), (2, .int a2)]) (hf : f_X5_limit_c14 m_iit a1 a2 t0 t1 m_thr m_kept m_now m_hst = some res), W p l e ⟨4, 0, 0, 76⟩ s m args below meth c H locs 0 0 (MQ below (qI D (wX5 q cy res.2.1 res.2.2.1 m_rea m_det m_isv m_iit m_len m_at m_err m_wro m_cmd m_to1 m_to2 res.2.2.2.1 m_sav m_ahe m_bef res.2.2.2.2 m_noi m_own m_inp) res.1 A) args s 0 0 A) (F0 m 14 ls [.int t0, .int t1, .ref (q 0)]) := by
    intro t0 t1 m_thr m_kept m_now m_hst H locs hP hD hS ls hl hf
    obtain ⟨r2, e1, hf⟩ := ob_some hf
    refine crw_vi CX hml (As := [.int t1, .int t0]) (rest := []) (c_X5_fails l D cy q m_thr m_kept m_rea m_det m_isv m_iit m_len m_at m_err m_wro m_cmd m_to1 m_to2 m_now m_sav m_ahe m_bef m_hst m_noi m_own m_inp t1 t0 _ e1) lk_RX5_81 rfl rfl hRMX5_fails hP hD hS hA hK hN 0 rfl rfl rfl hl.1 rfl (Nat.le_of_ble_eq_true rfl) ⟨Nat.le_of_ble_eq_true rfl, Nat.le_of_ble_eq_true rfl⟩ (dg ddX5_limit 8 rfl) (fun H locs hP hD hS => ?_)
    refine lv_if_ne (tgt := 44) hx hb (dg ddX5_limit 9 rfl) (by decide) (fun h3 => ?_) (fun h3 => ?_)
    · have hf := it_f h3 hf
      refine lv_iconst (v := 0) hx hb (dg ddX5_limit 22 rfl) (by decide) ?_
      cases hf
      exact e_wi CX hr hlk rfl hP hD hS (dg ddX5_limit 23 rfl)
    · have hf := it_t h3 hf
      refine lv_aload_n hx hb (dg ddX5_limit 10 rfl) rfl (lv_at hl 0 rfl) ?_
      refine lv_iconst (v := 2) hx hb (dg ddX5_limit 11 rfl) (by decide) ?_
      refine lv_iload_n hx hb (dg ddX5_limit 12 rfl) rfl (lv_at hl 2 rfl) ?_
      refine lv_bipush (v := 40) hx hb (dg ddX5_limit 13 rfl) (by decide) ?_
      refine lv_bipush (v := 120) hx hb (dg ddX5_limit 14 rfl) (by decide) ?_
      obtain ⟨r5, e4, hf⟩ := ob_some hf
      refine cro_si CX hml (As := [.int a2, .int 40, .int 120]) (rest := [.int 2, .ref (q 0)]) (c_X5_isBetween l D cy a2 40 120 e4) lk_RX5_77 rfl rfl hRMX5_isBetween vaP_nil hK hN rfl hl.1 rfl (Nat.le_of_ble_eq_true rfl) ⟨Nat.le_of_ble_eq_true rfl, Nat.le_of_ble_eq_true rfl⟩ (dg ddX5_limit 15 rfl) ?_
      refine lv_if_ne (tgt := 37) hx hb (dg ddX5_limit 16 rfl) (by decide) (fun h6 => ?_) (fun h6 => ?_)
      · have hf := it_f h6 hf
        refine lv_iconst (v := 0) hx hb (dg ddX5_limit 19 rfl) (by decide) ?_
        exact K38  0 2 r2.2 m_kept m_now m_hst _ _ hP hD hS _ (lv_sub hl [0, 1, 2] rfl) hf
      · have hf := it_t h6 hf
        refine lv_iconst (v := 1) hx hb (dg ddX5_limit 17 rfl) (by decide) ?_
        refine lv_goto (tgt := 38) hx hb (dg ddX5_limit 18 rfl) (by decide) ?_
        exact K38  1 2 r2.2 m_kept m_now m_hst _ _ hP hD hS _ (lv_sub hl [0, 1, 2] rfl) hf
  refine lv_aload_n hx hb (dg ddX5_limit 0 rfl) rfl (lv_at hl 0 rfl) ?_
  refine lv_iconst (v := 1) hx hb (dg ddX5_limit 1 rfl) (by decide) ?_
  refine lv_iload_n hx hb (dg ddX5_limit 2 rfl) rfl (lv_at hl 1 rfl) ?_
  obtain ⟨r2, e1, hf⟩ := ob_some hf
  refine cro_si CX hml (As := [.int a1]) (rest := [.int 1, .ref (q 0)]) (c_X5_isPitch l D cy a1 e1) lk_RX5_96 rfl rfl hRMX5_isPitch vaP_nil hK hN rfl hl.1 rfl (Nat.le_of_ble_eq_true rfl) ⟨Nat.le_of_ble_eq_true rfl, Nat.le_of_ble_eq_true rfl⟩ (dg ddX5_limit 3 rfl) ?_
  refine lv_if_ne (tgt := 13) hx hb (dg ddX5_limit 4 rfl) (by decide) (fun h3 => ?_) (fun h3 => ?_)
  · have hf := it_f h3 hf
    refine lv_iconst (v := 0) hx hb (dg ddX5_limit 7 rfl) (by decide) ?_
    exact K14  0 1 m_thr m_kept m_now m_hst _ _ hP hD hS _ (lv_sub hl [0, 1, 2] rfl) hf
  · have hf := it_t h3 hf
    refine lv_iconst (v := 1) hx hb (dg ddX5_limit 5 rfl) (by decide) ?_
    refine lv_goto (tgt := 14) hx hb (dg ddX5_limit 6 rfl) (by decide) ?_
    exact K14  1 1 m_thr m_kept m_now m_hst _ _ hP hD hS _ (lv_sub hl [0, 1, 2] rfl) hf
def f_X5_isBusker (m_now : Nat → Int32) (a1 : Int32) : Option (Int32) := og (inb 2 112) (ob (f_X5_isBetween a1 0 ((m_now (2 : Int32).toNatClampNeg) - 1)) fun r3 => (og (isZ r3) (some r3)))
set_option maxHeartbeats 4000000 in
set_option maxRecDepth 100000 in
theorem c_X5_isBusker (l : Launch) (D : va_G) (cy : Nat → ClassId) (q : Nat → Nat) (m_thr : Int32) (m_kept : Int32) (m_rea : Int32) (m_det : Int32) (m_isv : Int32) (m_iit : Int32) (m_len : Int32) (m_at : Int32) (m_err : Int32) (m_wro : Int32) (m_cmd : Int32) (m_to1 : Int32) (m_to2 : Int32) (m_now : Nat → Int32) (m_sav : Nat → Int32) (m_ahe : Nat → Int32) (m_bef : Nat → Int32) (m_hst : Nat → Nat → Int32) (m_noi : Nat → UInt32) (m_own : Nat → UInt32) (m_inp : Nat → Int32) (a1 : Int32) {res : Int32} (hf : f_X5_isBusker m_now a1 = some res) : Met l yX5_isBusker (.code yX5_isBusker cX5_isBusker 2 (some .boolean) :: lw_all) { frames := 2, cells := 0, slots := 0, locals := 34 } (va_Pc [.ref (q 0), .int a1] (sR D cy (wX5 q cy m_thr m_kept m_rea m_det m_isv m_iit m_len m_at m_err m_wro m_cmd m_to1 m_to2 m_now m_sav m_ahe m_bef m_hst m_noi m_own m_inp))) (vp_Si (fun r => r = res)) 0 0 (fun _ => False) := by
  refine mk_ro (Rc := RX5) (by decide +kernel) rfl (Nat.le_of_ble_eq_true rfl) ?_
  intro p e s m args below meth c ls CX hml hr hlk hK hN hP hl
  have hx := CX.1
  have hb := CX.2.1
  have hRMX5_isBetween : (⟨1, 0, 0, 12⟩ : Room).frames + 1 ≤ (⟨2, 0, 0, 34⟩ : Room).frames ∧ 8 + (3 + 11) + (⟨1, 0, 0, 12⟩ : Room).locals ≤ (⟨2, 0, 0, 34⟩ : Room).locals := ⟨Nat.le_of_ble_eq_true rfl, Nat.le_of_ble_eq_true rfl⟩
  refine lv_iload_n hx hb (dg ddX5_isBusker 0 rfl) rfl (lv_at hl 1 rfl) ?_
  refine lv_iconst (v := 0) hx hb (dg ddX5_isBusker 1 rfl) (by decide) ?_
  refine lv_aload_n hx hb (dg ddX5_isBusker 2 rfl) rfl (lv_at hl 0 rfl) ?_
  refine gf_RX5_9 CX hK hP 0 rfl rfl (dg ddX5_isBusker 3 rfl) ?_
  refine lv_iconst (v := 2) hx hb (dg ddX5_isBusker 4 rfl) (by decide) ?_
  obtain ⟨h1, hf⟩ := og_some hf
  refine va_iald hx hb hK hP 1 0 rfl rfl (inb_in h1) (dg ddX5_isBusker 5 rfl) ?_
  refine lv_iconst (v := 1) hx hb (dg ddX5_isBusker 6 rfl) (by decide) ?_
  refine lv_isub hx hb (dg ddX5_isBusker 7 rfl) ?_
  obtain ⟨r3, e2, hf⟩ := ob_some hf
  refine cro_si CX hml (As := [.int a1, .int 0, .int ((m_now (2 : Int32).toNatClampNeg) - 1)]) (rest := []) (c_X5_isBetween l D cy a1 0 ((m_now (2 : Int32).toNatClampNeg) - 1) e2) lk_RX5_77 rfl rfl hRMX5_isBetween vaP_nil hK hN rfl hl.1 rfl (Nat.le_of_ble_eq_true rfl) ⟨Nat.le_of_ble_eq_true rfl, Nat.le_of_ble_eq_true rfl⟩ (dg ddX5_isBusker 8 rfl) ?_
  obtain ⟨h4, hf⟩ := og_some hf
  exact e_rz CX hr hlk (isZ_n h4) (Option.some.inj hf) (dg ddX5_isBusker 9 rfl)
def f_X5_of (m_now : Nat → Int32) (a1 : Int32) (a2 : Int32) : Option (Int32) := og (inb ((40 + (8 * a1)) + a2) 112) (some (m_now ((40 + (8 * a1)) + a2).toNatClampNeg))
set_option maxHeartbeats 4000000 in
set_option maxRecDepth 100000 in
theorem c_X5_of (l : Launch) (D : va_G) (cy : Nat → ClassId) (q : Nat → Nat) (m_thr : Int32) (m_kept : Int32) (m_rea : Int32) (m_det : Int32) (m_isv : Int32) (m_iit : Int32) (m_len : Int32) (m_at : Int32) (m_err : Int32) (m_wro : Int32) (m_cmd : Int32) (m_to1 : Int32) (m_to2 : Int32) (m_now : Nat → Int32) (m_sav : Nat → Int32) (m_ahe : Nat → Int32) (m_bef : Nat → Int32) (m_hst : Nat → Nat → Int32) (m_noi : Nat → UInt32) (m_own : Nat → UInt32) (m_inp : Nat → Int32) (a1 : Int32) (a2 : Int32) {res : Int32} (hf : f_X5_of m_now a1 a2 = some res) : Met l yX5_of (.code yX5_of cX5_of 3 (some .int) :: lw_all) { frames := 1, cells := 0, slots := 0, locals := 12 } (va_Pc [.ref (q 0), .int a1, .int a2] (sR D cy (wX5 q cy m_thr m_kept m_rea m_det m_isv m_iit m_len m_at m_err m_wro m_cmd m_to1 m_to2 m_now m_sav m_ahe m_bef m_hst m_noi m_own m_inp))) (vp_Si (fun r => r = res)) 0 0 (fun _ => False) := by
  refine mk_ro (Rc := RX5) (by decide +kernel) rfl (Nat.le_of_ble_eq_true rfl) ?_
  intro p e s m args below meth c ls CX hml hr hlk hK hN hP hl
  have hx := CX.1
  have hb := CX.2.1
  refine lv_aload_n hx hb (dg ddX5_of 0 rfl) rfl (lv_at hl 0 rfl) ?_
  refine gf_RX5_9 CX hK hP 0 rfl rfl (dg ddX5_of 1 rfl) ?_
  refine lv_bipush (v := 40) hx hb (dg ddX5_of 2 rfl) (by decide) ?_
  refine lv_bipush (v := 8) hx hb (dg ddX5_of 3 rfl) (by decide) ?_
  refine lv_iload_n hx hb (dg ddX5_of 4 rfl) rfl (lv_at hl 1 rfl) ?_
  refine lv_imul hx hb (dg ddX5_of 5 rfl) ?_
  refine lv_iadd hx hb (dg ddX5_of 6 rfl) ?_
  refine lv_iload_n hx hb (dg ddX5_of 7 rfl) rfl (lv_at hl 2 rfl) ?_
  refine lv_iadd hx hb (dg ddX5_of 8 rfl) ?_
  obtain ⟨h1, hf⟩ := og_some hf
  refine va_iald hx hb hK hP 1 0 rfl rfl (inb_in h1) (dg ddX5_of 9 rfl) ?_
  exact e_ri CX hr hlk (Option.some.inj hf) (dg ddX5_of 10 rfl)
def f_X5_put (m_now : Nat → Int32) (a1 : Int32) (a2 : Int32) (a3 : Int32) : Option ((Nat → Int32)) := og (inb ((40 + (8 * a1)) + a2) 112) (some (upd m_now ((40 + (8 * a1)) + a2).toNatClampNeg a3))
set_option maxHeartbeats 4000000 in
set_option maxRecDepth 100000 in
theorem c_X5_put (l : Launch) (D : va_G) (cy : Nat → ClassId) (q : Nat → Nat) (m_thr : Int32) (m_kept : Int32) (m_rea : Int32) (m_det : Int32) (m_isv : Int32) (m_iit : Int32) (m_len : Int32) (m_at : Int32) (m_err : Int32) (m_wro : Int32) (m_cmd : Int32) (m_to1 : Int32) (m_to2 : Int32) (m_now : Nat → Int32) (m_sav : Nat → Int32) (m_ahe : Nat → Int32) (m_bef : Nat → Int32) (m_hst : Nat → Nat → Int32) (m_noi : Nat → UInt32) (m_own : Nat → UInt32) (m_inp : Nat → Int32) (a1 : Int32) (a2 : Int32) (a3 : Int32) (sz : Nat) {res : (Nat → Int32)} (hf : f_X5_put m_now a1 a2 a3 = some res) : Met l yX5_put (.code yX5_put cX5_put 4 none :: lw_all) { frames := 1, cells := 0, slots := 0, locals := 12 } (va_Pc [.ref (q 0), .int a1, .int a2, .int a3] (sW D cy (wX5 q cy m_thr m_kept m_rea m_det m_isv m_iit m_len m_at m_err m_wro m_cmd m_to1 m_to2 m_now m_sav m_ahe m_bef m_hst m_noi m_own m_inp) sz)) (qV D (wX5 q cy m_thr m_kept m_rea m_det m_isv m_iit m_len m_at m_err m_wro m_cmd m_to1 m_to2 res m_sav m_ahe m_bef m_hst m_noi m_own m_inp) (va_A (wX5 q cy m_thr m_kept m_rea m_det m_isv m_iit m_len m_at m_err m_wro m_cmd m_to1 m_to2 m_now m_sav m_ahe m_bef m_hst m_noi m_own m_inp) sz)) 0 0 (va_A (wX5 q cy m_thr m_kept m_rea m_det m_isv m_iit m_len m_at m_err m_wro m_cmd m_to1 m_to2 m_now m_sav m_ahe m_bef m_hst m_noi m_own m_inp) sz) := by
  refine mk_rw (Qc := qV D (wX5 q cy m_thr m_kept m_rea m_det m_isv m_iit m_len m_at m_err m_wro m_cmd m_to1 m_to2 res m_sav m_ahe m_bef m_hst m_noi m_own m_inp) ) (Rc := RX5) (by decide +kernel) rfl (Nat.le_of_ble_eq_true rfl) ?_
  intro p e s m args below meth c ls A CX hml hr hlk hK hN hP hD hS hA hl
  have hx := CX.1
  have hb := CX.2.1
  refine lv_aload_n hx hb (dg ddX5_put 0 rfl) rfl (lv_at hl 0 rfl) ?_
  refine gf_RX5_9 CX hK hP 0 rfl rfl (dg ddX5_put 1 rfl) ?_
  refine lv_bipush (v := 40) hx hb (dg ddX5_put 2 rfl) (by decide) ?_
  refine lv_bipush (v := 8) hx hb (dg ddX5_put 3 rfl) (by decide) ?_
  refine lv_iload_n hx hb (dg ddX5_put 4 rfl) rfl (lv_at hl 1 rfl) ?_
  refine lv_imul hx hb (dg ddX5_put 5 rfl) ?_
  refine lv_iadd hx hb (dg ddX5_put 6 rfl) ?_
  refine lv_iload_n hx hb (dg ddX5_put 7 rfl) rfl (lv_at hl 2 rfl) ?_
  refine lv_iadd hx hb (dg ddX5_put 8 rfl) ?_
  refine lv_iload_n hx hb (dg ddX5_put 9 rfl) rfl (lv_at hl 3 rfl) ?_
  obtain ⟨h1, hf⟩ := og_some hf
  refine va_iast hx hb hK hP hD hS 1 0 rfl rfl (inb_in h1) (dg ddX5_put 10 rfl) (fun H locs hP hD hS => ?_)
  have hP : va_P D vwCl (wX5 q cy m_thr m_kept m_rea m_det m_isv m_iit m_len m_at m_err m_wro m_cmd m_to1 m_to2 (upd m_now ((40 + (8 * a1)) + a2).toNatClampNeg a3) m_sav m_ahe m_bef m_hst m_noi m_own m_inp) H := hP
  have hD : va_D A (wX5 q cy m_thr m_kept m_rea m_det m_isv m_iit m_len m_at m_err m_wro m_cmd m_to1 m_to2 (upd m_now ((40 + (8 * a1)) + a2).toNatClampNeg a3) m_sav m_ahe m_bef m_hst m_noi m_own m_inp) := hD
  cases hf
  exact e_wv CX hr hlk hP hD hS (dg ddX5_put 11 rfl)
def f_X5_floatOf (m_now : Nat → Int32) (a1 : Int32) (a2 : Int32) : Option (UInt32) := ob (f_X5_of m_now a1 a2) fun r2 => (og (okI r2) (some r2.toUInt32))
set_option maxHeartbeats 4000000 in
set_option maxRecDepth 100000 in
theorem c_X5_floatOf (l : Launch) (D : va_G) (cy : Nat → ClassId) (q : Nat → Nat) (m_thr : Int32) (m_kept : Int32) (m_rea : Int32) (m_det : Int32) (m_isv : Int32) (m_iit : Int32) (m_len : Int32) (m_at : Int32) (m_err : Int32) (m_wro : Int32) (m_cmd : Int32) (m_to1 : Int32) (m_to2 : Int32) (m_now : Nat → Int32) (m_sav : Nat → Int32) (m_ahe : Nat → Int32) (m_bef : Nat → Int32) (m_hst : Nat → Nat → Int32) (m_noi : Nat → UInt32) (m_own : Nat → UInt32) (m_inp : Nat → Int32) (a1 : Int32) (a2 : Int32) {res : UInt32} (hf : f_X5_floatOf m_now a1 a2 = some res) : Met l yX5_floatOf (.code yX5_floatOf cX5_floatOf 3 (some .float) :: lw_all) { frames := 2, cells := 0, slots := 0, locals := 40 } (va_Pc [.ref (q 0), .int a1, .int a2] (sR D cy (wX5 q cy m_thr m_kept m_rea m_det m_isv m_iit m_len m_at m_err m_wro m_cmd m_to1 m_to2 m_now m_sav m_ahe m_bef m_hst m_noi m_own m_inp))) (vp_Sf (fun r => r = res)) 0 0 (fun _ => False) := by
  refine mk_ro (Rc := RX5) (by decide +kernel) rfl (Nat.le_of_ble_eq_true rfl) ?_
  intro p e s m args below meth c ls CX hml hr hlk hK hN hP hl
  have hx := CX.1
  have hb := CX.2.1
  have hRMX5_of : (⟨1, 0, 0, 12⟩ : Room).frames + 1 ≤ (⟨2, 0, 0, 40⟩ : Room).frames ∧ 8 + (3 + 11) + (⟨1, 0, 0, 12⟩ : Room).locals ≤ (⟨2, 0, 0, 40⟩ : Room).locals := ⟨Nat.le_of_ble_eq_true rfl, Nat.le_of_ble_eq_true rfl⟩
  refine lv_aload_n hx hb (dg ddX5_floatOf 0 rfl) rfl (lv_at hl 0 rfl) ?_
  refine lv_iload_n hx hb (dg ddX5_floatOf 1 rfl) rfl (lv_at hl 1 rfl) ?_
  refine lv_iload_n hx hb (dg ddX5_floatOf 2 rfl) rfl (lv_at hl 2 rfl) ?_
  obtain ⟨r2, e1, hf⟩ := ob_some hf
  refine cro_vi CX hml (As := [.int a1, .int a2]) (rest := []) (c_X5_of l D cy q m_thr m_kept m_rea m_det m_isv m_iit m_len m_at m_err m_wro m_cmd m_to1 m_to2 m_now m_sav m_ahe m_bef m_hst m_noi m_own m_inp a1 a2 e1) lk_RX5_100 rfl rfl hRMX5_of hP hK hN 0 rfl rfl rfl hl.1 rfl (Nat.le_of_ble_eq_true rfl) ⟨Nat.le_of_ble_eq_true rfl, Nat.le_of_ble_eq_true rfl⟩ (dg ddX5_floatOf 3 rfl) ?_
  obtain ⟨h3, hf⟩ := og_some hf
  refine vn_i2f hx hb (hml.trans hl.1.symm) CX.2.2.2 (CX.2.2.1 (.methodLink RX5 92 nmI2f) (lw_at 1160 (by decide +kernel))) (CX.2.2.1 _ (mNat (by simp [nmF2i, nmI2f, nmD2l]))) (CX.2.2.1 _ (mNat (by simp [nmF2i, nmI2f, nmD2l]))) (CX.2.2.1 _ (mNat (by simp [nmF2i, nmI2f, nmD2l]))) (okI_in h3) (Nat.le_of_ble_eq_true rfl) (Nat.le_of_ble_eq_true rfl) (dg ddX5_floatOf 4 rfl) ?_
  exact e_rf CX hr hlk (Option.some.inj hf) (dg ddX5_floatOf 5 rfl)
def f_X5_putFloat (m_now : Nat → Int32) (a1 : Int32) (a2 : Int32) (a3 : UInt32) : Option ((Nat → Int32)) := ob (f_Jxf58ca_floatToIntBits_5c35a a3) fun r2 => (ob (f_X5_put m_now a1 a2 r2) fun r4 => (some r4))
set_option maxHeartbeats 4000000 in
set_option maxRecDepth 100000 in
theorem c_X5_putFloat (l : Launch) (D : va_G) (cy : Nat → ClassId) (q : Nat → Nat) (m_thr : Int32) (m_kept : Int32) (m_rea : Int32) (m_det : Int32) (m_isv : Int32) (m_iit : Int32) (m_len : Int32) (m_at : Int32) (m_err : Int32) (m_wro : Int32) (m_cmd : Int32) (m_to1 : Int32) (m_to2 : Int32) (m_now : Nat → Int32) (m_sav : Nat → Int32) (m_ahe : Nat → Int32) (m_bef : Nat → Int32) (m_hst : Nat → Nat → Int32) (m_noi : Nat → UInt32) (m_own : Nat → UInt32) (m_inp : Nat → Int32) (a1 : Int32) (a2 : Int32) (a3 : UInt32) (sz : Nat) {res : (Nat → Int32)} (hf : f_X5_putFloat m_now a1 a2 a3 = some res) : Met l yX5_putFloat (.code yX5_putFloat cX5_putFloat 4 none :: lw_all) { frames := 3, cells := 0, slots := 0, locals := 60 } (va_Pc [.ref (q 0), .int a1, .int a2, .float a3] (sW D cy (wX5 q cy m_thr m_kept m_rea m_det m_isv m_iit m_len m_at m_err m_wro m_cmd m_to1 m_to2 m_now m_sav m_ahe m_bef m_hst m_noi m_own m_inp) sz)) (qV D (wX5 q cy m_thr m_kept m_rea m_det m_isv m_iit m_len m_at m_err m_wro m_cmd m_to1 m_to2 res m_sav m_ahe m_bef m_hst m_noi m_own m_inp) (va_A (wX5 q cy m_thr m_kept m_rea m_det m_isv m_iit m_len m_at m_err m_wro m_cmd m_to1 m_to2 m_now m_sav m_ahe m_bef m_hst m_noi m_own m_inp) sz)) 0 0 (va_A (wX5 q cy m_thr m_kept m_rea m_det m_isv m_iit m_len m_at m_err m_wro m_cmd m_to1 m_to2 m_now m_sav m_ahe m_bef m_hst m_noi m_own m_inp) sz) := by
  refine mk_rw (Qc := qV D (wX5 q cy m_thr m_kept m_rea m_det m_isv m_iit m_len m_at m_err m_wro m_cmd m_to1 m_to2 res m_sav m_ahe m_bef m_hst m_noi m_own m_inp) ) (Rc := RX5) (by decide +kernel) rfl (Nat.le_of_ble_eq_true rfl) ?_
  intro p e s m args below meth c ls A CX hml hr hlk hK hN hP hD hS hA hl
  have hx := CX.1
  have hb := CX.2.1
  have hRMJxf58ca_floatToIntBits_5c35a : (⟨2, 0, 0, 40⟩ : Room).frames + 1 ≤ (⟨3, 0, 0, 60⟩ : Room).frames ∧ 8 + (1 + 11) + (⟨2, 0, 0, 40⟩ : Room).locals ≤ (⟨3, 0, 0, 60⟩ : Room).locals := ⟨Nat.le_of_ble_eq_true rfl, Nat.le_of_ble_eq_true rfl⟩
  have hRMX5_put : (⟨1, 0, 0, 12⟩ : Room).frames + 1 ≤ (⟨3, 0, 0, 60⟩ : Room).frames ∧ 8 + (4 + 11) + (⟨1, 0, 0, 12⟩ : Room).locals ≤ (⟨3, 0, 0, 60⟩ : Room).locals := ⟨Nat.le_of_ble_eq_true rfl, Nat.le_of_ble_eq_true rfl⟩
  refine lv_aload_n hx hb (dg ddX5_putFloat 0 rfl) rfl (lv_at hl 0 rfl) ?_
  refine lv_iload_n hx hb (dg ddX5_putFloat 1 rfl) rfl (lv_at hl 1 rfl) ?_
  refine lv_iload_n hx hb (dg ddX5_putFloat 2 rfl) rfl (lv_at hl 2 rfl) ?_
  refine lv_fload_n hx hb (dg ddX5_putFloat 3 rfl) rfl (lv_at hl 3 rfl) ?_
  obtain ⟨r2, e1, hf⟩ := ob_some hf
  refine cro_si CX hml (As := [.float a3]) (rest := [.int a2, .int a1, .ref (q 0)]) (c_Jxf58ca_floatToIntBits_5c35a l D cy a3 e1) lk_RX5_43 rfl rfl hRMJxf58ca_floatToIntBits_5c35a vaP_nil hK hN rfl hl.1 rfl (Nat.le_of_ble_eq_true rfl) ⟨Nat.le_of_ble_eq_true rfl, Nat.le_of_ble_eq_true rfl⟩ (dg ddX5_putFloat 4 rfl) ?_
  obtain ⟨r4, e3, hf⟩ := ob_some hf
  refine crw_vv CX hml (As := [.int a1, .int a2, .int r2]) (rest := []) (c_X5_put l D cy q m_thr m_kept m_rea m_det m_isv m_iit m_len m_at m_err m_wro m_cmd m_to1 m_to2 m_now m_sav m_ahe m_bef m_hst m_noi m_own m_inp a1 a2 r2 _ e3) lk_RX5_103 rfl rfl hRMX5_put hP hD hS hA hK hN 0 rfl rfl rfl hl.1 rfl (Nat.le_of_ble_eq_true rfl) ⟨Nat.le_of_ble_eq_true rfl, Nat.le_of_ble_eq_true rfl⟩ (dg ddX5_putFloat 5 rfl) (fun H locs hP hD hS => ?_)
  cases hf
  exact e_wv CX hr hlk hP hD hS (dg ddX5_putFloat 6 rfl)
def f_X5_busker_c51  (m_iit : Int32) (a1 : Int32) (a2 : Int32) (t0 : Int32) (t2 : Int32) (m_thr : Int32) (m_kept : Int32) (m_rea : Int32) (m_det : Int32) (m_now : Nat → Int32) (m_hst : Nat → Nat → Int32) : Option (Int32 × Int32 × Int32 × Int32 × Int32 × (Nat → Int32) × (Nat → Nat → Int32)) := ob (f_X5_refuse m_rea m_det t0 1 8) fun r2 => (ob (f_X5_fails m_thr t2 r2.1) fun r4 => (if r4.1 = 0 then (ob (f_X5_change m_kept m_iit m_now m_hst) fun r7 => (og (inb 2 112) (og (inb 2 112) (og (inb 2 112) (ob (f_X5_put (upd m_now (2 : Int32).toNatClampNeg ((m_now (2 : Int32).toNatClampNeg) + 1)) (m_now (2 : Int32).toNatClampNeg) 0 a1) fun r12 => (ob (f_X5_put r12 (m_now (2 : Int32).toNatClampNeg) 1 a2) fun r14 => (ob (f_X5_putFloat r14 (m_now (2 : Int32).toNatClampNeg) 2 FP.fconst0) fun r16 => (ob (f_X5_putFloat r16 (m_now (2 : Int32).toNatClampNeg) 3 FP.fconst0) fun r18 => (ob (f_X5_put r18 (m_now (2 : Int32).toNatClampNeg) 4 (-1)) fun r20 => (ob (f_X5_put r20 (m_now (2 : Int32).toNatClampNeg) 5 (-1)) fun r22 => (ob (f_X5_put r22 (m_now (2 : Int32).toNatClampNeg) 6 0) fun r24 => (ob (f_X5_put r24 (m_now (2 : Int32).toNatClampNeg) 7 0) fun r26 => (some ((m_now (2 : Int32).toNatClampNeg), r4.2, r7.1, r2.2.1, r2.2.2, r26, r7.2)))))))))))))) else (some (0, r4.2, m_kept, r2.2.1, r2.2.2, m_now, m_hst))))
def f_X5_busker_c26  (m_iit : Int32) (a1 : Int32) (a2 : Int32) (t0 : Int32) (t1 : Int32) (m_thr : Int32) (m_kept : Int32) (m_rea : Int32) (m_det : Int32) (m_now : Nat → Int32) (m_hst : Nat → Nat → Int32) : Option (Int32 × Int32 × Int32 × Int32 × Int32 × (Nat → Int32) × (Nat → Nat → Int32)) := ob (f_X5_fails m_thr t1 t0) fun r2 => (if r2.1 = 0 then (og (inb 2 112) (if (m_now (2 : Int32).toNatClampNeg) = 8 then (f_X5_busker_c51 m_iit a1 a2 1 2 r2.2 m_kept m_rea m_det m_now m_hst) else (f_X5_busker_c51 m_iit a1 a2 0 2 r2.2 m_kept m_rea m_det m_now m_hst))) else (some (0, r2.2, m_kept, m_rea, m_det, m_now, m_hst)))
def f_X5_busker_c21  (m_iit : Int32) (a1 : Int32) (a2 : Int32) (t0 : Int32) (m_thr : Int32) (m_kept : Int32) (m_rea : Int32) (m_det : Int32) (m_now : Nat → Int32) (m_hst : Nat → Nat → Int32) : Option (Int32 × Int32 × Int32 × Int32 × Int32 × (Nat → Int32) × (Nat → Nat → Int32)) := f_X5_busker_c26 m_iit a1 a2 1 t0 m_thr m_kept m_rea m_det m_now m_hst
def f_X5_busker (m_thr : Int32) (m_kept : Int32) (m_rea : Int32) (m_det : Int32) (m_iit : Int32) (m_now : Nat → Int32) (m_hst : Nat → Nat → Int32) (a1 : Int32) (a2 : Int32) : Option (Int32 × Int32 × Int32 × Int32 × Int32 × (Nat → Int32) × (Nat → Nat → Int32)) := ob (f_X5_isBetween a1 0 1) fun r2 => (if r2 = 0 then (f_X5_busker_c21 m_iit a1 a2 1 m_thr m_kept m_rea m_det m_now m_hst) else (ob (f_X5_isBetween a2 1 9) fun r5 => (if r5 = 0 then (f_X5_busker_c21 m_iit a1 a2 1 m_thr m_kept m_rea m_det m_now m_hst) else (f_X5_busker_c26 m_iit a1 a2 0 1 m_thr m_kept m_rea m_det m_now m_hst))))
set_option maxHeartbeats 4000000 in
set_option maxRecDepth 100000 in
theorem c_X5_busker (l : Launch) (D : va_G) (cy : Nat → ClassId) (q : Nat → Nat) (m_thr : Int32) (m_kept : Int32) (m_rea : Int32) (m_det : Int32) (m_isv : Int32) (m_iit : Int32) (m_len : Int32) (m_at : Int32) (m_err : Int32) (m_wro : Int32) (m_cmd : Int32) (m_to1 : Int32) (m_to2 : Int32) (m_now : Nat → Int32) (m_sav : Nat → Int32) (m_ahe : Nat → Int32) (m_bef : Nat → Int32) (m_hst : Nat → Nat → Int32) (m_noi : Nat → UInt32) (m_own : Nat → UInt32) (m_inp : Nat → Int32) (a1 : Int32) (a2 : Int32) (sz : Nat) {res : Int32 × Int32 × Int32 × Int32 × Int32 × (Nat → Int32) × (Nat → Nat → Int32)} (hf : f_X5_busker m_thr m_kept m_rea m_det m_iit m_now m_hst a1 a2 = some res) : Met l yX5_busker (.code yX5_busker cX5_busker 4 (some .int) :: lw_all) { frames := 4, cells := 0, slots := 0, locals := 83 } (va_Pc [.ref (q 0), .int a1, .int a2] (sW D cy (wX5 q cy m_thr m_kept m_rea m_det m_isv m_iit m_len m_at m_err m_wro m_cmd m_to1 m_to2 m_now m_sav m_ahe m_bef m_hst m_noi m_own m_inp) sz)) (qI D (wX5 q cy res.2.1 res.2.2.1 res.2.2.2.1 res.2.2.2.2.1 m_isv m_iit m_len m_at m_err m_wro m_cmd m_to1 m_to2 res.2.2.2.2.2.1 m_sav m_ahe m_bef res.2.2.2.2.2.2 m_noi m_own m_inp) res.1 (va_A (wX5 q cy m_thr m_kept m_rea m_det m_isv m_iit m_len m_at m_err m_wro m_cmd m_to1 m_to2 m_now m_sav m_ahe m_bef m_hst m_noi m_own m_inp) sz)) 0 0 (va_A (wX5 q cy m_thr m_kept m_rea m_det m_isv m_iit m_len m_at m_err m_wro m_cmd m_to1 m_to2 m_now m_sav m_ahe m_bef m_hst m_noi m_own m_inp) sz) := by
  refine mk_rw (Qc := qI D (wX5 q cy res.2.1 res.2.2.1 res.2.2.2.1 res.2.2.2.2.1 m_isv m_iit m_len m_at m_err m_wro m_cmd m_to1 m_to2 res.2.2.2.2.2.1 m_sav m_ahe m_bef res.2.2.2.2.2.2 m_noi m_own m_inp) res.1) (Rc := RX5) (by decide +kernel) rfl (Nat.le_of_ble_eq_true rfl) ?_
  intro p e s m args below meth c ls A CX hml hr hlk hK hN hP hD hS hA hl
  have hx := CX.1
  have hb := CX.2.1
  have hRMX5_change : (⟨3, 0, 0, 56⟩ : Room).frames + 1 ≤ (⟨4, 0, 0, 83⟩ : Room).frames ∧ 8 + (1 + 11) + (⟨3, 0, 0, 56⟩ : Room).locals ≤ (⟨4, 0, 0, 83⟩ : Room).locals := ⟨Nat.le_of_ble_eq_true rfl, Nat.le_of_ble_eq_true rfl⟩
  have hRMX5_fails : (⟨1, 0, 0, 12⟩ : Room).frames + 1 ≤ (⟨4, 0, 0, 83⟩ : Room).frames ∧ 8 + (3 + 11) + (⟨1, 0, 0, 12⟩ : Room).locals ≤ (⟨4, 0, 0, 83⟩ : Room).locals := ⟨Nat.le_of_ble_eq_true rfl, Nat.le_of_ble_eq_true rfl⟩
  have hRMX5_isBetween : (⟨1, 0, 0, 12⟩ : Room).frames + 1 ≤ (⟨4, 0, 0, 83⟩ : Room).frames ∧ 8 + (3 + 11) + (⟨1, 0, 0, 12⟩ : Room).locals ≤ (⟨4, 0, 0, 83⟩ : Room).locals := ⟨Nat.le_of_ble_eq_true rfl, Nat.le_of_ble_eq_true rfl⟩
  have hRMX5_put : (⟨1, 0, 0, 12⟩ : Room).frames + 1 ≤ (⟨4, 0, 0, 83⟩ : Room).frames ∧ 8 + (4 + 11) + (⟨1, 0, 0, 12⟩ : Room).locals ≤ (⟨4, 0, 0, 83⟩ : Room).locals := ⟨Nat.le_of_ble_eq_true rfl, Nat.le_of_ble_eq_true rfl⟩
  have hRMX5_putFloat : (⟨3, 0, 0, 60⟩ : Room).frames + 1 ≤ (⟨4, 0, 0, 83⟩ : Room).frames ∧ 8 + (4 + 11) + (⟨3, 0, 0, 60⟩ : Room).locals ≤ (⟨4, 0, 0, 83⟩ : Room).locals := ⟨Nat.le_of_ble_eq_true rfl, Nat.le_of_ble_eq_true rfl⟩
  have hRMX5_refuse : (⟨1, 0, 0, 12⟩ : Room).frames + 1 ≤ (⟨4, 0, 0, 83⟩ : Room).frames ∧ 8 + (4 + 11) + (⟨1, 0, 0, 12⟩ : Room).locals ≤ (⟨4, 0, 0, 83⟩ : Room).locals := ⟨Nat.le_of_ble_eq_true rfl, Nat.le_of_ble_eq_true rfl⟩
  have hl0 := hl
  have K51 : ∀ (t0 : Int32) (t2 : Int32) (m_thr : Int32) (m_kept : Int32) (m_rea : Int32) (m_det : Int32) (m_now : Nat → Int32) (m_hst : Nat → Nat → Int32) (H : Heap) (locs : List Loc) (hP : va_P D vwCl (wX5 q cy m_thr m_kept m_rea m_det m_isv m_iit m_len m_at m_err m_wro m_cmd m_to1 m_to2 m_now m_sav m_ahe m_bef m_hst m_noi m_own m_inp) H) (hD : va_D A (wX5 q cy m_thr m_kept m_rea m_det m_isv m_iit m_len m_at m_err m_wro m_cmd m_to1 m_to2 m_now m_sav m_ahe m_bef m_hst m_noi m_own m_inp)) (hS : va_S A s.heap H locs) (ls : Array Slot) (hl : lv_has ls 4 [(0, .ref (q 0)), (1, .int a1), (2, .int a2)]) (hf : f_X5_busker_c51 m_iit a1 a2 t0 t2 m_thr m_kept m_rea m_det m_now m_hst = some res), W p l e ⟨4, 0, 0, 83⟩ s m args below meth c H locs 0 0 (MQ below (qI D (wX5 q cy res.2.1 res.2.2.1 res.2.2.2.1 res.2.2.2.2.1 m_isv m_iit m_len m_at m_err m_wro m_cmd m_to1 m_to2 res.2.2.2.2.2.1 m_sav m_ahe m_bef res.2.2.2.2.2.2 m_noi m_own m_inp) res.1 A) args s 0 0 A) (F0 m 51 ls [.int t0, .ref (q 0), .int t2, .ref (q 0)]) := by
    intro t0 t2 m_thr m_kept m_rea m_det m_now m_hst H locs hP hD hS ls hl hf
    refine lv_iconst (v := 1) hx hb (dg ddX5_busker 29 rfl) (by decide) ?_
    refine lv_bipush (v := 8) hx hb (dg ddX5_busker 30 rfl) (by decide) ?_
    obtain ⟨r2, e1, hf⟩ := ob_some hf
    refine crw_vi CX hml (As := [.int t0, .int 1, .int 8]) (rest := [.int t2, .ref (q 0)]) (c_X5_refuse l D cy q m_thr m_kept m_rea m_det m_isv m_iit m_len m_at m_err m_wro m_cmd m_to1 m_to2 m_now m_sav m_ahe m_bef m_hst m_noi m_own m_inp t0 1 8 _ e1) lk_RX5_106 rfl rfl hRMX5_refuse hP hD hS hA hK hN 0 rfl rfl rfl hl.1 rfl (Nat.le_of_ble_eq_true rfl) ⟨Nat.le_of_ble_eq_true rfl, Nat.le_of_ble_eq_true rfl⟩ (dg ddX5_busker 31 rfl) (fun H locs hP hD hS => ?_)
    obtain ⟨r4, e3, hf⟩ := ob_some hf
    refine crw_vi CX hml (As := [.int t2, .int r2.1]) (rest := []) (c_X5_fails l D cy q m_thr m_kept r2.2.1 r2.2.2 m_isv m_iit m_len m_at m_err m_wro m_cmd m_to1 m_to2 m_now m_sav m_ahe m_bef m_hst m_noi m_own m_inp t2 r2.1 _ e3) lk_RX5_81 rfl rfl hRMX5_fails hP hD hS hA hK hN 0 rfl rfl rfl hl.1 rfl (Nat.le_of_ble_eq_true rfl) ⟨Nat.le_of_ble_eq_true rfl, Nat.le_of_ble_eq_true rfl⟩ (dg ddX5_busker 32 rfl) (fun H locs hP hD hS => ?_)
    refine lv_if_eq (tgt := 65) hx hb (dg ddX5_busker 33 rfl) (by decide) (fun h5 => ?_) (fun h5 => ?_)
    · have hf := it_t h5 hf
      refine lv_aload_n hx hb (dg ddX5_busker 36 rfl) rfl (lv_at hl 0 rfl) ?_
      obtain ⟨r7, e6, hf⟩ := ob_some hf
      refine crw_vv CX hml (As := []) (rest := []) (c_X5_change l D cy q r4.2 m_kept r2.2.1 r2.2.2 m_isv m_iit m_len m_at m_err m_wro m_cmd m_to1 m_to2 m_now m_sav m_ahe m_bef m_hst m_noi m_own m_inp _ e6) lk_RX5_85 rfl rfl hRMX5_change hP hD hS hA hK hN 0 rfl rfl rfl hl.1 rfl (Nat.le_of_ble_eq_true rfl) ⟨Nat.le_of_ble_eq_true rfl, Nat.le_of_ble_eq_true rfl⟩ (dg ddX5_busker 37 rfl) (fun H locs hP hD hS => ?_)
      refine lv_aload_n hx hb (dg ddX5_busker 38 rfl) rfl (lv_at hl 0 rfl) ?_
      refine gf_RX5_9 CX hK hP 0 rfl rfl (dg ddX5_busker 39 rfl) ?_
      refine lv_iconst (v := 2) hx hb (dg ddX5_busker 40 rfl) (by decide) ?_
      obtain ⟨h8, hf⟩ := og_some hf
      refine va_iald hx hb hK hP 1 0 rfl rfl (inb_in h8) (dg ddX5_busker 41 rfl) ?_
      refine lv_istore_n (lv' := [(3, .int (m_now (2 : Int32).toNatClampNeg)), (0, .ref (q 0)), (1, .int a1), (2, .int a2)]) hx hb (dg ddX5_busker 42 rfl) rfl hl (by decide) rfl (fun ls hl => ?_)
      refine lv_aload_n hx hb (dg ddX5_busker 43 rfl) rfl (lv_at hl 1 rfl) ?_
      refine gf_RX5_9 CX hK hP 0 rfl rfl (dg ddX5_busker 44 rfl) ?_
      refine lv_iconst (v := 2) hx hb (dg ddX5_busker 45 rfl) (by decide) ?_
      refine lv_dup2_11 hx hb (dg ddX5_busker 46 rfl) rfl rfl ?_
      obtain ⟨h9, hf⟩ := og_some hf
      refine va_iald hx hb hK hP 1 0 rfl rfl (inb_in h9) (dg ddX5_busker 47 rfl) ?_
      refine lv_iconst (v := 1) hx hb (dg ddX5_busker 48 rfl) (by decide) ?_
      refine lv_iadd hx hb (dg ddX5_busker 49 rfl) ?_
      obtain ⟨h10, hf⟩ := og_some hf
      refine va_iast hx hb hK hP hD hS 1 0 rfl rfl (inb_in h10) (dg ddX5_busker 50 rfl) (fun H locs hP hD hS => ?_)
      have hP : va_P D vwCl (wX5 q cy r4.2 r7.1 r2.2.1 r2.2.2 m_isv m_iit m_len m_at m_err m_wro m_cmd m_to1 m_to2 (upd m_now (2 : Int32).toNatClampNeg ((m_now (2 : Int32).toNatClampNeg) + 1)) m_sav m_ahe m_bef r7.2 m_noi m_own m_inp) H := hP
      have hD : va_D A (wX5 q cy r4.2 r7.1 r2.2.1 r2.2.2 m_isv m_iit m_len m_at m_err m_wro m_cmd m_to1 m_to2 (upd m_now (2 : Int32).toNatClampNeg ((m_now (2 : Int32).toNatClampNeg) + 1)) m_sav m_ahe m_bef r7.2 m_noi m_own m_inp) := hD
      refine lv_aload_n hx hb (dg ddX5_busker 51 rfl) rfl (lv_at hl 1 rfl) ?_
      refine lv_iload_n hx hb (dg ddX5_busker 52 rfl) rfl (lv_at hl 0 rfl) ?_
      refine lv_iconst (v := 0) hx hb (dg ddX5_busker 53 rfl) (by decide) ?_
      refine lv_iload_n hx hb (dg ddX5_busker 54 rfl) rfl (lv_at hl 2 rfl) ?_
      obtain ⟨r12, e11, hf⟩ := ob_some hf
      refine crw_vv CX hml (As := [.int (m_now (2 : Int32).toNatClampNeg), .int 0, .int a1]) (rest := []) (c_X5_put l D cy q r4.2 r7.1 r2.2.1 r2.2.2 m_isv m_iit m_len m_at m_err m_wro m_cmd m_to1 m_to2 (upd m_now (2 : Int32).toNatClampNeg ((m_now (2 : Int32).toNatClampNeg) + 1)) m_sav m_ahe m_bef r7.2 m_noi m_own m_inp (m_now (2 : Int32).toNatClampNeg) 0 a1 _ e11) lk_RX5_103 rfl rfl hRMX5_put hP hD hS hA hK hN 0 rfl rfl rfl hl.1 rfl (Nat.le_of_ble_eq_true rfl) ⟨Nat.le_of_ble_eq_true rfl, Nat.le_of_ble_eq_true rfl⟩ (dg ddX5_busker 55 rfl) (fun H locs hP hD hS => ?_)
      refine lv_aload_n hx hb (dg ddX5_busker 56 rfl) rfl (lv_at hl 1 rfl) ?_
      refine lv_iload_n hx hb (dg ddX5_busker 57 rfl) rfl (lv_at hl 0 rfl) ?_
      refine lv_iconst (v := 1) hx hb (dg ddX5_busker 58 rfl) (by decide) ?_
      refine lv_iload_n hx hb (dg ddX5_busker 59 rfl) rfl (lv_at hl 3 rfl) ?_
      obtain ⟨r14, e13, hf⟩ := ob_some hf
      refine crw_vv CX hml (As := [.int (m_now (2 : Int32).toNatClampNeg), .int 1, .int a2]) (rest := []) (c_X5_put l D cy q r4.2 r7.1 r2.2.1 r2.2.2 m_isv m_iit m_len m_at m_err m_wro m_cmd m_to1 m_to2 r12 m_sav m_ahe m_bef r7.2 m_noi m_own m_inp (m_now (2 : Int32).toNatClampNeg) 1 a2 _ e13) lk_RX5_103 rfl rfl hRMX5_put hP hD hS hA hK hN 0 rfl rfl rfl hl.1 rfl (Nat.le_of_ble_eq_true rfl) ⟨Nat.le_of_ble_eq_true rfl, Nat.le_of_ble_eq_true rfl⟩ (dg ddX5_busker 60 rfl) (fun H locs hP hD hS => ?_)
      refine lv_aload_n hx hb (dg ddX5_busker 61 rfl) rfl (lv_at hl 1 rfl) ?_
      refine lv_iload_n hx hb (dg ddX5_busker 62 rfl) rfl (lv_at hl 0 rfl) ?_
      refine lv_iconst (v := 2) hx hb (dg ddX5_busker 63 rfl) (by decide) ?_
      refine lv_fconst0 hx hb (dg ddX5_busker 64 rfl) ?_
      obtain ⟨r16, e15, hf⟩ := ob_some hf
      refine crw_vv CX hml (As := [.int (m_now (2 : Int32).toNatClampNeg), .int 2, .float FP.fconst0]) (rest := []) (c_X5_putFloat l D cy q r4.2 r7.1 r2.2.1 r2.2.2 m_isv m_iit m_len m_at m_err m_wro m_cmd m_to1 m_to2 r14 m_sav m_ahe m_bef r7.2 m_noi m_own m_inp (m_now (2 : Int32).toNatClampNeg) 2 FP.fconst0 _ e15) lk_RX5_110 rfl rfl hRMX5_putFloat hP hD hS hA hK hN 0 rfl rfl rfl hl.1 rfl (Nat.le_of_ble_eq_true rfl) ⟨Nat.le_of_ble_eq_true rfl, Nat.le_of_ble_eq_true rfl⟩ (dg ddX5_busker 65 rfl) (fun H locs hP hD hS => ?_)
      refine lv_aload_n hx hb (dg ddX5_busker 66 rfl) rfl (lv_at hl 1 rfl) ?_
      refine lv_iload_n hx hb (dg ddX5_busker 67 rfl) rfl (lv_at hl 0 rfl) ?_
      refine lv_iconst (v := 3) hx hb (dg ddX5_busker 68 rfl) (by decide) ?_
      refine lv_fconst0 hx hb (dg ddX5_busker 69 rfl) ?_
      obtain ⟨r18, e17, hf⟩ := ob_some hf
      refine crw_vv CX hml (As := [.int (m_now (2 : Int32).toNatClampNeg), .int 3, .float FP.fconst0]) (rest := []) (c_X5_putFloat l D cy q r4.2 r7.1 r2.2.1 r2.2.2 m_isv m_iit m_len m_at m_err m_wro m_cmd m_to1 m_to2 r16 m_sav m_ahe m_bef r7.2 m_noi m_own m_inp (m_now (2 : Int32).toNatClampNeg) 3 FP.fconst0 _ e17) lk_RX5_110 rfl rfl hRMX5_putFloat hP hD hS hA hK hN 0 rfl rfl rfl hl.1 rfl (Nat.le_of_ble_eq_true rfl) ⟨Nat.le_of_ble_eq_true rfl, Nat.le_of_ble_eq_true rfl⟩ (dg ddX5_busker 70 rfl) (fun H locs hP hD hS => ?_)
      refine lv_aload_n hx hb (dg ddX5_busker 71 rfl) rfl (lv_at hl 1 rfl) ?_
      refine lv_iload_n hx hb (dg ddX5_busker 72 rfl) rfl (lv_at hl 0 rfl) ?_
      refine lv_iconst (v := 4) hx hb (dg ddX5_busker 73 rfl) (by decide) ?_
      refine lv_iconst (v := (-1)) hx hb (dg ddX5_busker 74 rfl) (by decide) ?_
      obtain ⟨r20, e19, hf⟩ := ob_some hf
      refine crw_vv CX hml (As := [.int (m_now (2 : Int32).toNatClampNeg), .int 4, .int (-1)]) (rest := []) (c_X5_put l D cy q r4.2 r7.1 r2.2.1 r2.2.2 m_isv m_iit m_len m_at m_err m_wro m_cmd m_to1 m_to2 r18 m_sav m_ahe m_bef r7.2 m_noi m_own m_inp (m_now (2 : Int32).toNatClampNeg) 4 (-1) _ e19) lk_RX5_103 rfl rfl hRMX5_put hP hD hS hA hK hN 0 rfl rfl rfl hl.1 rfl (Nat.le_of_ble_eq_true rfl) ⟨Nat.le_of_ble_eq_true rfl, Nat.le_of_ble_eq_true rfl⟩ (dg ddX5_busker 75 rfl) (fun H locs hP hD hS => ?_)
      refine lv_aload_n hx hb (dg ddX5_busker 76 rfl) rfl (lv_at hl 1 rfl) ?_
      refine lv_iload_n hx hb (dg ddX5_busker 77 rfl) rfl (lv_at hl 0 rfl) ?_
      refine lv_iconst (v := 5) hx hb (dg ddX5_busker 78 rfl) (by decide) ?_
      refine lv_iconst (v := (-1)) hx hb (dg ddX5_busker 79 rfl) (by decide) ?_
      obtain ⟨r22, e21, hf⟩ := ob_some hf
      refine crw_vv CX hml (As := [.int (m_now (2 : Int32).toNatClampNeg), .int 5, .int (-1)]) (rest := []) (c_X5_put l D cy q r4.2 r7.1 r2.2.1 r2.2.2 m_isv m_iit m_len m_at m_err m_wro m_cmd m_to1 m_to2 r20 m_sav m_ahe m_bef r7.2 m_noi m_own m_inp (m_now (2 : Int32).toNatClampNeg) 5 (-1) _ e21) lk_RX5_103 rfl rfl hRMX5_put hP hD hS hA hK hN 0 rfl rfl rfl hl.1 rfl (Nat.le_of_ble_eq_true rfl) ⟨Nat.le_of_ble_eq_true rfl, Nat.le_of_ble_eq_true rfl⟩ (dg ddX5_busker 80 rfl) (fun H locs hP hD hS => ?_)
      refine lv_aload_n hx hb (dg ddX5_busker 81 rfl) rfl (lv_at hl 1 rfl) ?_
      refine lv_iload_n hx hb (dg ddX5_busker 82 rfl) rfl (lv_at hl 0 rfl) ?_
      refine lv_bipush (v := 6) hx hb (dg ddX5_busker 83 rfl) (by decide) ?_
      refine lv_iconst (v := 0) hx hb (dg ddX5_busker 84 rfl) (by decide) ?_
      obtain ⟨r24, e23, hf⟩ := ob_some hf
      refine crw_vv CX hml (As := [.int (m_now (2 : Int32).toNatClampNeg), .int 6, .int 0]) (rest := []) (c_X5_put l D cy q r4.2 r7.1 r2.2.1 r2.2.2 m_isv m_iit m_len m_at m_err m_wro m_cmd m_to1 m_to2 r22 m_sav m_ahe m_bef r7.2 m_noi m_own m_inp (m_now (2 : Int32).toNatClampNeg) 6 0 _ e23) lk_RX5_103 rfl rfl hRMX5_put hP hD hS hA hK hN 0 rfl rfl rfl hl.1 rfl (Nat.le_of_ble_eq_true rfl) ⟨Nat.le_of_ble_eq_true rfl, Nat.le_of_ble_eq_true rfl⟩ (dg ddX5_busker 85 rfl) (fun H locs hP hD hS => ?_)
      refine lv_aload_n hx hb (dg ddX5_busker 86 rfl) rfl (lv_at hl 1 rfl) ?_
      refine lv_iload_n hx hb (dg ddX5_busker 87 rfl) rfl (lv_at hl 0 rfl) ?_
      refine lv_bipush (v := 7) hx hb (dg ddX5_busker 88 rfl) (by decide) ?_
      refine lv_iconst (v := 0) hx hb (dg ddX5_busker 89 rfl) (by decide) ?_
      obtain ⟨r26, e25, hf⟩ := ob_some hf
      refine crw_vv CX hml (As := [.int (m_now (2 : Int32).toNatClampNeg), .int 7, .int 0]) (rest := []) (c_X5_put l D cy q r4.2 r7.1 r2.2.1 r2.2.2 m_isv m_iit m_len m_at m_err m_wro m_cmd m_to1 m_to2 r24 m_sav m_ahe m_bef r7.2 m_noi m_own m_inp (m_now (2 : Int32).toNatClampNeg) 7 0 _ e25) lk_RX5_103 rfl rfl hRMX5_put hP hD hS hA hK hN 0 rfl rfl rfl hl.1 rfl (Nat.le_of_ble_eq_true rfl) ⟨Nat.le_of_ble_eq_true rfl, Nat.le_of_ble_eq_true rfl⟩ (dg ddX5_busker 90 rfl) (fun H locs hP hD hS => ?_)
      refine lv_iload_n hx hb (dg ddX5_busker 91 rfl) rfl (lv_at hl 0 rfl) ?_
      cases hf
      exact e_wi CX hr hlk rfl hP hD hS (dg ddX5_busker 92 rfl)
    · have hf := it_f h5 hf
      refine lv_iconst (v := 0) hx hb (dg ddX5_busker 34 rfl) (by decide) ?_
      cases hf
      exact e_wi CX hr hlk rfl hP hD hS (dg ddX5_busker 35 rfl)
  have K26 : ∀ (t0 : Int32) (t1 : Int32) (m_thr : Int32) (m_kept : Int32) (m_rea : Int32) (m_det : Int32) (m_now : Nat → Int32) (m_hst : Nat → Nat → Int32) (H : Heap) (locs : List Loc) (hP : va_P D vwCl (wX5 q cy m_thr m_kept m_rea m_det m_isv m_iit m_len m_at m_err m_wro m_cmd m_to1 m_to2 m_now m_sav m_ahe m_bef m_hst m_noi m_own m_inp) H) (hD : va_D A (wX5 q cy m_thr m_kept m_rea m_det m_isv m_iit m_len m_at m_err m_wro m_cmd m_to1 m_to2 m_now m_sav m_ahe m_bef m_hst m_noi m_own m_inp)) (hS : va_S A s.heap H locs) (ls : Array Slot) (hl : lv_has ls 4 [(0, .ref (q 0)), (1, .int a1), (2, .int a2)]) (hf : f_X5_busker_c26 m_iit a1 a2 t0 t1 m_thr m_kept m_rea m_det m_now m_hst = some res), W p l e ⟨4, 0, 0, 83⟩ s m args below meth c H locs 0 0 (MQ below (qI D (wX5 q cy res.2.1 res.2.2.1 res.2.2.2.1 res.2.2.2.2.1 m_isv m_iit m_len m_at m_err m_wro m_cmd m_to1 m_to2 res.2.2.2.2.2.1 m_sav m_ahe m_bef res.2.2.2.2.2.2 m_noi m_own m_inp) res.1 A) args s 0 0 A) (F0 m 26 ls [.int t0, .int t1, .ref (q 0)]) := by
    intro t0 t1 m_thr m_kept m_rea m_det m_now m_hst H locs hP hD hS ls hl hf
    obtain ⟨r2, e1, hf⟩ := ob_some hf
    refine crw_vi CX hml (As := [.int t1, .int t0]) (rest := []) (c_X5_fails l D cy q m_thr m_kept m_rea m_det m_isv m_iit m_len m_at m_err m_wro m_cmd m_to1 m_to2 m_now m_sav m_ahe m_bef m_hst m_noi m_own m_inp t1 t0 _ e1) lk_RX5_81 rfl rfl hRMX5_fails hP hD hS hA hK hN 0 rfl rfl rfl hl.1 rfl (Nat.le_of_ble_eq_true rfl) ⟨Nat.le_of_ble_eq_true rfl, Nat.le_of_ble_eq_true rfl⟩ (dg ddX5_busker 15 rfl) (fun H locs hP hD hS => ?_)
    refine lv_if_ne (tgt := 63) hx hb (dg ddX5_busker 16 rfl) (by decide) (fun h3 => ?_) (fun h3 => ?_)
    · have hf := it_f h3 hf
      refine lv_iconst (v := 0) hx hb (dg ddX5_busker 34 rfl) (by decide) ?_
      cases hf
      exact e_wi CX hr hlk rfl hP hD hS (dg ddX5_busker 35 rfl)
    · have hf := it_t h3 hf
      refine lv_aload_n hx hb (dg ddX5_busker 17 rfl) rfl (lv_at hl 0 rfl) ?_
      refine lv_iconst (v := 2) hx hb (dg ddX5_busker 18 rfl) (by decide) ?_
      refine lv_aload_n hx hb (dg ddX5_busker 19 rfl) rfl (lv_at hl 0 rfl) ?_
      refine lv_aload_n hx hb (dg ddX5_busker 20 rfl) rfl (lv_at hl 0 rfl) ?_
      refine gf_RX5_9 CX hK hP 0 rfl rfl (dg ddX5_busker 21 rfl) ?_
      refine lv_iconst (v := 2) hx hb (dg ddX5_busker 22 rfl) (by decide) ?_
      obtain ⟨h4, hf⟩ := og_some hf
      refine va_iald hx hb hK hP 1 0 rfl rfl (inb_in h4) (dg ddX5_busker 23 rfl) ?_
      refine lv_bipush (v := 8) hx hb (dg ddX5_busker 24 rfl) (by decide) ?_
      refine lv_icmp_ne (tgt := 50) hx hb (dg ddX5_busker 25 rfl) (by decide) (fun h5 => ?_) (fun h5 => ?_)
      · have hf := it_f h5 hf
        refine lv_iconst (v := 0) hx hb (dg ddX5_busker 28 rfl) (by decide) ?_
        exact K51  0 2 r2.2 m_kept m_rea m_det m_now m_hst _ _ hP hD hS _ (lv_sub hl [0, 1, 2] rfl) hf
      · have hf := it_t h5 hf
        refine lv_iconst (v := 1) hx hb (dg ddX5_busker 26 rfl) (by decide) ?_
        refine lv_goto (tgt := 51) hx hb (dg ddX5_busker 27 rfl) (by decide) ?_
        exact K51  1 2 r2.2 m_kept m_rea m_det m_now m_hst _ _ hP hD hS _ (lv_sub hl [0, 1, 2] rfl) hf
  have K21 : ∀ (t0 : Int32) (m_thr : Int32) (m_kept : Int32) (m_rea : Int32) (m_det : Int32) (m_now : Nat → Int32) (m_hst : Nat → Nat → Int32) (H : Heap) (locs : List Loc) (hP : va_P D vwCl (wX5 q cy m_thr m_kept m_rea m_det m_isv m_iit m_len m_at m_err m_wro m_cmd m_to1 m_to2 m_now m_sav m_ahe m_bef m_hst m_noi m_own m_inp) H) (hD : va_D A (wX5 q cy m_thr m_kept m_rea m_det m_isv m_iit m_len m_at m_err m_wro m_cmd m_to1 m_to2 m_now m_sav m_ahe m_bef m_hst m_noi m_own m_inp)) (hS : va_S A s.heap H locs) (ls : Array Slot) (hl : lv_has ls 4 [(0, .ref (q 0)), (1, .int a1), (2, .int a2)]) (hf : f_X5_busker_c21 m_iit a1 a2 t0 m_thr m_kept m_rea m_det m_now m_hst = some res), W p l e ⟨4, 0, 0, 83⟩ s m args below meth c H locs 0 0 (MQ below (qI D (wX5 q cy res.2.1 res.2.2.1 res.2.2.2.1 res.2.2.2.2.1 m_isv m_iit m_len m_at m_err m_wro m_cmd m_to1 m_to2 res.2.2.2.2.2.1 m_sav m_ahe m_bef res.2.2.2.2.2.2 m_noi m_own m_inp) res.1 A) args s 0 0 A) (F0 m 21 ls [.int t0, .ref (q 0)]) := by
    intro t0 m_thr m_kept m_rea m_det m_now m_hst H locs hP hD hS ls hl hf
    refine lv_iconst (v := 1) hx hb (dg ddX5_busker 12 rfl) (by decide) ?_
    refine lv_goto (tgt := 26) hx hb (dg ddX5_busker 13 rfl) (by decide) ?_
    exact K26  1 t0 m_thr m_kept m_rea m_det m_now m_hst _ _ hP hD hS _ (lv_sub hl [0, 1, 2] rfl) hf
  refine lv_aload_n hx hb (dg ddX5_busker 0 rfl) rfl (lv_at hl 0 rfl) ?_
  refine lv_iconst (v := 1) hx hb (dg ddX5_busker 1 rfl) (by decide) ?_
  refine lv_iload_n hx hb (dg ddX5_busker 2 rfl) rfl (lv_at hl 1 rfl) ?_
  refine lv_iconst (v := 0) hx hb (dg ddX5_busker 3 rfl) (by decide) ?_
  refine lv_iconst (v := 1) hx hb (dg ddX5_busker 4 rfl) (by decide) ?_
  obtain ⟨r2, e1, hf⟩ := ob_some hf
  refine cro_si CX hml (As := [.int a1, .int 0, .int 1]) (rest := [.int 1, .ref (q 0)]) (c_X5_isBetween l D cy a1 0 1 e1) lk_RX5_77 rfl rfl hRMX5_isBetween vaP_nil hK hN rfl hl.1 rfl (Nat.le_of_ble_eq_true rfl) ⟨Nat.le_of_ble_eq_true rfl, Nat.le_of_ble_eq_true rfl⟩ (dg ddX5_busker 5 rfl) ?_
  refine lv_if_eq (tgt := 21) hx hb (dg ddX5_busker 6 rfl) (by decide) (fun h3 => ?_) (fun h3 => ?_)
  · have hf := it_t h3 hf
    exact K21  1 m_thr m_kept m_rea m_det m_now m_hst _ _ hP hD hS _ (lv_sub hl [0, 1, 2] rfl) hf
  · have hf := it_f h3 hf
    refine lv_iload_n hx hb (dg ddX5_busker 7 rfl) rfl (lv_at hl 2 rfl) ?_
    refine lv_iconst (v := 1) hx hb (dg ddX5_busker 8 rfl) (by decide) ?_
    refine lv_bipush (v := 9) hx hb (dg ddX5_busker 9 rfl) (by decide) ?_
    obtain ⟨r5, e4, hf⟩ := ob_some hf
    refine cro_si CX hml (As := [.int a2, .int 1, .int 9]) (rest := [.int 1, .ref (q 0)]) (c_X5_isBetween l D cy a2 1 9 e4) lk_RX5_77 rfl rfl hRMX5_isBetween vaP_nil hK hN rfl hl.1 rfl (Nat.le_of_ble_eq_true rfl) ⟨Nat.le_of_ble_eq_true rfl, Nat.le_of_ble_eq_true rfl⟩ (dg ddX5_busker 10 rfl) ?_
    refine lv_if_ne (tgt := 25) hx hb (dg ddX5_busker 11 rfl) (by decide) (fun h6 => ?_) (fun h6 => ?_)
    · have hf := it_f h6 hf
      refine lv_iconst (v := 0) hx hb (dg ddX5_busker 14 rfl) (by decide) ?_
      exact K26  0 1 m_thr m_kept m_rea m_det m_now m_hst _ _ hP hD hS _ (lv_sub hl [0, 1, 2] rfl) hf
    · have hf := it_t h6 hf
      exact K21  1 m_thr m_kept m_rea m_det m_now m_hst _ _ hP hD hS _ (lv_sub hl [0, 1, 2] rfl) hf
def f_X5_placeInLine_c2  (m_now : Nat → Int32) (a1 : Int32) : Nat → Int32 → Option (Int32)
  | 0, _ => none
  | n + 1, x2 => og (inb 3 112) (if (m_now (3 : Int32).toNatClampNeg) ≤ x2 then (some (-1)) else (og (inb (104 + x2) 112) (if (m_now (104 + x2).toNatClampNeg) = a1 then (some x2) else (f_X5_placeInLine_c2 m_now a1 n (x2 + 1)))))
def f_X5_placeInLine (m_now : Nat → Int32) (a1 : Int32) : Option (Int32) := f_X5_placeInLine_c2 m_now a1 4096 0
set_option maxHeartbeats 4000000 in
set_option maxRecDepth 100000 in
theorem c_X5_placeInLine (l : Launch) (D : va_G) (cy : Nat → ClassId) (q : Nat → Nat) (m_thr : Int32) (m_kept : Int32) (m_rea : Int32) (m_det : Int32) (m_isv : Int32) (m_iit : Int32) (m_len : Int32) (m_at : Int32) (m_err : Int32) (m_wro : Int32) (m_cmd : Int32) (m_to1 : Int32) (m_to2 : Int32) (m_now : Nat → Int32) (m_sav : Nat → Int32) (m_ahe : Nat → Int32) (m_bef : Nat → Int32) (m_hst : Nat → Nat → Int32) (m_noi : Nat → UInt32) (m_own : Nat → UInt32) (m_inp : Nat → Int32) (a1 : Int32) {res : Int32} (hf : f_X5_placeInLine m_now a1 = some res) : Met l yX5_placeInLine (.code yX5_placeInLine cX5_placeInLine 3 (some .int) :: lw_all) { frames := 1, cells := 0, slots := 0, locals := 12 } (va_Pc [.ref (q 0), .int a1] (sR D cy (wX5 q cy m_thr m_kept m_rea m_det m_isv m_iit m_len m_at m_err m_wro m_cmd m_to1 m_to2 m_now m_sav m_ahe m_bef m_hst m_noi m_own m_inp))) (vp_Si (fun r => r = res)) 0 0 (fun _ => False) := by
  refine mk_ro (Rc := RX5) (by decide +kernel) rfl (Nat.le_of_ble_eq_true rfl) ?_
  intro p e s m args below meth c ls CX hml hr hlk hK hN hP hl
  have hx := CX.1
  have hb := CX.2.1
  have hl0 := hl
  have K2 : ∀ (n : Nat), ∀ (x2 : Int32) (ls : Array Slot) (hl : lv_has ls 3 [(0, .ref (q 0)), (1, .int a1), (2, .int x2)]) (hf : f_X5_placeInLine_c2 m_now a1 n x2 = some res), W p l e ⟨1, 0, 0, 12⟩ s m args below meth c s.heap [] 0 0 (MQ below (vp_Si (fun r => r = res)) args s 0 0 (fun _ => False)) (F0 m 2 ls []) := by
    intro n
    induction n with
    | zero => intro x2 ls hl hf; cases (show none = some res from hf)
    | succ n ih =>
    intro x2 ls hl hf
    refine lv_iload_n hx hb (dg ddX5_placeInLine 2 rfl) rfl (lv_at hl 2 rfl) ?_
    refine lv_aload_n hx hb (dg ddX5_placeInLine 3 rfl) rfl (lv_at hl 0 rfl) ?_
    refine gf_RX5_9 CX hK hP 0 rfl rfl (dg ddX5_placeInLine 4 rfl) ?_
    refine lv_iconst (v := 3) hx hb (dg ddX5_placeInLine 5 rfl) (by decide) ?_
    obtain ⟨h1, hf⟩ := og_some hf
    refine va_iald hx hb hK hP 1 0 rfl rfl (inb_in h1) (dg ddX5_placeInLine 6 rfl) ?_
    refine lv_icmp_ge (tgt := 33) hx hb (dg ddX5_placeInLine 7 rfl) (by decide) (fun h2 => ?_) (fun h2 => ?_)
    · have hf := it_t h2 hf
      refine lv_iconst (v := (-1)) hx hb (dg ddX5_placeInLine 20 rfl) (by decide) ?_
      exact e_ri CX hr hlk (Option.some.inj hf) (dg ddX5_placeInLine 21 rfl)
    · have hf := it_f h2 hf
      refine lv_aload_n hx hb (dg ddX5_placeInLine 8 rfl) rfl (lv_at hl 0 rfl) ?_
      refine gf_RX5_9 CX hK hP 0 rfl rfl (dg ddX5_placeInLine 9 rfl) ?_
      refine lv_bipush (v := 104) hx hb (dg ddX5_placeInLine 10 rfl) (by decide) ?_
      refine lv_iload_n hx hb (dg ddX5_placeInLine 11 rfl) rfl (lv_at hl 2 rfl) ?_
      refine lv_iadd hx hb (dg ddX5_placeInLine 12 rfl) ?_
      obtain ⟨h3, hf⟩ := og_some hf
      refine va_iald hx hb hK hP 1 0 rfl rfl (inb_in h3) (dg ddX5_placeInLine 13 rfl) ?_
      refine lv_iload_n hx hb (dg ddX5_placeInLine 14 rfl) rfl (lv_at hl 1 rfl) ?_
      refine lv_icmp_ne (tgt := 27) hx hb (dg ddX5_placeInLine 15 rfl) (by decide) (fun h4 => ?_) (fun h4 => ?_)
      · have hf := it_f h4 hf
        refine lv_iinc (v := x2 + 1) (lv' := [(2, .int (x2 + 1)), (0, .ref (q 0)), (1, .int a1)]) hx hb (dg ddX5_placeInLine 18 rfl) hl (k := 2) rfl (congrArg (HAdd.hAdd x2) (by decide)) (by decide) rfl (fun ls hl => ?_)
        refine lv_goto (tgt := 2) hx hb (dg ddX5_placeInLine 19 rfl) (by decide) ?_
        exact ih (x2 + 1) _ (lv_sub hl [1, 2, 0] rfl) hf
      · have hf := it_t h4 hf
        refine lv_iload_n hx hb (dg ddX5_placeInLine 16 rfl) rfl (lv_at hl 2 rfl) ?_
        exact e_ri CX hr hlk (Option.some.inj hf) (dg ddX5_placeInLine 17 rfl)
  refine lv_iconst (v := 0) hx hb (dg ddX5_placeInLine 0 rfl) (by decide) ?_
  refine lv_istore_n (lv' := [(2, .int 0), (0, .ref (q 0)), (1, .int a1)]) hx hb (dg ddX5_placeInLine 1 rfl) rfl hl (by decide) rfl (fun ls hl => ?_)
  exact K2 4096 0 _ (lv_sub hl [1, 2, 0] rfl) hf
def f_X5_buskerOf_c38  (m_now : Nat → Int32) (a1 : Int32) (a2 : Int32) (t0 : Int32) (t1 : Int32) (m_thr : Int32) : Option (Int32 × Int32) := ob (f_X5_fails m_thr t1 t0) fun r2 => (if r2.1 = 0 then (if a2 = 0 then (ob (f_X5_of m_now a1 0) fun r6 => (some (r6, r2.2))) else (if a2 = 1 then (ob (f_X5_of m_now a1 1) fun r9 => (some (r9, r2.2))) else (if a2 = 2 then (ob (f_X5_of m_now a1 4) fun r12 => (some (r12, r2.2))) else (if a2 = 3 then (ob (f_X5_placeInLine m_now a1) fun r15 => (some (r15, r2.2))) else (if a2 = 4 then (ob (f_X5_of m_now a1 5) fun r18 => (some (r18, r2.2))) else (if a2 = 5 then (ob (f_X5_of m_now a1 6) fun r21 => (some (r21, r2.2))) else (ob (f_X5_of m_now a1 7) fun r23 => (some (r23, r2.2))))))))) else (some (0, r2.2)))
def f_X5_buskerOf_c15  (m_now : Nat → Int32) (a1 : Int32) (a2 : Int32) (t0 : Int32) (t1 : Int32) (m_thr : Int32) : Option (Int32 × Int32) := ob (f_X5_fails m_thr t1 t0) fun r2 => (if r2.1 = 0 then (ob (f_X5_isBetween a2 0 6) fun r5 => (if r5 = 0 then (f_X5_buskerOf_c38 m_now a1 a2 1 2 r2.2) else (f_X5_buskerOf_c38 m_now a1 a2 0 2 r2.2))) else (some (0, r2.2)))
def f_X5_buskerOf (m_thr : Int32) (m_now : Nat → Int32) (a1 : Int32) (a2 : Int32) : Option (Int32 × Int32) := ob (f_X5_isBusker m_now a1) fun r2 => (if r2 = 0 then (f_X5_buskerOf_c15 m_now a1 a2 1 1 m_thr) else (f_X5_buskerOf_c15 m_now a1 a2 0 1 m_thr))
set_option maxHeartbeats 4000000 in
set_option maxRecDepth 100000 in
theorem c_X5_buskerOf (l : Launch) (D : va_G) (cy : Nat → ClassId) (q : Nat → Nat) (m_thr : Int32) (m_kept : Int32) (m_rea : Int32) (m_det : Int32) (m_isv : Int32) (m_iit : Int32) (m_len : Int32) (m_at : Int32) (m_err : Int32) (m_wro : Int32) (m_cmd : Int32) (m_to1 : Int32) (m_to2 : Int32) (m_now : Nat → Int32) (m_sav : Nat → Int32) (m_ahe : Nat → Int32) (m_bef : Nat → Int32) (m_hst : Nat → Nat → Int32) (m_noi : Nat → UInt32) (m_own : Nat → UInt32) (m_inp : Nat → Int32) (a1 : Int32) (a2 : Int32) (sz : Nat) {res : Int32 × Int32} (hf : f_X5_buskerOf m_thr m_now a1 a2 = some res) : Met l yX5_buskerOf (.code yX5_buskerOf cX5_buskerOf 3 (some .int) :: lw_all) { frames := 3, cells := 0, slots := 0, locals := 55 } (va_Pc [.ref (q 0), .int a1, .int a2] (sW D cy (wX5 q cy m_thr m_kept m_rea m_det m_isv m_iit m_len m_at m_err m_wro m_cmd m_to1 m_to2 m_now m_sav m_ahe m_bef m_hst m_noi m_own m_inp) sz)) (qI D (wX5 q cy res.2 m_kept m_rea m_det m_isv m_iit m_len m_at m_err m_wro m_cmd m_to1 m_to2 m_now m_sav m_ahe m_bef m_hst m_noi m_own m_inp) res.1 (va_A (wX5 q cy m_thr m_kept m_rea m_det m_isv m_iit m_len m_at m_err m_wro m_cmd m_to1 m_to2 m_now m_sav m_ahe m_bef m_hst m_noi m_own m_inp) sz)) 0 0 (va_A (wX5 q cy m_thr m_kept m_rea m_det m_isv m_iit m_len m_at m_err m_wro m_cmd m_to1 m_to2 m_now m_sav m_ahe m_bef m_hst m_noi m_own m_inp) sz) := by
  refine mk_rw (Qc := qI D (wX5 q cy res.2 m_kept m_rea m_det m_isv m_iit m_len m_at m_err m_wro m_cmd m_to1 m_to2 m_now m_sav m_ahe m_bef m_hst m_noi m_own m_inp) res.1) (Rc := RX5) (by decide +kernel) rfl (Nat.le_of_ble_eq_true rfl) ?_
  intro p e s m args below meth c ls A CX hml hr hlk hK hN hP hD hS hA hl
  have hx := CX.1
  have hb := CX.2.1
  have hRMX5_fails : (⟨1, 0, 0, 12⟩ : Room).frames + 1 ≤ (⟨3, 0, 0, 55⟩ : Room).frames ∧ 8 + (3 + 11) + (⟨1, 0, 0, 12⟩ : Room).locals ≤ (⟨3, 0, 0, 55⟩ : Room).locals := ⟨Nat.le_of_ble_eq_true rfl, Nat.le_of_ble_eq_true rfl⟩
  have hRMX5_isBetween : (⟨1, 0, 0, 12⟩ : Room).frames + 1 ≤ (⟨3, 0, 0, 55⟩ : Room).frames ∧ 8 + (3 + 11) + (⟨1, 0, 0, 12⟩ : Room).locals ≤ (⟨3, 0, 0, 55⟩ : Room).locals := ⟨Nat.le_of_ble_eq_true rfl, Nat.le_of_ble_eq_true rfl⟩
  have hRMX5_isBusker : (⟨2, 0, 0, 34⟩ : Room).frames + 1 ≤ (⟨3, 0, 0, 55⟩ : Room).frames ∧ 8 + (2 + 11) + (⟨2, 0, 0, 34⟩ : Room).locals ≤ (⟨3, 0, 0, 55⟩ : Room).locals := ⟨Nat.le_of_ble_eq_true rfl, Nat.le_of_ble_eq_true rfl⟩
  have hRMX5_of : (⟨1, 0, 0, 12⟩ : Room).frames + 1 ≤ (⟨3, 0, 0, 55⟩ : Room).frames ∧ 8 + (3 + 11) + (⟨1, 0, 0, 12⟩ : Room).locals ≤ (⟨3, 0, 0, 55⟩ : Room).locals := ⟨Nat.le_of_ble_eq_true rfl, Nat.le_of_ble_eq_true rfl⟩
  have hRMX5_placeInLine : (⟨1, 0, 0, 12⟩ : Room).frames + 1 ≤ (⟨3, 0, 0, 55⟩ : Room).frames ∧ 8 + (3 + 11) + (⟨1, 0, 0, 12⟩ : Room).locals ≤ (⟨3, 0, 0, 55⟩ : Room).locals := ⟨Nat.le_of_ble_eq_true rfl, Nat.le_of_ble_eq_true rfl⟩
  have hl0 := hl
  have K38 : ∀ (t0 : Int32) (t1 : Int32) (m_thr : Int32) (H : Heap) (locs : List Loc) (hP : va_P D vwCl (wX5 q cy m_thr m_kept m_rea m_det m_isv m_iit m_len m_at m_err m_wro m_cmd m_to1 m_to2 m_now m_sav m_ahe m_bef m_hst m_noi m_own m_inp) H) (hD : va_D A (wX5 q cy m_thr m_kept m_rea m_det m_isv m_iit m_len m_at m_err m_wro m_cmd m_to1 m_to2 m_now m_sav m_ahe m_bef m_hst m_noi m_own m_inp)) (hS : va_S A s.heap H locs) (ls : Array Slot) (hl : lv_has ls 3 [(0, .ref (q 0)), (1, .int a1), (2, .int a2)]) (hf : f_X5_buskerOf_c38 m_now a1 a2 t0 t1 m_thr = some res), W p l e ⟨3, 0, 0, 55⟩ s m args below meth c H locs 0 0 (MQ below (qI D (wX5 q cy res.2 m_kept m_rea m_det m_isv m_iit m_len m_at m_err m_wro m_cmd m_to1 m_to2 m_now m_sav m_ahe m_bef m_hst m_noi m_own m_inp) res.1 A) args s 0 0 A) (F0 m 38 ls [.int t0, .int t1, .ref (q 0)]) := by
    intro t0 t1 m_thr H locs hP hD hS ls hl hf
    obtain ⟨r2, e1, hf⟩ := ob_some hf
    refine crw_vi CX hml (As := [.int t1, .int t0]) (rest := []) (c_X5_fails l D cy q m_thr m_kept m_rea m_det m_isv m_iit m_len m_at m_err m_wro m_cmd m_to1 m_to2 m_now m_sav m_ahe m_bef m_hst m_noi m_own m_inp t1 t0 _ e1) lk_RX5_81 rfl rfl hRMX5_fails hP hD hS hA hK hN 0 rfl rfl rfl hl.1 rfl (Nat.le_of_ble_eq_true rfl) ⟨Nat.le_of_ble_eq_true rfl, Nat.le_of_ble_eq_true rfl⟩ (dg ddX5_buskerOf 21 rfl) (fun H locs hP hD hS => ?_)
    refine lv_if_eq (tgt := 46) hx hb (dg ddX5_buskerOf 22 rfl) (by decide) (fun h3 => ?_) (fun h3 => ?_)
    · have hf := it_t h3 hf
      refine lv_iload_n hx hb (dg ddX5_buskerOf 25 rfl) rfl (lv_at hl 2 rfl) ?_
      by_cases h4 : a2 = 0
      · have hf := it_t h4 hf
        refine lv_tableIn (off := 37) (tgt := 84) hx hb (dg ddX5_buskerOf 26 rfl) (by rw [h4]; decide) (by rw [h4]; decide) (by rw [h4]; rfl) (by decide) ?_
        refine lv_aload_n hx hb (dg ddX5_buskerOf 27 rfl) rfl (lv_at hl 0 rfl) ?_
        refine lv_iload_n hx hb (dg ddX5_buskerOf 28 rfl) rfl (lv_at hl 1 rfl) ?_
        refine lv_iconst (v := 0) hx hb (dg ddX5_buskerOf 29 rfl) (by decide) ?_
        obtain ⟨r6, e5, hf⟩ := ob_some hf
        refine cro_vi CX hml (As := [.int a1, .int 0]) (rest := []) (c_X5_of l D cy q r2.2 m_kept m_rea m_det m_isv m_iit m_len m_at m_err m_wro m_cmd m_to1 m_to2 m_now m_sav m_ahe m_bef m_hst m_noi m_own m_inp a1 0 e5) lk_RX5_100 rfl rfl hRMX5_of hP hK hN 0 rfl rfl rfl hl.1 rfl (Nat.le_of_ble_eq_true rfl) ⟨Nat.le_of_ble_eq_true rfl, Nat.le_of_ble_eq_true rfl⟩ (dg ddX5_buskerOf 30 rfl) ?_
        cases hf
        exact e_wi CX hr hlk rfl hP hD hS (dg ddX5_buskerOf 31 rfl)
      have hf := it_f h4 hf
      by_cases h7 : a2 = 1
      · have hf := it_t h7 hf
        refine lv_tableIn (off := 44) (tgt := 91) hx hb (dg ddX5_buskerOf 26 rfl) (by rw [h7]; decide) (by rw [h7]; decide) (by rw [h7]; rfl) (by decide) ?_
        refine lv_aload_n hx hb (dg ddX5_buskerOf 32 rfl) rfl (lv_at hl 0 rfl) ?_
        refine lv_iload_n hx hb (dg ddX5_buskerOf 33 rfl) rfl (lv_at hl 1 rfl) ?_
        refine lv_iconst (v := 1) hx hb (dg ddX5_buskerOf 34 rfl) (by decide) ?_
        obtain ⟨r9, e8, hf⟩ := ob_some hf
        refine cro_vi CX hml (As := [.int a1, .int 1]) (rest := []) (c_X5_of l D cy q r2.2 m_kept m_rea m_det m_isv m_iit m_len m_at m_err m_wro m_cmd m_to1 m_to2 m_now m_sav m_ahe m_bef m_hst m_noi m_own m_inp a1 1 e8) lk_RX5_100 rfl rfl hRMX5_of hP hK hN 0 rfl rfl rfl hl.1 rfl (Nat.le_of_ble_eq_true rfl) ⟨Nat.le_of_ble_eq_true rfl, Nat.le_of_ble_eq_true rfl⟩ (dg ddX5_buskerOf 35 rfl) ?_
        cases hf
        exact e_wi CX hr hlk rfl hP hD hS (dg ddX5_buskerOf 36 rfl)
      have hf := it_f h7 hf
      by_cases h10 : a2 = 2
      · have hf := it_t h10 hf
        refine lv_tableIn (off := 51) (tgt := 98) hx hb (dg ddX5_buskerOf 26 rfl) (by rw [h10]; decide) (by rw [h10]; decide) (by rw [h10]; rfl) (by decide) ?_
        refine lv_aload_n hx hb (dg ddX5_buskerOf 37 rfl) rfl (lv_at hl 0 rfl) ?_
        refine lv_iload_n hx hb (dg ddX5_buskerOf 38 rfl) rfl (lv_at hl 1 rfl) ?_
        refine lv_iconst (v := 4) hx hb (dg ddX5_buskerOf 39 rfl) (by decide) ?_
        obtain ⟨r12, e11, hf⟩ := ob_some hf
        refine cro_vi CX hml (As := [.int a1, .int 4]) (rest := []) (c_X5_of l D cy q r2.2 m_kept m_rea m_det m_isv m_iit m_len m_at m_err m_wro m_cmd m_to1 m_to2 m_now m_sav m_ahe m_bef m_hst m_noi m_own m_inp a1 4 e11) lk_RX5_100 rfl rfl hRMX5_of hP hK hN 0 rfl rfl rfl hl.1 rfl (Nat.le_of_ble_eq_true rfl) ⟨Nat.le_of_ble_eq_true rfl, Nat.le_of_ble_eq_true rfl⟩ (dg ddX5_buskerOf 40 rfl) ?_
        cases hf
        exact e_wi CX hr hlk rfl hP hD hS (dg ddX5_buskerOf 41 rfl)
      have hf := it_f h10 hf
      by_cases h13 : a2 = 3
      · have hf := it_t h13 hf
        refine lv_tableIn (off := 58) (tgt := 105) hx hb (dg ddX5_buskerOf 26 rfl) (by rw [h13]; decide) (by rw [h13]; decide) (by rw [h13]; rfl) (by decide) ?_
        refine lv_aload_n hx hb (dg ddX5_buskerOf 42 rfl) rfl (lv_at hl 0 rfl) ?_
        refine lv_iload_n hx hb (dg ddX5_buskerOf 43 rfl) rfl (lv_at hl 1 rfl) ?_
        obtain ⟨r15, e14, hf⟩ := ob_some hf
        refine cro_vi CX hml (As := [.int a1]) (rest := []) (c_X5_placeInLine l D cy q r2.2 m_kept m_rea m_det m_isv m_iit m_len m_at m_err m_wro m_cmd m_to1 m_to2 m_now m_sav m_ahe m_bef m_hst m_noi m_own m_inp a1 e14) lk_RX5_117 rfl rfl hRMX5_placeInLine hP hK hN 0 rfl rfl rfl hl.1 rfl (Nat.le_of_ble_eq_true rfl) ⟨Nat.le_of_ble_eq_true rfl, Nat.le_of_ble_eq_true rfl⟩ (dg ddX5_buskerOf 44 rfl) ?_
        cases hf
        exact e_wi CX hr hlk rfl hP hD hS (dg ddX5_buskerOf 45 rfl)
      have hf := it_f h13 hf
      by_cases h16 : a2 = 4
      · have hf := it_t h16 hf
        refine lv_tableIn (off := 64) (tgt := 111) hx hb (dg ddX5_buskerOf 26 rfl) (by rw [h16]; decide) (by rw [h16]; decide) (by rw [h16]; rfl) (by decide) ?_
        refine lv_aload_n hx hb (dg ddX5_buskerOf 46 rfl) rfl (lv_at hl 0 rfl) ?_
        refine lv_iload_n hx hb (dg ddX5_buskerOf 47 rfl) rfl (lv_at hl 1 rfl) ?_
        refine lv_iconst (v := 5) hx hb (dg ddX5_buskerOf 48 rfl) (by decide) ?_
        obtain ⟨r18, e17, hf⟩ := ob_some hf
        refine cro_vi CX hml (As := [.int a1, .int 5]) (rest := []) (c_X5_of l D cy q r2.2 m_kept m_rea m_det m_isv m_iit m_len m_at m_err m_wro m_cmd m_to1 m_to2 m_now m_sav m_ahe m_bef m_hst m_noi m_own m_inp a1 5 e17) lk_RX5_100 rfl rfl hRMX5_of hP hK hN 0 rfl rfl rfl hl.1 rfl (Nat.le_of_ble_eq_true rfl) ⟨Nat.le_of_ble_eq_true rfl, Nat.le_of_ble_eq_true rfl⟩ (dg ddX5_buskerOf 49 rfl) ?_
        cases hf
        exact e_wi CX hr hlk rfl hP hD hS (dg ddX5_buskerOf 50 rfl)
      have hf := it_f h16 hf
      by_cases h19 : a2 = 5
      · have hf := it_t h19 hf
        refine lv_tableIn (off := 71) (tgt := 118) hx hb (dg ddX5_buskerOf 26 rfl) (by rw [h19]; decide) (by rw [h19]; decide) (by rw [h19]; rfl) (by decide) ?_
        refine lv_aload_n hx hb (dg ddX5_buskerOf 51 rfl) rfl (lv_at hl 0 rfl) ?_
        refine lv_iload_n hx hb (dg ddX5_buskerOf 52 rfl) rfl (lv_at hl 1 rfl) ?_
        refine lv_bipush (v := 6) hx hb (dg ddX5_buskerOf 53 rfl) (by decide) ?_
        obtain ⟨r21, e20, hf⟩ := ob_some hf
        refine cro_vi CX hml (As := [.int a1, .int 6]) (rest := []) (c_X5_of l D cy q r2.2 m_kept m_rea m_det m_isv m_iit m_len m_at m_err m_wro m_cmd m_to1 m_to2 m_now m_sav m_ahe m_bef m_hst m_noi m_own m_inp a1 6 e20) lk_RX5_100 rfl rfl hRMX5_of hP hK hN 0 rfl rfl rfl hl.1 rfl (Nat.le_of_ble_eq_true rfl) ⟨Nat.le_of_ble_eq_true rfl, Nat.le_of_ble_eq_true rfl⟩ (dg ddX5_buskerOf 54 rfl) ?_
        cases hf
        exact e_wi CX hr hlk rfl hP hD hS (dg ddX5_buskerOf 55 rfl)
      have hf := it_f h19 hf
      refine lv_tabD (off := 79) (tgt := 126) hx hb (dg ddX5_buskerOf 26 rfl) (by have g0 : (a2).toInt ≠ 0 := ne_ti h4 (by decide); have g1 : (a2).toInt ≠ 1 := ne_ti h7 (by decide); have g2 : (a2).toInt ≠ 2 := ne_ti h10 (by decide); have g3 : (a2).toInt ≠ 3 := ne_ti h13 (by decide); have g4 : (a2).toInt ≠ 4 := ne_ti h16 (by decide); have g5 : (a2).toInt ≠ 5 := ne_ti h19 (by decide); exact Or.inl ⟨by omega, rfl⟩) (by decide) ?_
      refine lv_aload_n hx hb (dg ddX5_buskerOf 56 rfl) rfl (lv_at hl 0 rfl) ?_
      refine lv_iload_n hx hb (dg ddX5_buskerOf 57 rfl) rfl (lv_at hl 1 rfl) ?_
      refine lv_bipush (v := 7) hx hb (dg ddX5_buskerOf 58 rfl) (by decide) ?_
      obtain ⟨r23, e22, hf⟩ := ob_some hf
      refine cro_vi CX hml (As := [.int a1, .int 7]) (rest := []) (c_X5_of l D cy q r2.2 m_kept m_rea m_det m_isv m_iit m_len m_at m_err m_wro m_cmd m_to1 m_to2 m_now m_sav m_ahe m_bef m_hst m_noi m_own m_inp a1 7 e22) lk_RX5_100 rfl rfl hRMX5_of hP hK hN 0 rfl rfl rfl hl.1 rfl (Nat.le_of_ble_eq_true rfl) ⟨Nat.le_of_ble_eq_true rfl, Nat.le_of_ble_eq_true rfl⟩ (dg ddX5_buskerOf 59 rfl) ?_
      cases hf
      exact e_wi CX hr hlk rfl hP hD hS (dg ddX5_buskerOf 60 rfl)
    · have hf := it_f h3 hf
      refine lv_iconst (v := 0) hx hb (dg ddX5_buskerOf 23 rfl) (by decide) ?_
      cases hf
      exact e_wi CX hr hlk rfl hP hD hS (dg ddX5_buskerOf 24 rfl)
  have K15 : ∀ (t0 : Int32) (t1 : Int32) (m_thr : Int32) (H : Heap) (locs : List Loc) (hP : va_P D vwCl (wX5 q cy m_thr m_kept m_rea m_det m_isv m_iit m_len m_at m_err m_wro m_cmd m_to1 m_to2 m_now m_sav m_ahe m_bef m_hst m_noi m_own m_inp) H) (hD : va_D A (wX5 q cy m_thr m_kept m_rea m_det m_isv m_iit m_len m_at m_err m_wro m_cmd m_to1 m_to2 m_now m_sav m_ahe m_bef m_hst m_noi m_own m_inp)) (hS : va_S A s.heap H locs) (ls : Array Slot) (hl : lv_has ls 3 [(0, .ref (q 0)), (1, .int a1), (2, .int a2)]) (hf : f_X5_buskerOf_c15 m_now a1 a2 t0 t1 m_thr = some res), W p l e ⟨3, 0, 0, 55⟩ s m args below meth c H locs 0 0 (MQ below (qI D (wX5 q cy res.2 m_kept m_rea m_det m_isv m_iit m_len m_at m_err m_wro m_cmd m_to1 m_to2 m_now m_sav m_ahe m_bef m_hst m_noi m_own m_inp) res.1 A) args s 0 0 A) (F0 m 15 ls [.int t0, .int t1, .ref (q 0)]) := by
    intro t0 t1 m_thr H locs hP hD hS ls hl hf
    obtain ⟨r2, e1, hf⟩ := ob_some hf
    refine crw_vi CX hml (As := [.int t1, .int t0]) (rest := []) (c_X5_fails l D cy q m_thr m_kept m_rea m_det m_isv m_iit m_len m_at m_err m_wro m_cmd m_to1 m_to2 m_now m_sav m_ahe m_bef m_hst m_noi m_own m_inp t1 t0 _ e1) lk_RX5_81 rfl rfl hRMX5_fails hP hD hS hA hK hN 0 rfl rfl rfl hl.1 rfl (Nat.le_of_ble_eq_true rfl) ⟨Nat.le_of_ble_eq_true rfl, Nat.le_of_ble_eq_true rfl⟩ (dg ddX5_buskerOf 9 rfl) (fun H locs hP hD hS => ?_)
    refine lv_if_ne (tgt := 44) hx hb (dg ddX5_buskerOf 10 rfl) (by decide) (fun h3 => ?_) (fun h3 => ?_)
    · have hf := it_f h3 hf
      refine lv_iconst (v := 0) hx hb (dg ddX5_buskerOf 23 rfl) (by decide) ?_
      cases hf
      exact e_wi CX hr hlk rfl hP hD hS (dg ddX5_buskerOf 24 rfl)
    · have hf := it_t h3 hf
      refine lv_aload_n hx hb (dg ddX5_buskerOf 11 rfl) rfl (lv_at hl 0 rfl) ?_
      refine lv_iconst (v := 2) hx hb (dg ddX5_buskerOf 12 rfl) (by decide) ?_
      refine lv_iload_n hx hb (dg ddX5_buskerOf 13 rfl) rfl (lv_at hl 2 rfl) ?_
      refine lv_iconst (v := 0) hx hb (dg ddX5_buskerOf 14 rfl) (by decide) ?_
      refine lv_bipush (v := 6) hx hb (dg ddX5_buskerOf 15 rfl) (by decide) ?_
      obtain ⟨r5, e4, hf⟩ := ob_some hf
      refine cro_si CX hml (As := [.int a2, .int 0, .int 6]) (rest := [.int 2, .ref (q 0)]) (c_X5_isBetween l D cy a2 0 6 e4) lk_RX5_77 rfl rfl hRMX5_isBetween vaP_nil hK hN rfl hl.1 rfl (Nat.le_of_ble_eq_true rfl) ⟨Nat.le_of_ble_eq_true rfl, Nat.le_of_ble_eq_true rfl⟩ (dg ddX5_buskerOf 16 rfl) ?_
      refine lv_if_ne (tgt := 37) hx hb (dg ddX5_buskerOf 17 rfl) (by decide) (fun h6 => ?_) (fun h6 => ?_)
      · have hf := it_f h6 hf
        refine lv_iconst (v := 0) hx hb (dg ddX5_buskerOf 20 rfl) (by decide) ?_
        exact K38  0 2 r2.2 _ _ hP hD hS _ (lv_sub hl [0, 1, 2] rfl) hf
      · have hf := it_t h6 hf
        refine lv_iconst (v := 1) hx hb (dg ddX5_buskerOf 18 rfl) (by decide) ?_
        refine lv_goto (tgt := 38) hx hb (dg ddX5_buskerOf 19 rfl) (by decide) ?_
        exact K38  1 2 r2.2 _ _ hP hD hS _ (lv_sub hl [0, 1, 2] rfl) hf
  refine lv_aload_n hx hb (dg ddX5_buskerOf 0 rfl) rfl (lv_at hl 0 rfl) ?_
  refine lv_iconst (v := 1) hx hb (dg ddX5_buskerOf 1 rfl) (by decide) ?_
  refine lv_aload_n hx hb (dg ddX5_buskerOf 2 rfl) rfl (lv_at hl 0 rfl) ?_
  refine lv_iload_n hx hb (dg ddX5_buskerOf 3 rfl) rfl (lv_at hl 1 rfl) ?_
  obtain ⟨r2, e1, hf⟩ := ob_some hf
  refine cro_vi CX hml (As := [.int a1]) (rest := [.int 1, .ref (q 0)]) (c_X5_isBusker l D cy q m_thr m_kept m_rea m_det m_isv m_iit m_len m_at m_err m_wro m_cmd m_to1 m_to2 m_now m_sav m_ahe m_bef m_hst m_noi m_own m_inp a1 e1) lk_RX5_114 rfl rfl hRMX5_isBusker hP hK hN 0 rfl rfl rfl hl.1 rfl (Nat.le_of_ble_eq_true rfl) ⟨Nat.le_of_ble_eq_true rfl, Nat.le_of_ble_eq_true rfl⟩ (dg ddX5_buskerOf 4 rfl) ?_
  refine lv_if_ne (tgt := 14) hx hb (dg ddX5_buskerOf 5 rfl) (by decide) (fun h3 => ?_) (fun h3 => ?_)
  · have hf := it_f h3 hf
    refine lv_iconst (v := 0) hx hb (dg ddX5_buskerOf 8 rfl) (by decide) ?_
    exact K15  0 1 m_thr _ _ hP hD hS _ (lv_sub hl [0, 1, 2] rfl) hf
  · have hf := it_t h3 hf
    refine lv_iconst (v := 1) hx hb (dg ddX5_buskerOf 6 rfl) (by decide) ?_
    refine lv_goto (tgt := 15) hx hb (dg ddX5_buskerOf 7 rfl) (by decide) ?_
    exact K15  1 1 m_thr _ _ hP hD hS _ (lv_sub hl [0, 1, 2] rfl) hf
def f_X5_hat_c15  (m_now : Nat → Int32) (a1 : Int32) (t0 : Int32) (t1 : Int32) (m_thr : Int32) : Option (UInt32 × Int32) := ob (f_X5_fails m_thr t1 t0) fun r2 => (if r2.1 = 0 then (ob (f_X5_floatOf m_now a1 2) fun r5 => (some (r5, r2.2))) else (some (FP.fconst0, r2.2)))
def f_X5_hat (m_thr : Int32) (m_now : Nat → Int32) (a1 : Int32) : Option (UInt32 × Int32) := ob (f_X5_isBusker m_now a1) fun r2 => (if r2 = 0 then (f_X5_hat_c15 m_now a1 1 1 m_thr) else (f_X5_hat_c15 m_now a1 0 1 m_thr))
set_option maxHeartbeats 4000000 in
set_option maxRecDepth 100000 in
theorem c_X5_hat (l : Launch) (D : va_G) (cy : Nat → ClassId) (q : Nat → Nat) (m_thr : Int32) (m_kept : Int32) (m_rea : Int32) (m_det : Int32) (m_isv : Int32) (m_iit : Int32) (m_len : Int32) (m_at : Int32) (m_err : Int32) (m_wro : Int32) (m_cmd : Int32) (m_to1 : Int32) (m_to2 : Int32) (m_now : Nat → Int32) (m_sav : Nat → Int32) (m_ahe : Nat → Int32) (m_bef : Nat → Int32) (m_hst : Nat → Nat → Int32) (m_noi : Nat → UInt32) (m_own : Nat → UInt32) (m_inp : Nat → Int32) (a1 : Int32) (sz : Nat) {res : UInt32 × Int32} (hf : f_X5_hat m_thr m_now a1 = some res) : Met l yX5_hat (.code yX5_hat cX5_hat 2 (some .float) :: lw_all) { frames := 3, cells := 0, slots := 0, locals := 62 } (va_Pc [.ref (q 0), .int a1] (sW D cy (wX5 q cy m_thr m_kept m_rea m_det m_isv m_iit m_len m_at m_err m_wro m_cmd m_to1 m_to2 m_now m_sav m_ahe m_bef m_hst m_noi m_own m_inp) sz)) (qF D (wX5 q cy res.2 m_kept m_rea m_det m_isv m_iit m_len m_at m_err m_wro m_cmd m_to1 m_to2 m_now m_sav m_ahe m_bef m_hst m_noi m_own m_inp) res.1 (va_A (wX5 q cy m_thr m_kept m_rea m_det m_isv m_iit m_len m_at m_err m_wro m_cmd m_to1 m_to2 m_now m_sav m_ahe m_bef m_hst m_noi m_own m_inp) sz)) 0 0 (va_A (wX5 q cy m_thr m_kept m_rea m_det m_isv m_iit m_len m_at m_err m_wro m_cmd m_to1 m_to2 m_now m_sav m_ahe m_bef m_hst m_noi m_own m_inp) sz) := by
  refine mk_rw (Qc := qF D (wX5 q cy res.2 m_kept m_rea m_det m_isv m_iit m_len m_at m_err m_wro m_cmd m_to1 m_to2 m_now m_sav m_ahe m_bef m_hst m_noi m_own m_inp) res.1) (Rc := RX5) (by decide +kernel) rfl (Nat.le_of_ble_eq_true rfl) ?_
  intro p e s m args below meth c ls A CX hml hr hlk hK hN hP hD hS hA hl
  have hx := CX.1
  have hb := CX.2.1
  have hRMX5_fails : (⟨1, 0, 0, 12⟩ : Room).frames + 1 ≤ (⟨3, 0, 0, 62⟩ : Room).frames ∧ 8 + (3 + 11) + (⟨1, 0, 0, 12⟩ : Room).locals ≤ (⟨3, 0, 0, 62⟩ : Room).locals := ⟨Nat.le_of_ble_eq_true rfl, Nat.le_of_ble_eq_true rfl⟩
  have hRMX5_floatOf : (⟨2, 0, 0, 40⟩ : Room).frames + 1 ≤ (⟨3, 0, 0, 62⟩ : Room).frames ∧ 8 + (3 + 11) + (⟨2, 0, 0, 40⟩ : Room).locals ≤ (⟨3, 0, 0, 62⟩ : Room).locals := ⟨Nat.le_of_ble_eq_true rfl, Nat.le_of_ble_eq_true rfl⟩
  have hRMX5_isBusker : (⟨2, 0, 0, 34⟩ : Room).frames + 1 ≤ (⟨3, 0, 0, 62⟩ : Room).frames ∧ 8 + (2 + 11) + (⟨2, 0, 0, 34⟩ : Room).locals ≤ (⟨3, 0, 0, 62⟩ : Room).locals := ⟨Nat.le_of_ble_eq_true rfl, Nat.le_of_ble_eq_true rfl⟩
  have hl0 := hl
  have K15 : ∀ (t0 : Int32) (t1 : Int32) (m_thr : Int32) (H : Heap) (locs : List Loc) (hP : va_P D vwCl (wX5 q cy m_thr m_kept m_rea m_det m_isv m_iit m_len m_at m_err m_wro m_cmd m_to1 m_to2 m_now m_sav m_ahe m_bef m_hst m_noi m_own m_inp) H) (hD : va_D A (wX5 q cy m_thr m_kept m_rea m_det m_isv m_iit m_len m_at m_err m_wro m_cmd m_to1 m_to2 m_now m_sav m_ahe m_bef m_hst m_noi m_own m_inp)) (hS : va_S A s.heap H locs) (ls : Array Slot) (hl : lv_has ls 2 [(0, .ref (q 0)), (1, .int a1)]) (hf : f_X5_hat_c15 m_now a1 t0 t1 m_thr = some res), W p l e ⟨3, 0, 0, 62⟩ s m args below meth c H locs 0 0 (MQ below (qF D (wX5 q cy res.2 m_kept m_rea m_det m_isv m_iit m_len m_at m_err m_wro m_cmd m_to1 m_to2 m_now m_sav m_ahe m_bef m_hst m_noi m_own m_inp) res.1 A) args s 0 0 A) (F0 m 15 ls [.int t0, .int t1, .ref (q 0)]) := by
    intro t0 t1 m_thr H locs hP hD hS ls hl hf
    obtain ⟨r2, e1, hf⟩ := ob_some hf
    refine crw_vi CX hml (As := [.int t1, .int t0]) (rest := []) (c_X5_fails l D cy q m_thr m_kept m_rea m_det m_isv m_iit m_len m_at m_err m_wro m_cmd m_to1 m_to2 m_now m_sav m_ahe m_bef m_hst m_noi m_own m_inp t1 t0 _ e1) lk_RX5_81 rfl rfl hRMX5_fails hP hD hS hA hK hN 0 rfl rfl rfl hl.1 rfl (Nat.le_of_ble_eq_true rfl) ⟨Nat.le_of_ble_eq_true rfl, Nat.le_of_ble_eq_true rfl⟩ (dg ddX5_hat 9 rfl) (fun H locs hP hD hS => ?_)
    refine lv_if_eq (tgt := 25) hx hb (dg ddX5_hat 10 rfl) (by decide) (fun h3 => ?_) (fun h3 => ?_)
    · have hf := it_t h3 hf
      refine lv_aload_n hx hb (dg ddX5_hat 13 rfl) rfl (lv_at hl 0 rfl) ?_
      refine lv_iload_n hx hb (dg ddX5_hat 14 rfl) rfl (lv_at hl 1 rfl) ?_
      refine lv_iconst (v := 2) hx hb (dg ddX5_hat 15 rfl) (by decide) ?_
      obtain ⟨r5, e4, hf⟩ := ob_some hf
      refine cro_vf CX hml (As := [.int a1, .int 2]) (rest := []) (c_X5_floatOf l D cy q r2.2 m_kept m_rea m_det m_isv m_iit m_len m_at m_err m_wro m_cmd m_to1 m_to2 m_now m_sav m_ahe m_bef m_hst m_noi m_own m_inp a1 2 e4) lk_RX5_121 rfl rfl hRMX5_floatOf hP hK hN 0 rfl rfl rfl hl.1 rfl (Nat.le_of_ble_eq_true rfl) ⟨Nat.le_of_ble_eq_true rfl, Nat.le_of_ble_eq_true rfl⟩ (dg ddX5_hat 16 rfl) ?_
      cases hf
      exact e_wf CX hr hlk rfl hP hD hS (dg ddX5_hat 17 rfl)
    · have hf := it_f h3 hf
      refine lv_fconst0 hx hb (dg ddX5_hat 11 rfl) ?_
      refine lv_goto (tgt := 31) hx hb (dg ddX5_hat 12 rfl) (by decide) ?_
      cases hf
      exact e_wf CX hr hlk rfl hP hD hS (dg ddX5_hat 17 rfl)
  refine lv_aload_n hx hb (dg ddX5_hat 0 rfl) rfl (lv_at hl 0 rfl) ?_
  refine lv_iconst (v := 1) hx hb (dg ddX5_hat 1 rfl) (by decide) ?_
  refine lv_aload_n hx hb (dg ddX5_hat 2 rfl) rfl (lv_at hl 0 rfl) ?_
  refine lv_iload_n hx hb (dg ddX5_hat 3 rfl) rfl (lv_at hl 1 rfl) ?_
  obtain ⟨r2, e1, hf⟩ := ob_some hf
  refine cro_vi CX hml (As := [.int a1]) (rest := [.int 1, .ref (q 0)]) (c_X5_isBusker l D cy q m_thr m_kept m_rea m_det m_isv m_iit m_len m_at m_err m_wro m_cmd m_to1 m_to2 m_now m_sav m_ahe m_bef m_hst m_noi m_own m_inp a1 e1) lk_RX5_114 rfl rfl hRMX5_isBusker hP hK hN 0 rfl rfl rfl hl.1 rfl (Nat.le_of_ble_eq_true rfl) ⟨Nat.le_of_ble_eq_true rfl, Nat.le_of_ble_eq_true rfl⟩ (dg ddX5_hat 4 rfl) ?_
  refine lv_if_ne (tgt := 14) hx hb (dg ddX5_hat 5 rfl) (by decide) (fun h3 => ?_) (fun h3 => ?_)
  · have hf := it_f h3 hf
    refine lv_iconst (v := 0) hx hb (dg ddX5_hat 8 rfl) (by decide) ?_
    exact K15  0 1 m_thr _ _ hP hD hS _ (lv_sub hl [0, 1] rfl) hf
  · have hf := it_t h3 hf
    refine lv_iconst (v := 1) hx hb (dg ddX5_hat 6 rfl) (by decide) ?_
    refine lv_goto (tgt := 15) hx hb (dg ddX5_hat 7 rfl) (by decide) ?_
    exact K15  1 1 m_thr _ _ hP hD hS _ (lv_sub hl [0, 1] rfl) hf
def f_X5_wear_c15  (m_now : Nat → Int32) (a1 : Int32) (t0 : Int32) (t1 : Int32) (m_thr : Int32) : Option (Int32 × Int32) := ob (f_X5_fails m_thr t1 t0) fun r2 => (if r2.1 = 0 then (ob (f_X5_of m_now a1 3) fun r5 => (some (r5, r2.2))) else (some (0, r2.2)))
def f_X5_wear (m_thr : Int32) (m_now : Nat → Int32) (a1 : Int32) : Option (Int32 × Int32) := ob (f_X5_isBusker m_now a1) fun r2 => (if r2 = 0 then (f_X5_wear_c15 m_now a1 1 1 m_thr) else (f_X5_wear_c15 m_now a1 0 1 m_thr))
set_option maxHeartbeats 4000000 in
set_option maxRecDepth 100000 in
theorem c_X5_wear (l : Launch) (D : va_G) (cy : Nat → ClassId) (q : Nat → Nat) (m_thr : Int32) (m_kept : Int32) (m_rea : Int32) (m_det : Int32) (m_isv : Int32) (m_iit : Int32) (m_len : Int32) (m_at : Int32) (m_err : Int32) (m_wro : Int32) (m_cmd : Int32) (m_to1 : Int32) (m_to2 : Int32) (m_now : Nat → Int32) (m_sav : Nat → Int32) (m_ahe : Nat → Int32) (m_bef : Nat → Int32) (m_hst : Nat → Nat → Int32) (m_noi : Nat → UInt32) (m_own : Nat → UInt32) (m_inp : Nat → Int32) (a1 : Int32) (sz : Nat) {res : Int32 × Int32} (hf : f_X5_wear m_thr m_now a1 = some res) : Met l yX5_wear (.code yX5_wear cX5_wear 2 (some .int) :: lw_all) { frames := 3, cells := 0, slots := 0, locals := 55 } (va_Pc [.ref (q 0), .int a1] (sW D cy (wX5 q cy m_thr m_kept m_rea m_det m_isv m_iit m_len m_at m_err m_wro m_cmd m_to1 m_to2 m_now m_sav m_ahe m_bef m_hst m_noi m_own m_inp) sz)) (qI D (wX5 q cy res.2 m_kept m_rea m_det m_isv m_iit m_len m_at m_err m_wro m_cmd m_to1 m_to2 m_now m_sav m_ahe m_bef m_hst m_noi m_own m_inp) res.1 (va_A (wX5 q cy m_thr m_kept m_rea m_det m_isv m_iit m_len m_at m_err m_wro m_cmd m_to1 m_to2 m_now m_sav m_ahe m_bef m_hst m_noi m_own m_inp) sz)) 0 0 (va_A (wX5 q cy m_thr m_kept m_rea m_det m_isv m_iit m_len m_at m_err m_wro m_cmd m_to1 m_to2 m_now m_sav m_ahe m_bef m_hst m_noi m_own m_inp) sz) := by
  refine mk_rw (Qc := qI D (wX5 q cy res.2 m_kept m_rea m_det m_isv m_iit m_len m_at m_err m_wro m_cmd m_to1 m_to2 m_now m_sav m_ahe m_bef m_hst m_noi m_own m_inp) res.1) (Rc := RX5) (by decide +kernel) rfl (Nat.le_of_ble_eq_true rfl) ?_
  intro p e s m args below meth c ls A CX hml hr hlk hK hN hP hD hS hA hl
  have hx := CX.1
  have hb := CX.2.1
  have hRMX5_fails : (⟨1, 0, 0, 12⟩ : Room).frames + 1 ≤ (⟨3, 0, 0, 55⟩ : Room).frames ∧ 8 + (3 + 11) + (⟨1, 0, 0, 12⟩ : Room).locals ≤ (⟨3, 0, 0, 55⟩ : Room).locals := ⟨Nat.le_of_ble_eq_true rfl, Nat.le_of_ble_eq_true rfl⟩
  have hRMX5_isBusker : (⟨2, 0, 0, 34⟩ : Room).frames + 1 ≤ (⟨3, 0, 0, 55⟩ : Room).frames ∧ 8 + (2 + 11) + (⟨2, 0, 0, 34⟩ : Room).locals ≤ (⟨3, 0, 0, 55⟩ : Room).locals := ⟨Nat.le_of_ble_eq_true rfl, Nat.le_of_ble_eq_true rfl⟩
  have hRMX5_of : (⟨1, 0, 0, 12⟩ : Room).frames + 1 ≤ (⟨3, 0, 0, 55⟩ : Room).frames ∧ 8 + (3 + 11) + (⟨1, 0, 0, 12⟩ : Room).locals ≤ (⟨3, 0, 0, 55⟩ : Room).locals := ⟨Nat.le_of_ble_eq_true rfl, Nat.le_of_ble_eq_true rfl⟩
  have hl0 := hl
  have K15 : ∀ (t0 : Int32) (t1 : Int32) (m_thr : Int32) (H : Heap) (locs : List Loc) (hP : va_P D vwCl (wX5 q cy m_thr m_kept m_rea m_det m_isv m_iit m_len m_at m_err m_wro m_cmd m_to1 m_to2 m_now m_sav m_ahe m_bef m_hst m_noi m_own m_inp) H) (hD : va_D A (wX5 q cy m_thr m_kept m_rea m_det m_isv m_iit m_len m_at m_err m_wro m_cmd m_to1 m_to2 m_now m_sav m_ahe m_bef m_hst m_noi m_own m_inp)) (hS : va_S A s.heap H locs) (ls : Array Slot) (hl : lv_has ls 2 [(0, .ref (q 0)), (1, .int a1)]) (hf : f_X5_wear_c15 m_now a1 t0 t1 m_thr = some res), W p l e ⟨3, 0, 0, 55⟩ s m args below meth c H locs 0 0 (MQ below (qI D (wX5 q cy res.2 m_kept m_rea m_det m_isv m_iit m_len m_at m_err m_wro m_cmd m_to1 m_to2 m_now m_sav m_ahe m_bef m_hst m_noi m_own m_inp) res.1 A) args s 0 0 A) (F0 m 15 ls [.int t0, .int t1, .ref (q 0)]) := by
    intro t0 t1 m_thr H locs hP hD hS ls hl hf
    obtain ⟨r2, e1, hf⟩ := ob_some hf
    refine crw_vi CX hml (As := [.int t1, .int t0]) (rest := []) (c_X5_fails l D cy q m_thr m_kept m_rea m_det m_isv m_iit m_len m_at m_err m_wro m_cmd m_to1 m_to2 m_now m_sav m_ahe m_bef m_hst m_noi m_own m_inp t1 t0 _ e1) lk_RX5_81 rfl rfl hRMX5_fails hP hD hS hA hK hN 0 rfl rfl rfl hl.1 rfl (Nat.le_of_ble_eq_true rfl) ⟨Nat.le_of_ble_eq_true rfl, Nat.le_of_ble_eq_true rfl⟩ (dg ddX5_wear 9 rfl) (fun H locs hP hD hS => ?_)
    refine lv_if_eq (tgt := 25) hx hb (dg ddX5_wear 10 rfl) (by decide) (fun h3 => ?_) (fun h3 => ?_)
    · have hf := it_t h3 hf
      refine lv_aload_n hx hb (dg ddX5_wear 13 rfl) rfl (lv_at hl 0 rfl) ?_
      refine lv_iload_n hx hb (dg ddX5_wear 14 rfl) rfl (lv_at hl 1 rfl) ?_
      refine lv_iconst (v := 3) hx hb (dg ddX5_wear 15 rfl) (by decide) ?_
      obtain ⟨r5, e4, hf⟩ := ob_some hf
      refine cro_vi CX hml (As := [.int a1, .int 3]) (rest := []) (c_X5_of l D cy q r2.2 m_kept m_rea m_det m_isv m_iit m_len m_at m_err m_wro m_cmd m_to1 m_to2 m_now m_sav m_ahe m_bef m_hst m_noi m_own m_inp a1 3 e4) lk_RX5_100 rfl rfl hRMX5_of hP hK hN 0 rfl rfl rfl hl.1 rfl (Nat.le_of_ble_eq_true rfl) ⟨Nat.le_of_ble_eq_true rfl, Nat.le_of_ble_eq_true rfl⟩ (dg ddX5_wear 16 rfl) ?_
      cases hf
      exact e_wi CX hr hlk rfl hP hD hS (dg ddX5_wear 17 rfl)
    · have hf := it_f h3 hf
      refine lv_iconst (v := 0) hx hb (dg ddX5_wear 11 rfl) (by decide) ?_
      refine lv_goto (tgt := 31) hx hb (dg ddX5_wear 12 rfl) (by decide) ?_
      cases hf
      exact e_wi CX hr hlk rfl hP hD hS (dg ddX5_wear 17 rfl)
  refine lv_aload_n hx hb (dg ddX5_wear 0 rfl) rfl (lv_at hl 0 rfl) ?_
  refine lv_iconst (v := 1) hx hb (dg ddX5_wear 1 rfl) (by decide) ?_
  refine lv_aload_n hx hb (dg ddX5_wear 2 rfl) rfl (lv_at hl 0 rfl) ?_
  refine lv_iload_n hx hb (dg ddX5_wear 3 rfl) rfl (lv_at hl 1 rfl) ?_
  obtain ⟨r2, e1, hf⟩ := ob_some hf
  refine cro_vi CX hml (As := [.int a1]) (rest := [.int 1, .ref (q 0)]) (c_X5_isBusker l D cy q m_thr m_kept m_rea m_det m_isv m_iit m_len m_at m_err m_wro m_cmd m_to1 m_to2 m_now m_sav m_ahe m_bef m_hst m_noi m_own m_inp a1 e1) lk_RX5_114 rfl rfl hRMX5_isBusker hP hK hN 0 rfl rfl rfl hl.1 rfl (Nat.le_of_ble_eq_true rfl) ⟨Nat.le_of_ble_eq_true rfl, Nat.le_of_ble_eq_true rfl⟩ (dg ddX5_wear 4 rfl) ?_
  refine lv_if_ne (tgt := 14) hx hb (dg ddX5_wear 5 rfl) (by decide) (fun h3 => ?_) (fun h3 => ?_)
  · have hf := it_f h3 hf
    refine lv_iconst (v := 0) hx hb (dg ddX5_wear 8 rfl) (by decide) ?_
    exact K15  0 1 m_thr _ _ hP hD hS _ (lv_sub hl [0, 1] rfl) hf
  · have hf := it_t h3 hf
    refine lv_iconst (v := 1) hx hb (dg ddX5_wear 6 rfl) (by decide) ?_
    refine lv_goto (tgt := 15) hx hb (dg ddX5_wear 7 rfl) (by decide) ?_
    exact K15  1 1 m_thr _ _ hP hD hS _ (lv_sub hl [0, 1] rfl) hf
def f_X5_isSnapped (m_now : Nat → Int32) (a1 : Int32) : Option (Int32) := ob (f_X5_floatOf m_now a1 3) fun r2 => (if (Op.cmpValue (FP.fcmp r2 FP.fconst1) .l) < 0 then (some 0) else (some 1))
set_option maxHeartbeats 4000000 in
set_option maxRecDepth 100000 in
theorem c_X5_isSnapped (l : Launch) (D : va_G) (cy : Nat → ClassId) (q : Nat → Nat) (m_thr : Int32) (m_kept : Int32) (m_rea : Int32) (m_det : Int32) (m_isv : Int32) (m_iit : Int32) (m_len : Int32) (m_at : Int32) (m_err : Int32) (m_wro : Int32) (m_cmd : Int32) (m_to1 : Int32) (m_to2 : Int32) (m_now : Nat → Int32) (m_sav : Nat → Int32) (m_ahe : Nat → Int32) (m_bef : Nat → Int32) (m_hst : Nat → Nat → Int32) (m_noi : Nat → UInt32) (m_own : Nat → UInt32) (m_inp : Nat → Int32) (a1 : Int32) {res : Int32} (hf : f_X5_isSnapped m_now a1 = some res) : Met l yX5_isSnapped (.code yX5_isSnapped cX5_isSnapped 2 (some .boolean) :: lw_all) { frames := 3, cells := 0, slots := 0, locals := 62 } (va_Pc [.ref (q 0), .int a1] (sR D cy (wX5 q cy m_thr m_kept m_rea m_det m_isv m_iit m_len m_at m_err m_wro m_cmd m_to1 m_to2 m_now m_sav m_ahe m_bef m_hst m_noi m_own m_inp))) (vp_Si (fun r => r = res)) 0 0 (fun _ => False) := by
  refine mk_ro (Rc := RX5) (by decide +kernel) rfl (Nat.le_of_ble_eq_true rfl) ?_
  intro p e s m args below meth c ls CX hml hr hlk hK hN hP hl
  have hx := CX.1
  have hb := CX.2.1
  have hRMX5_floatOf : (⟨2, 0, 0, 40⟩ : Room).frames + 1 ≤ (⟨3, 0, 0, 62⟩ : Room).frames ∧ 8 + (3 + 11) + (⟨2, 0, 0, 40⟩ : Room).locals ≤ (⟨3, 0, 0, 62⟩ : Room).locals := ⟨Nat.le_of_ble_eq_true rfl, Nat.le_of_ble_eq_true rfl⟩
  refine lv_aload_n hx hb (dg ddX5_isSnapped 0 rfl) rfl (lv_at hl 0 rfl) ?_
  refine lv_iload_n hx hb (dg ddX5_isSnapped 1 rfl) rfl (lv_at hl 1 rfl) ?_
  refine lv_iconst (v := 3) hx hb (dg ddX5_isSnapped 2 rfl) (by decide) ?_
  obtain ⟨r2, e1, hf⟩ := ob_some hf
  refine cro_vf CX hml (As := [.int a1, .int 3]) (rest := []) (c_X5_floatOf l D cy q m_thr m_kept m_rea m_det m_isv m_iit m_len m_at m_err m_wro m_cmd m_to1 m_to2 m_now m_sav m_ahe m_bef m_hst m_noi m_own m_inp a1 3 e1) lk_RX5_121 rfl rfl hRMX5_floatOf hP hK hN 0 rfl rfl rfl hl.1 rfl (Nat.le_of_ble_eq_true rfl) ⟨Nat.le_of_ble_eq_true rfl, Nat.le_of_ble_eq_true rfl⟩ (dg ddX5_isSnapped 3 rfl) ?_
  refine lv_fconst1 hx hb (dg ddX5_isSnapped 4 rfl) ?_
  refine lv_fcmp hx hb (dg ddX5_isSnapped 5 rfl) ?_
  refine lv_if_lt (tgt := 15) hx hb (dg ddX5_isSnapped 6 rfl) (by decide) (fun h3 => ?_) (fun h3 => ?_)
  · have hf := it_t h3 hf
    refine lv_iconst (v := 0) hx hb (dg ddX5_isSnapped 9 rfl) (by decide) ?_
    exact e_rz CX hr hlk (by decide) (Option.some.inj hf) (dg ddX5_isSnapped 10 rfl)
  · have hf := it_f h3 hf
    refine lv_iconst (v := 1) hx hb (dg ddX5_isSnapped 7 rfl) (by decide) ?_
    refine lv_goto (tgt := 16) hx hb (dg ddX5_isSnapped 8 rfl) (by decide) ?_
    exact e_rz CX hr hlk (by decide) (Option.some.inj hf) (dg ddX5_isSnapped 10 rfl)
def f_X5_pitchOf_c36  (m_now : Nat → Int32) (a1 : Int32) (a2 : Int32) (t0 : Int32) (t1 : Int32) (m_thr : Int32) : Option (Int32 × Int32) := ob (f_X5_fails m_thr t1 t0) fun r2 => (if r2.1 = 0 then (if a2 = 0 then (ob (f_X5_ofPitch m_now a1 3) fun r8 => (some (r8, r2.2))) else (ob (f_X5_ofPitch m_now a1 a2) fun r6 => (some (r6, r2.2)))) else (some (0, r2.2)))
def f_X5_pitchOf_c14  (m_now : Nat → Int32) (a1 : Int32) (a2 : Int32) (t0 : Int32) (t1 : Int32) (m_thr : Int32) : Option (Int32 × Int32) := ob (f_X5_fails m_thr t1 t0) fun r2 => (if r2.1 = 0 then (ob (f_X5_isBetween a2 0 2) fun r5 => (if r5 = 0 then (f_X5_pitchOf_c36 m_now a1 a2 1 2 r2.2) else (f_X5_pitchOf_c36 m_now a1 a2 0 2 r2.2))) else (some (0, r2.2)))
def f_X5_pitchOf (m_thr : Int32) (m_now : Nat → Int32) (a1 : Int32) (a2 : Int32) : Option (Int32 × Int32) := ob (f_X5_isPitch a1) fun r2 => (if r2 = 0 then (f_X5_pitchOf_c14 m_now a1 a2 1 1 m_thr) else (f_X5_pitchOf_c14 m_now a1 a2 0 1 m_thr))
set_option maxHeartbeats 4000000 in
set_option maxRecDepth 100000 in
theorem c_X5_pitchOf (l : Launch) (D : va_G) (cy : Nat → ClassId) (q : Nat → Nat) (m_thr : Int32) (m_kept : Int32) (m_rea : Int32) (m_det : Int32) (m_isv : Int32) (m_iit : Int32) (m_len : Int32) (m_at : Int32) (m_err : Int32) (m_wro : Int32) (m_cmd : Int32) (m_to1 : Int32) (m_to2 : Int32) (m_now : Nat → Int32) (m_sav : Nat → Int32) (m_ahe : Nat → Int32) (m_bef : Nat → Int32) (m_hst : Nat → Nat → Int32) (m_noi : Nat → UInt32) (m_own : Nat → UInt32) (m_inp : Nat → Int32) (a1 : Int32) (a2 : Int32) (sz : Nat) {res : Int32 × Int32} (hf : f_X5_pitchOf m_thr m_now a1 a2 = some res) : Met l yX5_pitchOf (.code yX5_pitchOf cX5_pitchOf 3 (some .int) :: lw_all) { frames := 3, cells := 0, slots := 0, locals := 54 } (va_Pc [.ref (q 0), .int a1, .int a2] (sW D cy (wX5 q cy m_thr m_kept m_rea m_det m_isv m_iit m_len m_at m_err m_wro m_cmd m_to1 m_to2 m_now m_sav m_ahe m_bef m_hst m_noi m_own m_inp) sz)) (qI D (wX5 q cy res.2 m_kept m_rea m_det m_isv m_iit m_len m_at m_err m_wro m_cmd m_to1 m_to2 m_now m_sav m_ahe m_bef m_hst m_noi m_own m_inp) res.1 (va_A (wX5 q cy m_thr m_kept m_rea m_det m_isv m_iit m_len m_at m_err m_wro m_cmd m_to1 m_to2 m_now m_sav m_ahe m_bef m_hst m_noi m_own m_inp) sz)) 0 0 (va_A (wX5 q cy m_thr m_kept m_rea m_det m_isv m_iit m_len m_at m_err m_wro m_cmd m_to1 m_to2 m_now m_sav m_ahe m_bef m_hst m_noi m_own m_inp) sz) := by
  refine mk_rw (Qc := qI D (wX5 q cy res.2 m_kept m_rea m_det m_isv m_iit m_len m_at m_err m_wro m_cmd m_to1 m_to2 m_now m_sav m_ahe m_bef m_hst m_noi m_own m_inp) res.1) (Rc := RX5) (by decide +kernel) rfl (Nat.le_of_ble_eq_true rfl) ?_
  intro p e s m args below meth c ls A CX hml hr hlk hK hN hP hD hS hA hl
  have hx := CX.1
  have hb := CX.2.1
  have hRMX5_fails : (⟨1, 0, 0, 12⟩ : Room).frames + 1 ≤ (⟨3, 0, 0, 54⟩ : Room).frames ∧ 8 + (3 + 11) + (⟨1, 0, 0, 12⟩ : Room).locals ≤ (⟨3, 0, 0, 54⟩ : Room).locals := ⟨Nat.le_of_ble_eq_true rfl, Nat.le_of_ble_eq_true rfl⟩
  have hRMX5_isBetween : (⟨1, 0, 0, 12⟩ : Room).frames + 1 ≤ (⟨3, 0, 0, 54⟩ : Room).frames ∧ 8 + (3 + 11) + (⟨1, 0, 0, 12⟩ : Room).locals ≤ (⟨3, 0, 0, 54⟩ : Room).locals := ⟨Nat.le_of_ble_eq_true rfl, Nat.le_of_ble_eq_true rfl⟩
  have hRMX5_isPitch : (⟨2, 0, 0, 34⟩ : Room).frames + 1 ≤ (⟨3, 0, 0, 54⟩ : Room).frames ∧ 8 + (1 + 11) + (⟨2, 0, 0, 34⟩ : Room).locals ≤ (⟨3, 0, 0, 54⟩ : Room).locals := ⟨Nat.le_of_ble_eq_true rfl, Nat.le_of_ble_eq_true rfl⟩
  have hRMX5_ofPitch : (⟨1, 0, 0, 12⟩ : Room).frames + 1 ≤ (⟨3, 0, 0, 54⟩ : Room).frames ∧ 8 + (3 + 11) + (⟨1, 0, 0, 12⟩ : Room).locals ≤ (⟨3, 0, 0, 54⟩ : Room).locals := ⟨Nat.le_of_ble_eq_true rfl, Nat.le_of_ble_eq_true rfl⟩
  have hl0 := hl
  have K36 : ∀ (t0 : Int32) (t1 : Int32) (m_thr : Int32) (H : Heap) (locs : List Loc) (hP : va_P D vwCl (wX5 q cy m_thr m_kept m_rea m_det m_isv m_iit m_len m_at m_err m_wro m_cmd m_to1 m_to2 m_now m_sav m_ahe m_bef m_hst m_noi m_own m_inp) H) (hD : va_D A (wX5 q cy m_thr m_kept m_rea m_det m_isv m_iit m_len m_at m_err m_wro m_cmd m_to1 m_to2 m_now m_sav m_ahe m_bef m_hst m_noi m_own m_inp)) (hS : va_S A s.heap H locs) (ls : Array Slot) (hl : lv_has ls 3 [(0, .ref (q 0)), (1, .int a1), (2, .int a2)]) (hf : f_X5_pitchOf_c36 m_now a1 a2 t0 t1 m_thr = some res), W p l e ⟨3, 0, 0, 54⟩ s m args below meth c H locs 0 0 (MQ below (qI D (wX5 q cy res.2 m_kept m_rea m_det m_isv m_iit m_len m_at m_err m_wro m_cmd m_to1 m_to2 m_now m_sav m_ahe m_bef m_hst m_noi m_own m_inp) res.1 A) args s 0 0 A) (F0 m 36 ls [.int t0, .int t1, .ref (q 0)]) := by
    intro t0 t1 m_thr H locs hP hD hS ls hl hf
    obtain ⟨r2, e1, hf⟩ := ob_some hf
    refine crw_vi CX hml (As := [.int t1, .int t0]) (rest := []) (c_X5_fails l D cy q m_thr m_kept m_rea m_det m_isv m_iit m_len m_at m_err m_wro m_cmd m_to1 m_to2 m_now m_sav m_ahe m_bef m_hst m_noi m_own m_inp t1 t0 _ e1) lk_RX5_81 rfl rfl hRMX5_fails hP hD hS hA hK hN 0 rfl rfl rfl hl.1 rfl (Nat.le_of_ble_eq_true rfl) ⟨Nat.le_of_ble_eq_true rfl, Nat.le_of_ble_eq_true rfl⟩ (dg ddX5_pitchOf 20 rfl) (fun H locs hP hD hS => ?_)
    refine lv_if_eq (tgt := 44) hx hb (dg ddX5_pitchOf 21 rfl) (by decide) (fun h3 => ?_) (fun h3 => ?_)
    · have hf := it_t h3 hf
      refine lv_aload_n hx hb (dg ddX5_pitchOf 24 rfl) rfl (lv_at hl 0 rfl) ?_
      refine lv_iload_n hx hb (dg ddX5_pitchOf 25 rfl) rfl (lv_at hl 1 rfl) ?_
      refine lv_iload_n hx hb (dg ddX5_pitchOf 26 rfl) rfl (lv_at hl 2 rfl) ?_
      refine lv_if_ne (tgt := 54) hx hb (dg ddX5_pitchOf 27 rfl) (by decide) (fun h4 => ?_) (fun h4 => ?_)
      · have hf := it_f h4 hf
        refine lv_iload_n hx hb (dg ddX5_pitchOf 30 rfl) rfl (lv_at hl 2 rfl) ?_
        obtain ⟨r6, e5, hf⟩ := ob_some hf
        refine cro_vi CX hml (As := [.int a1, .int a2]) (rest := []) (c_X5_ofPitch l D cy q r2.2 m_kept m_rea m_det m_isv m_iit m_len m_at m_err m_wro m_cmd m_to1 m_to2 m_now m_sav m_ahe m_bef m_hst m_noi m_own m_inp a1 a2 e5) lk_RX5_88 rfl rfl hRMX5_ofPitch hP hK hN 0 rfl rfl rfl hl.1 rfl (Nat.le_of_ble_eq_true rfl) ⟨Nat.le_of_ble_eq_true rfl, Nat.le_of_ble_eq_true rfl⟩ (dg ddX5_pitchOf 31 rfl) ?_
        cases hf
        exact e_wi CX hr hlk rfl hP hD hS (dg ddX5_pitchOf 32 rfl)
      · have hf := it_t h4 hf
        refine lv_iconst (v := 3) hx hb (dg ddX5_pitchOf 28 rfl) (by decide) ?_
        refine lv_goto (tgt := 55) hx hb (dg ddX5_pitchOf 29 rfl) (by decide) ?_
        obtain ⟨r8, e7, hf⟩ := ob_some hf
        refine cro_vi CX hml (As := [.int a1, .int 3]) (rest := []) (c_X5_ofPitch l D cy q r2.2 m_kept m_rea m_det m_isv m_iit m_len m_at m_err m_wro m_cmd m_to1 m_to2 m_now m_sav m_ahe m_bef m_hst m_noi m_own m_inp a1 3 e7) lk_RX5_88 rfl rfl hRMX5_ofPitch hP hK hN 0 rfl rfl rfl hl.1 rfl (Nat.le_of_ble_eq_true rfl) ⟨Nat.le_of_ble_eq_true rfl, Nat.le_of_ble_eq_true rfl⟩ (dg ddX5_pitchOf 31 rfl) ?_
        cases hf
        exact e_wi CX hr hlk rfl hP hD hS (dg ddX5_pitchOf 32 rfl)
    · have hf := it_f h3 hf
      refine lv_iconst (v := 0) hx hb (dg ddX5_pitchOf 22 rfl) (by decide) ?_
      cases hf
      exact e_wi CX hr hlk rfl hP hD hS (dg ddX5_pitchOf 23 rfl)
  have K14 : ∀ (t0 : Int32) (t1 : Int32) (m_thr : Int32) (H : Heap) (locs : List Loc) (hP : va_P D vwCl (wX5 q cy m_thr m_kept m_rea m_det m_isv m_iit m_len m_at m_err m_wro m_cmd m_to1 m_to2 m_now m_sav m_ahe m_bef m_hst m_noi m_own m_inp) H) (hD : va_D A (wX5 q cy m_thr m_kept m_rea m_det m_isv m_iit m_len m_at m_err m_wro m_cmd m_to1 m_to2 m_now m_sav m_ahe m_bef m_hst m_noi m_own m_inp)) (hS : va_S A s.heap H locs) (ls : Array Slot) (hl : lv_has ls 3 [(0, .ref (q 0)), (1, .int a1), (2, .int a2)]) (hf : f_X5_pitchOf_c14 m_now a1 a2 t0 t1 m_thr = some res), W p l e ⟨3, 0, 0, 54⟩ s m args below meth c H locs 0 0 (MQ below (qI D (wX5 q cy res.2 m_kept m_rea m_det m_isv m_iit m_len m_at m_err m_wro m_cmd m_to1 m_to2 m_now m_sav m_ahe m_bef m_hst m_noi m_own m_inp) res.1 A) args s 0 0 A) (F0 m 14 ls [.int t0, .int t1, .ref (q 0)]) := by
    intro t0 t1 m_thr H locs hP hD hS ls hl hf
    obtain ⟨r2, e1, hf⟩ := ob_some hf
    refine crw_vi CX hml (As := [.int t1, .int t0]) (rest := []) (c_X5_fails l D cy q m_thr m_kept m_rea m_det m_isv m_iit m_len m_at m_err m_wro m_cmd m_to1 m_to2 m_now m_sav m_ahe m_bef m_hst m_noi m_own m_inp t1 t0 _ e1) lk_RX5_81 rfl rfl hRMX5_fails hP hD hS hA hK hN 0 rfl rfl rfl hl.1 rfl (Nat.le_of_ble_eq_true rfl) ⟨Nat.le_of_ble_eq_true rfl, Nat.le_of_ble_eq_true rfl⟩ (dg ddX5_pitchOf 8 rfl) (fun H locs hP hD hS => ?_)
    refine lv_if_ne (tgt := 42) hx hb (dg ddX5_pitchOf 9 rfl) (by decide) (fun h3 => ?_) (fun h3 => ?_)
    · have hf := it_f h3 hf
      refine lv_iconst (v := 0) hx hb (dg ddX5_pitchOf 22 rfl) (by decide) ?_
      cases hf
      exact e_wi CX hr hlk rfl hP hD hS (dg ddX5_pitchOf 23 rfl)
    · have hf := it_t h3 hf
      refine lv_aload_n hx hb (dg ddX5_pitchOf 10 rfl) rfl (lv_at hl 0 rfl) ?_
      refine lv_iconst (v := 2) hx hb (dg ddX5_pitchOf 11 rfl) (by decide) ?_
      refine lv_iload_n hx hb (dg ddX5_pitchOf 12 rfl) rfl (lv_at hl 2 rfl) ?_
      refine lv_iconst (v := 0) hx hb (dg ddX5_pitchOf 13 rfl) (by decide) ?_
      refine lv_iconst (v := 2) hx hb (dg ddX5_pitchOf 14 rfl) (by decide) ?_
      obtain ⟨r5, e4, hf⟩ := ob_some hf
      refine cro_si CX hml (As := [.int a2, .int 0, .int 2]) (rest := [.int 2, .ref (q 0)]) (c_X5_isBetween l D cy a2 0 2 e4) lk_RX5_77 rfl rfl hRMX5_isBetween vaP_nil hK hN rfl hl.1 rfl (Nat.le_of_ble_eq_true rfl) ⟨Nat.le_of_ble_eq_true rfl, Nat.le_of_ble_eq_true rfl⟩ (dg ddX5_pitchOf 15 rfl) ?_
      refine lv_if_ne (tgt := 35) hx hb (dg ddX5_pitchOf 16 rfl) (by decide) (fun h6 => ?_) (fun h6 => ?_)
      · have hf := it_f h6 hf
        refine lv_iconst (v := 0) hx hb (dg ddX5_pitchOf 19 rfl) (by decide) ?_
        exact K36  0 2 r2.2 _ _ hP hD hS _ (lv_sub hl [0, 1, 2] rfl) hf
      · have hf := it_t h6 hf
        refine lv_iconst (v := 1) hx hb (dg ddX5_pitchOf 17 rfl) (by decide) ?_
        refine lv_goto (tgt := 36) hx hb (dg ddX5_pitchOf 18 rfl) (by decide) ?_
        exact K36  1 2 r2.2 _ _ hP hD hS _ (lv_sub hl [0, 1, 2] rfl) hf
  refine lv_aload_n hx hb (dg ddX5_pitchOf 0 rfl) rfl (lv_at hl 0 rfl) ?_
  refine lv_iconst (v := 1) hx hb (dg ddX5_pitchOf 1 rfl) (by decide) ?_
  refine lv_iload_n hx hb (dg ddX5_pitchOf 2 rfl) rfl (lv_at hl 1 rfl) ?_
  obtain ⟨r2, e1, hf⟩ := ob_some hf
  refine cro_si CX hml (As := [.int a1]) (rest := [.int 1, .ref (q 0)]) (c_X5_isPitch l D cy a1 e1) lk_RX5_96 rfl rfl hRMX5_isPitch vaP_nil hK hN rfl hl.1 rfl (Nat.le_of_ble_eq_true rfl) ⟨Nat.le_of_ble_eq_true rfl, Nat.le_of_ble_eq_true rfl⟩ (dg ddX5_pitchOf 3 rfl) ?_
  refine lv_if_ne (tgt := 13) hx hb (dg ddX5_pitchOf 4 rfl) (by decide) (fun h3 => ?_) (fun h3 => ?_)
  · have hf := it_f h3 hf
    refine lv_iconst (v := 0) hx hb (dg ddX5_pitchOf 7 rfl) (by decide) ?_
    exact K14  0 1 m_thr _ _ hP hD hS _ (lv_sub hl [0, 1, 2] rfl) hf
  · have hf := it_t h3 hf
    refine lv_iconst (v := 1) hx hb (dg ddX5_pitchOf 5 rfl) (by decide) ?_
    refine lv_goto (tgt := 14) hx hb (dg ddX5_pitchOf 6 rfl) (by decide) ?_
    exact K14  1 1 m_thr _ _ hP hD hS _ (lv_sub hl [0, 1, 2] rfl) hf
def f_X5_isJoinRefused_c43  (m_now : Nat → Int32) (a1 : Int32) (x3 : Int32) (t0 : Int32) (m_rea : Int32) (m_det : Int32) : Option (Int32 × Int32 × Int32) := ob (f_X5_refuse m_rea m_det t0 3 x3) fun r2 => (if r2.1 = 0 then (ob (f_X5_isSnapped m_now a1) fun r5 => (ob (f_X5_refuse r2.2.1 r2.2.2 r5 4 a1) fun r7 => (if r7.1 = 0 then (some (0, r7.2.1, r7.2.2)) else (some (1, r7.2.1, r7.2.2))))) else (some (1, r2.2.1, r2.2.2)))
def f_X5_isJoinRefused_c24  (m_now : Nat → Int32) (a1 : Int32) (x2 : Int32) (x3 : Int32) (t0 : Int32) (m_rea : Int32) (m_det : Int32) : Option (Int32 × Int32 × Int32) := ob (f_X5_refuse m_rea m_det t0 2 x2) fun r2 => (if r2.1 = 0 then (if x3 = (-1) then (f_X5_isJoinRefused_c43 m_now a1 x3 0 r2.2.1 r2.2.2) else (f_X5_isJoinRefused_c43 m_now a1 x3 1 r2.2.1 r2.2.2)) else (some (1, r2.2.1, r2.2.2)))
def f_X5_isJoinRefused (m_rea : Int32) (m_det : Int32) (m_now : Nat → Int32) (a1 : Int32) : Option (Int32 × Int32 × Int32) := ob (f_X5_placeInLine m_now a1) fun r2 => (ob (f_X5_of m_now a1 4) fun r4 => (if r2 = (-1) then (f_X5_isJoinRefused_c24 m_now a1 r2 r4 0 m_rea m_det) else (f_X5_isJoinRefused_c24 m_now a1 r2 r4 1 m_rea m_det)))
set_option maxHeartbeats 4000000 in
set_option maxRecDepth 100000 in
theorem c_X5_isJoinRefused (l : Launch) (D : va_G) (cy : Nat → ClassId) (q : Nat → Nat) (m_thr : Int32) (m_kept : Int32) (m_rea : Int32) (m_det : Int32) (m_isv : Int32) (m_iit : Int32) (m_len : Int32) (m_at : Int32) (m_err : Int32) (m_wro : Int32) (m_cmd : Int32) (m_to1 : Int32) (m_to2 : Int32) (m_now : Nat → Int32) (m_sav : Nat → Int32) (m_ahe : Nat → Int32) (m_bef : Nat → Int32) (m_hst : Nat → Nat → Int32) (m_noi : Nat → UInt32) (m_own : Nat → UInt32) (m_inp : Nat → Int32) (a1 : Int32) (sz : Nat) {res : Int32 × Int32 × Int32} (hf : f_X5_isJoinRefused m_rea m_det m_now a1 = some res) : Met l yX5_isJoinRefused (.code yX5_isJoinRefused cX5_isJoinRefused 4 (some .boolean) :: lw_all) { frames := 4, cells := 0, slots := 0, locals := 83 } (va_Pc [.ref (q 0), .int a1] (sW D cy (wX5 q cy m_thr m_kept m_rea m_det m_isv m_iit m_len m_at m_err m_wro m_cmd m_to1 m_to2 m_now m_sav m_ahe m_bef m_hst m_noi m_own m_inp) sz)) (qI D (wX5 q cy m_thr m_kept res.2.1 res.2.2 m_isv m_iit m_len m_at m_err m_wro m_cmd m_to1 m_to2 m_now m_sav m_ahe m_bef m_hst m_noi m_own m_inp) res.1 (va_A (wX5 q cy m_thr m_kept m_rea m_det m_isv m_iit m_len m_at m_err m_wro m_cmd m_to1 m_to2 m_now m_sav m_ahe m_bef m_hst m_noi m_own m_inp) sz)) 0 0 (va_A (wX5 q cy m_thr m_kept m_rea m_det m_isv m_iit m_len m_at m_err m_wro m_cmd m_to1 m_to2 m_now m_sav m_ahe m_bef m_hst m_noi m_own m_inp) sz) := by
  refine mk_rw (Qc := qI D (wX5 q cy m_thr m_kept res.2.1 res.2.2 m_isv m_iit m_len m_at m_err m_wro m_cmd m_to1 m_to2 m_now m_sav m_ahe m_bef m_hst m_noi m_own m_inp) res.1) (Rc := RX5) (by decide +kernel) rfl (Nat.le_of_ble_eq_true rfl) ?_
  intro p e s m args below meth c ls A CX hml hr hlk hK hN hP hD hS hA hl
  have hx := CX.1
  have hb := CX.2.1
  have hRMX5_isSnapped : (⟨3, 0, 0, 62⟩ : Room).frames + 1 ≤ (⟨4, 0, 0, 83⟩ : Room).frames ∧ 8 + (2 + 11) + (⟨3, 0, 0, 62⟩ : Room).locals ≤ (⟨4, 0, 0, 83⟩ : Room).locals := ⟨Nat.le_of_ble_eq_true rfl, Nat.le_of_ble_eq_true rfl⟩
  have hRMX5_of : (⟨1, 0, 0, 12⟩ : Room).frames + 1 ≤ (⟨4, 0, 0, 83⟩ : Room).frames ∧ 8 + (3 + 11) + (⟨1, 0, 0, 12⟩ : Room).locals ≤ (⟨4, 0, 0, 83⟩ : Room).locals := ⟨Nat.le_of_ble_eq_true rfl, Nat.le_of_ble_eq_true rfl⟩
  have hRMX5_placeInLine : (⟨1, 0, 0, 12⟩ : Room).frames + 1 ≤ (⟨4, 0, 0, 83⟩ : Room).frames ∧ 8 + (3 + 11) + (⟨1, 0, 0, 12⟩ : Room).locals ≤ (⟨4, 0, 0, 83⟩ : Room).locals := ⟨Nat.le_of_ble_eq_true rfl, Nat.le_of_ble_eq_true rfl⟩
  have hRMX5_refuse : (⟨1, 0, 0, 12⟩ : Room).frames + 1 ≤ (⟨4, 0, 0, 83⟩ : Room).frames ∧ 8 + (4 + 11) + (⟨1, 0, 0, 12⟩ : Room).locals ≤ (⟨4, 0, 0, 83⟩ : Room).locals := ⟨Nat.le_of_ble_eq_true rfl, Nat.le_of_ble_eq_true rfl⟩
  have hl0 := hl
  have K43 : ∀ (x3 : Int32) (t0 : Int32) (m_rea : Int32) (m_det : Int32) (H : Heap) (locs : List Loc) (hP : va_P D vwCl (wX5 q cy m_thr m_kept m_rea m_det m_isv m_iit m_len m_at m_err m_wro m_cmd m_to1 m_to2 m_now m_sav m_ahe m_bef m_hst m_noi m_own m_inp) H) (hD : va_D A (wX5 q cy m_thr m_kept m_rea m_det m_isv m_iit m_len m_at m_err m_wro m_cmd m_to1 m_to2 m_now m_sav m_ahe m_bef m_hst m_noi m_own m_inp)) (hS : va_S A s.heap H locs) (ls : Array Slot) (hl : lv_has ls 4 [(0, .ref (q 0)), (1, .int a1), (3, .int x3)]) (hf : f_X5_isJoinRefused_c43 m_now a1 x3 t0 m_rea m_det = some res), W p l e ⟨4, 0, 0, 83⟩ s m args below meth c H locs 0 0 (MQ below (qI D (wX5 q cy m_thr m_kept res.2.1 res.2.2 m_isv m_iit m_len m_at m_err m_wro m_cmd m_to1 m_to2 m_now m_sav m_ahe m_bef m_hst m_noi m_own m_inp) res.1 A) args s 0 0 A) (F0 m 43 ls [.int t0, .ref (q 0)]) := by
    intro x3 t0 m_rea m_det H locs hP hD hS ls hl hf
    refine lv_iconst (v := 3) hx hb (dg ddX5_isJoinRefused 27 rfl) (by decide) ?_
    refine lv_iload_n hx hb (dg ddX5_isJoinRefused 28 rfl) rfl (lv_at hl 2 rfl) ?_
    obtain ⟨r2, e1, hf⟩ := ob_some hf
    refine crw_vi CX hml (As := [.int t0, .int 3, .int x3]) (rest := []) (c_X5_refuse l D cy q m_thr m_kept m_rea m_det m_isv m_iit m_len m_at m_err m_wro m_cmd m_to1 m_to2 m_now m_sav m_ahe m_bef m_hst m_noi m_own m_inp t0 3 x3 _ e1) lk_RX5_106 rfl rfl hRMX5_refuse hP hD hS hA hK hN 0 rfl rfl rfl hl.1 rfl (Nat.le_of_ble_eq_true rfl) ⟨Nat.le_of_ble_eq_true rfl, Nat.le_of_ble_eq_true rfl⟩ (dg ddX5_isJoinRefused 29 rfl) (fun H locs hP hD hS => ?_)
    refine lv_if_ne (tgt := 65) hx hb (dg ddX5_isJoinRefused 30 rfl) (by decide) (fun h3 => ?_) (fun h3 => ?_)
    · have hf := it_f h3 hf
      refine lv_iconst (v := 1) hx hb (dg ddX5_isJoinRefused 39 rfl) (by decide) ?_
      refine lv_goto (tgt := 70) hx hb (dg ddX5_isJoinRefused 40 rfl) (by decide) ?_
      cases hf
      exact e_wz CX hr hlk (by decide) rfl hP hD hS (dg ddX5_isJoinRefused 42 rfl)
    · have hf := it_t h3 hf
      refine lv_aload_n hx hb (dg ddX5_isJoinRefused 31 rfl) rfl (lv_at hl 0 rfl) ?_
      refine lv_aload_n hx hb (dg ddX5_isJoinRefused 32 rfl) rfl (lv_at hl 0 rfl) ?_
      refine lv_iload_n hx hb (dg ddX5_isJoinRefused 33 rfl) rfl (lv_at hl 1 rfl) ?_
      obtain ⟨r5, e4, hf⟩ := ob_some hf
      refine cro_vi CX hml (As := [.int a1]) (rest := [.ref (q 0)]) (c_X5_isSnapped l D cy q m_thr m_kept r2.2.1 r2.2.2 m_isv m_iit m_len m_at m_err m_wro m_cmd m_to1 m_to2 m_now m_sav m_ahe m_bef m_hst m_noi m_own m_inp a1 e4) lk_RX5_125 rfl rfl hRMX5_isSnapped hP hK hN 0 rfl rfl rfl hl.1 rfl (Nat.le_of_ble_eq_true rfl) ⟨Nat.le_of_ble_eq_true rfl, Nat.le_of_ble_eq_true rfl⟩ (dg ddX5_isJoinRefused 34 rfl) ?_
      refine lv_iconst (v := 4) hx hb (dg ddX5_isJoinRefused 35 rfl) (by decide) ?_
      refine lv_iload_n hx hb (dg ddX5_isJoinRefused 36 rfl) rfl (lv_at hl 1 rfl) ?_
      obtain ⟨r7, e6, hf⟩ := ob_some hf
      refine crw_vi CX hml (As := [.int r5, .int 4, .int a1]) (rest := []) (c_X5_refuse l D cy q m_thr m_kept r2.2.1 r2.2.2 m_isv m_iit m_len m_at m_err m_wro m_cmd m_to1 m_to2 m_now m_sav m_ahe m_bef m_hst m_noi m_own m_inp r5 4 a1 _ e6) lk_RX5_106 rfl rfl hRMX5_refuse hP hD hS hA hK hN 0 rfl rfl rfl hl.1 rfl (Nat.le_of_ble_eq_true rfl) ⟨Nat.le_of_ble_eq_true rfl, Nat.le_of_ble_eq_true rfl⟩ (dg ddX5_isJoinRefused 37 rfl) (fun H locs hP hD hS => ?_)
      refine lv_if_eq (tgt := 69) hx hb (dg ddX5_isJoinRefused 38 rfl) (by decide) (fun h8 => ?_) (fun h8 => ?_)
      · have hf := it_t h8 hf
        refine lv_iconst (v := 0) hx hb (dg ddX5_isJoinRefused 41 rfl) (by decide) ?_
        cases hf
        exact e_wz CX hr hlk (by decide) rfl hP hD hS (dg ddX5_isJoinRefused 42 rfl)
      · have hf := it_f h8 hf
        refine lv_iconst (v := 1) hx hb (dg ddX5_isJoinRefused 39 rfl) (by decide) ?_
        refine lv_goto (tgt := 70) hx hb (dg ddX5_isJoinRefused 40 rfl) (by decide) ?_
        cases hf
        exact e_wz CX hr hlk (by decide) rfl hP hD hS (dg ddX5_isJoinRefused 42 rfl)
  have K24 : ∀ (x2 : Int32) (x3 : Int32) (t0 : Int32) (m_rea : Int32) (m_det : Int32) (H : Heap) (locs : List Loc) (hP : va_P D vwCl (wX5 q cy m_thr m_kept m_rea m_det m_isv m_iit m_len m_at m_err m_wro m_cmd m_to1 m_to2 m_now m_sav m_ahe m_bef m_hst m_noi m_own m_inp) H) (hD : va_D A (wX5 q cy m_thr m_kept m_rea m_det m_isv m_iit m_len m_at m_err m_wro m_cmd m_to1 m_to2 m_now m_sav m_ahe m_bef m_hst m_noi m_own m_inp)) (hS : va_S A s.heap H locs) (ls : Array Slot) (hl : lv_has ls 4 [(0, .ref (q 0)), (1, .int a1), (2, .int x2), (3, .int x3)]) (hf : f_X5_isJoinRefused_c24 m_now a1 x2 x3 t0 m_rea m_det = some res), W p l e ⟨4, 0, 0, 83⟩ s m args below meth c H locs 0 0 (MQ below (qI D (wX5 q cy m_thr m_kept res.2.1 res.2.2 m_isv m_iit m_len m_at m_err m_wro m_cmd m_to1 m_to2 m_now m_sav m_ahe m_bef m_hst m_noi m_own m_inp) res.1 A) args s 0 0 A) (F0 m 24 ls [.int t0, .ref (q 0)]) := by
    intro x2 x3 t0 m_rea m_det H locs hP hD hS ls hl hf
    refine lv_iconst (v := 2) hx hb (dg ddX5_isJoinRefused 16 rfl) (by decide) ?_
    refine lv_iload_n hx hb (dg ddX5_isJoinRefused 17 rfl) rfl (lv_at hl 2 rfl) ?_
    obtain ⟨r2, e1, hf⟩ := ob_some hf
    refine crw_vi CX hml (As := [.int t0, .int 2, .int x2]) (rest := []) (c_X5_refuse l D cy q m_thr m_kept m_rea m_det m_isv m_iit m_len m_at m_err m_wro m_cmd m_to1 m_to2 m_now m_sav m_ahe m_bef m_hst m_noi m_own m_inp t0 2 x2 _ e1) lk_RX5_106 rfl rfl hRMX5_refuse hP hD hS hA hK hN 0 rfl rfl rfl hl.1 rfl (Nat.le_of_ble_eq_true rfl) ⟨Nat.le_of_ble_eq_true rfl, Nat.le_of_ble_eq_true rfl⟩ (dg ddX5_isJoinRefused 18 rfl) (fun H locs hP hD hS => ?_)
    refine lv_if_ne (tgt := 65) hx hb (dg ddX5_isJoinRefused 19 rfl) (by decide) (fun h3 => ?_) (fun h3 => ?_)
    · have hf := it_f h3 hf
      refine lv_iconst (v := 1) hx hb (dg ddX5_isJoinRefused 39 rfl) (by decide) ?_
      refine lv_goto (tgt := 70) hx hb (dg ddX5_isJoinRefused 40 rfl) (by decide) ?_
      cases hf
      exact e_wz CX hr hlk (by decide) rfl hP hD hS (dg ddX5_isJoinRefused 42 rfl)
    · have hf := it_t h3 hf
      refine lv_aload_n hx hb (dg ddX5_isJoinRefused 20 rfl) rfl (lv_at hl 0 rfl) ?_
      refine lv_iload_n hx hb (dg ddX5_isJoinRefused 21 rfl) rfl (lv_at hl 3 rfl) ?_
      refine lv_iconst (v := (-1)) hx hb (dg ddX5_isJoinRefused 22 rfl) (by decide) ?_
      refine lv_icmp_eq (tgt := 42) hx hb (dg ddX5_isJoinRefused 23 rfl) (by decide) (fun h4 => ?_) (fun h4 => ?_)
      · have hf := it_t h4 hf
        refine lv_iconst (v := 0) hx hb (dg ddX5_isJoinRefused 26 rfl) (by decide) ?_
        exact K43  x3 0 r2.2.1 r2.2.2 _ _ hP hD hS _ (lv_sub hl [0, 1, 3] rfl) hf
      · have hf := it_f h4 hf
        refine lv_iconst (v := 1) hx hb (dg ddX5_isJoinRefused 24 rfl) (by decide) ?_
        refine lv_goto (tgt := 43) hx hb (dg ddX5_isJoinRefused 25 rfl) (by decide) ?_
        exact K43  x3 1 r2.2.1 r2.2.2 _ _ hP hD hS _ (lv_sub hl [0, 1, 3] rfl) hf
  refine lv_aload_n hx hb (dg ddX5_isJoinRefused 0 rfl) rfl (lv_at hl 0 rfl) ?_
  refine lv_iload_n hx hb (dg ddX5_isJoinRefused 1 rfl) rfl (lv_at hl 1 rfl) ?_
  obtain ⟨r2, e1, hf⟩ := ob_some hf
  refine cro_vi CX hml (As := [.int a1]) (rest := []) (c_X5_placeInLine l D cy q m_thr m_kept m_rea m_det m_isv m_iit m_len m_at m_err m_wro m_cmd m_to1 m_to2 m_now m_sav m_ahe m_bef m_hst m_noi m_own m_inp a1 e1) lk_RX5_117 rfl rfl hRMX5_placeInLine hP hK hN 0 rfl rfl rfl hl.1 rfl (Nat.le_of_ble_eq_true rfl) ⟨Nat.le_of_ble_eq_true rfl, Nat.le_of_ble_eq_true rfl⟩ (dg ddX5_isJoinRefused 2 rfl) ?_
  refine lv_istore_n (lv' := [(2, .int r2), (0, .ref (q 0)), (1, .int a1)]) hx hb (dg ddX5_isJoinRefused 3 rfl) rfl hl (by decide) rfl (fun ls hl => ?_)
  refine lv_aload_n hx hb (dg ddX5_isJoinRefused 4 rfl) rfl (lv_at hl 1 rfl) ?_
  refine lv_iload_n hx hb (dg ddX5_isJoinRefused 5 rfl) rfl (lv_at hl 2 rfl) ?_
  refine lv_iconst (v := 4) hx hb (dg ddX5_isJoinRefused 6 rfl) (by decide) ?_
  obtain ⟨r4, e3, hf⟩ := ob_some hf
  refine cro_vi CX hml (As := [.int a1, .int 4]) (rest := []) (c_X5_of l D cy q m_thr m_kept m_rea m_det m_isv m_iit m_len m_at m_err m_wro m_cmd m_to1 m_to2 m_now m_sav m_ahe m_bef m_hst m_noi m_own m_inp a1 4 e3) lk_RX5_100 rfl rfl hRMX5_of hP hK hN 0 rfl rfl rfl hl.1 rfl (Nat.le_of_ble_eq_true rfl) ⟨Nat.le_of_ble_eq_true rfl, Nat.le_of_ble_eq_true rfl⟩ (dg ddX5_isJoinRefused 7 rfl) ?_
  refine lv_istore_n (lv' := [(3, .int r4), (2, .int r2), (0, .ref (q 0)), (1, .int a1)]) hx hb (dg ddX5_isJoinRefused 8 rfl) rfl hl (by decide) rfl (fun ls hl => ?_)
  refine lv_aload_n hx hb (dg ddX5_isJoinRefused 9 rfl) rfl (lv_at hl 2 rfl) ?_
  refine lv_iload_n hx hb (dg ddX5_isJoinRefused 10 rfl) rfl (lv_at hl 1 rfl) ?_
  refine lv_iconst (v := (-1)) hx hb (dg ddX5_isJoinRefused 11 rfl) (by decide) ?_
  refine lv_icmp_eq (tgt := 23) hx hb (dg ddX5_isJoinRefused 12 rfl) (by decide) (fun h5 => ?_) (fun h5 => ?_)
  · have hf := it_t h5 hf
    refine lv_iconst (v := 0) hx hb (dg ddX5_isJoinRefused 15 rfl) (by decide) ?_
    exact K24  r2 r4 0 m_rea m_det _ _ hP hD hS _ (lv_sub hl [2, 3, 1, 0] rfl) hf
  · have hf := it_f h5 hf
    refine lv_iconst (v := 1) hx hb (dg ddX5_isJoinRefused 13 rfl) (by decide) ?_
    refine lv_goto (tgt := 24) hx hb (dg ddX5_isJoinRefused 14 rfl) (by decide) ?_
    exact K24  r2 r4 1 m_rea m_det _ _ hP hD hS _ (lv_sub hl [2, 3, 1, 0] rfl) hf
def f_X5_join_c15  (m_iit : Int32) (a1 : Int32) (t0 : Int32) (t1 : Int32) (m_thr : Int32) (m_kept : Int32) (m_rea : Int32) (m_det : Int32) (m_now : Nat → Int32) (m_hst : Nat → Nat → Int32) : Option (Int32 × Int32 × Int32 × Int32 × Int32 × (Nat → Int32) × (Nat → Nat → Int32)) := ob (f_X5_fails m_thr t1 t0) fun r2 => (if r2.1 = 0 then (ob (f_X5_isJoinRefused m_rea m_det m_now a1) fun r5 => (ob (f_X5_fails r2.2 2 r5.1) fun r7 => (if r7.1 = 0 then (ob (f_X5_change m_kept m_iit m_now m_hst) fun r10 => (og (inb 3 112) (og (inb (104 + (m_now (3 : Int32).toNatClampNeg)) 112) (og (inb 3 112) (og (inb 3 112) (og (inb 3 112) (some (((upd (upd m_now (104 + (m_now (3 : Int32).toNatClampNeg)).toNatClampNeg a1) (3 : Int32).toNatClampNeg (((upd m_now (104 + (m_now (3 : Int32).toNatClampNeg)).toNatClampNeg a1) (3 : Int32).toNatClampNeg) + 1)) (3 : Int32).toNatClampNeg), r7.2, r10.1, r5.2.1, r5.2.2, (upd (upd m_now (104 + (m_now (3 : Int32).toNatClampNeg)).toNatClampNeg a1) (3 : Int32).toNatClampNeg (((upd m_now (104 + (m_now (3 : Int32).toNatClampNeg)).toNatClampNeg a1) (3 : Int32).toNatClampNeg) + 1)), r10.2)))))))) else (some (0, r7.2, m_kept, r5.2.1, r5.2.2, m_now, m_hst))))) else (some (0, r2.2, m_kept, m_rea, m_det, m_now, m_hst)))
def f_X5_join (m_thr : Int32) (m_kept : Int32) (m_rea : Int32) (m_det : Int32) (m_iit : Int32) (m_now : Nat → Int32) (m_hst : Nat → Nat → Int32) (a1 : Int32) : Option (Int32 × Int32 × Int32 × Int32 × Int32 × (Nat → Int32) × (Nat → Nat → Int32)) := ob (f_X5_isBusker m_now a1) fun r2 => (if r2 = 0 then (f_X5_join_c15 m_iit a1 1 1 m_thr m_kept m_rea m_det m_now m_hst) else (f_X5_join_c15 m_iit a1 0 1 m_thr m_kept m_rea m_det m_now m_hst))
set_option maxHeartbeats 4000000 in
set_option maxRecDepth 100000 in
theorem c_X5_join (l : Launch) (D : va_G) (cy : Nat → ClassId) (q : Nat → Nat) (m_thr : Int32) (m_kept : Int32) (m_rea : Int32) (m_det : Int32) (m_isv : Int32) (m_iit : Int32) (m_len : Int32) (m_at : Int32) (m_err : Int32) (m_wro : Int32) (m_cmd : Int32) (m_to1 : Int32) (m_to2 : Int32) (m_now : Nat → Int32) (m_sav : Nat → Int32) (m_ahe : Nat → Int32) (m_bef : Nat → Int32) (m_hst : Nat → Nat → Int32) (m_noi : Nat → UInt32) (m_own : Nat → UInt32) (m_inp : Nat → Int32) (a1 : Int32) (sz : Nat) {res : Int32 × Int32 × Int32 × Int32 × Int32 × (Nat → Int32) × (Nat → Nat → Int32)} (hf : f_X5_join m_thr m_kept m_rea m_det m_iit m_now m_hst a1 = some res) : Met l yX5_join (.code yX5_join cX5_join 2 (some .int) :: lw_all) { frames := 5, cells := 0, slots := 0, locals := 106 } (va_Pc [.ref (q 0), .int a1] (sW D cy (wX5 q cy m_thr m_kept m_rea m_det m_isv m_iit m_len m_at m_err m_wro m_cmd m_to1 m_to2 m_now m_sav m_ahe m_bef m_hst m_noi m_own m_inp) sz)) (qI D (wX5 q cy res.2.1 res.2.2.1 res.2.2.2.1 res.2.2.2.2.1 m_isv m_iit m_len m_at m_err m_wro m_cmd m_to1 m_to2 res.2.2.2.2.2.1 m_sav m_ahe m_bef res.2.2.2.2.2.2 m_noi m_own m_inp) res.1 (va_A (wX5 q cy m_thr m_kept m_rea m_det m_isv m_iit m_len m_at m_err m_wro m_cmd m_to1 m_to2 m_now m_sav m_ahe m_bef m_hst m_noi m_own m_inp) sz)) 0 0 (va_A (wX5 q cy m_thr m_kept m_rea m_det m_isv m_iit m_len m_at m_err m_wro m_cmd m_to1 m_to2 m_now m_sav m_ahe m_bef m_hst m_noi m_own m_inp) sz) := by
  refine mk_rw (Qc := qI D (wX5 q cy res.2.1 res.2.2.1 res.2.2.2.1 res.2.2.2.2.1 m_isv m_iit m_len m_at m_err m_wro m_cmd m_to1 m_to2 res.2.2.2.2.2.1 m_sav m_ahe m_bef res.2.2.2.2.2.2 m_noi m_own m_inp) res.1) (Rc := RX5) (by decide +kernel) rfl (Nat.le_of_ble_eq_true rfl) ?_
  intro p e s m args below meth c ls A CX hml hr hlk hK hN hP hD hS hA hl
  have hx := CX.1
  have hb := CX.2.1
  have hRMX5_change : (⟨3, 0, 0, 56⟩ : Room).frames + 1 ≤ (⟨5, 0, 0, 106⟩ : Room).frames ∧ 8 + (1 + 11) + (⟨3, 0, 0, 56⟩ : Room).locals ≤ (⟨5, 0, 0, 106⟩ : Room).locals := ⟨Nat.le_of_ble_eq_true rfl, Nat.le_of_ble_eq_true rfl⟩
  have hRMX5_fails : (⟨1, 0, 0, 12⟩ : Room).frames + 1 ≤ (⟨5, 0, 0, 106⟩ : Room).frames ∧ 8 + (3 + 11) + (⟨1, 0, 0, 12⟩ : Room).locals ≤ (⟨5, 0, 0, 106⟩ : Room).locals := ⟨Nat.le_of_ble_eq_true rfl, Nat.le_of_ble_eq_true rfl⟩
  have hRMX5_isBusker : (⟨2, 0, 0, 34⟩ : Room).frames + 1 ≤ (⟨5, 0, 0, 106⟩ : Room).frames ∧ 8 + (2 + 11) + (⟨2, 0, 0, 34⟩ : Room).locals ≤ (⟨5, 0, 0, 106⟩ : Room).locals := ⟨Nat.le_of_ble_eq_true rfl, Nat.le_of_ble_eq_true rfl⟩
  have hRMX5_isJoinRefused : (⟨4, 0, 0, 83⟩ : Room).frames + 1 ≤ (⟨5, 0, 0, 106⟩ : Room).frames ∧ 8 + (4 + 11) + (⟨4, 0, 0, 83⟩ : Room).locals ≤ (⟨5, 0, 0, 106⟩ : Room).locals := ⟨Nat.le_of_ble_eq_true rfl, Nat.le_of_ble_eq_true rfl⟩
  have hl0 := hl
  have K15 : ∀ (t0 : Int32) (t1 : Int32) (m_thr : Int32) (m_kept : Int32) (m_rea : Int32) (m_det : Int32) (m_now : Nat → Int32) (m_hst : Nat → Nat → Int32) (H : Heap) (locs : List Loc) (hP : va_P D vwCl (wX5 q cy m_thr m_kept m_rea m_det m_isv m_iit m_len m_at m_err m_wro m_cmd m_to1 m_to2 m_now m_sav m_ahe m_bef m_hst m_noi m_own m_inp) H) (hD : va_D A (wX5 q cy m_thr m_kept m_rea m_det m_isv m_iit m_len m_at m_err m_wro m_cmd m_to1 m_to2 m_now m_sav m_ahe m_bef m_hst m_noi m_own m_inp)) (hS : va_S A s.heap H locs) (ls : Array Slot) (hl : lv_has ls 2 [(0, .ref (q 0)), (1, .int a1)]) (hf : f_X5_join_c15 m_iit a1 t0 t1 m_thr m_kept m_rea m_det m_now m_hst = some res), W p l e ⟨5, 0, 0, 106⟩ s m args below meth c H locs 0 0 (MQ below (qI D (wX5 q cy res.2.1 res.2.2.1 res.2.2.2.1 res.2.2.2.2.1 m_isv m_iit m_len m_at m_err m_wro m_cmd m_to1 m_to2 res.2.2.2.2.2.1 m_sav m_ahe m_bef res.2.2.2.2.2.2 m_noi m_own m_inp) res.1 A) args s 0 0 A) (F0 m 15 ls [.int t0, .int t1, .ref (q 0)]) := by
    intro t0 t1 m_thr m_kept m_rea m_det m_now m_hst H locs hP hD hS ls hl hf
    obtain ⟨r2, e1, hf⟩ := ob_some hf
    refine crw_vi CX hml (As := [.int t1, .int t0]) (rest := []) (c_X5_fails l D cy q m_thr m_kept m_rea m_det m_isv m_iit m_len m_at m_err m_wro m_cmd m_to1 m_to2 m_now m_sav m_ahe m_bef m_hst m_noi m_own m_inp t1 t0 _ e1) lk_RX5_81 rfl rfl hRMX5_fails hP hD hS hA hK hN 0 rfl rfl rfl hl.1 rfl (Nat.le_of_ble_eq_true rfl) ⟨Nat.le_of_ble_eq_true rfl, Nat.le_of_ble_eq_true rfl⟩ (dg ddX5_join 9 rfl) (fun H locs hP hD hS => ?_)
    refine lv_if_ne (tgt := 34) hx hb (dg ddX5_join 10 rfl) (by decide) (fun h3 => ?_) (fun h3 => ?_)
    · have hf := it_f h3 hf
      refine lv_iconst (v := 0) hx hb (dg ddX5_join 18 rfl) (by decide) ?_
      cases hf
      exact e_wi CX hr hlk rfl hP hD hS (dg ddX5_join 19 rfl)
    · have hf := it_t h3 hf
      refine lv_aload_n hx hb (dg ddX5_join 11 rfl) rfl (lv_at hl 0 rfl) ?_
      refine lv_iconst (v := 2) hx hb (dg ddX5_join 12 rfl) (by decide) ?_
      refine lv_aload_n hx hb (dg ddX5_join 13 rfl) rfl (lv_at hl 0 rfl) ?_
      refine lv_iload_n hx hb (dg ddX5_join 14 rfl) rfl (lv_at hl 1 rfl) ?_
      obtain ⟨r5, e4, hf⟩ := ob_some hf
      refine crw_vi CX hml (As := [.int a1]) (rest := [.int 2, .ref (q 0)]) (c_X5_isJoinRefused l D cy q r2.2 m_kept m_rea m_det m_isv m_iit m_len m_at m_err m_wro m_cmd m_to1 m_to2 m_now m_sav m_ahe m_bef m_hst m_noi m_own m_inp a1 _ e4) lk_RX5_128 rfl rfl hRMX5_isJoinRefused hP hD hS hA hK hN 0 rfl rfl rfl hl.1 rfl (Nat.le_of_ble_eq_true rfl) ⟨Nat.le_of_ble_eq_true rfl, Nat.le_of_ble_eq_true rfl⟩ (dg ddX5_join 15 rfl) (fun H locs hP hD hS => ?_)
      obtain ⟨r7, e6, hf⟩ := ob_some hf
      refine crw_vi CX hml (As := [.int 2, .int r5.1]) (rest := []) (c_X5_fails l D cy q r2.2 m_kept r5.2.1 r5.2.2 m_isv m_iit m_len m_at m_err m_wro m_cmd m_to1 m_to2 m_now m_sav m_ahe m_bef m_hst m_noi m_own m_inp 2 r5.1 _ e6) lk_RX5_81 rfl rfl hRMX5_fails hP hD hS hA hK hN 0 rfl rfl rfl hl.1 rfl (Nat.le_of_ble_eq_true rfl) ⟨Nat.le_of_ble_eq_true rfl, Nat.le_of_ble_eq_true rfl⟩ (dg ddX5_join 16 rfl) (fun H locs hP hD hS => ?_)
      refine lv_if_eq (tgt := 36) hx hb (dg ddX5_join 17 rfl) (by decide) (fun h8 => ?_) (fun h8 => ?_)
      · have hf := it_t h8 hf
        refine lv_aload_n hx hb (dg ddX5_join 20 rfl) rfl (lv_at hl 0 rfl) ?_
        obtain ⟨r10, e9, hf⟩ := ob_some hf
        refine crw_vv CX hml (As := []) (rest := []) (c_X5_change l D cy q r7.2 m_kept r5.2.1 r5.2.2 m_isv m_iit m_len m_at m_err m_wro m_cmd m_to1 m_to2 m_now m_sav m_ahe m_bef m_hst m_noi m_own m_inp _ e9) lk_RX5_85 rfl rfl hRMX5_change hP hD hS hA hK hN 0 rfl rfl rfl hl.1 rfl (Nat.le_of_ble_eq_true rfl) ⟨Nat.le_of_ble_eq_true rfl, Nat.le_of_ble_eq_true rfl⟩ (dg ddX5_join 21 rfl) (fun H locs hP hD hS => ?_)
        refine lv_aload_n hx hb (dg ddX5_join 22 rfl) rfl (lv_at hl 0 rfl) ?_
        refine gf_RX5_9 CX hK hP 0 rfl rfl (dg ddX5_join 23 rfl) ?_
        refine lv_bipush (v := 104) hx hb (dg ddX5_join 24 rfl) (by decide) ?_
        refine lv_aload_n hx hb (dg ddX5_join 25 rfl) rfl (lv_at hl 0 rfl) ?_
        refine gf_RX5_9 CX hK hP 0 rfl rfl (dg ddX5_join 26 rfl) ?_
        refine lv_iconst (v := 3) hx hb (dg ddX5_join 27 rfl) (by decide) ?_
        obtain ⟨h11, hf⟩ := og_some hf
        refine va_iald hx hb hK hP 1 0 rfl rfl (inb_in h11) (dg ddX5_join 28 rfl) ?_
        refine lv_iadd hx hb (dg ddX5_join 29 rfl) ?_
        refine lv_iload_n hx hb (dg ddX5_join 30 rfl) rfl (lv_at hl 1 rfl) ?_
        obtain ⟨h12, hf⟩ := og_some hf
        refine va_iast hx hb hK hP hD hS 1 0 rfl rfl (inb_in h12) (dg ddX5_join 31 rfl) (fun H locs hP hD hS => ?_)
        have hP : va_P D vwCl (wX5 q cy r7.2 r10.1 r5.2.1 r5.2.2 m_isv m_iit m_len m_at m_err m_wro m_cmd m_to1 m_to2 (upd m_now (104 + (m_now (3 : Int32).toNatClampNeg)).toNatClampNeg a1) m_sav m_ahe m_bef r10.2 m_noi m_own m_inp) H := hP
        have hD : va_D A (wX5 q cy r7.2 r10.1 r5.2.1 r5.2.2 m_isv m_iit m_len m_at m_err m_wro m_cmd m_to1 m_to2 (upd m_now (104 + (m_now (3 : Int32).toNatClampNeg)).toNatClampNeg a1) m_sav m_ahe m_bef r10.2 m_noi m_own m_inp) := hD
        refine lv_aload_n hx hb (dg ddX5_join 32 rfl) rfl (lv_at hl 0 rfl) ?_
        refine gf_RX5_9 CX hK hP 0 rfl rfl (dg ddX5_join 33 rfl) ?_
        refine lv_iconst (v := 3) hx hb (dg ddX5_join 34 rfl) (by decide) ?_
        refine lv_dup2_11 hx hb (dg ddX5_join 35 rfl) rfl rfl ?_
        obtain ⟨h13, hf⟩ := og_some hf
        refine va_iald hx hb hK hP 1 0 rfl rfl (inb_in h13) (dg ddX5_join 36 rfl) ?_
        refine lv_iconst (v := 1) hx hb (dg ddX5_join 37 rfl) (by decide) ?_
        refine lv_iadd hx hb (dg ddX5_join 38 rfl) ?_
        obtain ⟨h14, hf⟩ := og_some hf
        refine va_iast hx hb hK hP hD hS 1 0 rfl rfl (inb_in h14) (dg ddX5_join 39 rfl) (fun H locs hP hD hS => ?_)
        have hP : va_P D vwCl (wX5 q cy r7.2 r10.1 r5.2.1 r5.2.2 m_isv m_iit m_len m_at m_err m_wro m_cmd m_to1 m_to2 (upd (upd m_now (104 + (m_now (3 : Int32).toNatClampNeg)).toNatClampNeg a1) (3 : Int32).toNatClampNeg (((upd m_now (104 + (m_now (3 : Int32).toNatClampNeg)).toNatClampNeg a1) (3 : Int32).toNatClampNeg) + 1)) m_sav m_ahe m_bef r10.2 m_noi m_own m_inp) H := hP
        have hD : va_D A (wX5 q cy r7.2 r10.1 r5.2.1 r5.2.2 m_isv m_iit m_len m_at m_err m_wro m_cmd m_to1 m_to2 (upd (upd m_now (104 + (m_now (3 : Int32).toNatClampNeg)).toNatClampNeg a1) (3 : Int32).toNatClampNeg (((upd m_now (104 + (m_now (3 : Int32).toNatClampNeg)).toNatClampNeg a1) (3 : Int32).toNatClampNeg) + 1)) m_sav m_ahe m_bef r10.2 m_noi m_own m_inp) := hD
        refine lv_aload_n hx hb (dg ddX5_join 40 rfl) rfl (lv_at hl 0 rfl) ?_
        refine gf_RX5_9 CX hK hP 0 rfl rfl (dg ddX5_join 41 rfl) ?_
        refine lv_iconst (v := 3) hx hb (dg ddX5_join 42 rfl) (by decide) ?_
        obtain ⟨h15, hf⟩ := og_some hf
        refine va_iald hx hb hK hP 1 0 rfl rfl (inb_in h15) (dg ddX5_join 43 rfl) ?_
        cases hf
        exact e_wi CX hr hlk rfl hP hD hS (dg ddX5_join 44 rfl)
      · have hf := it_f h8 hf
        refine lv_iconst (v := 0) hx hb (dg ddX5_join 18 rfl) (by decide) ?_
        cases hf
        exact e_wi CX hr hlk rfl hP hD hS (dg ddX5_join 19 rfl)
  refine lv_aload_n hx hb (dg ddX5_join 0 rfl) rfl (lv_at hl 0 rfl) ?_
  refine lv_iconst (v := 1) hx hb (dg ddX5_join 1 rfl) (by decide) ?_
  refine lv_aload_n hx hb (dg ddX5_join 2 rfl) rfl (lv_at hl 0 rfl) ?_
  refine lv_iload_n hx hb (dg ddX5_join 3 rfl) rfl (lv_at hl 1 rfl) ?_
  obtain ⟨r2, e1, hf⟩ := ob_some hf
  refine cro_vi CX hml (As := [.int a1]) (rest := [.int 1, .ref (q 0)]) (c_X5_isBusker l D cy q m_thr m_kept m_rea m_det m_isv m_iit m_len m_at m_err m_wro m_cmd m_to1 m_to2 m_now m_sav m_ahe m_bef m_hst m_noi m_own m_inp a1 e1) lk_RX5_114 rfl rfl hRMX5_isBusker hP hK hN 0 rfl rfl rfl hl.1 rfl (Nat.le_of_ble_eq_true rfl) ⟨Nat.le_of_ble_eq_true rfl, Nat.le_of_ble_eq_true rfl⟩ (dg ddX5_join 4 rfl) ?_
  refine lv_if_ne (tgt := 14) hx hb (dg ddX5_join 5 rfl) (by decide) (fun h3 => ?_) (fun h3 => ?_)
  · have hf := it_f h3 hf
    refine lv_iconst (v := 0) hx hb (dg ddX5_join 8 rfl) (by decide) ?_
    exact K15  0 1 m_thr m_kept m_rea m_det m_now m_hst _ _ hP hD hS _ (lv_sub hl [0, 1] rfl) hf
  · have hf := it_t h3 hf
    refine lv_iconst (v := 1) hx hb (dg ddX5_join 6 rfl) (by decide) ?_
    refine lv_goto (tgt := 15) hx hb (dg ddX5_join 7 rfl) (by decide) ?_
    exact K15  1 1 m_thr m_kept m_rea m_det m_now m_hst _ _ hP hD hS _ (lv_sub hl [0, 1] rfl) hf
def f_X5_isDrawRefused_c41  (m_now : Nat → Int32) (t0 : Int32) (m_rea : Int32) (m_det : Int32) : Option (Int32 × Int32 × Int32) := ob (f_X5_refuse m_rea m_det t0 6 0) fun r2 => (if r2.1 = 0 then (some (0, r2.2.1, r2.2.2)) else (some (1, r2.2.1, r2.2.2)))
def f_X5_isDrawRefused_c18  (m_now : Nat → Int32) (x2 : Int32) (t0 : Int32) (m_rea : Int32) (m_det : Int32) : Option (Int32 × Int32 × Int32) := ob (f_X5_refuse m_rea m_det t0 5 x2) fun r2 => (if r2.1 = 0 then (og (inb 3 112) (if (m_now (3 : Int32).toNatClampNeg) = 0 then (f_X5_isDrawRefused_c41 m_now 1 r2.2.1 r2.2.2) else (f_X5_isDrawRefused_c41 m_now 0 r2.2.1 r2.2.2))) else (some (1, r2.2.1, r2.2.2)))
def f_X5_isDrawRefused (m_rea : Int32) (m_det : Int32) (m_now : Nat → Int32) (a1 : Int32) : Option (Int32 × Int32 × Int32) := ob (f_X5_ofPitch m_now a1 3) fun r2 => (if r2 = (-1) then (f_X5_isDrawRefused_c18 m_now r2 0 m_rea m_det) else (f_X5_isDrawRefused_c18 m_now r2 1 m_rea m_det))
set_option maxHeartbeats 4000000 in
set_option maxRecDepth 100000 in
theorem c_X5_isDrawRefused (l : Launch) (D : va_G) (cy : Nat → ClassId) (q : Nat → Nat) (m_thr : Int32) (m_kept : Int32) (m_rea : Int32) (m_det : Int32) (m_isv : Int32) (m_iit : Int32) (m_len : Int32) (m_at : Int32) (m_err : Int32) (m_wro : Int32) (m_cmd : Int32) (m_to1 : Int32) (m_to2 : Int32) (m_now : Nat → Int32) (m_sav : Nat → Int32) (m_ahe : Nat → Int32) (m_bef : Nat → Int32) (m_hst : Nat → Nat → Int32) (m_noi : Nat → UInt32) (m_own : Nat → UInt32) (m_inp : Nat → Int32) (a1 : Int32) (sz : Nat) {res : Int32 × Int32 × Int32} (hf : f_X5_isDrawRefused m_rea m_det m_now a1 = some res) : Met l yX5_isDrawRefused (.code yX5_isDrawRefused cX5_isDrawRefused 3 (some .boolean) :: lw_all) { frames := 2, cells := 0, slots := 0, locals := 35 } (va_Pc [.ref (q 0), .int a1] (sW D cy (wX5 q cy m_thr m_kept m_rea m_det m_isv m_iit m_len m_at m_err m_wro m_cmd m_to1 m_to2 m_now m_sav m_ahe m_bef m_hst m_noi m_own m_inp) sz)) (qI D (wX5 q cy m_thr m_kept res.2.1 res.2.2 m_isv m_iit m_len m_at m_err m_wro m_cmd m_to1 m_to2 m_now m_sav m_ahe m_bef m_hst m_noi m_own m_inp) res.1 (va_A (wX5 q cy m_thr m_kept m_rea m_det m_isv m_iit m_len m_at m_err m_wro m_cmd m_to1 m_to2 m_now m_sav m_ahe m_bef m_hst m_noi m_own m_inp) sz)) 0 0 (va_A (wX5 q cy m_thr m_kept m_rea m_det m_isv m_iit m_len m_at m_err m_wro m_cmd m_to1 m_to2 m_now m_sav m_ahe m_bef m_hst m_noi m_own m_inp) sz) := by
  refine mk_rw (Qc := qI D (wX5 q cy m_thr m_kept res.2.1 res.2.2 m_isv m_iit m_len m_at m_err m_wro m_cmd m_to1 m_to2 m_now m_sav m_ahe m_bef m_hst m_noi m_own m_inp) res.1) (Rc := RX5) (by decide +kernel) rfl (Nat.le_of_ble_eq_true rfl) ?_
  intro p e s m args below meth c ls A CX hml hr hlk hK hN hP hD hS hA hl
  have hx := CX.1
  have hb := CX.2.1
  have hRMX5_ofPitch : (⟨1, 0, 0, 12⟩ : Room).frames + 1 ≤ (⟨2, 0, 0, 35⟩ : Room).frames ∧ 8 + (3 + 11) + (⟨1, 0, 0, 12⟩ : Room).locals ≤ (⟨2, 0, 0, 35⟩ : Room).locals := ⟨Nat.le_of_ble_eq_true rfl, Nat.le_of_ble_eq_true rfl⟩
  have hRMX5_refuse : (⟨1, 0, 0, 12⟩ : Room).frames + 1 ≤ (⟨2, 0, 0, 35⟩ : Room).frames ∧ 8 + (4 + 11) + (⟨1, 0, 0, 12⟩ : Room).locals ≤ (⟨2, 0, 0, 35⟩ : Room).locals := ⟨Nat.le_of_ble_eq_true rfl, Nat.le_of_ble_eq_true rfl⟩
  have hl0 := hl
  have K41 : ∀ (t0 : Int32) (m_rea : Int32) (m_det : Int32) (H : Heap) (locs : List Loc) (hP : va_P D vwCl (wX5 q cy m_thr m_kept m_rea m_det m_isv m_iit m_len m_at m_err m_wro m_cmd m_to1 m_to2 m_now m_sav m_ahe m_bef m_hst m_noi m_own m_inp) H) (hD : va_D A (wX5 q cy m_thr m_kept m_rea m_det m_isv m_iit m_len m_at m_err m_wro m_cmd m_to1 m_to2 m_now m_sav m_ahe m_bef m_hst m_noi m_own m_inp)) (hS : va_S A s.heap H locs) (ls : Array Slot) (hl : lv_has ls 3 []) (hf : f_X5_isDrawRefused_c41 m_now t0 m_rea m_det = some res), W p l e ⟨2, 0, 0, 35⟩ s m args below meth c H locs 0 0 (MQ below (qI D (wX5 q cy m_thr m_kept res.2.1 res.2.2 m_isv m_iit m_len m_at m_err m_wro m_cmd m_to1 m_to2 m_now m_sav m_ahe m_bef m_hst m_noi m_own m_inp) res.1 A) args s 0 0 A) (F0 m 41 ls [.int t0, .ref (q 0)]) := by
    intro t0 m_rea m_det H locs hP hD hS ls hl hf
    refine lv_bipush (v := 6) hx hb (dg ddX5_isDrawRefused 25 rfl) (by decide) ?_
    refine lv_iconst (v := 0) hx hb (dg ddX5_isDrawRefused 26 rfl) (by decide) ?_
    obtain ⟨r2, e1, hf⟩ := ob_some hf
    refine crw_vi CX hml (As := [.int t0, .int 6, .int 0]) (rest := []) (c_X5_refuse l D cy q m_thr m_kept m_rea m_det m_isv m_iit m_len m_at m_err m_wro m_cmd m_to1 m_to2 m_now m_sav m_ahe m_bef m_hst m_noi m_own m_inp t0 6 0 _ e1) lk_RX5_106 rfl rfl hRMX5_refuse hP hD hS hA hK hN 0 rfl rfl rfl hl.1 rfl (Nat.le_of_ble_eq_true rfl) ⟨Nat.le_of_ble_eq_true rfl, Nat.le_of_ble_eq_true rfl⟩ (dg ddX5_isDrawRefused 27 rfl) (fun H locs hP hD hS => ?_)
    refine lv_if_eq (tgt := 54) hx hb (dg ddX5_isDrawRefused 28 rfl) (by decide) (fun h3 => ?_) (fun h3 => ?_)
    · have hf := it_t h3 hf
      refine lv_iconst (v := 0) hx hb (dg ddX5_isDrawRefused 31 rfl) (by decide) ?_
      cases hf
      exact e_wz CX hr hlk (by decide) rfl hP hD hS (dg ddX5_isDrawRefused 32 rfl)
    · have hf := it_f h3 hf
      refine lv_iconst (v := 1) hx hb (dg ddX5_isDrawRefused 29 rfl) (by decide) ?_
      refine lv_goto (tgt := 55) hx hb (dg ddX5_isDrawRefused 30 rfl) (by decide) ?_
      cases hf
      exact e_wz CX hr hlk (by decide) rfl hP hD hS (dg ddX5_isDrawRefused 32 rfl)
  have K18 : ∀ (x2 : Int32) (t0 : Int32) (m_rea : Int32) (m_det : Int32) (H : Heap) (locs : List Loc) (hP : va_P D vwCl (wX5 q cy m_thr m_kept m_rea m_det m_isv m_iit m_len m_at m_err m_wro m_cmd m_to1 m_to2 m_now m_sav m_ahe m_bef m_hst m_noi m_own m_inp) H) (hD : va_D A (wX5 q cy m_thr m_kept m_rea m_det m_isv m_iit m_len m_at m_err m_wro m_cmd m_to1 m_to2 m_now m_sav m_ahe m_bef m_hst m_noi m_own m_inp)) (hS : va_S A s.heap H locs) (ls : Array Slot) (hl : lv_has ls 3 [(0, .ref (q 0)), (2, .int x2)]) (hf : f_X5_isDrawRefused_c18 m_now x2 t0 m_rea m_det = some res), W p l e ⟨2, 0, 0, 35⟩ s m args below meth c H locs 0 0 (MQ below (qI D (wX5 q cy m_thr m_kept res.2.1 res.2.2 m_isv m_iit m_len m_at m_err m_wro m_cmd m_to1 m_to2 m_now m_sav m_ahe m_bef m_hst m_noi m_own m_inp) res.1 A) args s 0 0 A) (F0 m 18 ls [.int t0, .ref (q 0)]) := by
    intro x2 t0 m_rea m_det H locs hP hD hS ls hl hf
    refine lv_iconst (v := 5) hx hb (dg ddX5_isDrawRefused 12 rfl) (by decide) ?_
    refine lv_iload_n hx hb (dg ddX5_isDrawRefused 13 rfl) rfl (lv_at hl 1 rfl) ?_
    obtain ⟨r2, e1, hf⟩ := ob_some hf
    refine crw_vi CX hml (As := [.int t0, .int 5, .int x2]) (rest := []) (c_X5_refuse l D cy q m_thr m_kept m_rea m_det m_isv m_iit m_len m_at m_err m_wro m_cmd m_to1 m_to2 m_now m_sav m_ahe m_bef m_hst m_noi m_own m_inp t0 5 x2 _ e1) lk_RX5_106 rfl rfl hRMX5_refuse hP hD hS hA hK hN 0 rfl rfl rfl hl.1 rfl (Nat.le_of_ble_eq_true rfl) ⟨Nat.le_of_ble_eq_true rfl, Nat.le_of_ble_eq_true rfl⟩ (dg ddX5_isDrawRefused 14 rfl) (fun H locs hP hD hS => ?_)
    refine lv_if_ne (tgt := 50) hx hb (dg ddX5_isDrawRefused 15 rfl) (by decide) (fun h3 => ?_) (fun h3 => ?_)
    · have hf := it_f h3 hf
      refine lv_iconst (v := 1) hx hb (dg ddX5_isDrawRefused 29 rfl) (by decide) ?_
      refine lv_goto (tgt := 55) hx hb (dg ddX5_isDrawRefused 30 rfl) (by decide) ?_
      cases hf
      exact e_wz CX hr hlk (by decide) rfl hP hD hS (dg ddX5_isDrawRefused 32 rfl)
    · have hf := it_t h3 hf
      refine lv_aload_n hx hb (dg ddX5_isDrawRefused 16 rfl) rfl (lv_at hl 0 rfl) ?_
      refine lv_aload_n hx hb (dg ddX5_isDrawRefused 17 rfl) rfl (lv_at hl 0 rfl) ?_
      refine gf_RX5_9 CX hK hP 0 rfl rfl (dg ddX5_isDrawRefused 18 rfl) ?_
      refine lv_iconst (v := 3) hx hb (dg ddX5_isDrawRefused 19 rfl) (by decide) ?_
      obtain ⟨h4, hf⟩ := og_some hf
      refine va_iald hx hb hK hP 1 0 rfl rfl (inb_in h4) (dg ddX5_isDrawRefused 20 rfl) ?_
      refine lv_if_ne (tgt := 40) hx hb (dg ddX5_isDrawRefused 21 rfl) (by decide) (fun h5 => ?_) (fun h5 => ?_)
      · have hf := it_f h5 hf
        refine lv_iconst (v := 0) hx hb (dg ddX5_isDrawRefused 24 rfl) (by decide) ?_
        exact K41  0 r2.2.1 r2.2.2 _ _ hP hD hS _ (lv_sub hl [] rfl) hf
      · have hf := it_t h5 hf
        refine lv_iconst (v := 1) hx hb (dg ddX5_isDrawRefused 22 rfl) (by decide) ?_
        refine lv_goto (tgt := 41) hx hb (dg ddX5_isDrawRefused 23 rfl) (by decide) ?_
        exact K41  1 r2.2.1 r2.2.2 _ _ hP hD hS _ (lv_sub hl [] rfl) hf
  refine lv_aload_n hx hb (dg ddX5_isDrawRefused 0 rfl) rfl (lv_at hl 0 rfl) ?_
  refine lv_iload_n hx hb (dg ddX5_isDrawRefused 1 rfl) rfl (lv_at hl 1 rfl) ?_
  refine lv_iconst (v := 3) hx hb (dg ddX5_isDrawRefused 2 rfl) (by decide) ?_
  obtain ⟨r2, e1, hf⟩ := ob_some hf
  refine cro_vi CX hml (As := [.int a1, .int 3]) (rest := []) (c_X5_ofPitch l D cy q m_thr m_kept m_rea m_det m_isv m_iit m_len m_at m_err m_wro m_cmd m_to1 m_to2 m_now m_sav m_ahe m_bef m_hst m_noi m_own m_inp a1 3 e1) lk_RX5_88 rfl rfl hRMX5_ofPitch hP hK hN 0 rfl rfl rfl hl.1 rfl (Nat.le_of_ble_eq_true rfl) ⟨Nat.le_of_ble_eq_true rfl, Nat.le_of_ble_eq_true rfl⟩ (dg ddX5_isDrawRefused 3 rfl) ?_
  refine lv_istore_n (lv' := [(2, .int r2), (0, .ref (q 0)), (1, .int a1)]) hx hb (dg ddX5_isDrawRefused 4 rfl) rfl hl (by decide) rfl (fun ls hl => ?_)
  refine lv_aload_n hx hb (dg ddX5_isDrawRefused 5 rfl) rfl (lv_at hl 1 rfl) ?_
  refine lv_iload_n hx hb (dg ddX5_isDrawRefused 6 rfl) rfl (lv_at hl 0 rfl) ?_
  refine lv_iconst (v := (-1)) hx hb (dg ddX5_isDrawRefused 7 rfl) (by decide) ?_
  refine lv_icmp_eq (tgt := 17) hx hb (dg ddX5_isDrawRefused 8 rfl) (by decide) (fun h3 => ?_) (fun h3 => ?_)
  · have hf := it_t h3 hf
    refine lv_iconst (v := 0) hx hb (dg ddX5_isDrawRefused 11 rfl) (by decide) ?_
    exact K18  r2 0 m_rea m_det _ _ hP hD hS _ (lv_sub hl [1, 0] rfl) hf
  · have hf := it_f h3 hf
    refine lv_iconst (v := 1) hx hb (dg ddX5_isDrawRefused 9 rfl) (by decide) ?_
    refine lv_goto (tgt := 18) hx hb (dg ddX5_isDrawRefused 10 rfl) (by decide) ?_
    exact K18  r2 1 m_rea m_det _ _ hP hD hS _ (lv_sub hl [1, 0] rfl) hf
def f_X5_draw_c95  (m_iit : Int32) (a1 : Int32) : Nat → Int32 → Int32 → Int32 → Int32 → Int32 → Int32 → (Nat → Int32) → (Nat → Nat → Int32) → Option (Int32 × Int32 × Int32 × Int32 × Int32 × (Nat → Int32) × (Nat → Nat → Int32))
  | 0, _, _, _, _, _, _, _, _ => none
  | n + 1, x4, x5, m_thr, m_kept, m_rea, m_det, m_now, m_hst => og (inb 3 112) (if (m_now (3 : Int32).toNatClampNeg) ≤ x5 then (ob (f_X5_putPitch m_now a1 3 x4) fun r4 => (ob (f_X5_put r4 x4 4 a1) fun r6 => (og (inb 7 112) (og (inb 7 112) (some (x4, m_thr, m_kept, m_rea, m_det, (upd r6 (7 : Int32).toNatClampNeg ((r6 (7 : Int32).toNatClampNeg) + 1)), m_hst)))))) else (og (inb ((104 + x5) + 1) 112) (og (inb (104 + x5) 112) (f_X5_draw_c95 m_iit a1 n x4 (x5 + 1) m_thr m_kept m_rea m_det (upd m_now (104 + x5).toNatClampNeg (m_now ((104 + x5) + 1).toNatClampNeg)) m_hst))))
def f_X5_draw_c37  (m_iit : Int32) (a1 : Int32) (a2 : Int32) (t0 : Int32) (t1 : Int32) (m_thr : Int32) (m_kept : Int32) (m_rea : Int32) (m_det : Int32) (m_now : Nat → Int32) (m_hst : Nat → Nat → Int32) : Option (Int32 × Int32 × Int32 × Int32 × Int32 × (Nat → Int32) × (Nat → Nat → Int32)) := ob (f_X5_fails m_thr t1 t0) fun r2 => (if r2.1 = 0 then (ob (f_X5_isDrawRefused m_rea m_det m_now a1) fun r5 => (ob (f_X5_fails r2.2 3 r5.1) fun r7 => (if r7.1 = 0 then (ob (f_X5_change m_kept m_iit m_now m_hst) fun r10 => (og (inb 3 112) (og (nz (m_now (3 : Int32).toNatClampNeg)) (og (inb (104 + (a2 - a2 / (m_now (3 : Int32).toNatClampNeg) * (m_now (3 : Int32).toNatClampNeg))) 112) (og (inb 3 112) (og (inb 3 112) (f_X5_draw_c95 m_iit a1 4096 (m_now (104 + (a2 - a2 / (m_now (3 : Int32).toNatClampNeg) * (m_now (3 : Int32).toNatClampNeg))).toNatClampNeg) (a2 - a2 / (m_now (3 : Int32).toNatClampNeg) * (m_now (3 : Int32).toNatClampNeg)) r7.2 r10.1 r5.2.1 r5.2.2 (upd m_now (3 : Int32).toNatClampNeg ((m_now (3 : Int32).toNatClampNeg) - 1)) r10.2))))))) else (some (0, r7.2, m_kept, r5.2.1, r5.2.2, m_now, m_hst))))) else (some (0, r2.2, m_kept, m_rea, m_det, m_now, m_hst)))
def f_X5_draw_c14  (m_iit : Int32) (a1 : Int32) (a2 : Int32) (t0 : Int32) (t1 : Int32) (m_thr : Int32) (m_kept : Int32) (m_rea : Int32) (m_det : Int32) (m_now : Nat → Int32) (m_hst : Nat → Nat → Int32) : Option (Int32 × Int32 × Int32 × Int32 × Int32 × (Nat → Int32) × (Nat → Nat → Int32)) := ob (f_X5_fails m_thr t1 t0) fun r2 => (if r2.1 = 0 then (ob (f_X5_isBetween a2 0 99) fun r5 => (if r5 = 0 then (f_X5_draw_c37 m_iit a1 a2 1 2 r2.2 m_kept m_rea m_det m_now m_hst) else (f_X5_draw_c37 m_iit a1 a2 0 2 r2.2 m_kept m_rea m_det m_now m_hst))) else (some (0, r2.2, m_kept, m_rea, m_det, m_now, m_hst)))
def f_X5_draw (m_thr : Int32) (m_kept : Int32) (m_rea : Int32) (m_det : Int32) (m_iit : Int32) (m_now : Nat → Int32) (m_hst : Nat → Nat → Int32) (a1 : Int32) (a2 : Int32) : Option (Int32 × Int32 × Int32 × Int32 × Int32 × (Nat → Int32) × (Nat → Nat → Int32)) := ob (f_X5_isPitch a1) fun r2 => (if r2 = 0 then (f_X5_draw_c14 m_iit a1 a2 1 1 m_thr m_kept m_rea m_det m_now m_hst) else (f_X5_draw_c14 m_iit a1 a2 0 1 m_thr m_kept m_rea m_det m_now m_hst))
set_option maxHeartbeats 4000000 in
set_option maxRecDepth 100000 in
theorem c_X5_draw (l : Launch) (D : va_G) (cy : Nat → ClassId) (q : Nat → Nat) (m_thr : Int32) (m_kept : Int32) (m_rea : Int32) (m_det : Int32) (m_isv : Int32) (m_iit : Int32) (m_len : Int32) (m_at : Int32) (m_err : Int32) (m_wro : Int32) (m_cmd : Int32) (m_to1 : Int32) (m_to2 : Int32) (m_now : Nat → Int32) (m_sav : Nat → Int32) (m_ahe : Nat → Int32) (m_bef : Nat → Int32) (m_hst : Nat → Nat → Int32) (m_noi : Nat → UInt32) (m_own : Nat → UInt32) (m_inp : Nat → Int32) (a1 : Int32) (a2 : Int32) (sz : Nat) {res : Int32 × Int32 × Int32 × Int32 × Int32 × (Nat → Int32) × (Nat → Nat → Int32)} (hf : f_X5_draw m_thr m_kept m_rea m_det m_iit m_now m_hst a1 a2 = some res) : Met l yX5_draw (.code yX5_draw cX5_draw 6 (some .int) :: lw_all) { frames := 4, cells := 0, slots := 0, locals := 76 } (va_Pc [.ref (q 0), .int a1, .int a2] (sW D cy (wX5 q cy m_thr m_kept m_rea m_det m_isv m_iit m_len m_at m_err m_wro m_cmd m_to1 m_to2 m_now m_sav m_ahe m_bef m_hst m_noi m_own m_inp) sz)) (qI D (wX5 q cy res.2.1 res.2.2.1 res.2.2.2.1 res.2.2.2.2.1 m_isv m_iit m_len m_at m_err m_wro m_cmd m_to1 m_to2 res.2.2.2.2.2.1 m_sav m_ahe m_bef res.2.2.2.2.2.2 m_noi m_own m_inp) res.1 (va_A (wX5 q cy m_thr m_kept m_rea m_det m_isv m_iit m_len m_at m_err m_wro m_cmd m_to1 m_to2 m_now m_sav m_ahe m_bef m_hst m_noi m_own m_inp) sz)) 0 0 (va_A (wX5 q cy m_thr m_kept m_rea m_det m_isv m_iit m_len m_at m_err m_wro m_cmd m_to1 m_to2 m_now m_sav m_ahe m_bef m_hst m_noi m_own m_inp) sz) := by
  refine mk_rw (Qc := qI D (wX5 q cy res.2.1 res.2.2.1 res.2.2.2.1 res.2.2.2.2.1 m_isv m_iit m_len m_at m_err m_wro m_cmd m_to1 m_to2 res.2.2.2.2.2.1 m_sav m_ahe m_bef res.2.2.2.2.2.2 m_noi m_own m_inp) res.1) (Rc := RX5) (by decide +kernel) rfl (Nat.le_of_ble_eq_true rfl) ?_
  intro p e s m args below meth c ls A CX hml hr hlk hK hN hP hD hS hA hl
  have hx := CX.1
  have hb := CX.2.1
  have hRMX5_change : (⟨3, 0, 0, 56⟩ : Room).frames + 1 ≤ (⟨4, 0, 0, 76⟩ : Room).frames ∧ 8 + (1 + 11) + (⟨3, 0, 0, 56⟩ : Room).locals ≤ (⟨4, 0, 0, 76⟩ : Room).locals := ⟨Nat.le_of_ble_eq_true rfl, Nat.le_of_ble_eq_true rfl⟩
  have hRMX5_fails : (⟨1, 0, 0, 12⟩ : Room).frames + 1 ≤ (⟨4, 0, 0, 76⟩ : Room).frames ∧ 8 + (3 + 11) + (⟨1, 0, 0, 12⟩ : Room).locals ≤ (⟨4, 0, 0, 76⟩ : Room).locals := ⟨Nat.le_of_ble_eq_true rfl, Nat.le_of_ble_eq_true rfl⟩
  have hRMX5_isBetween : (⟨1, 0, 0, 12⟩ : Room).frames + 1 ≤ (⟨4, 0, 0, 76⟩ : Room).frames ∧ 8 + (3 + 11) + (⟨1, 0, 0, 12⟩ : Room).locals ≤ (⟨4, 0, 0, 76⟩ : Room).locals := ⟨Nat.le_of_ble_eq_true rfl, Nat.le_of_ble_eq_true rfl⟩
  have hRMX5_isDrawRefused : (⟨2, 0, 0, 35⟩ : Room).frames + 1 ≤ (⟨4, 0, 0, 76⟩ : Room).frames ∧ 8 + (3 + 11) + (⟨2, 0, 0, 35⟩ : Room).locals ≤ (⟨4, 0, 0, 76⟩ : Room).locals := ⟨Nat.le_of_ble_eq_true rfl, Nat.le_of_ble_eq_true rfl⟩
  have hRMX5_isPitch : (⟨2, 0, 0, 34⟩ : Room).frames + 1 ≤ (⟨4, 0, 0, 76⟩ : Room).frames ∧ 8 + (1 + 11) + (⟨2, 0, 0, 34⟩ : Room).locals ≤ (⟨4, 0, 0, 76⟩ : Room).locals := ⟨Nat.le_of_ble_eq_true rfl, Nat.le_of_ble_eq_true rfl⟩
  have hRMX5_put : (⟨1, 0, 0, 12⟩ : Room).frames + 1 ≤ (⟨4, 0, 0, 76⟩ : Room).frames ∧ 8 + (4 + 11) + (⟨1, 0, 0, 12⟩ : Room).locals ≤ (⟨4, 0, 0, 76⟩ : Room).locals := ⟨Nat.le_of_ble_eq_true rfl, Nat.le_of_ble_eq_true rfl⟩
  have hRMX5_putPitch : (⟨1, 0, 0, 12⟩ : Room).frames + 1 ≤ (⟨4, 0, 0, 76⟩ : Room).frames ∧ 8 + (4 + 11) + (⟨1, 0, 0, 12⟩ : Room).locals ≤ (⟨4, 0, 0, 76⟩ : Room).locals := ⟨Nat.le_of_ble_eq_true rfl, Nat.le_of_ble_eq_true rfl⟩
  have hl0 := hl
  have K95 : ∀ (n : Nat), ∀ (x4 : Int32) (x5 : Int32) (m_thr : Int32) (m_kept : Int32) (m_rea : Int32) (m_det : Int32) (m_now : Nat → Int32) (m_hst : Nat → Nat → Int32) (H : Heap) (locs : List Loc) (hP : va_P D vwCl (wX5 q cy m_thr m_kept m_rea m_det m_isv m_iit m_len m_at m_err m_wro m_cmd m_to1 m_to2 m_now m_sav m_ahe m_bef m_hst m_noi m_own m_inp) H) (hD : va_D A (wX5 q cy m_thr m_kept m_rea m_det m_isv m_iit m_len m_at m_err m_wro m_cmd m_to1 m_to2 m_now m_sav m_ahe m_bef m_hst m_noi m_own m_inp)) (hS : va_S A s.heap H locs) (ls : Array Slot) (hl : lv_has ls 6 [(0, .ref (q 0)), (1, .int a1), (4, .int x4), (5, .int x5)]) (hf : f_X5_draw_c95 m_iit a1 n x4 x5 m_thr m_kept m_rea m_det m_now m_hst = some res), W p l e ⟨4, 0, 0, 76⟩ s m args below meth c H locs 0 0 (MQ below (qI D (wX5 q cy res.2.1 res.2.2.1 res.2.2.2.1 res.2.2.2.2.1 m_isv m_iit m_len m_at m_err m_wro m_cmd m_to1 m_to2 res.2.2.2.2.2.1 m_sav m_ahe m_bef res.2.2.2.2.2.2 m_noi m_own m_inp) res.1 A) args s 0 0 A) (F0 m 95 ls []) := by
    intro n
    induction n with
    | zero => intro x4 x5 m_thr m_kept m_rea m_det m_now m_hst H locs hP hD hS ls hl hf; cases (show none = some res from hf)
    | succ n ih =>
    intro x4 x5 m_thr m_kept m_rea m_det m_now m_hst H locs hP hD hS ls hl hf
    refine lv_iload hx hb (dg ddX5_draw 57 rfl) (lv_at hl 3 rfl) ?_
    refine lv_aload_n hx hb (dg ddX5_draw 58 rfl) rfl (lv_at hl 0 rfl) ?_
    refine gf_RX5_9 CX hK hP 0 rfl rfl (dg ddX5_draw 59 rfl) ?_
    refine lv_iconst (v := 3) hx hb (dg ddX5_draw 60 rfl) (by decide) ?_
    obtain ⟨h1, hf⟩ := og_some hf
    refine va_iald hx hb hK hP 1 0 rfl rfl (inb_in h1) (dg ddX5_draw 61 rfl) ?_
    refine lv_icmp_ge (tgt := 134) hx hb (dg ddX5_draw 62 rfl) (by decide) (fun h2 => ?_) (fun h2 => ?_)
    · have hf := it_t h2 hf
      refine lv_aload_n hx hb (dg ddX5_draw 79 rfl) rfl (lv_at hl 0 rfl) ?_
      refine lv_iload_n hx hb (dg ddX5_draw 80 rfl) rfl (lv_at hl 1 rfl) ?_
      refine lv_iconst (v := 3) hx hb (dg ddX5_draw 81 rfl) (by decide) ?_
      refine lv_iload hx hb (dg ddX5_draw 82 rfl) (lv_at hl 2 rfl) ?_
      obtain ⟨r4, e3, hf⟩ := ob_some hf
      refine crw_vv CX hml (As := [.int a1, .int 3, .int x4]) (rest := []) (c_X5_putPitch l D cy q m_thr m_kept m_rea m_det m_isv m_iit m_len m_at m_err m_wro m_cmd m_to1 m_to2 m_now m_sav m_ahe m_bef m_hst m_noi m_own m_inp a1 3 x4 _ e3) lk_RX5_49 rfl rfl hRMX5_putPitch hP hD hS hA hK hN 0 rfl rfl rfl hl.1 rfl (Nat.le_of_ble_eq_true rfl) ⟨Nat.le_of_ble_eq_true rfl, Nat.le_of_ble_eq_true rfl⟩ (dg ddX5_draw 83 rfl) (fun H locs hP hD hS => ?_)
      refine lv_aload_n hx hb (dg ddX5_draw 84 rfl) rfl (lv_at hl 0 rfl) ?_
      refine lv_iload hx hb (dg ddX5_draw 85 rfl) (lv_at hl 2 rfl) ?_
      refine lv_iconst (v := 4) hx hb (dg ddX5_draw 86 rfl) (by decide) ?_
      refine lv_iload_n hx hb (dg ddX5_draw 87 rfl) rfl (lv_at hl 1 rfl) ?_
      obtain ⟨r6, e5, hf⟩ := ob_some hf
      refine crw_vv CX hml (As := [.int x4, .int 4, .int a1]) (rest := []) (c_X5_put l D cy q m_thr m_kept m_rea m_det m_isv m_iit m_len m_at m_err m_wro m_cmd m_to1 m_to2 r4 m_sav m_ahe m_bef m_hst m_noi m_own m_inp x4 4 a1 _ e5) lk_RX5_103 rfl rfl hRMX5_put hP hD hS hA hK hN 0 rfl rfl rfl hl.1 rfl (Nat.le_of_ble_eq_true rfl) ⟨Nat.le_of_ble_eq_true rfl, Nat.le_of_ble_eq_true rfl⟩ (dg ddX5_draw 88 rfl) (fun H locs hP hD hS => ?_)
      refine lv_aload_n hx hb (dg ddX5_draw 89 rfl) rfl (lv_at hl 0 rfl) ?_
      refine gf_RX5_9 CX hK hP 0 rfl rfl (dg ddX5_draw 90 rfl) ?_
      refine lv_bipush (v := 7) hx hb (dg ddX5_draw 91 rfl) (by decide) ?_
      refine lv_dup2_11 hx hb (dg ddX5_draw 92 rfl) rfl rfl ?_
      obtain ⟨h7, hf⟩ := og_some hf
      refine va_iald hx hb hK hP 1 0 rfl rfl (inb_in h7) (dg ddX5_draw 93 rfl) ?_
      refine lv_iconst (v := 1) hx hb (dg ddX5_draw 94 rfl) (by decide) ?_
      refine lv_iadd hx hb (dg ddX5_draw 95 rfl) ?_
      obtain ⟨h8, hf⟩ := og_some hf
      refine va_iast hx hb hK hP hD hS 1 0 rfl rfl (inb_in h8) (dg ddX5_draw 96 rfl) (fun H locs hP hD hS => ?_)
      have hP : va_P D vwCl (wX5 q cy m_thr m_kept m_rea m_det m_isv m_iit m_len m_at m_err m_wro m_cmd m_to1 m_to2 (upd r6 (7 : Int32).toNatClampNeg ((r6 (7 : Int32).toNatClampNeg) + 1)) m_sav m_ahe m_bef m_hst m_noi m_own m_inp) H := hP
      have hD : va_D A (wX5 q cy m_thr m_kept m_rea m_det m_isv m_iit m_len m_at m_err m_wro m_cmd m_to1 m_to2 (upd r6 (7 : Int32).toNatClampNeg ((r6 (7 : Int32).toNatClampNeg) + 1)) m_sav m_ahe m_bef m_hst m_noi m_own m_inp) := hD
      refine lv_iload hx hb (dg ddX5_draw 97 rfl) (lv_at hl 2 rfl) ?_
      cases hf
      exact e_wi CX hr hlk rfl hP hD hS (dg ddX5_draw 98 rfl)
    · have hf := it_f h2 hf
      refine lv_aload_n hx hb (dg ddX5_draw 63 rfl) rfl (lv_at hl 0 rfl) ?_
      refine gf_RX5_9 CX hK hP 0 rfl rfl (dg ddX5_draw 64 rfl) ?_
      refine lv_bipush (v := 104) hx hb (dg ddX5_draw 65 rfl) (by decide) ?_
      refine lv_iload hx hb (dg ddX5_draw 66 rfl) (lv_at hl 3 rfl) ?_
      refine lv_iadd hx hb (dg ddX5_draw 67 rfl) ?_
      refine lv_aload_n hx hb (dg ddX5_draw 68 rfl) rfl (lv_at hl 0 rfl) ?_
      refine gf_RX5_9 CX hK hP 0 rfl rfl (dg ddX5_draw 69 rfl) ?_
      refine lv_bipush (v := 104) hx hb (dg ddX5_draw 70 rfl) (by decide) ?_
      refine lv_iload hx hb (dg ddX5_draw 71 rfl) (lv_at hl 3 rfl) ?_
      refine lv_iadd hx hb (dg ddX5_draw 72 rfl) ?_
      refine lv_iconst (v := 1) hx hb (dg ddX5_draw 73 rfl) (by decide) ?_
      refine lv_iadd hx hb (dg ddX5_draw 74 rfl) ?_
      obtain ⟨h9, hf⟩ := og_some hf
      refine va_iald hx hb hK hP 1 0 rfl rfl (inb_in h9) (dg ddX5_draw 75 rfl) ?_
      obtain ⟨h10, hf⟩ := og_some hf
      refine va_iast hx hb hK hP hD hS 1 0 rfl rfl (inb_in h10) (dg ddX5_draw 76 rfl) (fun H locs hP hD hS => ?_)
      have hP : va_P D vwCl (wX5 q cy m_thr m_kept m_rea m_det m_isv m_iit m_len m_at m_err m_wro m_cmd m_to1 m_to2 (upd m_now (104 + x5).toNatClampNeg (m_now ((104 + x5) + 1).toNatClampNeg)) m_sav m_ahe m_bef m_hst m_noi m_own m_inp) H := hP
      have hD : va_D A (wX5 q cy m_thr m_kept m_rea m_det m_isv m_iit m_len m_at m_err m_wro m_cmd m_to1 m_to2 (upd m_now (104 + x5).toNatClampNeg (m_now ((104 + x5) + 1).toNatClampNeg)) m_sav m_ahe m_bef m_hst m_noi m_own m_inp) := hD
      refine lv_iinc (v := x5 + 1) (lv' := [(5, .int (x5 + 1)), (0, .ref (q 0)), (1, .int a1), (4, .int x4)]) hx hb (dg ddX5_draw 77 rfl) hl (k := 3) rfl (congrArg (HAdd.hAdd x5) (by decide)) (by decide) rfl (fun ls hl => ?_)
      refine lv_goto (tgt := 95) hx hb (dg ddX5_draw 78 rfl) (by decide) ?_
      exact ih x4 (x5 + 1) m_thr m_kept m_rea m_det (upd m_now (104 + x5).toNatClampNeg (m_now ((104 + x5) + 1).toNatClampNeg)) m_hst _ _ hP hD hS _ (lv_sub hl [1, 2, 3, 0] rfl) hf
  have K37 : ∀ (t0 : Int32) (t1 : Int32) (m_thr : Int32) (m_kept : Int32) (m_rea : Int32) (m_det : Int32) (m_now : Nat → Int32) (m_hst : Nat → Nat → Int32) (H : Heap) (locs : List Loc) (hP : va_P D vwCl (wX5 q cy m_thr m_kept m_rea m_det m_isv m_iit m_len m_at m_err m_wro m_cmd m_to1 m_to2 m_now m_sav m_ahe m_bef m_hst m_noi m_own m_inp) H) (hD : va_D A (wX5 q cy m_thr m_kept m_rea m_det m_isv m_iit m_len m_at m_err m_wro m_cmd m_to1 m_to2 m_now m_sav m_ahe m_bef m_hst m_noi m_own m_inp)) (hS : va_S A s.heap H locs) (ls : Array Slot) (hl : lv_has ls 6 [(0, .ref (q 0)), (1, .int a1), (2, .int a2)]) (hf : f_X5_draw_c37 m_iit a1 a2 t0 t1 m_thr m_kept m_rea m_det m_now m_hst = some res), W p l e ⟨4, 0, 0, 76⟩ s m args below meth c H locs 0 0 (MQ below (qI D (wX5 q cy res.2.1 res.2.2.1 res.2.2.2.1 res.2.2.2.2.1 m_isv m_iit m_len m_at m_err m_wro m_cmd m_to1 m_to2 res.2.2.2.2.2.1 m_sav m_ahe m_bef res.2.2.2.2.2.2 m_noi m_own m_inp) res.1 A) args s 0 0 A) (F0 m 37 ls [.int t0, .int t1, .ref (q 0)]) := by
    intro t0 t1 m_thr m_kept m_rea m_det m_now m_hst H locs hP hD hS ls hl hf
    obtain ⟨r2, e1, hf⟩ := ob_some hf
    refine crw_vi CX hml (As := [.int t1, .int t0]) (rest := []) (c_X5_fails l D cy q m_thr m_kept m_rea m_det m_isv m_iit m_len m_at m_err m_wro m_cmd m_to1 m_to2 m_now m_sav m_ahe m_bef m_hst m_noi m_own m_inp t1 t0 _ e1) lk_RX5_81 rfl rfl hRMX5_fails hP hD hS hA hK hN 0 rfl rfl rfl hl.1 rfl (Nat.le_of_ble_eq_true rfl) ⟨Nat.le_of_ble_eq_true rfl, Nat.le_of_ble_eq_true rfl⟩ (dg ddX5_draw 20 rfl) (fun H locs hP hD hS => ?_)
    refine lv_if_ne (tgt := 56) hx hb (dg ddX5_draw 21 rfl) (by decide) (fun h3 => ?_) (fun h3 => ?_)
    · have hf := it_f h3 hf
      refine lv_iconst (v := 0) hx hb (dg ddX5_draw 29 rfl) (by decide) ?_
      cases hf
      exact e_wi CX hr hlk rfl hP hD hS (dg ddX5_draw 30 rfl)
    · have hf := it_t h3 hf
      refine lv_aload_n hx hb (dg ddX5_draw 22 rfl) rfl (lv_at hl 0 rfl) ?_
      refine lv_iconst (v := 3) hx hb (dg ddX5_draw 23 rfl) (by decide) ?_
      refine lv_aload_n hx hb (dg ddX5_draw 24 rfl) rfl (lv_at hl 0 rfl) ?_
      refine lv_iload_n hx hb (dg ddX5_draw 25 rfl) rfl (lv_at hl 1 rfl) ?_
      obtain ⟨r5, e4, hf⟩ := ob_some hf
      refine crw_vi CX hml (As := [.int a1]) (rest := [.int 3, .ref (q 0)]) (c_X5_isDrawRefused l D cy q r2.2 m_kept m_rea m_det m_isv m_iit m_len m_at m_err m_wro m_cmd m_to1 m_to2 m_now m_sav m_ahe m_bef m_hst m_noi m_own m_inp a1 _ e4) lk_RX5_131 rfl rfl hRMX5_isDrawRefused hP hD hS hA hK hN 0 rfl rfl rfl hl.1 rfl (Nat.le_of_ble_eq_true rfl) ⟨Nat.le_of_ble_eq_true rfl, Nat.le_of_ble_eq_true rfl⟩ (dg ddX5_draw 26 rfl) (fun H locs hP hD hS => ?_)
      obtain ⟨r7, e6, hf⟩ := ob_some hf
      refine crw_vi CX hml (As := [.int 3, .int r5.1]) (rest := []) (c_X5_fails l D cy q r2.2 m_kept r5.2.1 r5.2.2 m_isv m_iit m_len m_at m_err m_wro m_cmd m_to1 m_to2 m_now m_sav m_ahe m_bef m_hst m_noi m_own m_inp 3 r5.1 _ e6) lk_RX5_81 rfl rfl hRMX5_fails hP hD hS hA hK hN 0 rfl rfl rfl hl.1 rfl (Nat.le_of_ble_eq_true rfl) ⟨Nat.le_of_ble_eq_true rfl, Nat.le_of_ble_eq_true rfl⟩ (dg ddX5_draw 27 rfl) (fun H locs hP hD hS => ?_)
      refine lv_if_eq (tgt := 58) hx hb (dg ddX5_draw 28 rfl) (by decide) (fun h8 => ?_) (fun h8 => ?_)
      · have hf := it_t h8 hf
        refine lv_aload_n hx hb (dg ddX5_draw 31 rfl) rfl (lv_at hl 0 rfl) ?_
        obtain ⟨r10, e9, hf⟩ := ob_some hf
        refine crw_vv CX hml (As := []) (rest := []) (c_X5_change l D cy q r7.2 m_kept r5.2.1 r5.2.2 m_isv m_iit m_len m_at m_err m_wro m_cmd m_to1 m_to2 m_now m_sav m_ahe m_bef m_hst m_noi m_own m_inp _ e9) lk_RX5_85 rfl rfl hRMX5_change hP hD hS hA hK hN 0 rfl rfl rfl hl.1 rfl (Nat.le_of_ble_eq_true rfl) ⟨Nat.le_of_ble_eq_true rfl, Nat.le_of_ble_eq_true rfl⟩ (dg ddX5_draw 32 rfl) (fun H locs hP hD hS => ?_)
        refine lv_iload_n hx hb (dg ddX5_draw 33 rfl) rfl (lv_at hl 2 rfl) ?_
        refine lv_aload_n hx hb (dg ddX5_draw 34 rfl) rfl (lv_at hl 0 rfl) ?_
        refine gf_RX5_9 CX hK hP 0 rfl rfl (dg ddX5_draw 35 rfl) ?_
        refine lv_iconst (v := 3) hx hb (dg ddX5_draw 36 rfl) (by decide) ?_
        obtain ⟨h11, hf⟩ := og_some hf
        refine va_iald hx hb hK hP 1 0 rfl rfl (inb_in h11) (dg ddX5_draw 37 rfl) ?_
        obtain ⟨h12, hf⟩ := og_some hf
        refine lv_irem hx hb (dg ddX5_draw 38 rfl) (nz_in h12) ?_
        refine lv_istore_n (lv' := [(3, .int (a2 - a2 / (m_now (3 : Int32).toNatClampNeg) * (m_now (3 : Int32).toNatClampNeg))), (0, .ref (q 0)), (1, .int a1), (2, .int a2)]) hx hb (dg ddX5_draw 39 rfl) rfl hl (by decide) rfl (fun ls hl => ?_)
        refine lv_aload_n hx hb (dg ddX5_draw 40 rfl) rfl (lv_at hl 1 rfl) ?_
        refine gf_RX5_9 CX hK hP 0 rfl rfl (dg ddX5_draw 41 rfl) ?_
        refine lv_bipush (v := 104) hx hb (dg ddX5_draw 42 rfl) (by decide) ?_
        refine lv_iload_n hx hb (dg ddX5_draw 43 rfl) rfl (lv_at hl 0 rfl) ?_
        refine lv_iadd hx hb (dg ddX5_draw 44 rfl) ?_
        obtain ⟨h13, hf⟩ := og_some hf
        refine va_iald hx hb hK hP 1 0 rfl rfl (inb_in h13) (dg ddX5_draw 45 rfl) ?_
        refine lv_istore (lv' := [(4, .int (m_now (104 + (a2 - a2 / (m_now (3 : Int32).toNatClampNeg) * (m_now (3 : Int32).toNatClampNeg))).toNatClampNeg)), (3, .int (a2 - a2 / (m_now (3 : Int32).toNatClampNeg) * (m_now (3 : Int32).toNatClampNeg))), (0, .ref (q 0)), (1, .int a1), (2, .int a2)]) hx hb (dg ddX5_draw 46 rfl) hl (by decide) rfl (fun ls hl => ?_)
        refine lv_aload_n hx hb (dg ddX5_draw 47 rfl) rfl (lv_at hl 2 rfl) ?_
        refine gf_RX5_9 CX hK hP 0 rfl rfl (dg ddX5_draw 48 rfl) ?_
        refine lv_iconst (v := 3) hx hb (dg ddX5_draw 49 rfl) (by decide) ?_
        refine lv_dup2_11 hx hb (dg ddX5_draw 50 rfl) rfl rfl ?_
        obtain ⟨h14, hf⟩ := og_some hf
        refine va_iald hx hb hK hP 1 0 rfl rfl (inb_in h14) (dg ddX5_draw 51 rfl) ?_
        refine lv_iconst (v := 1) hx hb (dg ddX5_draw 52 rfl) (by decide) ?_
        refine lv_isub hx hb (dg ddX5_draw 53 rfl) ?_
        obtain ⟨h15, hf⟩ := og_some hf
        refine va_iast hx hb hK hP hD hS 1 0 rfl rfl (inb_in h15) (dg ddX5_draw 54 rfl) (fun H locs hP hD hS => ?_)
        have hP : va_P D vwCl (wX5 q cy r7.2 r10.1 r5.2.1 r5.2.2 m_isv m_iit m_len m_at m_err m_wro m_cmd m_to1 m_to2 (upd m_now (3 : Int32).toNatClampNeg ((m_now (3 : Int32).toNatClampNeg) - 1)) m_sav m_ahe m_bef r10.2 m_noi m_own m_inp) H := hP
        have hD : va_D A (wX5 q cy r7.2 r10.1 r5.2.1 r5.2.2 m_isv m_iit m_len m_at m_err m_wro m_cmd m_to1 m_to2 (upd m_now (3 : Int32).toNatClampNeg ((m_now (3 : Int32).toNatClampNeg) - 1)) m_sav m_ahe m_bef r10.2 m_noi m_own m_inp) := hD
        refine lv_iload_n hx hb (dg ddX5_draw 55 rfl) rfl (lv_at hl 1 rfl) ?_
        refine lv_istore (lv' := [(5, .int (a2 - a2 / (m_now (3 : Int32).toNatClampNeg) * (m_now (3 : Int32).toNatClampNeg))), (4, .int (m_now (104 + (a2 - a2 / (m_now (3 : Int32).toNatClampNeg) * (m_now (3 : Int32).toNatClampNeg))).toNatClampNeg)), (3, .int (a2 - a2 / (m_now (3 : Int32).toNatClampNeg) * (m_now (3 : Int32).toNatClampNeg))), (0, .ref (q 0)), (1, .int a1), (2, .int a2)]) hx hb (dg ddX5_draw 56 rfl) hl (by decide) rfl (fun ls hl => ?_)
        exact K95 4096 (m_now (104 + (a2 - a2 / (m_now (3 : Int32).toNatClampNeg) * (m_now (3 : Int32).toNatClampNeg))).toNatClampNeg) (a2 - a2 / (m_now (3 : Int32).toNatClampNeg) * (m_now (3 : Int32).toNatClampNeg)) r7.2 r10.1 r5.2.1 r5.2.2 (upd m_now (3 : Int32).toNatClampNeg ((m_now (3 : Int32).toNatClampNeg) - 1)) r10.2 _ _ hP hD hS _ (lv_sub hl [3, 4, 1, 0] rfl) hf
      · have hf := it_f h8 hf
        refine lv_iconst (v := 0) hx hb (dg ddX5_draw 29 rfl) (by decide) ?_
        cases hf
        exact e_wi CX hr hlk rfl hP hD hS (dg ddX5_draw 30 rfl)
  have K14 : ∀ (t0 : Int32) (t1 : Int32) (m_thr : Int32) (m_kept : Int32) (m_rea : Int32) (m_det : Int32) (m_now : Nat → Int32) (m_hst : Nat → Nat → Int32) (H : Heap) (locs : List Loc) (hP : va_P D vwCl (wX5 q cy m_thr m_kept m_rea m_det m_isv m_iit m_len m_at m_err m_wro m_cmd m_to1 m_to2 m_now m_sav m_ahe m_bef m_hst m_noi m_own m_inp) H) (hD : va_D A (wX5 q cy m_thr m_kept m_rea m_det m_isv m_iit m_len m_at m_err m_wro m_cmd m_to1 m_to2 m_now m_sav m_ahe m_bef m_hst m_noi m_own m_inp)) (hS : va_S A s.heap H locs) (ls : Array Slot) (hl : lv_has ls 6 [(0, .ref (q 0)), (1, .int a1), (2, .int a2)]) (hf : f_X5_draw_c14 m_iit a1 a2 t0 t1 m_thr m_kept m_rea m_det m_now m_hst = some res), W p l e ⟨4, 0, 0, 76⟩ s m args below meth c H locs 0 0 (MQ below (qI D (wX5 q cy res.2.1 res.2.2.1 res.2.2.2.1 res.2.2.2.2.1 m_isv m_iit m_len m_at m_err m_wro m_cmd m_to1 m_to2 res.2.2.2.2.2.1 m_sav m_ahe m_bef res.2.2.2.2.2.2 m_noi m_own m_inp) res.1 A) args s 0 0 A) (F0 m 14 ls [.int t0, .int t1, .ref (q 0)]) := by
    intro t0 t1 m_thr m_kept m_rea m_det m_now m_hst H locs hP hD hS ls hl hf
    obtain ⟨r2, e1, hf⟩ := ob_some hf
    refine crw_vi CX hml (As := [.int t1, .int t0]) (rest := []) (c_X5_fails l D cy q m_thr m_kept m_rea m_det m_isv m_iit m_len m_at m_err m_wro m_cmd m_to1 m_to2 m_now m_sav m_ahe m_bef m_hst m_noi m_own m_inp t1 t0 _ e1) lk_RX5_81 rfl rfl hRMX5_fails hP hD hS hA hK hN 0 rfl rfl rfl hl.1 rfl (Nat.le_of_ble_eq_true rfl) ⟨Nat.le_of_ble_eq_true rfl, Nat.le_of_ble_eq_true rfl⟩ (dg ddX5_draw 8 rfl) (fun H locs hP hD hS => ?_)
    refine lv_if_ne (tgt := 56) hx hb (dg ddX5_draw 9 rfl) (by decide) (fun h3 => ?_) (fun h3 => ?_)
    · have hf := it_f h3 hf
      refine lv_iconst (v := 0) hx hb (dg ddX5_draw 29 rfl) (by decide) ?_
      cases hf
      exact e_wi CX hr hlk rfl hP hD hS (dg ddX5_draw 30 rfl)
    · have hf := it_t h3 hf
      refine lv_aload_n hx hb (dg ddX5_draw 10 rfl) rfl (lv_at hl 0 rfl) ?_
      refine lv_iconst (v := 2) hx hb (dg ddX5_draw 11 rfl) (by decide) ?_
      refine lv_iload_n hx hb (dg ddX5_draw 12 rfl) rfl (lv_at hl 2 rfl) ?_
      refine lv_iconst (v := 0) hx hb (dg ddX5_draw 13 rfl) (by decide) ?_
      refine lv_bipush (v := 99) hx hb (dg ddX5_draw 14 rfl) (by decide) ?_
      obtain ⟨r5, e4, hf⟩ := ob_some hf
      refine cro_si CX hml (As := [.int a2, .int 0, .int 99]) (rest := [.int 2, .ref (q 0)]) (c_X5_isBetween l D cy a2 0 99 e4) lk_RX5_77 rfl rfl hRMX5_isBetween vaP_nil hK hN rfl hl.1 rfl (Nat.le_of_ble_eq_true rfl) ⟨Nat.le_of_ble_eq_true rfl, Nat.le_of_ble_eq_true rfl⟩ (dg ddX5_draw 15 rfl) ?_
      refine lv_if_ne (tgt := 36) hx hb (dg ddX5_draw 16 rfl) (by decide) (fun h6 => ?_) (fun h6 => ?_)
      · have hf := it_f h6 hf
        refine lv_iconst (v := 0) hx hb (dg ddX5_draw 19 rfl) (by decide) ?_
        exact K37  0 2 r2.2 m_kept m_rea m_det m_now m_hst _ _ hP hD hS _ (lv_sub hl [0, 1, 2] rfl) hf
      · have hf := it_t h6 hf
        refine lv_iconst (v := 1) hx hb (dg ddX5_draw 17 rfl) (by decide) ?_
        refine lv_goto (tgt := 37) hx hb (dg ddX5_draw 18 rfl) (by decide) ?_
        exact K37  1 2 r2.2 m_kept m_rea m_det m_now m_hst _ _ hP hD hS _ (lv_sub hl [0, 1, 2] rfl) hf
  refine lv_aload_n hx hb (dg ddX5_draw 0 rfl) rfl (lv_at hl 0 rfl) ?_
  refine lv_iconst (v := 1) hx hb (dg ddX5_draw 1 rfl) (by decide) ?_
  refine lv_iload_n hx hb (dg ddX5_draw 2 rfl) rfl (lv_at hl 1 rfl) ?_
  obtain ⟨r2, e1, hf⟩ := ob_some hf
  refine cro_si CX hml (As := [.int a1]) (rest := [.int 1, .ref (q 0)]) (c_X5_isPitch l D cy a1 e1) lk_RX5_96 rfl rfl hRMX5_isPitch vaP_nil hK hN rfl hl.1 rfl (Nat.le_of_ble_eq_true rfl) ⟨Nat.le_of_ble_eq_true rfl, Nat.le_of_ble_eq_true rfl⟩ (dg ddX5_draw 3 rfl) ?_
  refine lv_if_ne (tgt := 13) hx hb (dg ddX5_draw 4 rfl) (by decide) (fun h3 => ?_) (fun h3 => ?_)
  · have hf := it_f h3 hf
    refine lv_iconst (v := 0) hx hb (dg ddX5_draw 7 rfl) (by decide) ?_
    exact K14  0 1 m_thr m_kept m_rea m_det m_now m_hst _ _ hP hD hS _ (lv_sub hl [0, 1, 2] rfl) hf
  · have hf := it_t h3 hf
    refine lv_iconst (v := 1) hx hb (dg ddX5_draw 5 rfl) (by decide) ?_
    refine lv_goto (tgt := 14) hx hb (dg ddX5_draw 6 rfl) (by decide) ?_
    exact K14  1 1 m_thr m_kept m_rea m_det m_now m_hst _ _ hP hD hS _ (lv_sub hl [0, 1, 2] rfl) hf
def f_X5_waiting_c23  (m_now : Nat → Int32) (a1 : Int32) (t0 : Int32) (t1 : Int32) (m_thr : Int32) : Option (Int32 × Int32) := ob (f_X5_fails m_thr t1 t0) fun r2 => (if r2.1 = 0 then (og (inb (104 + a1) 112) (some ((m_now (104 + a1).toNatClampNeg), r2.2))) else (some (0, r2.2)))
def f_X5_waiting (m_thr : Int32) (m_now : Nat → Int32) (a1 : Int32) : Option (Int32 × Int32) := og (inb 3 112) (ob (f_X5_isBetween a1 0 ((m_now (3 : Int32).toNatClampNeg) - 1)) fun r3 => (if r3 = 0 then (f_X5_waiting_c23 m_now a1 1 1 m_thr) else (f_X5_waiting_c23 m_now a1 0 1 m_thr)))
set_option maxHeartbeats 4000000 in
set_option maxRecDepth 100000 in
theorem c_X5_waiting (l : Launch) (D : va_G) (cy : Nat → ClassId) (q : Nat → Nat) (m_thr : Int32) (m_kept : Int32) (m_rea : Int32) (m_det : Int32) (m_isv : Int32) (m_iit : Int32) (m_len : Int32) (m_at : Int32) (m_err : Int32) (m_wro : Int32) (m_cmd : Int32) (m_to1 : Int32) (m_to2 : Int32) (m_now : Nat → Int32) (m_sav : Nat → Int32) (m_ahe : Nat → Int32) (m_bef : Nat → Int32) (m_hst : Nat → Nat → Int32) (m_noi : Nat → UInt32) (m_own : Nat → UInt32) (m_inp : Nat → Int32) (a1 : Int32) (sz : Nat) {res : Int32 × Int32} (hf : f_X5_waiting m_thr m_now a1 = some res) : Met l yX5_waiting (.code yX5_waiting cX5_waiting 2 (some .int) :: lw_all) { frames := 2, cells := 0, slots := 0, locals := 34 } (va_Pc [.ref (q 0), .int a1] (sW D cy (wX5 q cy m_thr m_kept m_rea m_det m_isv m_iit m_len m_at m_err m_wro m_cmd m_to1 m_to2 m_now m_sav m_ahe m_bef m_hst m_noi m_own m_inp) sz)) (qI D (wX5 q cy res.2 m_kept m_rea m_det m_isv m_iit m_len m_at m_err m_wro m_cmd m_to1 m_to2 m_now m_sav m_ahe m_bef m_hst m_noi m_own m_inp) res.1 (va_A (wX5 q cy m_thr m_kept m_rea m_det m_isv m_iit m_len m_at m_err m_wro m_cmd m_to1 m_to2 m_now m_sav m_ahe m_bef m_hst m_noi m_own m_inp) sz)) 0 0 (va_A (wX5 q cy m_thr m_kept m_rea m_det m_isv m_iit m_len m_at m_err m_wro m_cmd m_to1 m_to2 m_now m_sav m_ahe m_bef m_hst m_noi m_own m_inp) sz) := by
  refine mk_rw (Qc := qI D (wX5 q cy res.2 m_kept m_rea m_det m_isv m_iit m_len m_at m_err m_wro m_cmd m_to1 m_to2 m_now m_sav m_ahe m_bef m_hst m_noi m_own m_inp) res.1) (Rc := RX5) (by decide +kernel) rfl (Nat.le_of_ble_eq_true rfl) ?_
  intro p e s m args below meth c ls A CX hml hr hlk hK hN hP hD hS hA hl
  have hx := CX.1
  have hb := CX.2.1
  have hRMX5_fails : (⟨1, 0, 0, 12⟩ : Room).frames + 1 ≤ (⟨2, 0, 0, 34⟩ : Room).frames ∧ 8 + (3 + 11) + (⟨1, 0, 0, 12⟩ : Room).locals ≤ (⟨2, 0, 0, 34⟩ : Room).locals := ⟨Nat.le_of_ble_eq_true rfl, Nat.le_of_ble_eq_true rfl⟩
  have hRMX5_isBetween : (⟨1, 0, 0, 12⟩ : Room).frames + 1 ≤ (⟨2, 0, 0, 34⟩ : Room).frames ∧ 8 + (3 + 11) + (⟨1, 0, 0, 12⟩ : Room).locals ≤ (⟨2, 0, 0, 34⟩ : Room).locals := ⟨Nat.le_of_ble_eq_true rfl, Nat.le_of_ble_eq_true rfl⟩
  have hl0 := hl
  have K23 : ∀ (t0 : Int32) (t1 : Int32) (m_thr : Int32) (H : Heap) (locs : List Loc) (hP : va_P D vwCl (wX5 q cy m_thr m_kept m_rea m_det m_isv m_iit m_len m_at m_err m_wro m_cmd m_to1 m_to2 m_now m_sav m_ahe m_bef m_hst m_noi m_own m_inp) H) (hD : va_D A (wX5 q cy m_thr m_kept m_rea m_det m_isv m_iit m_len m_at m_err m_wro m_cmd m_to1 m_to2 m_now m_sav m_ahe m_bef m_hst m_noi m_own m_inp)) (hS : va_S A s.heap H locs) (ls : Array Slot) (hl : lv_has ls 2 [(0, .ref (q 0)), (1, .int a1)]) (hf : f_X5_waiting_c23 m_now a1 t0 t1 m_thr = some res), W p l e ⟨2, 0, 0, 34⟩ s m args below meth c H locs 0 0 (MQ below (qI D (wX5 q cy res.2 m_kept m_rea m_det m_isv m_iit m_len m_at m_err m_wro m_cmd m_to1 m_to2 m_now m_sav m_ahe m_bef m_hst m_noi m_own m_inp) res.1 A) args s 0 0 A) (F0 m 23 ls [.int t0, .int t1, .ref (q 0)]) := by
    intro t0 t1 m_thr H locs hP hD hS ls hl hf
    obtain ⟨r2, e1, hf⟩ := ob_some hf
    refine crw_vi CX hml (As := [.int t1, .int t0]) (rest := []) (c_X5_fails l D cy q m_thr m_kept m_rea m_det m_isv m_iit m_len m_at m_err m_wro m_cmd m_to1 m_to2 m_now m_sav m_ahe m_bef m_hst m_noi m_own m_inp t1 t0 _ e1) lk_RX5_81 rfl rfl hRMX5_fails hP hD hS hA hK hN 0 rfl rfl rfl hl.1 rfl (Nat.le_of_ble_eq_true rfl) ⟨Nat.le_of_ble_eq_true rfl, Nat.le_of_ble_eq_true rfl⟩ (dg ddX5_waiting 15 rfl) (fun H locs hP hD hS => ?_)
    refine lv_if_eq (tgt := 33) hx hb (dg ddX5_waiting 16 rfl) (by decide) (fun h3 => ?_) (fun h3 => ?_)
    · have hf := it_t h3 hf
      refine lv_aload_n hx hb (dg ddX5_waiting 19 rfl) rfl (lv_at hl 0 rfl) ?_
      refine gf_RX5_9 CX hK hP 0 rfl rfl (dg ddX5_waiting 20 rfl) ?_
      refine lv_bipush (v := 104) hx hb (dg ddX5_waiting 21 rfl) (by decide) ?_
      refine lv_iload_n hx hb (dg ddX5_waiting 22 rfl) rfl (lv_at hl 1 rfl) ?_
      refine lv_iadd hx hb (dg ddX5_waiting 23 rfl) ?_
      obtain ⟨h4, hf⟩ := og_some hf
      refine va_iald hx hb hK hP 1 0 rfl rfl (inb_in h4) (dg ddX5_waiting 24 rfl) ?_
      cases hf
      exact e_wi CX hr hlk rfl hP hD hS (dg ddX5_waiting 25 rfl)
    · have hf := it_f h3 hf
      refine lv_iconst (v := 0) hx hb (dg ddX5_waiting 17 rfl) (by decide) ?_
      refine lv_goto (tgt := 42) hx hb (dg ddX5_waiting 18 rfl) (by decide) ?_
      cases hf
      exact e_wi CX hr hlk rfl hP hD hS (dg ddX5_waiting 25 rfl)
  refine lv_aload_n hx hb (dg ddX5_waiting 0 rfl) rfl (lv_at hl 0 rfl) ?_
  refine lv_iconst (v := 1) hx hb (dg ddX5_waiting 1 rfl) (by decide) ?_
  refine lv_iload_n hx hb (dg ddX5_waiting 2 rfl) rfl (lv_at hl 1 rfl) ?_
  refine lv_iconst (v := 0) hx hb (dg ddX5_waiting 3 rfl) (by decide) ?_
  refine lv_aload_n hx hb (dg ddX5_waiting 4 rfl) rfl (lv_at hl 0 rfl) ?_
  refine gf_RX5_9 CX hK hP 0 rfl rfl (dg ddX5_waiting 5 rfl) ?_
  refine lv_iconst (v := 3) hx hb (dg ddX5_waiting 6 rfl) (by decide) ?_
  obtain ⟨h1, hf⟩ := og_some hf
  refine va_iald hx hb hK hP 1 0 rfl rfl (inb_in h1) (dg ddX5_waiting 7 rfl) ?_
  refine lv_iconst (v := 1) hx hb (dg ddX5_waiting 8 rfl) (by decide) ?_
  refine lv_isub hx hb (dg ddX5_waiting 9 rfl) ?_
  obtain ⟨r3, e2, hf⟩ := ob_some hf
  refine cro_si CX hml (As := [.int a1, .int 0, .int ((m_now (3 : Int32).toNatClampNeg) - 1)]) (rest := [.int 1, .ref (q 0)]) (c_X5_isBetween l D cy a1 0 ((m_now (3 : Int32).toNatClampNeg) - 1) e2) lk_RX5_77 rfl rfl hRMX5_isBetween vaP_nil hK hN rfl hl.1 rfl (Nat.le_of_ble_eq_true rfl) ⟨Nat.le_of_ble_eq_true rfl, Nat.le_of_ble_eq_true rfl⟩ (dg ddX5_waiting 10 rfl) ?_
  refine lv_if_ne (tgt := 22) hx hb (dg ddX5_waiting 11 rfl) (by decide) (fun h4 => ?_) (fun h4 => ?_)
  · have hf := it_f h4 hf
    refine lv_iconst (v := 0) hx hb (dg ddX5_waiting 14 rfl) (by decide) ?_
    exact K23  0 1 m_thr _ _ hP hD hS _ (lv_sub hl [0, 1] rfl) hf
  · have hf := it_t h4 hf
    refine lv_iconst (v := 1) hx hb (dg ddX5_waiting 12 rfl) (by decide) ?_
    refine lv_goto (tgt := 23) hx hb (dg ddX5_waiting 13 rfl) (by decide) ?_
    exact K23  1 1 m_thr _ _ hP hD hS _ (lv_sub hl [0, 1] rfl) hf
def f_X5_goHome (m_now : Nat → Int32) (a1 : Int32) : Option ((Nat → Int32)) := ob (f_X5_ofPitch m_now a1 3) fun r2 => (ob (f_X5_put m_now r2 4 (-1)) fun r4 => (ob (f_X5_putPitch r4 a1 3 (-1)) fun r6 => (some r6)))
set_option maxHeartbeats 4000000 in
set_option maxRecDepth 100000 in
theorem c_X5_goHome (l : Launch) (D : va_G) (cy : Nat → ClassId) (q : Nat → Nat) (m_thr : Int32) (m_kept : Int32) (m_rea : Int32) (m_det : Int32) (m_isv : Int32) (m_iit : Int32) (m_len : Int32) (m_at : Int32) (m_err : Int32) (m_wro : Int32) (m_cmd : Int32) (m_to1 : Int32) (m_to2 : Int32) (m_now : Nat → Int32) (m_sav : Nat → Int32) (m_ahe : Nat → Int32) (m_bef : Nat → Int32) (m_hst : Nat → Nat → Int32) (m_noi : Nat → UInt32) (m_own : Nat → UInt32) (m_inp : Nat → Int32) (a1 : Int32) (sz : Nat) {res : (Nat → Int32)} (hf : f_X5_goHome m_now a1 = some res) : Met l yX5_goHome (.code yX5_goHome cX5_goHome 2 none :: lw_all) { frames := 2, cells := 0, slots := 0, locals := 35 } (va_Pc [.ref (q 0), .int a1] (sW D cy (wX5 q cy m_thr m_kept m_rea m_det m_isv m_iit m_len m_at m_err m_wro m_cmd m_to1 m_to2 m_now m_sav m_ahe m_bef m_hst m_noi m_own m_inp) sz)) (qV D (wX5 q cy m_thr m_kept m_rea m_det m_isv m_iit m_len m_at m_err m_wro m_cmd m_to1 m_to2 res m_sav m_ahe m_bef m_hst m_noi m_own m_inp) (va_A (wX5 q cy m_thr m_kept m_rea m_det m_isv m_iit m_len m_at m_err m_wro m_cmd m_to1 m_to2 m_now m_sav m_ahe m_bef m_hst m_noi m_own m_inp) sz)) 0 0 (va_A (wX5 q cy m_thr m_kept m_rea m_det m_isv m_iit m_len m_at m_err m_wro m_cmd m_to1 m_to2 m_now m_sav m_ahe m_bef m_hst m_noi m_own m_inp) sz) := by
  refine mk_rw (Qc := qV D (wX5 q cy m_thr m_kept m_rea m_det m_isv m_iit m_len m_at m_err m_wro m_cmd m_to1 m_to2 res m_sav m_ahe m_bef m_hst m_noi m_own m_inp) ) (Rc := RX5) (by decide +kernel) rfl (Nat.le_of_ble_eq_true rfl) ?_
  intro p e s m args below meth c ls A CX hml hr hlk hK hN hP hD hS hA hl
  have hx := CX.1
  have hb := CX.2.1
  have hRMX5_ofPitch : (⟨1, 0, 0, 12⟩ : Room).frames + 1 ≤ (⟨2, 0, 0, 35⟩ : Room).frames ∧ 8 + (3 + 11) + (⟨1, 0, 0, 12⟩ : Room).locals ≤ (⟨2, 0, 0, 35⟩ : Room).locals := ⟨Nat.le_of_ble_eq_true rfl, Nat.le_of_ble_eq_true rfl⟩
  have hRMX5_put : (⟨1, 0, 0, 12⟩ : Room).frames + 1 ≤ (⟨2, 0, 0, 35⟩ : Room).frames ∧ 8 + (4 + 11) + (⟨1, 0, 0, 12⟩ : Room).locals ≤ (⟨2, 0, 0, 35⟩ : Room).locals := ⟨Nat.le_of_ble_eq_true rfl, Nat.le_of_ble_eq_true rfl⟩
  have hRMX5_putPitch : (⟨1, 0, 0, 12⟩ : Room).frames + 1 ≤ (⟨2, 0, 0, 35⟩ : Room).frames ∧ 8 + (4 + 11) + (⟨1, 0, 0, 12⟩ : Room).locals ≤ (⟨2, 0, 0, 35⟩ : Room).locals := ⟨Nat.le_of_ble_eq_true rfl, Nat.le_of_ble_eq_true rfl⟩
  refine lv_aload_n hx hb (dg ddX5_goHome 0 rfl) rfl (lv_at hl 0 rfl) ?_
  refine lv_aload_n hx hb (dg ddX5_goHome 1 rfl) rfl (lv_at hl 0 rfl) ?_
  refine lv_iload_n hx hb (dg ddX5_goHome 2 rfl) rfl (lv_at hl 1 rfl) ?_
  refine lv_iconst (v := 3) hx hb (dg ddX5_goHome 3 rfl) (by decide) ?_
  obtain ⟨r2, e1, hf⟩ := ob_some hf
  refine cro_vi CX hml (As := [.int a1, .int 3]) (rest := [.ref (q 0)]) (c_X5_ofPitch l D cy q m_thr m_kept m_rea m_det m_isv m_iit m_len m_at m_err m_wro m_cmd m_to1 m_to2 m_now m_sav m_ahe m_bef m_hst m_noi m_own m_inp a1 3 e1) lk_RX5_88 rfl rfl hRMX5_ofPitch hP hK hN 0 rfl rfl rfl hl.1 rfl (Nat.le_of_ble_eq_true rfl) ⟨Nat.le_of_ble_eq_true rfl, Nat.le_of_ble_eq_true rfl⟩ (dg ddX5_goHome 4 rfl) ?_
  refine lv_iconst (v := 4) hx hb (dg ddX5_goHome 5 rfl) (by decide) ?_
  refine lv_iconst (v := (-1)) hx hb (dg ddX5_goHome 6 rfl) (by decide) ?_
  obtain ⟨r4, e3, hf⟩ := ob_some hf
  refine crw_vv CX hml (As := [.int r2, .int 4, .int (-1)]) (rest := []) (c_X5_put l D cy q m_thr m_kept m_rea m_det m_isv m_iit m_len m_at m_err m_wro m_cmd m_to1 m_to2 m_now m_sav m_ahe m_bef m_hst m_noi m_own m_inp r2 4 (-1) _ e3) lk_RX5_103 rfl rfl hRMX5_put hP hD hS hA hK hN 0 rfl rfl rfl hl.1 rfl (Nat.le_of_ble_eq_true rfl) ⟨Nat.le_of_ble_eq_true rfl, Nat.le_of_ble_eq_true rfl⟩ (dg ddX5_goHome 7 rfl) (fun H locs hP hD hS => ?_)
  refine lv_aload_n hx hb (dg ddX5_goHome 8 rfl) rfl (lv_at hl 0 rfl) ?_
  refine lv_iload_n hx hb (dg ddX5_goHome 9 rfl) rfl (lv_at hl 1 rfl) ?_
  refine lv_iconst (v := 3) hx hb (dg ddX5_goHome 10 rfl) (by decide) ?_
  refine lv_iconst (v := (-1)) hx hb (dg ddX5_goHome 11 rfl) (by decide) ?_
  obtain ⟨r6, e5, hf⟩ := ob_some hf
  refine crw_vv CX hml (As := [.int a1, .int 3, .int (-1)]) (rest := []) (c_X5_putPitch l D cy q m_thr m_kept m_rea m_det m_isv m_iit m_len m_at m_err m_wro m_cmd m_to1 m_to2 r4 m_sav m_ahe m_bef m_hst m_noi m_own m_inp a1 3 (-1) _ e5) lk_RX5_49 rfl rfl hRMX5_putPitch hP hD hS hA hK hN 0 rfl rfl rfl hl.1 rfl (Nat.le_of_ble_eq_true rfl) ⟨Nat.le_of_ble_eq_true rfl, Nat.le_of_ble_eq_true rfl⟩ (dg ddX5_goHome 12 rfl) (fun H locs hP hD hS => ?_)
  cases hf
  exact e_wv CX hr hlk hP hD hS (dg ddX5_goHome 13 rfl)
def f_X5_leave_c38  (m_iit : Int32) (a1 : Int32) (t0 : Int32) (t2 : Int32) (m_thr : Int32) (m_kept : Int32) (m_rea : Int32) (m_det : Int32) (m_now : Nat → Int32) (m_hst : Nat → Nat → Int32) : Option (Int32 × Int32 × Int32 × Int32 × Int32 × (Nat → Int32) × (Nat → Nat → Int32)) := ob (f_X5_refuse m_rea m_det t0 7 a1) fun r2 => (ob (f_X5_fails m_thr t2 r2.1) fun r4 => (if r4.1 = 0 then (ob (f_X5_change m_kept m_iit m_now m_hst) fun r7 => (ob (f_X5_ofPitch m_now a1 3) fun r9 => (ob (f_X5_goHome m_now a1) fun r11 => (some (r9, r4.2, r7.1, r2.2.1, r2.2.2, r11, r7.2))))) else (some (0, r4.2, m_kept, r2.2.1, r2.2.2, m_now, m_hst))))
def f_X5_leave_c14  (m_iit : Int32) (a1 : Int32) (t0 : Int32) (t1 : Int32) (m_thr : Int32) (m_kept : Int32) (m_rea : Int32) (m_det : Int32) (m_now : Nat → Int32) (m_hst : Nat → Nat → Int32) : Option (Int32 × Int32 × Int32 × Int32 × Int32 × (Nat → Int32) × (Nat → Nat → Int32)) := ob (f_X5_fails m_thr t1 t0) fun r2 => (if r2.1 = 0 then (ob (f_X5_ofPitch m_now a1 3) fun r5 => (if r5 = (-1) then (f_X5_leave_c38 m_iit a1 1 2 r2.2 m_kept m_rea m_det m_now m_hst) else (f_X5_leave_c38 m_iit a1 0 2 r2.2 m_kept m_rea m_det m_now m_hst))) else (some (0, r2.2, m_kept, m_rea, m_det, m_now, m_hst)))
def f_X5_leave (m_thr : Int32) (m_kept : Int32) (m_rea : Int32) (m_det : Int32) (m_iit : Int32) (m_now : Nat → Int32) (m_hst : Nat → Nat → Int32) (a1 : Int32) : Option (Int32 × Int32 × Int32 × Int32 × Int32 × (Nat → Int32) × (Nat → Nat → Int32)) := ob (f_X5_isPitch a1) fun r2 => (if r2 = 0 then (f_X5_leave_c14 m_iit a1 1 1 m_thr m_kept m_rea m_det m_now m_hst) else (f_X5_leave_c14 m_iit a1 0 1 m_thr m_kept m_rea m_det m_now m_hst))
set_option maxHeartbeats 4000000 in
set_option maxRecDepth 100000 in
theorem c_X5_leave (l : Launch) (D : va_G) (cy : Nat → ClassId) (q : Nat → Nat) (m_thr : Int32) (m_kept : Int32) (m_rea : Int32) (m_det : Int32) (m_isv : Int32) (m_iit : Int32) (m_len : Int32) (m_at : Int32) (m_err : Int32) (m_wro : Int32) (m_cmd : Int32) (m_to1 : Int32) (m_to2 : Int32) (m_now : Nat → Int32) (m_sav : Nat → Int32) (m_ahe : Nat → Int32) (m_bef : Nat → Int32) (m_hst : Nat → Nat → Int32) (m_noi : Nat → UInt32) (m_own : Nat → UInt32) (m_inp : Nat → Int32) (a1 : Int32) (sz : Nat) {res : Int32 × Int32 × Int32 × Int32 × Int32 × (Nat → Int32) × (Nat → Nat → Int32)} (hf : f_X5_leave m_thr m_kept m_rea m_det m_iit m_now m_hst a1 = some res) : Met l yX5_leave (.code yX5_leave cX5_leave 3 (some .int) :: lw_all) { frames := 4, cells := 0, slots := 0, locals := 76 } (va_Pc [.ref (q 0), .int a1] (sW D cy (wX5 q cy m_thr m_kept m_rea m_det m_isv m_iit m_len m_at m_err m_wro m_cmd m_to1 m_to2 m_now m_sav m_ahe m_bef m_hst m_noi m_own m_inp) sz)) (qI D (wX5 q cy res.2.1 res.2.2.1 res.2.2.2.1 res.2.2.2.2.1 m_isv m_iit m_len m_at m_err m_wro m_cmd m_to1 m_to2 res.2.2.2.2.2.1 m_sav m_ahe m_bef res.2.2.2.2.2.2 m_noi m_own m_inp) res.1 (va_A (wX5 q cy m_thr m_kept m_rea m_det m_isv m_iit m_len m_at m_err m_wro m_cmd m_to1 m_to2 m_now m_sav m_ahe m_bef m_hst m_noi m_own m_inp) sz)) 0 0 (va_A (wX5 q cy m_thr m_kept m_rea m_det m_isv m_iit m_len m_at m_err m_wro m_cmd m_to1 m_to2 m_now m_sav m_ahe m_bef m_hst m_noi m_own m_inp) sz) := by
  refine mk_rw (Qc := qI D (wX5 q cy res.2.1 res.2.2.1 res.2.2.2.1 res.2.2.2.2.1 m_isv m_iit m_len m_at m_err m_wro m_cmd m_to1 m_to2 res.2.2.2.2.2.1 m_sav m_ahe m_bef res.2.2.2.2.2.2 m_noi m_own m_inp) res.1) (Rc := RX5) (by decide +kernel) rfl (Nat.le_of_ble_eq_true rfl) ?_
  intro p e s m args below meth c ls A CX hml hr hlk hK hN hP hD hS hA hl
  have hx := CX.1
  have hb := CX.2.1
  have hRMX5_change : (⟨3, 0, 0, 56⟩ : Room).frames + 1 ≤ (⟨4, 0, 0, 76⟩ : Room).frames ∧ 8 + (1 + 11) + (⟨3, 0, 0, 56⟩ : Room).locals ≤ (⟨4, 0, 0, 76⟩ : Room).locals := ⟨Nat.le_of_ble_eq_true rfl, Nat.le_of_ble_eq_true rfl⟩
  have hRMX5_fails : (⟨1, 0, 0, 12⟩ : Room).frames + 1 ≤ (⟨4, 0, 0, 76⟩ : Room).frames ∧ 8 + (3 + 11) + (⟨1, 0, 0, 12⟩ : Room).locals ≤ (⟨4, 0, 0, 76⟩ : Room).locals := ⟨Nat.le_of_ble_eq_true rfl, Nat.le_of_ble_eq_true rfl⟩
  have hRMX5_goHome : (⟨2, 0, 0, 35⟩ : Room).frames + 1 ≤ (⟨4, 0, 0, 76⟩ : Room).frames ∧ 8 + (2 + 11) + (⟨2, 0, 0, 35⟩ : Room).locals ≤ (⟨4, 0, 0, 76⟩ : Room).locals := ⟨Nat.le_of_ble_eq_true rfl, Nat.le_of_ble_eq_true rfl⟩
  have hRMX5_isPitch : (⟨2, 0, 0, 34⟩ : Room).frames + 1 ≤ (⟨4, 0, 0, 76⟩ : Room).frames ∧ 8 + (1 + 11) + (⟨2, 0, 0, 34⟩ : Room).locals ≤ (⟨4, 0, 0, 76⟩ : Room).locals := ⟨Nat.le_of_ble_eq_true rfl, Nat.le_of_ble_eq_true rfl⟩
  have hRMX5_ofPitch : (⟨1, 0, 0, 12⟩ : Room).frames + 1 ≤ (⟨4, 0, 0, 76⟩ : Room).frames ∧ 8 + (3 + 11) + (⟨1, 0, 0, 12⟩ : Room).locals ≤ (⟨4, 0, 0, 76⟩ : Room).locals := ⟨Nat.le_of_ble_eq_true rfl, Nat.le_of_ble_eq_true rfl⟩
  have hRMX5_refuse : (⟨1, 0, 0, 12⟩ : Room).frames + 1 ≤ (⟨4, 0, 0, 76⟩ : Room).frames ∧ 8 + (4 + 11) + (⟨1, 0, 0, 12⟩ : Room).locals ≤ (⟨4, 0, 0, 76⟩ : Room).locals := ⟨Nat.le_of_ble_eq_true rfl, Nat.le_of_ble_eq_true rfl⟩
  have hl0 := hl
  have K38 : ∀ (t0 : Int32) (t2 : Int32) (m_thr : Int32) (m_kept : Int32) (m_rea : Int32) (m_det : Int32) (m_now : Nat → Int32) (m_hst : Nat → Nat → Int32) (H : Heap) (locs : List Loc) (hP : va_P D vwCl (wX5 q cy m_thr m_kept m_rea m_det m_isv m_iit m_len m_at m_err m_wro m_cmd m_to1 m_to2 m_now m_sav m_ahe m_bef m_hst m_noi m_own m_inp) H) (hD : va_D A (wX5 q cy m_thr m_kept m_rea m_det m_isv m_iit m_len m_at m_err m_wro m_cmd m_to1 m_to2 m_now m_sav m_ahe m_bef m_hst m_noi m_own m_inp)) (hS : va_S A s.heap H locs) (ls : Array Slot) (hl : lv_has ls 3 [(0, .ref (q 0)), (1, .int a1)]) (hf : f_X5_leave_c38 m_iit a1 t0 t2 m_thr m_kept m_rea m_det m_now m_hst = some res), W p l e ⟨4, 0, 0, 76⟩ s m args below meth c H locs 0 0 (MQ below (qI D (wX5 q cy res.2.1 res.2.2.1 res.2.2.2.1 res.2.2.2.2.1 m_isv m_iit m_len m_at m_err m_wro m_cmd m_to1 m_to2 res.2.2.2.2.2.1 m_sav m_ahe m_bef res.2.2.2.2.2.2 m_noi m_own m_inp) res.1 A) args s 0 0 A) (F0 m 38 ls [.int t0, .ref (q 0), .int t2, .ref (q 0)]) := by
    intro t0 t2 m_thr m_kept m_rea m_det m_now m_hst H locs hP hD hS ls hl hf
    refine lv_bipush (v := 7) hx hb (dg ddX5_leave 22 rfl) (by decide) ?_
    refine lv_iload_n hx hb (dg ddX5_leave 23 rfl) rfl (lv_at hl 1 rfl) ?_
    obtain ⟨r2, e1, hf⟩ := ob_some hf
    refine crw_vi CX hml (As := [.int t0, .int 7, .int a1]) (rest := [.int t2, .ref (q 0)]) (c_X5_refuse l D cy q m_thr m_kept m_rea m_det m_isv m_iit m_len m_at m_err m_wro m_cmd m_to1 m_to2 m_now m_sav m_ahe m_bef m_hst m_noi m_own m_inp t0 7 a1 _ e1) lk_RX5_106 rfl rfl hRMX5_refuse hP hD hS hA hK hN 0 rfl rfl rfl hl.1 rfl (Nat.le_of_ble_eq_true rfl) ⟨Nat.le_of_ble_eq_true rfl, Nat.le_of_ble_eq_true rfl⟩ (dg ddX5_leave 24 rfl) (fun H locs hP hD hS => ?_)
    obtain ⟨r4, e3, hf⟩ := ob_some hf
    refine crw_vi CX hml (As := [.int t2, .int r2.1]) (rest := []) (c_X5_fails l D cy q m_thr m_kept r2.2.1 r2.2.2 m_isv m_iit m_len m_at m_err m_wro m_cmd m_to1 m_to2 m_now m_sav m_ahe m_bef m_hst m_noi m_own m_inp t2 r2.1 _ e3) lk_RX5_81 rfl rfl hRMX5_fails hP hD hS hA hK hN 0 rfl rfl rfl hl.1 rfl (Nat.le_of_ble_eq_true rfl) ⟨Nat.le_of_ble_eq_true rfl, Nat.le_of_ble_eq_true rfl⟩ (dg ddX5_leave 25 rfl) (fun H locs hP hD hS => ?_)
    refine lv_if_eq (tgt := 52) hx hb (dg ddX5_leave 26 rfl) (by decide) (fun h5 => ?_) (fun h5 => ?_)
    · have hf := it_t h5 hf
      refine lv_aload_n hx hb (dg ddX5_leave 29 rfl) rfl (lv_at hl 0 rfl) ?_
      obtain ⟨r7, e6, hf⟩ := ob_some hf
      refine crw_vv CX hml (As := []) (rest := []) (c_X5_change l D cy q r4.2 m_kept r2.2.1 r2.2.2 m_isv m_iit m_len m_at m_err m_wro m_cmd m_to1 m_to2 m_now m_sav m_ahe m_bef m_hst m_noi m_own m_inp _ e6) lk_RX5_85 rfl rfl hRMX5_change hP hD hS hA hK hN 0 rfl rfl rfl hl.1 rfl (Nat.le_of_ble_eq_true rfl) ⟨Nat.le_of_ble_eq_true rfl, Nat.le_of_ble_eq_true rfl⟩ (dg ddX5_leave 30 rfl) (fun H locs hP hD hS => ?_)
      refine lv_aload_n hx hb (dg ddX5_leave 31 rfl) rfl (lv_at hl 0 rfl) ?_
      refine lv_iload_n hx hb (dg ddX5_leave 32 rfl) rfl (lv_at hl 1 rfl) ?_
      refine lv_iconst (v := 3) hx hb (dg ddX5_leave 33 rfl) (by decide) ?_
      obtain ⟨r9, e8, hf⟩ := ob_some hf
      refine cro_vi CX hml (As := [.int a1, .int 3]) (rest := []) (c_X5_ofPitch l D cy q r4.2 r7.1 r2.2.1 r2.2.2 m_isv m_iit m_len m_at m_err m_wro m_cmd m_to1 m_to2 m_now m_sav m_ahe m_bef r7.2 m_noi m_own m_inp a1 3 e8) lk_RX5_88 rfl rfl hRMX5_ofPitch hP hK hN 0 rfl rfl rfl hl.1 rfl (Nat.le_of_ble_eq_true rfl) ⟨Nat.le_of_ble_eq_true rfl, Nat.le_of_ble_eq_true rfl⟩ (dg ddX5_leave 34 rfl) ?_
      refine lv_istore_n (lv' := [(2, .int r9), (0, .ref (q 0)), (1, .int a1)]) hx hb (dg ddX5_leave 35 rfl) rfl hl (by decide) rfl (fun ls hl => ?_)
      refine lv_aload_n hx hb (dg ddX5_leave 36 rfl) rfl (lv_at hl 1 rfl) ?_
      refine lv_iload_n hx hb (dg ddX5_leave 37 rfl) rfl (lv_at hl 2 rfl) ?_
      obtain ⟨r11, e10, hf⟩ := ob_some hf
      refine crw_vv CX hml (As := [.int a1]) (rest := []) (c_X5_goHome l D cy q r4.2 r7.1 r2.2.1 r2.2.2 m_isv m_iit m_len m_at m_err m_wro m_cmd m_to1 m_to2 m_now m_sav m_ahe m_bef r7.2 m_noi m_own m_inp a1 _ e10) lk_RX5_134 rfl rfl hRMX5_goHome hP hD hS hA hK hN 0 rfl rfl rfl hl.1 rfl (Nat.le_of_ble_eq_true rfl) ⟨Nat.le_of_ble_eq_true rfl, Nat.le_of_ble_eq_true rfl⟩ (dg ddX5_leave 38 rfl) (fun H locs hP hD hS => ?_)
      refine lv_iload_n hx hb (dg ddX5_leave 39 rfl) rfl (lv_at hl 0 rfl) ?_
      cases hf
      exact e_wi CX hr hlk rfl hP hD hS (dg ddX5_leave 40 rfl)
    · have hf := it_f h5 hf
      refine lv_iconst (v := 0) hx hb (dg ddX5_leave 27 rfl) (by decide) ?_
      cases hf
      exact e_wi CX hr hlk rfl hP hD hS (dg ddX5_leave 28 rfl)
  have K14 : ∀ (t0 : Int32) (t1 : Int32) (m_thr : Int32) (m_kept : Int32) (m_rea : Int32) (m_det : Int32) (m_now : Nat → Int32) (m_hst : Nat → Nat → Int32) (H : Heap) (locs : List Loc) (hP : va_P D vwCl (wX5 q cy m_thr m_kept m_rea m_det m_isv m_iit m_len m_at m_err m_wro m_cmd m_to1 m_to2 m_now m_sav m_ahe m_bef m_hst m_noi m_own m_inp) H) (hD : va_D A (wX5 q cy m_thr m_kept m_rea m_det m_isv m_iit m_len m_at m_err m_wro m_cmd m_to1 m_to2 m_now m_sav m_ahe m_bef m_hst m_noi m_own m_inp)) (hS : va_S A s.heap H locs) (ls : Array Slot) (hl : lv_has ls 3 [(0, .ref (q 0)), (1, .int a1)]) (hf : f_X5_leave_c14 m_iit a1 t0 t1 m_thr m_kept m_rea m_det m_now m_hst = some res), W p l e ⟨4, 0, 0, 76⟩ s m args below meth c H locs 0 0 (MQ below (qI D (wX5 q cy res.2.1 res.2.2.1 res.2.2.2.1 res.2.2.2.2.1 m_isv m_iit m_len m_at m_err m_wro m_cmd m_to1 m_to2 res.2.2.2.2.2.1 m_sav m_ahe m_bef res.2.2.2.2.2.2 m_noi m_own m_inp) res.1 A) args s 0 0 A) (F0 m 14 ls [.int t0, .int t1, .ref (q 0)]) := by
    intro t0 t1 m_thr m_kept m_rea m_det m_now m_hst H locs hP hD hS ls hl hf
    obtain ⟨r2, e1, hf⟩ := ob_some hf
    refine crw_vi CX hml (As := [.int t1, .int t0]) (rest := []) (c_X5_fails l D cy q m_thr m_kept m_rea m_det m_isv m_iit m_len m_at m_err m_wro m_cmd m_to1 m_to2 m_now m_sav m_ahe m_bef m_hst m_noi m_own m_inp t1 t0 _ e1) lk_RX5_81 rfl rfl hRMX5_fails hP hD hS hA hK hN 0 rfl rfl rfl hl.1 rfl (Nat.le_of_ble_eq_true rfl) ⟨Nat.le_of_ble_eq_true rfl, Nat.le_of_ble_eq_true rfl⟩ (dg ddX5_leave 8 rfl) (fun H locs hP hD hS => ?_)
    refine lv_if_ne (tgt := 50) hx hb (dg ddX5_leave 9 rfl) (by decide) (fun h3 => ?_) (fun h3 => ?_)
    · have hf := it_f h3 hf
      refine lv_iconst (v := 0) hx hb (dg ddX5_leave 27 rfl) (by decide) ?_
      cases hf
      exact e_wi CX hr hlk rfl hP hD hS (dg ddX5_leave 28 rfl)
    · have hf := it_t h3 hf
      refine lv_aload_n hx hb (dg ddX5_leave 10 rfl) rfl (lv_at hl 0 rfl) ?_
      refine lv_iconst (v := 2) hx hb (dg ddX5_leave 11 rfl) (by decide) ?_
      refine lv_aload_n hx hb (dg ddX5_leave 12 rfl) rfl (lv_at hl 0 rfl) ?_
      refine lv_aload_n hx hb (dg ddX5_leave 13 rfl) rfl (lv_at hl 0 rfl) ?_
      refine lv_iload_n hx hb (dg ddX5_leave 14 rfl) rfl (lv_at hl 1 rfl) ?_
      refine lv_iconst (v := 3) hx hb (dg ddX5_leave 15 rfl) (by decide) ?_
      obtain ⟨r5, e4, hf⟩ := ob_some hf
      refine cro_vi CX hml (As := [.int a1, .int 3]) (rest := [.ref (q 0), .int 2, .ref (q 0)]) (c_X5_ofPitch l D cy q r2.2 m_kept m_rea m_det m_isv m_iit m_len m_at m_err m_wro m_cmd m_to1 m_to2 m_now m_sav m_ahe m_bef m_hst m_noi m_own m_inp a1 3 e4) lk_RX5_88 rfl rfl hRMX5_ofPitch hP hK hN 0 rfl rfl rfl hl.1 rfl (Nat.le_of_ble_eq_true rfl) ⟨Nat.le_of_ble_eq_true rfl, Nat.le_of_ble_eq_true rfl⟩ (dg ddX5_leave 16 rfl) ?_
      refine lv_iconst (v := (-1)) hx hb (dg ddX5_leave 17 rfl) (by decide) ?_
      refine lv_icmp_ne (tgt := 37) hx hb (dg ddX5_leave 18 rfl) (by decide) (fun h6 => ?_) (fun h6 => ?_)
      · have hf := it_f h6 hf
        refine lv_iconst (v := 0) hx hb (dg ddX5_leave 21 rfl) (by decide) ?_
        exact K38  0 2 r2.2 m_kept m_rea m_det m_now m_hst _ _ hP hD hS _ (lv_sub hl [0, 1] rfl) hf
      · have hf := it_t h6 hf
        refine lv_iconst (v := 1) hx hb (dg ddX5_leave 19 rfl) (by decide) ?_
        refine lv_goto (tgt := 38) hx hb (dg ddX5_leave 20 rfl) (by decide) ?_
        exact K38  1 2 r2.2 m_kept m_rea m_det m_now m_hst _ _ hP hD hS _ (lv_sub hl [0, 1] rfl) hf
  refine lv_aload_n hx hb (dg ddX5_leave 0 rfl) rfl (lv_at hl 0 rfl) ?_
  refine lv_iconst (v := 1) hx hb (dg ddX5_leave 1 rfl) (by decide) ?_
  refine lv_iload_n hx hb (dg ddX5_leave 2 rfl) rfl (lv_at hl 1 rfl) ?_
  obtain ⟨r2, e1, hf⟩ := ob_some hf
  refine cro_si CX hml (As := [.int a1]) (rest := [.int 1, .ref (q 0)]) (c_X5_isPitch l D cy a1 e1) lk_RX5_96 rfl rfl hRMX5_isPitch vaP_nil hK hN rfl hl.1 rfl (Nat.le_of_ble_eq_true rfl) ⟨Nat.le_of_ble_eq_true rfl, Nat.le_of_ble_eq_true rfl⟩ (dg ddX5_leave 3 rfl) ?_
  refine lv_if_ne (tgt := 13) hx hb (dg ddX5_leave 4 rfl) (by decide) (fun h3 => ?_) (fun h3 => ?_)
  · have hf := it_f h3 hf
    refine lv_iconst (v := 0) hx hb (dg ddX5_leave 7 rfl) (by decide) ?_
    exact K14  0 1 m_thr m_kept m_rea m_det m_now m_hst _ _ hP hD hS _ (lv_sub hl [0, 1] rfl) hf
  · have hf := it_t h3 hf
    refine lv_iconst (v := 1) hx hb (dg ddX5_leave 5 rfl) (by decide) ?_
    refine lv_goto (tgt := 14) hx hb (dg ddX5_leave 6 rfl) (by decide) ?_
    exact K14  1 1 m_thr m_kept m_rea m_det m_now m_hst _ _ hP hD hS _ (lv_sub hl [0, 1] rfl) hf
def f_X5_isSwapRefused_c41  (m_now : Nat → Int32) (a2 : Int32) (t0 : Int32) (m_rea : Int32) (m_det : Int32) : Option (Int32 × Int32 × Int32) := ob (f_X5_refuse m_rea m_det t0 7 a2) fun r2 => (if r2.1 = 0 then (some (0, r2.2.1, r2.2.2)) else (some (1, r2.2.1, r2.2.2)))
def f_X5_isSwapRefused_c16  (m_now : Nat → Int32) (a1 : Int32) (a2 : Int32) (t0 : Int32) (m_rea : Int32) (m_det : Int32) : Option (Int32 × Int32 × Int32) := ob (f_X5_refuse m_rea m_det t0 7 a1) fun r2 => (if r2.1 = 0 then (ob (f_X5_ofPitch m_now a2 3) fun r5 => (if r5 = (-1) then (f_X5_isSwapRefused_c41 m_now a2 1 r2.2.1 r2.2.2) else (f_X5_isSwapRefused_c41 m_now a2 0 r2.2.1 r2.2.2))) else (some (1, r2.2.1, r2.2.2)))
def f_X5_isSwapRefused (m_rea : Int32) (m_det : Int32) (m_now : Nat → Int32) (a1 : Int32) (a2 : Int32) : Option (Int32 × Int32 × Int32) := ob (f_X5_ofPitch m_now a1 3) fun r2 => (if r2 = (-1) then (f_X5_isSwapRefused_c16 m_now a1 a2 1 m_rea m_det) else (f_X5_isSwapRefused_c16 m_now a1 a2 0 m_rea m_det))
set_option maxHeartbeats 4000000 in
set_option maxRecDepth 100000 in
theorem c_X5_isSwapRefused (l : Launch) (D : va_G) (cy : Nat → ClassId) (q : Nat → Nat) (m_thr : Int32) (m_kept : Int32) (m_rea : Int32) (m_det : Int32) (m_isv : Int32) (m_iit : Int32) (m_len : Int32) (m_at : Int32) (m_err : Int32) (m_wro : Int32) (m_cmd : Int32) (m_to1 : Int32) (m_to2 : Int32) (m_now : Nat → Int32) (m_sav : Nat → Int32) (m_ahe : Nat → Int32) (m_bef : Nat → Int32) (m_hst : Nat → Nat → Int32) (m_noi : Nat → UInt32) (m_own : Nat → UInt32) (m_inp : Nat → Int32) (a1 : Int32) (a2 : Int32) (sz : Nat) {res : Int32 × Int32 × Int32} (hf : f_X5_isSwapRefused m_rea m_det m_now a1 a2 = some res) : Met l yX5_isSwapRefused (.code yX5_isSwapRefused cX5_isSwapRefused 3 (some .boolean) :: lw_all) { frames := 2, cells := 0, slots := 0, locals := 35 } (va_Pc [.ref (q 0), .int a1, .int a2] (sW D cy (wX5 q cy m_thr m_kept m_rea m_det m_isv m_iit m_len m_at m_err m_wro m_cmd m_to1 m_to2 m_now m_sav m_ahe m_bef m_hst m_noi m_own m_inp) sz)) (qI D (wX5 q cy m_thr m_kept res.2.1 res.2.2 m_isv m_iit m_len m_at m_err m_wro m_cmd m_to1 m_to2 m_now m_sav m_ahe m_bef m_hst m_noi m_own m_inp) res.1 (va_A (wX5 q cy m_thr m_kept m_rea m_det m_isv m_iit m_len m_at m_err m_wro m_cmd m_to1 m_to2 m_now m_sav m_ahe m_bef m_hst m_noi m_own m_inp) sz)) 0 0 (va_A (wX5 q cy m_thr m_kept m_rea m_det m_isv m_iit m_len m_at m_err m_wro m_cmd m_to1 m_to2 m_now m_sav m_ahe m_bef m_hst m_noi m_own m_inp) sz) := by
  refine mk_rw (Qc := qI D (wX5 q cy m_thr m_kept res.2.1 res.2.2 m_isv m_iit m_len m_at m_err m_wro m_cmd m_to1 m_to2 m_now m_sav m_ahe m_bef m_hst m_noi m_own m_inp) res.1) (Rc := RX5) (by decide +kernel) rfl (Nat.le_of_ble_eq_true rfl) ?_
  intro p e s m args below meth c ls A CX hml hr hlk hK hN hP hD hS hA hl
  have hx := CX.1
  have hb := CX.2.1
  have hRMX5_ofPitch : (⟨1, 0, 0, 12⟩ : Room).frames + 1 ≤ (⟨2, 0, 0, 35⟩ : Room).frames ∧ 8 + (3 + 11) + (⟨1, 0, 0, 12⟩ : Room).locals ≤ (⟨2, 0, 0, 35⟩ : Room).locals := ⟨Nat.le_of_ble_eq_true rfl, Nat.le_of_ble_eq_true rfl⟩
  have hRMX5_refuse : (⟨1, 0, 0, 12⟩ : Room).frames + 1 ≤ (⟨2, 0, 0, 35⟩ : Room).frames ∧ 8 + (4 + 11) + (⟨1, 0, 0, 12⟩ : Room).locals ≤ (⟨2, 0, 0, 35⟩ : Room).locals := ⟨Nat.le_of_ble_eq_true rfl, Nat.le_of_ble_eq_true rfl⟩
  have hl0 := hl
  have K41 : ∀ (t0 : Int32) (m_rea : Int32) (m_det : Int32) (H : Heap) (locs : List Loc) (hP : va_P D vwCl (wX5 q cy m_thr m_kept m_rea m_det m_isv m_iit m_len m_at m_err m_wro m_cmd m_to1 m_to2 m_now m_sav m_ahe m_bef m_hst m_noi m_own m_inp) H) (hD : va_D A (wX5 q cy m_thr m_kept m_rea m_det m_isv m_iit m_len m_at m_err m_wro m_cmd m_to1 m_to2 m_now m_sav m_ahe m_bef m_hst m_noi m_own m_inp)) (hS : va_S A s.heap H locs) (ls : Array Slot) (hl : lv_has ls 3 [(2, .int a2)]) (hf : f_X5_isSwapRefused_c41 m_now a2 t0 m_rea m_det = some res), W p l e ⟨2, 0, 0, 35⟩ s m args below meth c H locs 0 0 (MQ below (qI D (wX5 q cy m_thr m_kept res.2.1 res.2.2 m_isv m_iit m_len m_at m_err m_wro m_cmd m_to1 m_to2 m_now m_sav m_ahe m_bef m_hst m_noi m_own m_inp) res.1 A) args s 0 0 A) (F0 m 41 ls [.int t0, .ref (q 0)]) := by
    intro t0 m_rea m_det H locs hP hD hS ls hl hf
    refine lv_bipush (v := 7) hx hb (dg ddX5_isSwapRefused 24 rfl) (by decide) ?_
    refine lv_iload_n hx hb (dg ddX5_isSwapRefused 25 rfl) rfl (lv_at hl 0 rfl) ?_
    obtain ⟨r2, e1, hf⟩ := ob_some hf
    refine crw_vi CX hml (As := [.int t0, .int 7, .int a2]) (rest := []) (c_X5_refuse l D cy q m_thr m_kept m_rea m_det m_isv m_iit m_len m_at m_err m_wro m_cmd m_to1 m_to2 m_now m_sav m_ahe m_bef m_hst m_noi m_own m_inp t0 7 a2 _ e1) lk_RX5_106 rfl rfl hRMX5_refuse hP hD hS hA hK hN 0 rfl rfl rfl hl.1 rfl (Nat.le_of_ble_eq_true rfl) ⟨Nat.le_of_ble_eq_true rfl, Nat.le_of_ble_eq_true rfl⟩ (dg ddX5_isSwapRefused 26 rfl) (fun H locs hP hD hS => ?_)
    refine lv_if_eq (tgt := 54) hx hb (dg ddX5_isSwapRefused 27 rfl) (by decide) (fun h3 => ?_) (fun h3 => ?_)
    · have hf := it_t h3 hf
      refine lv_iconst (v := 0) hx hb (dg ddX5_isSwapRefused 30 rfl) (by decide) ?_
      cases hf
      exact e_wz CX hr hlk (by decide) rfl hP hD hS (dg ddX5_isSwapRefused 31 rfl)
    · have hf := it_f h3 hf
      refine lv_iconst (v := 1) hx hb (dg ddX5_isSwapRefused 28 rfl) (by decide) ?_
      refine lv_goto (tgt := 55) hx hb (dg ddX5_isSwapRefused 29 rfl) (by decide) ?_
      cases hf
      exact e_wz CX hr hlk (by decide) rfl hP hD hS (dg ddX5_isSwapRefused 31 rfl)
  have K16 : ∀ (t0 : Int32) (m_rea : Int32) (m_det : Int32) (H : Heap) (locs : List Loc) (hP : va_P D vwCl (wX5 q cy m_thr m_kept m_rea m_det m_isv m_iit m_len m_at m_err m_wro m_cmd m_to1 m_to2 m_now m_sav m_ahe m_bef m_hst m_noi m_own m_inp) H) (hD : va_D A (wX5 q cy m_thr m_kept m_rea m_det m_isv m_iit m_len m_at m_err m_wro m_cmd m_to1 m_to2 m_now m_sav m_ahe m_bef m_hst m_noi m_own m_inp)) (hS : va_S A s.heap H locs) (ls : Array Slot) (hl : lv_has ls 3 [(0, .ref (q 0)), (1, .int a1), (2, .int a2)]) (hf : f_X5_isSwapRefused_c16 m_now a1 a2 t0 m_rea m_det = some res), W p l e ⟨2, 0, 0, 35⟩ s m args below meth c H locs 0 0 (MQ below (qI D (wX5 q cy m_thr m_kept res.2.1 res.2.2 m_isv m_iit m_len m_at m_err m_wro m_cmd m_to1 m_to2 m_now m_sav m_ahe m_bef m_hst m_noi m_own m_inp) res.1 A) args s 0 0 A) (F0 m 16 ls [.int t0, .ref (q 0)]) := by
    intro t0 m_rea m_det H locs hP hD hS ls hl hf
    refine lv_bipush (v := 7) hx hb (dg ddX5_isSwapRefused 10 rfl) (by decide) ?_
    refine lv_iload_n hx hb (dg ddX5_isSwapRefused 11 rfl) rfl (lv_at hl 1 rfl) ?_
    obtain ⟨r2, e1, hf⟩ := ob_some hf
    refine crw_vi CX hml (As := [.int t0, .int 7, .int a1]) (rest := []) (c_X5_refuse l D cy q m_thr m_kept m_rea m_det m_isv m_iit m_len m_at m_err m_wro m_cmd m_to1 m_to2 m_now m_sav m_ahe m_bef m_hst m_noi m_own m_inp t0 7 a1 _ e1) lk_RX5_106 rfl rfl hRMX5_refuse hP hD hS hA hK hN 0 rfl rfl rfl hl.1 rfl (Nat.le_of_ble_eq_true rfl) ⟨Nat.le_of_ble_eq_true rfl, Nat.le_of_ble_eq_true rfl⟩ (dg ddX5_isSwapRefused 12 rfl) (fun H locs hP hD hS => ?_)
    refine lv_if_ne (tgt := 50) hx hb (dg ddX5_isSwapRefused 13 rfl) (by decide) (fun h3 => ?_) (fun h3 => ?_)
    · have hf := it_f h3 hf
      refine lv_iconst (v := 1) hx hb (dg ddX5_isSwapRefused 28 rfl) (by decide) ?_
      refine lv_goto (tgt := 55) hx hb (dg ddX5_isSwapRefused 29 rfl) (by decide) ?_
      cases hf
      exact e_wz CX hr hlk (by decide) rfl hP hD hS (dg ddX5_isSwapRefused 31 rfl)
    · have hf := it_t h3 hf
      refine lv_aload_n hx hb (dg ddX5_isSwapRefused 14 rfl) rfl (lv_at hl 0 rfl) ?_
      refine lv_aload_n hx hb (dg ddX5_isSwapRefused 15 rfl) rfl (lv_at hl 0 rfl) ?_
      refine lv_iload_n hx hb (dg ddX5_isSwapRefused 16 rfl) rfl (lv_at hl 2 rfl) ?_
      refine lv_iconst (v := 3) hx hb (dg ddX5_isSwapRefused 17 rfl) (by decide) ?_
      obtain ⟨r5, e4, hf⟩ := ob_some hf
      refine cro_vi CX hml (As := [.int a2, .int 3]) (rest := [.ref (q 0)]) (c_X5_ofPitch l D cy q m_thr m_kept r2.2.1 r2.2.2 m_isv m_iit m_len m_at m_err m_wro m_cmd m_to1 m_to2 m_now m_sav m_ahe m_bef m_hst m_noi m_own m_inp a2 3 e4) lk_RX5_88 rfl rfl hRMX5_ofPitch hP hK hN 0 rfl rfl rfl hl.1 rfl (Nat.le_of_ble_eq_true rfl) ⟨Nat.le_of_ble_eq_true rfl, Nat.le_of_ble_eq_true rfl⟩ (dg ddX5_isSwapRefused 18 rfl) ?_
      refine lv_iconst (v := (-1)) hx hb (dg ddX5_isSwapRefused 19 rfl) (by decide) ?_
      refine lv_icmp_ne (tgt := 40) hx hb (dg ddX5_isSwapRefused 20 rfl) (by decide) (fun h6 => ?_) (fun h6 => ?_)
      · have hf := it_f h6 hf
        refine lv_iconst (v := 0) hx hb (dg ddX5_isSwapRefused 23 rfl) (by decide) ?_
        exact K41  0 r2.2.1 r2.2.2 _ _ hP hD hS _ (lv_sub hl [2] rfl) hf
      · have hf := it_t h6 hf
        refine lv_iconst (v := 1) hx hb (dg ddX5_isSwapRefused 21 rfl) (by decide) ?_
        refine lv_goto (tgt := 41) hx hb (dg ddX5_isSwapRefused 22 rfl) (by decide) ?_
        exact K41  1 r2.2.1 r2.2.2 _ _ hP hD hS _ (lv_sub hl [2] rfl) hf
  refine lv_aload_n hx hb (dg ddX5_isSwapRefused 0 rfl) rfl (lv_at hl 0 rfl) ?_
  refine lv_aload_n hx hb (dg ddX5_isSwapRefused 1 rfl) rfl (lv_at hl 0 rfl) ?_
  refine lv_iload_n hx hb (dg ddX5_isSwapRefused 2 rfl) rfl (lv_at hl 1 rfl) ?_
  refine lv_iconst (v := 3) hx hb (dg ddX5_isSwapRefused 3 rfl) (by decide) ?_
  obtain ⟨r2, e1, hf⟩ := ob_some hf
  refine cro_vi CX hml (As := [.int a1, .int 3]) (rest := [.ref (q 0)]) (c_X5_ofPitch l D cy q m_thr m_kept m_rea m_det m_isv m_iit m_len m_at m_err m_wro m_cmd m_to1 m_to2 m_now m_sav m_ahe m_bef m_hst m_noi m_own m_inp a1 3 e1) lk_RX5_88 rfl rfl hRMX5_ofPitch hP hK hN 0 rfl rfl rfl hl.1 rfl (Nat.le_of_ble_eq_true rfl) ⟨Nat.le_of_ble_eq_true rfl, Nat.le_of_ble_eq_true rfl⟩ (dg ddX5_isSwapRefused 4 rfl) ?_
  refine lv_iconst (v := (-1)) hx hb (dg ddX5_isSwapRefused 5 rfl) (by decide) ?_
  refine lv_icmp_ne (tgt := 15) hx hb (dg ddX5_isSwapRefused 6 rfl) (by decide) (fun h3 => ?_) (fun h3 => ?_)
  · have hf := it_f h3 hf
    refine lv_iconst (v := 0) hx hb (dg ddX5_isSwapRefused 9 rfl) (by decide) ?_
    exact K16  0 m_rea m_det _ _ hP hD hS _ (lv_sub hl [0, 1, 2] rfl) hf
  · have hf := it_t h3 hf
    refine lv_iconst (v := 1) hx hb (dg ddX5_isSwapRefused 7 rfl) (by decide) ?_
    refine lv_goto (tgt := 16) hx hb (dg ddX5_isSwapRefused 8 rfl) (by decide) ?_
    exact K16  1 m_rea m_det _ _ hP hD hS _ (lv_sub hl [0, 1, 2] rfl) hf
def f_X5_swap_c21  (m_iit : Int32) (a1 : Int32) (a2 : Int32) (t0 : Int32) (t1 : Int32) (m_thr : Int32) (m_kept : Int32) (m_rea : Int32) (m_det : Int32) (m_now : Nat → Int32) (m_hst : Nat → Nat → Int32) : Option (Int32 × Int32 × Int32 × Int32 × Int32 × (Nat → Int32) × (Nat → Nat → Int32)) := ob (f_X5_fails m_thr t1 t0) fun r2 => (if r2.1 = 0 then (ob (f_X5_isSwapRefused m_rea m_det m_now a1 a2) fun r5 => (ob (f_X5_fails r2.2 2 r5.1) fun r7 => (if r7.1 = 0 then (ob (f_X5_change m_kept m_iit m_now m_hst) fun r10 => (ob (f_X5_ofPitch m_now a1 3) fun r12 => (ob (f_X5_ofPitch m_now a2 3) fun r14 => (ob (f_X5_putPitch m_now a1 3 r14) fun r16 => (ob (f_X5_putPitch r16 a2 3 r12) fun r18 => (ob (f_X5_put r18 r14 4 a1) fun r20 => (ob (f_X5_put r20 r12 4 a2) fun r22 => (some (r14, r7.2, r10.1, r5.2.1, r5.2.2, r22, r10.2))))))))) else (some (0, r7.2, m_kept, r5.2.1, r5.2.2, m_now, m_hst))))) else (some (0, r2.2, m_kept, m_rea, m_det, m_now, m_hst)))
def f_X5_swap_c16  (m_iit : Int32) (a1 : Int32) (a2 : Int32) (t0 : Int32) (m_thr : Int32) (m_kept : Int32) (m_rea : Int32) (m_det : Int32) (m_now : Nat → Int32) (m_hst : Nat → Nat → Int32) : Option (Int32 × Int32 × Int32 × Int32 × Int32 × (Nat → Int32) × (Nat → Nat → Int32)) := f_X5_swap_c21 m_iit a1 a2 1 t0 m_thr m_kept m_rea m_det m_now m_hst
def f_X5_swap (m_thr : Int32) (m_kept : Int32) (m_rea : Int32) (m_det : Int32) (m_iit : Int32) (m_now : Nat → Int32) (m_hst : Nat → Nat → Int32) (a1 : Int32) (a2 : Int32) : Option (Int32 × Int32 × Int32 × Int32 × Int32 × (Nat → Int32) × (Nat → Nat → Int32)) := ob (f_X5_isPitch a1) fun r2 => (if r2 = 0 then (f_X5_swap_c16 m_iit a1 a2 1 m_thr m_kept m_rea m_det m_now m_hst) else (ob (f_X5_isPitch a2) fun r5 => (if r5 = 0 then (f_X5_swap_c16 m_iit a1 a2 1 m_thr m_kept m_rea m_det m_now m_hst) else (f_X5_swap_c21 m_iit a1 a2 0 1 m_thr m_kept m_rea m_det m_now m_hst))))
set_option maxHeartbeats 4000000 in
set_option maxRecDepth 100000 in
theorem c_X5_swap (l : Launch) (D : va_G) (cy : Nat → ClassId) (q : Nat → Nat) (m_thr : Int32) (m_kept : Int32) (m_rea : Int32) (m_det : Int32) (m_isv : Int32) (m_iit : Int32) (m_len : Int32) (m_at : Int32) (m_err : Int32) (m_wro : Int32) (m_cmd : Int32) (m_to1 : Int32) (m_to2 : Int32) (m_now : Nat → Int32) (m_sav : Nat → Int32) (m_ahe : Nat → Int32) (m_bef : Nat → Int32) (m_hst : Nat → Nat → Int32) (m_noi : Nat → UInt32) (m_own : Nat → UInt32) (m_inp : Nat → Int32) (a1 : Int32) (a2 : Int32) (sz : Nat) {res : Int32 × Int32 × Int32 × Int32 × Int32 × (Nat → Int32) × (Nat → Nat → Int32)} (hf : f_X5_swap m_thr m_kept m_rea m_det m_iit m_now m_hst a1 a2 = some res) : Met l yX5_swap (.code yX5_swap cX5_swap 5 (some .int) :: lw_all) { frames := 4, cells := 0, slots := 0, locals := 76 } (va_Pc [.ref (q 0), .int a1, .int a2] (sW D cy (wX5 q cy m_thr m_kept m_rea m_det m_isv m_iit m_len m_at m_err m_wro m_cmd m_to1 m_to2 m_now m_sav m_ahe m_bef m_hst m_noi m_own m_inp) sz)) (qI D (wX5 q cy res.2.1 res.2.2.1 res.2.2.2.1 res.2.2.2.2.1 m_isv m_iit m_len m_at m_err m_wro m_cmd m_to1 m_to2 res.2.2.2.2.2.1 m_sav m_ahe m_bef res.2.2.2.2.2.2 m_noi m_own m_inp) res.1 (va_A (wX5 q cy m_thr m_kept m_rea m_det m_isv m_iit m_len m_at m_err m_wro m_cmd m_to1 m_to2 m_now m_sav m_ahe m_bef m_hst m_noi m_own m_inp) sz)) 0 0 (va_A (wX5 q cy m_thr m_kept m_rea m_det m_isv m_iit m_len m_at m_err m_wro m_cmd m_to1 m_to2 m_now m_sav m_ahe m_bef m_hst m_noi m_own m_inp) sz) := by
  refine mk_rw (Qc := qI D (wX5 q cy res.2.1 res.2.2.1 res.2.2.2.1 res.2.2.2.2.1 m_isv m_iit m_len m_at m_err m_wro m_cmd m_to1 m_to2 res.2.2.2.2.2.1 m_sav m_ahe m_bef res.2.2.2.2.2.2 m_noi m_own m_inp) res.1) (Rc := RX5) (by decide +kernel) rfl (Nat.le_of_ble_eq_true rfl) ?_
  intro p e s m args below meth c ls A CX hml hr hlk hK hN hP hD hS hA hl
  have hx := CX.1
  have hb := CX.2.1
  have hRMX5_change : (⟨3, 0, 0, 56⟩ : Room).frames + 1 ≤ (⟨4, 0, 0, 76⟩ : Room).frames ∧ 8 + (1 + 11) + (⟨3, 0, 0, 56⟩ : Room).locals ≤ (⟨4, 0, 0, 76⟩ : Room).locals := ⟨Nat.le_of_ble_eq_true rfl, Nat.le_of_ble_eq_true rfl⟩
  have hRMX5_fails : (⟨1, 0, 0, 12⟩ : Room).frames + 1 ≤ (⟨4, 0, 0, 76⟩ : Room).frames ∧ 8 + (3 + 11) + (⟨1, 0, 0, 12⟩ : Room).locals ≤ (⟨4, 0, 0, 76⟩ : Room).locals := ⟨Nat.le_of_ble_eq_true rfl, Nat.le_of_ble_eq_true rfl⟩
  have hRMX5_isPitch : (⟨2, 0, 0, 34⟩ : Room).frames + 1 ≤ (⟨4, 0, 0, 76⟩ : Room).frames ∧ 8 + (1 + 11) + (⟨2, 0, 0, 34⟩ : Room).locals ≤ (⟨4, 0, 0, 76⟩ : Room).locals := ⟨Nat.le_of_ble_eq_true rfl, Nat.le_of_ble_eq_true rfl⟩
  have hRMX5_isSwapRefused : (⟨2, 0, 0, 35⟩ : Room).frames + 1 ≤ (⟨4, 0, 0, 76⟩ : Room).frames ∧ 8 + (3 + 11) + (⟨2, 0, 0, 35⟩ : Room).locals ≤ (⟨4, 0, 0, 76⟩ : Room).locals := ⟨Nat.le_of_ble_eq_true rfl, Nat.le_of_ble_eq_true rfl⟩
  have hRMX5_ofPitch : (⟨1, 0, 0, 12⟩ : Room).frames + 1 ≤ (⟨4, 0, 0, 76⟩ : Room).frames ∧ 8 + (3 + 11) + (⟨1, 0, 0, 12⟩ : Room).locals ≤ (⟨4, 0, 0, 76⟩ : Room).locals := ⟨Nat.le_of_ble_eq_true rfl, Nat.le_of_ble_eq_true rfl⟩
  have hRMX5_put : (⟨1, 0, 0, 12⟩ : Room).frames + 1 ≤ (⟨4, 0, 0, 76⟩ : Room).frames ∧ 8 + (4 + 11) + (⟨1, 0, 0, 12⟩ : Room).locals ≤ (⟨4, 0, 0, 76⟩ : Room).locals := ⟨Nat.le_of_ble_eq_true rfl, Nat.le_of_ble_eq_true rfl⟩
  have hRMX5_putPitch : (⟨1, 0, 0, 12⟩ : Room).frames + 1 ≤ (⟨4, 0, 0, 76⟩ : Room).frames ∧ 8 + (4 + 11) + (⟨1, 0, 0, 12⟩ : Room).locals ≤ (⟨4, 0, 0, 76⟩ : Room).locals := ⟨Nat.le_of_ble_eq_true rfl, Nat.le_of_ble_eq_true rfl⟩
  have hl0 := hl
  have K21 : ∀ (t0 : Int32) (t1 : Int32) (m_thr : Int32) (m_kept : Int32) (m_rea : Int32) (m_det : Int32) (m_now : Nat → Int32) (m_hst : Nat → Nat → Int32) (H : Heap) (locs : List Loc) (hP : va_P D vwCl (wX5 q cy m_thr m_kept m_rea m_det m_isv m_iit m_len m_at m_err m_wro m_cmd m_to1 m_to2 m_now m_sav m_ahe m_bef m_hst m_noi m_own m_inp) H) (hD : va_D A (wX5 q cy m_thr m_kept m_rea m_det m_isv m_iit m_len m_at m_err m_wro m_cmd m_to1 m_to2 m_now m_sav m_ahe m_bef m_hst m_noi m_own m_inp)) (hS : va_S A s.heap H locs) (ls : Array Slot) (hl : lv_has ls 5 [(0, .ref (q 0)), (1, .int a1), (2, .int a2)]) (hf : f_X5_swap_c21 m_iit a1 a2 t0 t1 m_thr m_kept m_rea m_det m_now m_hst = some res), W p l e ⟨4, 0, 0, 76⟩ s m args below meth c H locs 0 0 (MQ below (qI D (wX5 q cy res.2.1 res.2.2.1 res.2.2.2.1 res.2.2.2.2.1 m_isv m_iit m_len m_at m_err m_wro m_cmd m_to1 m_to2 res.2.2.2.2.2.1 m_sav m_ahe m_bef res.2.2.2.2.2.2 m_noi m_own m_inp) res.1 A) args s 0 0 A) (F0 m 21 ls [.int t0, .int t1, .ref (q 0)]) := by
    intro t0 t1 m_thr m_kept m_rea m_det m_now m_hst H locs hP hD hS ls hl hf
    obtain ⟨r2, e1, hf⟩ := ob_some hf
    refine crw_vi CX hml (As := [.int t1, .int t0]) (rest := []) (c_X5_fails l D cy q m_thr m_kept m_rea m_det m_isv m_iit m_len m_at m_err m_wro m_cmd m_to1 m_to2 m_now m_sav m_ahe m_bef m_hst m_noi m_own m_inp t1 t0 _ e1) lk_RX5_81 rfl rfl hRMX5_fails hP hD hS hA hK hN 0 rfl rfl rfl hl.1 rfl (Nat.le_of_ble_eq_true rfl) ⟨Nat.le_of_ble_eq_true rfl, Nat.le_of_ble_eq_true rfl⟩ (dg ddX5_swap 11 rfl) (fun H locs hP hD hS => ?_)
    refine lv_if_ne (tgt := 41) hx hb (dg ddX5_swap 12 rfl) (by decide) (fun h3 => ?_) (fun h3 => ?_)
    · have hf := it_f h3 hf
      refine lv_iconst (v := 0) hx hb (dg ddX5_swap 21 rfl) (by decide) ?_
      cases hf
      exact e_wi CX hr hlk rfl hP hD hS (dg ddX5_swap 22 rfl)
    · have hf := it_t h3 hf
      refine lv_aload_n hx hb (dg ddX5_swap 13 rfl) rfl (lv_at hl 0 rfl) ?_
      refine lv_iconst (v := 2) hx hb (dg ddX5_swap 14 rfl) (by decide) ?_
      refine lv_aload_n hx hb (dg ddX5_swap 15 rfl) rfl (lv_at hl 0 rfl) ?_
      refine lv_iload_n hx hb (dg ddX5_swap 16 rfl) rfl (lv_at hl 1 rfl) ?_
      refine lv_iload_n hx hb (dg ddX5_swap 17 rfl) rfl (lv_at hl 2 rfl) ?_
      obtain ⟨r5, e4, hf⟩ := ob_some hf
      refine crw_vi CX hml (As := [.int a1, .int a2]) (rest := [.int 2, .ref (q 0)]) (c_X5_isSwapRefused l D cy q r2.2 m_kept m_rea m_det m_isv m_iit m_len m_at m_err m_wro m_cmd m_to1 m_to2 m_now m_sav m_ahe m_bef m_hst m_noi m_own m_inp a1 a2 _ e4) lk_RX5_138 rfl rfl hRMX5_isSwapRefused hP hD hS hA hK hN 0 rfl rfl rfl hl.1 rfl (Nat.le_of_ble_eq_true rfl) ⟨Nat.le_of_ble_eq_true rfl, Nat.le_of_ble_eq_true rfl⟩ (dg ddX5_swap 18 rfl) (fun H locs hP hD hS => ?_)
      obtain ⟨r7, e6, hf⟩ := ob_some hf
      refine crw_vi CX hml (As := [.int 2, .int r5.1]) (rest := []) (c_X5_fails l D cy q r2.2 m_kept r5.2.1 r5.2.2 m_isv m_iit m_len m_at m_err m_wro m_cmd m_to1 m_to2 m_now m_sav m_ahe m_bef m_hst m_noi m_own m_inp 2 r5.1 _ e6) lk_RX5_81 rfl rfl hRMX5_fails hP hD hS hA hK hN 0 rfl rfl rfl hl.1 rfl (Nat.le_of_ble_eq_true rfl) ⟨Nat.le_of_ble_eq_true rfl, Nat.le_of_ble_eq_true rfl⟩ (dg ddX5_swap 19 rfl) (fun H locs hP hD hS => ?_)
      refine lv_if_eq (tgt := 43) hx hb (dg ddX5_swap 20 rfl) (by decide) (fun h8 => ?_) (fun h8 => ?_)
      · have hf := it_t h8 hf
        refine lv_aload_n hx hb (dg ddX5_swap 23 rfl) rfl (lv_at hl 0 rfl) ?_
        obtain ⟨r10, e9, hf⟩ := ob_some hf
        refine crw_vv CX hml (As := []) (rest := []) (c_X5_change l D cy q r7.2 m_kept r5.2.1 r5.2.2 m_isv m_iit m_len m_at m_err m_wro m_cmd m_to1 m_to2 m_now m_sav m_ahe m_bef m_hst m_noi m_own m_inp _ e9) lk_RX5_85 rfl rfl hRMX5_change hP hD hS hA hK hN 0 rfl rfl rfl hl.1 rfl (Nat.le_of_ble_eq_true rfl) ⟨Nat.le_of_ble_eq_true rfl, Nat.le_of_ble_eq_true rfl⟩ (dg ddX5_swap 24 rfl) (fun H locs hP hD hS => ?_)
        refine lv_aload_n hx hb (dg ddX5_swap 25 rfl) rfl (lv_at hl 0 rfl) ?_
        refine lv_iload_n hx hb (dg ddX5_swap 26 rfl) rfl (lv_at hl 1 rfl) ?_
        refine lv_iconst (v := 3) hx hb (dg ddX5_swap 27 rfl) (by decide) ?_
        obtain ⟨r12, e11, hf⟩ := ob_some hf
        refine cro_vi CX hml (As := [.int a1, .int 3]) (rest := []) (c_X5_ofPitch l D cy q r7.2 r10.1 r5.2.1 r5.2.2 m_isv m_iit m_len m_at m_err m_wro m_cmd m_to1 m_to2 m_now m_sav m_ahe m_bef r10.2 m_noi m_own m_inp a1 3 e11) lk_RX5_88 rfl rfl hRMX5_ofPitch hP hK hN 0 rfl rfl rfl hl.1 rfl (Nat.le_of_ble_eq_true rfl) ⟨Nat.le_of_ble_eq_true rfl, Nat.le_of_ble_eq_true rfl⟩ (dg ddX5_swap 28 rfl) ?_
        refine lv_istore_n (lv' := [(3, .int r12), (0, .ref (q 0)), (1, .int a1), (2, .int a2)]) hx hb (dg ddX5_swap 29 rfl) rfl hl (by decide) rfl (fun ls hl => ?_)
        refine lv_aload_n hx hb (dg ddX5_swap 30 rfl) rfl (lv_at hl 1 rfl) ?_
        refine lv_iload_n hx hb (dg ddX5_swap 31 rfl) rfl (lv_at hl 3 rfl) ?_
        refine lv_iconst (v := 3) hx hb (dg ddX5_swap 32 rfl) (by decide) ?_
        obtain ⟨r14, e13, hf⟩ := ob_some hf
        refine cro_vi CX hml (As := [.int a2, .int 3]) (rest := []) (c_X5_ofPitch l D cy q r7.2 r10.1 r5.2.1 r5.2.2 m_isv m_iit m_len m_at m_err m_wro m_cmd m_to1 m_to2 m_now m_sav m_ahe m_bef r10.2 m_noi m_own m_inp a2 3 e13) lk_RX5_88 rfl rfl hRMX5_ofPitch hP hK hN 0 rfl rfl rfl hl.1 rfl (Nat.le_of_ble_eq_true rfl) ⟨Nat.le_of_ble_eq_true rfl, Nat.le_of_ble_eq_true rfl⟩ (dg ddX5_swap 33 rfl) ?_
        refine lv_istore (lv' := [(4, .int r14), (3, .int r12), (0, .ref (q 0)), (1, .int a1), (2, .int a2)]) hx hb (dg ddX5_swap 34 rfl) hl (by decide) rfl (fun ls hl => ?_)
        refine lv_aload_n hx hb (dg ddX5_swap 35 rfl) rfl (lv_at hl 2 rfl) ?_
        refine lv_iload_n hx hb (dg ddX5_swap 36 rfl) rfl (lv_at hl 3 rfl) ?_
        refine lv_iconst (v := 3) hx hb (dg ddX5_swap 37 rfl) (by decide) ?_
        refine lv_iload hx hb (dg ddX5_swap 38 rfl) (lv_at hl 0 rfl) ?_
        obtain ⟨r16, e15, hf⟩ := ob_some hf
        refine crw_vv CX hml (As := [.int a1, .int 3, .int r14]) (rest := []) (c_X5_putPitch l D cy q r7.2 r10.1 r5.2.1 r5.2.2 m_isv m_iit m_len m_at m_err m_wro m_cmd m_to1 m_to2 m_now m_sav m_ahe m_bef r10.2 m_noi m_own m_inp a1 3 r14 _ e15) lk_RX5_49 rfl rfl hRMX5_putPitch hP hD hS hA hK hN 0 rfl rfl rfl hl.1 rfl (Nat.le_of_ble_eq_true rfl) ⟨Nat.le_of_ble_eq_true rfl, Nat.le_of_ble_eq_true rfl⟩ (dg ddX5_swap 39 rfl) (fun H locs hP hD hS => ?_)
        refine lv_aload_n hx hb (dg ddX5_swap 40 rfl) rfl (lv_at hl 2 rfl) ?_
        refine lv_iload_n hx hb (dg ddX5_swap 41 rfl) rfl (lv_at hl 4 rfl) ?_
        refine lv_iconst (v := 3) hx hb (dg ddX5_swap 42 rfl) (by decide) ?_
        refine lv_iload_n hx hb (dg ddX5_swap 43 rfl) rfl (lv_at hl 1 rfl) ?_
        obtain ⟨r18, e17, hf⟩ := ob_some hf
        refine crw_vv CX hml (As := [.int a2, .int 3, .int r12]) (rest := []) (c_X5_putPitch l D cy q r7.2 r10.1 r5.2.1 r5.2.2 m_isv m_iit m_len m_at m_err m_wro m_cmd m_to1 m_to2 r16 m_sav m_ahe m_bef r10.2 m_noi m_own m_inp a2 3 r12 _ e17) lk_RX5_49 rfl rfl hRMX5_putPitch hP hD hS hA hK hN 0 rfl rfl rfl hl.1 rfl (Nat.le_of_ble_eq_true rfl) ⟨Nat.le_of_ble_eq_true rfl, Nat.le_of_ble_eq_true rfl⟩ (dg ddX5_swap 44 rfl) (fun H locs hP hD hS => ?_)
        refine lv_aload_n hx hb (dg ddX5_swap 45 rfl) rfl (lv_at hl 2 rfl) ?_
        refine lv_iload hx hb (dg ddX5_swap 46 rfl) (lv_at hl 0 rfl) ?_
        refine lv_iconst (v := 4) hx hb (dg ddX5_swap 47 rfl) (by decide) ?_
        refine lv_iload_n hx hb (dg ddX5_swap 48 rfl) rfl (lv_at hl 3 rfl) ?_
        obtain ⟨r20, e19, hf⟩ := ob_some hf
        refine crw_vv CX hml (As := [.int r14, .int 4, .int a1]) (rest := []) (c_X5_put l D cy q r7.2 r10.1 r5.2.1 r5.2.2 m_isv m_iit m_len m_at m_err m_wro m_cmd m_to1 m_to2 r18 m_sav m_ahe m_bef r10.2 m_noi m_own m_inp r14 4 a1 _ e19) lk_RX5_103 rfl rfl hRMX5_put hP hD hS hA hK hN 0 rfl rfl rfl hl.1 rfl (Nat.le_of_ble_eq_true rfl) ⟨Nat.le_of_ble_eq_true rfl, Nat.le_of_ble_eq_true rfl⟩ (dg ddX5_swap 49 rfl) (fun H locs hP hD hS => ?_)
        refine lv_aload_n hx hb (dg ddX5_swap 50 rfl) rfl (lv_at hl 2 rfl) ?_
        refine lv_iload_n hx hb (dg ddX5_swap 51 rfl) rfl (lv_at hl 1 rfl) ?_
        refine lv_iconst (v := 4) hx hb (dg ddX5_swap 52 rfl) (by decide) ?_
        refine lv_iload_n hx hb (dg ddX5_swap 53 rfl) rfl (lv_at hl 4 rfl) ?_
        obtain ⟨r22, e21, hf⟩ := ob_some hf
        refine crw_vv CX hml (As := [.int r12, .int 4, .int a2]) (rest := []) (c_X5_put l D cy q r7.2 r10.1 r5.2.1 r5.2.2 m_isv m_iit m_len m_at m_err m_wro m_cmd m_to1 m_to2 r20 m_sav m_ahe m_bef r10.2 m_noi m_own m_inp r12 4 a2 _ e21) lk_RX5_103 rfl rfl hRMX5_put hP hD hS hA hK hN 0 rfl rfl rfl hl.1 rfl (Nat.le_of_ble_eq_true rfl) ⟨Nat.le_of_ble_eq_true rfl, Nat.le_of_ble_eq_true rfl⟩ (dg ddX5_swap 54 rfl) (fun H locs hP hD hS => ?_)
        refine lv_iload hx hb (dg ddX5_swap 55 rfl) (lv_at hl 0 rfl) ?_
        cases hf
        exact e_wi CX hr hlk rfl hP hD hS (dg ddX5_swap 56 rfl)
      · have hf := it_f h8 hf
        refine lv_iconst (v := 0) hx hb (dg ddX5_swap 21 rfl) (by decide) ?_
        cases hf
        exact e_wi CX hr hlk rfl hP hD hS (dg ddX5_swap 22 rfl)
  have K16 : ∀ (t0 : Int32) (m_thr : Int32) (m_kept : Int32) (m_rea : Int32) (m_det : Int32) (m_now : Nat → Int32) (m_hst : Nat → Nat → Int32) (H : Heap) (locs : List Loc) (hP : va_P D vwCl (wX5 q cy m_thr m_kept m_rea m_det m_isv m_iit m_len m_at m_err m_wro m_cmd m_to1 m_to2 m_now m_sav m_ahe m_bef m_hst m_noi m_own m_inp) H) (hD : va_D A (wX5 q cy m_thr m_kept m_rea m_det m_isv m_iit m_len m_at m_err m_wro m_cmd m_to1 m_to2 m_now m_sav m_ahe m_bef m_hst m_noi m_own m_inp)) (hS : va_S A s.heap H locs) (ls : Array Slot) (hl : lv_has ls 5 [(0, .ref (q 0)), (1, .int a1), (2, .int a2)]) (hf : f_X5_swap_c16 m_iit a1 a2 t0 m_thr m_kept m_rea m_det m_now m_hst = some res), W p l e ⟨4, 0, 0, 76⟩ s m args below meth c H locs 0 0 (MQ below (qI D (wX5 q cy res.2.1 res.2.2.1 res.2.2.2.1 res.2.2.2.2.1 m_isv m_iit m_len m_at m_err m_wro m_cmd m_to1 m_to2 res.2.2.2.2.2.1 m_sav m_ahe m_bef res.2.2.2.2.2.2 m_noi m_own m_inp) res.1 A) args s 0 0 A) (F0 m 16 ls [.int t0, .ref (q 0)]) := by
    intro t0 m_thr m_kept m_rea m_det m_now m_hst H locs hP hD hS ls hl hf
    refine lv_iconst (v := 1) hx hb (dg ddX5_swap 8 rfl) (by decide) ?_
    refine lv_goto (tgt := 21) hx hb (dg ddX5_swap 9 rfl) (by decide) ?_
    exact K21  1 t0 m_thr m_kept m_rea m_det m_now m_hst _ _ hP hD hS _ (lv_sub hl [0, 1, 2] rfl) hf
  refine lv_aload_n hx hb (dg ddX5_swap 0 rfl) rfl (lv_at hl 0 rfl) ?_
  refine lv_iconst (v := 1) hx hb (dg ddX5_swap 1 rfl) (by decide) ?_
  refine lv_iload_n hx hb (dg ddX5_swap 2 rfl) rfl (lv_at hl 1 rfl) ?_
  obtain ⟨r2, e1, hf⟩ := ob_some hf
  refine cro_si CX hml (As := [.int a1]) (rest := [.int 1, .ref (q 0)]) (c_X5_isPitch l D cy a1 e1) lk_RX5_96 rfl rfl hRMX5_isPitch vaP_nil hK hN rfl hl.1 rfl (Nat.le_of_ble_eq_true rfl) ⟨Nat.le_of_ble_eq_true rfl, Nat.le_of_ble_eq_true rfl⟩ (dg ddX5_swap 3 rfl) ?_
  refine lv_if_eq (tgt := 16) hx hb (dg ddX5_swap 4 rfl) (by decide) (fun h3 => ?_) (fun h3 => ?_)
  · have hf := it_t h3 hf
    exact K16  1 m_thr m_kept m_rea m_det m_now m_hst _ _ hP hD hS _ (lv_sub hl [0, 1, 2] rfl) hf
  · have hf := it_f h3 hf
    refine lv_iload_n hx hb (dg ddX5_swap 5 rfl) rfl (lv_at hl 2 rfl) ?_
    obtain ⟨r5, e4, hf⟩ := ob_some hf
    refine cro_si CX hml (As := [.int a2]) (rest := [.int 1, .ref (q 0)]) (c_X5_isPitch l D cy a2 e4) lk_RX5_96 rfl rfl hRMX5_isPitch vaP_nil hK hN rfl hl.1 rfl (Nat.le_of_ble_eq_true rfl) ⟨Nat.le_of_ble_eq_true rfl, Nat.le_of_ble_eq_true rfl⟩ (dg ddX5_swap 6 rfl) ?_
    refine lv_if_ne (tgt := 20) hx hb (dg ddX5_swap 7 rfl) (by decide) (fun h6 => ?_) (fun h6 => ?_)
    · have hf := it_f h6 hf
      refine lv_iconst (v := 0) hx hb (dg ddX5_swap 10 rfl) (by decide) ?_
      exact K21  0 1 m_thr m_kept m_rea m_det m_now m_hst _ _ hP hD hS _ (lv_sub hl [0, 1, 2] rfl) hf
    · have hf := it_t h6 hf
      exact K16  1 m_thr m_kept m_rea m_det m_now m_hst _ _ hP hD hS _ (lv_sub hl [0, 1, 2] rfl) hf
def f_X5_ownOf (m_now : Nat → Int32) (a1 : Int32) : Option (UInt32) := ob (f_X5_of m_now a1 1) fun r2 => (og (n32 (FP.fmul 1082130432 (FP.i2f r2))) (og (n32 (FP.fadd 1112014848 (FP.fmul 1082130432 (FP.i2f r2)))) (ob (f_X5_of m_now a1 0) fun r6 => (if r6 = 0 then (some (FP.fadd 1112014848 (FP.fmul 1082130432 (FP.i2f r2)))) else (og (n32 (FP.fadd (FP.fadd 1112014848 (FP.fmul 1082130432 (FP.i2f r2))) 1084227584)) (some (FP.fadd (FP.fadd 1112014848 (FP.fmul 1082130432 (FP.i2f r2))) 1084227584)))))))
set_option maxHeartbeats 4000000 in
set_option maxRecDepth 100000 in
theorem c_X5_ownOf (l : Launch) (D : va_G) (cy : Nat → ClassId) (q : Nat → Nat) (m_thr : Int32) (m_kept : Int32) (m_rea : Int32) (m_det : Int32) (m_isv : Int32) (m_iit : Int32) (m_len : Int32) (m_at : Int32) (m_err : Int32) (m_wro : Int32) (m_cmd : Int32) (m_to1 : Int32) (m_to2 : Int32) (m_now : Nat → Int32) (m_sav : Nat → Int32) (m_ahe : Nat → Int32) (m_bef : Nat → Int32) (m_hst : Nat → Nat → Int32) (m_noi : Nat → UInt32) (m_own : Nat → UInt32) (m_inp : Nat → Int32) (a1 : Int32) {res : UInt32} (hf : f_X5_ownOf m_now a1 = some res) : Met l yX5_ownOf (.code yX5_ownOf cX5_ownOf 3 (some .float) :: lw_all) { frames := 2, cells := 0, slots := 0, locals := 34 } (va_Pc [.ref (q 0), .int a1] (sR D cy (wX5 q cy m_thr m_kept m_rea m_det m_isv m_iit m_len m_at m_err m_wro m_cmd m_to1 m_to2 m_now m_sav m_ahe m_bef m_hst m_noi m_own m_inp))) (vp_Sf (fun r => r = res)) 0 0 (fun _ => False) := by
  refine mk_ro (Rc := RX5) (by decide +kernel) rfl (Nat.le_of_ble_eq_true rfl) ?_
  intro p e s m args below meth c ls CX hml hr hlk hK hN hP hl
  have hx := CX.1
  have hb := CX.2.1
  have hRMX5_of : (⟨1, 0, 0, 12⟩ : Room).frames + 1 ≤ (⟨2, 0, 0, 34⟩ : Room).frames ∧ 8 + (3 + 11) + (⟨1, 0, 0, 12⟩ : Room).locals ≤ (⟨2, 0, 0, 34⟩ : Room).locals := ⟨Nat.le_of_ble_eq_true rfl, Nat.le_of_ble_eq_true rfl⟩
  refine lv_ldcf hx hb CX.2.2.2 (CX.2.2.1 (.constantFloat RX5 142 (1112014848)) (lw_at 1227 (by decide +kernel))) (dg ddX5_ownOf 0 rfl) ?_
  refine lv_ldcf hx hb CX.2.2.2 (CX.2.2.1 (.constantFloat RX5 143 (1082130432)) (lw_at 1228 (by decide +kernel))) (dg ddX5_ownOf 1 rfl) ?_
  refine lv_aload_n hx hb (dg ddX5_ownOf 2 rfl) rfl (lv_at hl 0 rfl) ?_
  refine lv_iload_n hx hb (dg ddX5_ownOf 3 rfl) rfl (lv_at hl 1 rfl) ?_
  refine lv_iconst (v := 1) hx hb (dg ddX5_ownOf 4 rfl) (by decide) ?_
  obtain ⟨r2, e1, hf⟩ := ob_some hf
  refine cro_vi CX hml (As := [.int a1, .int 1]) (rest := [.float 1082130432, .float 1112014848]) (c_X5_of l D cy q m_thr m_kept m_rea m_det m_isv m_iit m_len m_at m_err m_wro m_cmd m_to1 m_to2 m_now m_sav m_ahe m_bef m_hst m_noi m_own m_inp a1 1 e1) lk_RX5_100 rfl rfl hRMX5_of hP hK hN 0 rfl rfl rfl hl.1 rfl (Nat.le_of_ble_eq_true rfl) ⟨Nat.le_of_ble_eq_true rfl, Nat.le_of_ble_eq_true rfl⟩ (dg ddX5_ownOf 5 rfl) ?_
  refine lv_i2f hx hb (dg ddX5_ownOf 6 rfl) ?_
  obtain ⟨h3, hf⟩ := og_some hf
  refine lv_fmul hx hb (dg ddX5_ownOf 7 rfl) (n32_in h3) ?_
  obtain ⟨h4, hf⟩ := og_some hf
  refine lv_fadd hx hb (dg ddX5_ownOf 8 rfl) (n32_in h4) ?_
  refine lv_fstore_n (lv' := [(2, .float (FP.fadd 1112014848 (FP.fmul 1082130432 (FP.i2f r2)))), (0, .ref (q 0)), (1, .int a1)]) hx hb (dg ddX5_ownOf 9 rfl) rfl hl (by decide) rfl (fun ls hl => ?_)
  refine lv_aload_n hx hb (dg ddX5_ownOf 10 rfl) rfl (lv_at hl 1 rfl) ?_
  refine lv_iload_n hx hb (dg ddX5_ownOf 11 rfl) rfl (lv_at hl 2 rfl) ?_
  refine lv_iconst (v := 0) hx hb (dg ddX5_ownOf 12 rfl) (by decide) ?_
  obtain ⟨r6, e5, hf⟩ := ob_some hf
  refine cro_vi CX hml (As := [.int a1, .int 0]) (rest := []) (c_X5_of l D cy q m_thr m_kept m_rea m_det m_isv m_iit m_len m_at m_err m_wro m_cmd m_to1 m_to2 m_now m_sav m_ahe m_bef m_hst m_noi m_own m_inp a1 0 e5) lk_RX5_100 rfl rfl hRMX5_of hP hK hN 0 rfl rfl rfl hl.1 rfl (Nat.le_of_ble_eq_true rfl) ⟨Nat.le_of_ble_eq_true rfl, Nat.le_of_ble_eq_true rfl⟩ (dg ddX5_ownOf 13 rfl) ?_
  refine lv_if_ne (tgt := 27) hx hb (dg ddX5_ownOf 14 rfl) (by decide) (fun h7 => ?_) (fun h7 => ?_)
  · have hf := it_f h7 hf
    refine lv_fload_n hx hb (dg ddX5_ownOf 17 rfl) rfl (lv_at hl 0 rfl) ?_
    refine lv_ldcf hx hb CX.2.2.2 (CX.2.2.1 (.constantFloat RX5 144 (1084227584)) (lw_at 1229 (by decide +kernel))) (dg ddX5_ownOf 18 rfl) ?_
    obtain ⟨h8, hf⟩ := og_some hf
    refine lv_fadd hx hb (dg ddX5_ownOf 19 rfl) (n32_in h8) ?_
    exact e_rf CX hr hlk (Option.some.inj hf) (dg ddX5_ownOf 20 rfl)
  · have hf := it_t h7 hf
    refine lv_fload_n hx hb (dg ddX5_ownOf 15 rfl) rfl (lv_at hl 0 rfl) ?_
    refine lv_goto (tgt := 31) hx hb (dg ddX5_ownOf 16 rfl) (by decide) ?_
    exact e_rf CX hr hlk (Option.some.inj hf) (dg ddX5_ownOf 20 rfl)
def f_X5_own (m_now : Nat → Int32) (a1 : Int32) : Option (UInt32) := ob (f_X5_isPitch a1) fun r2 => (if r2 = 0 then (some FP.fconst0) else (ob (f_X5_ofPitch m_now a1 3) fun r5 => (if r5 = (-1) then (some FP.fconst0) else (ob (f_X5_ofPitch m_now a1 3) fun r8 => (ob (f_X5_ownOf m_now r8) fun r10 => (some r10))))))
set_option maxHeartbeats 4000000 in
set_option maxRecDepth 100000 in
theorem c_X5_own (l : Launch) (D : va_G) (cy : Nat → ClassId) (q : Nat → Nat) (m_thr : Int32) (m_kept : Int32) (m_rea : Int32) (m_det : Int32) (m_isv : Int32) (m_iit : Int32) (m_len : Int32) (m_at : Int32) (m_err : Int32) (m_wro : Int32) (m_cmd : Int32) (m_to1 : Int32) (m_to2 : Int32) (m_now : Nat → Int32) (m_sav : Nat → Int32) (m_ahe : Nat → Int32) (m_bef : Nat → Int32) (m_hst : Nat → Nat → Int32) (m_noi : Nat → UInt32) (m_own : Nat → UInt32) (m_inp : Nat → Int32) (a1 : Int32) {res : UInt32} (hf : f_X5_own m_now a1 = some res) : Met l yX5_own (.code yX5_own cX5_own 2 (some .float) :: lw_all) { frames := 3, cells := 0, slots := 0, locals := 56 } (va_Pc [.ref (q 0), .int a1] (sR D cy (wX5 q cy m_thr m_kept m_rea m_det m_isv m_iit m_len m_at m_err m_wro m_cmd m_to1 m_to2 m_now m_sav m_ahe m_bef m_hst m_noi m_own m_inp))) (vp_Sf (fun r => r = res)) 0 0 (fun _ => False) := by
  refine mk_ro (Rc := RX5) (by decide +kernel) rfl (Nat.le_of_ble_eq_true rfl) ?_
  intro p e s m args below meth c ls CX hml hr hlk hK hN hP hl
  have hx := CX.1
  have hb := CX.2.1
  have hRMX5_isPitch : (⟨2, 0, 0, 34⟩ : Room).frames + 1 ≤ (⟨3, 0, 0, 56⟩ : Room).frames ∧ 8 + (1 + 11) + (⟨2, 0, 0, 34⟩ : Room).locals ≤ (⟨3, 0, 0, 56⟩ : Room).locals := ⟨Nat.le_of_ble_eq_true rfl, Nat.le_of_ble_eq_true rfl⟩
  have hRMX5_ofPitch : (⟨1, 0, 0, 12⟩ : Room).frames + 1 ≤ (⟨3, 0, 0, 56⟩ : Room).frames ∧ 8 + (3 + 11) + (⟨1, 0, 0, 12⟩ : Room).locals ≤ (⟨3, 0, 0, 56⟩ : Room).locals := ⟨Nat.le_of_ble_eq_true rfl, Nat.le_of_ble_eq_true rfl⟩
  have hRMX5_ownOf : (⟨2, 0, 0, 34⟩ : Room).frames + 1 ≤ (⟨3, 0, 0, 56⟩ : Room).frames ∧ 8 + (3 + 11) + (⟨2, 0, 0, 34⟩ : Room).locals ≤ (⟨3, 0, 0, 56⟩ : Room).locals := ⟨Nat.le_of_ble_eq_true rfl, Nat.le_of_ble_eq_true rfl⟩
  refine lv_iload_n hx hb (dg ddX5_own 0 rfl) rfl (lv_at hl 1 rfl) ?_
  obtain ⟨r2, e1, hf⟩ := ob_some hf
  refine cro_si CX hml (As := [.int a1]) (rest := []) (c_X5_isPitch l D cy a1 e1) lk_RX5_96 rfl rfl hRMX5_isPitch vaP_nil hK hN rfl hl.1 rfl (Nat.le_of_ble_eq_true rfl) ⟨Nat.le_of_ble_eq_true rfl, Nat.le_of_ble_eq_true rfl⟩ (dg ddX5_own 1 rfl) ?_
  refine lv_if_eq (tgt := 17) hx hb (dg ddX5_own 2 rfl) (by decide) (fun h3 => ?_) (fun h3 => ?_)
  · have hf := it_t h3 hf
    refine lv_fconst0 hx hb (dg ddX5_own 9 rfl) ?_
    refine lv_goto (tgt := 31) hx hb (dg ddX5_own 10 rfl) (by decide) ?_
    exact e_rf CX hr hlk (Option.some.inj hf) (dg ddX5_own 17 rfl)
  · have hf := it_f h3 hf
    refine lv_aload_n hx hb (dg ddX5_own 3 rfl) rfl (lv_at hl 0 rfl) ?_
    refine lv_iload_n hx hb (dg ddX5_own 4 rfl) rfl (lv_at hl 1 rfl) ?_
    refine lv_iconst (v := 3) hx hb (dg ddX5_own 5 rfl) (by decide) ?_
    obtain ⟨r5, e4, hf⟩ := ob_some hf
    refine cro_vi CX hml (As := [.int a1, .int 3]) (rest := []) (c_X5_ofPitch l D cy q m_thr m_kept m_rea m_det m_isv m_iit m_len m_at m_err m_wro m_cmd m_to1 m_to2 m_now m_sav m_ahe m_bef m_hst m_noi m_own m_inp a1 3 e4) lk_RX5_88 rfl rfl hRMX5_ofPitch hP hK hN 0 rfl rfl rfl hl.1 rfl (Nat.le_of_ble_eq_true rfl) ⟨Nat.le_of_ble_eq_true rfl, Nat.le_of_ble_eq_true rfl⟩ (dg ddX5_own 6 rfl) ?_
    refine lv_iconst (v := (-1)) hx hb (dg ddX5_own 7 rfl) (by decide) ?_
    refine lv_icmp_ne (tgt := 21) hx hb (dg ddX5_own 8 rfl) (by decide) (fun h6 => ?_) (fun h6 => ?_)
    · have hf := it_f h6 hf
      refine lv_aload_n hx hb (dg ddX5_own 11 rfl) rfl (lv_at hl 0 rfl) ?_
      refine lv_aload_n hx hb (dg ddX5_own 12 rfl) rfl (lv_at hl 0 rfl) ?_
      refine lv_iload_n hx hb (dg ddX5_own 13 rfl) rfl (lv_at hl 1 rfl) ?_
      refine lv_iconst (v := 3) hx hb (dg ddX5_own 14 rfl) (by decide) ?_
      obtain ⟨r8, e7, hf⟩ := ob_some hf
      refine cro_vi CX hml (As := [.int a1, .int 3]) (rest := [.ref (q 0)]) (c_X5_ofPitch l D cy q m_thr m_kept m_rea m_det m_isv m_iit m_len m_at m_err m_wro m_cmd m_to1 m_to2 m_now m_sav m_ahe m_bef m_hst m_noi m_own m_inp a1 3 e7) lk_RX5_88 rfl rfl hRMX5_ofPitch hP hK hN 0 rfl rfl rfl hl.1 rfl (Nat.le_of_ble_eq_true rfl) ⟨Nat.le_of_ble_eq_true rfl, Nat.le_of_ble_eq_true rfl⟩ (dg ddX5_own 15 rfl) ?_
      obtain ⟨r10, e9, hf⟩ := ob_some hf
      refine cro_vf CX hml (As := [.int r8]) (rest := []) (c_X5_ownOf l D cy q m_thr m_kept m_rea m_det m_isv m_iit m_len m_at m_err m_wro m_cmd m_to1 m_to2 m_now m_sav m_ahe m_bef m_hst m_noi m_own m_inp r8 e9) lk_RX5_145 rfl rfl hRMX5_ownOf hP hK hN 0 rfl rfl rfl hl.1 rfl (Nat.le_of_ble_eq_true rfl) ⟨Nat.le_of_ble_eq_true rfl, Nat.le_of_ble_eq_true rfl⟩ (dg ddX5_own 16 rfl) ?_
      exact e_rf CX hr hlk (Option.some.inj hf) (dg ddX5_own 17 rfl)
    · have hf := it_t h6 hf
      refine lv_fconst0 hx hb (dg ddX5_own 9 rfl) ?_
      refine lv_goto (tgt := 31) hx hb (dg ddX5_own 10 rfl) (by decide) ?_
      exact e_rf CX hr hlk (Option.some.inj hf) (dg ddX5_own 17 rfl)
def f_X5_noiseBy (m_now : Nat → Int32) (a1 : Int32) (a2 : UInt32) : Option (UInt32) := ob (f_X5_own m_now (a1 - 1)) fun r2 => (og (n32 (FP.fmul 1048576000 r2)) (og (n32 (FP.fadd a2 (FP.fmul 1048576000 r2))) (ob (f_X5_own m_now (a1 + 1)) fun r6 => (og (n32 (FP.fmul 1048576000 r6)) (og (n32 (FP.fadd (FP.fadd a2 (FP.fmul 1048576000 r2)) (FP.fmul 1048576000 r6))) (some (FP.fadd (FP.fadd a2 (FP.fmul 1048576000 r2)) (FP.fmul 1048576000 r6))))))))
set_option maxHeartbeats 4000000 in
set_option maxRecDepth 100000 in
theorem c_X5_noiseBy (l : Launch) (D : va_G) (cy : Nat → ClassId) (q : Nat → Nat) (m_thr : Int32) (m_kept : Int32) (m_rea : Int32) (m_det : Int32) (m_isv : Int32) (m_iit : Int32) (m_len : Int32) (m_at : Int32) (m_err : Int32) (m_wro : Int32) (m_cmd : Int32) (m_to1 : Int32) (m_to2 : Int32) (m_now : Nat → Int32) (m_sav : Nat → Int32) (m_ahe : Nat → Int32) (m_bef : Nat → Int32) (m_hst : Nat → Nat → Int32) (m_noi : Nat → UInt32) (m_own : Nat → UInt32) (m_inp : Nat → Int32) (a1 : Int32) (a2 : UInt32) {res : UInt32} (hf : f_X5_noiseBy m_now a1 a2 = some res) : Met l yX5_noiseBy (.code yX5_noiseBy cX5_noiseBy 3 (some .float) :: lw_all) { frames := 4, cells := 0, slots := 0, locals := 77 } (va_Pc [.ref (q 0), .int a1, .float a2] (sR D cy (wX5 q cy m_thr m_kept m_rea m_det m_isv m_iit m_len m_at m_err m_wro m_cmd m_to1 m_to2 m_now m_sav m_ahe m_bef m_hst m_noi m_own m_inp))) (vp_Sf (fun r => r = res)) 0 0 (fun _ => False) := by
  refine mk_ro (Rc := RX5) (by decide +kernel) rfl (Nat.le_of_ble_eq_true rfl) ?_
  intro p e s m args below meth c ls CX hml hr hlk hK hN hP hl
  have hx := CX.1
  have hb := CX.2.1
  have hRMX5_own : (⟨3, 0, 0, 56⟩ : Room).frames + 1 ≤ (⟨4, 0, 0, 77⟩ : Room).frames ∧ 8 + (2 + 11) + (⟨3, 0, 0, 56⟩ : Room).locals ≤ (⟨4, 0, 0, 77⟩ : Room).locals := ⟨Nat.le_of_ble_eq_true rfl, Nat.le_of_ble_eq_true rfl⟩
  refine lv_fload_n hx hb (dg ddX5_noiseBy 0 rfl) rfl (lv_at hl 2 rfl) ?_
  refine lv_ldcf hx hb CX.2.2.2 (CX.2.2.1 (.constantFloat RX5 148 (1048576000)) (lw_at 1234 (by decide +kernel))) (dg ddX5_noiseBy 1 rfl) ?_
  refine lv_aload_n hx hb (dg ddX5_noiseBy 2 rfl) rfl (lv_at hl 0 rfl) ?_
  refine lv_iload_n hx hb (dg ddX5_noiseBy 3 rfl) rfl (lv_at hl 1 rfl) ?_
  refine lv_iconst (v := 1) hx hb (dg ddX5_noiseBy 4 rfl) (by decide) ?_
  refine lv_isub hx hb (dg ddX5_noiseBy 5 rfl) ?_
  obtain ⟨r2, e1, hf⟩ := ob_some hf
  refine cro_vf CX hml (As := [.int (a1 - 1)]) (rest := [.float 1048576000, .float a2]) (c_X5_own l D cy q m_thr m_kept m_rea m_det m_isv m_iit m_len m_at m_err m_wro m_cmd m_to1 m_to2 m_now m_sav m_ahe m_bef m_hst m_noi m_own m_inp (a1 - 1) e1) lk_RX5_149 rfl rfl hRMX5_own hP hK hN 0 rfl rfl rfl hl.1 rfl (Nat.le_of_ble_eq_true rfl) ⟨Nat.le_of_ble_eq_true rfl, Nat.le_of_ble_eq_true rfl⟩ (dg ddX5_noiseBy 6 rfl) ?_
  obtain ⟨h3, hf⟩ := og_some hf
  refine lv_fmul hx hb (dg ddX5_noiseBy 7 rfl) (n32_in h3) ?_
  obtain ⟨h4, hf⟩ := og_some hf
  refine lv_fadd hx hb (dg ddX5_noiseBy 8 rfl) (n32_in h4) ?_
  refine lv_ldcf hx hb CX.2.2.2 (CX.2.2.1 (.constantFloat RX5 148 (1048576000)) (lw_at 1234 (by decide +kernel))) (dg ddX5_noiseBy 9 rfl) ?_
  refine lv_aload_n hx hb (dg ddX5_noiseBy 10 rfl) rfl (lv_at hl 0 rfl) ?_
  refine lv_iload_n hx hb (dg ddX5_noiseBy 11 rfl) rfl (lv_at hl 1 rfl) ?_
  refine lv_iconst (v := 1) hx hb (dg ddX5_noiseBy 12 rfl) (by decide) ?_
  refine lv_iadd hx hb (dg ddX5_noiseBy 13 rfl) ?_
  obtain ⟨r6, e5, hf⟩ := ob_some hf
  refine cro_vf CX hml (As := [.int (a1 + 1)]) (rest := [.float 1048576000, .float (FP.fadd a2 (FP.fmul 1048576000 r2))]) (c_X5_own l D cy q m_thr m_kept m_rea m_det m_isv m_iit m_len m_at m_err m_wro m_cmd m_to1 m_to2 m_now m_sav m_ahe m_bef m_hst m_noi m_own m_inp (a1 + 1) e5) lk_RX5_149 rfl rfl hRMX5_own hP hK hN 0 rfl rfl rfl hl.1 rfl (Nat.le_of_ble_eq_true rfl) ⟨Nat.le_of_ble_eq_true rfl, Nat.le_of_ble_eq_true rfl⟩ (dg ddX5_noiseBy 14 rfl) ?_
  obtain ⟨h7, hf⟩ := og_some hf
  refine lv_fmul hx hb (dg ddX5_noiseBy 15 rfl) (n32_in h7) ?_
  obtain ⟨h8, hf⟩ := og_some hf
  refine lv_fadd hx hb (dg ddX5_noiseBy 16 rfl) (n32_in h8) ?_
  exact e_rf CX hr hlk (Option.some.inj hf) (dg ddX5_noiseBy 17 rfl)
def f_X5_noiseAt (m_now : Nat → Int32) (a1 : Int32) : Option (UInt32) := ob (f_X5_own m_now a1) fun r2 => (ob (f_X5_noiseBy m_now a1 r2) fun r4 => (some r4))
set_option maxHeartbeats 4000000 in
set_option maxRecDepth 100000 in
theorem c_X5_noiseAt (l : Launch) (D : va_G) (cy : Nat → ClassId) (q : Nat → Nat) (m_thr : Int32) (m_kept : Int32) (m_rea : Int32) (m_det : Int32) (m_isv : Int32) (m_iit : Int32) (m_len : Int32) (m_at : Int32) (m_err : Int32) (m_wro : Int32) (m_cmd : Int32) (m_to1 : Int32) (m_to2 : Int32) (m_now : Nat → Int32) (m_sav : Nat → Int32) (m_ahe : Nat → Int32) (m_bef : Nat → Int32) (m_hst : Nat → Nat → Int32) (m_noi : Nat → UInt32) (m_own : Nat → UInt32) (m_inp : Nat → Int32) (a1 : Int32) {res : UInt32} (hf : f_X5_noiseAt m_now a1 = some res) : Met l yX5_noiseAt (.code yX5_noiseAt cX5_noiseAt 2 (some .float) :: lw_all) { frames := 5, cells := 0, slots := 0, locals := 99 } (va_Pc [.ref (q 0), .int a1] (sR D cy (wX5 q cy m_thr m_kept m_rea m_det m_isv m_iit m_len m_at m_err m_wro m_cmd m_to1 m_to2 m_now m_sav m_ahe m_bef m_hst m_noi m_own m_inp))) (vp_Sf (fun r => r = res)) 0 0 (fun _ => False) := by
  refine mk_ro (Rc := RX5) (by decide +kernel) rfl (Nat.le_of_ble_eq_true rfl) ?_
  intro p e s m args below meth c ls CX hml hr hlk hK hN hP hl
  have hx := CX.1
  have hb := CX.2.1
  have hRMX5_noiseBy : (⟨4, 0, 0, 77⟩ : Room).frames + 1 ≤ (⟨5, 0, 0, 99⟩ : Room).frames ∧ 8 + (3 + 11) + (⟨4, 0, 0, 77⟩ : Room).locals ≤ (⟨5, 0, 0, 99⟩ : Room).locals := ⟨Nat.le_of_ble_eq_true rfl, Nat.le_of_ble_eq_true rfl⟩
  have hRMX5_own : (⟨3, 0, 0, 56⟩ : Room).frames + 1 ≤ (⟨5, 0, 0, 99⟩ : Room).frames ∧ 8 + (2 + 11) + (⟨3, 0, 0, 56⟩ : Room).locals ≤ (⟨5, 0, 0, 99⟩ : Room).locals := ⟨Nat.le_of_ble_eq_true rfl, Nat.le_of_ble_eq_true rfl⟩
  refine lv_aload_n hx hb (dg ddX5_noiseAt 0 rfl) rfl (lv_at hl 0 rfl) ?_
  refine lv_iload_n hx hb (dg ddX5_noiseAt 1 rfl) rfl (lv_at hl 1 rfl) ?_
  refine lv_aload_n hx hb (dg ddX5_noiseAt 2 rfl) rfl (lv_at hl 0 rfl) ?_
  refine lv_iload_n hx hb (dg ddX5_noiseAt 3 rfl) rfl (lv_at hl 1 rfl) ?_
  obtain ⟨r2, e1, hf⟩ := ob_some hf
  refine cro_vf CX hml (As := [.int a1]) (rest := [.int a1, .ref (q 0)]) (c_X5_own l D cy q m_thr m_kept m_rea m_det m_isv m_iit m_len m_at m_err m_wro m_cmd m_to1 m_to2 m_now m_sav m_ahe m_bef m_hst m_noi m_own m_inp a1 e1) lk_RX5_149 rfl rfl hRMX5_own hP hK hN 0 rfl rfl rfl hl.1 rfl (Nat.le_of_ble_eq_true rfl) ⟨Nat.le_of_ble_eq_true rfl, Nat.le_of_ble_eq_true rfl⟩ (dg ddX5_noiseAt 4 rfl) ?_
  obtain ⟨r4, e3, hf⟩ := ob_some hf
  refine cro_vf CX hml (As := [.int a1, .float r2]) (rest := []) (c_X5_noiseBy l D cy q m_thr m_kept m_rea m_det m_isv m_iit m_len m_at m_err m_wro m_cmd m_to1 m_to2 m_now m_sav m_ahe m_bef m_hst m_noi m_own m_inp a1 r2 e3) lk_RX5_152 rfl rfl hRMX5_noiseBy hP hK hN 0 rfl rfl rfl hl.1 rfl (Nat.le_of_ble_eq_true rfl) ⟨Nat.le_of_ble_eq_true rfl, Nat.le_of_ble_eq_true rfl⟩ (dg ddX5_noiseAt 5 rfl) ?_
  exact e_rf CX hr hlk (Option.some.inj hf) (dg ddX5_noiseAt 6 rfl)
def f_X5_noise_c14  (m_now : Nat → Int32) (a1 : Int32) (t0 : Int32) (t1 : Int32) (m_thr : Int32) : Option (Int32 × Int32) := ob (f_X5_fails m_thr t1 t0) fun r2 => (if r2.1 = 0 then (ob (f_X5_noiseAt m_now a1) fun r5 => (ob (f_Jxf58ca_floatToIntBits_5c35a r5) fun r7 => (some (r7, r2.2)))) else (some (0, r2.2)))
def f_X5_noise (m_thr : Int32) (m_now : Nat → Int32) (a1 : Int32) : Option (Int32 × Int32) := ob (f_X5_isPitch a1) fun r2 => (if r2 = 0 then (f_X5_noise_c14 m_now a1 1 1 m_thr) else (f_X5_noise_c14 m_now a1 0 1 m_thr))
set_option maxHeartbeats 4000000 in
set_option maxRecDepth 100000 in
theorem c_X5_noise (l : Launch) (D : va_G) (cy : Nat → ClassId) (q : Nat → Nat) (m_thr : Int32) (m_kept : Int32) (m_rea : Int32) (m_det : Int32) (m_isv : Int32) (m_iit : Int32) (m_len : Int32) (m_at : Int32) (m_err : Int32) (m_wro : Int32) (m_cmd : Int32) (m_to1 : Int32) (m_to2 : Int32) (m_now : Nat → Int32) (m_sav : Nat → Int32) (m_ahe : Nat → Int32) (m_bef : Nat → Int32) (m_hst : Nat → Nat → Int32) (m_noi : Nat → UInt32) (m_own : Nat → UInt32) (m_inp : Nat → Int32) (a1 : Int32) (sz : Nat) {res : Int32 × Int32} (hf : f_X5_noise m_thr m_now a1 = some res) : Met l yX5_noise (.code yX5_noise cX5_noise 2 (some .int) :: lw_all) { frames := 6, cells := 0, slots := 0, locals := 120 } (va_Pc [.ref (q 0), .int a1] (sW D cy (wX5 q cy m_thr m_kept m_rea m_det m_isv m_iit m_len m_at m_err m_wro m_cmd m_to1 m_to2 m_now m_sav m_ahe m_bef m_hst m_noi m_own m_inp) sz)) (qI D (wX5 q cy res.2 m_kept m_rea m_det m_isv m_iit m_len m_at m_err m_wro m_cmd m_to1 m_to2 m_now m_sav m_ahe m_bef m_hst m_noi m_own m_inp) res.1 (va_A (wX5 q cy m_thr m_kept m_rea m_det m_isv m_iit m_len m_at m_err m_wro m_cmd m_to1 m_to2 m_now m_sav m_ahe m_bef m_hst m_noi m_own m_inp) sz)) 0 0 (va_A (wX5 q cy m_thr m_kept m_rea m_det m_isv m_iit m_len m_at m_err m_wro m_cmd m_to1 m_to2 m_now m_sav m_ahe m_bef m_hst m_noi m_own m_inp) sz) := by
  refine mk_rw (Qc := qI D (wX5 q cy res.2 m_kept m_rea m_det m_isv m_iit m_len m_at m_err m_wro m_cmd m_to1 m_to2 m_now m_sav m_ahe m_bef m_hst m_noi m_own m_inp) res.1) (Rc := RX5) (by decide +kernel) rfl (Nat.le_of_ble_eq_true rfl) ?_
  intro p e s m args below meth c ls A CX hml hr hlk hK hN hP hD hS hA hl
  have hx := CX.1
  have hb := CX.2.1
  have hRMJxf58ca_floatToIntBits_5c35a : (⟨2, 0, 0, 40⟩ : Room).frames + 1 ≤ (⟨6, 0, 0, 120⟩ : Room).frames ∧ 8 + (1 + 11) + (⟨2, 0, 0, 40⟩ : Room).locals ≤ (⟨6, 0, 0, 120⟩ : Room).locals := ⟨Nat.le_of_ble_eq_true rfl, Nat.le_of_ble_eq_true rfl⟩
  have hRMX5_fails : (⟨1, 0, 0, 12⟩ : Room).frames + 1 ≤ (⟨6, 0, 0, 120⟩ : Room).frames ∧ 8 + (3 + 11) + (⟨1, 0, 0, 12⟩ : Room).locals ≤ (⟨6, 0, 0, 120⟩ : Room).locals := ⟨Nat.le_of_ble_eq_true rfl, Nat.le_of_ble_eq_true rfl⟩
  have hRMX5_isPitch : (⟨2, 0, 0, 34⟩ : Room).frames + 1 ≤ (⟨6, 0, 0, 120⟩ : Room).frames ∧ 8 + (1 + 11) + (⟨2, 0, 0, 34⟩ : Room).locals ≤ (⟨6, 0, 0, 120⟩ : Room).locals := ⟨Nat.le_of_ble_eq_true rfl, Nat.le_of_ble_eq_true rfl⟩
  have hRMX5_noiseAt : (⟨5, 0, 0, 99⟩ : Room).frames + 1 ≤ (⟨6, 0, 0, 120⟩ : Room).frames ∧ 8 + (2 + 11) + (⟨5, 0, 0, 99⟩ : Room).locals ≤ (⟨6, 0, 0, 120⟩ : Room).locals := ⟨Nat.le_of_ble_eq_true rfl, Nat.le_of_ble_eq_true rfl⟩
  have hl0 := hl
  have K14 : ∀ (t0 : Int32) (t1 : Int32) (m_thr : Int32) (H : Heap) (locs : List Loc) (hP : va_P D vwCl (wX5 q cy m_thr m_kept m_rea m_det m_isv m_iit m_len m_at m_err m_wro m_cmd m_to1 m_to2 m_now m_sav m_ahe m_bef m_hst m_noi m_own m_inp) H) (hD : va_D A (wX5 q cy m_thr m_kept m_rea m_det m_isv m_iit m_len m_at m_err m_wro m_cmd m_to1 m_to2 m_now m_sav m_ahe m_bef m_hst m_noi m_own m_inp)) (hS : va_S A s.heap H locs) (ls : Array Slot) (hl : lv_has ls 2 [(0, .ref (q 0)), (1, .int a1)]) (hf : f_X5_noise_c14 m_now a1 t0 t1 m_thr = some res), W p l e ⟨6, 0, 0, 120⟩ s m args below meth c H locs 0 0 (MQ below (qI D (wX5 q cy res.2 m_kept m_rea m_det m_isv m_iit m_len m_at m_err m_wro m_cmd m_to1 m_to2 m_now m_sav m_ahe m_bef m_hst m_noi m_own m_inp) res.1 A) args s 0 0 A) (F0 m 14 ls [.int t0, .int t1, .ref (q 0)]) := by
    intro t0 t1 m_thr H locs hP hD hS ls hl hf
    obtain ⟨r2, e1, hf⟩ := ob_some hf
    refine crw_vi CX hml (As := [.int t1, .int t0]) (rest := []) (c_X5_fails l D cy q m_thr m_kept m_rea m_det m_isv m_iit m_len m_at m_err m_wro m_cmd m_to1 m_to2 m_now m_sav m_ahe m_bef m_hst m_noi m_own m_inp t1 t0 _ e1) lk_RX5_81 rfl rfl hRMX5_fails hP hD hS hA hK hN 0 rfl rfl rfl hl.1 rfl (Nat.le_of_ble_eq_true rfl) ⟨Nat.le_of_ble_eq_true rfl, Nat.le_of_ble_eq_true rfl⟩ (dg ddX5_noise 8 rfl) (fun H locs hP hD hS => ?_)
    refine lv_if_eq (tgt := 24) hx hb (dg ddX5_noise 9 rfl) (by decide) (fun h3 => ?_) (fun h3 => ?_)
    · have hf := it_t h3 hf
      refine lv_aload_n hx hb (dg ddX5_noise 12 rfl) rfl (lv_at hl 0 rfl) ?_
      refine lv_iload_n hx hb (dg ddX5_noise 13 rfl) rfl (lv_at hl 1 rfl) ?_
      obtain ⟨r5, e4, hf⟩ := ob_some hf
      refine cro_vf CX hml (As := [.int a1]) (rest := []) (c_X5_noiseAt l D cy q r2.2 m_kept m_rea m_det m_isv m_iit m_len m_at m_err m_wro m_cmd m_to1 m_to2 m_now m_sav m_ahe m_bef m_hst m_noi m_own m_inp a1 e4) lk_RX5_156 rfl rfl hRMX5_noiseAt hP hK hN 0 rfl rfl rfl hl.1 rfl (Nat.le_of_ble_eq_true rfl) ⟨Nat.le_of_ble_eq_true rfl, Nat.le_of_ble_eq_true rfl⟩ (dg ddX5_noise 14 rfl) ?_
      obtain ⟨r7, e6, hf⟩ := ob_some hf
      refine cro_si CX hml (As := [.float r5]) (rest := []) (c_Jxf58ca_floatToIntBits_5c35a l D cy r5 e6) lk_RX5_43 rfl rfl hRMJxf58ca_floatToIntBits_5c35a vaP_nil hK hN rfl hl.1 rfl (Nat.le_of_ble_eq_true rfl) ⟨Nat.le_of_ble_eq_true rfl, Nat.le_of_ble_eq_true rfl⟩ (dg ddX5_noise 15 rfl) ?_
      cases hf
      exact e_wi CX hr hlk rfl hP hD hS (dg ddX5_noise 16 rfl)
    · have hf := it_f h3 hf
      refine lv_iconst (v := 0) hx hb (dg ddX5_noise 10 rfl) (by decide) ?_
      refine lv_goto (tgt := 32) hx hb (dg ddX5_noise 11 rfl) (by decide) ?_
      cases hf
      exact e_wi CX hr hlk rfl hP hD hS (dg ddX5_noise 16 rfl)
  refine lv_aload_n hx hb (dg ddX5_noise 0 rfl) rfl (lv_at hl 0 rfl) ?_
  refine lv_iconst (v := 1) hx hb (dg ddX5_noise 1 rfl) (by decide) ?_
  refine lv_iload_n hx hb (dg ddX5_noise 2 rfl) rfl (lv_at hl 1 rfl) ?_
  obtain ⟨r2, e1, hf⟩ := ob_some hf
  refine cro_si CX hml (As := [.int a1]) (rest := [.int 1, .ref (q 0)]) (c_X5_isPitch l D cy a1 e1) lk_RX5_96 rfl rfl hRMX5_isPitch vaP_nil hK hN rfl hl.1 rfl (Nat.le_of_ble_eq_true rfl) ⟨Nat.le_of_ble_eq_true rfl, Nat.le_of_ble_eq_true rfl⟩ (dg ddX5_noise 3 rfl) ?_
  refine lv_if_ne (tgt := 13) hx hb (dg ddX5_noise 4 rfl) (by decide) (fun h3 => ?_) (fun h3 => ?_)
  · have hf := it_f h3 hf
    refine lv_iconst (v := 0) hx hb (dg ddX5_noise 7 rfl) (by decide) ?_
    exact K14  0 1 m_thr _ _ hP hD hS _ (lv_sub hl [0, 1] rfl) hf
  · have hf := it_t h3 hf
    refine lv_iconst (v := 1) hx hb (dg ddX5_noise 5 rfl) (by decide) ?_
    refine lv_goto (tgt := 14) hx hb (dg ddX5_noise 6 rfl) (by decide) ?_
    exact K14  1 1 m_thr _ _ hP hD hS _ (lv_sub hl [0, 1] rfl) hf
def f_X5_noiseAgain_c24  (m_now : Nat → Int32) (a1 : Int32) : Nat → Int32 → Int32 → (Nat → UInt32) → Option (Int32 × Int32 × (Nat → UInt32))
  | 0, _, _, _ => none
  | n + 1, x2, m_thr, m_own => if 8 < x2 then (og (inb (a1 + 1) 10) (og (inb a1 10) (og (n32 (FP.fmul 1048576000 (m_own a1.toNatClampNeg))) (og (n32 (FP.fadd (m_own (a1 + 1).toNatClampNeg) (FP.fmul 1048576000 (m_own a1.toNatClampNeg)))) (og (inb (a1 + 2) 10) (og (n32 (FP.fmul 1048576000 (m_own (a1 + 2).toNatClampNeg))) (og (n32 (FP.fadd (FP.fadd (m_own (a1 + 1).toNatClampNeg) (FP.fmul 1048576000 (m_own a1.toNatClampNeg))) (FP.fmul 1048576000 (m_own (a1 + 2).toNatClampNeg)))) (ob (f_Jxf58ca_floatToIntBits_5c35a (FP.fadd (FP.fadd (m_own (a1 + 1).toNatClampNeg) (FP.fmul 1048576000 (m_own a1.toNatClampNeg))) (FP.fmul 1048576000 (m_own (a1 + 2).toNatClampNeg)))) fun r10 => (some (r10, m_thr, m_own)))))))))) else (ob (f_X5_own m_now x2) fun r12 => (og (inb (x2 + 1) 10) (f_X5_noiseAgain_c24 m_now a1 n (x2 + 1) m_thr (vf_upd m_own (x2 + 1).toNatClampNeg r12))))
def f_X5_noiseAgain (m_thr : Int32) (m_now : Nat → Int32) (m_own : Nat → UInt32) (a1 : Int32) : Option (Int32 × Int32 × (Nat → UInt32)) := ob (f_X5_isPitch a1) fun r2 => (if r2 = 0 then (ob (f_X5_fails m_thr 1 1) fun r8 => (if r8.1 = 0 then (f_X5_noiseAgain_c24 m_now a1 4096 (-1) r8.2 m_own) else (some (0, r8.2, m_own)))) else (ob (f_X5_fails m_thr 1 0) fun r5 => (if r5.1 = 0 then (f_X5_noiseAgain_c24 m_now a1 4096 (-1) r5.2 m_own) else (some (0, r5.2, m_own)))))
set_option maxHeartbeats 4000000 in
set_option maxRecDepth 100000 in
theorem c_X5_noiseAgain (l : Launch) (D : va_G) (cy : Nat → ClassId) (q : Nat → Nat) (m_thr : Int32) (m_kept : Int32) (m_rea : Int32) (m_det : Int32) (m_isv : Int32) (m_iit : Int32) (m_len : Int32) (m_at : Int32) (m_err : Int32) (m_wro : Int32) (m_cmd : Int32) (m_to1 : Int32) (m_to2 : Int32) (m_now : Nat → Int32) (m_sav : Nat → Int32) (m_ahe : Nat → Int32) (m_bef : Nat → Int32) (m_hst : Nat → Nat → Int32) (m_noi : Nat → UInt32) (m_own : Nat → UInt32) (m_inp : Nat → Int32) (a1 : Int32) (sz : Nat) {res : Int32 × Int32 × (Nat → UInt32)} (hf : f_X5_noiseAgain m_thr m_now m_own a1 = some res) : Met l yX5_noiseAgain (.code yX5_noiseAgain cX5_noiseAgain 3 (some .int) :: lw_all) { frames := 4, cells := 0, slots := 0, locals := 77 } (va_Pc [.ref (q 0), .int a1] (sW D cy (wX5 q cy m_thr m_kept m_rea m_det m_isv m_iit m_len m_at m_err m_wro m_cmd m_to1 m_to2 m_now m_sav m_ahe m_bef m_hst m_noi m_own m_inp) sz)) (qI D (wX5 q cy res.2.1 m_kept m_rea m_det m_isv m_iit m_len m_at m_err m_wro m_cmd m_to1 m_to2 m_now m_sav m_ahe m_bef m_hst m_noi res.2.2 m_inp) res.1 (va_A (wX5 q cy m_thr m_kept m_rea m_det m_isv m_iit m_len m_at m_err m_wro m_cmd m_to1 m_to2 m_now m_sav m_ahe m_bef m_hst m_noi m_own m_inp) sz)) 0 0 (va_A (wX5 q cy m_thr m_kept m_rea m_det m_isv m_iit m_len m_at m_err m_wro m_cmd m_to1 m_to2 m_now m_sav m_ahe m_bef m_hst m_noi m_own m_inp) sz) := by
  refine mk_rw (Qc := qI D (wX5 q cy res.2.1 m_kept m_rea m_det m_isv m_iit m_len m_at m_err m_wro m_cmd m_to1 m_to2 m_now m_sav m_ahe m_bef m_hst m_noi res.2.2 m_inp) res.1) (Rc := RX5) (by decide +kernel) rfl (Nat.le_of_ble_eq_true rfl) ?_
  intro p e s m args below meth c ls A CX hml hr hlk hK hN hP hD hS hA hl
  have hx := CX.1
  have hb := CX.2.1
  have hRMJxf58ca_floatToIntBits_5c35a : (⟨2, 0, 0, 40⟩ : Room).frames + 1 ≤ (⟨4, 0, 0, 77⟩ : Room).frames ∧ 8 + (1 + 11) + (⟨2, 0, 0, 40⟩ : Room).locals ≤ (⟨4, 0, 0, 77⟩ : Room).locals := ⟨Nat.le_of_ble_eq_true rfl, Nat.le_of_ble_eq_true rfl⟩
  have hRMX5_fails : (⟨1, 0, 0, 12⟩ : Room).frames + 1 ≤ (⟨4, 0, 0, 77⟩ : Room).frames ∧ 8 + (3 + 11) + (⟨1, 0, 0, 12⟩ : Room).locals ≤ (⟨4, 0, 0, 77⟩ : Room).locals := ⟨Nat.le_of_ble_eq_true rfl, Nat.le_of_ble_eq_true rfl⟩
  have hRMX5_isPitch : (⟨2, 0, 0, 34⟩ : Room).frames + 1 ≤ (⟨4, 0, 0, 77⟩ : Room).frames ∧ 8 + (1 + 11) + (⟨2, 0, 0, 34⟩ : Room).locals ≤ (⟨4, 0, 0, 77⟩ : Room).locals := ⟨Nat.le_of_ble_eq_true rfl, Nat.le_of_ble_eq_true rfl⟩
  have hRMX5_own : (⟨3, 0, 0, 56⟩ : Room).frames + 1 ≤ (⟨4, 0, 0, 77⟩ : Room).frames ∧ 8 + (2 + 11) + (⟨3, 0, 0, 56⟩ : Room).locals ≤ (⟨4, 0, 0, 77⟩ : Room).locals := ⟨Nat.le_of_ble_eq_true rfl, Nat.le_of_ble_eq_true rfl⟩
  have hl0 := hl
  have K24 : ∀ (n : Nat), ∀ (x2 : Int32) (m_thr : Int32) (m_own : Nat → UInt32) (H : Heap) (locs : List Loc) (hP : va_P D vwCl (wX5 q cy m_thr m_kept m_rea m_det m_isv m_iit m_len m_at m_err m_wro m_cmd m_to1 m_to2 m_now m_sav m_ahe m_bef m_hst m_noi m_own m_inp) H) (hD : va_D A (wX5 q cy m_thr m_kept m_rea m_det m_isv m_iit m_len m_at m_err m_wro m_cmd m_to1 m_to2 m_now m_sav m_ahe m_bef m_hst m_noi m_own m_inp)) (hS : va_S A s.heap H locs) (ls : Array Slot) (hl : lv_has ls 3 [(0, .ref (q 0)), (1, .int a1), (2, .int x2)]) (hf : f_X5_noiseAgain_c24 m_now a1 n x2 m_thr m_own = some res), W p l e ⟨4, 0, 0, 77⟩ s m args below meth c H locs 0 0 (MQ below (qI D (wX5 q cy res.2.1 m_kept m_rea m_det m_isv m_iit m_len m_at m_err m_wro m_cmd m_to1 m_to2 m_now m_sav m_ahe m_bef m_hst m_noi res.2.2 m_inp) res.1 A) args s 0 0 A) (F0 m 24 ls []) := by
    intro n
    induction n with
    | zero => intro x2 m_thr m_own H locs hP hD hS ls hl hf; cases (show none = some res from hf)
    | succ n ih =>
    intro x2 m_thr m_own H locs hP hD hS ls hl hf
    refine lv_iload_n hx hb (dg ddX5_noiseAgain 14 rfl) rfl (lv_at hl 2 rfl) ?_
    refine lv_bipush (v := 8) hx hb (dg ddX5_noiseAgain 15 rfl) (by decide) ?_
    refine lv_icmp_gt (tgt := 49) hx hb (dg ddX5_noiseAgain 16 rfl) (by decide) (fun h1 => ?_) (fun h1 => ?_)
    · have hf := it_t h1 hf
      refine lv_aload_n hx hb (dg ddX5_noiseAgain 28 rfl) rfl (lv_at hl 0 rfl) ?_
      refine gf_RX5_31 CX hK hP 0 rfl rfl (dg ddX5_noiseAgain 29 rfl) ?_
      refine lv_iload_n hx hb (dg ddX5_noiseAgain 30 rfl) rfl (lv_at hl 1 rfl) ?_
      refine lv_iconst (v := 1) hx hb (dg ddX5_noiseAgain 31 rfl) (by decide) ?_
      refine lv_iadd hx hb (dg ddX5_noiseAgain 32 rfl) ?_
      obtain ⟨h2, hf⟩ := og_some hf
      refine va_fald hx hb hK hP 7 1 rfl rfl (inb_in h2) (dg ddX5_noiseAgain 33 rfl) ?_
      refine lv_ldcf hx hb CX.2.2.2 (CX.2.2.1 (.constantFloat RX5 148 (1048576000)) (lw_at 1234 (by decide +kernel))) (dg ddX5_noiseAgain 34 rfl) ?_
      refine lv_aload_n hx hb (dg ddX5_noiseAgain 35 rfl) rfl (lv_at hl 0 rfl) ?_
      refine gf_RX5_31 CX hK hP 0 rfl rfl (dg ddX5_noiseAgain 36 rfl) ?_
      refine lv_iload_n hx hb (dg ddX5_noiseAgain 37 rfl) rfl (lv_at hl 1 rfl) ?_
      obtain ⟨h3, hf⟩ := og_some hf
      refine va_fald hx hb hK hP 7 1 rfl rfl (inb_in h3) (dg ddX5_noiseAgain 38 rfl) ?_
      obtain ⟨h4, hf⟩ := og_some hf
      refine lv_fmul hx hb (dg ddX5_noiseAgain 39 rfl) (n32_in h4) ?_
      obtain ⟨h5, hf⟩ := og_some hf
      refine lv_fadd hx hb (dg ddX5_noiseAgain 40 rfl) (n32_in h5) ?_
      refine lv_ldcf hx hb CX.2.2.2 (CX.2.2.1 (.constantFloat RX5 148 (1048576000)) (lw_at 1234 (by decide +kernel))) (dg ddX5_noiseAgain 41 rfl) ?_
      refine lv_aload_n hx hb (dg ddX5_noiseAgain 42 rfl) rfl (lv_at hl 0 rfl) ?_
      refine gf_RX5_31 CX hK hP 0 rfl rfl (dg ddX5_noiseAgain 43 rfl) ?_
      refine lv_iload_n hx hb (dg ddX5_noiseAgain 44 rfl) rfl (lv_at hl 1 rfl) ?_
      refine lv_iconst (v := 2) hx hb (dg ddX5_noiseAgain 45 rfl) (by decide) ?_
      refine lv_iadd hx hb (dg ddX5_noiseAgain 46 rfl) ?_
      obtain ⟨h6, hf⟩ := og_some hf
      refine va_fald hx hb hK hP 7 1 rfl rfl (inb_in h6) (dg ddX5_noiseAgain 47 rfl) ?_
      obtain ⟨h7, hf⟩ := og_some hf
      refine lv_fmul hx hb (dg ddX5_noiseAgain 48 rfl) (n32_in h7) ?_
      obtain ⟨h8, hf⟩ := og_some hf
      refine lv_fadd hx hb (dg ddX5_noiseAgain 49 rfl) (n32_in h8) ?_
      obtain ⟨r10, e9, hf⟩ := ob_some hf
      refine cro_si CX hml (As := [.float (FP.fadd (FP.fadd (m_own (a1 + 1).toNatClampNeg) (FP.fmul 1048576000 (m_own a1.toNatClampNeg))) (FP.fmul 1048576000 (m_own (a1 + 2).toNatClampNeg)))]) (rest := []) (c_Jxf58ca_floatToIntBits_5c35a l D cy (FP.fadd (FP.fadd (m_own (a1 + 1).toNatClampNeg) (FP.fmul 1048576000 (m_own a1.toNatClampNeg))) (FP.fmul 1048576000 (m_own (a1 + 2).toNatClampNeg))) e9) lk_RX5_43 rfl rfl hRMJxf58ca_floatToIntBits_5c35a vaP_nil hK hN rfl hl.1 rfl (Nat.le_of_ble_eq_true rfl) ⟨Nat.le_of_ble_eq_true rfl, Nat.le_of_ble_eq_true rfl⟩ (dg ddX5_noiseAgain 50 rfl) ?_
      cases hf
      exact e_wi CX hr hlk rfl hP hD hS (dg ddX5_noiseAgain 51 rfl)
    · have hf := it_f h1 hf
      refine lv_aload_n hx hb (dg ddX5_noiseAgain 17 rfl) rfl (lv_at hl 0 rfl) ?_
      refine gf_RX5_31 CX hK hP 0 rfl rfl (dg ddX5_noiseAgain 18 rfl) ?_
      refine lv_iload_n hx hb (dg ddX5_noiseAgain 19 rfl) rfl (lv_at hl 2 rfl) ?_
      refine lv_iconst (v := 1) hx hb (dg ddX5_noiseAgain 20 rfl) (by decide) ?_
      refine lv_iadd hx hb (dg ddX5_noiseAgain 21 rfl) ?_
      refine lv_aload_n hx hb (dg ddX5_noiseAgain 22 rfl) rfl (lv_at hl 0 rfl) ?_
      refine lv_iload_n hx hb (dg ddX5_noiseAgain 23 rfl) rfl (lv_at hl 2 rfl) ?_
      obtain ⟨r12, e11, hf⟩ := ob_some hf
      refine cro_vf CX hml (As := [.int x2]) (rest := [.int (x2 + 1), .ref (q 7)]) (c_X5_own l D cy q m_thr m_kept m_rea m_det m_isv m_iit m_len m_at m_err m_wro m_cmd m_to1 m_to2 m_now m_sav m_ahe m_bef m_hst m_noi m_own m_inp x2 e11) lk_RX5_149 rfl rfl hRMX5_own hP hK hN 0 rfl rfl rfl hl.1 rfl (Nat.le_of_ble_eq_true rfl) ⟨Nat.le_of_ble_eq_true rfl, Nat.le_of_ble_eq_true rfl⟩ (dg ddX5_noiseAgain 24 rfl) ?_
      obtain ⟨h13, hf⟩ := og_some hf
      refine va_fast hx hb hK hP hD hS 7 1 rfl rfl (inb_in h13) (dg ddX5_noiseAgain 25 rfl) (fun H locs hP hD hS => ?_)
      have hP : va_P D vwCl (wX5 q cy m_thr m_kept m_rea m_det m_isv m_iit m_len m_at m_err m_wro m_cmd m_to1 m_to2 m_now m_sav m_ahe m_bef m_hst m_noi (vf_upd m_own (x2 + 1).toNatClampNeg r12) m_inp) H := hP
      have hD : va_D A (wX5 q cy m_thr m_kept m_rea m_det m_isv m_iit m_len m_at m_err m_wro m_cmd m_to1 m_to2 m_now m_sav m_ahe m_bef m_hst m_noi (vf_upd m_own (x2 + 1).toNatClampNeg r12) m_inp) := hD
      refine lv_iinc (v := x2 + 1) (lv' := [(2, .int (x2 + 1)), (0, .ref (q 0)), (1, .int a1)]) hx hb (dg ddX5_noiseAgain 26 rfl) hl (k := 2) rfl (congrArg (HAdd.hAdd x2) (by decide)) (by decide) rfl (fun ls hl => ?_)
      refine lv_goto (tgt := 24) hx hb (dg ddX5_noiseAgain 27 rfl) (by decide) ?_
      exact ih (x2 + 1) m_thr (vf_upd m_own (x2 + 1).toNatClampNeg r12) _ _ hP hD hS _ (lv_sub hl [1, 2, 0] rfl) hf
  refine lv_aload_n hx hb (dg ddX5_noiseAgain 0 rfl) rfl (lv_at hl 0 rfl) ?_
  refine lv_iconst (v := 1) hx hb (dg ddX5_noiseAgain 1 rfl) (by decide) ?_
  refine lv_iload_n hx hb (dg ddX5_noiseAgain 2 rfl) rfl (lv_at hl 1 rfl) ?_
  obtain ⟨r2, e1, hf⟩ := ob_some hf
  refine cro_si CX hml (As := [.int a1]) (rest := [.int 1, .ref (q 0)]) (c_X5_isPitch l D cy a1 e1) lk_RX5_96 rfl rfl hRMX5_isPitch vaP_nil hK hN rfl hl.1 rfl (Nat.le_of_ble_eq_true rfl) ⟨Nat.le_of_ble_eq_true rfl, Nat.le_of_ble_eq_true rfl⟩ (dg ddX5_noiseAgain 3 rfl) ?_
  refine lv_if_ne (tgt := 13) hx hb (dg ddX5_noiseAgain 4 rfl) (by decide) (fun h3 => ?_) (fun h3 => ?_)
  · have hf := it_f h3 hf
    refine lv_iconst (v := 0) hx hb (dg ddX5_noiseAgain 7 rfl) (by decide) ?_
    obtain ⟨r5, e4, hf⟩ := ob_some hf
    refine crw_vi CX hml (As := [.int 1, .int 0]) (rest := []) (c_X5_fails l D cy q m_thr m_kept m_rea m_det m_isv m_iit m_len m_at m_err m_wro m_cmd m_to1 m_to2 m_now m_sav m_ahe m_bef m_hst m_noi m_own m_inp 1 0 _ e4) lk_RX5_81 rfl rfl hRMX5_fails hP hD hS hA hK hN 0 rfl rfl rfl hl.1 rfl (Nat.le_of_ble_eq_true rfl) ⟨Nat.le_of_ble_eq_true rfl, Nat.le_of_ble_eq_true rfl⟩ (dg ddX5_noiseAgain 8 rfl) (fun H locs hP hD hS => ?_)
    refine lv_if_eq (tgt := 22) hx hb (dg ddX5_noiseAgain 9 rfl) (by decide) (fun h6 => ?_) (fun h6 => ?_)
    · have hf := it_t h6 hf
      refine lv_iconst (v := (-1)) hx hb (dg ddX5_noiseAgain 12 rfl) (by decide) ?_
      refine lv_istore_n (lv' := [(2, .int (-1)), (0, .ref (q 0)), (1, .int a1)]) hx hb (dg ddX5_noiseAgain 13 rfl) rfl hl (by decide) rfl (fun ls hl => ?_)
      exact K24 4096 (-1) r5.2 m_own _ _ hP hD hS _ (lv_sub hl [1, 2, 0] rfl) hf
    · have hf := it_f h6 hf
      refine lv_iconst (v := 0) hx hb (dg ddX5_noiseAgain 10 rfl) (by decide) ?_
      cases hf
      exact e_wi CX hr hlk rfl hP hD hS (dg ddX5_noiseAgain 11 rfl)
  · have hf := it_t h3 hf
    refine lv_iconst (v := 1) hx hb (dg ddX5_noiseAgain 5 rfl) (by decide) ?_
    refine lv_goto (tgt := 14) hx hb (dg ddX5_noiseAgain 6 rfl) (by decide) ?_
    obtain ⟨r8, e7, hf⟩ := ob_some hf
    refine crw_vi CX hml (As := [.int 1, .int 1]) (rest := []) (c_X5_fails l D cy q m_thr m_kept m_rea m_det m_isv m_iit m_len m_at m_err m_wro m_cmd m_to1 m_to2 m_now m_sav m_ahe m_bef m_hst m_noi m_own m_inp 1 1 _ e7) lk_RX5_81 rfl rfl hRMX5_fails hP hD hS hA hK hN 0 rfl rfl rfl hl.1 rfl (Nat.le_of_ble_eq_true rfl) ⟨Nat.le_of_ble_eq_true rfl, Nat.le_of_ble_eq_true rfl⟩ (dg ddX5_noiseAgain 8 rfl) (fun H locs hP hD hS => ?_)
    refine lv_if_eq (tgt := 22) hx hb (dg ddX5_noiseAgain 9 rfl) (by decide) (fun h9 => ?_) (fun h9 => ?_)
    · have hf := it_t h9 hf
      refine lv_iconst (v := (-1)) hx hb (dg ddX5_noiseAgain 12 rfl) (by decide) ?_
      refine lv_istore_n (lv' := [(2, .int (-1)), (0, .ref (q 0)), (1, .int a1)]) hx hb (dg ddX5_noiseAgain 13 rfl) rfl hl (by decide) rfl (fun ls hl => ?_)
      exact K24 4096 (-1) r8.2 m_own _ _ hP hD hS _ (lv_sub hl [1, 2, 0] rfl) hf
    · have hf := it_f h9 hf
      refine lv_iconst (v := 0) hx hb (dg ddX5_noiseAgain 10 rfl) (by decide) ?_
      cases hf
      exact e_wi CX hr hlk rfl hP hD hS (dg ddX5_noiseAgain 11 rfl)
def f_X5_noiseWith_c22  (m_now : Nat → Int32) (a1 : Int32) (a2 : Int32) (t0 : Int32) (t1 : Int32) (m_thr : Int32) : Option (Int32 × Int32) := ob (f_X5_fails m_thr t1 t0) fun r2 => (if r2.1 = 0 then (ob (f_X5_ownOf m_now a2) fun r5 => (ob (f_X5_noiseBy m_now a1 r5) fun r7 => (ob (f_Jxf58ca_floatToIntBits_5c35a r7) fun r9 => (some (r9, r2.2))))) else (some (0, r2.2)))
def f_X5_noiseWith_c17  (m_now : Nat → Int32) (a1 : Int32) (a2 : Int32) (t0 : Int32) (m_thr : Int32) : Option (Int32 × Int32) := f_X5_noiseWith_c22 m_now a1 a2 1 t0 m_thr
def f_X5_noiseWith (m_thr : Int32) (m_now : Nat → Int32) (a1 : Int32) (a2 : Int32) : Option (Int32 × Int32) := ob (f_X5_isPitch a1) fun r2 => (if r2 = 0 then (f_X5_noiseWith_c17 m_now a1 a2 1 m_thr) else (ob (f_X5_isBusker m_now a2) fun r5 => (if r5 = 0 then (f_X5_noiseWith_c17 m_now a1 a2 1 m_thr) else (f_X5_noiseWith_c22 m_now a1 a2 0 1 m_thr))))
set_option maxHeartbeats 4000000 in
set_option maxRecDepth 100000 in
theorem c_X5_noiseWith (l : Launch) (D : va_G) (cy : Nat → ClassId) (q : Nat → Nat) (m_thr : Int32) (m_kept : Int32) (m_rea : Int32) (m_det : Int32) (m_isv : Int32) (m_iit : Int32) (m_len : Int32) (m_at : Int32) (m_err : Int32) (m_wro : Int32) (m_cmd : Int32) (m_to1 : Int32) (m_to2 : Int32) (m_now : Nat → Int32) (m_sav : Nat → Int32) (m_ahe : Nat → Int32) (m_bef : Nat → Int32) (m_hst : Nat → Nat → Int32) (m_noi : Nat → UInt32) (m_own : Nat → UInt32) (m_inp : Nat → Int32) (a1 : Int32) (a2 : Int32) (sz : Nat) {res : Int32 × Int32} (hf : f_X5_noiseWith m_thr m_now a1 a2 = some res) : Met l yX5_noiseWith (.code yX5_noiseWith cX5_noiseWith 3 (some .int) :: lw_all) { frames := 5, cells := 0, slots := 0, locals := 99 } (va_Pc [.ref (q 0), .int a1, .int a2] (sW D cy (wX5 q cy m_thr m_kept m_rea m_det m_isv m_iit m_len m_at m_err m_wro m_cmd m_to1 m_to2 m_now m_sav m_ahe m_bef m_hst m_noi m_own m_inp) sz)) (qI D (wX5 q cy res.2 m_kept m_rea m_det m_isv m_iit m_len m_at m_err m_wro m_cmd m_to1 m_to2 m_now m_sav m_ahe m_bef m_hst m_noi m_own m_inp) res.1 (va_A (wX5 q cy m_thr m_kept m_rea m_det m_isv m_iit m_len m_at m_err m_wro m_cmd m_to1 m_to2 m_now m_sav m_ahe m_bef m_hst m_noi m_own m_inp) sz)) 0 0 (va_A (wX5 q cy m_thr m_kept m_rea m_det m_isv m_iit m_len m_at m_err m_wro m_cmd m_to1 m_to2 m_now m_sav m_ahe m_bef m_hst m_noi m_own m_inp) sz) := by
  refine mk_rw (Qc := qI D (wX5 q cy res.2 m_kept m_rea m_det m_isv m_iit m_len m_at m_err m_wro m_cmd m_to1 m_to2 m_now m_sav m_ahe m_bef m_hst m_noi m_own m_inp) res.1) (Rc := RX5) (by decide +kernel) rfl (Nat.le_of_ble_eq_true rfl) ?_
  intro p e s m args below meth c ls A CX hml hr hlk hK hN hP hD hS hA hl
  have hx := CX.1
  have hb := CX.2.1
  have hRMJxf58ca_floatToIntBits_5c35a : (⟨2, 0, 0, 40⟩ : Room).frames + 1 ≤ (⟨5, 0, 0, 99⟩ : Room).frames ∧ 8 + (1 + 11) + (⟨2, 0, 0, 40⟩ : Room).locals ≤ (⟨5, 0, 0, 99⟩ : Room).locals := ⟨Nat.le_of_ble_eq_true rfl, Nat.le_of_ble_eq_true rfl⟩
  have hRMX5_fails : (⟨1, 0, 0, 12⟩ : Room).frames + 1 ≤ (⟨5, 0, 0, 99⟩ : Room).frames ∧ 8 + (3 + 11) + (⟨1, 0, 0, 12⟩ : Room).locals ≤ (⟨5, 0, 0, 99⟩ : Room).locals := ⟨Nat.le_of_ble_eq_true rfl, Nat.le_of_ble_eq_true rfl⟩
  have hRMX5_isBusker : (⟨2, 0, 0, 34⟩ : Room).frames + 1 ≤ (⟨5, 0, 0, 99⟩ : Room).frames ∧ 8 + (2 + 11) + (⟨2, 0, 0, 34⟩ : Room).locals ≤ (⟨5, 0, 0, 99⟩ : Room).locals := ⟨Nat.le_of_ble_eq_true rfl, Nat.le_of_ble_eq_true rfl⟩
  have hRMX5_isPitch : (⟨2, 0, 0, 34⟩ : Room).frames + 1 ≤ (⟨5, 0, 0, 99⟩ : Room).frames ∧ 8 + (1 + 11) + (⟨2, 0, 0, 34⟩ : Room).locals ≤ (⟨5, 0, 0, 99⟩ : Room).locals := ⟨Nat.le_of_ble_eq_true rfl, Nat.le_of_ble_eq_true rfl⟩
  have hRMX5_noiseBy : (⟨4, 0, 0, 77⟩ : Room).frames + 1 ≤ (⟨5, 0, 0, 99⟩ : Room).frames ∧ 8 + (3 + 11) + (⟨4, 0, 0, 77⟩ : Room).locals ≤ (⟨5, 0, 0, 99⟩ : Room).locals := ⟨Nat.le_of_ble_eq_true rfl, Nat.le_of_ble_eq_true rfl⟩
  have hRMX5_ownOf : (⟨2, 0, 0, 34⟩ : Room).frames + 1 ≤ (⟨5, 0, 0, 99⟩ : Room).frames ∧ 8 + (3 + 11) + (⟨2, 0, 0, 34⟩ : Room).locals ≤ (⟨5, 0, 0, 99⟩ : Room).locals := ⟨Nat.le_of_ble_eq_true rfl, Nat.le_of_ble_eq_true rfl⟩
  have hl0 := hl
  have K22 : ∀ (t0 : Int32) (t1 : Int32) (m_thr : Int32) (H : Heap) (locs : List Loc) (hP : va_P D vwCl (wX5 q cy m_thr m_kept m_rea m_det m_isv m_iit m_len m_at m_err m_wro m_cmd m_to1 m_to2 m_now m_sav m_ahe m_bef m_hst m_noi m_own m_inp) H) (hD : va_D A (wX5 q cy m_thr m_kept m_rea m_det m_isv m_iit m_len m_at m_err m_wro m_cmd m_to1 m_to2 m_now m_sav m_ahe m_bef m_hst m_noi m_own m_inp)) (hS : va_S A s.heap H locs) (ls : Array Slot) (hl : lv_has ls 3 [(0, .ref (q 0)), (1, .int a1), (2, .int a2)]) (hf : f_X5_noiseWith_c22 m_now a1 a2 t0 t1 m_thr = some res), W p l e ⟨5, 0, 0, 99⟩ s m args below meth c H locs 0 0 (MQ below (qI D (wX5 q cy res.2 m_kept m_rea m_det m_isv m_iit m_len m_at m_err m_wro m_cmd m_to1 m_to2 m_now m_sav m_ahe m_bef m_hst m_noi m_own m_inp) res.1 A) args s 0 0 A) (F0 m 22 ls [.int t0, .int t1, .ref (q 0)]) := by
    intro t0 t1 m_thr H locs hP hD hS ls hl hf
    obtain ⟨r2, e1, hf⟩ := ob_some hf
    refine crw_vi CX hml (As := [.int t1, .int t0]) (rest := []) (c_X5_fails l D cy q m_thr m_kept m_rea m_det m_isv m_iit m_len m_at m_err m_wro m_cmd m_to1 m_to2 m_now m_sav m_ahe m_bef m_hst m_noi m_own m_inp t1 t0 _ e1) lk_RX5_81 rfl rfl hRMX5_fails hP hD hS hA hK hN 0 rfl rfl rfl hl.1 rfl (Nat.le_of_ble_eq_true rfl) ⟨Nat.le_of_ble_eq_true rfl, Nat.le_of_ble_eq_true rfl⟩ (dg ddX5_noiseWith 12 rfl) (fun H locs hP hD hS => ?_)
    refine lv_if_eq (tgt := 32) hx hb (dg ddX5_noiseWith 13 rfl) (by decide) (fun h3 => ?_) (fun h3 => ?_)
    · have hf := it_t h3 hf
      refine lv_aload_n hx hb (dg ddX5_noiseWith 16 rfl) rfl (lv_at hl 0 rfl) ?_
      refine lv_iload_n hx hb (dg ddX5_noiseWith 17 rfl) rfl (lv_at hl 1 rfl) ?_
      refine lv_aload_n hx hb (dg ddX5_noiseWith 18 rfl) rfl (lv_at hl 0 rfl) ?_
      refine lv_iload_n hx hb (dg ddX5_noiseWith 19 rfl) rfl (lv_at hl 2 rfl) ?_
      obtain ⟨r5, e4, hf⟩ := ob_some hf
      refine cro_vf CX hml (As := [.int a2]) (rest := [.int a1, .ref (q 0)]) (c_X5_ownOf l D cy q r2.2 m_kept m_rea m_det m_isv m_iit m_len m_at m_err m_wro m_cmd m_to1 m_to2 m_now m_sav m_ahe m_bef m_hst m_noi m_own m_inp a2 e4) lk_RX5_145 rfl rfl hRMX5_ownOf hP hK hN 0 rfl rfl rfl hl.1 rfl (Nat.le_of_ble_eq_true rfl) ⟨Nat.le_of_ble_eq_true rfl, Nat.le_of_ble_eq_true rfl⟩ (dg ddX5_noiseWith 20 rfl) ?_
      obtain ⟨r7, e6, hf⟩ := ob_some hf
      refine cro_vf CX hml (As := [.int a1, .float r5]) (rest := []) (c_X5_noiseBy l D cy q r2.2 m_kept m_rea m_det m_isv m_iit m_len m_at m_err m_wro m_cmd m_to1 m_to2 m_now m_sav m_ahe m_bef m_hst m_noi m_own m_inp a1 r5 e6) lk_RX5_152 rfl rfl hRMX5_noiseBy hP hK hN 0 rfl rfl rfl hl.1 rfl (Nat.le_of_ble_eq_true rfl) ⟨Nat.le_of_ble_eq_true rfl, Nat.le_of_ble_eq_true rfl⟩ (dg ddX5_noiseWith 21 rfl) ?_
      obtain ⟨r9, e8, hf⟩ := ob_some hf
      refine cro_si CX hml (As := [.float r7]) (rest := []) (c_Jxf58ca_floatToIntBits_5c35a l D cy r7 e8) lk_RX5_43 rfl rfl hRMJxf58ca_floatToIntBits_5c35a vaP_nil hK hN rfl hl.1 rfl (Nat.le_of_ble_eq_true rfl) ⟨Nat.le_of_ble_eq_true rfl, Nat.le_of_ble_eq_true rfl⟩ (dg ddX5_noiseWith 22 rfl) ?_
      cases hf
      exact e_wi CX hr hlk rfl hP hD hS (dg ddX5_noiseWith 23 rfl)
    · have hf := it_f h3 hf
      refine lv_iconst (v := 0) hx hb (dg ddX5_noiseWith 14 rfl) (by decide) ?_
      refine lv_goto (tgt := 45) hx hb (dg ddX5_noiseWith 15 rfl) (by decide) ?_
      cases hf
      exact e_wi CX hr hlk rfl hP hD hS (dg ddX5_noiseWith 23 rfl)
  have K17 : ∀ (t0 : Int32) (m_thr : Int32) (H : Heap) (locs : List Loc) (hP : va_P D vwCl (wX5 q cy m_thr m_kept m_rea m_det m_isv m_iit m_len m_at m_err m_wro m_cmd m_to1 m_to2 m_now m_sav m_ahe m_bef m_hst m_noi m_own m_inp) H) (hD : va_D A (wX5 q cy m_thr m_kept m_rea m_det m_isv m_iit m_len m_at m_err m_wro m_cmd m_to1 m_to2 m_now m_sav m_ahe m_bef m_hst m_noi m_own m_inp)) (hS : va_S A s.heap H locs) (ls : Array Slot) (hl : lv_has ls 3 [(0, .ref (q 0)), (1, .int a1), (2, .int a2)]) (hf : f_X5_noiseWith_c17 m_now a1 a2 t0 m_thr = some res), W p l e ⟨5, 0, 0, 99⟩ s m args below meth c H locs 0 0 (MQ below (qI D (wX5 q cy res.2 m_kept m_rea m_det m_isv m_iit m_len m_at m_err m_wro m_cmd m_to1 m_to2 m_now m_sav m_ahe m_bef m_hst m_noi m_own m_inp) res.1 A) args s 0 0 A) (F0 m 17 ls [.int t0, .ref (q 0)]) := by
    intro t0 m_thr H locs hP hD hS ls hl hf
    refine lv_iconst (v := 1) hx hb (dg ddX5_noiseWith 9 rfl) (by decide) ?_
    refine lv_goto (tgt := 22) hx hb (dg ddX5_noiseWith 10 rfl) (by decide) ?_
    exact K22  1 t0 m_thr _ _ hP hD hS _ (lv_sub hl [0, 1, 2] rfl) hf
  refine lv_aload_n hx hb (dg ddX5_noiseWith 0 rfl) rfl (lv_at hl 0 rfl) ?_
  refine lv_iconst (v := 1) hx hb (dg ddX5_noiseWith 1 rfl) (by decide) ?_
  refine lv_iload_n hx hb (dg ddX5_noiseWith 2 rfl) rfl (lv_at hl 1 rfl) ?_
  obtain ⟨r2, e1, hf⟩ := ob_some hf
  refine cro_si CX hml (As := [.int a1]) (rest := [.int 1, .ref (q 0)]) (c_X5_isPitch l D cy a1 e1) lk_RX5_96 rfl rfl hRMX5_isPitch vaP_nil hK hN rfl hl.1 rfl (Nat.le_of_ble_eq_true rfl) ⟨Nat.le_of_ble_eq_true rfl, Nat.le_of_ble_eq_true rfl⟩ (dg ddX5_noiseWith 3 rfl) ?_
  refine lv_if_eq (tgt := 17) hx hb (dg ddX5_noiseWith 4 rfl) (by decide) (fun h3 => ?_) (fun h3 => ?_)
  · have hf := it_t h3 hf
    exact K17  1 m_thr _ _ hP hD hS _ (lv_sub hl [0, 1, 2] rfl) hf
  · have hf := it_f h3 hf
    refine lv_aload_n hx hb (dg ddX5_noiseWith 5 rfl) rfl (lv_at hl 0 rfl) ?_
    refine lv_iload_n hx hb (dg ddX5_noiseWith 6 rfl) rfl (lv_at hl 2 rfl) ?_
    obtain ⟨r5, e4, hf⟩ := ob_some hf
    refine cro_vi CX hml (As := [.int a2]) (rest := [.int 1, .ref (q 0)]) (c_X5_isBusker l D cy q m_thr m_kept m_rea m_det m_isv m_iit m_len m_at m_err m_wro m_cmd m_to1 m_to2 m_now m_sav m_ahe m_bef m_hst m_noi m_own m_inp a2 e4) lk_RX5_114 rfl rfl hRMX5_isBusker hP hK hN 0 rfl rfl rfl hl.1 rfl (Nat.le_of_ble_eq_true rfl) ⟨Nat.le_of_ble_eq_true rfl, Nat.le_of_ble_eq_true rfl⟩ (dg ddX5_noiseWith 7 rfl) ?_
    refine lv_if_ne (tgt := 21) hx hb (dg ddX5_noiseWith 8 rfl) (by decide) (fun h6 => ?_) (fun h6 => ?_)
    · have hf := it_f h6 hf
      refine lv_iconst (v := 0) hx hb (dg ddX5_noiseWith 11 rfl) (by decide) ?_
      exact K22  0 1 m_thr _ _ hP hD hS _ (lv_sub hl [0, 1, 2] rfl) hf
    · have hf := it_t h6 hf
      exact K17  1 m_thr _ _ hP hD hS _ (lv_sub hl [0, 1, 2] rfl) hf
def f_X5_quietest_c115 (rec30 : Int32 → UInt32 → Int32 → Int32 → Option (Int32 × Int32)) (m_now : Nat → Int32) (a1 : Int32) (x3 : UInt32) (x4 : Int32) (x5 : UInt32) (x7 : Int32) (t0 : Int32) (m_thr : Int32) : Option (Int32 × Int32) := if x7 = 0 then (rec30 t0 x3 (x4 + 1) m_thr) else (rec30 t0 x5 (x4 + 1) m_thr)
def f_X5_quietest_c102 (rec30 : Int32 → UInt32 → Int32 → Int32 → Option (Int32 × Int32)) (m_now : Nat → Int32) (a1 : Int32) (x2 : Int32) (x3 : UInt32) (x4 : Int32) (x5 : UInt32) (t0 : Int32) (m_thr : Int32) : Option (Int32 × Int32) := if t0 = 0 then (f_X5_quietest_c115 rec30 m_now a1 x3 x4 x5 t0 x2 m_thr) else (f_X5_quietest_c115 rec30 m_now a1 x3 x4 x5 t0 x4 m_thr)
def f_X5_quietest_c97 (rec30 : Int32 → UInt32 → Int32 → Int32 → Option (Int32 × Int32)) (m_now : Nat → Int32) (a1 : Int32) (x2 : Int32) (x3 : UInt32) (x4 : Int32) (x5 : UInt32) (m_thr : Int32) : Option (Int32 × Int32) := f_X5_quietest_c102 rec30 m_now a1 x2 x3 x4 x5 1 m_thr
def f_X5_quietest_c101 (rec30 : Int32 → UInt32 → Int32 → Int32 → Option (Int32 × Int32)) (m_now : Nat → Int32) (a1 : Int32) (x2 : Int32) (x3 : UInt32) (x4 : Int32) (x5 : UInt32) (m_thr : Int32) : Option (Int32 × Int32) := f_X5_quietest_c102 rec30 m_now a1 x2 x3 x4 x5 0 m_thr
def f_X5_quietest_c78 (rec30 : Int32 → UInt32 → Int32 → Int32 → Option (Int32 × Int32)) (m_now : Nat → Int32) (a1 : Int32) (x2 : Int32) (x3 : UInt32) (x4 : Int32) (x5 : UInt32) (t0 : Int32) (m_thr : Int32) : Option (Int32 × Int32) := if t0 = 0 then (f_X5_quietest_c101 rec30 m_now a1 x2 x3 x4 x5 m_thr) else (if x2 = (-1) then (f_X5_quietest_c97 rec30 m_now a1 x2 x3 x4 x5 m_thr) else (if 0 ≤ (Op.cmpValue (FP.fcmp x5 x3) .g) then (f_X5_quietest_c101 rec30 m_now a1 x2 x3 x4 x5 m_thr) else (f_X5_quietest_c97 rec30 m_now a1 x2 x3 x4 x5 m_thr)))
def f_X5_quietest_c77 (rec30 : Int32 → UInt32 → Int32 → Int32 → Option (Int32 × Int32)) (m_now : Nat → Int32) (a1 : Int32) (x2 : Int32) (x3 : UInt32) (x4 : Int32) (x5 : UInt32) (m_thr : Int32) : Option (Int32 × Int32) := f_X5_quietest_c78 rec30 m_now a1 x2 x3 x4 x5 0 m_thr
def f_X5_quietest_c30  (m_now : Nat → Int32) (a1 : Int32) : Nat → Int32 → UInt32 → Int32 → Int32 → Option (Int32 × Int32)
  | 0, _, _, _, _ => none
  | n + 1, x2, x3, x4, m_thr => if 8 ≤ x4 then (if x2 = (-1) then (ob (f_X5_fails m_thr 2 1) fun r7 => (if r7.1 = 0 then (some (x2, r7.2)) else (some (0, r7.2)))) else (ob (f_X5_fails m_thr 2 0) fun r4 => (if r4.1 = 0 then (some (x2, r4.2)) else (some (0, r4.2))))) else (ob (f_X5_ownOf m_now a1) fun r10 => (ob (f_X5_noiseBy m_now x4 r10) fun r12 => (ob (f_X5_ofPitch m_now x4 3) fun r14 => (if r14 = (-1) then (ob (f_X5_limitOf m_now x4) fun r17 => (if 0 < (Op.cmpValue (FP.fcmp r12 r17) .g) then (f_X5_quietest_c77 (f_X5_quietest_c30 m_now a1 n) m_now a1 x2 x3 x4 r12 m_thr) else (f_X5_quietest_c78 (f_X5_quietest_c30 m_now a1 n) m_now a1 x2 x3 x4 r12 1 m_thr))) else (f_X5_quietest_c77 (f_X5_quietest_c30 m_now a1 n) m_now a1 x2 x3 x4 r12 m_thr)))))
def f_X5_quietest_c15  (m_now : Nat → Int32) (a1 : Int32) (t0 : Int32) (t1 : Int32) (m_thr : Int32) : Option (Int32 × Int32) := ob (f_X5_fails m_thr t1 t0) fun r2 => (if r2.1 = 0 then (f_X5_quietest_c30 m_now a1 4096 (-1) FP.fconst0 0 r2.2) else (some (0, r2.2)))
def f_X5_quietest (m_thr : Int32) (m_now : Nat → Int32) (a1 : Int32) : Option (Int32 × Int32) := ob (f_X5_isBusker m_now a1) fun r2 => (if r2 = 0 then (f_X5_quietest_c15 m_now a1 1 1 m_thr) else (f_X5_quietest_c15 m_now a1 0 1 m_thr))
set_option maxHeartbeats 4000000 in
set_option maxRecDepth 100000 in
theorem c_X5_quietest (l : Launch) (D : va_G) (cy : Nat → ClassId) (q : Nat → Nat) (m_thr : Int32) (m_kept : Int32) (m_rea : Int32) (m_det : Int32) (m_isv : Int32) (m_iit : Int32) (m_len : Int32) (m_at : Int32) (m_err : Int32) (m_wro : Int32) (m_cmd : Int32) (m_to1 : Int32) (m_to2 : Int32) (m_now : Nat → Int32) (m_sav : Nat → Int32) (m_ahe : Nat → Int32) (m_bef : Nat → Int32) (m_hst : Nat → Nat → Int32) (m_noi : Nat → UInt32) (m_own : Nat → UInt32) (m_inp : Nat → Int32) (a1 : Int32) (sz : Nat) {res : Int32 × Int32} (hf : f_X5_quietest m_thr m_now a1 = some res) : Met l yX5_quietest (.code yX5_quietest cX5_quietest 8 (some .int) :: lw_all) { frames := 5, cells := 0, slots := 0, locals := 99 } (va_Pc [.ref (q 0), .int a1] (sW D cy (wX5 q cy m_thr m_kept m_rea m_det m_isv m_iit m_len m_at m_err m_wro m_cmd m_to1 m_to2 m_now m_sav m_ahe m_bef m_hst m_noi m_own m_inp) sz)) (qI D (wX5 q cy res.2 m_kept m_rea m_det m_isv m_iit m_len m_at m_err m_wro m_cmd m_to1 m_to2 m_now m_sav m_ahe m_bef m_hst m_noi m_own m_inp) res.1 (va_A (wX5 q cy m_thr m_kept m_rea m_det m_isv m_iit m_len m_at m_err m_wro m_cmd m_to1 m_to2 m_now m_sav m_ahe m_bef m_hst m_noi m_own m_inp) sz)) 0 0 (va_A (wX5 q cy m_thr m_kept m_rea m_det m_isv m_iit m_len m_at m_err m_wro m_cmd m_to1 m_to2 m_now m_sav m_ahe m_bef m_hst m_noi m_own m_inp) sz) := by
  refine mk_rw (Qc := qI D (wX5 q cy res.2 m_kept m_rea m_det m_isv m_iit m_len m_at m_err m_wro m_cmd m_to1 m_to2 m_now m_sav m_ahe m_bef m_hst m_noi m_own m_inp) res.1) (Rc := RX5) (by decide +kernel) rfl (Nat.le_of_ble_eq_true rfl) ?_
  intro p e s m args below meth c ls A CX hml hr hlk hK hN hP hD hS hA hl
  have hx := CX.1
  have hb := CX.2.1
  have hRMX5_fails : (⟨1, 0, 0, 12⟩ : Room).frames + 1 ≤ (⟨5, 0, 0, 99⟩ : Room).frames ∧ 8 + (3 + 11) + (⟨1, 0, 0, 12⟩ : Room).locals ≤ (⟨5, 0, 0, 99⟩ : Room).locals := ⟨Nat.le_of_ble_eq_true rfl, Nat.le_of_ble_eq_true rfl⟩
  have hRMX5_isBusker : (⟨2, 0, 0, 34⟩ : Room).frames + 1 ≤ (⟨5, 0, 0, 99⟩ : Room).frames ∧ 8 + (2 + 11) + (⟨2, 0, 0, 34⟩ : Room).locals ≤ (⟨5, 0, 0, 99⟩ : Room).locals := ⟨Nat.le_of_ble_eq_true rfl, Nat.le_of_ble_eq_true rfl⟩
  have hRMX5_limitOf : (⟨2, 0, 0, 40⟩ : Room).frames + 1 ≤ (⟨5, 0, 0, 99⟩ : Room).frames ∧ 8 + (2 + 11) + (⟨2, 0, 0, 40⟩ : Room).locals ≤ (⟨5, 0, 0, 99⟩ : Room).locals := ⟨Nat.le_of_ble_eq_true rfl, Nat.le_of_ble_eq_true rfl⟩
  have hRMX5_noiseBy : (⟨4, 0, 0, 77⟩ : Room).frames + 1 ≤ (⟨5, 0, 0, 99⟩ : Room).frames ∧ 8 + (3 + 11) + (⟨4, 0, 0, 77⟩ : Room).locals ≤ (⟨5, 0, 0, 99⟩ : Room).locals := ⟨Nat.le_of_ble_eq_true rfl, Nat.le_of_ble_eq_true rfl⟩
  have hRMX5_ofPitch : (⟨1, 0, 0, 12⟩ : Room).frames + 1 ≤ (⟨5, 0, 0, 99⟩ : Room).frames ∧ 8 + (3 + 11) + (⟨1, 0, 0, 12⟩ : Room).locals ≤ (⟨5, 0, 0, 99⟩ : Room).locals := ⟨Nat.le_of_ble_eq_true rfl, Nat.le_of_ble_eq_true rfl⟩
  have hRMX5_ownOf : (⟨2, 0, 0, 34⟩ : Room).frames + 1 ≤ (⟨5, 0, 0, 99⟩ : Room).frames ∧ 8 + (3 + 11) + (⟨2, 0, 0, 34⟩ : Room).locals ≤ (⟨5, 0, 0, 99⟩ : Room).locals := ⟨Nat.le_of_ble_eq_true rfl, Nat.le_of_ble_eq_true rfl⟩
  have hl0 := hl
  have K115 : ∀ (rec30 : Int32 → UInt32 → Int32 → Int32 → Option (Int32 × Int32)) (hrec30 : ∀ (x2 : Int32) (x3 : UInt32) (x4 : Int32) (m_thr : Int32) (H : Heap) (locs : List Loc) (hP : va_P D vwCl (wX5 q cy m_thr m_kept m_rea m_det m_isv m_iit m_len m_at m_err m_wro m_cmd m_to1 m_to2 m_now m_sav m_ahe m_bef m_hst m_noi m_own m_inp) H) (hD : va_D A (wX5 q cy m_thr m_kept m_rea m_det m_isv m_iit m_len m_at m_err m_wro m_cmd m_to1 m_to2 m_now m_sav m_ahe m_bef m_hst m_noi m_own m_inp)) (hS : va_S A s.heap H locs) (ls : Array Slot) (hl : lv_has ls 8 [(0, .ref (q 0)), (1, .int a1), (2, .int x2), (3, .float x3), (4, .int x4)]) (hf : rec30 x2 x3 x4 m_thr = some res), W p l e ⟨5, 0, 0, 99⟩ s m args below meth c H locs 0 0 (MQ below (qI D (wX5 q cy res.2 m_kept m_rea m_det m_isv m_iit m_len m_at m_err m_wro m_cmd m_to1 m_to2 m_now m_sav m_ahe m_bef m_hst m_noi m_own m_inp) res.1 A) args s 0 0 A) (F0 m 30 ls [])), ∀ (x3 : UInt32) (x4 : Int32) (x5 : UInt32) (x7 : Int32) (t0 : Int32) (m_thr : Int32) (H : Heap) (locs : List Loc) (hP : va_P D vwCl (wX5 q cy m_thr m_kept m_rea m_det m_isv m_iit m_len m_at m_err m_wro m_cmd m_to1 m_to2 m_now m_sav m_ahe m_bef m_hst m_noi m_own m_inp) H) (hD : va_D A (wX5 q cy m_thr m_kept m_rea m_det m_isv m_iit m_len m_at m_err m_wro m_cmd m_to1 m_to2 m_now m_sav m_ahe m_bef m_hst m_noi m_own m_inp)) (hS : va_S A s.heap H locs) (ls : Array Slot) (hl : lv_has ls 8 [(0, .ref (q 0)), (1, .int a1), (3, .float x3), (4, .int x4), (5, .float x5), (7, .int x7)]) (hf : f_X5_quietest_c115 rec30 m_now a1 x3 x4 x5 x7 t0 m_thr = some res), W p l e ⟨5, 0, 0, 99⟩ s m args below meth c H locs 0 0 (MQ below (qI D (wX5 q cy res.2 m_kept m_rea m_det m_isv m_iit m_len m_at m_err m_wro m_cmd m_to1 m_to2 m_now m_sav m_ahe m_bef m_hst m_noi m_own m_inp) res.1 A) args s 0 0 A) (F0 m 115 ls [.int t0]) := by
    intro rec30 hrec30 x3 x4 x5 x7 t0 m_thr H locs hP hD hS ls hl hf
    refine lv_istore_n (lv' := [(2, .int t0), (0, .ref (q 0)), (1, .int a1), (3, .float x3), (4, .int x4), (5, .float x5), (7, .int x7)]) hx hb (dg ddX5_quietest 63 rfl) rfl hl (by decide) rfl (fun ls hl => ?_)
    refine lv_iload hx hb (dg ddX5_quietest 64 rfl) (lv_at hl 6 rfl) ?_
    refine lv_if_eq (tgt := 126) hx hb (dg ddX5_quietest 65 rfl) (by decide) (fun h1 => ?_) (fun h1 => ?_)
    · have hf := it_t h1 hf
      refine lv_fload_n hx hb (dg ddX5_quietest 68 rfl) rfl (lv_at hl 3 rfl) ?_
      refine lv_fstore_n (lv' := [(3, .float x3), (2, .int t0), (0, .ref (q 0)), (1, .int a1), (4, .int x4), (5, .float x5), (7, .int x7)]) hx hb (dg ddX5_quietest 69 rfl) rfl hl (by decide) rfl (fun ls hl => ?_)
      refine lv_iinc (v := x4 + 1) (lv' := [(4, .int (x4 + 1)), (3, .float x3), (2, .int t0), (0, .ref (q 0)), (1, .int a1), (5, .float x5), (7, .int x7)]) hx hb (dg ddX5_quietest 70 rfl) hl (k := 4) rfl (congrArg (HAdd.hAdd x4) (by decide)) (by decide) rfl (fun ls hl => ?_)
      refine lv_goto (tgt := 30) hx hb (dg ddX5_quietest 71 rfl) (by decide) ?_
      exact hrec30 t0 x3 (x4 + 1) m_thr _ _ hP hD hS _ (lv_sub hl [3, 4, 2, 1, 0] rfl) hf
    · have hf := it_f h1 hf
      refine lv_fload hx hb (dg ddX5_quietest 66 rfl) (lv_at hl 5 rfl) ?_
      refine lv_goto (tgt := 127) hx hb (dg ddX5_quietest 67 rfl) (by decide) ?_
      refine lv_fstore_n (lv' := [(3, .float x5), (2, .int t0), (0, .ref (q 0)), (1, .int a1), (4, .int x4), (5, .float x5), (7, .int x7)]) hx hb (dg ddX5_quietest 69 rfl) rfl hl (by decide) rfl (fun ls hl => ?_)
      refine lv_iinc (v := x4 + 1) (lv' := [(4, .int (x4 + 1)), (3, .float x5), (2, .int t0), (0, .ref (q 0)), (1, .int a1), (5, .float x5), (7, .int x7)]) hx hb (dg ddX5_quietest 70 rfl) hl (k := 4) rfl (congrArg (HAdd.hAdd x4) (by decide)) (by decide) rfl (fun ls hl => ?_)
      refine lv_goto (tgt := 30) hx hb (dg ddX5_quietest 71 rfl) (by decide) ?_
      exact hrec30 t0 x5 (x4 + 1) m_thr _ _ hP hD hS _ (lv_sub hl [3, 4, 2, 1, 0] rfl) hf
  have K102 : ∀ (rec30 : Int32 → UInt32 → Int32 → Int32 → Option (Int32 × Int32)) (hrec30 : ∀ (x2 : Int32) (x3 : UInt32) (x4 : Int32) (m_thr : Int32) (H : Heap) (locs : List Loc) (hP : va_P D vwCl (wX5 q cy m_thr m_kept m_rea m_det m_isv m_iit m_len m_at m_err m_wro m_cmd m_to1 m_to2 m_now m_sav m_ahe m_bef m_hst m_noi m_own m_inp) H) (hD : va_D A (wX5 q cy m_thr m_kept m_rea m_det m_isv m_iit m_len m_at m_err m_wro m_cmd m_to1 m_to2 m_now m_sav m_ahe m_bef m_hst m_noi m_own m_inp)) (hS : va_S A s.heap H locs) (ls : Array Slot) (hl : lv_has ls 8 [(0, .ref (q 0)), (1, .int a1), (2, .int x2), (3, .float x3), (4, .int x4)]) (hf : rec30 x2 x3 x4 m_thr = some res), W p l e ⟨5, 0, 0, 99⟩ s m args below meth c H locs 0 0 (MQ below (qI D (wX5 q cy res.2 m_kept m_rea m_det m_isv m_iit m_len m_at m_err m_wro m_cmd m_to1 m_to2 m_now m_sav m_ahe m_bef m_hst m_noi m_own m_inp) res.1 A) args s 0 0 A) (F0 m 30 ls [])), ∀ (x2 : Int32) (x3 : UInt32) (x4 : Int32) (x5 : UInt32) (t0 : Int32) (m_thr : Int32) (H : Heap) (locs : List Loc) (hP : va_P D vwCl (wX5 q cy m_thr m_kept m_rea m_det m_isv m_iit m_len m_at m_err m_wro m_cmd m_to1 m_to2 m_now m_sav m_ahe m_bef m_hst m_noi m_own m_inp) H) (hD : va_D A (wX5 q cy m_thr m_kept m_rea m_det m_isv m_iit m_len m_at m_err m_wro m_cmd m_to1 m_to2 m_now m_sav m_ahe m_bef m_hst m_noi m_own m_inp)) (hS : va_S A s.heap H locs) (ls : Array Slot) (hl : lv_has ls 8 [(0, .ref (q 0)), (1, .int a1), (2, .int x2), (3, .float x3), (4, .int x4), (5, .float x5)]) (hf : f_X5_quietest_c102 rec30 m_now a1 x2 x3 x4 x5 t0 m_thr = some res), W p l e ⟨5, 0, 0, 99⟩ s m args below meth c H locs 0 0 (MQ below (qI D (wX5 q cy res.2 m_kept m_rea m_det m_isv m_iit m_len m_at m_err m_wro m_cmd m_to1 m_to2 m_now m_sav m_ahe m_bef m_hst m_noi m_own m_inp) res.1 A) args s 0 0 A) (F0 m 102 ls [.int t0]) := by
    intro rec30 hrec30 x2 x3 x4 x5 t0 m_thr H locs hP hD hS ls hl hf
    refine lv_istore (lv' := [(7, .int t0), (0, .ref (q 0)), (1, .int a1), (2, .int x2), (3, .float x3), (4, .int x4), (5, .float x5)]) hx hb (dg ddX5_quietest 57 rfl) hl (by decide) rfl (fun ls hl => ?_)
    refine lv_iload hx hb (dg ddX5_quietest 58 rfl) (lv_at hl 0 rfl) ?_
    refine lv_if_eq (tgt := 114) hx hb (dg ddX5_quietest 59 rfl) (by decide) (fun h1 => ?_) (fun h1 => ?_)
    · have hf := it_t h1 hf
      refine lv_iload_n hx hb (dg ddX5_quietest 62 rfl) rfl (lv_at hl 3 rfl) ?_
      exact K115 rec30 hrec30  x3 x4 x5 t0 x2 m_thr _ _ hP hD hS _ (lv_sub hl [1, 2, 4, 5, 6, 0] rfl) hf
    · have hf := it_f h1 hf
      refine lv_iload hx hb (dg ddX5_quietest 60 rfl) (lv_at hl 5 rfl) ?_
      refine lv_goto (tgt := 115) hx hb (dg ddX5_quietest 61 rfl) (by decide) ?_
      exact K115 rec30 hrec30  x3 x4 x5 t0 x4 m_thr _ _ hP hD hS _ (lv_sub hl [1, 2, 4, 5, 6, 0] rfl) hf
  have K97 : ∀ (rec30 : Int32 → UInt32 → Int32 → Int32 → Option (Int32 × Int32)) (hrec30 : ∀ (x2 : Int32) (x3 : UInt32) (x4 : Int32) (m_thr : Int32) (H : Heap) (locs : List Loc) (hP : va_P D vwCl (wX5 q cy m_thr m_kept m_rea m_det m_isv m_iit m_len m_at m_err m_wro m_cmd m_to1 m_to2 m_now m_sav m_ahe m_bef m_hst m_noi m_own m_inp) H) (hD : va_D A (wX5 q cy m_thr m_kept m_rea m_det m_isv m_iit m_len m_at m_err m_wro m_cmd m_to1 m_to2 m_now m_sav m_ahe m_bef m_hst m_noi m_own m_inp)) (hS : va_S A s.heap H locs) (ls : Array Slot) (hl : lv_has ls 8 [(0, .ref (q 0)), (1, .int a1), (2, .int x2), (3, .float x3), (4, .int x4)]) (hf : rec30 x2 x3 x4 m_thr = some res), W p l e ⟨5, 0, 0, 99⟩ s m args below meth c H locs 0 0 (MQ below (qI D (wX5 q cy res.2 m_kept m_rea m_det m_isv m_iit m_len m_at m_err m_wro m_cmd m_to1 m_to2 m_now m_sav m_ahe m_bef m_hst m_noi m_own m_inp) res.1 A) args s 0 0 A) (F0 m 30 ls [])), ∀ (x2 : Int32) (x3 : UInt32) (x4 : Int32) (x5 : UInt32) (m_thr : Int32) (H : Heap) (locs : List Loc) (hP : va_P D vwCl (wX5 q cy m_thr m_kept m_rea m_det m_isv m_iit m_len m_at m_err m_wro m_cmd m_to1 m_to2 m_now m_sav m_ahe m_bef m_hst m_noi m_own m_inp) H) (hD : va_D A (wX5 q cy m_thr m_kept m_rea m_det m_isv m_iit m_len m_at m_err m_wro m_cmd m_to1 m_to2 m_now m_sav m_ahe m_bef m_hst m_noi m_own m_inp)) (hS : va_S A s.heap H locs) (ls : Array Slot) (hl : lv_has ls 8 [(0, .ref (q 0)), (1, .int a1), (2, .int x2), (3, .float x3), (4, .int x4), (5, .float x5)]) (hf : f_X5_quietest_c97 rec30 m_now a1 x2 x3 x4 x5 m_thr = some res), W p l e ⟨5, 0, 0, 99⟩ s m args below meth c H locs 0 0 (MQ below (qI D (wX5 q cy res.2 m_kept m_rea m_det m_isv m_iit m_len m_at m_err m_wro m_cmd m_to1 m_to2 m_now m_sav m_ahe m_bef m_hst m_noi m_own m_inp) res.1 A) args s 0 0 A) (F0 m 97 ls []) := by
    intro rec30 hrec30 x2 x3 x4 x5 m_thr H locs hP hD hS ls hl hf
    refine lv_iconst (v := 1) hx hb (dg ddX5_quietest 54 rfl) (by decide) ?_
    refine lv_goto (tgt := 102) hx hb (dg ddX5_quietest 55 rfl) (by decide) ?_
    exact K102 rec30 hrec30  x2 x3 x4 x5 1 m_thr _ _ hP hD hS _ (lv_sub hl [0, 1, 2, 3, 4, 5] rfl) hf
  have K101 : ∀ (rec30 : Int32 → UInt32 → Int32 → Int32 → Option (Int32 × Int32)) (hrec30 : ∀ (x2 : Int32) (x3 : UInt32) (x4 : Int32) (m_thr : Int32) (H : Heap) (locs : List Loc) (hP : va_P D vwCl (wX5 q cy m_thr m_kept m_rea m_det m_isv m_iit m_len m_at m_err m_wro m_cmd m_to1 m_to2 m_now m_sav m_ahe m_bef m_hst m_noi m_own m_inp) H) (hD : va_D A (wX5 q cy m_thr m_kept m_rea m_det m_isv m_iit m_len m_at m_err m_wro m_cmd m_to1 m_to2 m_now m_sav m_ahe m_bef m_hst m_noi m_own m_inp)) (hS : va_S A s.heap H locs) (ls : Array Slot) (hl : lv_has ls 8 [(0, .ref (q 0)), (1, .int a1), (2, .int x2), (3, .float x3), (4, .int x4)]) (hf : rec30 x2 x3 x4 m_thr = some res), W p l e ⟨5, 0, 0, 99⟩ s m args below meth c H locs 0 0 (MQ below (qI D (wX5 q cy res.2 m_kept m_rea m_det m_isv m_iit m_len m_at m_err m_wro m_cmd m_to1 m_to2 m_now m_sav m_ahe m_bef m_hst m_noi m_own m_inp) res.1 A) args s 0 0 A) (F0 m 30 ls [])), ∀ (x2 : Int32) (x3 : UInt32) (x4 : Int32) (x5 : UInt32) (m_thr : Int32) (H : Heap) (locs : List Loc) (hP : va_P D vwCl (wX5 q cy m_thr m_kept m_rea m_det m_isv m_iit m_len m_at m_err m_wro m_cmd m_to1 m_to2 m_now m_sav m_ahe m_bef m_hst m_noi m_own m_inp) H) (hD : va_D A (wX5 q cy m_thr m_kept m_rea m_det m_isv m_iit m_len m_at m_err m_wro m_cmd m_to1 m_to2 m_now m_sav m_ahe m_bef m_hst m_noi m_own m_inp)) (hS : va_S A s.heap H locs) (ls : Array Slot) (hl : lv_has ls 8 [(0, .ref (q 0)), (1, .int a1), (2, .int x2), (3, .float x3), (4, .int x4), (5, .float x5)]) (hf : f_X5_quietest_c101 rec30 m_now a1 x2 x3 x4 x5 m_thr = some res), W p l e ⟨5, 0, 0, 99⟩ s m args below meth c H locs 0 0 (MQ below (qI D (wX5 q cy res.2 m_kept m_rea m_det m_isv m_iit m_len m_at m_err m_wro m_cmd m_to1 m_to2 m_now m_sav m_ahe m_bef m_hst m_noi m_own m_inp) res.1 A) args s 0 0 A) (F0 m 101 ls []) := by
    intro rec30 hrec30 x2 x3 x4 x5 m_thr H locs hP hD hS ls hl hf
    refine lv_iconst (v := 0) hx hb (dg ddX5_quietest 56 rfl) (by decide) ?_
    exact K102 rec30 hrec30  x2 x3 x4 x5 0 m_thr _ _ hP hD hS _ (lv_sub hl [0, 1, 2, 3, 4, 5] rfl) hf
  have K78 : ∀ (rec30 : Int32 → UInt32 → Int32 → Int32 → Option (Int32 × Int32)) (hrec30 : ∀ (x2 : Int32) (x3 : UInt32) (x4 : Int32) (m_thr : Int32) (H : Heap) (locs : List Loc) (hP : va_P D vwCl (wX5 q cy m_thr m_kept m_rea m_det m_isv m_iit m_len m_at m_err m_wro m_cmd m_to1 m_to2 m_now m_sav m_ahe m_bef m_hst m_noi m_own m_inp) H) (hD : va_D A (wX5 q cy m_thr m_kept m_rea m_det m_isv m_iit m_len m_at m_err m_wro m_cmd m_to1 m_to2 m_now m_sav m_ahe m_bef m_hst m_noi m_own m_inp)) (hS : va_S A s.heap H locs) (ls : Array Slot) (hl : lv_has ls 8 [(0, .ref (q 0)), (1, .int a1), (2, .int x2), (3, .float x3), (4, .int x4)]) (hf : rec30 x2 x3 x4 m_thr = some res), W p l e ⟨5, 0, 0, 99⟩ s m args below meth c H locs 0 0 (MQ below (qI D (wX5 q cy res.2 m_kept m_rea m_det m_isv m_iit m_len m_at m_err m_wro m_cmd m_to1 m_to2 m_now m_sav m_ahe m_bef m_hst m_noi m_own m_inp) res.1 A) args s 0 0 A) (F0 m 30 ls [])), ∀ (x2 : Int32) (x3 : UInt32) (x4 : Int32) (x5 : UInt32) (t0 : Int32) (m_thr : Int32) (H : Heap) (locs : List Loc) (hP : va_P D vwCl (wX5 q cy m_thr m_kept m_rea m_det m_isv m_iit m_len m_at m_err m_wro m_cmd m_to1 m_to2 m_now m_sav m_ahe m_bef m_hst m_noi m_own m_inp) H) (hD : va_D A (wX5 q cy m_thr m_kept m_rea m_det m_isv m_iit m_len m_at m_err m_wro m_cmd m_to1 m_to2 m_now m_sav m_ahe m_bef m_hst m_noi m_own m_inp)) (hS : va_S A s.heap H locs) (ls : Array Slot) (hl : lv_has ls 8 [(0, .ref (q 0)), (1, .int a1), (2, .int x2), (3, .float x3), (4, .int x4), (5, .float x5)]) (hf : f_X5_quietest_c78 rec30 m_now a1 x2 x3 x4 x5 t0 m_thr = some res), W p l e ⟨5, 0, 0, 99⟩ s m args below meth c H locs 0 0 (MQ below (qI D (wX5 q cy res.2 m_kept m_rea m_det m_isv m_iit m_len m_at m_err m_wro m_cmd m_to1 m_to2 m_now m_sav m_ahe m_bef m_hst m_noi m_own m_inp) res.1 A) args s 0 0 A) (F0 m 78 ls [.int t0]) := by
    intro rec30 hrec30 x2 x3 x4 x5 t0 m_thr H locs hP hD hS ls hl hf
    refine lv_istore (lv' := [(6, .int t0), (0, .ref (q 0)), (1, .int a1), (2, .int x2), (3, .float x3), (4, .int x4), (5, .float x5)]) hx hb (dg ddX5_quietest 44 rfl) hl (by decide) rfl (fun ls hl => ?_)
    refine lv_iload hx hb (dg ddX5_quietest 45 rfl) (lv_at hl 0 rfl) ?_
    refine lv_if_eq (tgt := 101) hx hb (dg ddX5_quietest 46 rfl) (by decide) (fun h1 => ?_) (fun h1 => ?_)
    · have hf := it_t h1 hf
      exact K101 rec30 hrec30  x2 x3 x4 x5 m_thr _ _ hP hD hS _ (lv_sub hl [1, 2, 3, 4, 5, 6] rfl) hf
    · have hf := it_f h1 hf
      refine lv_iload_n hx hb (dg ddX5_quietest 47 rfl) rfl (lv_at hl 3 rfl) ?_
      refine lv_iconst (v := (-1)) hx hb (dg ddX5_quietest 48 rfl) (by decide) ?_
      refine lv_icmp_eq (tgt := 97) hx hb (dg ddX5_quietest 49 rfl) (by decide) (fun h2 => ?_) (fun h2 => ?_)
      · have hf := it_t h2 hf
        exact K97 rec30 hrec30  x2 x3 x4 x5 m_thr _ _ hP hD hS _ (lv_sub hl [1, 2, 3, 4, 5, 6] rfl) hf
      · have hf := it_f h2 hf
        refine lv_fload hx hb (dg ddX5_quietest 50 rfl) (lv_at hl 6 rfl) ?_
        refine lv_fload_n hx hb (dg ddX5_quietest 51 rfl) rfl (lv_at hl 4 rfl) ?_
        refine lv_fcmp hx hb (dg ddX5_quietest 52 rfl) ?_
        refine lv_if_ge (tgt := 101) hx hb (dg ddX5_quietest 53 rfl) (by decide) (fun h3 => ?_) (fun h3 => ?_)
        · have hf := it_t h3 hf
          exact K101 rec30 hrec30  x2 x3 x4 x5 m_thr _ _ hP hD hS _ (lv_sub hl [1, 2, 3, 4, 5, 6] rfl) hf
        · have hf := it_f h3 hf
          exact K97 rec30 hrec30  x2 x3 x4 x5 m_thr _ _ hP hD hS _ (lv_sub hl [1, 2, 3, 4, 5, 6] rfl) hf
  have K77 : ∀ (rec30 : Int32 → UInt32 → Int32 → Int32 → Option (Int32 × Int32)) (hrec30 : ∀ (x2 : Int32) (x3 : UInt32) (x4 : Int32) (m_thr : Int32) (H : Heap) (locs : List Loc) (hP : va_P D vwCl (wX5 q cy m_thr m_kept m_rea m_det m_isv m_iit m_len m_at m_err m_wro m_cmd m_to1 m_to2 m_now m_sav m_ahe m_bef m_hst m_noi m_own m_inp) H) (hD : va_D A (wX5 q cy m_thr m_kept m_rea m_det m_isv m_iit m_len m_at m_err m_wro m_cmd m_to1 m_to2 m_now m_sav m_ahe m_bef m_hst m_noi m_own m_inp)) (hS : va_S A s.heap H locs) (ls : Array Slot) (hl : lv_has ls 8 [(0, .ref (q 0)), (1, .int a1), (2, .int x2), (3, .float x3), (4, .int x4)]) (hf : rec30 x2 x3 x4 m_thr = some res), W p l e ⟨5, 0, 0, 99⟩ s m args below meth c H locs 0 0 (MQ below (qI D (wX5 q cy res.2 m_kept m_rea m_det m_isv m_iit m_len m_at m_err m_wro m_cmd m_to1 m_to2 m_now m_sav m_ahe m_bef m_hst m_noi m_own m_inp) res.1 A) args s 0 0 A) (F0 m 30 ls [])), ∀ (x2 : Int32) (x3 : UInt32) (x4 : Int32) (x5 : UInt32) (m_thr : Int32) (H : Heap) (locs : List Loc) (hP : va_P D vwCl (wX5 q cy m_thr m_kept m_rea m_det m_isv m_iit m_len m_at m_err m_wro m_cmd m_to1 m_to2 m_now m_sav m_ahe m_bef m_hst m_noi m_own m_inp) H) (hD : va_D A (wX5 q cy m_thr m_kept m_rea m_det m_isv m_iit m_len m_at m_err m_wro m_cmd m_to1 m_to2 m_now m_sav m_ahe m_bef m_hst m_noi m_own m_inp)) (hS : va_S A s.heap H locs) (ls : Array Slot) (hl : lv_has ls 8 [(0, .ref (q 0)), (1, .int a1), (2, .int x2), (3, .float x3), (4, .int x4), (5, .float x5)]) (hf : f_X5_quietest_c77 rec30 m_now a1 x2 x3 x4 x5 m_thr = some res), W p l e ⟨5, 0, 0, 99⟩ s m args below meth c H locs 0 0 (MQ below (qI D (wX5 q cy res.2 m_kept m_rea m_det m_isv m_iit m_len m_at m_err m_wro m_cmd m_to1 m_to2 m_now m_sav m_ahe m_bef m_hst m_noi m_own m_inp) res.1 A) args s 0 0 A) (F0 m 77 ls []) := by
    intro rec30 hrec30 x2 x3 x4 x5 m_thr H locs hP hD hS ls hl hf
    refine lv_iconst (v := 0) hx hb (dg ddX5_quietest 43 rfl) (by decide) ?_
    exact K78 rec30 hrec30  x2 x3 x4 x5 0 m_thr _ _ hP hD hS _ (lv_sub hl [0, 1, 2, 3, 4, 5] rfl) hf
  have K30 : ∀ (n : Nat), ∀ (x2 : Int32) (x3 : UInt32) (x4 : Int32) (m_thr : Int32) (H : Heap) (locs : List Loc) (hP : va_P D vwCl (wX5 q cy m_thr m_kept m_rea m_det m_isv m_iit m_len m_at m_err m_wro m_cmd m_to1 m_to2 m_now m_sav m_ahe m_bef m_hst m_noi m_own m_inp) H) (hD : va_D A (wX5 q cy m_thr m_kept m_rea m_det m_isv m_iit m_len m_at m_err m_wro m_cmd m_to1 m_to2 m_now m_sav m_ahe m_bef m_hst m_noi m_own m_inp)) (hS : va_S A s.heap H locs) (ls : Array Slot) (hl : lv_has ls 8 [(0, .ref (q 0)), (1, .int a1), (2, .int x2), (3, .float x3), (4, .int x4)]) (hf : f_X5_quietest_c30 m_now a1 n x2 x3 x4 m_thr = some res), W p l e ⟨5, 0, 0, 99⟩ s m args below meth c H locs 0 0 (MQ below (qI D (wX5 q cy res.2 m_kept m_rea m_det m_isv m_iit m_len m_at m_err m_wro m_cmd m_to1 m_to2 m_now m_sav m_ahe m_bef m_hst m_noi m_own m_inp) res.1 A) args s 0 0 A) (F0 m 30 ls []) := by
    intro n
    induction n with
    | zero => intro x2 x3 x4 m_thr H locs hP hD hS ls hl hf; cases (show none = some res from hf)
    | succ n ih =>
    intro x2 x3 x4 m_thr H locs hP hD hS ls hl hf
    refine lv_iload hx hb (dg ddX5_quietest 19 rfl) (lv_at hl 4 rfl) ?_
    refine lv_bipush (v := 8) hx hb (dg ddX5_quietest 20 rfl) (by decide) ?_
    refine lv_icmp_ge (tgt := 134) hx hb (dg ddX5_quietest 21 rfl) (by decide) (fun h1 => ?_) (fun h1 => ?_)
    · have hf := it_t h1 hf
      refine lv_aload_n hx hb (dg ddX5_quietest 72 rfl) rfl (lv_at hl 0 rfl) ?_
      refine lv_iconst (v := 2) hx hb (dg ddX5_quietest 73 rfl) (by decide) ?_
      refine lv_iload_n hx hb (dg ddX5_quietest 74 rfl) rfl (lv_at hl 2 rfl) ?_
      refine lv_iconst (v := (-1)) hx hb (dg ddX5_quietest 75 rfl) (by decide) ?_
      refine lv_icmp_ne (tgt := 145) hx hb (dg ddX5_quietest 76 rfl) (by decide) (fun h2 => ?_) (fun h2 => ?_)
      · have hf := it_f h2 hf
        refine lv_iconst (v := 0) hx hb (dg ddX5_quietest 79 rfl) (by decide) ?_
        obtain ⟨r4, e3, hf⟩ := ob_some hf
        refine crw_vi CX hml (As := [.int 2, .int 0]) (rest := []) (c_X5_fails l D cy q m_thr m_kept m_rea m_det m_isv m_iit m_len m_at m_err m_wro m_cmd m_to1 m_to2 m_now m_sav m_ahe m_bef m_hst m_noi m_own m_inp 2 0 _ e3) lk_RX5_81 rfl rfl hRMX5_fails hP hD hS hA hK hN 0 rfl rfl rfl hl.1 rfl (Nat.le_of_ble_eq_true rfl) ⟨Nat.le_of_ble_eq_true rfl, Nat.le_of_ble_eq_true rfl⟩ (dg ddX5_quietest 80 rfl) (fun H locs hP hD hS => ?_)
        refine lv_if_eq (tgt := 156) hx hb (dg ddX5_quietest 81 rfl) (by decide) (fun h5 => ?_) (fun h5 => ?_)
        · have hf := it_t h5 hf
          refine lv_iload_n hx hb (dg ddX5_quietest 84 rfl) rfl (lv_at hl 2 rfl) ?_
          cases hf
          exact e_wi CX hr hlk rfl hP hD hS (dg ddX5_quietest 85 rfl)
        · have hf := it_f h5 hf
          refine lv_iconst (v := 0) hx hb (dg ddX5_quietest 82 rfl) (by decide) ?_
          refine lv_goto (tgt := 157) hx hb (dg ddX5_quietest 83 rfl) (by decide) ?_
          cases hf
          exact e_wi CX hr hlk rfl hP hD hS (dg ddX5_quietest 85 rfl)
      · have hf := it_t h2 hf
        refine lv_iconst (v := 1) hx hb (dg ddX5_quietest 77 rfl) (by decide) ?_
        refine lv_goto (tgt := 146) hx hb (dg ddX5_quietest 78 rfl) (by decide) ?_
        obtain ⟨r7, e6, hf⟩ := ob_some hf
        refine crw_vi CX hml (As := [.int 2, .int 1]) (rest := []) (c_X5_fails l D cy q m_thr m_kept m_rea m_det m_isv m_iit m_len m_at m_err m_wro m_cmd m_to1 m_to2 m_now m_sav m_ahe m_bef m_hst m_noi m_own m_inp 2 1 _ e6) lk_RX5_81 rfl rfl hRMX5_fails hP hD hS hA hK hN 0 rfl rfl rfl hl.1 rfl (Nat.le_of_ble_eq_true rfl) ⟨Nat.le_of_ble_eq_true rfl, Nat.le_of_ble_eq_true rfl⟩ (dg ddX5_quietest 80 rfl) (fun H locs hP hD hS => ?_)
        refine lv_if_eq (tgt := 156) hx hb (dg ddX5_quietest 81 rfl) (by decide) (fun h8 => ?_) (fun h8 => ?_)
        · have hf := it_t h8 hf
          refine lv_iload_n hx hb (dg ddX5_quietest 84 rfl) rfl (lv_at hl 2 rfl) ?_
          cases hf
          exact e_wi CX hr hlk rfl hP hD hS (dg ddX5_quietest 85 rfl)
        · have hf := it_f h8 hf
          refine lv_iconst (v := 0) hx hb (dg ddX5_quietest 82 rfl) (by decide) ?_
          refine lv_goto (tgt := 157) hx hb (dg ddX5_quietest 83 rfl) (by decide) ?_
          cases hf
          exact e_wi CX hr hlk rfl hP hD hS (dg ddX5_quietest 85 rfl)
    · have hf := it_f h1 hf
      refine lv_aload_n hx hb (dg ddX5_quietest 22 rfl) rfl (lv_at hl 0 rfl) ?_
      refine lv_iload hx hb (dg ddX5_quietest 23 rfl) (lv_at hl 4 rfl) ?_
      refine lv_aload_n hx hb (dg ddX5_quietest 24 rfl) rfl (lv_at hl 0 rfl) ?_
      refine lv_iload_n hx hb (dg ddX5_quietest 25 rfl) rfl (lv_at hl 1 rfl) ?_
      obtain ⟨r10, e9, hf⟩ := ob_some hf
      refine cro_vf CX hml (As := [.int a1]) (rest := [.int x4, .ref (q 0)]) (c_X5_ownOf l D cy q m_thr m_kept m_rea m_det m_isv m_iit m_len m_at m_err m_wro m_cmd m_to1 m_to2 m_now m_sav m_ahe m_bef m_hst m_noi m_own m_inp a1 e9) lk_RX5_145 rfl rfl hRMX5_ownOf hP hK hN 0 rfl rfl rfl hl.1 rfl (Nat.le_of_ble_eq_true rfl) ⟨Nat.le_of_ble_eq_true rfl, Nat.le_of_ble_eq_true rfl⟩ (dg ddX5_quietest 26 rfl) ?_
      obtain ⟨r12, e11, hf⟩ := ob_some hf
      refine cro_vf CX hml (As := [.int x4, .float r10]) (rest := []) (c_X5_noiseBy l D cy q m_thr m_kept m_rea m_det m_isv m_iit m_len m_at m_err m_wro m_cmd m_to1 m_to2 m_now m_sav m_ahe m_bef m_hst m_noi m_own m_inp x4 r10 e11) lk_RX5_152 rfl rfl hRMX5_noiseBy hP hK hN 0 rfl rfl rfl hl.1 rfl (Nat.le_of_ble_eq_true rfl) ⟨Nat.le_of_ble_eq_true rfl, Nat.le_of_ble_eq_true rfl⟩ (dg ddX5_quietest 27 rfl) ?_
      refine lv_fstore (lv' := [(5, .float r12), (0, .ref (q 0)), (1, .int a1), (2, .int x2), (3, .float x3), (4, .int x4)]) hx hb (dg ddX5_quietest 28 rfl) hl (by decide) rfl (fun ls hl => ?_)
      refine lv_aload_n hx hb (dg ddX5_quietest 29 rfl) rfl (lv_at hl 1 rfl) ?_
      refine lv_iload hx hb (dg ddX5_quietest 30 rfl) (lv_at hl 5 rfl) ?_
      refine lv_iconst (v := 3) hx hb (dg ddX5_quietest 31 rfl) (by decide) ?_
      obtain ⟨r14, e13, hf⟩ := ob_some hf
      refine cro_vi CX hml (As := [.int x4, .int 3]) (rest := []) (c_X5_ofPitch l D cy q m_thr m_kept m_rea m_det m_isv m_iit m_len m_at m_err m_wro m_cmd m_to1 m_to2 m_now m_sav m_ahe m_bef m_hst m_noi m_own m_inp x4 3 e13) lk_RX5_88 rfl rfl hRMX5_ofPitch hP hK hN 0 rfl rfl rfl hl.1 rfl (Nat.le_of_ble_eq_true rfl) ⟨Nat.le_of_ble_eq_true rfl, Nat.le_of_ble_eq_true rfl⟩ (dg ddX5_quietest 32 rfl) ?_
      refine lv_iconst (v := (-1)) hx hb (dg ddX5_quietest 33 rfl) (by decide) ?_
      refine lv_icmp_ne (tgt := 77) hx hb (dg ddX5_quietest 34 rfl) (by decide) (fun h15 => ?_) (fun h15 => ?_)
      · have hf := it_f h15 hf
        exact K77 (f_X5_quietest_c30 m_now a1 n) ih  x2 x3 x4 r12 m_thr _ _ hP hD hS _ (lv_sub hl [1, 2, 3, 4, 5, 0] rfl) hf
      · have hf := it_t h15 hf
        refine lv_fload hx hb (dg ddX5_quietest 35 rfl) (lv_at hl 0 rfl) ?_
        refine lv_aload_n hx hb (dg ddX5_quietest 36 rfl) rfl (lv_at hl 1 rfl) ?_
        refine lv_iload hx hb (dg ddX5_quietest 37 rfl) (lv_at hl 5 rfl) ?_
        obtain ⟨r17, e16, hf⟩ := ob_some hf
        refine cro_vf CX hml (As := [.int x4]) (rest := [.float r12]) (c_X5_limitOf l D cy q m_thr m_kept m_rea m_det m_isv m_iit m_len m_at m_err m_wro m_cmd m_to1 m_to2 m_now m_sav m_ahe m_bef m_hst m_noi m_own m_inp x4 e16) lk_RX5_159 rfl rfl hRMX5_limitOf hP hK hN 0 rfl rfl rfl hl.1 rfl (Nat.le_of_ble_eq_true rfl) ⟨Nat.le_of_ble_eq_true rfl, Nat.le_of_ble_eq_true rfl⟩ (dg ddX5_quietest 38 rfl) ?_
        refine lv_fcmp hx hb (dg ddX5_quietest 39 rfl) ?_
        refine lv_if_gt (tgt := 77) hx hb (dg ddX5_quietest 40 rfl) (by decide) (fun h18 => ?_) (fun h18 => ?_)
        · have hf := it_t h18 hf
          exact K77 (f_X5_quietest_c30 m_now a1 n) ih  x2 x3 x4 r12 m_thr _ _ hP hD hS _ (lv_sub hl [1, 2, 3, 4, 5, 0] rfl) hf
        · have hf := it_f h18 hf
          refine lv_iconst (v := 1) hx hb (dg ddX5_quietest 41 rfl) (by decide) ?_
          refine lv_goto (tgt := 78) hx hb (dg ddX5_quietest 42 rfl) (by decide) ?_
          exact K78 (f_X5_quietest_c30 m_now a1 n) ih  x2 x3 x4 r12 1 m_thr _ _ hP hD hS _ (lv_sub hl [1, 2, 3, 4, 5, 0] rfl) hf
  have K15 : ∀ (t0 : Int32) (t1 : Int32) (m_thr : Int32) (H : Heap) (locs : List Loc) (hP : va_P D vwCl (wX5 q cy m_thr m_kept m_rea m_det m_isv m_iit m_len m_at m_err m_wro m_cmd m_to1 m_to2 m_now m_sav m_ahe m_bef m_hst m_noi m_own m_inp) H) (hD : va_D A (wX5 q cy m_thr m_kept m_rea m_det m_isv m_iit m_len m_at m_err m_wro m_cmd m_to1 m_to2 m_now m_sav m_ahe m_bef m_hst m_noi m_own m_inp)) (hS : va_S A s.heap H locs) (ls : Array Slot) (hl : lv_has ls 8 [(0, .ref (q 0)), (1, .int a1)]) (hf : f_X5_quietest_c15 m_now a1 t0 t1 m_thr = some res), W p l e ⟨5, 0, 0, 99⟩ s m args below meth c H locs 0 0 (MQ below (qI D (wX5 q cy res.2 m_kept m_rea m_det m_isv m_iit m_len m_at m_err m_wro m_cmd m_to1 m_to2 m_now m_sav m_ahe m_bef m_hst m_noi m_own m_inp) res.1 A) args s 0 0 A) (F0 m 15 ls [.int t0, .int t1, .ref (q 0)]) := by
    intro t0 t1 m_thr H locs hP hD hS ls hl hf
    obtain ⟨r2, e1, hf⟩ := ob_some hf
    refine crw_vi CX hml (As := [.int t1, .int t0]) (rest := []) (c_X5_fails l D cy q m_thr m_kept m_rea m_det m_isv m_iit m_len m_at m_err m_wro m_cmd m_to1 m_to2 m_now m_sav m_ahe m_bef m_hst m_noi m_own m_inp t1 t0 _ e1) lk_RX5_81 rfl rfl hRMX5_fails hP hD hS hA hK hN 0 rfl rfl rfl hl.1 rfl (Nat.le_of_ble_eq_true rfl) ⟨Nat.le_of_ble_eq_true rfl, Nat.le_of_ble_eq_true rfl⟩ (dg ddX5_quietest 9 rfl) (fun H locs hP hD hS => ?_)
    refine lv_if_eq (tgt := 23) hx hb (dg ddX5_quietest 10 rfl) (by decide) (fun h3 => ?_) (fun h3 => ?_)
    · have hf := it_t h3 hf
      refine lv_iconst (v := (-1)) hx hb (dg ddX5_quietest 13 rfl) (by decide) ?_
      refine lv_istore_n (lv' := [(2, .int (-1)), (0, .ref (q 0)), (1, .int a1)]) hx hb (dg ddX5_quietest 14 rfl) rfl hl (by decide) rfl (fun ls hl => ?_)
      refine lv_fconst0 hx hb (dg ddX5_quietest 15 rfl) ?_
      refine lv_fstore_n (lv' := [(3, .float FP.fconst0), (2, .int (-1)), (0, .ref (q 0)), (1, .int a1)]) hx hb (dg ddX5_quietest 16 rfl) rfl hl (by decide) rfl (fun ls hl => ?_)
      refine lv_iconst (v := 0) hx hb (dg ddX5_quietest 17 rfl) (by decide) ?_
      refine lv_istore (lv' := [(4, .int 0), (3, .float FP.fconst0), (2, .int (-1)), (0, .ref (q 0)), (1, .int a1)]) hx hb (dg ddX5_quietest 18 rfl) hl (by decide) rfl (fun ls hl => ?_)
      exact K30 4096 (-1) FP.fconst0 0 r2.2 _ _ hP hD hS _ (lv_sub hl [3, 4, 2, 1, 0] rfl) hf
    · have hf := it_f h3 hf
      refine lv_iconst (v := 0) hx hb (dg ddX5_quietest 11 rfl) (by decide) ?_
      cases hf
      exact e_wi CX hr hlk rfl hP hD hS (dg ddX5_quietest 12 rfl)
  refine lv_aload_n hx hb (dg ddX5_quietest 0 rfl) rfl (lv_at hl 0 rfl) ?_
  refine lv_iconst (v := 1) hx hb (dg ddX5_quietest 1 rfl) (by decide) ?_
  refine lv_aload_n hx hb (dg ddX5_quietest 2 rfl) rfl (lv_at hl 0 rfl) ?_
  refine lv_iload_n hx hb (dg ddX5_quietest 3 rfl) rfl (lv_at hl 1 rfl) ?_
  obtain ⟨r2, e1, hf⟩ := ob_some hf
  refine cro_vi CX hml (As := [.int a1]) (rest := [.int 1, .ref (q 0)]) (c_X5_isBusker l D cy q m_thr m_kept m_rea m_det m_isv m_iit m_len m_at m_err m_wro m_cmd m_to1 m_to2 m_now m_sav m_ahe m_bef m_hst m_noi m_own m_inp a1 e1) lk_RX5_114 rfl rfl hRMX5_isBusker hP hK hN 0 rfl rfl rfl hl.1 rfl (Nat.le_of_ble_eq_true rfl) ⟨Nat.le_of_ble_eq_true rfl, Nat.le_of_ble_eq_true rfl⟩ (dg ddX5_quietest 4 rfl) ?_
  refine lv_if_ne (tgt := 14) hx hb (dg ddX5_quietest 5 rfl) (by decide) (fun h3 => ?_) (fun h3 => ?_)
  · have hf := it_f h3 hf
    refine lv_iconst (v := 0) hx hb (dg ddX5_quietest 8 rfl) (by decide) ?_
    exact K15  0 1 m_thr _ _ hP hD hS _ (lv_sub hl [0, 1] rfl) hf
  · have hf := it_t h3 hf
    refine lv_iconst (v := 1) hx hb (dg ddX5_quietest 6 rfl) (by decide) ?_
    refine lv_goto (tgt := 15) hx hb (dg ddX5_quietest 7 rfl) (by decide) ?_
    exact K15  1 1 m_thr _ _ hP hD hS _ (lv_sub hl [0, 1] rfl) hf
def f_X5_below_c14  (m_now : Nat → Int32) (a1 : Int32) (t0 : Int32) (t1 : Int32) (m_thr : Int32) : Option (UInt32 × Int32) := ob (f_X5_fails m_thr t1 t0) fun r2 => (if r2.1 = 0 then (ob (f_X5_limitOf m_now a1) fun r5 => (ob (f_X5_noiseAt m_now a1) fun r7 => (og (n32 (FP.fsub r5 r7)) (some ((FP.fsub r5 r7), r2.2))))) else (some (FP.fconst0, r2.2)))
def f_X5_below (m_thr : Int32) (m_now : Nat → Int32) (a1 : Int32) : Option (UInt32 × Int32) := ob (f_X5_isPitch a1) fun r2 => (if r2 = 0 then (f_X5_below_c14 m_now a1 1 1 m_thr) else (f_X5_below_c14 m_now a1 0 1 m_thr))
set_option maxHeartbeats 4000000 in
set_option maxRecDepth 100000 in
theorem c_X5_below (l : Launch) (D : va_G) (cy : Nat → ClassId) (q : Nat → Nat) (m_thr : Int32) (m_kept : Int32) (m_rea : Int32) (m_det : Int32) (m_isv : Int32) (m_iit : Int32) (m_len : Int32) (m_at : Int32) (m_err : Int32) (m_wro : Int32) (m_cmd : Int32) (m_to1 : Int32) (m_to2 : Int32) (m_now : Nat → Int32) (m_sav : Nat → Int32) (m_ahe : Nat → Int32) (m_bef : Nat → Int32) (m_hst : Nat → Nat → Int32) (m_noi : Nat → UInt32) (m_own : Nat → UInt32) (m_inp : Nat → Int32) (a1 : Int32) (sz : Nat) {res : UInt32 × Int32} (hf : f_X5_below m_thr m_now a1 = some res) : Met l yX5_below (.code yX5_below cX5_below 2 (some .float) :: lw_all) { frames := 6, cells := 0, slots := 0, locals := 120 } (va_Pc [.ref (q 0), .int a1] (sW D cy (wX5 q cy m_thr m_kept m_rea m_det m_isv m_iit m_len m_at m_err m_wro m_cmd m_to1 m_to2 m_now m_sav m_ahe m_bef m_hst m_noi m_own m_inp) sz)) (qF D (wX5 q cy res.2 m_kept m_rea m_det m_isv m_iit m_len m_at m_err m_wro m_cmd m_to1 m_to2 m_now m_sav m_ahe m_bef m_hst m_noi m_own m_inp) res.1 (va_A (wX5 q cy m_thr m_kept m_rea m_det m_isv m_iit m_len m_at m_err m_wro m_cmd m_to1 m_to2 m_now m_sav m_ahe m_bef m_hst m_noi m_own m_inp) sz)) 0 0 (va_A (wX5 q cy m_thr m_kept m_rea m_det m_isv m_iit m_len m_at m_err m_wro m_cmd m_to1 m_to2 m_now m_sav m_ahe m_bef m_hst m_noi m_own m_inp) sz) := by
  refine mk_rw (Qc := qF D (wX5 q cy res.2 m_kept m_rea m_det m_isv m_iit m_len m_at m_err m_wro m_cmd m_to1 m_to2 m_now m_sav m_ahe m_bef m_hst m_noi m_own m_inp) res.1) (Rc := RX5) (by decide +kernel) rfl (Nat.le_of_ble_eq_true rfl) ?_
  intro p e s m args below meth c ls A CX hml hr hlk hK hN hP hD hS hA hl
  have hx := CX.1
  have hb := CX.2.1
  have hRMX5_fails : (⟨1, 0, 0, 12⟩ : Room).frames + 1 ≤ (⟨6, 0, 0, 120⟩ : Room).frames ∧ 8 + (3 + 11) + (⟨1, 0, 0, 12⟩ : Room).locals ≤ (⟨6, 0, 0, 120⟩ : Room).locals := ⟨Nat.le_of_ble_eq_true rfl, Nat.le_of_ble_eq_true rfl⟩
  have hRMX5_isPitch : (⟨2, 0, 0, 34⟩ : Room).frames + 1 ≤ (⟨6, 0, 0, 120⟩ : Room).frames ∧ 8 + (1 + 11) + (⟨2, 0, 0, 34⟩ : Room).locals ≤ (⟨6, 0, 0, 120⟩ : Room).locals := ⟨Nat.le_of_ble_eq_true rfl, Nat.le_of_ble_eq_true rfl⟩
  have hRMX5_limitOf : (⟨2, 0, 0, 40⟩ : Room).frames + 1 ≤ (⟨6, 0, 0, 120⟩ : Room).frames ∧ 8 + (2 + 11) + (⟨2, 0, 0, 40⟩ : Room).locals ≤ (⟨6, 0, 0, 120⟩ : Room).locals := ⟨Nat.le_of_ble_eq_true rfl, Nat.le_of_ble_eq_true rfl⟩
  have hRMX5_noiseAt : (⟨5, 0, 0, 99⟩ : Room).frames + 1 ≤ (⟨6, 0, 0, 120⟩ : Room).frames ∧ 8 + (2 + 11) + (⟨5, 0, 0, 99⟩ : Room).locals ≤ (⟨6, 0, 0, 120⟩ : Room).locals := ⟨Nat.le_of_ble_eq_true rfl, Nat.le_of_ble_eq_true rfl⟩
  have hl0 := hl
  have K14 : ∀ (t0 : Int32) (t1 : Int32) (m_thr : Int32) (H : Heap) (locs : List Loc) (hP : va_P D vwCl (wX5 q cy m_thr m_kept m_rea m_det m_isv m_iit m_len m_at m_err m_wro m_cmd m_to1 m_to2 m_now m_sav m_ahe m_bef m_hst m_noi m_own m_inp) H) (hD : va_D A (wX5 q cy m_thr m_kept m_rea m_det m_isv m_iit m_len m_at m_err m_wro m_cmd m_to1 m_to2 m_now m_sav m_ahe m_bef m_hst m_noi m_own m_inp)) (hS : va_S A s.heap H locs) (ls : Array Slot) (hl : lv_has ls 2 [(0, .ref (q 0)), (1, .int a1)]) (hf : f_X5_below_c14 m_now a1 t0 t1 m_thr = some res), W p l e ⟨6, 0, 0, 120⟩ s m args below meth c H locs 0 0 (MQ below (qF D (wX5 q cy res.2 m_kept m_rea m_det m_isv m_iit m_len m_at m_err m_wro m_cmd m_to1 m_to2 m_now m_sav m_ahe m_bef m_hst m_noi m_own m_inp) res.1 A) args s 0 0 A) (F0 m 14 ls [.int t0, .int t1, .ref (q 0)]) := by
    intro t0 t1 m_thr H locs hP hD hS ls hl hf
    obtain ⟨r2, e1, hf⟩ := ob_some hf
    refine crw_vi CX hml (As := [.int t1, .int t0]) (rest := []) (c_X5_fails l D cy q m_thr m_kept m_rea m_det m_isv m_iit m_len m_at m_err m_wro m_cmd m_to1 m_to2 m_now m_sav m_ahe m_bef m_hst m_noi m_own m_inp t1 t0 _ e1) lk_RX5_81 rfl rfl hRMX5_fails hP hD hS hA hK hN 0 rfl rfl rfl hl.1 rfl (Nat.le_of_ble_eq_true rfl) ⟨Nat.le_of_ble_eq_true rfl, Nat.le_of_ble_eq_true rfl⟩ (dg ddX5_below 8 rfl) (fun H locs hP hD hS => ?_)
    refine lv_if_eq (tgt := 24) hx hb (dg ddX5_below 9 rfl) (by decide) (fun h3 => ?_) (fun h3 => ?_)
    · have hf := it_t h3 hf
      refine lv_aload_n hx hb (dg ddX5_below 12 rfl) rfl (lv_at hl 0 rfl) ?_
      refine lv_iload_n hx hb (dg ddX5_below 13 rfl) rfl (lv_at hl 1 rfl) ?_
      obtain ⟨r5, e4, hf⟩ := ob_some hf
      refine cro_vf CX hml (As := [.int a1]) (rest := []) (c_X5_limitOf l D cy q r2.2 m_kept m_rea m_det m_isv m_iit m_len m_at m_err m_wro m_cmd m_to1 m_to2 m_now m_sav m_ahe m_bef m_hst m_noi m_own m_inp a1 e4) lk_RX5_159 rfl rfl hRMX5_limitOf hP hK hN 0 rfl rfl rfl hl.1 rfl (Nat.le_of_ble_eq_true rfl) ⟨Nat.le_of_ble_eq_true rfl, Nat.le_of_ble_eq_true rfl⟩ (dg ddX5_below 14 rfl) ?_
      refine lv_aload_n hx hb (dg ddX5_below 15 rfl) rfl (lv_at hl 0 rfl) ?_
      refine lv_iload_n hx hb (dg ddX5_below 16 rfl) rfl (lv_at hl 1 rfl) ?_
      obtain ⟨r7, e6, hf⟩ := ob_some hf
      refine cro_vf CX hml (As := [.int a1]) (rest := [.float r5]) (c_X5_noiseAt l D cy q r2.2 m_kept m_rea m_det m_isv m_iit m_len m_at m_err m_wro m_cmd m_to1 m_to2 m_now m_sav m_ahe m_bef m_hst m_noi m_own m_inp a1 e6) lk_RX5_156 rfl rfl hRMX5_noiseAt hP hK hN 0 rfl rfl rfl hl.1 rfl (Nat.le_of_ble_eq_true rfl) ⟨Nat.le_of_ble_eq_true rfl, Nat.le_of_ble_eq_true rfl⟩ (dg ddX5_below 17 rfl) ?_
      obtain ⟨h8, hf⟩ := og_some hf
      refine lv_fsub hx hb (dg ddX5_below 18 rfl) (n32_in h8) ?_
      cases hf
      exact e_wf CX hr hlk rfl hP hD hS (dg ddX5_below 19 rfl)
    · have hf := it_f h3 hf
      refine lv_fconst0 hx hb (dg ddX5_below 10 rfl) ?_
      refine lv_goto (tgt := 35) hx hb (dg ddX5_below 11 rfl) (by decide) ?_
      cases hf
      exact e_wf CX hr hlk rfl hP hD hS (dg ddX5_below 19 rfl)
  refine lv_aload_n hx hb (dg ddX5_below 0 rfl) rfl (lv_at hl 0 rfl) ?_
  refine lv_iconst (v := 1) hx hb (dg ddX5_below 1 rfl) (by decide) ?_
  refine lv_iload_n hx hb (dg ddX5_below 2 rfl) rfl (lv_at hl 1 rfl) ?_
  obtain ⟨r2, e1, hf⟩ := ob_some hf
  refine cro_si CX hml (As := [.int a1]) (rest := [.int 1, .ref (q 0)]) (c_X5_isPitch l D cy a1 e1) lk_RX5_96 rfl rfl hRMX5_isPitch vaP_nil hK hN rfl hl.1 rfl (Nat.le_of_ble_eq_true rfl) ⟨Nat.le_of_ble_eq_true rfl, Nat.le_of_ble_eq_true rfl⟩ (dg ddX5_below 3 rfl) ?_
  refine lv_if_ne (tgt := 13) hx hb (dg ddX5_below 4 rfl) (by decide) (fun h3 => ?_) (fun h3 => ?_)
  · have hf := it_f h3 hf
    refine lv_iconst (v := 0) hx hb (dg ddX5_below 7 rfl) (by decide) ?_
    exact K14  0 1 m_thr _ _ hP hD hS _ (lv_sub hl [0, 1] rfl) hf
  · have hf := it_t h3 hf
    refine lv_iconst (v := 1) hx hb (dg ddX5_below 5 rfl) (by decide) ?_
    refine lv_goto (tgt := 14) hx hb (dg ddX5_below 6 rfl) (by decide) ?_
    exact K14  1 1 m_thr _ _ hP hD hS _ (lv_sub hl [0, 1] rfl) hf
def f_X5_loudest_c9  (m_now : Nat → Int32) : Nat → Int32 → Int32 → Int32 → Option (Int32 × Int32)
  | 0, _, _, _ => none
  | n + 1, x1, x2, m_thr => if 8 ≤ x2 then (some (x1, m_thr)) else (ob (f_X5_noiseAt m_now x2) fun r3 => (ob (f_X5_noiseAt m_now x1) fun r5 => (if (Op.cmpValue (FP.fcmp r3 r5) .l) ≤ 0 then (f_X5_loudest_c9 m_now n x1 (x2 + 1) m_thr) else (f_X5_loudest_c9 m_now n x2 (x2 + 1) m_thr))))
def f_X5_loudest (m_thr : Int32) (m_now : Nat → Int32) : Option (Int32 × Int32) := f_X5_loudest_c9 m_now 4096 0 1 0
set_option maxHeartbeats 4000000 in
set_option maxRecDepth 100000 in
theorem c_X5_loudest (l : Launch) (D : va_G) (cy : Nat → ClassId) (q : Nat → Nat) (m_thr : Int32) (m_kept : Int32) (m_rea : Int32) (m_det : Int32) (m_isv : Int32) (m_iit : Int32) (m_len : Int32) (m_at : Int32) (m_err : Int32) (m_wro : Int32) (m_cmd : Int32) (m_to1 : Int32) (m_to2 : Int32) (m_now : Nat → Int32) (m_sav : Nat → Int32) (m_ahe : Nat → Int32) (m_bef : Nat → Int32) (m_hst : Nat → Nat → Int32) (m_noi : Nat → UInt32) (m_own : Nat → UInt32) (m_inp : Nat → Int32) (sz : Nat) {res : Int32 × Int32} (hf : f_X5_loudest m_thr m_now = some res) : Met l yX5_loudest (.code yX5_loudest cX5_loudest 3 (some .int) :: lw_all) { frames := 6, cells := 0, slots := 0, locals := 120 } (va_Pc [.ref (q 0)] (sW D cy (wX5 q cy m_thr m_kept m_rea m_det m_isv m_iit m_len m_at m_err m_wro m_cmd m_to1 m_to2 m_now m_sav m_ahe m_bef m_hst m_noi m_own m_inp) sz)) (qI D (wX5 q cy res.2 m_kept m_rea m_det m_isv m_iit m_len m_at m_err m_wro m_cmd m_to1 m_to2 m_now m_sav m_ahe m_bef m_hst m_noi m_own m_inp) res.1 (va_A (wX5 q cy m_thr m_kept m_rea m_det m_isv m_iit m_len m_at m_err m_wro m_cmd m_to1 m_to2 m_now m_sav m_ahe m_bef m_hst m_noi m_own m_inp) sz)) 0 0 (va_A (wX5 q cy m_thr m_kept m_rea m_det m_isv m_iit m_len m_at m_err m_wro m_cmd m_to1 m_to2 m_now m_sav m_ahe m_bef m_hst m_noi m_own m_inp) sz) := by
  refine mk_rw (Qc := qI D (wX5 q cy res.2 m_kept m_rea m_det m_isv m_iit m_len m_at m_err m_wro m_cmd m_to1 m_to2 m_now m_sav m_ahe m_bef m_hst m_noi m_own m_inp) res.1) (Rc := RX5) (by decide +kernel) rfl (Nat.le_of_ble_eq_true rfl) ?_
  intro p e s m args below meth c ls A CX hml hr hlk hK hN hP hD hS hA hl
  have hx := CX.1
  have hb := CX.2.1
  have hRMX5_noiseAt : (⟨5, 0, 0, 99⟩ : Room).frames + 1 ≤ (⟨6, 0, 0, 120⟩ : Room).frames ∧ 8 + (2 + 11) + (⟨5, 0, 0, 99⟩ : Room).locals ≤ (⟨6, 0, 0, 120⟩ : Room).locals := ⟨Nat.le_of_ble_eq_true rfl, Nat.le_of_ble_eq_true rfl⟩
  have hl0 := hl
  have K9 : ∀ (n : Nat), ∀ (x1 : Int32) (x2 : Int32) (m_thr : Int32) (H : Heap) (locs : List Loc) (hP : va_P D vwCl (wX5 q cy m_thr m_kept m_rea m_det m_isv m_iit m_len m_at m_err m_wro m_cmd m_to1 m_to2 m_now m_sav m_ahe m_bef m_hst m_noi m_own m_inp) H) (hD : va_D A (wX5 q cy m_thr m_kept m_rea m_det m_isv m_iit m_len m_at m_err m_wro m_cmd m_to1 m_to2 m_now m_sav m_ahe m_bef m_hst m_noi m_own m_inp)) (hS : va_S A s.heap H locs) (ls : Array Slot) (hl : lv_has ls 3 [(0, .ref (q 0)), (1, .int x1), (2, .int x2)]) (hf : f_X5_loudest_c9 m_now n x1 x2 m_thr = some res), W p l e ⟨6, 0, 0, 120⟩ s m args below meth c H locs 0 0 (MQ below (qI D (wX5 q cy res.2 m_kept m_rea m_det m_isv m_iit m_len m_at m_err m_wro m_cmd m_to1 m_to2 m_now m_sav m_ahe m_bef m_hst m_noi m_own m_inp) res.1 A) args s 0 0 A) (F0 m 9 ls []) := by
    intro n
    induction n with
    | zero => intro x1 x2 m_thr H locs hP hD hS ls hl hf; cases (show none = some res from hf)
    | succ n ih =>
    intro x1 x2 m_thr H locs hP hD hS ls hl hf
    refine lv_iload_n hx hb (dg ddX5_loudest 7 rfl) rfl (lv_at hl 2 rfl) ?_
    refine lv_bipush (v := 8) hx hb (dg ddX5_loudest 8 rfl) (by decide) ?_
    refine lv_icmp_ge (tgt := 41) hx hb (dg ddX5_loudest 9 rfl) (by decide) (fun h1 => ?_) (fun h1 => ?_)
    · have hf := it_t h1 hf
      refine lv_iload_n hx hb (dg ddX5_loudest 24 rfl) rfl (lv_at hl 1 rfl) ?_
      cases hf
      exact e_wi CX hr hlk rfl hP hD hS (dg ddX5_loudest 25 rfl)
    · have hf := it_f h1 hf
      refine lv_aload_n hx hb (dg ddX5_loudest 10 rfl) rfl (lv_at hl 0 rfl) ?_
      refine lv_iload_n hx hb (dg ddX5_loudest 11 rfl) rfl (lv_at hl 2 rfl) ?_
      obtain ⟨r3, e2, hf⟩ := ob_some hf
      refine cro_vf CX hml (As := [.int x2]) (rest := []) (c_X5_noiseAt l D cy q m_thr m_kept m_rea m_det m_isv m_iit m_len m_at m_err m_wro m_cmd m_to1 m_to2 m_now m_sav m_ahe m_bef m_hst m_noi m_own m_inp x2 e2) lk_RX5_156 rfl rfl hRMX5_noiseAt hP hK hN 0 rfl rfl rfl hl.1 rfl (Nat.le_of_ble_eq_true rfl) ⟨Nat.le_of_ble_eq_true rfl, Nat.le_of_ble_eq_true rfl⟩ (dg ddX5_loudest 12 rfl) ?_
      refine lv_aload_n hx hb (dg ddX5_loudest 13 rfl) rfl (lv_at hl 0 rfl) ?_
      refine lv_iload_n hx hb (dg ddX5_loudest 14 rfl) rfl (lv_at hl 1 rfl) ?_
      obtain ⟨r5, e4, hf⟩ := ob_some hf
      refine cro_vf CX hml (As := [.int x1]) (rest := [.float r3]) (c_X5_noiseAt l D cy q m_thr m_kept m_rea m_det m_isv m_iit m_len m_at m_err m_wro m_cmd m_to1 m_to2 m_now m_sav m_ahe m_bef m_hst m_noi m_own m_inp x1 e4) lk_RX5_156 rfl rfl hRMX5_noiseAt hP hK hN 0 rfl rfl rfl hl.1 rfl (Nat.le_of_ble_eq_true rfl) ⟨Nat.le_of_ble_eq_true rfl, Nat.le_of_ble_eq_true rfl⟩ (dg ddX5_loudest 15 rfl) ?_
      refine lv_fcmp hx hb (dg ddX5_loudest 16 rfl) ?_
      refine lv_if_le (tgt := 33) hx hb (dg ddX5_loudest 17 rfl) (by decide) (fun h6 => ?_) (fun h6 => ?_)
      · have hf := it_t h6 hf
        refine lv_iload_n hx hb (dg ddX5_loudest 20 rfl) rfl (lv_at hl 1 rfl) ?_
        refine lv_istore_n (lv' := [(1, .int x1), (0, .ref (q 0)), (2, .int x2)]) hx hb (dg ddX5_loudest 21 rfl) rfl hl (by decide) rfl (fun ls hl => ?_)
        refine lv_iinc (v := x2 + 1) (lv' := [(2, .int (x2 + 1)), (1, .int x1), (0, .ref (q 0))]) hx hb (dg ddX5_loudest 22 rfl) hl (k := 2) rfl (congrArg (HAdd.hAdd x2) (by decide)) (by decide) rfl (fun ls hl => ?_)
        refine lv_goto (tgt := 9) hx hb (dg ddX5_loudest 23 rfl) (by decide) ?_
        exact ih x1 (x2 + 1) m_thr _ _ hP hD hS _ (lv_sub hl [2, 1, 0] rfl) hf
      · have hf := it_f h6 hf
        refine lv_iload_n hx hb (dg ddX5_loudest 18 rfl) rfl (lv_at hl 2 rfl) ?_
        refine lv_goto (tgt := 34) hx hb (dg ddX5_loudest 19 rfl) (by decide) ?_
        refine lv_istore_n (lv' := [(1, .int x2), (0, .ref (q 0)), (2, .int x2)]) hx hb (dg ddX5_loudest 21 rfl) rfl hl (by decide) rfl (fun ls hl => ?_)
        refine lv_iinc (v := x2 + 1) (lv' := [(2, .int (x2 + 1)), (1, .int x2), (0, .ref (q 0))]) hx hb (dg ddX5_loudest 22 rfl) hl (k := 2) rfl (congrArg (HAdd.hAdd x2) (by decide)) (by decide) rfl (fun ls hl => ?_)
        refine lv_goto (tgt := 9) hx hb (dg ddX5_loudest 23 rfl) (by decide) ?_
        exact ih x2 (x2 + 1) m_thr _ _ hP hD hS _ (lv_sub hl [2, 1, 0] rfl) hf
  refine lv_aload_n hx hb (dg ddX5_loudest 0 rfl) rfl (lv_at hl 0 rfl) ?_
  refine lv_iconst (v := 0) hx hb (dg ddX5_loudest 1 rfl) (by decide) ?_
  refine pf_RX5_53 CX hK hP hD hS 0 rfl (dg ddX5_loudest 2 rfl) (Nat.le_of_ble_eq_true rfl) (fun H locs hP hD hS => ?_)
  have hP : va_P D vwCl (wX5 q cy 0 m_kept m_rea m_det m_isv m_iit m_len m_at m_err m_wro m_cmd m_to1 m_to2 m_now m_sav m_ahe m_bef m_hst m_noi m_own m_inp) H := hP
  have hD : va_D A (wX5 q cy 0 m_kept m_rea m_det m_isv m_iit m_len m_at m_err m_wro m_cmd m_to1 m_to2 m_now m_sav m_ahe m_bef m_hst m_noi m_own m_inp) := hD
  refine lv_iconst (v := 0) hx hb (dg ddX5_loudest 3 rfl) (by decide) ?_
  refine lv_istore_n (lv' := [(1, .int 0), (0, .ref (q 0))]) hx hb (dg ddX5_loudest 4 rfl) rfl hl (by decide) rfl (fun ls hl => ?_)
  refine lv_iconst (v := 1) hx hb (dg ddX5_loudest 5 rfl) (by decide) ?_
  refine lv_istore_n (lv' := [(2, .int 1), (1, .int 0), (0, .ref (q 0))]) hx hb (dg ddX5_loudest 6 rfl) rfl hl (by decide) rfl (fun ls hl => ?_)
  exact K9 4096 0 1 0 _ _ hP hD hS _ (lv_sub hl [2, 1, 0] rfl) hf
def f_X5_strings_c44  (m_iit : Int32) (a1 : Int32) (x2 : UInt32) (t0 : Int32) (t2 : Int32) (m_thr : Int32) (m_kept : Int32) (m_rea : Int32) (m_det : Int32) (m_now : Nat → Int32) (m_hst : Nat → Nat → Int32) : Option (Int32 × Int32 × Int32 × Int32 × Int32 × (Nat → Int32) × (Nat → Nat → Int32)) := ob (f_X5_refuse m_rea m_det t0 8 (FP.f2i x2)) fun r2 => (ob (f_X5_fails m_thr t2 r2.1) fun r4 => (if r4.1 = 0 then (ob (f_X5_change m_kept m_iit m_now m_hst) fun r7 => (og (n32 (FP.fsub x2 FP.fconst2)) (ob (f_X5_putFloat m_now a1 2 (FP.fsub x2 FP.fconst2)) fun r10 => (ob (f_X5_putFloat r10 a1 3 FP.fconst0) fun r12 => (ob (f_X5_of r12 a1 7) fun r14 => (ob (f_X5_put r12 a1 7 (r14 + 1)) fun r16 => (og (inb 6 112) (og (inb 6 112) (ob (f_X5_of (upd r16 (6 : Int32).toNatClampNeg ((r16 (6 : Int32).toNatClampNeg) + 1)) a1 2) fun r20 => (some (r20, r4.2, r7.1, r2.2.1, r2.2.2, (upd r16 (6 : Int32).toNatClampNeg ((r16 (6 : Int32).toNatClampNeg) + 1)), r7.2))))))))))) else (some (0, r4.2, m_kept, r2.2.1, r2.2.2, m_now, m_hst))))
def f_X5_strings_c15  (m_iit : Int32) (a1 : Int32) (t0 : Int32) (t1 : Int32) (m_thr : Int32) (m_kept : Int32) (m_rea : Int32) (m_det : Int32) (m_now : Nat → Int32) (m_hst : Nat → Nat → Int32) : Option (Int32 × Int32 × Int32 × Int32 × Int32 × (Nat → Int32) × (Nat → Nat → Int32)) := ob (f_X5_fails m_thr t1 t0) fun r2 => (if r2.1 = 0 then (ob (f_X5_floatOf m_now a1 2) fun r5 => (if 0 ≤ (Op.cmpValue (FP.fcmp r5 FP.fconst2) .g) then (f_X5_strings_c44 m_iit a1 r5 0 2 r2.2 m_kept m_rea m_det m_now m_hst) else (f_X5_strings_c44 m_iit a1 r5 1 2 r2.2 m_kept m_rea m_det m_now m_hst))) else (some (0, r2.2, m_kept, m_rea, m_det, m_now, m_hst)))
def f_X5_strings (m_thr : Int32) (m_kept : Int32) (m_rea : Int32) (m_det : Int32) (m_iit : Int32) (m_now : Nat → Int32) (m_hst : Nat → Nat → Int32) (a1 : Int32) : Option (Int32 × Int32 × Int32 × Int32 × Int32 × (Nat → Int32) × (Nat → Nat → Int32)) := ob (f_X5_isBusker m_now a1) fun r2 => (if r2 = 0 then (f_X5_strings_c15 m_iit a1 1 1 m_thr m_kept m_rea m_det m_now m_hst) else (f_X5_strings_c15 m_iit a1 0 1 m_thr m_kept m_rea m_det m_now m_hst))
set_option maxHeartbeats 4000000 in
set_option maxRecDepth 100000 in
theorem c_X5_strings (l : Launch) (D : va_G) (cy : Nat → ClassId) (q : Nat → Nat) (m_thr : Int32) (m_kept : Int32) (m_rea : Int32) (m_det : Int32) (m_isv : Int32) (m_iit : Int32) (m_len : Int32) (m_at : Int32) (m_err : Int32) (m_wro : Int32) (m_cmd : Int32) (m_to1 : Int32) (m_to2 : Int32) (m_now : Nat → Int32) (m_sav : Nat → Int32) (m_ahe : Nat → Int32) (m_bef : Nat → Int32) (m_hst : Nat → Nat → Int32) (m_noi : Nat → UInt32) (m_own : Nat → UInt32) (m_inp : Nat → Int32) (a1 : Int32) (sz : Nat) {res : Int32 × Int32 × Int32 × Int32 × Int32 × (Nat → Int32) × (Nat → Nat → Int32)} (hf : f_X5_strings m_thr m_kept m_rea m_det m_iit m_now m_hst a1 = some res) : Met l yX5_strings (.code yX5_strings cX5_strings 3 (some .int) :: lw_all) { frames := 4, cells := 0, slots := 0, locals := 83 } (va_Pc [.ref (q 0), .int a1] (sW D cy (wX5 q cy m_thr m_kept m_rea m_det m_isv m_iit m_len m_at m_err m_wro m_cmd m_to1 m_to2 m_now m_sav m_ahe m_bef m_hst m_noi m_own m_inp) sz)) (qI D (wX5 q cy res.2.1 res.2.2.1 res.2.2.2.1 res.2.2.2.2.1 m_isv m_iit m_len m_at m_err m_wro m_cmd m_to1 m_to2 res.2.2.2.2.2.1 m_sav m_ahe m_bef res.2.2.2.2.2.2 m_noi m_own m_inp) res.1 (va_A (wX5 q cy m_thr m_kept m_rea m_det m_isv m_iit m_len m_at m_err m_wro m_cmd m_to1 m_to2 m_now m_sav m_ahe m_bef m_hst m_noi m_own m_inp) sz)) 0 0 (va_A (wX5 q cy m_thr m_kept m_rea m_det m_isv m_iit m_len m_at m_err m_wro m_cmd m_to1 m_to2 m_now m_sav m_ahe m_bef m_hst m_noi m_own m_inp) sz) := by
  refine mk_rw (Qc := qI D (wX5 q cy res.2.1 res.2.2.1 res.2.2.2.1 res.2.2.2.2.1 m_isv m_iit m_len m_at m_err m_wro m_cmd m_to1 m_to2 res.2.2.2.2.2.1 m_sav m_ahe m_bef res.2.2.2.2.2.2 m_noi m_own m_inp) res.1) (Rc := RX5) (by decide +kernel) rfl (Nat.le_of_ble_eq_true rfl) ?_
  intro p e s m args below meth c ls A CX hml hr hlk hK hN hP hD hS hA hl
  have hx := CX.1
  have hb := CX.2.1
  have hRMX5_change : (⟨3, 0, 0, 56⟩ : Room).frames + 1 ≤ (⟨4, 0, 0, 83⟩ : Room).frames ∧ 8 + (1 + 11) + (⟨3, 0, 0, 56⟩ : Room).locals ≤ (⟨4, 0, 0, 83⟩ : Room).locals := ⟨Nat.le_of_ble_eq_true rfl, Nat.le_of_ble_eq_true rfl⟩
  have hRMX5_fails : (⟨1, 0, 0, 12⟩ : Room).frames + 1 ≤ (⟨4, 0, 0, 83⟩ : Room).frames ∧ 8 + (3 + 11) + (⟨1, 0, 0, 12⟩ : Room).locals ≤ (⟨4, 0, 0, 83⟩ : Room).locals := ⟨Nat.le_of_ble_eq_true rfl, Nat.le_of_ble_eq_true rfl⟩
  have hRMX5_floatOf : (⟨2, 0, 0, 40⟩ : Room).frames + 1 ≤ (⟨4, 0, 0, 83⟩ : Room).frames ∧ 8 + (3 + 11) + (⟨2, 0, 0, 40⟩ : Room).locals ≤ (⟨4, 0, 0, 83⟩ : Room).locals := ⟨Nat.le_of_ble_eq_true rfl, Nat.le_of_ble_eq_true rfl⟩
  have hRMX5_isBusker : (⟨2, 0, 0, 34⟩ : Room).frames + 1 ≤ (⟨4, 0, 0, 83⟩ : Room).frames ∧ 8 + (2 + 11) + (⟨2, 0, 0, 34⟩ : Room).locals ≤ (⟨4, 0, 0, 83⟩ : Room).locals := ⟨Nat.le_of_ble_eq_true rfl, Nat.le_of_ble_eq_true rfl⟩
  have hRMX5_of : (⟨1, 0, 0, 12⟩ : Room).frames + 1 ≤ (⟨4, 0, 0, 83⟩ : Room).frames ∧ 8 + (3 + 11) + (⟨1, 0, 0, 12⟩ : Room).locals ≤ (⟨4, 0, 0, 83⟩ : Room).locals := ⟨Nat.le_of_ble_eq_true rfl, Nat.le_of_ble_eq_true rfl⟩
  have hRMX5_put : (⟨1, 0, 0, 12⟩ : Room).frames + 1 ≤ (⟨4, 0, 0, 83⟩ : Room).frames ∧ 8 + (4 + 11) + (⟨1, 0, 0, 12⟩ : Room).locals ≤ (⟨4, 0, 0, 83⟩ : Room).locals := ⟨Nat.le_of_ble_eq_true rfl, Nat.le_of_ble_eq_true rfl⟩
  have hRMX5_putFloat : (⟨3, 0, 0, 60⟩ : Room).frames + 1 ≤ (⟨4, 0, 0, 83⟩ : Room).frames ∧ 8 + (4 + 11) + (⟨3, 0, 0, 60⟩ : Room).locals ≤ (⟨4, 0, 0, 83⟩ : Room).locals := ⟨Nat.le_of_ble_eq_true rfl, Nat.le_of_ble_eq_true rfl⟩
  have hRMX5_refuse : (⟨1, 0, 0, 12⟩ : Room).frames + 1 ≤ (⟨4, 0, 0, 83⟩ : Room).frames ∧ 8 + (4 + 11) + (⟨1, 0, 0, 12⟩ : Room).locals ≤ (⟨4, 0, 0, 83⟩ : Room).locals := ⟨Nat.le_of_ble_eq_true rfl, Nat.le_of_ble_eq_true rfl⟩
  have hl0 := hl
  have K44 : ∀ (x2 : UInt32) (t0 : Int32) (t2 : Int32) (m_thr : Int32) (m_kept : Int32) (m_rea : Int32) (m_det : Int32) (m_now : Nat → Int32) (m_hst : Nat → Nat → Int32) (H : Heap) (locs : List Loc) (hP : va_P D vwCl (wX5 q cy m_thr m_kept m_rea m_det m_isv m_iit m_len m_at m_err m_wro m_cmd m_to1 m_to2 m_now m_sav m_ahe m_bef m_hst m_noi m_own m_inp) H) (hD : va_D A (wX5 q cy m_thr m_kept m_rea m_det m_isv m_iit m_len m_at m_err m_wro m_cmd m_to1 m_to2 m_now m_sav m_ahe m_bef m_hst m_noi m_own m_inp)) (hS : va_S A s.heap H locs) (ls : Array Slot) (hl : lv_has ls 3 [(0, .ref (q 0)), (1, .int a1), (2, .float x2)]) (hf : f_X5_strings_c44 m_iit a1 x2 t0 t2 m_thr m_kept m_rea m_det m_now m_hst = some res), W p l e ⟨4, 0, 0, 83⟩ s m args below meth c H locs 0 0 (MQ below (qI D (wX5 q cy res.2.1 res.2.2.1 res.2.2.2.1 res.2.2.2.2.1 m_isv m_iit m_len m_at m_err m_wro m_cmd m_to1 m_to2 res.2.2.2.2.2.1 m_sav m_ahe m_bef res.2.2.2.2.2.2 m_noi m_own m_inp) res.1 A) args s 0 0 A) (F0 m 44 ls [.int t0, .ref (q 0), .int t2, .ref (q 0)]) := by
    intro x2 t0 t2 m_thr m_kept m_rea m_det m_now m_hst H locs hP hD hS ls hl hf
    refine lv_bipush (v := 8) hx hb (dg ddX5_strings 28 rfl) (by decide) ?_
    refine lv_fload_n hx hb (dg ddX5_strings 29 rfl) rfl (lv_at hl 2 rfl) ?_
    refine lv_f2i hx hb (dg ddX5_strings 30 rfl) ?_
    obtain ⟨r2, e1, hf⟩ := ob_some hf
    refine crw_vi CX hml (As := [.int t0, .int 8, .int (FP.f2i x2)]) (rest := [.int t2, .ref (q 0)]) (c_X5_refuse l D cy q m_thr m_kept m_rea m_det m_isv m_iit m_len m_at m_err m_wro m_cmd m_to1 m_to2 m_now m_sav m_ahe m_bef m_hst m_noi m_own m_inp t0 8 (FP.f2i x2) _ e1) lk_RX5_106 rfl rfl hRMX5_refuse hP hD hS hA hK hN 0 rfl rfl rfl hl.1 rfl (Nat.le_of_ble_eq_true rfl) ⟨Nat.le_of_ble_eq_true rfl, Nat.le_of_ble_eq_true rfl⟩ (dg ddX5_strings 31 rfl) (fun H locs hP hD hS => ?_)
    obtain ⟨r4, e3, hf⟩ := ob_some hf
    refine crw_vi CX hml (As := [.int t2, .int r2.1]) (rest := []) (c_X5_fails l D cy q m_thr m_kept r2.2.1 r2.2.2 m_isv m_iit m_len m_at m_err m_wro m_cmd m_to1 m_to2 m_now m_sav m_ahe m_bef m_hst m_noi m_own m_inp t2 r2.1 _ e3) lk_RX5_81 rfl rfl hRMX5_fails hP hD hS hA hK hN 0 rfl rfl rfl hl.1 rfl (Nat.le_of_ble_eq_true rfl) ⟨Nat.le_of_ble_eq_true rfl, Nat.le_of_ble_eq_true rfl⟩ (dg ddX5_strings 32 rfl) (fun H locs hP hD hS => ?_)
    refine lv_if_eq (tgt := 59) hx hb (dg ddX5_strings 33 rfl) (by decide) (fun h5 => ?_) (fun h5 => ?_)
    · have hf := it_t h5 hf
      refine lv_aload_n hx hb (dg ddX5_strings 36 rfl) rfl (lv_at hl 0 rfl) ?_
      obtain ⟨r7, e6, hf⟩ := ob_some hf
      refine crw_vv CX hml (As := []) (rest := []) (c_X5_change l D cy q r4.2 m_kept r2.2.1 r2.2.2 m_isv m_iit m_len m_at m_err m_wro m_cmd m_to1 m_to2 m_now m_sav m_ahe m_bef m_hst m_noi m_own m_inp _ e6) lk_RX5_85 rfl rfl hRMX5_change hP hD hS hA hK hN 0 rfl rfl rfl hl.1 rfl (Nat.le_of_ble_eq_true rfl) ⟨Nat.le_of_ble_eq_true rfl, Nat.le_of_ble_eq_true rfl⟩ (dg ddX5_strings 37 rfl) (fun H locs hP hD hS => ?_)
      refine lv_aload_n hx hb (dg ddX5_strings 38 rfl) rfl (lv_at hl 0 rfl) ?_
      refine lv_iload_n hx hb (dg ddX5_strings 39 rfl) rfl (lv_at hl 1 rfl) ?_
      refine lv_iconst (v := 2) hx hb (dg ddX5_strings 40 rfl) (by decide) ?_
      refine lv_fload_n hx hb (dg ddX5_strings 41 rfl) rfl (lv_at hl 2 rfl) ?_
      refine lv_fconst2 hx hb (dg ddX5_strings 42 rfl) ?_
      obtain ⟨h8, hf⟩ := og_some hf
      refine lv_fsub hx hb (dg ddX5_strings 43 rfl) (n32_in h8) ?_
      obtain ⟨r10, e9, hf⟩ := ob_some hf
      refine crw_vv CX hml (As := [.int a1, .int 2, .float (FP.fsub x2 FP.fconst2)]) (rest := []) (c_X5_putFloat l D cy q r4.2 r7.1 r2.2.1 r2.2.2 m_isv m_iit m_len m_at m_err m_wro m_cmd m_to1 m_to2 m_now m_sav m_ahe m_bef r7.2 m_noi m_own m_inp a1 2 (FP.fsub x2 FP.fconst2) _ e9) lk_RX5_110 rfl rfl hRMX5_putFloat hP hD hS hA hK hN 0 rfl rfl rfl hl.1 rfl (Nat.le_of_ble_eq_true rfl) ⟨Nat.le_of_ble_eq_true rfl, Nat.le_of_ble_eq_true rfl⟩ (dg ddX5_strings 44 rfl) (fun H locs hP hD hS => ?_)
      refine lv_aload_n hx hb (dg ddX5_strings 45 rfl) rfl (lv_at hl 0 rfl) ?_
      refine lv_iload_n hx hb (dg ddX5_strings 46 rfl) rfl (lv_at hl 1 rfl) ?_
      refine lv_iconst (v := 3) hx hb (dg ddX5_strings 47 rfl) (by decide) ?_
      refine lv_fconst0 hx hb (dg ddX5_strings 48 rfl) ?_
      obtain ⟨r12, e11, hf⟩ := ob_some hf
      refine crw_vv CX hml (As := [.int a1, .int 3, .float FP.fconst0]) (rest := []) (c_X5_putFloat l D cy q r4.2 r7.1 r2.2.1 r2.2.2 m_isv m_iit m_len m_at m_err m_wro m_cmd m_to1 m_to2 r10 m_sav m_ahe m_bef r7.2 m_noi m_own m_inp a1 3 FP.fconst0 _ e11) lk_RX5_110 rfl rfl hRMX5_putFloat hP hD hS hA hK hN 0 rfl rfl rfl hl.1 rfl (Nat.le_of_ble_eq_true rfl) ⟨Nat.le_of_ble_eq_true rfl, Nat.le_of_ble_eq_true rfl⟩ (dg ddX5_strings 49 rfl) (fun H locs hP hD hS => ?_)
      refine lv_aload_n hx hb (dg ddX5_strings 50 rfl) rfl (lv_at hl 0 rfl) ?_
      refine lv_iload_n hx hb (dg ddX5_strings 51 rfl) rfl (lv_at hl 1 rfl) ?_
      refine lv_bipush (v := 7) hx hb (dg ddX5_strings 52 rfl) (by decide) ?_
      refine lv_aload_n hx hb (dg ddX5_strings 53 rfl) rfl (lv_at hl 0 rfl) ?_
      refine lv_iload_n hx hb (dg ddX5_strings 54 rfl) rfl (lv_at hl 1 rfl) ?_
      refine lv_bipush (v := 7) hx hb (dg ddX5_strings 55 rfl) (by decide) ?_
      obtain ⟨r14, e13, hf⟩ := ob_some hf
      refine cro_vi CX hml (As := [.int a1, .int 7]) (rest := [.int 7, .int a1, .ref (q 0)]) (c_X5_of l D cy q r4.2 r7.1 r2.2.1 r2.2.2 m_isv m_iit m_len m_at m_err m_wro m_cmd m_to1 m_to2 r12 m_sav m_ahe m_bef r7.2 m_noi m_own m_inp a1 7 e13) lk_RX5_100 rfl rfl hRMX5_of hP hK hN 0 rfl rfl rfl hl.1 rfl (Nat.le_of_ble_eq_true rfl) ⟨Nat.le_of_ble_eq_true rfl, Nat.le_of_ble_eq_true rfl⟩ (dg ddX5_strings 56 rfl) ?_
      refine lv_iconst (v := 1) hx hb (dg ddX5_strings 57 rfl) (by decide) ?_
      refine lv_iadd hx hb (dg ddX5_strings 58 rfl) ?_
      obtain ⟨r16, e15, hf⟩ := ob_some hf
      refine crw_vv CX hml (As := [.int a1, .int 7, .int (r14 + 1)]) (rest := []) (c_X5_put l D cy q r4.2 r7.1 r2.2.1 r2.2.2 m_isv m_iit m_len m_at m_err m_wro m_cmd m_to1 m_to2 r12 m_sav m_ahe m_bef r7.2 m_noi m_own m_inp a1 7 (r14 + 1) _ e15) lk_RX5_103 rfl rfl hRMX5_put hP hD hS hA hK hN 0 rfl rfl rfl hl.1 rfl (Nat.le_of_ble_eq_true rfl) ⟨Nat.le_of_ble_eq_true rfl, Nat.le_of_ble_eq_true rfl⟩ (dg ddX5_strings 59 rfl) (fun H locs hP hD hS => ?_)
      refine lv_aload_n hx hb (dg ddX5_strings 60 rfl) rfl (lv_at hl 0 rfl) ?_
      refine gf_RX5_9 CX hK hP 0 rfl rfl (dg ddX5_strings 61 rfl) ?_
      refine lv_bipush (v := 6) hx hb (dg ddX5_strings 62 rfl) (by decide) ?_
      refine lv_dup2_11 hx hb (dg ddX5_strings 63 rfl) rfl rfl ?_
      obtain ⟨h17, hf⟩ := og_some hf
      refine va_iald hx hb hK hP 1 0 rfl rfl (inb_in h17) (dg ddX5_strings 64 rfl) ?_
      refine lv_iconst (v := 1) hx hb (dg ddX5_strings 65 rfl) (by decide) ?_
      refine lv_iadd hx hb (dg ddX5_strings 66 rfl) ?_
      obtain ⟨h18, hf⟩ := og_some hf
      refine va_iast hx hb hK hP hD hS 1 0 rfl rfl (inb_in h18) (dg ddX5_strings 67 rfl) (fun H locs hP hD hS => ?_)
      have hP : va_P D vwCl (wX5 q cy r4.2 r7.1 r2.2.1 r2.2.2 m_isv m_iit m_len m_at m_err m_wro m_cmd m_to1 m_to2 (upd r16 (6 : Int32).toNatClampNeg ((r16 (6 : Int32).toNatClampNeg) + 1)) m_sav m_ahe m_bef r7.2 m_noi m_own m_inp) H := hP
      have hD : va_D A (wX5 q cy r4.2 r7.1 r2.2.1 r2.2.2 m_isv m_iit m_len m_at m_err m_wro m_cmd m_to1 m_to2 (upd r16 (6 : Int32).toNatClampNeg ((r16 (6 : Int32).toNatClampNeg) + 1)) m_sav m_ahe m_bef r7.2 m_noi m_own m_inp) := hD
      refine lv_aload_n hx hb (dg ddX5_strings 68 rfl) rfl (lv_at hl 0 rfl) ?_
      refine lv_iload_n hx hb (dg ddX5_strings 69 rfl) rfl (lv_at hl 1 rfl) ?_
      refine lv_iconst (v := 2) hx hb (dg ddX5_strings 70 rfl) (by decide) ?_
      obtain ⟨r20, e19, hf⟩ := ob_some hf
      refine cro_vi CX hml (As := [.int a1, .int 2]) (rest := []) (c_X5_of l D cy q r4.2 r7.1 r2.2.1 r2.2.2 m_isv m_iit m_len m_at m_err m_wro m_cmd m_to1 m_to2 (upd r16 (6 : Int32).toNatClampNeg ((r16 (6 : Int32).toNatClampNeg) + 1)) m_sav m_ahe m_bef r7.2 m_noi m_own m_inp a1 2 e19) lk_RX5_100 rfl rfl hRMX5_of hP hK hN 0 rfl rfl rfl hl.1 rfl (Nat.le_of_ble_eq_true rfl) ⟨Nat.le_of_ble_eq_true rfl, Nat.le_of_ble_eq_true rfl⟩ (dg ddX5_strings 71 rfl) ?_
      cases hf
      exact e_wi CX hr hlk rfl hP hD hS (dg ddX5_strings 72 rfl)
    · have hf := it_f h5 hf
      refine lv_iconst (v := 0) hx hb (dg ddX5_strings 34 rfl) (by decide) ?_
      cases hf
      exact e_wi CX hr hlk rfl hP hD hS (dg ddX5_strings 35 rfl)
  have K15 : ∀ (t0 : Int32) (t1 : Int32) (m_thr : Int32) (m_kept : Int32) (m_rea : Int32) (m_det : Int32) (m_now : Nat → Int32) (m_hst : Nat → Nat → Int32) (H : Heap) (locs : List Loc) (hP : va_P D vwCl (wX5 q cy m_thr m_kept m_rea m_det m_isv m_iit m_len m_at m_err m_wro m_cmd m_to1 m_to2 m_now m_sav m_ahe m_bef m_hst m_noi m_own m_inp) H) (hD : va_D A (wX5 q cy m_thr m_kept m_rea m_det m_isv m_iit m_len m_at m_err m_wro m_cmd m_to1 m_to2 m_now m_sav m_ahe m_bef m_hst m_noi m_own m_inp)) (hS : va_S A s.heap H locs) (ls : Array Slot) (hl : lv_has ls 3 [(0, .ref (q 0)), (1, .int a1)]) (hf : f_X5_strings_c15 m_iit a1 t0 t1 m_thr m_kept m_rea m_det m_now m_hst = some res), W p l e ⟨4, 0, 0, 83⟩ s m args below meth c H locs 0 0 (MQ below (qI D (wX5 q cy res.2.1 res.2.2.1 res.2.2.2.1 res.2.2.2.2.1 m_isv m_iit m_len m_at m_err m_wro m_cmd m_to1 m_to2 res.2.2.2.2.2.1 m_sav m_ahe m_bef res.2.2.2.2.2.2 m_noi m_own m_inp) res.1 A) args s 0 0 A) (F0 m 15 ls [.int t0, .int t1, .ref (q 0)]) := by
    intro t0 t1 m_thr m_kept m_rea m_det m_now m_hst H locs hP hD hS ls hl hf
    obtain ⟨r2, e1, hf⟩ := ob_some hf
    refine crw_vi CX hml (As := [.int t1, .int t0]) (rest := []) (c_X5_fails l D cy q m_thr m_kept m_rea m_det m_isv m_iit m_len m_at m_err m_wro m_cmd m_to1 m_to2 m_now m_sav m_ahe m_bef m_hst m_noi m_own m_inp t1 t0 _ e1) lk_RX5_81 rfl rfl hRMX5_fails hP hD hS hA hK hN 0 rfl rfl rfl hl.1 rfl (Nat.le_of_ble_eq_true rfl) ⟨Nat.le_of_ble_eq_true rfl, Nat.le_of_ble_eq_true rfl⟩ (dg ddX5_strings 9 rfl) (fun H locs hP hD hS => ?_)
    refine lv_if_eq (tgt := 23) hx hb (dg ddX5_strings 10 rfl) (by decide) (fun h3 => ?_) (fun h3 => ?_)
    · have hf := it_t h3 hf
      refine lv_aload_n hx hb (dg ddX5_strings 13 rfl) rfl (lv_at hl 0 rfl) ?_
      refine lv_iload_n hx hb (dg ddX5_strings 14 rfl) rfl (lv_at hl 1 rfl) ?_
      refine lv_iconst (v := 2) hx hb (dg ddX5_strings 15 rfl) (by decide) ?_
      obtain ⟨r5, e4, hf⟩ := ob_some hf
      refine cro_vf CX hml (As := [.int a1, .int 2]) (rest := []) (c_X5_floatOf l D cy q r2.2 m_kept m_rea m_det m_isv m_iit m_len m_at m_err m_wro m_cmd m_to1 m_to2 m_now m_sav m_ahe m_bef m_hst m_noi m_own m_inp a1 2 e4) lk_RX5_121 rfl rfl hRMX5_floatOf hP hK hN 0 rfl rfl rfl hl.1 rfl (Nat.le_of_ble_eq_true rfl) ⟨Nat.le_of_ble_eq_true rfl, Nat.le_of_ble_eq_true rfl⟩ (dg ddX5_strings 16 rfl) ?_
      refine lv_fstore_n (lv' := [(2, .float r5), (0, .ref (q 0)), (1, .int a1)]) hx hb (dg ddX5_strings 17 rfl) rfl hl (by decide) rfl (fun ls hl => ?_)
      refine lv_aload_n hx hb (dg ddX5_strings 18 rfl) rfl (lv_at hl 1 rfl) ?_
      refine lv_iconst (v := 2) hx hb (dg ddX5_strings 19 rfl) (by decide) ?_
      refine lv_aload_n hx hb (dg ddX5_strings 20 rfl) rfl (lv_at hl 1 rfl) ?_
      refine lv_fload_n hx hb (dg ddX5_strings 21 rfl) rfl (lv_at hl 0 rfl) ?_
      refine lv_fconst2 hx hb (dg ddX5_strings 22 rfl) ?_
      refine lv_fcmp hx hb (dg ddX5_strings 23 rfl) ?_
      refine lv_if_ge (tgt := 43) hx hb (dg ddX5_strings 24 rfl) (by decide) (fun h6 => ?_) (fun h6 => ?_)
      · have hf := it_t h6 hf
        refine lv_iconst (v := 0) hx hb (dg ddX5_strings 27 rfl) (by decide) ?_
        exact K44  r5 0 2 r2.2 m_kept m_rea m_det m_now m_hst _ _ hP hD hS _ (lv_sub hl [1, 2, 0] rfl) hf
      · have hf := it_f h6 hf
        refine lv_iconst (v := 1) hx hb (dg ddX5_strings 25 rfl) (by decide) ?_
        refine lv_goto (tgt := 44) hx hb (dg ddX5_strings 26 rfl) (by decide) ?_
        exact K44  r5 1 2 r2.2 m_kept m_rea m_det m_now m_hst _ _ hP hD hS _ (lv_sub hl [1, 2, 0] rfl) hf
    · have hf := it_f h3 hf
      refine lv_iconst (v := 0) hx hb (dg ddX5_strings 11 rfl) (by decide) ?_
      cases hf
      exact e_wi CX hr hlk rfl hP hD hS (dg ddX5_strings 12 rfl)
  refine lv_aload_n hx hb (dg ddX5_strings 0 rfl) rfl (lv_at hl 0 rfl) ?_
  refine lv_iconst (v := 1) hx hb (dg ddX5_strings 1 rfl) (by decide) ?_
  refine lv_aload_n hx hb (dg ddX5_strings 2 rfl) rfl (lv_at hl 0 rfl) ?_
  refine lv_iload_n hx hb (dg ddX5_strings 3 rfl) rfl (lv_at hl 1 rfl) ?_
  obtain ⟨r2, e1, hf⟩ := ob_some hf
  refine cro_vi CX hml (As := [.int a1]) (rest := [.int 1, .ref (q 0)]) (c_X5_isBusker l D cy q m_thr m_kept m_rea m_det m_isv m_iit m_len m_at m_err m_wro m_cmd m_to1 m_to2 m_now m_sav m_ahe m_bef m_hst m_noi m_own m_inp a1 e1) lk_RX5_114 rfl rfl hRMX5_isBusker hP hK hN 0 rfl rfl rfl hl.1 rfl (Nat.le_of_ble_eq_true rfl) ⟨Nat.le_of_ble_eq_true rfl, Nat.le_of_ble_eq_true rfl⟩ (dg ddX5_strings 4 rfl) ?_
  refine lv_if_ne (tgt := 14) hx hb (dg ddX5_strings 5 rfl) (by decide) (fun h3 => ?_) (fun h3 => ?_)
  · have hf := it_f h3 hf
    refine lv_iconst (v := 0) hx hb (dg ddX5_strings 8 rfl) (by decide) ?_
    exact K15  0 1 m_thr m_kept m_rea m_det m_now m_hst _ _ hP hD hS _ (lv_sub hl [0, 1] rfl) hf
  · have hf := it_t h3 hf
    refine lv_iconst (v := 1) hx hb (dg ddX5_strings 6 rfl) (by decide) ?_
    refine lv_goto (tgt := 15) hx hb (dg ddX5_strings 7 rfl) (by decide) ?_
    exact K15  1 1 m_thr m_kept m_rea m_det m_now m_hst _ _ hP hD hS _ (lv_sub hl [0, 1] rfl) hf
def f_X5_snapsIn_c54  (m_now : Nat → Int32) (a1 : Int32) : Nat → Int32 → UInt32 → Int32 → Option (Int32 × Int32)
  | 0, _, _, _ => none
  | n + 1, x2, x3, m_thr => if 0 ≤ (Op.cmpValue (FP.fcmp x3 FP.fconst1) .g) then (some (x2, m_thr)) else (ob (f_X5_of m_now a1 1) fun r3 => (og (n32 (FP.fmul 1028443341 (FP.i2f r3))) (og (n32 (FP.fadd x3 (FP.fmul 1028443341 (FP.i2f r3)))) (f_X5_snapsIn_c54 m_now a1 n (x2 + 1) (FP.fadd x3 (FP.fmul 1028443341 (FP.i2f r3))) m_thr))))
def f_X5_snapsIn_c37  (m_now : Nat → Int32) (a1 : Int32) (t0 : Int32) (t1 : Int32) (m_thr : Int32) : Option (Int32 × Int32) := ob (f_X5_fails m_thr t1 t0) fun r2 => (if r2.1 = 0 then (ob (f_X5_floatOf m_now a1 3) fun r5 => (f_X5_snapsIn_c54 m_now a1 4096 0 r5 r2.2)) else (some (0, r2.2)))
def f_X5_snapsIn_c15  (m_now : Nat → Int32) (a1 : Int32) (t0 : Int32) (t1 : Int32) (m_thr : Int32) : Option (Int32 × Int32) := ob (f_X5_fails m_thr t1 t0) fun r2 => (if r2.1 = 0 then (ob (f_X5_of m_now a1 0) fun r5 => (if r5 = 0 then (f_X5_snapsIn_c37 m_now a1 0 2 r2.2) else (f_X5_snapsIn_c37 m_now a1 1 2 r2.2))) else (some (0, r2.2)))
def f_X5_snapsIn (m_thr : Int32) (m_now : Nat → Int32) (a1 : Int32) : Option (Int32 × Int32) := ob (f_X5_isBusker m_now a1) fun r2 => (if r2 = 0 then (f_X5_snapsIn_c15 m_now a1 1 1 m_thr) else (f_X5_snapsIn_c15 m_now a1 0 1 m_thr))
set_option maxHeartbeats 4000000 in
set_option maxRecDepth 100000 in
theorem c_X5_snapsIn (l : Launch) (D : va_G) (cy : Nat → ClassId) (q : Nat → Nat) (m_thr : Int32) (m_kept : Int32) (m_rea : Int32) (m_det : Int32) (m_isv : Int32) (m_iit : Int32) (m_len : Int32) (m_at : Int32) (m_err : Int32) (m_wro : Int32) (m_cmd : Int32) (m_to1 : Int32) (m_to2 : Int32) (m_now : Nat → Int32) (m_sav : Nat → Int32) (m_ahe : Nat → Int32) (m_bef : Nat → Int32) (m_hst : Nat → Nat → Int32) (m_noi : Nat → UInt32) (m_own : Nat → UInt32) (m_inp : Nat → Int32) (a1 : Int32) (sz : Nat) {res : Int32 × Int32} (hf : f_X5_snapsIn m_thr m_now a1 = some res) : Met l yX5_snapsIn (.code yX5_snapsIn cX5_snapsIn 4 (some .int) :: lw_all) { frames := 3, cells := 0, slots := 0, locals := 62 } (va_Pc [.ref (q 0), .int a1] (sW D cy (wX5 q cy m_thr m_kept m_rea m_det m_isv m_iit m_len m_at m_err m_wro m_cmd m_to1 m_to2 m_now m_sav m_ahe m_bef m_hst m_noi m_own m_inp) sz)) (qI D (wX5 q cy res.2 m_kept m_rea m_det m_isv m_iit m_len m_at m_err m_wro m_cmd m_to1 m_to2 m_now m_sav m_ahe m_bef m_hst m_noi m_own m_inp) res.1 (va_A (wX5 q cy m_thr m_kept m_rea m_det m_isv m_iit m_len m_at m_err m_wro m_cmd m_to1 m_to2 m_now m_sav m_ahe m_bef m_hst m_noi m_own m_inp) sz)) 0 0 (va_A (wX5 q cy m_thr m_kept m_rea m_det m_isv m_iit m_len m_at m_err m_wro m_cmd m_to1 m_to2 m_now m_sav m_ahe m_bef m_hst m_noi m_own m_inp) sz) := by
  refine mk_rw (Qc := qI D (wX5 q cy res.2 m_kept m_rea m_det m_isv m_iit m_len m_at m_err m_wro m_cmd m_to1 m_to2 m_now m_sav m_ahe m_bef m_hst m_noi m_own m_inp) res.1) (Rc := RX5) (by decide +kernel) rfl (Nat.le_of_ble_eq_true rfl) ?_
  intro p e s m args below meth c ls A CX hml hr hlk hK hN hP hD hS hA hl
  have hx := CX.1
  have hb := CX.2.1
  have hRMX5_fails : (⟨1, 0, 0, 12⟩ : Room).frames + 1 ≤ (⟨3, 0, 0, 62⟩ : Room).frames ∧ 8 + (3 + 11) + (⟨1, 0, 0, 12⟩ : Room).locals ≤ (⟨3, 0, 0, 62⟩ : Room).locals := ⟨Nat.le_of_ble_eq_true rfl, Nat.le_of_ble_eq_true rfl⟩
  have hRMX5_floatOf : (⟨2, 0, 0, 40⟩ : Room).frames + 1 ≤ (⟨3, 0, 0, 62⟩ : Room).frames ∧ 8 + (3 + 11) + (⟨2, 0, 0, 40⟩ : Room).locals ≤ (⟨3, 0, 0, 62⟩ : Room).locals := ⟨Nat.le_of_ble_eq_true rfl, Nat.le_of_ble_eq_true rfl⟩
  have hRMX5_isBusker : (⟨2, 0, 0, 34⟩ : Room).frames + 1 ≤ (⟨3, 0, 0, 62⟩ : Room).frames ∧ 8 + (2 + 11) + (⟨2, 0, 0, 34⟩ : Room).locals ≤ (⟨3, 0, 0, 62⟩ : Room).locals := ⟨Nat.le_of_ble_eq_true rfl, Nat.le_of_ble_eq_true rfl⟩
  have hRMX5_of : (⟨1, 0, 0, 12⟩ : Room).frames + 1 ≤ (⟨3, 0, 0, 62⟩ : Room).frames ∧ 8 + (3 + 11) + (⟨1, 0, 0, 12⟩ : Room).locals ≤ (⟨3, 0, 0, 62⟩ : Room).locals := ⟨Nat.le_of_ble_eq_true rfl, Nat.le_of_ble_eq_true rfl⟩
  have hl0 := hl
  have K54 : ∀ (n : Nat), ∀ (x2 : Int32) (x3 : UInt32) (m_thr : Int32) (H : Heap) (locs : List Loc) (hP : va_P D vwCl (wX5 q cy m_thr m_kept m_rea m_det m_isv m_iit m_len m_at m_err m_wro m_cmd m_to1 m_to2 m_now m_sav m_ahe m_bef m_hst m_noi m_own m_inp) H) (hD : va_D A (wX5 q cy m_thr m_kept m_rea m_det m_isv m_iit m_len m_at m_err m_wro m_cmd m_to1 m_to2 m_now m_sav m_ahe m_bef m_hst m_noi m_own m_inp)) (hS : va_S A s.heap H locs) (ls : Array Slot) (hl : lv_has ls 4 [(0, .ref (q 0)), (1, .int a1), (2, .int x2), (3, .float x3)]) (hf : f_X5_snapsIn_c54 m_now a1 n x2 x3 m_thr = some res), W p l e ⟨3, 0, 0, 62⟩ s m args below meth c H locs 0 0 (MQ below (qI D (wX5 q cy res.2 m_kept m_rea m_det m_isv m_iit m_len m_at m_err m_wro m_cmd m_to1 m_to2 m_now m_sav m_ahe m_bef m_hst m_noi m_own m_inp) res.1 A) args s 0 0 A) (F0 m 54 ls []) := by
    intro n
    induction n with
    | zero => intro x2 x3 m_thr H locs hP hD hS ls hl hf; cases (show none = some res from hf)
    | succ n ih =>
    intro x2 x3 m_thr H locs hP hD hS ls hl hf
    refine lv_fload_n hx hb (dg ddX5_snapsIn 32 rfl) rfl (lv_at hl 3 rfl) ?_
    refine lv_fconst1 hx hb (dg ddX5_snapsIn 33 rfl) ?_
    refine lv_fcmp hx hb (dg ddX5_snapsIn 34 rfl) ?_
    refine lv_if_ge (tgt := 79) hx hb (dg ddX5_snapsIn 35 rfl) (by decide) (fun h1 => ?_) (fun h1 => ?_)
    · have hf := it_t h1 hf
      refine lv_iload_n hx hb (dg ddX5_snapsIn 48 rfl) rfl (lv_at hl 2 rfl) ?_
      cases hf
      exact e_wi CX hr hlk rfl hP hD hS (dg ddX5_snapsIn 49 rfl)
    · have hf := it_f h1 hf
      refine lv_fload_n hx hb (dg ddX5_snapsIn 36 rfl) rfl (lv_at hl 3 rfl) ?_
      refine lv_ldcf hx hb CX.2.2.2 (CX.2.2.1 (.constantFloat RX5 162 (1028443341)) (lw_at 1267 (by decide +kernel))) (dg ddX5_snapsIn 37 rfl) ?_
      refine lv_aload_n hx hb (dg ddX5_snapsIn 38 rfl) rfl (lv_at hl 0 rfl) ?_
      refine lv_iload_n hx hb (dg ddX5_snapsIn 39 rfl) rfl (lv_at hl 1 rfl) ?_
      refine lv_iconst (v := 1) hx hb (dg ddX5_snapsIn 40 rfl) (by decide) ?_
      obtain ⟨r3, e2, hf⟩ := ob_some hf
      refine cro_vi CX hml (As := [.int a1, .int 1]) (rest := [.float 1028443341, .float x3]) (c_X5_of l D cy q m_thr m_kept m_rea m_det m_isv m_iit m_len m_at m_err m_wro m_cmd m_to1 m_to2 m_now m_sav m_ahe m_bef m_hst m_noi m_own m_inp a1 1 e2) lk_RX5_100 rfl rfl hRMX5_of hP hK hN 0 rfl rfl rfl hl.1 rfl (Nat.le_of_ble_eq_true rfl) ⟨Nat.le_of_ble_eq_true rfl, Nat.le_of_ble_eq_true rfl⟩ (dg ddX5_snapsIn 41 rfl) ?_
      refine lv_i2f hx hb (dg ddX5_snapsIn 42 rfl) ?_
      obtain ⟨h4, hf⟩ := og_some hf
      refine lv_fmul hx hb (dg ddX5_snapsIn 43 rfl) (n32_in h4) ?_
      obtain ⟨h5, hf⟩ := og_some hf
      refine lv_fadd hx hb (dg ddX5_snapsIn 44 rfl) (n32_in h5) ?_
      refine lv_fstore_n (lv' := [(3, .float (FP.fadd x3 (FP.fmul 1028443341 (FP.i2f r3)))), (0, .ref (q 0)), (1, .int a1), (2, .int x2)]) hx hb (dg ddX5_snapsIn 45 rfl) rfl hl (by decide) rfl (fun ls hl => ?_)
      refine lv_iinc (v := x2 + 1) (lv' := [(2, .int (x2 + 1)), (3, .float (FP.fadd x3 (FP.fmul 1028443341 (FP.i2f r3)))), (0, .ref (q 0)), (1, .int a1)]) hx hb (dg ddX5_snapsIn 46 rfl) hl (k := 3) rfl (congrArg (HAdd.hAdd x2) (by decide)) (by decide) rfl (fun ls hl => ?_)
      refine lv_goto (tgt := 54) hx hb (dg ddX5_snapsIn 47 rfl) (by decide) ?_
      exact ih (x2 + 1) (FP.fadd x3 (FP.fmul 1028443341 (FP.i2f r3))) m_thr _ _ hP hD hS _ (lv_sub hl [2, 3, 0, 1] rfl) hf
  have K37 : ∀ (t0 : Int32) (t1 : Int32) (m_thr : Int32) (H : Heap) (locs : List Loc) (hP : va_P D vwCl (wX5 q cy m_thr m_kept m_rea m_det m_isv m_iit m_len m_at m_err m_wro m_cmd m_to1 m_to2 m_now m_sav m_ahe m_bef m_hst m_noi m_own m_inp) H) (hD : va_D A (wX5 q cy m_thr m_kept m_rea m_det m_isv m_iit m_len m_at m_err m_wro m_cmd m_to1 m_to2 m_now m_sav m_ahe m_bef m_hst m_noi m_own m_inp)) (hS : va_S A s.heap H locs) (ls : Array Slot) (hl : lv_has ls 4 [(0, .ref (q 0)), (1, .int a1)]) (hf : f_X5_snapsIn_c37 m_now a1 t0 t1 m_thr = some res), W p l e ⟨3, 0, 0, 62⟩ s m args below meth c H locs 0 0 (MQ below (qI D (wX5 q cy res.2 m_kept m_rea m_det m_isv m_iit m_len m_at m_err m_wro m_cmd m_to1 m_to2 m_now m_sav m_ahe m_bef m_hst m_noi m_own m_inp) res.1 A) args s 0 0 A) (F0 m 37 ls [.int t0, .int t1, .ref (q 0)]) := by
    intro t0 t1 m_thr H locs hP hD hS ls hl hf
    obtain ⟨r2, e1, hf⟩ := ob_some hf
    refine crw_vi CX hml (As := [.int t1, .int t0]) (rest := []) (c_X5_fails l D cy q m_thr m_kept m_rea m_det m_isv m_iit m_len m_at m_err m_wro m_cmd m_to1 m_to2 m_now m_sav m_ahe m_bef m_hst m_noi m_own m_inp t1 t0 _ e1) lk_RX5_81 rfl rfl hRMX5_fails hP hD hS hA hK hN 0 rfl rfl rfl hl.1 rfl (Nat.le_of_ble_eq_true rfl) ⟨Nat.le_of_ble_eq_true rfl, Nat.le_of_ble_eq_true rfl⟩ (dg ddX5_snapsIn 21 rfl) (fun H locs hP hD hS => ?_)
    refine lv_if_eq (tgt := 45) hx hb (dg ddX5_snapsIn 22 rfl) (by decide) (fun h3 => ?_) (fun h3 => ?_)
    · have hf := it_t h3 hf
      refine lv_iconst (v := 0) hx hb (dg ddX5_snapsIn 25 rfl) (by decide) ?_
      refine lv_istore_n (lv' := [(2, .int 0), (0, .ref (q 0)), (1, .int a1)]) hx hb (dg ddX5_snapsIn 26 rfl) rfl hl (by decide) rfl (fun ls hl => ?_)
      refine lv_aload_n hx hb (dg ddX5_snapsIn 27 rfl) rfl (lv_at hl 1 rfl) ?_
      refine lv_iload_n hx hb (dg ddX5_snapsIn 28 rfl) rfl (lv_at hl 2 rfl) ?_
      refine lv_iconst (v := 3) hx hb (dg ddX5_snapsIn 29 rfl) (by decide) ?_
      obtain ⟨r5, e4, hf⟩ := ob_some hf
      refine cro_vf CX hml (As := [.int a1, .int 3]) (rest := []) (c_X5_floatOf l D cy q r2.2 m_kept m_rea m_det m_isv m_iit m_len m_at m_err m_wro m_cmd m_to1 m_to2 m_now m_sav m_ahe m_bef m_hst m_noi m_own m_inp a1 3 e4) lk_RX5_121 rfl rfl hRMX5_floatOf hP hK hN 0 rfl rfl rfl hl.1 rfl (Nat.le_of_ble_eq_true rfl) ⟨Nat.le_of_ble_eq_true rfl, Nat.le_of_ble_eq_true rfl⟩ (dg ddX5_snapsIn 30 rfl) ?_
      refine lv_fstore_n (lv' := [(3, .float r5), (2, .int 0), (0, .ref (q 0)), (1, .int a1)]) hx hb (dg ddX5_snapsIn 31 rfl) rfl hl (by decide) rfl (fun ls hl => ?_)
      exact K54 4096 0 r5 r2.2 _ _ hP hD hS _ (lv_sub hl [2, 3, 1, 0] rfl) hf
    · have hf := it_f h3 hf
      refine lv_iconst (v := 0) hx hb (dg ddX5_snapsIn 23 rfl) (by decide) ?_
      cases hf
      exact e_wi CX hr hlk rfl hP hD hS (dg ddX5_snapsIn 24 rfl)
  have K15 : ∀ (t0 : Int32) (t1 : Int32) (m_thr : Int32) (H : Heap) (locs : List Loc) (hP : va_P D vwCl (wX5 q cy m_thr m_kept m_rea m_det m_isv m_iit m_len m_at m_err m_wro m_cmd m_to1 m_to2 m_now m_sav m_ahe m_bef m_hst m_noi m_own m_inp) H) (hD : va_D A (wX5 q cy m_thr m_kept m_rea m_det m_isv m_iit m_len m_at m_err m_wro m_cmd m_to1 m_to2 m_now m_sav m_ahe m_bef m_hst m_noi m_own m_inp)) (hS : va_S A s.heap H locs) (ls : Array Slot) (hl : lv_has ls 4 [(0, .ref (q 0)), (1, .int a1)]) (hf : f_X5_snapsIn_c15 m_now a1 t0 t1 m_thr = some res), W p l e ⟨3, 0, 0, 62⟩ s m args below meth c H locs 0 0 (MQ below (qI D (wX5 q cy res.2 m_kept m_rea m_det m_isv m_iit m_len m_at m_err m_wro m_cmd m_to1 m_to2 m_now m_sav m_ahe m_bef m_hst m_noi m_own m_inp) res.1 A) args s 0 0 A) (F0 m 15 ls [.int t0, .int t1, .ref (q 0)]) := by
    intro t0 t1 m_thr H locs hP hD hS ls hl hf
    obtain ⟨r2, e1, hf⟩ := ob_some hf
    refine crw_vi CX hml (As := [.int t1, .int t0]) (rest := []) (c_X5_fails l D cy q m_thr m_kept m_rea m_det m_isv m_iit m_len m_at m_err m_wro m_cmd m_to1 m_to2 m_now m_sav m_ahe m_bef m_hst m_noi m_own m_inp t1 t0 _ e1) lk_RX5_81 rfl rfl hRMX5_fails hP hD hS hA hK hN 0 rfl rfl rfl hl.1 rfl (Nat.le_of_ble_eq_true rfl) ⟨Nat.le_of_ble_eq_true rfl, Nat.le_of_ble_eq_true rfl⟩ (dg ddX5_snapsIn 9 rfl) (fun H locs hP hD hS => ?_)
    refine lv_if_ne (tgt := 43) hx hb (dg ddX5_snapsIn 10 rfl) (by decide) (fun h3 => ?_) (fun h3 => ?_)
    · have hf := it_f h3 hf
      refine lv_iconst (v := 0) hx hb (dg ddX5_snapsIn 23 rfl) (by decide) ?_
      cases hf
      exact e_wi CX hr hlk rfl hP hD hS (dg ddX5_snapsIn 24 rfl)
    · have hf := it_t h3 hf
      refine lv_aload_n hx hb (dg ddX5_snapsIn 11 rfl) rfl (lv_at hl 0 rfl) ?_
      refine lv_iconst (v := 2) hx hb (dg ddX5_snapsIn 12 rfl) (by decide) ?_
      refine lv_aload_n hx hb (dg ddX5_snapsIn 13 rfl) rfl (lv_at hl 0 rfl) ?_
      refine lv_iload_n hx hb (dg ddX5_snapsIn 14 rfl) rfl (lv_at hl 1 rfl) ?_
      refine lv_iconst (v := 0) hx hb (dg ddX5_snapsIn 15 rfl) (by decide) ?_
      obtain ⟨r5, e4, hf⟩ := ob_some hf
      refine cro_vi CX hml (As := [.int a1, .int 0]) (rest := [.int 2, .ref (q 0)]) (c_X5_of l D cy q r2.2 m_kept m_rea m_det m_isv m_iit m_len m_at m_err m_wro m_cmd m_to1 m_to2 m_now m_sav m_ahe m_bef m_hst m_noi m_own m_inp a1 0 e4) lk_RX5_100 rfl rfl hRMX5_of hP hK hN 0 rfl rfl rfl hl.1 rfl (Nat.le_of_ble_eq_true rfl) ⟨Nat.le_of_ble_eq_true rfl, Nat.le_of_ble_eq_true rfl⟩ (dg ddX5_snapsIn 16 rfl) ?_
      refine lv_if_eq (tgt := 36) hx hb (dg ddX5_snapsIn 17 rfl) (by decide) (fun h6 => ?_) (fun h6 => ?_)
      · have hf := it_t h6 hf
        refine lv_iconst (v := 0) hx hb (dg ddX5_snapsIn 20 rfl) (by decide) ?_
        exact K37  0 2 r2.2 _ _ hP hD hS _ (lv_sub hl [0, 1] rfl) hf
      · have hf := it_f h6 hf
        refine lv_iconst (v := 1) hx hb (dg ddX5_snapsIn 18 rfl) (by decide) ?_
        refine lv_goto (tgt := 37) hx hb (dg ddX5_snapsIn 19 rfl) (by decide) ?_
        exact K37  1 2 r2.2 _ _ hP hD hS _ (lv_sub hl [0, 1] rfl) hf
  refine lv_aload_n hx hb (dg ddX5_snapsIn 0 rfl) rfl (lv_at hl 0 rfl) ?_
  refine lv_iconst (v := 1) hx hb (dg ddX5_snapsIn 1 rfl) (by decide) ?_
  refine lv_aload_n hx hb (dg ddX5_snapsIn 2 rfl) rfl (lv_at hl 0 rfl) ?_
  refine lv_iload_n hx hb (dg ddX5_snapsIn 3 rfl) rfl (lv_at hl 1 rfl) ?_
  obtain ⟨r2, e1, hf⟩ := ob_some hf
  refine cro_vi CX hml (As := [.int a1]) (rest := [.int 1, .ref (q 0)]) (c_X5_isBusker l D cy q m_thr m_kept m_rea m_det m_isv m_iit m_len m_at m_err m_wro m_cmd m_to1 m_to2 m_now m_sav m_ahe m_bef m_hst m_noi m_own m_inp a1 e1) lk_RX5_114 rfl rfl hRMX5_isBusker hP hK hN 0 rfl rfl rfl hl.1 rfl (Nat.le_of_ble_eq_true rfl) ⟨Nat.le_of_ble_eq_true rfl, Nat.le_of_ble_eq_true rfl⟩ (dg ddX5_snapsIn 4 rfl) ?_
  refine lv_if_ne (tgt := 14) hx hb (dg ddX5_snapsIn 5 rfl) (by decide) (fun h3 => ?_) (fun h3 => ?_)
  · have hf := it_f h3 hf
    refine lv_iconst (v := 0) hx hb (dg ddX5_snapsIn 8 rfl) (by decide) ?_
    exact K15  0 1 m_thr _ _ hP hD hS _ (lv_sub hl [0, 1] rfl) hf
  · have hf := it_t h3 hf
    refine lv_iconst (v := 1) hx hb (dg ddX5_snapsIn 6 rfl) (by decide) ?_
    refine lv_goto (tgt := 15) hx hb (dg ddX5_snapsIn 7 rfl) (by decide) ?_
    exact K15  1 1 m_thr _ _ hP hD hS _ (lv_sub hl [0, 1] rfl) hf
def f_X5_answer_c37  (m_iit : Int32) (a1 : Int32) (t0 : Int32) (t2 : Int32) (m_thr : Int32) (m_kept : Int32) (m_rea : Int32) (m_det : Int32) (m_now : Nat → Int32) (m_hst : Nat → Nat → Int32) : Option (Int32 × Int32 × Int32 × Int32 × Int32 × (Nat → Int32) × (Nat → Nat → Int32)) := ob (f_X5_refuse m_rea m_det t0 9 a1) fun r2 => (ob (f_X5_fails m_thr t2 r2.1) fun r4 => (if r4.1 = 0 then (ob (f_X5_change m_kept m_iit m_now m_hst) fun r7 => (ob (f_X5_ofPitch m_now a1 1) fun r9 => (ob (f_X5_putPitch m_now a1 1 0) fun r11 => (og (inb 4 112) (og (inb 4 112) (some (r9, r4.2, r7.1, r2.2.1, r2.2.2, (upd r11 (4 : Int32).toNatClampNeg ((r11 (4 : Int32).toNatClampNeg) + r9)), r7.2))))))) else (some (0, r4.2, m_kept, r2.2.1, r2.2.2, m_now, m_hst))))
def f_X5_answer_c14  (m_iit : Int32) (a1 : Int32) (t0 : Int32) (t1 : Int32) (m_thr : Int32) (m_kept : Int32) (m_rea : Int32) (m_det : Int32) (m_now : Nat → Int32) (m_hst : Nat → Nat → Int32) : Option (Int32 × Int32 × Int32 × Int32 × Int32 × (Nat → Int32) × (Nat → Nat → Int32)) := ob (f_X5_fails m_thr t1 t0) fun r2 => (if r2.1 = 0 then (ob (f_X5_ofPitch m_now a1 1) fun r5 => (if r5 = 0 then (f_X5_answer_c37 m_iit a1 1 2 r2.2 m_kept m_rea m_det m_now m_hst) else (f_X5_answer_c37 m_iit a1 0 2 r2.2 m_kept m_rea m_det m_now m_hst))) else (some (0, r2.2, m_kept, m_rea, m_det, m_now, m_hst)))
def f_X5_answer (m_thr : Int32) (m_kept : Int32) (m_rea : Int32) (m_det : Int32) (m_iit : Int32) (m_now : Nat → Int32) (m_hst : Nat → Nat → Int32) (a1 : Int32) : Option (Int32 × Int32 × Int32 × Int32 × Int32 × (Nat → Int32) × (Nat → Nat → Int32)) := ob (f_X5_isPitch a1) fun r2 => (if r2 = 0 then (f_X5_answer_c14 m_iit a1 1 1 m_thr m_kept m_rea m_det m_now m_hst) else (f_X5_answer_c14 m_iit a1 0 1 m_thr m_kept m_rea m_det m_now m_hst))
set_option maxHeartbeats 4000000 in
set_option maxRecDepth 100000 in
theorem c_X5_answer (l : Launch) (D : va_G) (cy : Nat → ClassId) (q : Nat → Nat) (m_thr : Int32) (m_kept : Int32) (m_rea : Int32) (m_det : Int32) (m_isv : Int32) (m_iit : Int32) (m_len : Int32) (m_at : Int32) (m_err : Int32) (m_wro : Int32) (m_cmd : Int32) (m_to1 : Int32) (m_to2 : Int32) (m_now : Nat → Int32) (m_sav : Nat → Int32) (m_ahe : Nat → Int32) (m_bef : Nat → Int32) (m_hst : Nat → Nat → Int32) (m_noi : Nat → UInt32) (m_own : Nat → UInt32) (m_inp : Nat → Int32) (a1 : Int32) (sz : Nat) {res : Int32 × Int32 × Int32 × Int32 × Int32 × (Nat → Int32) × (Nat → Nat → Int32)} (hf : f_X5_answer m_thr m_kept m_rea m_det m_iit m_now m_hst a1 = some res) : Met l yX5_answer (.code yX5_answer cX5_answer 3 (some .int) :: lw_all) { frames := 4, cells := 0, slots := 0, locals := 76 } (va_Pc [.ref (q 0), .int a1] (sW D cy (wX5 q cy m_thr m_kept m_rea m_det m_isv m_iit m_len m_at m_err m_wro m_cmd m_to1 m_to2 m_now m_sav m_ahe m_bef m_hst m_noi m_own m_inp) sz)) (qI D (wX5 q cy res.2.1 res.2.2.1 res.2.2.2.1 res.2.2.2.2.1 m_isv m_iit m_len m_at m_err m_wro m_cmd m_to1 m_to2 res.2.2.2.2.2.1 m_sav m_ahe m_bef res.2.2.2.2.2.2 m_noi m_own m_inp) res.1 (va_A (wX5 q cy m_thr m_kept m_rea m_det m_isv m_iit m_len m_at m_err m_wro m_cmd m_to1 m_to2 m_now m_sav m_ahe m_bef m_hst m_noi m_own m_inp) sz)) 0 0 (va_A (wX5 q cy m_thr m_kept m_rea m_det m_isv m_iit m_len m_at m_err m_wro m_cmd m_to1 m_to2 m_now m_sav m_ahe m_bef m_hst m_noi m_own m_inp) sz) := by
  refine mk_rw (Qc := qI D (wX5 q cy res.2.1 res.2.2.1 res.2.2.2.1 res.2.2.2.2.1 m_isv m_iit m_len m_at m_err m_wro m_cmd m_to1 m_to2 res.2.2.2.2.2.1 m_sav m_ahe m_bef res.2.2.2.2.2.2 m_noi m_own m_inp) res.1) (Rc := RX5) (by decide +kernel) rfl (Nat.le_of_ble_eq_true rfl) ?_
  intro p e s m args below meth c ls A CX hml hr hlk hK hN hP hD hS hA hl
  have hx := CX.1
  have hb := CX.2.1
  have hRMX5_change : (⟨3, 0, 0, 56⟩ : Room).frames + 1 ≤ (⟨4, 0, 0, 76⟩ : Room).frames ∧ 8 + (1 + 11) + (⟨3, 0, 0, 56⟩ : Room).locals ≤ (⟨4, 0, 0, 76⟩ : Room).locals := ⟨Nat.le_of_ble_eq_true rfl, Nat.le_of_ble_eq_true rfl⟩
  have hRMX5_fails : (⟨1, 0, 0, 12⟩ : Room).frames + 1 ≤ (⟨4, 0, 0, 76⟩ : Room).frames ∧ 8 + (3 + 11) + (⟨1, 0, 0, 12⟩ : Room).locals ≤ (⟨4, 0, 0, 76⟩ : Room).locals := ⟨Nat.le_of_ble_eq_true rfl, Nat.le_of_ble_eq_true rfl⟩
  have hRMX5_isPitch : (⟨2, 0, 0, 34⟩ : Room).frames + 1 ≤ (⟨4, 0, 0, 76⟩ : Room).frames ∧ 8 + (1 + 11) + (⟨2, 0, 0, 34⟩ : Room).locals ≤ (⟨4, 0, 0, 76⟩ : Room).locals := ⟨Nat.le_of_ble_eq_true rfl, Nat.le_of_ble_eq_true rfl⟩
  have hRMX5_ofPitch : (⟨1, 0, 0, 12⟩ : Room).frames + 1 ≤ (⟨4, 0, 0, 76⟩ : Room).frames ∧ 8 + (3 + 11) + (⟨1, 0, 0, 12⟩ : Room).locals ≤ (⟨4, 0, 0, 76⟩ : Room).locals := ⟨Nat.le_of_ble_eq_true rfl, Nat.le_of_ble_eq_true rfl⟩
  have hRMX5_putPitch : (⟨1, 0, 0, 12⟩ : Room).frames + 1 ≤ (⟨4, 0, 0, 76⟩ : Room).frames ∧ 8 + (4 + 11) + (⟨1, 0, 0, 12⟩ : Room).locals ≤ (⟨4, 0, 0, 76⟩ : Room).locals := ⟨Nat.le_of_ble_eq_true rfl, Nat.le_of_ble_eq_true rfl⟩
  have hRMX5_refuse : (⟨1, 0, 0, 12⟩ : Room).frames + 1 ≤ (⟨4, 0, 0, 76⟩ : Room).frames ∧ 8 + (4 + 11) + (⟨1, 0, 0, 12⟩ : Room).locals ≤ (⟨4, 0, 0, 76⟩ : Room).locals := ⟨Nat.le_of_ble_eq_true rfl, Nat.le_of_ble_eq_true rfl⟩
  have hl0 := hl
  have K37 : ∀ (t0 : Int32) (t2 : Int32) (m_thr : Int32) (m_kept : Int32) (m_rea : Int32) (m_det : Int32) (m_now : Nat → Int32) (m_hst : Nat → Nat → Int32) (H : Heap) (locs : List Loc) (hP : va_P D vwCl (wX5 q cy m_thr m_kept m_rea m_det m_isv m_iit m_len m_at m_err m_wro m_cmd m_to1 m_to2 m_now m_sav m_ahe m_bef m_hst m_noi m_own m_inp) H) (hD : va_D A (wX5 q cy m_thr m_kept m_rea m_det m_isv m_iit m_len m_at m_err m_wro m_cmd m_to1 m_to2 m_now m_sav m_ahe m_bef m_hst m_noi m_own m_inp)) (hS : va_S A s.heap H locs) (ls : Array Slot) (hl : lv_has ls 3 [(0, .ref (q 0)), (1, .int a1)]) (hf : f_X5_answer_c37 m_iit a1 t0 t2 m_thr m_kept m_rea m_det m_now m_hst = some res), W p l e ⟨4, 0, 0, 76⟩ s m args below meth c H locs 0 0 (MQ below (qI D (wX5 q cy res.2.1 res.2.2.1 res.2.2.2.1 res.2.2.2.2.1 m_isv m_iit m_len m_at m_err m_wro m_cmd m_to1 m_to2 res.2.2.2.2.2.1 m_sav m_ahe m_bef res.2.2.2.2.2.2 m_noi m_own m_inp) res.1 A) args s 0 0 A) (F0 m 37 ls [.int t0, .ref (q 0), .int t2, .ref (q 0)]) := by
    intro t0 t2 m_thr m_kept m_rea m_det m_now m_hst H locs hP hD hS ls hl hf
    refine lv_bipush (v := 9) hx hb (dg ddX5_answer 21 rfl) (by decide) ?_
    refine lv_iload_n hx hb (dg ddX5_answer 22 rfl) rfl (lv_at hl 1 rfl) ?_
    obtain ⟨r2, e1, hf⟩ := ob_some hf
    refine crw_vi CX hml (As := [.int t0, .int 9, .int a1]) (rest := [.int t2, .ref (q 0)]) (c_X5_refuse l D cy q m_thr m_kept m_rea m_det m_isv m_iit m_len m_at m_err m_wro m_cmd m_to1 m_to2 m_now m_sav m_ahe m_bef m_hst m_noi m_own m_inp t0 9 a1 _ e1) lk_RX5_106 rfl rfl hRMX5_refuse hP hD hS hA hK hN 0 rfl rfl rfl hl.1 rfl (Nat.le_of_ble_eq_true rfl) ⟨Nat.le_of_ble_eq_true rfl, Nat.le_of_ble_eq_true rfl⟩ (dg ddX5_answer 23 rfl) (fun H locs hP hD hS => ?_)
    obtain ⟨r4, e3, hf⟩ := ob_some hf
    refine crw_vi CX hml (As := [.int t2, .int r2.1]) (rest := []) (c_X5_fails l D cy q m_thr m_kept r2.2.1 r2.2.2 m_isv m_iit m_len m_at m_err m_wro m_cmd m_to1 m_to2 m_now m_sav m_ahe m_bef m_hst m_noi m_own m_inp t2 r2.1 _ e3) lk_RX5_81 rfl rfl hRMX5_fails hP hD hS hA hK hN 0 rfl rfl rfl hl.1 rfl (Nat.le_of_ble_eq_true rfl) ⟨Nat.le_of_ble_eq_true rfl, Nat.le_of_ble_eq_true rfl⟩ (dg ddX5_answer 24 rfl) (fun H locs hP hD hS => ?_)
    refine lv_if_eq (tgt := 51) hx hb (dg ddX5_answer 25 rfl) (by decide) (fun h5 => ?_) (fun h5 => ?_)
    · have hf := it_t h5 hf
      refine lv_aload_n hx hb (dg ddX5_answer 28 rfl) rfl (lv_at hl 0 rfl) ?_
      obtain ⟨r7, e6, hf⟩ := ob_some hf
      refine crw_vv CX hml (As := []) (rest := []) (c_X5_change l D cy q r4.2 m_kept r2.2.1 r2.2.2 m_isv m_iit m_len m_at m_err m_wro m_cmd m_to1 m_to2 m_now m_sav m_ahe m_bef m_hst m_noi m_own m_inp _ e6) lk_RX5_85 rfl rfl hRMX5_change hP hD hS hA hK hN 0 rfl rfl rfl hl.1 rfl (Nat.le_of_ble_eq_true rfl) ⟨Nat.le_of_ble_eq_true rfl, Nat.le_of_ble_eq_true rfl⟩ (dg ddX5_answer 29 rfl) (fun H locs hP hD hS => ?_)
      refine lv_aload_n hx hb (dg ddX5_answer 30 rfl) rfl (lv_at hl 0 rfl) ?_
      refine lv_iload_n hx hb (dg ddX5_answer 31 rfl) rfl (lv_at hl 1 rfl) ?_
      refine lv_iconst (v := 1) hx hb (dg ddX5_answer 32 rfl) (by decide) ?_
      obtain ⟨r9, e8, hf⟩ := ob_some hf
      refine cro_vi CX hml (As := [.int a1, .int 1]) (rest := []) (c_X5_ofPitch l D cy q r4.2 r7.1 r2.2.1 r2.2.2 m_isv m_iit m_len m_at m_err m_wro m_cmd m_to1 m_to2 m_now m_sav m_ahe m_bef r7.2 m_noi m_own m_inp a1 1 e8) lk_RX5_88 rfl rfl hRMX5_ofPitch hP hK hN 0 rfl rfl rfl hl.1 rfl (Nat.le_of_ble_eq_true rfl) ⟨Nat.le_of_ble_eq_true rfl, Nat.le_of_ble_eq_true rfl⟩ (dg ddX5_answer 33 rfl) ?_
      refine lv_istore_n (lv' := [(2, .int r9), (0, .ref (q 0)), (1, .int a1)]) hx hb (dg ddX5_answer 34 rfl) rfl hl (by decide) rfl (fun ls hl => ?_)
      refine lv_aload_n hx hb (dg ddX5_answer 35 rfl) rfl (lv_at hl 1 rfl) ?_
      refine lv_iload_n hx hb (dg ddX5_answer 36 rfl) rfl (lv_at hl 2 rfl) ?_
      refine lv_iconst (v := 1) hx hb (dg ddX5_answer 37 rfl) (by decide) ?_
      refine lv_iconst (v := 0) hx hb (dg ddX5_answer 38 rfl) (by decide) ?_
      obtain ⟨r11, e10, hf⟩ := ob_some hf
      refine crw_vv CX hml (As := [.int a1, .int 1, .int 0]) (rest := []) (c_X5_putPitch l D cy q r4.2 r7.1 r2.2.1 r2.2.2 m_isv m_iit m_len m_at m_err m_wro m_cmd m_to1 m_to2 m_now m_sav m_ahe m_bef r7.2 m_noi m_own m_inp a1 1 0 _ e10) lk_RX5_49 rfl rfl hRMX5_putPitch hP hD hS hA hK hN 0 rfl rfl rfl hl.1 rfl (Nat.le_of_ble_eq_true rfl) ⟨Nat.le_of_ble_eq_true rfl, Nat.le_of_ble_eq_true rfl⟩ (dg ddX5_answer 39 rfl) (fun H locs hP hD hS => ?_)
      refine lv_aload_n hx hb (dg ddX5_answer 40 rfl) rfl (lv_at hl 1 rfl) ?_
      refine gf_RX5_9 CX hK hP 0 rfl rfl (dg ddX5_answer 41 rfl) ?_
      refine lv_iconst (v := 4) hx hb (dg ddX5_answer 42 rfl) (by decide) ?_
      refine lv_dup2_11 hx hb (dg ddX5_answer 43 rfl) rfl rfl ?_
      obtain ⟨h12, hf⟩ := og_some hf
      refine va_iald hx hb hK hP 1 0 rfl rfl (inb_in h12) (dg ddX5_answer 44 rfl) ?_
      refine lv_iload_n hx hb (dg ddX5_answer 45 rfl) rfl (lv_at hl 0 rfl) ?_
      refine lv_iadd hx hb (dg ddX5_answer 46 rfl) ?_
      obtain ⟨h13, hf⟩ := og_some hf
      refine va_iast hx hb hK hP hD hS 1 0 rfl rfl (inb_in h13) (dg ddX5_answer 47 rfl) (fun H locs hP hD hS => ?_)
      have hP : va_P D vwCl (wX5 q cy r4.2 r7.1 r2.2.1 r2.2.2 m_isv m_iit m_len m_at m_err m_wro m_cmd m_to1 m_to2 (upd r11 (4 : Int32).toNatClampNeg ((r11 (4 : Int32).toNatClampNeg) + r9)) m_sav m_ahe m_bef r7.2 m_noi m_own m_inp) H := hP
      have hD : va_D A (wX5 q cy r4.2 r7.1 r2.2.1 r2.2.2 m_isv m_iit m_len m_at m_err m_wro m_cmd m_to1 m_to2 (upd r11 (4 : Int32).toNatClampNeg ((r11 (4 : Int32).toNatClampNeg) + r9)) m_sav m_ahe m_bef r7.2 m_noi m_own m_inp) := hD
      refine lv_iload_n hx hb (dg ddX5_answer 48 rfl) rfl (lv_at hl 0 rfl) ?_
      cases hf
      exact e_wi CX hr hlk rfl hP hD hS (dg ddX5_answer 49 rfl)
    · have hf := it_f h5 hf
      refine lv_iconst (v := 0) hx hb (dg ddX5_answer 26 rfl) (by decide) ?_
      cases hf
      exact e_wi CX hr hlk rfl hP hD hS (dg ddX5_answer 27 rfl)
  have K14 : ∀ (t0 : Int32) (t1 : Int32) (m_thr : Int32) (m_kept : Int32) (m_rea : Int32) (m_det : Int32) (m_now : Nat → Int32) (m_hst : Nat → Nat → Int32) (H : Heap) (locs : List Loc) (hP : va_P D vwCl (wX5 q cy m_thr m_kept m_rea m_det m_isv m_iit m_len m_at m_err m_wro m_cmd m_to1 m_to2 m_now m_sav m_ahe m_bef m_hst m_noi m_own m_inp) H) (hD : va_D A (wX5 q cy m_thr m_kept m_rea m_det m_isv m_iit m_len m_at m_err m_wro m_cmd m_to1 m_to2 m_now m_sav m_ahe m_bef m_hst m_noi m_own m_inp)) (hS : va_S A s.heap H locs) (ls : Array Slot) (hl : lv_has ls 3 [(0, .ref (q 0)), (1, .int a1)]) (hf : f_X5_answer_c14 m_iit a1 t0 t1 m_thr m_kept m_rea m_det m_now m_hst = some res), W p l e ⟨4, 0, 0, 76⟩ s m args below meth c H locs 0 0 (MQ below (qI D (wX5 q cy res.2.1 res.2.2.1 res.2.2.2.1 res.2.2.2.2.1 m_isv m_iit m_len m_at m_err m_wro m_cmd m_to1 m_to2 res.2.2.2.2.2.1 m_sav m_ahe m_bef res.2.2.2.2.2.2 m_noi m_own m_inp) res.1 A) args s 0 0 A) (F0 m 14 ls [.int t0, .int t1, .ref (q 0)]) := by
    intro t0 t1 m_thr m_kept m_rea m_det m_now m_hst H locs hP hD hS ls hl hf
    obtain ⟨r2, e1, hf⟩ := ob_some hf
    refine crw_vi CX hml (As := [.int t1, .int t0]) (rest := []) (c_X5_fails l D cy q m_thr m_kept m_rea m_det m_isv m_iit m_len m_at m_err m_wro m_cmd m_to1 m_to2 m_now m_sav m_ahe m_bef m_hst m_noi m_own m_inp t1 t0 _ e1) lk_RX5_81 rfl rfl hRMX5_fails hP hD hS hA hK hN 0 rfl rfl rfl hl.1 rfl (Nat.le_of_ble_eq_true rfl) ⟨Nat.le_of_ble_eq_true rfl, Nat.le_of_ble_eq_true rfl⟩ (dg ddX5_answer 8 rfl) (fun H locs hP hD hS => ?_)
    refine lv_if_ne (tgt := 49) hx hb (dg ddX5_answer 9 rfl) (by decide) (fun h3 => ?_) (fun h3 => ?_)
    · have hf := it_f h3 hf
      refine lv_iconst (v := 0) hx hb (dg ddX5_answer 26 rfl) (by decide) ?_
      cases hf
      exact e_wi CX hr hlk rfl hP hD hS (dg ddX5_answer 27 rfl)
    · have hf := it_t h3 hf
      refine lv_aload_n hx hb (dg ddX5_answer 10 rfl) rfl (lv_at hl 0 rfl) ?_
      refine lv_iconst (v := 2) hx hb (dg ddX5_answer 11 rfl) (by decide) ?_
      refine lv_aload_n hx hb (dg ddX5_answer 12 rfl) rfl (lv_at hl 0 rfl) ?_
      refine lv_aload_n hx hb (dg ddX5_answer 13 rfl) rfl (lv_at hl 0 rfl) ?_
      refine lv_iload_n hx hb (dg ddX5_answer 14 rfl) rfl (lv_at hl 1 rfl) ?_
      refine lv_iconst (v := 1) hx hb (dg ddX5_answer 15 rfl) (by decide) ?_
      obtain ⟨r5, e4, hf⟩ := ob_some hf
      refine cro_vi CX hml (As := [.int a1, .int 1]) (rest := [.ref (q 0), .int 2, .ref (q 0)]) (c_X5_ofPitch l D cy q r2.2 m_kept m_rea m_det m_isv m_iit m_len m_at m_err m_wro m_cmd m_to1 m_to2 m_now m_sav m_ahe m_bef m_hst m_noi m_own m_inp a1 1 e4) lk_RX5_88 rfl rfl hRMX5_ofPitch hP hK hN 0 rfl rfl rfl hl.1 rfl (Nat.le_of_ble_eq_true rfl) ⟨Nat.le_of_ble_eq_true rfl, Nat.le_of_ble_eq_true rfl⟩ (dg ddX5_answer 16 rfl) ?_
      refine lv_if_ne (tgt := 36) hx hb (dg ddX5_answer 17 rfl) (by decide) (fun h6 => ?_) (fun h6 => ?_)
      · have hf := it_f h6 hf
        refine lv_iconst (v := 0) hx hb (dg ddX5_answer 20 rfl) (by decide) ?_
        exact K37  0 2 r2.2 m_kept m_rea m_det m_now m_hst _ _ hP hD hS _ (lv_sub hl [0, 1] rfl) hf
      · have hf := it_t h6 hf
        refine lv_iconst (v := 1) hx hb (dg ddX5_answer 18 rfl) (by decide) ?_
        refine lv_goto (tgt := 37) hx hb (dg ddX5_answer 19 rfl) (by decide) ?_
        exact K37  1 2 r2.2 m_kept m_rea m_det m_now m_hst _ _ hP hD hS _ (lv_sub hl [0, 1] rfl) hf
  refine lv_aload_n hx hb (dg ddX5_answer 0 rfl) rfl (lv_at hl 0 rfl) ?_
  refine lv_iconst (v := 1) hx hb (dg ddX5_answer 1 rfl) (by decide) ?_
  refine lv_iload_n hx hb (dg ddX5_answer 2 rfl) rfl (lv_at hl 1 rfl) ?_
  obtain ⟨r2, e1, hf⟩ := ob_some hf
  refine cro_si CX hml (As := [.int a1]) (rest := [.int 1, .ref (q 0)]) (c_X5_isPitch l D cy a1 e1) lk_RX5_96 rfl rfl hRMX5_isPitch vaP_nil hK hN rfl hl.1 rfl (Nat.le_of_ble_eq_true rfl) ⟨Nat.le_of_ble_eq_true rfl, Nat.le_of_ble_eq_true rfl⟩ (dg ddX5_answer 3 rfl) ?_
  refine lv_if_ne (tgt := 13) hx hb (dg ddX5_answer 4 rfl) (by decide) (fun h3 => ?_) (fun h3 => ?_)
  · have hf := it_f h3 hf
    refine lv_iconst (v := 0) hx hb (dg ddX5_answer 7 rfl) (by decide) ?_
    exact K14  0 1 m_thr m_kept m_rea m_det m_now m_hst _ _ hP hD hS _ (lv_sub hl [0, 1] rfl) hf
  · have hf := it_t h3 hf
    refine lv_iconst (v := 1) hx hb (dg ddX5_answer 5 rfl) (by decide) ?_
    refine lv_goto (tgt := 14) hx hb (dg ddX5_answer 6 rfl) (by decide) ?_
    exact K14  1 1 m_thr m_kept m_rea m_det m_now m_hst _ _ hP hD hS _ (lv_sub hl [0, 1] rfl) hf
def f_X5_isRack (a1 : Int32) : Option (Int32) := ob (f_X5_isBetween a1 0 1) fun r2 => (og (isZ r2) (some r2))
set_option maxHeartbeats 4000000 in
set_option maxRecDepth 100000 in
theorem c_X5_isRack (l : Launch) (D : va_G) (cy : Nat → ClassId) (a1 : Int32) {res : Int32} (hf : f_X5_isRack a1 = some res) : Met l yX5_isRack (.code yX5_isRack cX5_isRack 1 (some .boolean) :: lw_all) { frames := 2, cells := 0, slots := 0, locals := 34 } (va_Pc [.int a1] (sR D cy [])) (vp_Si (fun r => r = res)) 0 0 (fun _ => False) := by
  refine mk_ro (Rc := RX5) (by decide +kernel) rfl (Nat.le_of_ble_eq_true rfl) ?_
  intro p e s m args below meth c ls CX hml hr hlk hK hN hP hl
  have hx := CX.1
  have hb := CX.2.1
  have hRMX5_isBetween : (⟨1, 0, 0, 12⟩ : Room).frames + 1 ≤ (⟨2, 0, 0, 34⟩ : Room).frames ∧ 8 + (3 + 11) + (⟨1, 0, 0, 12⟩ : Room).locals ≤ (⟨2, 0, 0, 34⟩ : Room).locals := ⟨Nat.le_of_ble_eq_true rfl, Nat.le_of_ble_eq_true rfl⟩
  refine lv_iload_n hx hb (dg ddX5_isRack 0 rfl) rfl (lv_at hl 0 rfl) ?_
  refine lv_iconst (v := 0) hx hb (dg ddX5_isRack 1 rfl) (by decide) ?_
  refine lv_iconst (v := 1) hx hb (dg ddX5_isRack 2 rfl) (by decide) ?_
  obtain ⟨r2, e1, hf⟩ := ob_some hf
  refine cro_si CX hml (As := [.int a1, .int 0, .int 1]) (rest := []) (c_X5_isBetween l D cy a1 0 1 e1) lk_RX5_77 rfl rfl hRMX5_isBetween vaP_nil hK hN rfl hl.1 rfl (Nat.le_of_ble_eq_true rfl) ⟨Nat.le_of_ble_eq_true rfl, Nat.le_of_ble_eq_true rfl⟩ (dg ddX5_isRack 3 rfl) ?_
  obtain ⟨h3, hf⟩ := og_some hf
  exact e_rz CX hr hlk (isZ_n h3) (Option.some.inj hf) (dg ddX5_isRack 4 rfl)
def f_X5_caseOn_c2  (m_now : Nat → Int32) (a1 : Int32) (a2 : Int32) : Nat → Int32 → Option (Int32)
  | 0, _ => none
  | n + 1, x3 => og (inb 2 112) (if (m_now (2 : Int32).toNatClampNeg) ≤ x3 then (some (-1)) else (ob (f_X5_of m_now x3 0) fun r4 => (if r4 = a1 then (ob (f_X5_of m_now x3 5) fun r7 => (if r7 = a2 then (some x3) else (f_X5_caseOn_c2 m_now a1 a2 n (x3 + 1)))) else (f_X5_caseOn_c2 m_now a1 a2 n (x3 + 1)))))
def f_X5_caseOn (m_now : Nat → Int32) (a1 : Int32) (a2 : Int32) : Option (Int32) := f_X5_caseOn_c2 m_now a1 a2 4096 0
set_option maxHeartbeats 4000000 in
set_option maxRecDepth 100000 in
theorem c_X5_caseOn (l : Launch) (D : va_G) (cy : Nat → ClassId) (q : Nat → Nat) (m_thr : Int32) (m_kept : Int32) (m_rea : Int32) (m_det : Int32) (m_isv : Int32) (m_iit : Int32) (m_len : Int32) (m_at : Int32) (m_err : Int32) (m_wro : Int32) (m_cmd : Int32) (m_to1 : Int32) (m_to2 : Int32) (m_now : Nat → Int32) (m_sav : Nat → Int32) (m_ahe : Nat → Int32) (m_bef : Nat → Int32) (m_hst : Nat → Nat → Int32) (m_noi : Nat → UInt32) (m_own : Nat → UInt32) (m_inp : Nat → Int32) (a1 : Int32) (a2 : Int32) {res : Int32} (hf : f_X5_caseOn m_now a1 a2 = some res) : Met l yX5_caseOn (.code yX5_caseOn cX5_caseOn 4 (some .int) :: lw_all) { frames := 2, cells := 0, slots := 0, locals := 34 } (va_Pc [.ref (q 0), .int a1, .int a2] (sR D cy (wX5 q cy m_thr m_kept m_rea m_det m_isv m_iit m_len m_at m_err m_wro m_cmd m_to1 m_to2 m_now m_sav m_ahe m_bef m_hst m_noi m_own m_inp))) (vp_Si (fun r => r = res)) 0 0 (fun _ => False) := by
  refine mk_ro (Rc := RX5) (by decide +kernel) rfl (Nat.le_of_ble_eq_true rfl) ?_
  intro p e s m args below meth c ls CX hml hr hlk hK hN hP hl
  have hx := CX.1
  have hb := CX.2.1
  have hRMX5_of : (⟨1, 0, 0, 12⟩ : Room).frames + 1 ≤ (⟨2, 0, 0, 34⟩ : Room).frames ∧ 8 + (3 + 11) + (⟨1, 0, 0, 12⟩ : Room).locals ≤ (⟨2, 0, 0, 34⟩ : Room).locals := ⟨Nat.le_of_ble_eq_true rfl, Nat.le_of_ble_eq_true rfl⟩
  have hl0 := hl
  have K2 : ∀ (n : Nat), ∀ (x3 : Int32) (ls : Array Slot) (hl : lv_has ls 4 [(0, .ref (q 0)), (1, .int a1), (2, .int a2), (3, .int x3)]) (hf : f_X5_caseOn_c2 m_now a1 a2 n x3 = some res), W p l e ⟨2, 0, 0, 34⟩ s m args below meth c s.heap [] 0 0 (MQ below (vp_Si (fun r => r = res)) args s 0 0 (fun _ => False)) (F0 m 2 ls []) := by
    intro n
    induction n with
    | zero => intro x3 ls hl hf; cases (show none = some res from hf)
    | succ n ih =>
    intro x3 ls hl hf
    refine lv_iload_n hx hb (dg ddX5_caseOn 2 rfl) rfl (lv_at hl 3 rfl) ?_
    refine lv_aload_n hx hb (dg ddX5_caseOn 3 rfl) rfl (lv_at hl 0 rfl) ?_
    refine gf_RX5_9 CX hK hP 0 rfl rfl (dg ddX5_caseOn 4 rfl) ?_
    refine lv_iconst (v := 2) hx hb (dg ddX5_caseOn 5 rfl) (by decide) ?_
    obtain ⟨h1, hf⟩ := og_some hf
    refine va_iald hx hb hK hP 1 0 rfl rfl (inb_in h1) (dg ddX5_caseOn 6 rfl) ?_
    refine lv_icmp_ge (tgt := 40) hx hb (dg ddX5_caseOn 7 rfl) (by decide) (fun h2 => ?_) (fun h2 => ?_)
    · have hf := it_t h2 hf
      refine lv_iconst (v := (-1)) hx hb (dg ddX5_caseOn 24 rfl) (by decide) ?_
      exact e_ri CX hr hlk (Option.some.inj hf) (dg ddX5_caseOn 25 rfl)
    · have hf := it_f h2 hf
      refine lv_aload_n hx hb (dg ddX5_caseOn 8 rfl) rfl (lv_at hl 0 rfl) ?_
      refine lv_iload_n hx hb (dg ddX5_caseOn 9 rfl) rfl (lv_at hl 3 rfl) ?_
      refine lv_iconst (v := 0) hx hb (dg ddX5_caseOn 10 rfl) (by decide) ?_
      obtain ⟨r4, e3, hf⟩ := ob_some hf
      refine cro_vi CX hml (As := [.int x3, .int 0]) (rest := []) (c_X5_of l D cy q m_thr m_kept m_rea m_det m_isv m_iit m_len m_at m_err m_wro m_cmd m_to1 m_to2 m_now m_sav m_ahe m_bef m_hst m_noi m_own m_inp x3 0 e3) lk_RX5_100 rfl rfl hRMX5_of hP hK hN 0 rfl rfl rfl hl.1 rfl (Nat.le_of_ble_eq_true rfl) ⟨Nat.le_of_ble_eq_true rfl, Nat.le_of_ble_eq_true rfl⟩ (dg ddX5_caseOn 11 rfl) ?_
      refine lv_iload_n hx hb (dg ddX5_caseOn 12 rfl) rfl (lv_at hl 1 rfl) ?_
      refine lv_icmp_ne (tgt := 34) hx hb (dg ddX5_caseOn 13 rfl) (by decide) (fun h5 => ?_) (fun h5 => ?_)
      · have hf := it_f h5 hf
        refine lv_iinc (v := x3 + 1) (lv' := [(3, .int (x3 + 1)), (0, .ref (q 0)), (1, .int a1), (2, .int a2)]) hx hb (dg ddX5_caseOn 22 rfl) hl (k := 3) rfl (congrArg (HAdd.hAdd x3) (by decide)) (by decide) rfl (fun ls hl => ?_)
        refine lv_goto (tgt := 2) hx hb (dg ddX5_caseOn 23 rfl) (by decide) ?_
        exact ih (x3 + 1) _ (lv_sub hl [1, 2, 3, 0] rfl) hf
      · have hf := it_t h5 hf
        refine lv_aload_n hx hb (dg ddX5_caseOn 14 rfl) rfl (lv_at hl 0 rfl) ?_
        refine lv_iload_n hx hb (dg ddX5_caseOn 15 rfl) rfl (lv_at hl 3 rfl) ?_
        refine lv_iconst (v := 5) hx hb (dg ddX5_caseOn 16 rfl) (by decide) ?_
        obtain ⟨r7, e6, hf⟩ := ob_some hf
        refine cro_vi CX hml (As := [.int x3, .int 5]) (rest := []) (c_X5_of l D cy q m_thr m_kept m_rea m_det m_isv m_iit m_len m_at m_err m_wro m_cmd m_to1 m_to2 m_now m_sav m_ahe m_bef m_hst m_noi m_own m_inp x3 5 e6) lk_RX5_100 rfl rfl hRMX5_of hP hK hN 0 rfl rfl rfl hl.1 rfl (Nat.le_of_ble_eq_true rfl) ⟨Nat.le_of_ble_eq_true rfl, Nat.le_of_ble_eq_true rfl⟩ (dg ddX5_caseOn 17 rfl) ?_
        refine lv_iload_n hx hb (dg ddX5_caseOn 18 rfl) rfl (lv_at hl 2 rfl) ?_
        refine lv_icmp_ne (tgt := 34) hx hb (dg ddX5_caseOn 19 rfl) (by decide) (fun h8 => ?_) (fun h8 => ?_)
        · have hf := it_f h8 hf
          refine lv_iinc (v := x3 + 1) (lv' := [(3, .int (x3 + 1)), (0, .ref (q 0)), (1, .int a1), (2, .int a2)]) hx hb (dg ddX5_caseOn 22 rfl) hl (k := 3) rfl (congrArg (HAdd.hAdd x3) (by decide)) (by decide) rfl (fun ls hl => ?_)
          refine lv_goto (tgt := 2) hx hb (dg ddX5_caseOn 23 rfl) (by decide) ?_
          exact ih (x3 + 1) _ (lv_sub hl [1, 2, 3, 0] rfl) hf
        · have hf := it_t h8 hf
          refine lv_iload_n hx hb (dg ddX5_caseOn 20 rfl) rfl (lv_at hl 3 rfl) ?_
          exact e_ri CX hr hlk (Option.some.inj hf) (dg ddX5_caseOn 21 rfl)
  refine lv_iconst (v := 0) hx hb (dg ddX5_caseOn 0 rfl) (by decide) ?_
  refine lv_istore_n (lv' := [(3, .int 0), (0, .ref (q 0)), (1, .int a1), (2, .int a2)]) hx hb (dg ddX5_caseOn 1 rfl) rfl hl (by decide) rfl (fun ls hl => ?_)
  exact K2 4096 0 _ (lv_sub hl [1, 2, 3, 0] rfl) hf
def f_X5_freePlace_c2  (m_now : Nat → Int32) (a1 : Int32) : Nat → Int32 → Option (Int32)
  | 0, _ => none
  | n + 1, x2 => if 3 ≤ x2 then (some x2) else (ob (f_X5_caseOn m_now a1 x2) fun r3 => (if r3 = (-1) then (some x2) else (f_X5_freePlace_c2 m_now a1 n (x2 + 1))))
def f_X5_freePlace (m_now : Nat → Int32) (a1 : Int32) : Option (Int32) := f_X5_freePlace_c2 m_now a1 4096 0
set_option maxHeartbeats 4000000 in
set_option maxRecDepth 100000 in
theorem c_X5_freePlace (l : Launch) (D : va_G) (cy : Nat → ClassId) (q : Nat → Nat) (m_thr : Int32) (m_kept : Int32) (m_rea : Int32) (m_det : Int32) (m_isv : Int32) (m_iit : Int32) (m_len : Int32) (m_at : Int32) (m_err : Int32) (m_wro : Int32) (m_cmd : Int32) (m_to1 : Int32) (m_to2 : Int32) (m_now : Nat → Int32) (m_sav : Nat → Int32) (m_ahe : Nat → Int32) (m_bef : Nat → Int32) (m_hst : Nat → Nat → Int32) (m_noi : Nat → UInt32) (m_own : Nat → UInt32) (m_inp : Nat → Int32) (a1 : Int32) {res : Int32} (hf : f_X5_freePlace m_now a1 = some res) : Met l yX5_freePlace (.code yX5_freePlace cX5_freePlace 3 (some .int) :: lw_all) { frames := 3, cells := 0, slots := 0, locals := 57 } (va_Pc [.ref (q 0), .int a1] (sR D cy (wX5 q cy m_thr m_kept m_rea m_det m_isv m_iit m_len m_at m_err m_wro m_cmd m_to1 m_to2 m_now m_sav m_ahe m_bef m_hst m_noi m_own m_inp))) (vp_Si (fun r => r = res)) 0 0 (fun _ => False) := by
  refine mk_ro (Rc := RX5) (by decide +kernel) rfl (Nat.le_of_ble_eq_true rfl) ?_
  intro p e s m args below meth c ls CX hml hr hlk hK hN hP hl
  have hx := CX.1
  have hb := CX.2.1
  have hRMX5_caseOn : (⟨2, 0, 0, 34⟩ : Room).frames + 1 ≤ (⟨3, 0, 0, 57⟩ : Room).frames ∧ 8 + (4 + 11) + (⟨2, 0, 0, 34⟩ : Room).locals ≤ (⟨3, 0, 0, 57⟩ : Room).locals := ⟨Nat.le_of_ble_eq_true rfl, Nat.le_of_ble_eq_true rfl⟩
  have hl0 := hl
  have K2 : ∀ (n : Nat), ∀ (x2 : Int32) (ls : Array Slot) (hl : lv_has ls 3 [(0, .ref (q 0)), (1, .int a1), (2, .int x2)]) (hf : f_X5_freePlace_c2 m_now a1 n x2 = some res), W p l e ⟨3, 0, 0, 57⟩ s m args below meth c s.heap [] 0 0 (MQ below (vp_Si (fun r => r = res)) args s 0 0 (fun _ => False)) (F0 m 2 ls []) := by
    intro n
    induction n with
    | zero => intro x2 ls hl hf; cases (show none = some res from hf)
    | succ n ih =>
    intro x2 ls hl hf
    refine lv_iload_n hx hb (dg ddX5_freePlace 2 rfl) rfl (lv_at hl 2 rfl) ?_
    refine lv_iconst (v := 3) hx hb (dg ddX5_freePlace 3 rfl) (by decide) ?_
    refine lv_icmp_ge (tgt := 23) hx hb (dg ddX5_freePlace 4 rfl) (by decide) (fun h1 => ?_) (fun h1 => ?_)
    · have hf := it_t h1 hf
      refine lv_iload_n hx hb (dg ddX5_freePlace 13 rfl) rfl (lv_at hl 2 rfl) ?_
      exact e_ri CX hr hlk (Option.some.inj hf) (dg ddX5_freePlace 14 rfl)
    · have hf := it_f h1 hf
      refine lv_aload_n hx hb (dg ddX5_freePlace 5 rfl) rfl (lv_at hl 0 rfl) ?_
      refine lv_iload_n hx hb (dg ddX5_freePlace 6 rfl) rfl (lv_at hl 1 rfl) ?_
      refine lv_iload_n hx hb (dg ddX5_freePlace 7 rfl) rfl (lv_at hl 2 rfl) ?_
      obtain ⟨r3, e2, hf⟩ := ob_some hf
      refine cro_vi CX hml (As := [.int a1, .int x2]) (rest := []) (c_X5_caseOn l D cy q m_thr m_kept m_rea m_det m_isv m_iit m_len m_at m_err m_wro m_cmd m_to1 m_to2 m_now m_sav m_ahe m_bef m_hst m_noi m_own m_inp a1 x2 e2) lk_RX5_163 rfl rfl hRMX5_caseOn hP hK hN 0 rfl rfl rfl hl.1 rfl (Nat.le_of_ble_eq_true rfl) ⟨Nat.le_of_ble_eq_true rfl, Nat.le_of_ble_eq_true rfl⟩ (dg ddX5_freePlace 8 rfl) ?_
      refine lv_iconst (v := (-1)) hx hb (dg ddX5_freePlace 9 rfl) (by decide) ?_
      refine lv_icmp_eq (tgt := 23) hx hb (dg ddX5_freePlace 10 rfl) (by decide) (fun h4 => ?_) (fun h4 => ?_)
      · have hf := it_t h4 hf
        refine lv_iload_n hx hb (dg ddX5_freePlace 13 rfl) rfl (lv_at hl 2 rfl) ?_
        exact e_ri CX hr hlk (Option.some.inj hf) (dg ddX5_freePlace 14 rfl)
      · have hf := it_f h4 hf
        refine lv_iinc (v := x2 + 1) (lv' := [(2, .int (x2 + 1)), (0, .ref (q 0)), (1, .int a1)]) hx hb (dg ddX5_freePlace 11 rfl) hl (k := 2) rfl (congrArg (HAdd.hAdd x2) (by decide)) (by decide) rfl (fun ls hl => ?_)
        refine lv_goto (tgt := 2) hx hb (dg ddX5_freePlace 12 rfl) (by decide) ?_
        exact ih (x2 + 1) _ (lv_sub hl [1, 2, 0] rfl) hf
  refine lv_iconst (v := 0) hx hb (dg ddX5_freePlace 0 rfl) (by decide) ?_
  refine lv_istore_n (lv' := [(2, .int 0), (0, .ref (q 0)), (1, .int a1)]) hx hb (dg ddX5_freePlace 1 rfl) rfl hl (by decide) rfl (fun ls hl => ?_)
  exact K2 4096 0 _ (lv_sub hl [1, 2, 0] rfl) hf
def f_X5_isRackRefused_c45  (m_now : Nat → Int32) (a1 : Int32) (a2 : Int32) (t0 : Int32) (m_rea : Int32) (m_det : Int32) : Option (Int32 × Int32 × Int32) := ob (f_X5_refuse m_rea m_det t0 11 a2) fun r2 => (if r2.1 = 0 then (ob (f_X5_of m_now a1 0) fun r5 => (if r5 = a2 then (ob (f_X5_refuse r2.2.1 r2.2.2 0 12 a2) fun r8 => (og (isZ r8.1) (some (r8.1, r8.2.1, r8.2.2)))) else (ob (f_X5_refuse r2.2.1 r2.2.2 1 12 a2) fun r11 => (og (isZ r11.1) (some (r11.1, r11.2.1, r11.2.2)))))) else (some (1, r2.2.1, r2.2.2)))
def f_X5_isRackRefused_c16  (m_now : Nat → Int32) (a1 : Int32) (a2 : Int32) (t0 : Int32) (m_rea : Int32) (m_det : Int32) : Option (Int32 × Int32 × Int32) := ob (f_X5_of m_now a1 5) fun r2 => (ob (f_X5_refuse m_rea m_det t0 10 r2) fun r4 => (if r4.1 = 0 then (ob (f_X5_freePlace m_now a2) fun r7 => (if r7 = 3 then (f_X5_isRackRefused_c45 m_now a1 a2 1 r4.2.1 r4.2.2) else (f_X5_isRackRefused_c45 m_now a1 a2 0 r4.2.1 r4.2.2))) else (some (1, r4.2.1, r4.2.2))))
def f_X5_isRackRefused (m_rea : Int32) (m_det : Int32) (m_now : Nat → Int32) (a1 : Int32) (a2 : Int32) : Option (Int32 × Int32 × Int32) := ob (f_X5_of m_now a1 5) fun r2 => (if r2 = (-1) then (f_X5_isRackRefused_c16 m_now a1 a2 0 m_rea m_det) else (f_X5_isRackRefused_c16 m_now a1 a2 1 m_rea m_det))
set_option maxHeartbeats 4000000 in
set_option maxRecDepth 100000 in
theorem c_X5_isRackRefused (l : Launch) (D : va_G) (cy : Nat → ClassId) (q : Nat → Nat) (m_thr : Int32) (m_kept : Int32) (m_rea : Int32) (m_det : Int32) (m_isv : Int32) (m_iit : Int32) (m_len : Int32) (m_at : Int32) (m_err : Int32) (m_wro : Int32) (m_cmd : Int32) (m_to1 : Int32) (m_to2 : Int32) (m_now : Nat → Int32) (m_sav : Nat → Int32) (m_ahe : Nat → Int32) (m_bef : Nat → Int32) (m_hst : Nat → Nat → Int32) (m_noi : Nat → UInt32) (m_own : Nat → UInt32) (m_inp : Nat → Int32) (a1 : Int32) (a2 : Int32) (sz : Nat) {res : Int32 × Int32 × Int32} (hf : f_X5_isRackRefused m_rea m_det m_now a1 a2 = some res) : Met l yX5_isRackRefused (.code yX5_isRackRefused cX5_isRackRefused 3 (some .boolean) :: lw_all) { frames := 4, cells := 0, slots := 0, locals := 79 } (va_Pc [.ref (q 0), .int a1, .int a2] (sW D cy (wX5 q cy m_thr m_kept m_rea m_det m_isv m_iit m_len m_at m_err m_wro m_cmd m_to1 m_to2 m_now m_sav m_ahe m_bef m_hst m_noi m_own m_inp) sz)) (qI D (wX5 q cy m_thr m_kept res.2.1 res.2.2 m_isv m_iit m_len m_at m_err m_wro m_cmd m_to1 m_to2 m_now m_sav m_ahe m_bef m_hst m_noi m_own m_inp) res.1 (va_A (wX5 q cy m_thr m_kept m_rea m_det m_isv m_iit m_len m_at m_err m_wro m_cmd m_to1 m_to2 m_now m_sav m_ahe m_bef m_hst m_noi m_own m_inp) sz)) 0 0 (va_A (wX5 q cy m_thr m_kept m_rea m_det m_isv m_iit m_len m_at m_err m_wro m_cmd m_to1 m_to2 m_now m_sav m_ahe m_bef m_hst m_noi m_own m_inp) sz) := by
  refine mk_rw (Qc := qI D (wX5 q cy m_thr m_kept res.2.1 res.2.2 m_isv m_iit m_len m_at m_err m_wro m_cmd m_to1 m_to2 m_now m_sav m_ahe m_bef m_hst m_noi m_own m_inp) res.1) (Rc := RX5) (by decide +kernel) rfl (Nat.le_of_ble_eq_true rfl) ?_
  intro p e s m args below meth c ls A CX hml hr hlk hK hN hP hD hS hA hl
  have hx := CX.1
  have hb := CX.2.1
  have hRMX5_freePlace : (⟨3, 0, 0, 57⟩ : Room).frames + 1 ≤ (⟨4, 0, 0, 79⟩ : Room).frames ∧ 8 + (3 + 11) + (⟨3, 0, 0, 57⟩ : Room).locals ≤ (⟨4, 0, 0, 79⟩ : Room).locals := ⟨Nat.le_of_ble_eq_true rfl, Nat.le_of_ble_eq_true rfl⟩
  have hRMX5_of : (⟨1, 0, 0, 12⟩ : Room).frames + 1 ≤ (⟨4, 0, 0, 79⟩ : Room).frames ∧ 8 + (3 + 11) + (⟨1, 0, 0, 12⟩ : Room).locals ≤ (⟨4, 0, 0, 79⟩ : Room).locals := ⟨Nat.le_of_ble_eq_true rfl, Nat.le_of_ble_eq_true rfl⟩
  have hRMX5_refuse : (⟨1, 0, 0, 12⟩ : Room).frames + 1 ≤ (⟨4, 0, 0, 79⟩ : Room).frames ∧ 8 + (4 + 11) + (⟨1, 0, 0, 12⟩ : Room).locals ≤ (⟨4, 0, 0, 79⟩ : Room).locals := ⟨Nat.le_of_ble_eq_true rfl, Nat.le_of_ble_eq_true rfl⟩
  have hl0 := hl
  have K45 : ∀ (t0 : Int32) (m_rea : Int32) (m_det : Int32) (H : Heap) (locs : List Loc) (hP : va_P D vwCl (wX5 q cy m_thr m_kept m_rea m_det m_isv m_iit m_len m_at m_err m_wro m_cmd m_to1 m_to2 m_now m_sav m_ahe m_bef m_hst m_noi m_own m_inp) H) (hD : va_D A (wX5 q cy m_thr m_kept m_rea m_det m_isv m_iit m_len m_at m_err m_wro m_cmd m_to1 m_to2 m_now m_sav m_ahe m_bef m_hst m_noi m_own m_inp)) (hS : va_S A s.heap H locs) (ls : Array Slot) (hl : lv_has ls 3 [(0, .ref (q 0)), (1, .int a1), (2, .int a2)]) (hf : f_X5_isRackRefused_c45 m_now a1 a2 t0 m_rea m_det = some res), W p l e ⟨4, 0, 0, 79⟩ s m args below meth c H locs 0 0 (MQ below (qI D (wX5 q cy m_thr m_kept res.2.1 res.2.2 m_isv m_iit m_len m_at m_err m_wro m_cmd m_to1 m_to2 m_now m_sav m_ahe m_bef m_hst m_noi m_own m_inp) res.1 A) args s 0 0 A) (F0 m 45 ls [.int t0, .ref (q 0)]) := by
    intro t0 m_rea m_det H locs hP hD hS ls hl hf
    refine lv_bipush (v := 11) hx hb (dg ddX5_isRackRefused 26 rfl) (by decide) ?_
    refine lv_iload_n hx hb (dg ddX5_isRackRefused 27 rfl) rfl (lv_at hl 2 rfl) ?_
    obtain ⟨r2, e1, hf⟩ := ob_some hf
    refine crw_vi CX hml (As := [.int t0, .int 11, .int a2]) (rest := []) (c_X5_refuse l D cy q m_thr m_kept m_rea m_det m_isv m_iit m_len m_at m_err m_wro m_cmd m_to1 m_to2 m_now m_sav m_ahe m_bef m_hst m_noi m_own m_inp t0 11 a2 _ e1) lk_RX5_106 rfl rfl hRMX5_refuse hP hD hS hA hK hN 0 rfl rfl rfl hl.1 rfl (Nat.le_of_ble_eq_true rfl) ⟨Nat.le_of_ble_eq_true rfl, Nat.le_of_ble_eq_true rfl⟩ (dg ddX5_isRackRefused 28 rfl) (fun H locs hP hD hS => ?_)
    refine lv_if_eq (tgt := 56) hx hb (dg ddX5_isRackRefused 29 rfl) (by decide) (fun h3 => ?_) (fun h3 => ?_)
    · have hf := it_t h3 hf
      refine lv_aload_n hx hb (dg ddX5_isRackRefused 32 rfl) rfl (lv_at hl 0 rfl) ?_
      refine lv_aload_n hx hb (dg ddX5_isRackRefused 33 rfl) rfl (lv_at hl 0 rfl) ?_
      refine lv_iload_n hx hb (dg ddX5_isRackRefused 34 rfl) rfl (lv_at hl 1 rfl) ?_
      refine lv_iconst (v := 0) hx hb (dg ddX5_isRackRefused 35 rfl) (by decide) ?_
      obtain ⟨r5, e4, hf⟩ := ob_some hf
      refine cro_vi CX hml (As := [.int a1, .int 0]) (rest := [.ref (q 0)]) (c_X5_of l D cy q m_thr m_kept r2.2.1 r2.2.2 m_isv m_iit m_len m_at m_err m_wro m_cmd m_to1 m_to2 m_now m_sav m_ahe m_bef m_hst m_noi m_own m_inp a1 0 e4) lk_RX5_100 rfl rfl hRMX5_of hP hK hN 0 rfl rfl rfl hl.1 rfl (Nat.le_of_ble_eq_true rfl) ⟨Nat.le_of_ble_eq_true rfl, Nat.le_of_ble_eq_true rfl⟩ (dg ddX5_isRackRefused 36 rfl) ?_
      refine lv_iload_n hx hb (dg ddX5_isRackRefused 37 rfl) rfl (lv_at hl 2 rfl) ?_
      refine lv_icmp_eq (tgt := 71) hx hb (dg ddX5_isRackRefused 38 rfl) (by decide) (fun h6 => ?_) (fun h6 => ?_)
      · have hf := it_t h6 hf
        refine lv_iconst (v := 0) hx hb (dg ddX5_isRackRefused 41 rfl) (by decide) ?_
        refine lv_bipush (v := 12) hx hb (dg ddX5_isRackRefused 42 rfl) (by decide) ?_
        refine lv_iload_n hx hb (dg ddX5_isRackRefused 43 rfl) rfl (lv_at hl 2 rfl) ?_
        obtain ⟨r8, e7, hf⟩ := ob_some hf
        refine crw_vi CX hml (As := [.int 0, .int 12, .int a2]) (rest := []) (c_X5_refuse l D cy q m_thr m_kept r2.2.1 r2.2.2 m_isv m_iit m_len m_at m_err m_wro m_cmd m_to1 m_to2 m_now m_sav m_ahe m_bef m_hst m_noi m_own m_inp 0 12 a2 _ e7) lk_RX5_106 rfl rfl hRMX5_refuse hP hD hS hA hK hN 0 rfl rfl rfl hl.1 rfl (Nat.le_of_ble_eq_true rfl) ⟨Nat.le_of_ble_eq_true rfl, Nat.le_of_ble_eq_true rfl⟩ (dg ddX5_isRackRefused 44 rfl) (fun H locs hP hD hS => ?_)
        obtain ⟨h9, hf⟩ := og_some hf
        cases hf
        exact e_wz CX hr hlk (isZ_n h9) rfl hP hD hS (dg ddX5_isRackRefused 45 rfl)
      · have hf := it_f h6 hf
        refine lv_iconst (v := 1) hx hb (dg ddX5_isRackRefused 39 rfl) (by decide) ?_
        refine lv_goto (tgt := 72) hx hb (dg ddX5_isRackRefused 40 rfl) (by decide) ?_
        refine lv_bipush (v := 12) hx hb (dg ddX5_isRackRefused 42 rfl) (by decide) ?_
        refine lv_iload_n hx hb (dg ddX5_isRackRefused 43 rfl) rfl (lv_at hl 2 rfl) ?_
        obtain ⟨r11, e10, hf⟩ := ob_some hf
        refine crw_vi CX hml (As := [.int 1, .int 12, .int a2]) (rest := []) (c_X5_refuse l D cy q m_thr m_kept r2.2.1 r2.2.2 m_isv m_iit m_len m_at m_err m_wro m_cmd m_to1 m_to2 m_now m_sav m_ahe m_bef m_hst m_noi m_own m_inp 1 12 a2 _ e10) lk_RX5_106 rfl rfl hRMX5_refuse hP hD hS hA hK hN 0 rfl rfl rfl hl.1 rfl (Nat.le_of_ble_eq_true rfl) ⟨Nat.le_of_ble_eq_true rfl, Nat.le_of_ble_eq_true rfl⟩ (dg ddX5_isRackRefused 44 rfl) (fun H locs hP hD hS => ?_)
        obtain ⟨h12, hf⟩ := og_some hf
        cases hf
        exact e_wz CX hr hlk (isZ_n h12) rfl hP hD hS (dg ddX5_isRackRefused 45 rfl)
    · have hf := it_f h3 hf
      refine lv_iconst (v := 1) hx hb (dg ddX5_isRackRefused 30 rfl) (by decide) ?_
      cases hf
      exact e_wz CX hr hlk (by decide) rfl hP hD hS (dg ddX5_isRackRefused 31 rfl)
  have K16 : ∀ (t0 : Int32) (m_rea : Int32) (m_det : Int32) (H : Heap) (locs : List Loc) (hP : va_P D vwCl (wX5 q cy m_thr m_kept m_rea m_det m_isv m_iit m_len m_at m_err m_wro m_cmd m_to1 m_to2 m_now m_sav m_ahe m_bef m_hst m_noi m_own m_inp) H) (hD : va_D A (wX5 q cy m_thr m_kept m_rea m_det m_isv m_iit m_len m_at m_err m_wro m_cmd m_to1 m_to2 m_now m_sav m_ahe m_bef m_hst m_noi m_own m_inp)) (hS : va_S A s.heap H locs) (ls : Array Slot) (hl : lv_has ls 3 [(0, .ref (q 0)), (1, .int a1), (2, .int a2)]) (hf : f_X5_isRackRefused_c16 m_now a1 a2 t0 m_rea m_det = some res), W p l e ⟨4, 0, 0, 79⟩ s m args below meth c H locs 0 0 (MQ below (qI D (wX5 q cy m_thr m_kept res.2.1 res.2.2 m_isv m_iit m_len m_at m_err m_wro m_cmd m_to1 m_to2 m_now m_sav m_ahe m_bef m_hst m_noi m_own m_inp) res.1 A) args s 0 0 A) (F0 m 16 ls [.int t0, .ref (q 0)]) := by
    intro t0 m_rea m_det H locs hP hD hS ls hl hf
    refine lv_bipush (v := 10) hx hb (dg ddX5_isRackRefused 10 rfl) (by decide) ?_
    refine lv_aload_n hx hb (dg ddX5_isRackRefused 11 rfl) rfl (lv_at hl 0 rfl) ?_
    refine lv_iload_n hx hb (dg ddX5_isRackRefused 12 rfl) rfl (lv_at hl 1 rfl) ?_
    refine lv_iconst (v := 5) hx hb (dg ddX5_isRackRefused 13 rfl) (by decide) ?_
    obtain ⟨r2, e1, hf⟩ := ob_some hf
    refine cro_vi CX hml (As := [.int a1, .int 5]) (rest := [.int 10, .int t0, .ref (q 0)]) (c_X5_of l D cy q m_thr m_kept m_rea m_det m_isv m_iit m_len m_at m_err m_wro m_cmd m_to1 m_to2 m_now m_sav m_ahe m_bef m_hst m_noi m_own m_inp a1 5 e1) lk_RX5_100 rfl rfl hRMX5_of hP hK hN 0 rfl rfl rfl hl.1 rfl (Nat.le_of_ble_eq_true rfl) ⟨Nat.le_of_ble_eq_true rfl, Nat.le_of_ble_eq_true rfl⟩ (dg ddX5_isRackRefused 14 rfl) ?_
    obtain ⟨r4, e3, hf⟩ := ob_some hf
    refine crw_vi CX hml (As := [.int t0, .int 10, .int r2]) (rest := []) (c_X5_refuse l D cy q m_thr m_kept m_rea m_det m_isv m_iit m_len m_at m_err m_wro m_cmd m_to1 m_to2 m_now m_sav m_ahe m_bef m_hst m_noi m_own m_inp t0 10 r2 _ e3) lk_RX5_106 rfl rfl hRMX5_refuse hP hD hS hA hK hN 0 rfl rfl rfl hl.1 rfl (Nat.le_of_ble_eq_true rfl) ⟨Nat.le_of_ble_eq_true rfl, Nat.le_of_ble_eq_true rfl⟩ (dg ddX5_isRackRefused 15 rfl) (fun H locs hP hD hS => ?_)
    refine lv_if_ne (tgt := 54) hx hb (dg ddX5_isRackRefused 16 rfl) (by decide) (fun h5 => ?_) (fun h5 => ?_)
    · have hf := it_f h5 hf
      refine lv_iconst (v := 1) hx hb (dg ddX5_isRackRefused 30 rfl) (by decide) ?_
      cases hf
      exact e_wz CX hr hlk (by decide) rfl hP hD hS (dg ddX5_isRackRefused 31 rfl)
    · have hf := it_t h5 hf
      refine lv_aload_n hx hb (dg ddX5_isRackRefused 17 rfl) rfl (lv_at hl 0 rfl) ?_
      refine lv_aload_n hx hb (dg ddX5_isRackRefused 18 rfl) rfl (lv_at hl 0 rfl) ?_
      refine lv_iload_n hx hb (dg ddX5_isRackRefused 19 rfl) rfl (lv_at hl 2 rfl) ?_
      obtain ⟨r7, e6, hf⟩ := ob_some hf
      refine cro_vi CX hml (As := [.int a2]) (rest := [.ref (q 0)]) (c_X5_freePlace l D cy q m_thr m_kept r4.2.1 r4.2.2 m_isv m_iit m_len m_at m_err m_wro m_cmd m_to1 m_to2 m_now m_sav m_ahe m_bef m_hst m_noi m_own m_inp a2 e6) lk_RX5_166 rfl rfl hRMX5_freePlace hP hK hN 0 rfl rfl rfl hl.1 rfl (Nat.le_of_ble_eq_true rfl) ⟨Nat.le_of_ble_eq_true rfl, Nat.le_of_ble_eq_true rfl⟩ (dg ddX5_isRackRefused 20 rfl) ?_
      refine lv_iconst (v := 3) hx hb (dg ddX5_isRackRefused 21 rfl) (by decide) ?_
      refine lv_icmp_ne (tgt := 44) hx hb (dg ddX5_isRackRefused 22 rfl) (by decide) (fun h8 => ?_) (fun h8 => ?_)
      · have hf := it_f h8 hf
        refine lv_iconst (v := 0) hx hb (dg ddX5_isRackRefused 25 rfl) (by decide) ?_
        exact K45  0 r4.2.1 r4.2.2 _ _ hP hD hS _ (lv_sub hl [0, 1, 2] rfl) hf
      · have hf := it_t h8 hf
        refine lv_iconst (v := 1) hx hb (dg ddX5_isRackRefused 23 rfl) (by decide) ?_
        refine lv_goto (tgt := 45) hx hb (dg ddX5_isRackRefused 24 rfl) (by decide) ?_
        exact K45  1 r4.2.1 r4.2.2 _ _ hP hD hS _ (lv_sub hl [0, 1, 2] rfl) hf
  refine lv_aload_n hx hb (dg ddX5_isRackRefused 0 rfl) rfl (lv_at hl 0 rfl) ?_
  refine lv_aload_n hx hb (dg ddX5_isRackRefused 1 rfl) rfl (lv_at hl 0 rfl) ?_
  refine lv_iload_n hx hb (dg ddX5_isRackRefused 2 rfl) rfl (lv_at hl 1 rfl) ?_
  refine lv_iconst (v := 5) hx hb (dg ddX5_isRackRefused 3 rfl) (by decide) ?_
  obtain ⟨r2, e1, hf⟩ := ob_some hf
  refine cro_vi CX hml (As := [.int a1, .int 5]) (rest := [.ref (q 0)]) (c_X5_of l D cy q m_thr m_kept m_rea m_det m_isv m_iit m_len m_at m_err m_wro m_cmd m_to1 m_to2 m_now m_sav m_ahe m_bef m_hst m_noi m_own m_inp a1 5 e1) lk_RX5_100 rfl rfl hRMX5_of hP hK hN 0 rfl rfl rfl hl.1 rfl (Nat.le_of_ble_eq_true rfl) ⟨Nat.le_of_ble_eq_true rfl, Nat.le_of_ble_eq_true rfl⟩ (dg ddX5_isRackRefused 4 rfl) ?_
  refine lv_iconst (v := (-1)) hx hb (dg ddX5_isRackRefused 5 rfl) (by decide) ?_
  refine lv_icmp_eq (tgt := 15) hx hb (dg ddX5_isRackRefused 6 rfl) (by decide) (fun h3 => ?_) (fun h3 => ?_)
  · have hf := it_t h3 hf
    refine lv_iconst (v := 0) hx hb (dg ddX5_isRackRefused 9 rfl) (by decide) ?_
    exact K16  0 m_rea m_det _ _ hP hD hS _ (lv_sub hl [0, 1, 2] rfl) hf
  · have hf := it_f h3 hf
    refine lv_iconst (v := 1) hx hb (dg ddX5_isRackRefused 7 rfl) (by decide) ?_
    refine lv_goto (tgt := 16) hx hb (dg ddX5_isRackRefused 8 rfl) (by decide) ?_
    exact K16  1 m_rea m_det _ _ hP hD hS _ (lv_sub hl [0, 1, 2] rfl) hf
def f_X5_rack_c22  (m_iit : Int32) (a1 : Int32) (a2 : Int32) (t0 : Int32) (t1 : Int32) (m_thr : Int32) (m_kept : Int32) (m_rea : Int32) (m_det : Int32) (m_now : Nat → Int32) (m_hst : Nat → Nat → Int32) : Option (Int32 × Int32 × Int32 × Int32 × Int32 × (Nat → Int32) × (Nat → Nat → Int32)) := ob (f_X5_fails m_thr t1 t0) fun r2 => (if r2.1 = 0 then (ob (f_X5_isRackRefused m_rea m_det m_now a1 a2) fun r5 => (ob (f_X5_fails r2.2 2 r5.1) fun r7 => (if r7.1 = 0 then (ob (f_X5_change m_kept m_iit m_now m_hst) fun r10 => (ob (f_X5_freePlace m_now a2) fun r12 => (ob (f_X5_put m_now a1 5 r12) fun r14 => (ob (f_X5_of r14 a1 5) fun r16 => (some (r16, r7.2, r10.1, r5.2.1, r5.2.2, r14, r10.2)))))) else (some (0, r7.2, m_kept, r5.2.1, r5.2.2, m_now, m_hst))))) else (some (0, r2.2, m_kept, m_rea, m_det, m_now, m_hst)))
def f_X5_rack_c17  (m_iit : Int32) (a1 : Int32) (a2 : Int32) (t0 : Int32) (m_thr : Int32) (m_kept : Int32) (m_rea : Int32) (m_det : Int32) (m_now : Nat → Int32) (m_hst : Nat → Nat → Int32) : Option (Int32 × Int32 × Int32 × Int32 × Int32 × (Nat → Int32) × (Nat → Nat → Int32)) := f_X5_rack_c22 m_iit a1 a2 1 t0 m_thr m_kept m_rea m_det m_now m_hst
def f_X5_rack (m_thr : Int32) (m_kept : Int32) (m_rea : Int32) (m_det : Int32) (m_iit : Int32) (m_now : Nat → Int32) (m_hst : Nat → Nat → Int32) (a1 : Int32) (a2 : Int32) : Option (Int32 × Int32 × Int32 × Int32 × Int32 × (Nat → Int32) × (Nat → Nat → Int32)) := ob (f_X5_isBusker m_now a1) fun r2 => (if r2 = 0 then (f_X5_rack_c17 m_iit a1 a2 1 m_thr m_kept m_rea m_det m_now m_hst) else (ob (f_X5_isRack a2) fun r5 => (if r5 = 0 then (f_X5_rack_c17 m_iit a1 a2 1 m_thr m_kept m_rea m_det m_now m_hst) else (f_X5_rack_c22 m_iit a1 a2 0 1 m_thr m_kept m_rea m_det m_now m_hst))))
set_option maxHeartbeats 4000000 in
set_option maxRecDepth 100000 in
theorem c_X5_rack (l : Launch) (D : va_G) (cy : Nat → ClassId) (q : Nat → Nat) (m_thr : Int32) (m_kept : Int32) (m_rea : Int32) (m_det : Int32) (m_isv : Int32) (m_iit : Int32) (m_len : Int32) (m_at : Int32) (m_err : Int32) (m_wro : Int32) (m_cmd : Int32) (m_to1 : Int32) (m_to2 : Int32) (m_now : Nat → Int32) (m_sav : Nat → Int32) (m_ahe : Nat → Int32) (m_bef : Nat → Int32) (m_hst : Nat → Nat → Int32) (m_noi : Nat → UInt32) (m_own : Nat → UInt32) (m_inp : Nat → Int32) (a1 : Int32) (a2 : Int32) (sz : Nat) {res : Int32 × Int32 × Int32 × Int32 × Int32 × (Nat → Int32) × (Nat → Nat → Int32)} (hf : f_X5_rack m_thr m_kept m_rea m_det m_iit m_now m_hst a1 a2 = some res) : Met l yX5_rack (.code yX5_rack cX5_rack 3 (some .int) :: lw_all) { frames := 5, cells := 0, slots := 0, locals := 101 } (va_Pc [.ref (q 0), .int a1, .int a2] (sW D cy (wX5 q cy m_thr m_kept m_rea m_det m_isv m_iit m_len m_at m_err m_wro m_cmd m_to1 m_to2 m_now m_sav m_ahe m_bef m_hst m_noi m_own m_inp) sz)) (qI D (wX5 q cy res.2.1 res.2.2.1 res.2.2.2.1 res.2.2.2.2.1 m_isv m_iit m_len m_at m_err m_wro m_cmd m_to1 m_to2 res.2.2.2.2.2.1 m_sav m_ahe m_bef res.2.2.2.2.2.2 m_noi m_own m_inp) res.1 (va_A (wX5 q cy m_thr m_kept m_rea m_det m_isv m_iit m_len m_at m_err m_wro m_cmd m_to1 m_to2 m_now m_sav m_ahe m_bef m_hst m_noi m_own m_inp) sz)) 0 0 (va_A (wX5 q cy m_thr m_kept m_rea m_det m_isv m_iit m_len m_at m_err m_wro m_cmd m_to1 m_to2 m_now m_sav m_ahe m_bef m_hst m_noi m_own m_inp) sz) := by
  refine mk_rw (Qc := qI D (wX5 q cy res.2.1 res.2.2.1 res.2.2.2.1 res.2.2.2.2.1 m_isv m_iit m_len m_at m_err m_wro m_cmd m_to1 m_to2 res.2.2.2.2.2.1 m_sav m_ahe m_bef res.2.2.2.2.2.2 m_noi m_own m_inp) res.1) (Rc := RX5) (by decide +kernel) rfl (Nat.le_of_ble_eq_true rfl) ?_
  intro p e s m args below meth c ls A CX hml hr hlk hK hN hP hD hS hA hl
  have hx := CX.1
  have hb := CX.2.1
  have hRMX5_change : (⟨3, 0, 0, 56⟩ : Room).frames + 1 ≤ (⟨5, 0, 0, 101⟩ : Room).frames ∧ 8 + (1 + 11) + (⟨3, 0, 0, 56⟩ : Room).locals ≤ (⟨5, 0, 0, 101⟩ : Room).locals := ⟨Nat.le_of_ble_eq_true rfl, Nat.le_of_ble_eq_true rfl⟩
  have hRMX5_fails : (⟨1, 0, 0, 12⟩ : Room).frames + 1 ≤ (⟨5, 0, 0, 101⟩ : Room).frames ∧ 8 + (3 + 11) + (⟨1, 0, 0, 12⟩ : Room).locals ≤ (⟨5, 0, 0, 101⟩ : Room).locals := ⟨Nat.le_of_ble_eq_true rfl, Nat.le_of_ble_eq_true rfl⟩
  have hRMX5_freePlace : (⟨3, 0, 0, 57⟩ : Room).frames + 1 ≤ (⟨5, 0, 0, 101⟩ : Room).frames ∧ 8 + (3 + 11) + (⟨3, 0, 0, 57⟩ : Room).locals ≤ (⟨5, 0, 0, 101⟩ : Room).locals := ⟨Nat.le_of_ble_eq_true rfl, Nat.le_of_ble_eq_true rfl⟩
  have hRMX5_isBusker : (⟨2, 0, 0, 34⟩ : Room).frames + 1 ≤ (⟨5, 0, 0, 101⟩ : Room).frames ∧ 8 + (2 + 11) + (⟨2, 0, 0, 34⟩ : Room).locals ≤ (⟨5, 0, 0, 101⟩ : Room).locals := ⟨Nat.le_of_ble_eq_true rfl, Nat.le_of_ble_eq_true rfl⟩
  have hRMX5_isRack : (⟨2, 0, 0, 34⟩ : Room).frames + 1 ≤ (⟨5, 0, 0, 101⟩ : Room).frames ∧ 8 + (1 + 11) + (⟨2, 0, 0, 34⟩ : Room).locals ≤ (⟨5, 0, 0, 101⟩ : Room).locals := ⟨Nat.le_of_ble_eq_true rfl, Nat.le_of_ble_eq_true rfl⟩
  have hRMX5_isRackRefused : (⟨4, 0, 0, 79⟩ : Room).frames + 1 ≤ (⟨5, 0, 0, 101⟩ : Room).frames ∧ 8 + (3 + 11) + (⟨4, 0, 0, 79⟩ : Room).locals ≤ (⟨5, 0, 0, 101⟩ : Room).locals := ⟨Nat.le_of_ble_eq_true rfl, Nat.le_of_ble_eq_true rfl⟩
  have hRMX5_of : (⟨1, 0, 0, 12⟩ : Room).frames + 1 ≤ (⟨5, 0, 0, 101⟩ : Room).frames ∧ 8 + (3 + 11) + (⟨1, 0, 0, 12⟩ : Room).locals ≤ (⟨5, 0, 0, 101⟩ : Room).locals := ⟨Nat.le_of_ble_eq_true rfl, Nat.le_of_ble_eq_true rfl⟩
  have hRMX5_put : (⟨1, 0, 0, 12⟩ : Room).frames + 1 ≤ (⟨5, 0, 0, 101⟩ : Room).frames ∧ 8 + (4 + 11) + (⟨1, 0, 0, 12⟩ : Room).locals ≤ (⟨5, 0, 0, 101⟩ : Room).locals := ⟨Nat.le_of_ble_eq_true rfl, Nat.le_of_ble_eq_true rfl⟩
  have hl0 := hl
  have K22 : ∀ (t0 : Int32) (t1 : Int32) (m_thr : Int32) (m_kept : Int32) (m_rea : Int32) (m_det : Int32) (m_now : Nat → Int32) (m_hst : Nat → Nat → Int32) (H : Heap) (locs : List Loc) (hP : va_P D vwCl (wX5 q cy m_thr m_kept m_rea m_det m_isv m_iit m_len m_at m_err m_wro m_cmd m_to1 m_to2 m_now m_sav m_ahe m_bef m_hst m_noi m_own m_inp) H) (hD : va_D A (wX5 q cy m_thr m_kept m_rea m_det m_isv m_iit m_len m_at m_err m_wro m_cmd m_to1 m_to2 m_now m_sav m_ahe m_bef m_hst m_noi m_own m_inp)) (hS : va_S A s.heap H locs) (ls : Array Slot) (hl : lv_has ls 3 [(0, .ref (q 0)), (1, .int a1), (2, .int a2)]) (hf : f_X5_rack_c22 m_iit a1 a2 t0 t1 m_thr m_kept m_rea m_det m_now m_hst = some res), W p l e ⟨5, 0, 0, 101⟩ s m args below meth c H locs 0 0 (MQ below (qI D (wX5 q cy res.2.1 res.2.2.1 res.2.2.2.1 res.2.2.2.2.1 m_isv m_iit m_len m_at m_err m_wro m_cmd m_to1 m_to2 res.2.2.2.2.2.1 m_sav m_ahe m_bef res.2.2.2.2.2.2 m_noi m_own m_inp) res.1 A) args s 0 0 A) (F0 m 22 ls [.int t0, .int t1, .ref (q 0)]) := by
    intro t0 t1 m_thr m_kept m_rea m_det m_now m_hst H locs hP hD hS ls hl hf
    obtain ⟨r2, e1, hf⟩ := ob_some hf
    refine crw_vi CX hml (As := [.int t1, .int t0]) (rest := []) (c_X5_fails l D cy q m_thr m_kept m_rea m_det m_isv m_iit m_len m_at m_err m_wro m_cmd m_to1 m_to2 m_now m_sav m_ahe m_bef m_hst m_noi m_own m_inp t1 t0 _ e1) lk_RX5_81 rfl rfl hRMX5_fails hP hD hS hA hK hN 0 rfl rfl rfl hl.1 rfl (Nat.le_of_ble_eq_true rfl) ⟨Nat.le_of_ble_eq_true rfl, Nat.le_of_ble_eq_true rfl⟩ (dg ddX5_rack 12 rfl) (fun H locs hP hD hS => ?_)
    refine lv_if_ne (tgt := 42) hx hb (dg ddX5_rack 13 rfl) (by decide) (fun h3 => ?_) (fun h3 => ?_)
    · have hf := it_f h3 hf
      refine lv_iconst (v := 0) hx hb (dg ddX5_rack 22 rfl) (by decide) ?_
      cases hf
      exact e_wi CX hr hlk rfl hP hD hS (dg ddX5_rack 23 rfl)
    · have hf := it_t h3 hf
      refine lv_aload_n hx hb (dg ddX5_rack 14 rfl) rfl (lv_at hl 0 rfl) ?_
      refine lv_iconst (v := 2) hx hb (dg ddX5_rack 15 rfl) (by decide) ?_
      refine lv_aload_n hx hb (dg ddX5_rack 16 rfl) rfl (lv_at hl 0 rfl) ?_
      refine lv_iload_n hx hb (dg ddX5_rack 17 rfl) rfl (lv_at hl 1 rfl) ?_
      refine lv_iload_n hx hb (dg ddX5_rack 18 rfl) rfl (lv_at hl 2 rfl) ?_
      obtain ⟨r5, e4, hf⟩ := ob_some hf
      refine crw_vi CX hml (As := [.int a1, .int a2]) (rest := [.int 2, .ref (q 0)]) (c_X5_isRackRefused l D cy q r2.2 m_kept m_rea m_det m_isv m_iit m_len m_at m_err m_wro m_cmd m_to1 m_to2 m_now m_sav m_ahe m_bef m_hst m_noi m_own m_inp a1 a2 _ e4) lk_RX5_172 rfl rfl hRMX5_isRackRefused hP hD hS hA hK hN 0 rfl rfl rfl hl.1 rfl (Nat.le_of_ble_eq_true rfl) ⟨Nat.le_of_ble_eq_true rfl, Nat.le_of_ble_eq_true rfl⟩ (dg ddX5_rack 19 rfl) (fun H locs hP hD hS => ?_)
      obtain ⟨r7, e6, hf⟩ := ob_some hf
      refine crw_vi CX hml (As := [.int 2, .int r5.1]) (rest := []) (c_X5_fails l D cy q r2.2 m_kept r5.2.1 r5.2.2 m_isv m_iit m_len m_at m_err m_wro m_cmd m_to1 m_to2 m_now m_sav m_ahe m_bef m_hst m_noi m_own m_inp 2 r5.1 _ e6) lk_RX5_81 rfl rfl hRMX5_fails hP hD hS hA hK hN 0 rfl rfl rfl hl.1 rfl (Nat.le_of_ble_eq_true rfl) ⟨Nat.le_of_ble_eq_true rfl, Nat.le_of_ble_eq_true rfl⟩ (dg ddX5_rack 20 rfl) (fun H locs hP hD hS => ?_)
      refine lv_if_eq (tgt := 44) hx hb (dg ddX5_rack 21 rfl) (by decide) (fun h8 => ?_) (fun h8 => ?_)
      · have hf := it_t h8 hf
        refine lv_aload_n hx hb (dg ddX5_rack 24 rfl) rfl (lv_at hl 0 rfl) ?_
        obtain ⟨r10, e9, hf⟩ := ob_some hf
        refine crw_vv CX hml (As := []) (rest := []) (c_X5_change l D cy q r7.2 m_kept r5.2.1 r5.2.2 m_isv m_iit m_len m_at m_err m_wro m_cmd m_to1 m_to2 m_now m_sav m_ahe m_bef m_hst m_noi m_own m_inp _ e9) lk_RX5_85 rfl rfl hRMX5_change hP hD hS hA hK hN 0 rfl rfl rfl hl.1 rfl (Nat.le_of_ble_eq_true rfl) ⟨Nat.le_of_ble_eq_true rfl, Nat.le_of_ble_eq_true rfl⟩ (dg ddX5_rack 25 rfl) (fun H locs hP hD hS => ?_)
        refine lv_aload_n hx hb (dg ddX5_rack 26 rfl) rfl (lv_at hl 0 rfl) ?_
        refine lv_iload_n hx hb (dg ddX5_rack 27 rfl) rfl (lv_at hl 1 rfl) ?_
        refine lv_iconst (v := 5) hx hb (dg ddX5_rack 28 rfl) (by decide) ?_
        refine lv_aload_n hx hb (dg ddX5_rack 29 rfl) rfl (lv_at hl 0 rfl) ?_
        refine lv_iload_n hx hb (dg ddX5_rack 30 rfl) rfl (lv_at hl 2 rfl) ?_
        obtain ⟨r12, e11, hf⟩ := ob_some hf
        refine cro_vi CX hml (As := [.int a2]) (rest := [.int 5, .int a1, .ref (q 0)]) (c_X5_freePlace l D cy q r7.2 r10.1 r5.2.1 r5.2.2 m_isv m_iit m_len m_at m_err m_wro m_cmd m_to1 m_to2 m_now m_sav m_ahe m_bef r10.2 m_noi m_own m_inp a2 e11) lk_RX5_166 rfl rfl hRMX5_freePlace hP hK hN 0 rfl rfl rfl hl.1 rfl (Nat.le_of_ble_eq_true rfl) ⟨Nat.le_of_ble_eq_true rfl, Nat.le_of_ble_eq_true rfl⟩ (dg ddX5_rack 31 rfl) ?_
        obtain ⟨r14, e13, hf⟩ := ob_some hf
        refine crw_vv CX hml (As := [.int a1, .int 5, .int r12]) (rest := []) (c_X5_put l D cy q r7.2 r10.1 r5.2.1 r5.2.2 m_isv m_iit m_len m_at m_err m_wro m_cmd m_to1 m_to2 m_now m_sav m_ahe m_bef r10.2 m_noi m_own m_inp a1 5 r12 _ e13) lk_RX5_103 rfl rfl hRMX5_put hP hD hS hA hK hN 0 rfl rfl rfl hl.1 rfl (Nat.le_of_ble_eq_true rfl) ⟨Nat.le_of_ble_eq_true rfl, Nat.le_of_ble_eq_true rfl⟩ (dg ddX5_rack 32 rfl) (fun H locs hP hD hS => ?_)
        refine lv_aload_n hx hb (dg ddX5_rack 33 rfl) rfl (lv_at hl 0 rfl) ?_
        refine lv_iload_n hx hb (dg ddX5_rack 34 rfl) rfl (lv_at hl 1 rfl) ?_
        refine lv_iconst (v := 5) hx hb (dg ddX5_rack 35 rfl) (by decide) ?_
        obtain ⟨r16, e15, hf⟩ := ob_some hf
        refine cro_vi CX hml (As := [.int a1, .int 5]) (rest := []) (c_X5_of l D cy q r7.2 r10.1 r5.2.1 r5.2.2 m_isv m_iit m_len m_at m_err m_wro m_cmd m_to1 m_to2 r14 m_sav m_ahe m_bef r10.2 m_noi m_own m_inp a1 5 e15) lk_RX5_100 rfl rfl hRMX5_of hP hK hN 0 rfl rfl rfl hl.1 rfl (Nat.le_of_ble_eq_true rfl) ⟨Nat.le_of_ble_eq_true rfl, Nat.le_of_ble_eq_true rfl⟩ (dg ddX5_rack 36 rfl) ?_
        cases hf
        exact e_wi CX hr hlk rfl hP hD hS (dg ddX5_rack 37 rfl)
      · have hf := it_f h8 hf
        refine lv_iconst (v := 0) hx hb (dg ddX5_rack 22 rfl) (by decide) ?_
        cases hf
        exact e_wi CX hr hlk rfl hP hD hS (dg ddX5_rack 23 rfl)
  have K17 : ∀ (t0 : Int32) (m_thr : Int32) (m_kept : Int32) (m_rea : Int32) (m_det : Int32) (m_now : Nat → Int32) (m_hst : Nat → Nat → Int32) (H : Heap) (locs : List Loc) (hP : va_P D vwCl (wX5 q cy m_thr m_kept m_rea m_det m_isv m_iit m_len m_at m_err m_wro m_cmd m_to1 m_to2 m_now m_sav m_ahe m_bef m_hst m_noi m_own m_inp) H) (hD : va_D A (wX5 q cy m_thr m_kept m_rea m_det m_isv m_iit m_len m_at m_err m_wro m_cmd m_to1 m_to2 m_now m_sav m_ahe m_bef m_hst m_noi m_own m_inp)) (hS : va_S A s.heap H locs) (ls : Array Slot) (hl : lv_has ls 3 [(0, .ref (q 0)), (1, .int a1), (2, .int a2)]) (hf : f_X5_rack_c17 m_iit a1 a2 t0 m_thr m_kept m_rea m_det m_now m_hst = some res), W p l e ⟨5, 0, 0, 101⟩ s m args below meth c H locs 0 0 (MQ below (qI D (wX5 q cy res.2.1 res.2.2.1 res.2.2.2.1 res.2.2.2.2.1 m_isv m_iit m_len m_at m_err m_wro m_cmd m_to1 m_to2 res.2.2.2.2.2.1 m_sav m_ahe m_bef res.2.2.2.2.2.2 m_noi m_own m_inp) res.1 A) args s 0 0 A) (F0 m 17 ls [.int t0, .ref (q 0)]) := by
    intro t0 m_thr m_kept m_rea m_det m_now m_hst H locs hP hD hS ls hl hf
    refine lv_iconst (v := 1) hx hb (dg ddX5_rack 9 rfl) (by decide) ?_
    refine lv_goto (tgt := 22) hx hb (dg ddX5_rack 10 rfl) (by decide) ?_
    exact K22  1 t0 m_thr m_kept m_rea m_det m_now m_hst _ _ hP hD hS _ (lv_sub hl [0, 1, 2] rfl) hf
  refine lv_aload_n hx hb (dg ddX5_rack 0 rfl) rfl (lv_at hl 0 rfl) ?_
  refine lv_iconst (v := 1) hx hb (dg ddX5_rack 1 rfl) (by decide) ?_
  refine lv_aload_n hx hb (dg ddX5_rack 2 rfl) rfl (lv_at hl 0 rfl) ?_
  refine lv_iload_n hx hb (dg ddX5_rack 3 rfl) rfl (lv_at hl 1 rfl) ?_
  obtain ⟨r2, e1, hf⟩ := ob_some hf
  refine cro_vi CX hml (As := [.int a1]) (rest := [.int 1, .ref (q 0)]) (c_X5_isBusker l D cy q m_thr m_kept m_rea m_det m_isv m_iit m_len m_at m_err m_wro m_cmd m_to1 m_to2 m_now m_sav m_ahe m_bef m_hst m_noi m_own m_inp a1 e1) lk_RX5_114 rfl rfl hRMX5_isBusker hP hK hN 0 rfl rfl rfl hl.1 rfl (Nat.le_of_ble_eq_true rfl) ⟨Nat.le_of_ble_eq_true rfl, Nat.le_of_ble_eq_true rfl⟩ (dg ddX5_rack 4 rfl) ?_
  refine lv_if_eq (tgt := 17) hx hb (dg ddX5_rack 5 rfl) (by decide) (fun h3 => ?_) (fun h3 => ?_)
  · have hf := it_t h3 hf
    exact K17  1 m_thr m_kept m_rea m_det m_now m_hst _ _ hP hD hS _ (lv_sub hl [0, 1, 2] rfl) hf
  · have hf := it_f h3 hf
    refine lv_iload_n hx hb (dg ddX5_rack 6 rfl) rfl (lv_at hl 2 rfl) ?_
    obtain ⟨r5, e4, hf⟩ := ob_some hf
    refine cro_si CX hml (As := [.int a2]) (rest := [.int 1, .ref (q 0)]) (c_X5_isRack l D cy a2 e4) lk_RX5_169 rfl rfl hRMX5_isRack vaP_nil hK hN rfl hl.1 rfl (Nat.le_of_ble_eq_true rfl) ⟨Nat.le_of_ble_eq_true rfl, Nat.le_of_ble_eq_true rfl⟩ (dg ddX5_rack 7 rfl) ?_
    refine lv_if_ne (tgt := 21) hx hb (dg ddX5_rack 8 rfl) (by decide) (fun h6 => ?_) (fun h6 => ?_)
    · have hf := it_f h6 hf
      refine lv_iconst (v := 0) hx hb (dg ddX5_rack 11 rfl) (by decide) ?_
      exact K22  0 1 m_thr m_kept m_rea m_det m_now m_hst _ _ hP hD hS _ (lv_sub hl [0, 1, 2] rfl) hf
    · have hf := it_t h6 hf
      exact K17  1 m_thr m_kept m_rea m_det m_now m_hst _ _ hP hD hS _ (lv_sub hl [0, 1, 2] rfl) hf
def f_X5_unrack_c39  (m_iit : Int32) (a1 : Int32) (t0 : Int32) (t2 : Int32) (m_thr : Int32) (m_kept : Int32) (m_rea : Int32) (m_det : Int32) (m_now : Nat → Int32) (m_hst : Nat → Nat → Int32) : Option (Int32 × Int32 × Int32 × Int32 × Int32 × (Nat → Int32) × (Nat → Nat → Int32)) := ob (f_X5_refuse m_rea m_det t0 13 a1) fun r2 => (ob (f_X5_fails m_thr t2 r2.1) fun r4 => (if r4.1 = 0 then (ob (f_X5_change m_kept m_iit m_now m_hst) fun r7 => (ob (f_X5_of m_now a1 5) fun r9 => (ob (f_X5_put m_now a1 5 (-1)) fun r11 => (some (r9, r4.2, r7.1, r2.2.1, r2.2.2, r11, r7.2))))) else (some (0, r4.2, m_kept, r2.2.1, r2.2.2, m_now, m_hst))))
def f_X5_unrack_c15  (m_iit : Int32) (a1 : Int32) (t0 : Int32) (t1 : Int32) (m_thr : Int32) (m_kept : Int32) (m_rea : Int32) (m_det : Int32) (m_now : Nat → Int32) (m_hst : Nat → Nat → Int32) : Option (Int32 × Int32 × Int32 × Int32 × Int32 × (Nat → Int32) × (Nat → Nat → Int32)) := ob (f_X5_fails m_thr t1 t0) fun r2 => (if r2.1 = 0 then (ob (f_X5_of m_now a1 5) fun r5 => (if r5 = (-1) then (f_X5_unrack_c39 m_iit a1 1 2 r2.2 m_kept m_rea m_det m_now m_hst) else (f_X5_unrack_c39 m_iit a1 0 2 r2.2 m_kept m_rea m_det m_now m_hst))) else (some (0, r2.2, m_kept, m_rea, m_det, m_now, m_hst)))
def f_X5_unrack (m_thr : Int32) (m_kept : Int32) (m_rea : Int32) (m_det : Int32) (m_iit : Int32) (m_now : Nat → Int32) (m_hst : Nat → Nat → Int32) (a1 : Int32) : Option (Int32 × Int32 × Int32 × Int32 × Int32 × (Nat → Int32) × (Nat → Nat → Int32)) := ob (f_X5_isBusker m_now a1) fun r2 => (if r2 = 0 then (f_X5_unrack_c15 m_iit a1 1 1 m_thr m_kept m_rea m_det m_now m_hst) else (f_X5_unrack_c15 m_iit a1 0 1 m_thr m_kept m_rea m_det m_now m_hst))
set_option maxHeartbeats 4000000 in
set_option maxRecDepth 100000 in
theorem c_X5_unrack (l : Launch) (D : va_G) (cy : Nat → ClassId) (q : Nat → Nat) (m_thr : Int32) (m_kept : Int32) (m_rea : Int32) (m_det : Int32) (m_isv : Int32) (m_iit : Int32) (m_len : Int32) (m_at : Int32) (m_err : Int32) (m_wro : Int32) (m_cmd : Int32) (m_to1 : Int32) (m_to2 : Int32) (m_now : Nat → Int32) (m_sav : Nat → Int32) (m_ahe : Nat → Int32) (m_bef : Nat → Int32) (m_hst : Nat → Nat → Int32) (m_noi : Nat → UInt32) (m_own : Nat → UInt32) (m_inp : Nat → Int32) (a1 : Int32) (sz : Nat) {res : Int32 × Int32 × Int32 × Int32 × Int32 × (Nat → Int32) × (Nat → Nat → Int32)} (hf : f_X5_unrack m_thr m_kept m_rea m_det m_iit m_now m_hst a1 = some res) : Met l yX5_unrack (.code yX5_unrack cX5_unrack 3 (some .int) :: lw_all) { frames := 4, cells := 0, slots := 0, locals := 76 } (va_Pc [.ref (q 0), .int a1] (sW D cy (wX5 q cy m_thr m_kept m_rea m_det m_isv m_iit m_len m_at m_err m_wro m_cmd m_to1 m_to2 m_now m_sav m_ahe m_bef m_hst m_noi m_own m_inp) sz)) (qI D (wX5 q cy res.2.1 res.2.2.1 res.2.2.2.1 res.2.2.2.2.1 m_isv m_iit m_len m_at m_err m_wro m_cmd m_to1 m_to2 res.2.2.2.2.2.1 m_sav m_ahe m_bef res.2.2.2.2.2.2 m_noi m_own m_inp) res.1 (va_A (wX5 q cy m_thr m_kept m_rea m_det m_isv m_iit m_len m_at m_err m_wro m_cmd m_to1 m_to2 m_now m_sav m_ahe m_bef m_hst m_noi m_own m_inp) sz)) 0 0 (va_A (wX5 q cy m_thr m_kept m_rea m_det m_isv m_iit m_len m_at m_err m_wro m_cmd m_to1 m_to2 m_now m_sav m_ahe m_bef m_hst m_noi m_own m_inp) sz) := by
  refine mk_rw (Qc := qI D (wX5 q cy res.2.1 res.2.2.1 res.2.2.2.1 res.2.2.2.2.1 m_isv m_iit m_len m_at m_err m_wro m_cmd m_to1 m_to2 res.2.2.2.2.2.1 m_sav m_ahe m_bef res.2.2.2.2.2.2 m_noi m_own m_inp) res.1) (Rc := RX5) (by decide +kernel) rfl (Nat.le_of_ble_eq_true rfl) ?_
  intro p e s m args below meth c ls A CX hml hr hlk hK hN hP hD hS hA hl
  have hx := CX.1
  have hb := CX.2.1
  have hRMX5_change : (⟨3, 0, 0, 56⟩ : Room).frames + 1 ≤ (⟨4, 0, 0, 76⟩ : Room).frames ∧ 8 + (1 + 11) + (⟨3, 0, 0, 56⟩ : Room).locals ≤ (⟨4, 0, 0, 76⟩ : Room).locals := ⟨Nat.le_of_ble_eq_true rfl, Nat.le_of_ble_eq_true rfl⟩
  have hRMX5_fails : (⟨1, 0, 0, 12⟩ : Room).frames + 1 ≤ (⟨4, 0, 0, 76⟩ : Room).frames ∧ 8 + (3 + 11) + (⟨1, 0, 0, 12⟩ : Room).locals ≤ (⟨4, 0, 0, 76⟩ : Room).locals := ⟨Nat.le_of_ble_eq_true rfl, Nat.le_of_ble_eq_true rfl⟩
  have hRMX5_isBusker : (⟨2, 0, 0, 34⟩ : Room).frames + 1 ≤ (⟨4, 0, 0, 76⟩ : Room).frames ∧ 8 + (2 + 11) + (⟨2, 0, 0, 34⟩ : Room).locals ≤ (⟨4, 0, 0, 76⟩ : Room).locals := ⟨Nat.le_of_ble_eq_true rfl, Nat.le_of_ble_eq_true rfl⟩
  have hRMX5_of : (⟨1, 0, 0, 12⟩ : Room).frames + 1 ≤ (⟨4, 0, 0, 76⟩ : Room).frames ∧ 8 + (3 + 11) + (⟨1, 0, 0, 12⟩ : Room).locals ≤ (⟨4, 0, 0, 76⟩ : Room).locals := ⟨Nat.le_of_ble_eq_true rfl, Nat.le_of_ble_eq_true rfl⟩
  have hRMX5_put : (⟨1, 0, 0, 12⟩ : Room).frames + 1 ≤ (⟨4, 0, 0, 76⟩ : Room).frames ∧ 8 + (4 + 11) + (⟨1, 0, 0, 12⟩ : Room).locals ≤ (⟨4, 0, 0, 76⟩ : Room).locals := ⟨Nat.le_of_ble_eq_true rfl, Nat.le_of_ble_eq_true rfl⟩
  have hRMX5_refuse : (⟨1, 0, 0, 12⟩ : Room).frames + 1 ≤ (⟨4, 0, 0, 76⟩ : Room).frames ∧ 8 + (4 + 11) + (⟨1, 0, 0, 12⟩ : Room).locals ≤ (⟨4, 0, 0, 76⟩ : Room).locals := ⟨Nat.le_of_ble_eq_true rfl, Nat.le_of_ble_eq_true rfl⟩
  have hl0 := hl
  have K39 : ∀ (t0 : Int32) (t2 : Int32) (m_thr : Int32) (m_kept : Int32) (m_rea : Int32) (m_det : Int32) (m_now : Nat → Int32) (m_hst : Nat → Nat → Int32) (H : Heap) (locs : List Loc) (hP : va_P D vwCl (wX5 q cy m_thr m_kept m_rea m_det m_isv m_iit m_len m_at m_err m_wro m_cmd m_to1 m_to2 m_now m_sav m_ahe m_bef m_hst m_noi m_own m_inp) H) (hD : va_D A (wX5 q cy m_thr m_kept m_rea m_det m_isv m_iit m_len m_at m_err m_wro m_cmd m_to1 m_to2 m_now m_sav m_ahe m_bef m_hst m_noi m_own m_inp)) (hS : va_S A s.heap H locs) (ls : Array Slot) (hl : lv_has ls 3 [(0, .ref (q 0)), (1, .int a1)]) (hf : f_X5_unrack_c39 m_iit a1 t0 t2 m_thr m_kept m_rea m_det m_now m_hst = some res), W p l e ⟨4, 0, 0, 76⟩ s m args below meth c H locs 0 0 (MQ below (qI D (wX5 q cy res.2.1 res.2.2.1 res.2.2.2.1 res.2.2.2.2.1 m_isv m_iit m_len m_at m_err m_wro m_cmd m_to1 m_to2 res.2.2.2.2.2.1 m_sav m_ahe m_bef res.2.2.2.2.2.2 m_noi m_own m_inp) res.1 A) args s 0 0 A) (F0 m 39 ls [.int t0, .ref (q 0), .int t2, .ref (q 0)]) := by
    intro t0 t2 m_thr m_kept m_rea m_det m_now m_hst H locs hP hD hS ls hl hf
    refine lv_bipush (v := 13) hx hb (dg ddX5_unrack 23 rfl) (by decide) ?_
    refine lv_iload_n hx hb (dg ddX5_unrack 24 rfl) rfl (lv_at hl 1 rfl) ?_
    obtain ⟨r2, e1, hf⟩ := ob_some hf
    refine crw_vi CX hml (As := [.int t0, .int 13, .int a1]) (rest := [.int t2, .ref (q 0)]) (c_X5_refuse l D cy q m_thr m_kept m_rea m_det m_isv m_iit m_len m_at m_err m_wro m_cmd m_to1 m_to2 m_now m_sav m_ahe m_bef m_hst m_noi m_own m_inp t0 13 a1 _ e1) lk_RX5_106 rfl rfl hRMX5_refuse hP hD hS hA hK hN 0 rfl rfl rfl hl.1 rfl (Nat.le_of_ble_eq_true rfl) ⟨Nat.le_of_ble_eq_true rfl, Nat.le_of_ble_eq_true rfl⟩ (dg ddX5_unrack 25 rfl) (fun H locs hP hD hS => ?_)
    obtain ⟨r4, e3, hf⟩ := ob_some hf
    refine crw_vi CX hml (As := [.int t2, .int r2.1]) (rest := []) (c_X5_fails l D cy q m_thr m_kept r2.2.1 r2.2.2 m_isv m_iit m_len m_at m_err m_wro m_cmd m_to1 m_to2 m_now m_sav m_ahe m_bef m_hst m_noi m_own m_inp t2 r2.1 _ e3) lk_RX5_81 rfl rfl hRMX5_fails hP hD hS hA hK hN 0 rfl rfl rfl hl.1 rfl (Nat.le_of_ble_eq_true rfl) ⟨Nat.le_of_ble_eq_true rfl, Nat.le_of_ble_eq_true rfl⟩ (dg ddX5_unrack 26 rfl) (fun H locs hP hD hS => ?_)
    refine lv_if_eq (tgt := 53) hx hb (dg ddX5_unrack 27 rfl) (by decide) (fun h5 => ?_) (fun h5 => ?_)
    · have hf := it_t h5 hf
      refine lv_aload_n hx hb (dg ddX5_unrack 30 rfl) rfl (lv_at hl 0 rfl) ?_
      obtain ⟨r7, e6, hf⟩ := ob_some hf
      refine crw_vv CX hml (As := []) (rest := []) (c_X5_change l D cy q r4.2 m_kept r2.2.1 r2.2.2 m_isv m_iit m_len m_at m_err m_wro m_cmd m_to1 m_to2 m_now m_sav m_ahe m_bef m_hst m_noi m_own m_inp _ e6) lk_RX5_85 rfl rfl hRMX5_change hP hD hS hA hK hN 0 rfl rfl rfl hl.1 rfl (Nat.le_of_ble_eq_true rfl) ⟨Nat.le_of_ble_eq_true rfl, Nat.le_of_ble_eq_true rfl⟩ (dg ddX5_unrack 31 rfl) (fun H locs hP hD hS => ?_)
      refine lv_aload_n hx hb (dg ddX5_unrack 32 rfl) rfl (lv_at hl 0 rfl) ?_
      refine lv_iload_n hx hb (dg ddX5_unrack 33 rfl) rfl (lv_at hl 1 rfl) ?_
      refine lv_iconst (v := 5) hx hb (dg ddX5_unrack 34 rfl) (by decide) ?_
      obtain ⟨r9, e8, hf⟩ := ob_some hf
      refine cro_vi CX hml (As := [.int a1, .int 5]) (rest := []) (c_X5_of l D cy q r4.2 r7.1 r2.2.1 r2.2.2 m_isv m_iit m_len m_at m_err m_wro m_cmd m_to1 m_to2 m_now m_sav m_ahe m_bef r7.2 m_noi m_own m_inp a1 5 e8) lk_RX5_100 rfl rfl hRMX5_of hP hK hN 0 rfl rfl rfl hl.1 rfl (Nat.le_of_ble_eq_true rfl) ⟨Nat.le_of_ble_eq_true rfl, Nat.le_of_ble_eq_true rfl⟩ (dg ddX5_unrack 35 rfl) ?_
      refine lv_istore_n (lv' := [(2, .int r9), (0, .ref (q 0)), (1, .int a1)]) hx hb (dg ddX5_unrack 36 rfl) rfl hl (by decide) rfl (fun ls hl => ?_)
      refine lv_aload_n hx hb (dg ddX5_unrack 37 rfl) rfl (lv_at hl 1 rfl) ?_
      refine lv_iload_n hx hb (dg ddX5_unrack 38 rfl) rfl (lv_at hl 2 rfl) ?_
      refine lv_iconst (v := 5) hx hb (dg ddX5_unrack 39 rfl) (by decide) ?_
      refine lv_iconst (v := (-1)) hx hb (dg ddX5_unrack 40 rfl) (by decide) ?_
      obtain ⟨r11, e10, hf⟩ := ob_some hf
      refine crw_vv CX hml (As := [.int a1, .int 5, .int (-1)]) (rest := []) (c_X5_put l D cy q r4.2 r7.1 r2.2.1 r2.2.2 m_isv m_iit m_len m_at m_err m_wro m_cmd m_to1 m_to2 m_now m_sav m_ahe m_bef r7.2 m_noi m_own m_inp a1 5 (-1) _ e10) lk_RX5_103 rfl rfl hRMX5_put hP hD hS hA hK hN 0 rfl rfl rfl hl.1 rfl (Nat.le_of_ble_eq_true rfl) ⟨Nat.le_of_ble_eq_true rfl, Nat.le_of_ble_eq_true rfl⟩ (dg ddX5_unrack 41 rfl) (fun H locs hP hD hS => ?_)
      refine lv_iload_n hx hb (dg ddX5_unrack 42 rfl) rfl (lv_at hl 0 rfl) ?_
      cases hf
      exact e_wi CX hr hlk rfl hP hD hS (dg ddX5_unrack 43 rfl)
    · have hf := it_f h5 hf
      refine lv_iconst (v := 0) hx hb (dg ddX5_unrack 28 rfl) (by decide) ?_
      cases hf
      exact e_wi CX hr hlk rfl hP hD hS (dg ddX5_unrack 29 rfl)
  have K15 : ∀ (t0 : Int32) (t1 : Int32) (m_thr : Int32) (m_kept : Int32) (m_rea : Int32) (m_det : Int32) (m_now : Nat → Int32) (m_hst : Nat → Nat → Int32) (H : Heap) (locs : List Loc) (hP : va_P D vwCl (wX5 q cy m_thr m_kept m_rea m_det m_isv m_iit m_len m_at m_err m_wro m_cmd m_to1 m_to2 m_now m_sav m_ahe m_bef m_hst m_noi m_own m_inp) H) (hD : va_D A (wX5 q cy m_thr m_kept m_rea m_det m_isv m_iit m_len m_at m_err m_wro m_cmd m_to1 m_to2 m_now m_sav m_ahe m_bef m_hst m_noi m_own m_inp)) (hS : va_S A s.heap H locs) (ls : Array Slot) (hl : lv_has ls 3 [(0, .ref (q 0)), (1, .int a1)]) (hf : f_X5_unrack_c15 m_iit a1 t0 t1 m_thr m_kept m_rea m_det m_now m_hst = some res), W p l e ⟨4, 0, 0, 76⟩ s m args below meth c H locs 0 0 (MQ below (qI D (wX5 q cy res.2.1 res.2.2.1 res.2.2.2.1 res.2.2.2.2.1 m_isv m_iit m_len m_at m_err m_wro m_cmd m_to1 m_to2 res.2.2.2.2.2.1 m_sav m_ahe m_bef res.2.2.2.2.2.2 m_noi m_own m_inp) res.1 A) args s 0 0 A) (F0 m 15 ls [.int t0, .int t1, .ref (q 0)]) := by
    intro t0 t1 m_thr m_kept m_rea m_det m_now m_hst H locs hP hD hS ls hl hf
    obtain ⟨r2, e1, hf⟩ := ob_some hf
    refine crw_vi CX hml (As := [.int t1, .int t0]) (rest := []) (c_X5_fails l D cy q m_thr m_kept m_rea m_det m_isv m_iit m_len m_at m_err m_wro m_cmd m_to1 m_to2 m_now m_sav m_ahe m_bef m_hst m_noi m_own m_inp t1 t0 _ e1) lk_RX5_81 rfl rfl hRMX5_fails hP hD hS hA hK hN 0 rfl rfl rfl hl.1 rfl (Nat.le_of_ble_eq_true rfl) ⟨Nat.le_of_ble_eq_true rfl, Nat.le_of_ble_eq_true rfl⟩ (dg ddX5_unrack 9 rfl) (fun H locs hP hD hS => ?_)
    refine lv_if_ne (tgt := 51) hx hb (dg ddX5_unrack 10 rfl) (by decide) (fun h3 => ?_) (fun h3 => ?_)
    · have hf := it_f h3 hf
      refine lv_iconst (v := 0) hx hb (dg ddX5_unrack 28 rfl) (by decide) ?_
      cases hf
      exact e_wi CX hr hlk rfl hP hD hS (dg ddX5_unrack 29 rfl)
    · have hf := it_t h3 hf
      refine lv_aload_n hx hb (dg ddX5_unrack 11 rfl) rfl (lv_at hl 0 rfl) ?_
      refine lv_iconst (v := 2) hx hb (dg ddX5_unrack 12 rfl) (by decide) ?_
      refine lv_aload_n hx hb (dg ddX5_unrack 13 rfl) rfl (lv_at hl 0 rfl) ?_
      refine lv_aload_n hx hb (dg ddX5_unrack 14 rfl) rfl (lv_at hl 0 rfl) ?_
      refine lv_iload_n hx hb (dg ddX5_unrack 15 rfl) rfl (lv_at hl 1 rfl) ?_
      refine lv_iconst (v := 5) hx hb (dg ddX5_unrack 16 rfl) (by decide) ?_
      obtain ⟨r5, e4, hf⟩ := ob_some hf
      refine cro_vi CX hml (As := [.int a1, .int 5]) (rest := [.ref (q 0), .int 2, .ref (q 0)]) (c_X5_of l D cy q r2.2 m_kept m_rea m_det m_isv m_iit m_len m_at m_err m_wro m_cmd m_to1 m_to2 m_now m_sav m_ahe m_bef m_hst m_noi m_own m_inp a1 5 e4) lk_RX5_100 rfl rfl hRMX5_of hP hK hN 0 rfl rfl rfl hl.1 rfl (Nat.le_of_ble_eq_true rfl) ⟨Nat.le_of_ble_eq_true rfl, Nat.le_of_ble_eq_true rfl⟩ (dg ddX5_unrack 17 rfl) ?_
      refine lv_iconst (v := (-1)) hx hb (dg ddX5_unrack 18 rfl) (by decide) ?_
      refine lv_icmp_ne (tgt := 38) hx hb (dg ddX5_unrack 19 rfl) (by decide) (fun h6 => ?_) (fun h6 => ?_)
      · have hf := it_f h6 hf
        refine lv_iconst (v := 0) hx hb (dg ddX5_unrack 22 rfl) (by decide) ?_
        exact K39  0 2 r2.2 m_kept m_rea m_det m_now m_hst _ _ hP hD hS _ (lv_sub hl [0, 1] rfl) hf
      · have hf := it_t h6 hf
        refine lv_iconst (v := 1) hx hb (dg ddX5_unrack 20 rfl) (by decide) ?_
        refine lv_goto (tgt := 39) hx hb (dg ddX5_unrack 21 rfl) (by decide) ?_
        exact K39  1 2 r2.2 m_kept m_rea m_det m_now m_hst _ _ hP hD hS _ (lv_sub hl [0, 1] rfl) hf
  refine lv_aload_n hx hb (dg ddX5_unrack 0 rfl) rfl (lv_at hl 0 rfl) ?_
  refine lv_iconst (v := 1) hx hb (dg ddX5_unrack 1 rfl) (by decide) ?_
  refine lv_aload_n hx hb (dg ddX5_unrack 2 rfl) rfl (lv_at hl 0 rfl) ?_
  refine lv_iload_n hx hb (dg ddX5_unrack 3 rfl) rfl (lv_at hl 1 rfl) ?_
  obtain ⟨r2, e1, hf⟩ := ob_some hf
  refine cro_vi CX hml (As := [.int a1]) (rest := [.int 1, .ref (q 0)]) (c_X5_isBusker l D cy q m_thr m_kept m_rea m_det m_isv m_iit m_len m_at m_err m_wro m_cmd m_to1 m_to2 m_now m_sav m_ahe m_bef m_hst m_noi m_own m_inp a1 e1) lk_RX5_114 rfl rfl hRMX5_isBusker hP hK hN 0 rfl rfl rfl hl.1 rfl (Nat.le_of_ble_eq_true rfl) ⟨Nat.le_of_ble_eq_true rfl, Nat.le_of_ble_eq_true rfl⟩ (dg ddX5_unrack 4 rfl) ?_
  refine lv_if_ne (tgt := 14) hx hb (dg ddX5_unrack 5 rfl) (by decide) (fun h3 => ?_) (fun h3 => ?_)
  · have hf := it_f h3 hf
    refine lv_iconst (v := 0) hx hb (dg ddX5_unrack 8 rfl) (by decide) ?_
    exact K15  0 1 m_thr m_kept m_rea m_det m_now m_hst _ _ hP hD hS _ (lv_sub hl [0, 1] rfl) hf
  · have hf := it_t h3 hf
    refine lv_iconst (v := 1) hx hb (dg ddX5_unrack 6 rfl) (by decide) ?_
    refine lv_goto (tgt := 15) hx hb (dg ddX5_unrack 7 rfl) (by decide) ?_
    exact K15  1 1 m_thr m_kept m_rea m_det m_now m_hst _ _ hP hD hS _ (lv_sub hl [0, 1] rfl) hf
def f_X5_onRack_c46  (m_now : Nat → Int32) (a1 : Int32) (a2 : Int32) (t0 : Int32) (t1 : Int32) (m_thr : Int32) : Option (Int32 × Int32) := ob (f_X5_fails m_thr t1 t0) fun r2 => (if r2.1 = 0 then (ob (f_X5_caseOn m_now a1 a2) fun r5 => (some (r5, r2.2))) else (some (0, r2.2)))
def f_X5_onRack_c23  (m_now : Nat → Int32) (a1 : Int32) (a2 : Int32) (t0 : Int32) (t1 : Int32) (m_thr : Int32) : Option (Int32 × Int32) := ob (f_X5_fails m_thr t1 t0) fun r2 => (if r2.1 = 0 then (ob (f_X5_caseOn m_now a1 a2) fun r5 => (if r5 = (-1) then (f_X5_onRack_c46 m_now a1 a2 1 2 r2.2) else (f_X5_onRack_c46 m_now a1 a2 0 2 r2.2))) else (some (0, r2.2)))
def f_X5_onRack_c18  (m_now : Nat → Int32) (a1 : Int32) (a2 : Int32) (t0 : Int32) (m_thr : Int32) : Option (Int32 × Int32) := f_X5_onRack_c23 m_now a1 a2 1 t0 m_thr
def f_X5_onRack (m_thr : Int32) (m_now : Nat → Int32) (a1 : Int32) (a2 : Int32) : Option (Int32 × Int32) := ob (f_X5_isRack a1) fun r2 => (if r2 = 0 then (f_X5_onRack_c18 m_now a1 a2 1 m_thr) else (ob (f_X5_isBetween a2 0 2) fun r5 => (if r5 = 0 then (f_X5_onRack_c18 m_now a1 a2 1 m_thr) else (f_X5_onRack_c23 m_now a1 a2 0 1 m_thr))))
set_option maxHeartbeats 4000000 in
set_option maxRecDepth 100000 in
theorem c_X5_onRack (l : Launch) (D : va_G) (cy : Nat → ClassId) (q : Nat → Nat) (m_thr : Int32) (m_kept : Int32) (m_rea : Int32) (m_det : Int32) (m_isv : Int32) (m_iit : Int32) (m_len : Int32) (m_at : Int32) (m_err : Int32) (m_wro : Int32) (m_cmd : Int32) (m_to1 : Int32) (m_to2 : Int32) (m_now : Nat → Int32) (m_sav : Nat → Int32) (m_ahe : Nat → Int32) (m_bef : Nat → Int32) (m_hst : Nat → Nat → Int32) (m_noi : Nat → UInt32) (m_own : Nat → UInt32) (m_inp : Nat → Int32) (a1 : Int32) (a2 : Int32) (sz : Nat) {res : Int32 × Int32} (hf : f_X5_onRack m_thr m_now a1 a2 = some res) : Met l yX5_onRack (.code yX5_onRack cX5_onRack 3 (some .int) :: lw_all) { frames := 3, cells := 0, slots := 0, locals := 57 } (va_Pc [.ref (q 0), .int a1, .int a2] (sW D cy (wX5 q cy m_thr m_kept m_rea m_det m_isv m_iit m_len m_at m_err m_wro m_cmd m_to1 m_to2 m_now m_sav m_ahe m_bef m_hst m_noi m_own m_inp) sz)) (qI D (wX5 q cy res.2 m_kept m_rea m_det m_isv m_iit m_len m_at m_err m_wro m_cmd m_to1 m_to2 m_now m_sav m_ahe m_bef m_hst m_noi m_own m_inp) res.1 (va_A (wX5 q cy m_thr m_kept m_rea m_det m_isv m_iit m_len m_at m_err m_wro m_cmd m_to1 m_to2 m_now m_sav m_ahe m_bef m_hst m_noi m_own m_inp) sz)) 0 0 (va_A (wX5 q cy m_thr m_kept m_rea m_det m_isv m_iit m_len m_at m_err m_wro m_cmd m_to1 m_to2 m_now m_sav m_ahe m_bef m_hst m_noi m_own m_inp) sz) := by
  refine mk_rw (Qc := qI D (wX5 q cy res.2 m_kept m_rea m_det m_isv m_iit m_len m_at m_err m_wro m_cmd m_to1 m_to2 m_now m_sav m_ahe m_bef m_hst m_noi m_own m_inp) res.1) (Rc := RX5) (by decide +kernel) rfl (Nat.le_of_ble_eq_true rfl) ?_
  intro p e s m args below meth c ls A CX hml hr hlk hK hN hP hD hS hA hl
  have hx := CX.1
  have hb := CX.2.1
  have hRMX5_caseOn : (⟨2, 0, 0, 34⟩ : Room).frames + 1 ≤ (⟨3, 0, 0, 57⟩ : Room).frames ∧ 8 + (4 + 11) + (⟨2, 0, 0, 34⟩ : Room).locals ≤ (⟨3, 0, 0, 57⟩ : Room).locals := ⟨Nat.le_of_ble_eq_true rfl, Nat.le_of_ble_eq_true rfl⟩
  have hRMX5_fails : (⟨1, 0, 0, 12⟩ : Room).frames + 1 ≤ (⟨3, 0, 0, 57⟩ : Room).frames ∧ 8 + (3 + 11) + (⟨1, 0, 0, 12⟩ : Room).locals ≤ (⟨3, 0, 0, 57⟩ : Room).locals := ⟨Nat.le_of_ble_eq_true rfl, Nat.le_of_ble_eq_true rfl⟩
  have hRMX5_isBetween : (⟨1, 0, 0, 12⟩ : Room).frames + 1 ≤ (⟨3, 0, 0, 57⟩ : Room).frames ∧ 8 + (3 + 11) + (⟨1, 0, 0, 12⟩ : Room).locals ≤ (⟨3, 0, 0, 57⟩ : Room).locals := ⟨Nat.le_of_ble_eq_true rfl, Nat.le_of_ble_eq_true rfl⟩
  have hRMX5_isRack : (⟨2, 0, 0, 34⟩ : Room).frames + 1 ≤ (⟨3, 0, 0, 57⟩ : Room).frames ∧ 8 + (1 + 11) + (⟨2, 0, 0, 34⟩ : Room).locals ≤ (⟨3, 0, 0, 57⟩ : Room).locals := ⟨Nat.le_of_ble_eq_true rfl, Nat.le_of_ble_eq_true rfl⟩
  have hl0 := hl
  have K46 : ∀ (t0 : Int32) (t1 : Int32) (m_thr : Int32) (H : Heap) (locs : List Loc) (hP : va_P D vwCl (wX5 q cy m_thr m_kept m_rea m_det m_isv m_iit m_len m_at m_err m_wro m_cmd m_to1 m_to2 m_now m_sav m_ahe m_bef m_hst m_noi m_own m_inp) H) (hD : va_D A (wX5 q cy m_thr m_kept m_rea m_det m_isv m_iit m_len m_at m_err m_wro m_cmd m_to1 m_to2 m_now m_sav m_ahe m_bef m_hst m_noi m_own m_inp)) (hS : va_S A s.heap H locs) (ls : Array Slot) (hl : lv_has ls 3 [(0, .ref (q 0)), (1, .int a1), (2, .int a2)]) (hf : f_X5_onRack_c46 m_now a1 a2 t0 t1 m_thr = some res), W p l e ⟨3, 0, 0, 57⟩ s m args below meth c H locs 0 0 (MQ below (qI D (wX5 q cy res.2 m_kept m_rea m_det m_isv m_iit m_len m_at m_err m_wro m_cmd m_to1 m_to2 m_now m_sav m_ahe m_bef m_hst m_noi m_own m_inp) res.1 A) args s 0 0 A) (F0 m 46 ls [.int t0, .int t1, .ref (q 0)]) := by
    intro t0 t1 m_thr H locs hP hD hS ls hl hf
    obtain ⟨r2, e1, hf⟩ := ob_some hf
    refine crw_vi CX hml (As := [.int t1, .int t0]) (rest := []) (c_X5_fails l D cy q m_thr m_kept m_rea m_det m_isv m_iit m_len m_at m_err m_wro m_cmd m_to1 m_to2 m_now m_sav m_ahe m_bef m_hst m_noi m_own m_inp t1 t0 _ e1) lk_RX5_81 rfl rfl hRMX5_fails hP hD hS hA hK hN 0 rfl rfl rfl hl.1 rfl (Nat.le_of_ble_eq_true rfl) ⟨Nat.le_of_ble_eq_true rfl, Nat.le_of_ble_eq_true rfl⟩ (dg ddX5_onRack 26 rfl) (fun H locs hP hD hS => ?_)
    refine lv_if_eq (tgt := 54) hx hb (dg ddX5_onRack 27 rfl) (by decide) (fun h3 => ?_) (fun h3 => ?_)
    · have hf := it_t h3 hf
      refine lv_aload_n hx hb (dg ddX5_onRack 30 rfl) rfl (lv_at hl 0 rfl) ?_
      refine lv_iload_n hx hb (dg ddX5_onRack 31 rfl) rfl (lv_at hl 1 rfl) ?_
      refine lv_iload_n hx hb (dg ddX5_onRack 32 rfl) rfl (lv_at hl 2 rfl) ?_
      obtain ⟨r5, e4, hf⟩ := ob_some hf
      refine cro_vi CX hml (As := [.int a1, .int a2]) (rest := []) (c_X5_caseOn l D cy q r2.2 m_kept m_rea m_det m_isv m_iit m_len m_at m_err m_wro m_cmd m_to1 m_to2 m_now m_sav m_ahe m_bef m_hst m_noi m_own m_inp a1 a2 e4) lk_RX5_163 rfl rfl hRMX5_caseOn hP hK hN 0 rfl rfl rfl hl.1 rfl (Nat.le_of_ble_eq_true rfl) ⟨Nat.le_of_ble_eq_true rfl, Nat.le_of_ble_eq_true rfl⟩ (dg ddX5_onRack 33 rfl) ?_
      cases hf
      exact e_wi CX hr hlk rfl hP hD hS (dg ddX5_onRack 34 rfl)
    · have hf := it_f h3 hf
      refine lv_iconst (v := 0) hx hb (dg ddX5_onRack 28 rfl) (by decide) ?_
      cases hf
      exact e_wi CX hr hlk rfl hP hD hS (dg ddX5_onRack 29 rfl)
  have K23 : ∀ (t0 : Int32) (t1 : Int32) (m_thr : Int32) (H : Heap) (locs : List Loc) (hP : va_P D vwCl (wX5 q cy m_thr m_kept m_rea m_det m_isv m_iit m_len m_at m_err m_wro m_cmd m_to1 m_to2 m_now m_sav m_ahe m_bef m_hst m_noi m_own m_inp) H) (hD : va_D A (wX5 q cy m_thr m_kept m_rea m_det m_isv m_iit m_len m_at m_err m_wro m_cmd m_to1 m_to2 m_now m_sav m_ahe m_bef m_hst m_noi m_own m_inp)) (hS : va_S A s.heap H locs) (ls : Array Slot) (hl : lv_has ls 3 [(0, .ref (q 0)), (1, .int a1), (2, .int a2)]) (hf : f_X5_onRack_c23 m_now a1 a2 t0 t1 m_thr = some res), W p l e ⟨3, 0, 0, 57⟩ s m args below meth c H locs 0 0 (MQ below (qI D (wX5 q cy res.2 m_kept m_rea m_det m_isv m_iit m_len m_at m_err m_wro m_cmd m_to1 m_to2 m_now m_sav m_ahe m_bef m_hst m_noi m_own m_inp) res.1 A) args s 0 0 A) (F0 m 23 ls [.int t0, .int t1, .ref (q 0)]) := by
    intro t0 t1 m_thr H locs hP hD hS ls hl hf
    obtain ⟨r2, e1, hf⟩ := ob_some hf
    refine crw_vi CX hml (As := [.int t1, .int t0]) (rest := []) (c_X5_fails l D cy q m_thr m_kept m_rea m_det m_isv m_iit m_len m_at m_err m_wro m_cmd m_to1 m_to2 m_now m_sav m_ahe m_bef m_hst m_noi m_own m_inp t1 t0 _ e1) lk_RX5_81 rfl rfl hRMX5_fails hP hD hS hA hK hN 0 rfl rfl rfl hl.1 rfl (Nat.le_of_ble_eq_true rfl) ⟨Nat.le_of_ble_eq_true rfl, Nat.le_of_ble_eq_true rfl⟩ (dg ddX5_onRack 13 rfl) (fun H locs hP hD hS => ?_)
    refine lv_if_ne (tgt := 52) hx hb (dg ddX5_onRack 14 rfl) (by decide) (fun h3 => ?_) (fun h3 => ?_)
    · have hf := it_f h3 hf
      refine lv_iconst (v := 0) hx hb (dg ddX5_onRack 28 rfl) (by decide) ?_
      cases hf
      exact e_wi CX hr hlk rfl hP hD hS (dg ddX5_onRack 29 rfl)
    · have hf := it_t h3 hf
      refine lv_aload_n hx hb (dg ddX5_onRack 15 rfl) rfl (lv_at hl 0 rfl) ?_
      refine lv_iconst (v := 2) hx hb (dg ddX5_onRack 16 rfl) (by decide) ?_
      refine lv_aload_n hx hb (dg ddX5_onRack 17 rfl) rfl (lv_at hl 0 rfl) ?_
      refine lv_iload_n hx hb (dg ddX5_onRack 18 rfl) rfl (lv_at hl 1 rfl) ?_
      refine lv_iload_n hx hb (dg ddX5_onRack 19 rfl) rfl (lv_at hl 2 rfl) ?_
      obtain ⟨r5, e4, hf⟩ := ob_some hf
      refine cro_vi CX hml (As := [.int a1, .int a2]) (rest := [.int 2, .ref (q 0)]) (c_X5_caseOn l D cy q r2.2 m_kept m_rea m_det m_isv m_iit m_len m_at m_err m_wro m_cmd m_to1 m_to2 m_now m_sav m_ahe m_bef m_hst m_noi m_own m_inp a1 a2 e4) lk_RX5_163 rfl rfl hRMX5_caseOn hP hK hN 0 rfl rfl rfl hl.1 rfl (Nat.le_of_ble_eq_true rfl) ⟨Nat.le_of_ble_eq_true rfl, Nat.le_of_ble_eq_true rfl⟩ (dg ddX5_onRack 20 rfl) ?_
      refine lv_iconst (v := (-1)) hx hb (dg ddX5_onRack 21 rfl) (by decide) ?_
      refine lv_icmp_ne (tgt := 45) hx hb (dg ddX5_onRack 22 rfl) (by decide) (fun h6 => ?_) (fun h6 => ?_)
      · have hf := it_f h6 hf
        refine lv_iconst (v := 0) hx hb (dg ddX5_onRack 25 rfl) (by decide) ?_
        exact K46  0 2 r2.2 _ _ hP hD hS _ (lv_sub hl [0, 1, 2] rfl) hf
      · have hf := it_t h6 hf
        refine lv_iconst (v := 1) hx hb (dg ddX5_onRack 23 rfl) (by decide) ?_
        refine lv_goto (tgt := 46) hx hb (dg ddX5_onRack 24 rfl) (by decide) ?_
        exact K46  1 2 r2.2 _ _ hP hD hS _ (lv_sub hl [0, 1, 2] rfl) hf
  have K18 : ∀ (t0 : Int32) (m_thr : Int32) (H : Heap) (locs : List Loc) (hP : va_P D vwCl (wX5 q cy m_thr m_kept m_rea m_det m_isv m_iit m_len m_at m_err m_wro m_cmd m_to1 m_to2 m_now m_sav m_ahe m_bef m_hst m_noi m_own m_inp) H) (hD : va_D A (wX5 q cy m_thr m_kept m_rea m_det m_isv m_iit m_len m_at m_err m_wro m_cmd m_to1 m_to2 m_now m_sav m_ahe m_bef m_hst m_noi m_own m_inp)) (hS : va_S A s.heap H locs) (ls : Array Slot) (hl : lv_has ls 3 [(0, .ref (q 0)), (1, .int a1), (2, .int a2)]) (hf : f_X5_onRack_c18 m_now a1 a2 t0 m_thr = some res), W p l e ⟨3, 0, 0, 57⟩ s m args below meth c H locs 0 0 (MQ below (qI D (wX5 q cy res.2 m_kept m_rea m_det m_isv m_iit m_len m_at m_err m_wro m_cmd m_to1 m_to2 m_now m_sav m_ahe m_bef m_hst m_noi m_own m_inp) res.1 A) args s 0 0 A) (F0 m 18 ls [.int t0, .ref (q 0)]) := by
    intro t0 m_thr H locs hP hD hS ls hl hf
    refine lv_iconst (v := 1) hx hb (dg ddX5_onRack 10 rfl) (by decide) ?_
    refine lv_goto (tgt := 23) hx hb (dg ddX5_onRack 11 rfl) (by decide) ?_
    exact K23  1 t0 m_thr _ _ hP hD hS _ (lv_sub hl [0, 1, 2] rfl) hf
  refine lv_aload_n hx hb (dg ddX5_onRack 0 rfl) rfl (lv_at hl 0 rfl) ?_
  refine lv_iconst (v := 1) hx hb (dg ddX5_onRack 1 rfl) (by decide) ?_
  refine lv_iload_n hx hb (dg ddX5_onRack 2 rfl) rfl (lv_at hl 1 rfl) ?_
  obtain ⟨r2, e1, hf⟩ := ob_some hf
  refine cro_si CX hml (As := [.int a1]) (rest := [.int 1, .ref (q 0)]) (c_X5_isRack l D cy a1 e1) lk_RX5_169 rfl rfl hRMX5_isRack vaP_nil hK hN rfl hl.1 rfl (Nat.le_of_ble_eq_true rfl) ⟨Nat.le_of_ble_eq_true rfl, Nat.le_of_ble_eq_true rfl⟩ (dg ddX5_onRack 3 rfl) ?_
  refine lv_if_eq (tgt := 18) hx hb (dg ddX5_onRack 4 rfl) (by decide) (fun h3 => ?_) (fun h3 => ?_)
  · have hf := it_t h3 hf
    exact K18  1 m_thr _ _ hP hD hS _ (lv_sub hl [0, 1, 2] rfl) hf
  · have hf := it_f h3 hf
    refine lv_iload_n hx hb (dg ddX5_onRack 5 rfl) rfl (lv_at hl 2 rfl) ?_
    refine lv_iconst (v := 0) hx hb (dg ddX5_onRack 6 rfl) (by decide) ?_
    refine lv_iconst (v := 2) hx hb (dg ddX5_onRack 7 rfl) (by decide) ?_
    obtain ⟨r5, e4, hf⟩ := ob_some hf
    refine cro_si CX hml (As := [.int a2, .int 0, .int 2]) (rest := [.int 1, .ref (q 0)]) (c_X5_isBetween l D cy a2 0 2 e4) lk_RX5_77 rfl rfl hRMX5_isBetween vaP_nil hK hN rfl hl.1 rfl (Nat.le_of_ble_eq_true rfl) ⟨Nat.le_of_ble_eq_true rfl, Nat.le_of_ble_eq_true rfl⟩ (dg ddX5_onRack 8 rfl) ?_
    refine lv_if_ne (tgt := 22) hx hb (dg ddX5_onRack 9 rfl) (by decide) (fun h6 => ?_) (fun h6 => ?_)
    · have hf := it_f h6 hf
      refine lv_iconst (v := 0) hx hb (dg ddX5_onRack 12 rfl) (by decide) ?_
      exact K23  0 1 m_thr _ _ hP hD hS _ (lv_sub hl [0, 1, 2] rfl) hf
    · have hf := it_t h6 hf
      exact K18  1 m_thr _ _ hP hD hS _ (lv_sub hl [0, 1, 2] rfl) hf
def f_X5_isAhead (m_now : Nat → Int32) (a1 : Int32) (a2 : Int32) : Option (Int32) := ob (f_X5_floatOf m_now a1 2) fun r2 => (ob (f_X5_floatOf m_now a2 2) fun r4 => (if 0 < (Op.cmpValue (FP.fcmp r2 r4) .l) then (some 1) else (if (Op.cmpValue (FP.fcmp r2 r4) .l) = 0 then (if a2 ≤ a1 then (some 0) else (some 1)) else (some 0))))
set_option maxHeartbeats 4000000 in
set_option maxRecDepth 100000 in
theorem c_X5_isAhead (l : Launch) (D : va_G) (cy : Nat → ClassId) (q : Nat → Nat) (m_thr : Int32) (m_kept : Int32) (m_rea : Int32) (m_det : Int32) (m_isv : Int32) (m_iit : Int32) (m_len : Int32) (m_at : Int32) (m_err : Int32) (m_wro : Int32) (m_cmd : Int32) (m_to1 : Int32) (m_to2 : Int32) (m_now : Nat → Int32) (m_sav : Nat → Int32) (m_ahe : Nat → Int32) (m_bef : Nat → Int32) (m_hst : Nat → Nat → Int32) (m_noi : Nat → UInt32) (m_own : Nat → UInt32) (m_inp : Nat → Int32) (a1 : Int32) (a2 : Int32) {res : Int32} (hf : f_X5_isAhead m_now a1 a2 = some res) : Met l yX5_isAhead (.code yX5_isAhead cX5_isAhead 5 (some .boolean) :: lw_all) { frames := 3, cells := 0, slots := 0, locals := 62 } (va_Pc [.ref (q 0), .int a1, .int a2] (sR D cy (wX5 q cy m_thr m_kept m_rea m_det m_isv m_iit m_len m_at m_err m_wro m_cmd m_to1 m_to2 m_now m_sav m_ahe m_bef m_hst m_noi m_own m_inp))) (vp_Si (fun r => r = res)) 0 0 (fun _ => False) := by
  refine mk_ro (Rc := RX5) (by decide +kernel) rfl (Nat.le_of_ble_eq_true rfl) ?_
  intro p e s m args below meth c ls CX hml hr hlk hK hN hP hl
  have hx := CX.1
  have hb := CX.2.1
  have hRMX5_floatOf : (⟨2, 0, 0, 40⟩ : Room).frames + 1 ≤ (⟨3, 0, 0, 62⟩ : Room).frames ∧ 8 + (3 + 11) + (⟨2, 0, 0, 40⟩ : Room).locals ≤ (⟨3, 0, 0, 62⟩ : Room).locals := ⟨Nat.le_of_ble_eq_true rfl, Nat.le_of_ble_eq_true rfl⟩
  refine lv_aload_n hx hb (dg ddX5_isAhead 0 rfl) rfl (lv_at hl 0 rfl) ?_
  refine lv_iload_n hx hb (dg ddX5_isAhead 1 rfl) rfl (lv_at hl 1 rfl) ?_
  refine lv_iconst (v := 2) hx hb (dg ddX5_isAhead 2 rfl) (by decide) ?_
  obtain ⟨r2, e1, hf⟩ := ob_some hf
  refine cro_vf CX hml (As := [.int a1, .int 2]) (rest := []) (c_X5_floatOf l D cy q m_thr m_kept m_rea m_det m_isv m_iit m_len m_at m_err m_wro m_cmd m_to1 m_to2 m_now m_sav m_ahe m_bef m_hst m_noi m_own m_inp a1 2 e1) lk_RX5_121 rfl rfl hRMX5_floatOf hP hK hN 0 rfl rfl rfl hl.1 rfl (Nat.le_of_ble_eq_true rfl) ⟨Nat.le_of_ble_eq_true rfl, Nat.le_of_ble_eq_true rfl⟩ (dg ddX5_isAhead 3 rfl) ?_
  refine lv_fstore_n (lv' := [(3, .float r2), (0, .ref (q 0)), (1, .int a1), (2, .int a2)]) hx hb (dg ddX5_isAhead 4 rfl) rfl hl (by decide) rfl (fun ls hl => ?_)
  refine lv_aload_n hx hb (dg ddX5_isAhead 5 rfl) rfl (lv_at hl 1 rfl) ?_
  refine lv_iload_n hx hb (dg ddX5_isAhead 6 rfl) rfl (lv_at hl 3 rfl) ?_
  refine lv_iconst (v := 2) hx hb (dg ddX5_isAhead 7 rfl) (by decide) ?_
  obtain ⟨r4, e3, hf⟩ := ob_some hf
  refine cro_vf CX hml (As := [.int a2, .int 2]) (rest := []) (c_X5_floatOf l D cy q m_thr m_kept m_rea m_det m_isv m_iit m_len m_at m_err m_wro m_cmd m_to1 m_to2 m_now m_sav m_ahe m_bef m_hst m_noi m_own m_inp a2 2 e3) lk_RX5_121 rfl rfl hRMX5_floatOf hP hK hN 0 rfl rfl rfl hl.1 rfl (Nat.le_of_ble_eq_true rfl) ⟨Nat.le_of_ble_eq_true rfl, Nat.le_of_ble_eq_true rfl⟩ (dg ddX5_isAhead 8 rfl) ?_
  refine lv_fstore (lv' := [(4, .float r4), (3, .float r2), (0, .ref (q 0)), (1, .int a1), (2, .int a2)]) hx hb (dg ddX5_isAhead 9 rfl) hl (by decide) rfl (fun ls hl => ?_)
  refine lv_fload_n hx hb (dg ddX5_isAhead 10 rfl) rfl (lv_at hl 1 rfl) ?_
  refine lv_fload hx hb (dg ddX5_isAhead 11 rfl) (lv_at hl 0 rfl) ?_
  refine lv_fcmp hx hb (dg ddX5_isAhead 12 rfl) ?_
  refine lv_if_gt (tgt := 34) hx hb (dg ddX5_isAhead 13 rfl) (by decide) (fun h5 => ?_) (fun h5 => ?_)
  · have hf := it_t h5 hf
    refine lv_iconst (v := 1) hx hb (dg ddX5_isAhead 21 rfl) (by decide) ?_
    refine lv_goto (tgt := 39) hx hb (dg ddX5_isAhead 22 rfl) (by decide) ?_
    exact e_rz CX hr hlk (by decide) (Option.some.inj hf) (dg ddX5_isAhead 24 rfl)
  · have hf := it_f h5 hf
    refine lv_fload_n hx hb (dg ddX5_isAhead 14 rfl) rfl (lv_at hl 1 rfl) ?_
    refine lv_fload hx hb (dg ddX5_isAhead 15 rfl) (lv_at hl 0 rfl) ?_
    refine lv_fcmp hx hb (dg ddX5_isAhead 16 rfl) ?_
    refine lv_if_ne (tgt := 38) hx hb (dg ddX5_isAhead 17 rfl) (by decide) (fun h6 => ?_) (fun h6 => ?_)
    · have hf := it_f h6 hf
      refine lv_iconst (v := 0) hx hb (dg ddX5_isAhead 23 rfl) (by decide) ?_
      exact e_rz CX hr hlk (by decide) (Option.some.inj hf) (dg ddX5_isAhead 24 rfl)
    · have hf := it_t h6 hf
      refine lv_iload_n hx hb (dg ddX5_isAhead 18 rfl) rfl (lv_at hl 3 rfl) ?_
      refine lv_iload_n hx hb (dg ddX5_isAhead 19 rfl) rfl (lv_at hl 4 rfl) ?_
      refine lv_icmp_ge (tgt := 38) hx hb (dg ddX5_isAhead 20 rfl) (by decide) (fun h7 => ?_) (fun h7 => ?_)
      · have hf := it_t h7 hf
        refine lv_iconst (v := 0) hx hb (dg ddX5_isAhead 23 rfl) (by decide) ?_
        exact e_rz CX hr hlk (by decide) (Option.some.inj hf) (dg ddX5_isAhead 24 rfl)
      · have hf := it_f h7 hf
        refine lv_iconst (v := 1) hx hb (dg ddX5_isAhead 21 rfl) (by decide) ?_
        refine lv_goto (tgt := 39) hx hb (dg ddX5_isAhead 22 rfl) (by decide) ?_
        exact e_rz CX hr hlk (by decide) (Option.some.inj hf) (dg ddX5_isAhead 24 rfl)
def f_X5_ranked_c17 (rec2 : Int32 → Int32 → Option (Int32 × Int32)) (m_now : Nat → Int32) (a1 : Int32) : Nat → Int32 → Int32 → Int32 → Int32 → Option (Int32 × Int32)
  | 0, _, _, _, _ => none
  | n + 1, x2, x3, x4, m_thr => og (inb 2 112) (if (m_now (2 : Int32).toNatClampNeg) ≤ x4 then (if x3 = a1 then (some (x2, 0)) else (rec2 (x2 + 1) m_thr)) else (ob (f_X5_isAhead m_now x4 x2) fun r5 => (if r5 = 0 then (f_X5_ranked_c17 rec2 m_now a1 n x2 (x3 + 0) (x4 + 1) m_thr) else (f_X5_ranked_c17 rec2 m_now a1 n x2 (x3 + 1) (x4 + 1) m_thr))))
def f_X5_ranked_c2  (m_now : Nat → Int32) (a1 : Int32) : Nat → Int32 → Int32 → Option (Int32 × Int32)
  | 0, _, _ => none
  | n + 1, x2, m_thr => og (inb 2 112) (if (m_now (2 : Int32).toNatClampNeg) ≤ x2 then (some (0, 1)) else (f_X5_ranked_c17 (f_X5_ranked_c2 m_now a1 n) m_now a1 4096 x2 0 0 m_thr))
def f_X5_ranked (m_thr : Int32) (m_now : Nat → Int32) (a1 : Int32) : Option (Int32 × Int32) := f_X5_ranked_c2 m_now a1 4096 0 m_thr
set_option maxHeartbeats 4000000 in
set_option maxRecDepth 100000 in
theorem c_X5_ranked (l : Launch) (D : va_G) (cy : Nat → ClassId) (q : Nat → Nat) (m_thr : Int32) (m_kept : Int32) (m_rea : Int32) (m_det : Int32) (m_isv : Int32) (m_iit : Int32) (m_len : Int32) (m_at : Int32) (m_err : Int32) (m_wro : Int32) (m_cmd : Int32) (m_to1 : Int32) (m_to2 : Int32) (m_now : Nat → Int32) (m_sav : Nat → Int32) (m_ahe : Nat → Int32) (m_bef : Nat → Int32) (m_hst : Nat → Nat → Int32) (m_noi : Nat → UInt32) (m_own : Nat → UInt32) (m_inp : Nat → Int32) (a1 : Int32) (sz : Nat) {res : Int32 × Int32} (hf : f_X5_ranked m_thr m_now a1 = some res) : Met l yX5_ranked (.code yX5_ranked cX5_ranked 5 (some .int) :: lw_all) { frames := 4, cells := 0, slots := 0, locals := 86 } (va_Pc [.ref (q 0), .int a1] (sW D cy (wX5 q cy m_thr m_kept m_rea m_det m_isv m_iit m_len m_at m_err m_wro m_cmd m_to1 m_to2 m_now m_sav m_ahe m_bef m_hst m_noi m_own m_inp) sz)) (qI D (wX5 q cy res.2 m_kept m_rea m_det m_isv m_iit m_len m_at m_err m_wro m_cmd m_to1 m_to2 m_now m_sav m_ahe m_bef m_hst m_noi m_own m_inp) res.1 (va_A (wX5 q cy m_thr m_kept m_rea m_det m_isv m_iit m_len m_at m_err m_wro m_cmd m_to1 m_to2 m_now m_sav m_ahe m_bef m_hst m_noi m_own m_inp) sz)) 0 0 (va_A (wX5 q cy m_thr m_kept m_rea m_det m_isv m_iit m_len m_at m_err m_wro m_cmd m_to1 m_to2 m_now m_sav m_ahe m_bef m_hst m_noi m_own m_inp) sz) := by
  refine mk_rw (Qc := qI D (wX5 q cy res.2 m_kept m_rea m_det m_isv m_iit m_len m_at m_err m_wro m_cmd m_to1 m_to2 m_now m_sav m_ahe m_bef m_hst m_noi m_own m_inp) res.1) (Rc := RX5) (by decide +kernel) rfl (Nat.le_of_ble_eq_true rfl) ?_
  intro p e s m args below meth c ls A CX hml hr hlk hK hN hP hD hS hA hl
  have hx := CX.1
  have hb := CX.2.1
  have hRMX5_isAhead : (⟨3, 0, 0, 62⟩ : Room).frames + 1 ≤ (⟨4, 0, 0, 86⟩ : Room).frames ∧ 8 + (5 + 11) + (⟨3, 0, 0, 62⟩ : Room).locals ≤ (⟨4, 0, 0, 86⟩ : Room).locals := ⟨Nat.le_of_ble_eq_true rfl, Nat.le_of_ble_eq_true rfl⟩
  have hl0 := hl
  have K17 : ∀ (rec2 : Int32 → Int32 → Option (Int32 × Int32)) (hrec2 : ∀ (x2 : Int32) (m_thr : Int32) (H : Heap) (locs : List Loc) (hP : va_P D vwCl (wX5 q cy m_thr m_kept m_rea m_det m_isv m_iit m_len m_at m_err m_wro m_cmd m_to1 m_to2 m_now m_sav m_ahe m_bef m_hst m_noi m_own m_inp) H) (hD : va_D A (wX5 q cy m_thr m_kept m_rea m_det m_isv m_iit m_len m_at m_err m_wro m_cmd m_to1 m_to2 m_now m_sav m_ahe m_bef m_hst m_noi m_own m_inp)) (hS : va_S A s.heap H locs) (ls : Array Slot) (hl : lv_has ls 5 [(0, .ref (q 0)), (1, .int a1), (2, .int x2)]) (hf : rec2 x2 m_thr = some res), W p l e ⟨4, 0, 0, 86⟩ s m args below meth c H locs 0 0 (MQ below (qI D (wX5 q cy res.2 m_kept m_rea m_det m_isv m_iit m_len m_at m_err m_wro m_cmd m_to1 m_to2 m_now m_sav m_ahe m_bef m_hst m_noi m_own m_inp) res.1 A) args s 0 0 A) (F0 m 2 ls [])) (n : Nat), ∀ (x2 : Int32) (x3 : Int32) (x4 : Int32) (m_thr : Int32) (H : Heap) (locs : List Loc) (hP : va_P D vwCl (wX5 q cy m_thr m_kept m_rea m_det m_isv m_iit m_len m_at m_err m_wro m_cmd m_to1 m_to2 m_now m_sav m_ahe m_bef m_hst m_noi m_own m_inp) H) (hD : va_D A (wX5 q cy m_thr m_kept m_rea m_det m_isv m_iit m_len m_at m_err m_wro m_cmd m_to1 m_to2 m_now m_sav m_ahe m_bef m_hst m_noi m_own m_inp)) (hS : va_S A s.heap H locs) (ls : Array Slot) (hl : lv_has ls 5 [(0, .ref (q 0)), (1, .int a1), (2, .int x2), (3, .int x3), (4, .int x4)]) (hf : f_X5_ranked_c17 rec2 m_now a1 n x2 x3 x4 m_thr = some res), W p l e ⟨4, 0, 0, 86⟩ s m args below meth c H locs 0 0 (MQ below (qI D (wX5 q cy res.2 m_kept m_rea m_det m_isv m_iit m_len m_at m_err m_wro m_cmd m_to1 m_to2 m_now m_sav m_ahe m_bef m_hst m_noi m_own m_inp) res.1 A) args s 0 0 A) (F0 m 17 ls []) := by
    intro rec2 hrec2 n
    induction n with
    | zero => intro x2 x3 x4 m_thr H locs hP hD hS ls hl hf; cases (show none = some res from hf)
    | succ n ih =>
    intro x2 x3 x4 m_thr H locs hP hD hS ls hl hf
    refine lv_iload hx hb (dg ddX5_ranked 12 rfl) (lv_at hl 4 rfl) ?_
    refine lv_aload_n hx hb (dg ddX5_ranked 13 rfl) rfl (lv_at hl 0 rfl) ?_
    refine gf_RX5_9 CX hK hP 0 rfl rfl (dg ddX5_ranked 14 rfl) ?_
    refine lv_iconst (v := 2) hx hb (dg ddX5_ranked 15 rfl) (by decide) ?_
    obtain ⟨h1, hf⟩ := og_some hf
    refine va_iald hx hb hK hP 1 0 rfl rfl (inb_in h1) (dg ddX5_ranked 16 rfl) ?_
    refine lv_icmp_ge (tgt := 52) hx hb (dg ddX5_ranked 17 rfl) (by decide) (fun h2 => ?_) (fun h2 => ?_)
    · have hf := it_t h2 hf
      refine lv_iload_n hx hb (dg ddX5_ranked 31 rfl) rfl (lv_at hl 3 rfl) ?_
      refine lv_iload_n hx hb (dg ddX5_ranked 32 rfl) rfl (lv_at hl 1 rfl) ?_
      refine lv_icmp_ne (tgt := 64) hx hb (dg ddX5_ranked 33 rfl) (by decide) (fun h3 => ?_) (fun h3 => ?_)
      · have hf := it_f h3 hf
        refine lv_iinc (v := x2 + 1) (lv' := [(2, .int (x2 + 1)), (0, .ref (q 0)), (1, .int a1), (3, .int x3), (4, .int x4)]) hx hb (dg ddX5_ranked 39 rfl) hl (k := 2) rfl (congrArg (HAdd.hAdd x2) (by decide)) (by decide) rfl (fun ls hl => ?_)
        refine lv_goto (tgt := 2) hx hb (dg ddX5_ranked 40 rfl) (by decide) ?_
        exact hrec2 (x2 + 1) m_thr _ _ hP hD hS _ (lv_sub hl [1, 2, 0] rfl) hf
      · have hf := it_t h3 hf
        refine lv_aload_n hx hb (dg ddX5_ranked 34 rfl) rfl (lv_at hl 0 rfl) ?_
        refine lv_iconst (v := 0) hx hb (dg ddX5_ranked 35 rfl) (by decide) ?_
        refine pf_RX5_53 CX hK hP hD hS 0 rfl (dg ddX5_ranked 36 rfl) (Nat.le_of_ble_eq_true rfl) (fun H locs hP hD hS => ?_)
        have hP : va_P D vwCl (wX5 q cy 0 m_kept m_rea m_det m_isv m_iit m_len m_at m_err m_wro m_cmd m_to1 m_to2 m_now m_sav m_ahe m_bef m_hst m_noi m_own m_inp) H := hP
        have hD : va_D A (wX5 q cy 0 m_kept m_rea m_det m_isv m_iit m_len m_at m_err m_wro m_cmd m_to1 m_to2 m_now m_sav m_ahe m_bef m_hst m_noi m_own m_inp) := hD
        refine lv_iload_n hx hb (dg ddX5_ranked 37 rfl) rfl (lv_at hl 2 rfl) ?_
        cases hf
        exact e_wi CX hr hlk rfl hP hD hS (dg ddX5_ranked 38 rfl)
    · have hf := it_f h2 hf
      refine lv_iload_n hx hb (dg ddX5_ranked 18 rfl) rfl (lv_at hl 3 rfl) ?_
      refine lv_aload_n hx hb (dg ddX5_ranked 19 rfl) rfl (lv_at hl 0 rfl) ?_
      refine lv_iload hx hb (dg ddX5_ranked 20 rfl) (lv_at hl 4 rfl) ?_
      refine lv_iload_n hx hb (dg ddX5_ranked 21 rfl) rfl (lv_at hl 2 rfl) ?_
      obtain ⟨r5, e4, hf⟩ := ob_some hf
      refine cro_vi CX hml (As := [.int x4, .int x2]) (rest := [.int x3]) (c_X5_isAhead l D cy q m_thr m_kept m_rea m_det m_isv m_iit m_len m_at m_err m_wro m_cmd m_to1 m_to2 m_now m_sav m_ahe m_bef m_hst m_noi m_own m_inp x4 x2 e4) lk_RX5_175 rfl rfl hRMX5_isAhead hP hK hN 0 rfl rfl rfl hl.1 rfl (Nat.le_of_ble_eq_true rfl) ⟨Nat.le_of_ble_eq_true rfl, Nat.le_of_ble_eq_true rfl⟩ (dg ddX5_ranked 22 rfl) ?_
      refine lv_if_eq (tgt := 43) hx hb (dg ddX5_ranked 23 rfl) (by decide) (fun h6 => ?_) (fun h6 => ?_)
      · have hf := it_t h6 hf
        refine lv_iconst (v := 0) hx hb (dg ddX5_ranked 26 rfl) (by decide) ?_
        refine lv_iadd hx hb (dg ddX5_ranked 27 rfl) ?_
        refine lv_istore_n (lv' := [(3, .int (x3 + 0)), (0, .ref (q 0)), (1, .int a1), (2, .int x2), (4, .int x4)]) hx hb (dg ddX5_ranked 28 rfl) rfl hl (by decide) rfl (fun ls hl => ?_)
        refine lv_iinc (v := x4 + 1) (lv' := [(4, .int (x4 + 1)), (3, .int (x3 + 0)), (0, .ref (q 0)), (1, .int a1), (2, .int x2)]) hx hb (dg ddX5_ranked 29 rfl) hl (k := 4) rfl (congrArg (HAdd.hAdd x4) (by decide)) (by decide) rfl (fun ls hl => ?_)
        refine lv_goto (tgt := 17) hx hb (dg ddX5_ranked 30 rfl) (by decide) ?_
        exact ih x2 (x3 + 0) (x4 + 1) m_thr _ _ hP hD hS _ (lv_sub hl [2, 3, 4, 1, 0] rfl) hf
      · have hf := it_f h6 hf
        refine lv_iconst (v := 1) hx hb (dg ddX5_ranked 24 rfl) (by decide) ?_
        refine lv_goto (tgt := 44) hx hb (dg ddX5_ranked 25 rfl) (by decide) ?_
        refine lv_iadd hx hb (dg ddX5_ranked 27 rfl) ?_
        refine lv_istore_n (lv' := [(3, .int (x3 + 1)), (0, .ref (q 0)), (1, .int a1), (2, .int x2), (4, .int x4)]) hx hb (dg ddX5_ranked 28 rfl) rfl hl (by decide) rfl (fun ls hl => ?_)
        refine lv_iinc (v := x4 + 1) (lv' := [(4, .int (x4 + 1)), (3, .int (x3 + 1)), (0, .ref (q 0)), (1, .int a1), (2, .int x2)]) hx hb (dg ddX5_ranked 29 rfl) hl (k := 4) rfl (congrArg (HAdd.hAdd x4) (by decide)) (by decide) rfl (fun ls hl => ?_)
        refine lv_goto (tgt := 17) hx hb (dg ddX5_ranked 30 rfl) (by decide) ?_
        exact ih x2 (x3 + 1) (x4 + 1) m_thr _ _ hP hD hS _ (lv_sub hl [2, 3, 4, 1, 0] rfl) hf
  have K2 : ∀ (n : Nat), ∀ (x2 : Int32) (m_thr : Int32) (H : Heap) (locs : List Loc) (hP : va_P D vwCl (wX5 q cy m_thr m_kept m_rea m_det m_isv m_iit m_len m_at m_err m_wro m_cmd m_to1 m_to2 m_now m_sav m_ahe m_bef m_hst m_noi m_own m_inp) H) (hD : va_D A (wX5 q cy m_thr m_kept m_rea m_det m_isv m_iit m_len m_at m_err m_wro m_cmd m_to1 m_to2 m_now m_sav m_ahe m_bef m_hst m_noi m_own m_inp)) (hS : va_S A s.heap H locs) (ls : Array Slot) (hl : lv_has ls 5 [(0, .ref (q 0)), (1, .int a1), (2, .int x2)]) (hf : f_X5_ranked_c2 m_now a1 n x2 m_thr = some res), W p l e ⟨4, 0, 0, 86⟩ s m args below meth c H locs 0 0 (MQ below (qI D (wX5 q cy res.2 m_kept m_rea m_det m_isv m_iit m_len m_at m_err m_wro m_cmd m_to1 m_to2 m_now m_sav m_ahe m_bef m_hst m_noi m_own m_inp) res.1 A) args s 0 0 A) (F0 m 2 ls []) := by
    intro n
    induction n with
    | zero => intro x2 m_thr H locs hP hD hS ls hl hf; cases (show none = some res from hf)
    | succ n ih =>
    intro x2 m_thr H locs hP hD hS ls hl hf
    refine lv_iload_n hx hb (dg ddX5_ranked 2 rfl) rfl (lv_at hl 2 rfl) ?_
    refine lv_aload_n hx hb (dg ddX5_ranked 3 rfl) rfl (lv_at hl 0 rfl) ?_
    refine gf_RX5_9 CX hK hP 0 rfl rfl (dg ddX5_ranked 4 rfl) ?_
    refine lv_iconst (v := 2) hx hb (dg ddX5_ranked 5 rfl) (by decide) ?_
    obtain ⟨h1, hf⟩ := og_some hf
    refine va_iald hx hb hK hP 1 0 rfl rfl (inb_in h1) (dg ddX5_ranked 6 rfl) ?_
    refine lv_icmp_ge (tgt := 70) hx hb (dg ddX5_ranked 7 rfl) (by decide) (fun h2 => ?_) (fun h2 => ?_)
    · have hf := it_t h2 hf
      refine lv_aload_n hx hb (dg ddX5_ranked 41 rfl) rfl (lv_at hl 0 rfl) ?_
      refine lv_iconst (v := 1) hx hb (dg ddX5_ranked 42 rfl) (by decide) ?_
      refine pf_RX5_53 CX hK hP hD hS 0 rfl (dg ddX5_ranked 43 rfl) (Nat.le_of_ble_eq_true rfl) (fun H locs hP hD hS => ?_)
      have hP : va_P D vwCl (wX5 q cy 1 m_kept m_rea m_det m_isv m_iit m_len m_at m_err m_wro m_cmd m_to1 m_to2 m_now m_sav m_ahe m_bef m_hst m_noi m_own m_inp) H := hP
      have hD : va_D A (wX5 q cy 1 m_kept m_rea m_det m_isv m_iit m_len m_at m_err m_wro m_cmd m_to1 m_to2 m_now m_sav m_ahe m_bef m_hst m_noi m_own m_inp) := hD
      refine lv_iconst (v := 0) hx hb (dg ddX5_ranked 44 rfl) (by decide) ?_
      cases hf
      exact e_wi CX hr hlk rfl hP hD hS (dg ddX5_ranked 45 rfl)
    · have hf := it_f h2 hf
      refine lv_iconst (v := 0) hx hb (dg ddX5_ranked 8 rfl) (by decide) ?_
      refine lv_istore_n (lv' := [(3, .int 0), (0, .ref (q 0)), (1, .int a1), (2, .int x2)]) hx hb (dg ddX5_ranked 9 rfl) rfl hl (by decide) rfl (fun ls hl => ?_)
      refine lv_iconst (v := 0) hx hb (dg ddX5_ranked 10 rfl) (by decide) ?_
      refine lv_istore (lv' := [(4, .int 0), (3, .int 0), (0, .ref (q 0)), (1, .int a1), (2, .int x2)]) hx hb (dg ddX5_ranked 11 rfl) hl (by decide) rfl (fun ls hl => ?_)
      exact K17 (f_X5_ranked_c2 m_now a1 n) ih 4096 x2 0 0 m_thr _ _ hP hD hS _ (lv_sub hl [2, 3, 4, 1, 0] rfl) hf
  refine lv_iconst (v := 0) hx hb (dg ddX5_ranked 0 rfl) (by decide) ?_
  refine lv_istore_n (lv' := [(2, .int 0), (0, .ref (q 0)), (1, .int a1)]) hx hb (dg ddX5_ranked 1 rfl) rfl hl (by decide) rfl (fun ls hl => ?_)
  exact K2 4096 0 m_thr _ _ hP hD hS _ (lv_sub hl [1, 2, 0] rfl) hf
def f_X5_play_c159  (m_noi : Nat → UInt32) (a2 : Int32) (x4 : Int32) (x5 : Int32) (m_now : Nat → Int32) : Option (Int32 × (Nat → Int32)) := ob (f_X5_of m_now a2 6) fun r2 => (ob (f_X5_put m_now a2 6 (r2 + 1)) fun r4 => (ob (f_X5_isSnapped r4 a2) fun r6 => (if r6 = 0 then (if x5 = 0 then (some (0, r4)) else (if x4 < 3 then (some (0, r4)) else (some (1, r4)))) else (some (1, r4)))))
def f_X5_play_c132  (m_noi : Nat → UInt32) (a2 : Int32) (x4 : Int32) (x5 : Int32) (x6 : UInt32) (m_now : Nat → Int32) : Option (Int32 × (Nat → Int32)) := ob (f_X5_of m_now a2 0) fun r2 => (if r2 = 0 then (ob (f_X5_floatOf m_now a2 3) fun r5 => (og (n32 (FP.fmul 1028443341 x6)) (og (n32 (FP.fadd r5 (FP.fmul 1028443341 x6))) (ob (f_X5_putFloat m_now a2 3 (FP.fadd r5 (FP.fmul 1028443341 x6))) fun r9 => (f_X5_play_c159 m_noi a2 x4 x5 r9))))) else (f_X5_play_c159 m_noi a2 x4 x5 m_now))
def f_X5_play_c87  (m_noi : Nat → UInt32) (a2 : Int32) (x3 : Int32) (x4 : Int32) (x5 : Int32) (m_now : Nat → Int32) : Option (Int32 × (Nat → Int32)) := ob (f_X5_of m_now a2 1) fun r2 => (if x3 = 0 then (ob (f_X5_floatOf m_now a2 2) fun r5 => (og (inb 1 112) (og (n32 (FP.fmul 1036831949 (FP.i2f (m_now (1 : Int32).toNatClampNeg)))) (og (n32 (FP.fmul (FP.fmul 1036831949 (FP.i2f (m_now (1 : Int32).toNatClampNeg))) (FP.i2f r2))) (og (n32 (FP.fadd FP.fconst1 (FP.i2f x4))) (og (n32 (FP.fdiv (FP.fmul (FP.fmul 1036831949 (FP.i2f (m_now (1 : Int32).toNatClampNeg))) (FP.i2f r2)) (FP.fadd FP.fconst1 (FP.i2f x4)))) (og (n32 (FP.fadd r5 (FP.fdiv (FP.fmul (FP.fmul 1036831949 (FP.i2f (m_now (1 : Int32).toNatClampNeg))) (FP.i2f r2)) (FP.fadd FP.fconst1 (FP.i2f x4))))) (ob (f_X5_putFloat m_now a2 2 (FP.fadd r5 (FP.fdiv (FP.fmul (FP.fmul 1036831949 (FP.i2f (m_now (1 : Int32).toNatClampNeg))) (FP.i2f r2)) (FP.fadd FP.fconst1 (FP.i2f x4))))) fun r13 => (f_X5_play_c132 m_noi a2 x4 x5 (FP.i2f r2) r13))))))))) else (f_X5_play_c132 m_noi a2 x4 x5 (FP.i2f r2) m_now))
def f_X5_play_c45  (m_noi : Nat → UInt32) (a1 : Int32) (a2 : Int32) (x3 : Int32) (x4 : Int32) (t0 : Int32) (m_now : Nat → Int32) : Option (Int32 × (Nat → Int32)) := if t0 = 0 then (f_X5_play_c87 m_noi a2 x3 x4 t0 m_now) else (ob (f_X5_putPitch m_now a1 1 (x4 + 1)) fun r3 => (ob (f_X5_ofPitch r3 a1 2) fun r5 => (ob (f_X5_putPitch r3 a1 2 (r5 + 1)) fun r7 => (og (inb 5 112) (og (inb 5 112) (f_X5_play_c87 m_noi a2 x3 (x4 + 1) t0 (upd r7 (5 : Int32).toNatClampNeg ((r7 (5 : Int32).toNatClampNeg) + 1))))))))
def f_X5_play_c44  (m_noi : Nat → UInt32) (a1 : Int32) (a2 : Int32) (x3 : Int32) (x4 : Int32) (m_now : Nat → Int32) : Option (Int32 × (Nat → Int32)) := f_X5_play_c45 m_noi a1 a2 x3 x4 0 m_now
def f_X5_play_c20  (m_noi : Nat → UInt32) (a1 : Int32) (a2 : Int32) (t0 : Int32) (m_now : Nat → Int32) : Option (Int32 × (Nat → Int32)) := ob (f_X5_ofPitch m_now a1 1) fun r2 => (if t0 = 0 then (f_X5_play_c44 m_noi a1 a2 t0 r2 m_now) else (if 99 ≤ r2 then (f_X5_play_c44 m_noi a1 a2 t0 r2 m_now) else (f_X5_play_c45 m_noi a1 a2 t0 r2 1 m_now)))
def f_X5_play (m_now : Nat → Int32) (m_noi : Nat → UInt32) (a1 : Int32) (a2 : Int32) : Option (Int32 × (Nat → Int32)) := og (inb a1 8) (ob (f_X5_limitOf m_now a1) fun r3 => (if (Op.cmpValue (FP.fcmp (m_noi a1.toNatClampNeg) r3) .l) ≤ 0 then (f_X5_play_c20 m_noi a1 a2 0 m_now) else (f_X5_play_c20 m_noi a1 a2 1 m_now)))
set_option maxHeartbeats 4000000 in
set_option maxRecDepth 100000 in
theorem c_X5_play (l : Launch) (D : va_G) (cy : Nat → ClassId) (q : Nat → Nat) (m_thr : Int32) (m_kept : Int32) (m_rea : Int32) (m_det : Int32) (m_isv : Int32) (m_iit : Int32) (m_len : Int32) (m_at : Int32) (m_err : Int32) (m_wro : Int32) (m_cmd : Int32) (m_to1 : Int32) (m_to2 : Int32) (m_now : Nat → Int32) (m_sav : Nat → Int32) (m_ahe : Nat → Int32) (m_bef : Nat → Int32) (m_hst : Nat → Nat → Int32) (m_noi : Nat → UInt32) (m_own : Nat → UInt32) (m_inp : Nat → Int32) (a1 : Int32) (a2 : Int32) (sz : Nat) {res : Int32 × (Nat → Int32)} (hf : f_X5_play m_now m_noi a1 a2 = some res) : Met l yX5_play (.code yX5_play cX5_play 7 (some .boolean) :: lw_all) { frames := 4, cells := 0, slots := 0, locals := 83 } (va_Pc [.ref (q 0), .int a1, .int a2] (sW D cy (wX5 q cy m_thr m_kept m_rea m_det m_isv m_iit m_len m_at m_err m_wro m_cmd m_to1 m_to2 m_now m_sav m_ahe m_bef m_hst m_noi m_own m_inp) sz)) (qI D (wX5 q cy m_thr m_kept m_rea m_det m_isv m_iit m_len m_at m_err m_wro m_cmd m_to1 m_to2 res.2 m_sav m_ahe m_bef m_hst m_noi m_own m_inp) res.1 (va_A (wX5 q cy m_thr m_kept m_rea m_det m_isv m_iit m_len m_at m_err m_wro m_cmd m_to1 m_to2 m_now m_sav m_ahe m_bef m_hst m_noi m_own m_inp) sz)) 0 0 (va_A (wX5 q cy m_thr m_kept m_rea m_det m_isv m_iit m_len m_at m_err m_wro m_cmd m_to1 m_to2 m_now m_sav m_ahe m_bef m_hst m_noi m_own m_inp) sz) := by
  refine mk_rw (Qc := qI D (wX5 q cy m_thr m_kept m_rea m_det m_isv m_iit m_len m_at m_err m_wro m_cmd m_to1 m_to2 res.2 m_sav m_ahe m_bef m_hst m_noi m_own m_inp) res.1) (Rc := RX5) (by decide +kernel) rfl (Nat.le_of_ble_eq_true rfl) ?_
  intro p e s m args below meth c ls A CX hml hr hlk hK hN hP hD hS hA hl
  have hx := CX.1
  have hb := CX.2.1
  have hRMX5_floatOf : (⟨2, 0, 0, 40⟩ : Room).frames + 1 ≤ (⟨4, 0, 0, 83⟩ : Room).frames ∧ 8 + (3 + 11) + (⟨2, 0, 0, 40⟩ : Room).locals ≤ (⟨4, 0, 0, 83⟩ : Room).locals := ⟨Nat.le_of_ble_eq_true rfl, Nat.le_of_ble_eq_true rfl⟩
  have hRMX5_isSnapped : (⟨3, 0, 0, 62⟩ : Room).frames + 1 ≤ (⟨4, 0, 0, 83⟩ : Room).frames ∧ 8 + (2 + 11) + (⟨3, 0, 0, 62⟩ : Room).locals ≤ (⟨4, 0, 0, 83⟩ : Room).locals := ⟨Nat.le_of_ble_eq_true rfl, Nat.le_of_ble_eq_true rfl⟩
  have hRMX5_limitOf : (⟨2, 0, 0, 40⟩ : Room).frames + 1 ≤ (⟨4, 0, 0, 83⟩ : Room).frames ∧ 8 + (2 + 11) + (⟨2, 0, 0, 40⟩ : Room).locals ≤ (⟨4, 0, 0, 83⟩ : Room).locals := ⟨Nat.le_of_ble_eq_true rfl, Nat.le_of_ble_eq_true rfl⟩
  have hRMX5_of : (⟨1, 0, 0, 12⟩ : Room).frames + 1 ≤ (⟨4, 0, 0, 83⟩ : Room).frames ∧ 8 + (3 + 11) + (⟨1, 0, 0, 12⟩ : Room).locals ≤ (⟨4, 0, 0, 83⟩ : Room).locals := ⟨Nat.le_of_ble_eq_true rfl, Nat.le_of_ble_eq_true rfl⟩
  have hRMX5_ofPitch : (⟨1, 0, 0, 12⟩ : Room).frames + 1 ≤ (⟨4, 0, 0, 83⟩ : Room).frames ∧ 8 + (3 + 11) + (⟨1, 0, 0, 12⟩ : Room).locals ≤ (⟨4, 0, 0, 83⟩ : Room).locals := ⟨Nat.le_of_ble_eq_true rfl, Nat.le_of_ble_eq_true rfl⟩
  have hRMX5_put : (⟨1, 0, 0, 12⟩ : Room).frames + 1 ≤ (⟨4, 0, 0, 83⟩ : Room).frames ∧ 8 + (4 + 11) + (⟨1, 0, 0, 12⟩ : Room).locals ≤ (⟨4, 0, 0, 83⟩ : Room).locals := ⟨Nat.le_of_ble_eq_true rfl, Nat.le_of_ble_eq_true rfl⟩
  have hRMX5_putFloat : (⟨3, 0, 0, 60⟩ : Room).frames + 1 ≤ (⟨4, 0, 0, 83⟩ : Room).frames ∧ 8 + (4 + 11) + (⟨3, 0, 0, 60⟩ : Room).locals ≤ (⟨4, 0, 0, 83⟩ : Room).locals := ⟨Nat.le_of_ble_eq_true rfl, Nat.le_of_ble_eq_true rfl⟩
  have hRMX5_putPitch : (⟨1, 0, 0, 12⟩ : Room).frames + 1 ≤ (⟨4, 0, 0, 83⟩ : Room).frames ∧ 8 + (4 + 11) + (⟨1, 0, 0, 12⟩ : Room).locals ≤ (⟨4, 0, 0, 83⟩ : Room).locals := ⟨Nat.le_of_ble_eq_true rfl, Nat.le_of_ble_eq_true rfl⟩
  have hl0 := hl
  have K159 : ∀ (x4 : Int32) (x5 : Int32) (m_now : Nat → Int32) (H : Heap) (locs : List Loc) (hP : va_P D vwCl (wX5 q cy m_thr m_kept m_rea m_det m_isv m_iit m_len m_at m_err m_wro m_cmd m_to1 m_to2 m_now m_sav m_ahe m_bef m_hst m_noi m_own m_inp) H) (hD : va_D A (wX5 q cy m_thr m_kept m_rea m_det m_isv m_iit m_len m_at m_err m_wro m_cmd m_to1 m_to2 m_now m_sav m_ahe m_bef m_hst m_noi m_own m_inp)) (hS : va_S A s.heap H locs) (ls : Array Slot) (hl : lv_has ls 7 [(0, .ref (q 0)), (2, .int a2), (4, .int x4), (5, .int x5)]) (hf : f_X5_play_c159 m_noi a2 x4 x5 m_now = some res), W p l e ⟨4, 0, 0, 83⟩ s m args below meth c H locs 0 0 (MQ below (qI D (wX5 q cy m_thr m_kept m_rea m_det m_isv m_iit m_len m_at m_err m_wro m_cmd m_to1 m_to2 res.2 m_sav m_ahe m_bef m_hst m_noi m_own m_inp) res.1 A) args s 0 0 A) (F0 m 159 ls []) := by
    intro x4 x5 m_now H locs hP hD hS ls hl hf
    refine lv_aload_n hx hb (dg ddX5_play 101 rfl) rfl (lv_at hl 0 rfl) ?_
    refine lv_iload_n hx hb (dg ddX5_play 102 rfl) rfl (lv_at hl 1 rfl) ?_
    refine lv_bipush (v := 6) hx hb (dg ddX5_play 103 rfl) (by decide) ?_
    refine lv_aload_n hx hb (dg ddX5_play 104 rfl) rfl (lv_at hl 0 rfl) ?_
    refine lv_iload_n hx hb (dg ddX5_play 105 rfl) rfl (lv_at hl 1 rfl) ?_
    refine lv_bipush (v := 6) hx hb (dg ddX5_play 106 rfl) (by decide) ?_
    obtain ⟨r2, e1, hf⟩ := ob_some hf
    refine cro_vi CX hml (As := [.int a2, .int 6]) (rest := [.int 6, .int a2, .ref (q 0)]) (c_X5_of l D cy q m_thr m_kept m_rea m_det m_isv m_iit m_len m_at m_err m_wro m_cmd m_to1 m_to2 m_now m_sav m_ahe m_bef m_hst m_noi m_own m_inp a2 6 e1) lk_RX5_100 rfl rfl hRMX5_of hP hK hN 0 rfl rfl rfl hl.1 rfl (Nat.le_of_ble_eq_true rfl) ⟨Nat.le_of_ble_eq_true rfl, Nat.le_of_ble_eq_true rfl⟩ (dg ddX5_play 107 rfl) ?_
    refine lv_iconst (v := 1) hx hb (dg ddX5_play 108 rfl) (by decide) ?_
    refine lv_iadd hx hb (dg ddX5_play 109 rfl) ?_
    obtain ⟨r4, e3, hf⟩ := ob_some hf
    refine crw_vv CX hml (As := [.int a2, .int 6, .int (r2 + 1)]) (rest := []) (c_X5_put l D cy q m_thr m_kept m_rea m_det m_isv m_iit m_len m_at m_err m_wro m_cmd m_to1 m_to2 m_now m_sav m_ahe m_bef m_hst m_noi m_own m_inp a2 6 (r2 + 1) _ e3) lk_RX5_103 rfl rfl hRMX5_put hP hD hS hA hK hN 0 rfl rfl rfl hl.1 rfl (Nat.le_of_ble_eq_true rfl) ⟨Nat.le_of_ble_eq_true rfl, Nat.le_of_ble_eq_true rfl⟩ (dg ddX5_play 110 rfl) (fun H locs hP hD hS => ?_)
    refine lv_aload_n hx hb (dg ddX5_play 111 rfl) rfl (lv_at hl 0 rfl) ?_
    refine lv_iload_n hx hb (dg ddX5_play 112 rfl) rfl (lv_at hl 1 rfl) ?_
    obtain ⟨r6, e5, hf⟩ := ob_some hf
    refine cro_vi CX hml (As := [.int a2]) (rest := []) (c_X5_isSnapped l D cy q m_thr m_kept m_rea m_det m_isv m_iit m_len m_at m_err m_wro m_cmd m_to1 m_to2 r4 m_sav m_ahe m_bef m_hst m_noi m_own m_inp a2 e5) lk_RX5_125 rfl rfl hRMX5_isSnapped hP hK hN 0 rfl rfl rfl hl.1 rfl (Nat.le_of_ble_eq_true rfl) ⟨Nat.le_of_ble_eq_true rfl, Nat.le_of_ble_eq_true rfl⟩ (dg ddX5_play 113 rfl) ?_
    refine lv_if_ne (tgt := 194) hx hb (dg ddX5_play 114 rfl) (by decide) (fun h7 => ?_) (fun h7 => ?_)
    · have hf := it_f h7 hf
      refine lv_iconst (v := 1) hx hb (dg ddX5_play 120 rfl) (by decide) ?_
      refine lv_goto (tgt := 199) hx hb (dg ddX5_play 121 rfl) (by decide) ?_
      cases hf
      exact e_wz CX hr hlk (by decide) rfl hP hD hS (dg ddX5_play 123 rfl)
    · have hf := it_t h7 hf
      refine lv_iload hx hb (dg ddX5_play 115 rfl) (lv_at hl 3 rfl) ?_
      refine lv_if_eq (tgt := 198) hx hb (dg ddX5_play 116 rfl) (by decide) (fun h8 => ?_) (fun h8 => ?_)
      · have hf := it_t h8 hf
        refine lv_iconst (v := 0) hx hb (dg ddX5_play 122 rfl) (by decide) ?_
        cases hf
        exact e_wz CX hr hlk (by decide) rfl hP hD hS (dg ddX5_play 123 rfl)
      · have hf := it_f h8 hf
        refine lv_iload hx hb (dg ddX5_play 117 rfl) (lv_at hl 2 rfl) ?_
        refine lv_iconst (v := 3) hx hb (dg ddX5_play 118 rfl) (by decide) ?_
        refine lv_icmp_lt (tgt := 198) hx hb (dg ddX5_play 119 rfl) (by decide) (fun h9 => ?_) (fun h9 => ?_)
        · have hf := it_t h9 hf
          refine lv_iconst (v := 0) hx hb (dg ddX5_play 122 rfl) (by decide) ?_
          cases hf
          exact e_wz CX hr hlk (by decide) rfl hP hD hS (dg ddX5_play 123 rfl)
        · have hf := it_f h9 hf
          refine lv_iconst (v := 1) hx hb (dg ddX5_play 120 rfl) (by decide) ?_
          refine lv_goto (tgt := 199) hx hb (dg ddX5_play 121 rfl) (by decide) ?_
          cases hf
          exact e_wz CX hr hlk (by decide) rfl hP hD hS (dg ddX5_play 123 rfl)
  have K132 : ∀ (x4 : Int32) (x5 : Int32) (x6 : UInt32) (m_now : Nat → Int32) (H : Heap) (locs : List Loc) (hP : va_P D vwCl (wX5 q cy m_thr m_kept m_rea m_det m_isv m_iit m_len m_at m_err m_wro m_cmd m_to1 m_to2 m_now m_sav m_ahe m_bef m_hst m_noi m_own m_inp) H) (hD : va_D A (wX5 q cy m_thr m_kept m_rea m_det m_isv m_iit m_len m_at m_err m_wro m_cmd m_to1 m_to2 m_now m_sav m_ahe m_bef m_hst m_noi m_own m_inp)) (hS : va_S A s.heap H locs) (ls : Array Slot) (hl : lv_has ls 7 [(0, .ref (q 0)), (2, .int a2), (4, .int x4), (5, .int x5), (6, .float x6)]) (hf : f_X5_play_c132 m_noi a2 x4 x5 x6 m_now = some res), W p l e ⟨4, 0, 0, 83⟩ s m args below meth c H locs 0 0 (MQ below (qI D (wX5 q cy m_thr m_kept m_rea m_det m_isv m_iit m_len m_at m_err m_wro m_cmd m_to1 m_to2 res.2 m_sav m_ahe m_bef m_hst m_noi m_own m_inp) res.1 A) args s 0 0 A) (F0 m 132 ls []) := by
    intro x4 x5 x6 m_now H locs hP hD hS ls hl hf
    refine lv_aload_n hx hb (dg ddX5_play 84 rfl) rfl (lv_at hl 0 rfl) ?_
    refine lv_iload_n hx hb (dg ddX5_play 85 rfl) rfl (lv_at hl 1 rfl) ?_
    refine lv_iconst (v := 0) hx hb (dg ddX5_play 86 rfl) (by decide) ?_
    obtain ⟨r2, e1, hf⟩ := ob_some hf
    refine cro_vi CX hml (As := [.int a2, .int 0]) (rest := []) (c_X5_of l D cy q m_thr m_kept m_rea m_det m_isv m_iit m_len m_at m_err m_wro m_cmd m_to1 m_to2 m_now m_sav m_ahe m_bef m_hst m_noi m_own m_inp a2 0 e1) lk_RX5_100 rfl rfl hRMX5_of hP hK hN 0 rfl rfl rfl hl.1 rfl (Nat.le_of_ble_eq_true rfl) ⟨Nat.le_of_ble_eq_true rfl, Nat.le_of_ble_eq_true rfl⟩ (dg ddX5_play 87 rfl) ?_
    refine lv_if_ne (tgt := 159) hx hb (dg ddX5_play 88 rfl) (by decide) (fun h3 => ?_) (fun h3 => ?_)
    · have hf := it_f h3 hf
      exact K159  x4 x5 m_now _ _ hP hD hS _ (lv_sub hl [0, 1, 2, 3] rfl) hf
    · have hf := it_t h3 hf
      refine lv_aload_n hx hb (dg ddX5_play 89 rfl) rfl (lv_at hl 0 rfl) ?_
      refine lv_iload_n hx hb (dg ddX5_play 90 rfl) rfl (lv_at hl 1 rfl) ?_
      refine lv_iconst (v := 3) hx hb (dg ddX5_play 91 rfl) (by decide) ?_
      refine lv_aload_n hx hb (dg ddX5_play 92 rfl) rfl (lv_at hl 0 rfl) ?_
      refine lv_iload_n hx hb (dg ddX5_play 93 rfl) rfl (lv_at hl 1 rfl) ?_
      refine lv_iconst (v := 3) hx hb (dg ddX5_play 94 rfl) (by decide) ?_
      obtain ⟨r5, e4, hf⟩ := ob_some hf
      refine cro_vf CX hml (As := [.int a2, .int 3]) (rest := [.int 3, .int a2, .ref (q 0)]) (c_X5_floatOf l D cy q m_thr m_kept m_rea m_det m_isv m_iit m_len m_at m_err m_wro m_cmd m_to1 m_to2 m_now m_sav m_ahe m_bef m_hst m_noi m_own m_inp a2 3 e4) lk_RX5_121 rfl rfl hRMX5_floatOf hP hK hN 0 rfl rfl rfl hl.1 rfl (Nat.le_of_ble_eq_true rfl) ⟨Nat.le_of_ble_eq_true rfl, Nat.le_of_ble_eq_true rfl⟩ (dg ddX5_play 95 rfl) ?_
      refine lv_ldcf hx hb CX.2.2.2 (CX.2.2.1 (.constantFloat RX5 162 (1028443341)) (lw_at 1267 (by decide +kernel))) (dg ddX5_play 96 rfl) ?_
      refine lv_fload hx hb (dg ddX5_play 97 rfl) (lv_at hl 4 rfl) ?_
      obtain ⟨h6, hf⟩ := og_some hf
      refine lv_fmul hx hb (dg ddX5_play 98 rfl) (n32_in h6) ?_
      obtain ⟨h7, hf⟩ := og_some hf
      refine lv_fadd hx hb (dg ddX5_play 99 rfl) (n32_in h7) ?_
      obtain ⟨r9, e8, hf⟩ := ob_some hf
      refine crw_vv CX hml (As := [.int a2, .int 3, .float (FP.fadd r5 (FP.fmul 1028443341 x6))]) (rest := []) (c_X5_putFloat l D cy q m_thr m_kept m_rea m_det m_isv m_iit m_len m_at m_err m_wro m_cmd m_to1 m_to2 m_now m_sav m_ahe m_bef m_hst m_noi m_own m_inp a2 3 (FP.fadd r5 (FP.fmul 1028443341 x6)) _ e8) lk_RX5_110 rfl rfl hRMX5_putFloat hP hD hS hA hK hN 0 rfl rfl rfl hl.1 rfl (Nat.le_of_ble_eq_true rfl) ⟨Nat.le_of_ble_eq_true rfl, Nat.le_of_ble_eq_true rfl⟩ (dg ddX5_play 100 rfl) (fun H locs hP hD hS => ?_)
      exact K159  x4 x5 r9 _ _ hP hD hS _ (lv_sub hl [0, 1, 2, 3] rfl) hf
  have K87 : ∀ (x3 : Int32) (x4 : Int32) (x5 : Int32) (m_now : Nat → Int32) (H : Heap) (locs : List Loc) (hP : va_P D vwCl (wX5 q cy m_thr m_kept m_rea m_det m_isv m_iit m_len m_at m_err m_wro m_cmd m_to1 m_to2 m_now m_sav m_ahe m_bef m_hst m_noi m_own m_inp) H) (hD : va_D A (wX5 q cy m_thr m_kept m_rea m_det m_isv m_iit m_len m_at m_err m_wro m_cmd m_to1 m_to2 m_now m_sav m_ahe m_bef m_hst m_noi m_own m_inp)) (hS : va_S A s.heap H locs) (ls : Array Slot) (hl : lv_has ls 7 [(0, .ref (q 0)), (2, .int a2), (3, .int x3), (4, .int x4), (5, .int x5)]) (hf : f_X5_play_c87 m_noi a2 x3 x4 x5 m_now = some res), W p l e ⟨4, 0, 0, 83⟩ s m args below meth c H locs 0 0 (MQ below (qI D (wX5 q cy m_thr m_kept m_rea m_det m_isv m_iit m_len m_at m_err m_wro m_cmd m_to1 m_to2 res.2 m_sav m_ahe m_bef m_hst m_noi m_own m_inp) res.1 A) args s 0 0 A) (F0 m 87 ls []) := by
    intro x3 x4 x5 m_now H locs hP hD hS ls hl hf
    refine lv_aload_n hx hb (dg ddX5_play 53 rfl) rfl (lv_at hl 0 rfl) ?_
    refine lv_iload_n hx hb (dg ddX5_play 54 rfl) rfl (lv_at hl 1 rfl) ?_
    refine lv_iconst (v := 1) hx hb (dg ddX5_play 55 rfl) (by decide) ?_
    obtain ⟨r2, e1, hf⟩ := ob_some hf
    refine cro_vi CX hml (As := [.int a2, .int 1]) (rest := []) (c_X5_of l D cy q m_thr m_kept m_rea m_det m_isv m_iit m_len m_at m_err m_wro m_cmd m_to1 m_to2 m_now m_sav m_ahe m_bef m_hst m_noi m_own m_inp a2 1 e1) lk_RX5_100 rfl rfl hRMX5_of hP hK hN 0 rfl rfl rfl hl.1 rfl (Nat.le_of_ble_eq_true rfl) ⟨Nat.le_of_ble_eq_true rfl, Nat.le_of_ble_eq_true rfl⟩ (dg ddX5_play 56 rfl) ?_
    refine lv_i2f hx hb (dg ddX5_play 57 rfl) ?_
    refine lv_fstore (lv' := [(6, .float (FP.i2f r2)), (0, .ref (q 0)), (2, .int a2), (3, .int x3), (4, .int x4), (5, .int x5)]) hx hb (dg ddX5_play 58 rfl) hl (by decide) rfl (fun ls hl => ?_)
    refine lv_iload_n hx hb (dg ddX5_play 59 rfl) rfl (lv_at hl 3 rfl) ?_
    refine lv_if_ne (tgt := 132) hx hb (dg ddX5_play 60 rfl) (by decide) (fun h3 => ?_) (fun h3 => ?_)
    · have hf := it_f h3 hf
      exact K132  x4 x5 (FP.i2f r2) m_now _ _ hP hD hS _ (lv_sub hl [1, 2, 4, 5, 0] rfl) hf
    · have hf := it_t h3 hf
      refine lv_aload_n hx hb (dg ddX5_play 61 rfl) rfl (lv_at hl 1 rfl) ?_
      refine lv_iload_n hx hb (dg ddX5_play 62 rfl) rfl (lv_at hl 2 rfl) ?_
      refine lv_iconst (v := 2) hx hb (dg ddX5_play 63 rfl) (by decide) ?_
      refine lv_aload_n hx hb (dg ddX5_play 64 rfl) rfl (lv_at hl 1 rfl) ?_
      refine lv_iload_n hx hb (dg ddX5_play 65 rfl) rfl (lv_at hl 2 rfl) ?_
      refine lv_iconst (v := 2) hx hb (dg ddX5_play 66 rfl) (by decide) ?_
      obtain ⟨r5, e4, hf⟩ := ob_some hf
      refine cro_vf CX hml (As := [.int a2, .int 2]) (rest := [.int 2, .int a2, .ref (q 0)]) (c_X5_floatOf l D cy q m_thr m_kept m_rea m_det m_isv m_iit m_len m_at m_err m_wro m_cmd m_to1 m_to2 m_now m_sav m_ahe m_bef m_hst m_noi m_own m_inp a2 2 e4) lk_RX5_121 rfl rfl hRMX5_floatOf hP hK hN 0 rfl rfl rfl hl.1 rfl (Nat.le_of_ble_eq_true rfl) ⟨Nat.le_of_ble_eq_true rfl, Nat.le_of_ble_eq_true rfl⟩ (dg ddX5_play 67 rfl) ?_
      refine lv_ldcf hx hb CX.2.2.2 (CX.2.2.1 (.constantFloat RX5 178 (1036831949)) (lw_at 1319 (by decide +kernel))) (dg ddX5_play 68 rfl) ?_
      refine lv_aload_n hx hb (dg ddX5_play 69 rfl) rfl (lv_at hl 1 rfl) ?_
      refine gf_RX5_9 CX hK hP 0 rfl rfl (dg ddX5_play 70 rfl) ?_
      refine lv_iconst (v := 1) hx hb (dg ddX5_play 71 rfl) (by decide) ?_
      obtain ⟨h6, hf⟩ := og_some hf
      refine va_iald hx hb hK hP 1 0 rfl rfl (inb_in h6) (dg ddX5_play 72 rfl) ?_
      refine lv_i2f hx hb (dg ddX5_play 73 rfl) ?_
      obtain ⟨h7, hf⟩ := og_some hf
      refine lv_fmul hx hb (dg ddX5_play 74 rfl) (n32_in h7) ?_
      refine lv_fload hx hb (dg ddX5_play 75 rfl) (lv_at hl 0 rfl) ?_
      obtain ⟨h8, hf⟩ := og_some hf
      refine lv_fmul hx hb (dg ddX5_play 76 rfl) (n32_in h8) ?_
      refine lv_fconst1 hx hb (dg ddX5_play 77 rfl) ?_
      refine lv_iload hx hb (dg ddX5_play 78 rfl) (lv_at hl 4 rfl) ?_
      refine lv_i2f hx hb (dg ddX5_play 79 rfl) ?_
      obtain ⟨h9, hf⟩ := og_some hf
      refine lv_fadd hx hb (dg ddX5_play 80 rfl) (n32_in h9) ?_
      obtain ⟨h10, hf⟩ := og_some hf
      refine lv_fdiv hx hb (dg ddX5_play 81 rfl) (n32_in h10) ?_
      obtain ⟨h11, hf⟩ := og_some hf
      refine lv_fadd hx hb (dg ddX5_play 82 rfl) (n32_in h11) ?_
      obtain ⟨r13, e12, hf⟩ := ob_some hf
      refine crw_vv CX hml (As := [.int a2, .int 2, .float (FP.fadd r5 (FP.fdiv (FP.fmul (FP.fmul 1036831949 (FP.i2f (m_now (1 : Int32).toNatClampNeg))) (FP.i2f r2)) (FP.fadd FP.fconst1 (FP.i2f x4))))]) (rest := []) (c_X5_putFloat l D cy q m_thr m_kept m_rea m_det m_isv m_iit m_len m_at m_err m_wro m_cmd m_to1 m_to2 m_now m_sav m_ahe m_bef m_hst m_noi m_own m_inp a2 2 (FP.fadd r5 (FP.fdiv (FP.fmul (FP.fmul 1036831949 (FP.i2f (m_now (1 : Int32).toNatClampNeg))) (FP.i2f r2)) (FP.fadd FP.fconst1 (FP.i2f x4)))) _ e12) lk_RX5_110 rfl rfl hRMX5_putFloat hP hD hS hA hK hN 0 rfl rfl rfl hl.1 rfl (Nat.le_of_ble_eq_true rfl) ⟨Nat.le_of_ble_eq_true rfl, Nat.le_of_ble_eq_true rfl⟩ (dg ddX5_play 83 rfl) (fun H locs hP hD hS => ?_)
      exact K132  x4 x5 (FP.i2f r2) r13 _ _ hP hD hS _ (lv_sub hl [1, 2, 4, 5, 0] rfl) hf
  have K45 : ∀ (x3 : Int32) (x4 : Int32) (t0 : Int32) (m_now : Nat → Int32) (H : Heap) (locs : List Loc) (hP : va_P D vwCl (wX5 q cy m_thr m_kept m_rea m_det m_isv m_iit m_len m_at m_err m_wro m_cmd m_to1 m_to2 m_now m_sav m_ahe m_bef m_hst m_noi m_own m_inp) H) (hD : va_D A (wX5 q cy m_thr m_kept m_rea m_det m_isv m_iit m_len m_at m_err m_wro m_cmd m_to1 m_to2 m_now m_sav m_ahe m_bef m_hst m_noi m_own m_inp)) (hS : va_S A s.heap H locs) (ls : Array Slot) (hl : lv_has ls 7 [(0, .ref (q 0)), (1, .int a1), (2, .int a2), (3, .int x3), (4, .int x4)]) (hf : f_X5_play_c45 m_noi a1 a2 x3 x4 t0 m_now = some res), W p l e ⟨4, 0, 0, 83⟩ s m args below meth c H locs 0 0 (MQ below (qI D (wX5 q cy m_thr m_kept m_rea m_det m_isv m_iit m_len m_at m_err m_wro m_cmd m_to1 m_to2 res.2 m_sav m_ahe m_bef m_hst m_noi m_own m_inp) res.1 A) args s 0 0 A) (F0 m 45 ls [.int t0]) := by
    intro x3 x4 t0 m_now H locs hP hD hS ls hl hf
    refine lv_istore (lv' := [(5, .int t0), (0, .ref (q 0)), (1, .int a1), (2, .int a2), (3, .int x3), (4, .int x4)]) hx hb (dg ddX5_play 26 rfl) hl (by decide) rfl (fun ls hl => ?_)
    refine lv_iload hx hb (dg ddX5_play 27 rfl) (lv_at hl 0 rfl) ?_
    refine lv_if_eq (tgt := 87) hx hb (dg ddX5_play 28 rfl) (by decide) (fun h1 => ?_) (fun h1 => ?_)
    · have hf := it_t h1 hf
      exact K87  x3 x4 t0 m_now _ _ hP hD hS _ (lv_sub hl [1, 3, 4, 5, 0] rfl) hf
    · have hf := it_f h1 hf
      refine lv_iinc (v := x4 + 1) (lv' := [(4, .int (x4 + 1)), (5, .int t0), (0, .ref (q 0)), (1, .int a1), (2, .int a2), (3, .int x3)]) hx hb (dg ddX5_play 29 rfl) hl (k := 5) rfl (congrArg (HAdd.hAdd x4) (by decide)) (by decide) rfl (fun ls hl => ?_)
      refine lv_aload_n hx hb (dg ddX5_play 30 rfl) rfl (lv_at hl 2 rfl) ?_
      refine lv_iload_n hx hb (dg ddX5_play 31 rfl) rfl (lv_at hl 3 rfl) ?_
      refine lv_iconst (v := 1) hx hb (dg ddX5_play 32 rfl) (by decide) ?_
      refine lv_iload hx hb (dg ddX5_play 33 rfl) (lv_at hl 0 rfl) ?_
      obtain ⟨r3, e2, hf⟩ := ob_some hf
      refine crw_vv CX hml (As := [.int a1, .int 1, .int (x4 + 1)]) (rest := []) (c_X5_putPitch l D cy q m_thr m_kept m_rea m_det m_isv m_iit m_len m_at m_err m_wro m_cmd m_to1 m_to2 m_now m_sav m_ahe m_bef m_hst m_noi m_own m_inp a1 1 (x4 + 1) _ e2) lk_RX5_49 rfl rfl hRMX5_putPitch hP hD hS hA hK hN 0 rfl rfl rfl hl.1 rfl (Nat.le_of_ble_eq_true rfl) ⟨Nat.le_of_ble_eq_true rfl, Nat.le_of_ble_eq_true rfl⟩ (dg ddX5_play 34 rfl) (fun H locs hP hD hS => ?_)
      refine lv_aload_n hx hb (dg ddX5_play 35 rfl) rfl (lv_at hl 2 rfl) ?_
      refine lv_iload_n hx hb (dg ddX5_play 36 rfl) rfl (lv_at hl 3 rfl) ?_
      refine lv_iconst (v := 2) hx hb (dg ddX5_play 37 rfl) (by decide) ?_
      refine lv_aload_n hx hb (dg ddX5_play 38 rfl) rfl (lv_at hl 2 rfl) ?_
      refine lv_iload_n hx hb (dg ddX5_play 39 rfl) rfl (lv_at hl 3 rfl) ?_
      refine lv_iconst (v := 2) hx hb (dg ddX5_play 40 rfl) (by decide) ?_
      obtain ⟨r5, e4, hf⟩ := ob_some hf
      refine cro_vi CX hml (As := [.int a1, .int 2]) (rest := [.int 2, .int a1, .ref (q 0)]) (c_X5_ofPitch l D cy q m_thr m_kept m_rea m_det m_isv m_iit m_len m_at m_err m_wro m_cmd m_to1 m_to2 r3 m_sav m_ahe m_bef m_hst m_noi m_own m_inp a1 2 e4) lk_RX5_88 rfl rfl hRMX5_ofPitch hP hK hN 0 rfl rfl rfl hl.1 rfl (Nat.le_of_ble_eq_true rfl) ⟨Nat.le_of_ble_eq_true rfl, Nat.le_of_ble_eq_true rfl⟩ (dg ddX5_play 41 rfl) ?_
      refine lv_iconst (v := 1) hx hb (dg ddX5_play 42 rfl) (by decide) ?_
      refine lv_iadd hx hb (dg ddX5_play 43 rfl) ?_
      obtain ⟨r7, e6, hf⟩ := ob_some hf
      refine crw_vv CX hml (As := [.int a1, .int 2, .int (r5 + 1)]) (rest := []) (c_X5_putPitch l D cy q m_thr m_kept m_rea m_det m_isv m_iit m_len m_at m_err m_wro m_cmd m_to1 m_to2 r3 m_sav m_ahe m_bef m_hst m_noi m_own m_inp a1 2 (r5 + 1) _ e6) lk_RX5_49 rfl rfl hRMX5_putPitch hP hD hS hA hK hN 0 rfl rfl rfl hl.1 rfl (Nat.le_of_ble_eq_true rfl) ⟨Nat.le_of_ble_eq_true rfl, Nat.le_of_ble_eq_true rfl⟩ (dg ddX5_play 44 rfl) (fun H locs hP hD hS => ?_)
      refine lv_aload_n hx hb (dg ddX5_play 45 rfl) rfl (lv_at hl 2 rfl) ?_
      refine gf_RX5_9 CX hK hP 0 rfl rfl (dg ddX5_play 46 rfl) ?_
      refine lv_iconst (v := 5) hx hb (dg ddX5_play 47 rfl) (by decide) ?_
      refine lv_dup2_11 hx hb (dg ddX5_play 48 rfl) rfl rfl ?_
      obtain ⟨h8, hf⟩ := og_some hf
      refine va_iald hx hb hK hP 1 0 rfl rfl (inb_in h8) (dg ddX5_play 49 rfl) ?_
      refine lv_iconst (v := 1) hx hb (dg ddX5_play 50 rfl) (by decide) ?_
      refine lv_iadd hx hb (dg ddX5_play 51 rfl) ?_
      obtain ⟨h9, hf⟩ := og_some hf
      refine va_iast hx hb hK hP hD hS 1 0 rfl rfl (inb_in h9) (dg ddX5_play 52 rfl) (fun H locs hP hD hS => ?_)
      have hP : va_P D vwCl (wX5 q cy m_thr m_kept m_rea m_det m_isv m_iit m_len m_at m_err m_wro m_cmd m_to1 m_to2 (upd r7 (5 : Int32).toNatClampNeg ((r7 (5 : Int32).toNatClampNeg) + 1)) m_sav m_ahe m_bef m_hst m_noi m_own m_inp) H := hP
      have hD : va_D A (wX5 q cy m_thr m_kept m_rea m_det m_isv m_iit m_len m_at m_err m_wro m_cmd m_to1 m_to2 (upd r7 (5 : Int32).toNatClampNeg ((r7 (5 : Int32).toNatClampNeg) + 1)) m_sav m_ahe m_bef m_hst m_noi m_own m_inp) := hD
      exact K87  x3 (x4 + 1) t0 (upd r7 (5 : Int32).toNatClampNeg ((r7 (5 : Int32).toNatClampNeg) + 1)) _ _ hP hD hS _ (lv_sub hl [2, 4, 5, 0, 1] rfl) hf
  have K44 : ∀ (x3 : Int32) (x4 : Int32) (m_now : Nat → Int32) (H : Heap) (locs : List Loc) (hP : va_P D vwCl (wX5 q cy m_thr m_kept m_rea m_det m_isv m_iit m_len m_at m_err m_wro m_cmd m_to1 m_to2 m_now m_sav m_ahe m_bef m_hst m_noi m_own m_inp) H) (hD : va_D A (wX5 q cy m_thr m_kept m_rea m_det m_isv m_iit m_len m_at m_err m_wro m_cmd m_to1 m_to2 m_now m_sav m_ahe m_bef m_hst m_noi m_own m_inp)) (hS : va_S A s.heap H locs) (ls : Array Slot) (hl : lv_has ls 7 [(0, .ref (q 0)), (1, .int a1), (2, .int a2), (3, .int x3), (4, .int x4)]) (hf : f_X5_play_c44 m_noi a1 a2 x3 x4 m_now = some res), W p l e ⟨4, 0, 0, 83⟩ s m args below meth c H locs 0 0 (MQ below (qI D (wX5 q cy m_thr m_kept m_rea m_det m_isv m_iit m_len m_at m_err m_wro m_cmd m_to1 m_to2 res.2 m_sav m_ahe m_bef m_hst m_noi m_own m_inp) res.1 A) args s 0 0 A) (F0 m 44 ls []) := by
    intro x3 x4 m_now H locs hP hD hS ls hl hf
    refine lv_iconst (v := 0) hx hb (dg ddX5_play 25 rfl) (by decide) ?_
    exact K45  x3 x4 0 m_now _ _ hP hD hS _ (lv_sub hl [0, 1, 2, 3, 4] rfl) hf
  have K20 : ∀ (t0 : Int32) (m_now : Nat → Int32) (H : Heap) (locs : List Loc) (hP : va_P D vwCl (wX5 q cy m_thr m_kept m_rea m_det m_isv m_iit m_len m_at m_err m_wro m_cmd m_to1 m_to2 m_now m_sav m_ahe m_bef m_hst m_noi m_own m_inp) H) (hD : va_D A (wX5 q cy m_thr m_kept m_rea m_det m_isv m_iit m_len m_at m_err m_wro m_cmd m_to1 m_to2 m_now m_sav m_ahe m_bef m_hst m_noi m_own m_inp)) (hS : va_S A s.heap H locs) (ls : Array Slot) (hl : lv_has ls 7 [(0, .ref (q 0)), (1, .int a1), (2, .int a2)]) (hf : f_X5_play_c20 m_noi a1 a2 t0 m_now = some res), W p l e ⟨4, 0, 0, 83⟩ s m args below meth c H locs 0 0 (MQ below (qI D (wX5 q cy m_thr m_kept m_rea m_det m_isv m_iit m_len m_at m_err m_wro m_cmd m_to1 m_to2 res.2 m_sav m_ahe m_bef m_hst m_noi m_own m_inp) res.1 A) args s 0 0 A) (F0 m 20 ls [.int t0]) := by
    intro t0 m_now H locs hP hD hS ls hl hf
    refine lv_istore_n (lv' := [(3, .int t0), (0, .ref (q 0)), (1, .int a1), (2, .int a2)]) hx hb (dg ddX5_play 12 rfl) rfl hl (by decide) rfl (fun ls hl => ?_)
    refine lv_aload_n hx hb (dg ddX5_play 13 rfl) rfl (lv_at hl 1 rfl) ?_
    refine lv_iload_n hx hb (dg ddX5_play 14 rfl) rfl (lv_at hl 2 rfl) ?_
    refine lv_iconst (v := 1) hx hb (dg ddX5_play 15 rfl) (by decide) ?_
    obtain ⟨r2, e1, hf⟩ := ob_some hf
    refine cro_vi CX hml (As := [.int a1, .int 1]) (rest := []) (c_X5_ofPitch l D cy q m_thr m_kept m_rea m_det m_isv m_iit m_len m_at m_err m_wro m_cmd m_to1 m_to2 m_now m_sav m_ahe m_bef m_hst m_noi m_own m_inp a1 1 e1) lk_RX5_88 rfl rfl hRMX5_ofPitch hP hK hN 0 rfl rfl rfl hl.1 rfl (Nat.le_of_ble_eq_true rfl) ⟨Nat.le_of_ble_eq_true rfl, Nat.le_of_ble_eq_true rfl⟩ (dg ddX5_play 16 rfl) ?_
    refine lv_istore (lv' := [(4, .int r2), (3, .int t0), (0, .ref (q 0)), (1, .int a1), (2, .int a2)]) hx hb (dg ddX5_play 17 rfl) hl (by decide) rfl (fun ls hl => ?_)
    refine lv_iload_n hx hb (dg ddX5_play 18 rfl) rfl (lv_at hl 1 rfl) ?_
    refine lv_if_eq (tgt := 44) hx hb (dg ddX5_play 19 rfl) (by decide) (fun h3 => ?_) (fun h3 => ?_)
    · have hf := it_t h3 hf
      exact K44  t0 r2 m_now _ _ hP hD hS _ (lv_sub hl [2, 3, 4, 1, 0] rfl) hf
    · have hf := it_f h3 hf
      refine lv_iload hx hb (dg ddX5_play 20 rfl) (lv_at hl 0 rfl) ?_
      refine lv_bipush (v := 99) hx hb (dg ddX5_play 21 rfl) (by decide) ?_
      refine lv_icmp_ge (tgt := 44) hx hb (dg ddX5_play 22 rfl) (by decide) (fun h4 => ?_) (fun h4 => ?_)
      · have hf := it_t h4 hf
        exact K44  t0 r2 m_now _ _ hP hD hS _ (lv_sub hl [2, 3, 4, 1, 0] rfl) hf
      · have hf := it_f h4 hf
        refine lv_iconst (v := 1) hx hb (dg ddX5_play 23 rfl) (by decide) ?_
        refine lv_goto (tgt := 45) hx hb (dg ddX5_play 24 rfl) (by decide) ?_
        exact K45  t0 r2 1 m_now _ _ hP hD hS _ (lv_sub hl [2, 3, 4, 1, 0] rfl) hf
  refine lv_aload_n hx hb (dg ddX5_play 0 rfl) rfl (lv_at hl 0 rfl) ?_
  refine gf_RX5_27 CX hK hP 0 rfl rfl (dg ddX5_play 1 rfl) ?_
  refine lv_iload_n hx hb (dg ddX5_play 2 rfl) rfl (lv_at hl 1 rfl) ?_
  obtain ⟨h1, hf⟩ := og_some hf
  refine va_fald hx hb hK hP 6 1 rfl rfl (inb_in h1) (dg ddX5_play 3 rfl) ?_
  refine lv_aload_n hx hb (dg ddX5_play 4 rfl) rfl (lv_at hl 0 rfl) ?_
  refine lv_iload_n hx hb (dg ddX5_play 5 rfl) rfl (lv_at hl 1 rfl) ?_
  obtain ⟨r3, e2, hf⟩ := ob_some hf
  refine cro_vf CX hml (As := [.int a1]) (rest := [.float (m_noi a1.toNatClampNeg)]) (c_X5_limitOf l D cy q m_thr m_kept m_rea m_det m_isv m_iit m_len m_at m_err m_wro m_cmd m_to1 m_to2 m_now m_sav m_ahe m_bef m_hst m_noi m_own m_inp a1 e2) lk_RX5_159 rfl rfl hRMX5_limitOf hP hK hN 0 rfl rfl rfl hl.1 rfl (Nat.le_of_ble_eq_true rfl) ⟨Nat.le_of_ble_eq_true rfl, Nat.le_of_ble_eq_true rfl⟩ (dg ddX5_play 6 rfl) ?_
  refine lv_fcmp hx hb (dg ddX5_play 7 rfl) ?_
  refine lv_if_le (tgt := 19) hx hb (dg ddX5_play 8 rfl) (by decide) (fun h4 => ?_) (fun h4 => ?_)
  · have hf := it_t h4 hf
    refine lv_iconst (v := 0) hx hb (dg ddX5_play 11 rfl) (by decide) ?_
    exact K20  0 m_now _ _ hP hD hS _ (lv_sub hl [0, 1, 2] rfl) hf
  · have hf := it_f h4 hf
    refine lv_iconst (v := 1) hx hb (dg ddX5_play 9 rfl) (by decide) ?_
    refine lv_goto (tgt := 20) hx hb (dg ddX5_play 10 rfl) (by decide) ?_
    exact K20  1 m_now _ _ hP hD hS _ (lv_sub hl [0, 1, 2] rfl) hf
def f_X5_goHour_c29   : Nat → Int32 → Int32 → (Nat → Int32) → (Nat → UInt32) → Option (Int32 × (Nat → Int32) × (Nat → UInt32))
  | 0, _, _, _, _ => none
  | n + 1, x1, x2, m_now, m_noi => if 8 ≤ x2 then (og (inb 0 112) (og (inb 0 112) (some (x1, (upd m_now (0 : Int32).toNatClampNeg ((m_now (0 : Int32).toNatClampNeg) + 1)), m_noi)))) else (ob (f_X5_ofPitch m_now x2 3) fun r5 => (if r5 = (-1) then (f_X5_goHour_c29  n x1 (x2 + 1) m_now m_noi) else (ob (f_X5_play m_now m_noi x2 r5) fun r8 => (if r8.1 = 0 then (f_X5_goHour_c29  n x1 (x2 + 1) r8.2 m_noi) else (ob (f_X5_goHome r8.2 x2) fun r11 => (f_X5_goHour_c29  n (x1 + 1) (x2 + 1) r11 m_noi))))))
def f_X5_goHour_c2   : Nat → Int32 → (Nat → Int32) → (Nat → UInt32) → Option (Int32 × (Nat → Int32) × (Nat → UInt32))
  | 0, _, _, _ => none
  | n + 1, x1, m_now, m_noi => if 8 ≤ x1 then (f_X5_goHour_c29  4096 0 0 m_now m_noi) else (ob (f_X5_noiseAt m_now x1) fun r3 => (og (inb x1 8) (f_X5_goHour_c2  n (x1 + 1) m_now (vf_upd m_noi x1.toNatClampNeg r3))))
def f_X5_goHour (m_now : Nat → Int32) (m_noi : Nat → UInt32) : Option (Int32 × (Nat → Int32) × (Nat → UInt32)) := f_X5_goHour_c2  4096 0 m_now m_noi
set_option maxHeartbeats 4000000 in
set_option maxRecDepth 100000 in
theorem c_X5_goHour (l : Launch) (D : va_G) (cy : Nat → ClassId) (q : Nat → Nat) (m_thr : Int32) (m_kept : Int32) (m_rea : Int32) (m_det : Int32) (m_isv : Int32) (m_iit : Int32) (m_len : Int32) (m_at : Int32) (m_err : Int32) (m_wro : Int32) (m_cmd : Int32) (m_to1 : Int32) (m_to2 : Int32) (m_now : Nat → Int32) (m_sav : Nat → Int32) (m_ahe : Nat → Int32) (m_bef : Nat → Int32) (m_hst : Nat → Nat → Int32) (m_noi : Nat → UInt32) (m_own : Nat → UInt32) (m_inp : Nat → Int32) (sz : Nat) {res : Int32 × (Nat → Int32) × (Nat → UInt32)} (hf : f_X5_goHour m_now m_noi = some res) : Met l yX5_goHour (.code yX5_goHour cX5_goHour 4 (some .int) :: lw_all) { frames := 6, cells := 0, slots := 0, locals := 120 } (va_Pc [.ref (q 0)] (sW D cy (wX5 q cy m_thr m_kept m_rea m_det m_isv m_iit m_len m_at m_err m_wro m_cmd m_to1 m_to2 m_now m_sav m_ahe m_bef m_hst m_noi m_own m_inp) sz)) (qI D (wX5 q cy m_thr m_kept m_rea m_det m_isv m_iit m_len m_at m_err m_wro m_cmd m_to1 m_to2 res.2.1 m_sav m_ahe m_bef m_hst res.2.2 m_own m_inp) res.1 (va_A (wX5 q cy m_thr m_kept m_rea m_det m_isv m_iit m_len m_at m_err m_wro m_cmd m_to1 m_to2 m_now m_sav m_ahe m_bef m_hst m_noi m_own m_inp) sz)) 0 0 (va_A (wX5 q cy m_thr m_kept m_rea m_det m_isv m_iit m_len m_at m_err m_wro m_cmd m_to1 m_to2 m_now m_sav m_ahe m_bef m_hst m_noi m_own m_inp) sz) := by
  refine mk_rw (Qc := qI D (wX5 q cy m_thr m_kept m_rea m_det m_isv m_iit m_len m_at m_err m_wro m_cmd m_to1 m_to2 res.2.1 m_sav m_ahe m_bef m_hst res.2.2 m_own m_inp) res.1) (Rc := RX5) (by decide +kernel) rfl (Nat.le_of_ble_eq_true rfl) ?_
  intro p e s m args below meth c ls A CX hml hr hlk hK hN hP hD hS hA hl
  have hx := CX.1
  have hb := CX.2.1
  have hRMX5_goHome : (⟨2, 0, 0, 35⟩ : Room).frames + 1 ≤ (⟨6, 0, 0, 120⟩ : Room).frames ∧ 8 + (2 + 11) + (⟨2, 0, 0, 35⟩ : Room).locals ≤ (⟨6, 0, 0, 120⟩ : Room).locals := ⟨Nat.le_of_ble_eq_true rfl, Nat.le_of_ble_eq_true rfl⟩
  have hRMX5_noiseAt : (⟨5, 0, 0, 99⟩ : Room).frames + 1 ≤ (⟨6, 0, 0, 120⟩ : Room).frames ∧ 8 + (2 + 11) + (⟨5, 0, 0, 99⟩ : Room).locals ≤ (⟨6, 0, 0, 120⟩ : Room).locals := ⟨Nat.le_of_ble_eq_true rfl, Nat.le_of_ble_eq_true rfl⟩
  have hRMX5_ofPitch : (⟨1, 0, 0, 12⟩ : Room).frames + 1 ≤ (⟨6, 0, 0, 120⟩ : Room).frames ∧ 8 + (3 + 11) + (⟨1, 0, 0, 12⟩ : Room).locals ≤ (⟨6, 0, 0, 120⟩ : Room).locals := ⟨Nat.le_of_ble_eq_true rfl, Nat.le_of_ble_eq_true rfl⟩
  have hRMX5_play : (⟨4, 0, 0, 83⟩ : Room).frames + 1 ≤ (⟨6, 0, 0, 120⟩ : Room).frames ∧ 8 + (7 + 11) + (⟨4, 0, 0, 83⟩ : Room).locals ≤ (⟨6, 0, 0, 120⟩ : Room).locals := ⟨Nat.le_of_ble_eq_true rfl, Nat.le_of_ble_eq_true rfl⟩
  have hl0 := hl
  have K29 : ∀ (n : Nat), ∀ (x1 : Int32) (x2 : Int32) (m_now : Nat → Int32) (m_noi : Nat → UInt32) (H : Heap) (locs : List Loc) (hP : va_P D vwCl (wX5 q cy m_thr m_kept m_rea m_det m_isv m_iit m_len m_at m_err m_wro m_cmd m_to1 m_to2 m_now m_sav m_ahe m_bef m_hst m_noi m_own m_inp) H) (hD : va_D A (wX5 q cy m_thr m_kept m_rea m_det m_isv m_iit m_len m_at m_err m_wro m_cmd m_to1 m_to2 m_now m_sav m_ahe m_bef m_hst m_noi m_own m_inp)) (hS : va_S A s.heap H locs) (ls : Array Slot) (hl : lv_has ls 4 [(0, .ref (q 0)), (1, .int x1), (2, .int x2)]) (hf : f_X5_goHour_c29 n x1 x2 m_now m_noi = some res), W p l e ⟨6, 0, 0, 120⟩ s m args below meth c H locs 0 0 (MQ below (qI D (wX5 q cy m_thr m_kept m_rea m_det m_isv m_iit m_len m_at m_err m_wro m_cmd m_to1 m_to2 res.2.1 m_sav m_ahe m_bef m_hst res.2.2 m_own m_inp) res.1 A) args s 0 0 A) (F0 m 29 ls []) := by
    intro n
    induction n with
    | zero => intro x1 x2 m_now m_noi H locs hP hD hS ls hl hf; cases (show none = some res from hf)
    | succ n ih =>
    intro x1 x2 m_now m_noi H locs hP hD hS ls hl hf
    refine lv_iload_n hx hb (dg ddX5_goHour 18 rfl) rfl (lv_at hl 2 rfl) ?_
    refine lv_bipush (v := 8) hx hb (dg ddX5_goHour 19 rfl) (by decide) ?_
    refine lv_icmp_ge (tgt := 70) hx hb (dg ddX5_goHour 20 rfl) (by decide) (fun h1 => ?_) (fun h1 => ?_)
    · have hf := it_t h1 hf
      refine lv_aload_n hx hb (dg ddX5_goHour 40 rfl) rfl (lv_at hl 0 rfl) ?_
      refine gf_RX5_9 CX hK hP 0 rfl rfl (dg ddX5_goHour 41 rfl) ?_
      refine lv_iconst (v := 0) hx hb (dg ddX5_goHour 42 rfl) (by decide) ?_
      refine lv_dup2_11 hx hb (dg ddX5_goHour 43 rfl) rfl rfl ?_
      obtain ⟨h2, hf⟩ := og_some hf
      refine va_iald hx hb hK hP 1 0 rfl rfl (inb_in h2) (dg ddX5_goHour 44 rfl) ?_
      refine lv_iconst (v := 1) hx hb (dg ddX5_goHour 45 rfl) (by decide) ?_
      refine lv_iadd hx hb (dg ddX5_goHour 46 rfl) ?_
      obtain ⟨h3, hf⟩ := og_some hf
      refine va_iast hx hb hK hP hD hS 1 0 rfl rfl (inb_in h3) (dg ddX5_goHour 47 rfl) (fun H locs hP hD hS => ?_)
      have hP : va_P D vwCl (wX5 q cy m_thr m_kept m_rea m_det m_isv m_iit m_len m_at m_err m_wro m_cmd m_to1 m_to2 (upd m_now (0 : Int32).toNatClampNeg ((m_now (0 : Int32).toNatClampNeg) + 1)) m_sav m_ahe m_bef m_hst m_noi m_own m_inp) H := hP
      have hD : va_D A (wX5 q cy m_thr m_kept m_rea m_det m_isv m_iit m_len m_at m_err m_wro m_cmd m_to1 m_to2 (upd m_now (0 : Int32).toNatClampNeg ((m_now (0 : Int32).toNatClampNeg) + 1)) m_sav m_ahe m_bef m_hst m_noi m_own m_inp) := hD
      refine lv_iload_n hx hb (dg ddX5_goHour 48 rfl) rfl (lv_at hl 1 rfl) ?_
      cases hf
      exact e_wi CX hr hlk rfl hP hD hS (dg ddX5_goHour 49 rfl)
    · have hf := it_f h1 hf
      refine lv_aload_n hx hb (dg ddX5_goHour 21 rfl) rfl (lv_at hl 0 rfl) ?_
      refine lv_iload_n hx hb (dg ddX5_goHour 22 rfl) rfl (lv_at hl 2 rfl) ?_
      refine lv_iconst (v := 3) hx hb (dg ddX5_goHour 23 rfl) (by decide) ?_
      obtain ⟨r5, e4, hf⟩ := ob_some hf
      refine cro_vi CX hml (As := [.int x2, .int 3]) (rest := []) (c_X5_ofPitch l D cy q m_thr m_kept m_rea m_det m_isv m_iit m_len m_at m_err m_wro m_cmd m_to1 m_to2 m_now m_sav m_ahe m_bef m_hst m_noi m_own m_inp x2 3 e4) lk_RX5_88 rfl rfl hRMX5_ofPitch hP hK hN 0 rfl rfl rfl hl.1 rfl (Nat.le_of_ble_eq_true rfl) ⟨Nat.le_of_ble_eq_true rfl, Nat.le_of_ble_eq_true rfl⟩ (dg ddX5_goHour 24 rfl) ?_
      refine lv_istore_n (lv' := [(3, .int r5), (0, .ref (q 0)), (1, .int x1), (2, .int x2)]) hx hb (dg ddX5_goHour 25 rfl) rfl hl (by decide) rfl (fun ls hl => ?_)
      refine lv_iload_n hx hb (dg ddX5_goHour 26 rfl) rfl (lv_at hl 0 rfl) ?_
      refine lv_iconst (v := (-1)) hx hb (dg ddX5_goHour 27 rfl) (by decide) ?_
      refine lv_icmp_eq (tgt := 64) hx hb (dg ddX5_goHour 28 rfl) (by decide) (fun h6 => ?_) (fun h6 => ?_)
      · have hf := it_t h6 hf
        refine lv_iinc (v := x2 + 1) (lv' := [(2, .int (x2 + 1)), (3, .int r5), (0, .ref (q 0)), (1, .int x1)]) hx hb (dg ddX5_goHour 38 rfl) hl (k := 3) rfl (congrArg (HAdd.hAdd x2) (by decide)) (by decide) rfl (fun ls hl => ?_)
        refine lv_goto (tgt := 29) hx hb (dg ddX5_goHour 39 rfl) (by decide) ?_
        exact ih x1 (x2 + 1) m_now m_noi _ _ hP hD hS _ (lv_sub hl [2, 3, 0] rfl) hf
      · have hf := it_f h6 hf
        refine lv_aload_n hx hb (dg ddX5_goHour 29 rfl) rfl (lv_at hl 1 rfl) ?_
        refine lv_iload_n hx hb (dg ddX5_goHour 30 rfl) rfl (lv_at hl 3 rfl) ?_
        refine lv_iload_n hx hb (dg ddX5_goHour 31 rfl) rfl (lv_at hl 0 rfl) ?_
        obtain ⟨r8, e7, hf⟩ := ob_some hf
        refine crw_vi CX hml (As := [.int x2, .int r5]) (rest := []) (c_X5_play l D cy q m_thr m_kept m_rea m_det m_isv m_iit m_len m_at m_err m_wro m_cmd m_to1 m_to2 m_now m_sav m_ahe m_bef m_hst m_noi m_own m_inp x2 r5 _ e7) lk_RX5_179 rfl rfl hRMX5_play hP hD hS hA hK hN 0 rfl rfl rfl hl.1 rfl (Nat.le_of_ble_eq_true rfl) ⟨Nat.le_of_ble_eq_true rfl, Nat.le_of_ble_eq_true rfl⟩ (dg ddX5_goHour 32 rfl) (fun H locs hP hD hS => ?_)
        refine lv_if_eq (tgt := 64) hx hb (dg ddX5_goHour 33 rfl) (by decide) (fun h9 => ?_) (fun h9 => ?_)
        · have hf := it_t h9 hf
          refine lv_iinc (v := x2 + 1) (lv' := [(2, .int (x2 + 1)), (3, .int r5), (0, .ref (q 0)), (1, .int x1)]) hx hb (dg ddX5_goHour 38 rfl) hl (k := 3) rfl (congrArg (HAdd.hAdd x2) (by decide)) (by decide) rfl (fun ls hl => ?_)
          refine lv_goto (tgt := 29) hx hb (dg ddX5_goHour 39 rfl) (by decide) ?_
          exact ih x1 (x2 + 1) r8.2 m_noi _ _ hP hD hS _ (lv_sub hl [2, 3, 0] rfl) hf
        · have hf := it_f h9 hf
          refine lv_aload_n hx hb (dg ddX5_goHour 34 rfl) rfl (lv_at hl 1 rfl) ?_
          refine lv_iload_n hx hb (dg ddX5_goHour 35 rfl) rfl (lv_at hl 3 rfl) ?_
          obtain ⟨r11, e10, hf⟩ := ob_some hf
          refine crw_vv CX hml (As := [.int x2]) (rest := []) (c_X5_goHome l D cy q m_thr m_kept m_rea m_det m_isv m_iit m_len m_at m_err m_wro m_cmd m_to1 m_to2 r8.2 m_sav m_ahe m_bef m_hst m_noi m_own m_inp x2 _ e10) lk_RX5_134 rfl rfl hRMX5_goHome hP hD hS hA hK hN 0 rfl rfl rfl hl.1 rfl (Nat.le_of_ble_eq_true rfl) ⟨Nat.le_of_ble_eq_true rfl, Nat.le_of_ble_eq_true rfl⟩ (dg ddX5_goHour 36 rfl) (fun H locs hP hD hS => ?_)
          refine lv_iinc (v := x1 + 1) (lv' := [(1, .int (x1 + 1)), (3, .int r5), (0, .ref (q 0)), (2, .int x2)]) hx hb (dg ddX5_goHour 37 rfl) hl (k := 2) rfl (congrArg (HAdd.hAdd x1) (by decide)) (by decide) rfl (fun ls hl => ?_)
          refine lv_iinc (v := x2 + 1) (lv' := [(2, .int (x2 + 1)), (1, .int (x1 + 1)), (3, .int r5), (0, .ref (q 0))]) hx hb (dg ddX5_goHour 38 rfl) hl (k := 3) rfl (congrArg (HAdd.hAdd x2) (by decide)) (by decide) rfl (fun ls hl => ?_)
          refine lv_goto (tgt := 29) hx hb (dg ddX5_goHour 39 rfl) (by decide) ?_
          exact ih (x1 + 1) (x2 + 1) r11 m_noi _ _ hP hD hS _ (lv_sub hl [3, 1, 0] rfl) hf
  have K2 : ∀ (n : Nat), ∀ (x1 : Int32) (m_now : Nat → Int32) (m_noi : Nat → UInt32) (H : Heap) (locs : List Loc) (hP : va_P D vwCl (wX5 q cy m_thr m_kept m_rea m_det m_isv m_iit m_len m_at m_err m_wro m_cmd m_to1 m_to2 m_now m_sav m_ahe m_bef m_hst m_noi m_own m_inp) H) (hD : va_D A (wX5 q cy m_thr m_kept m_rea m_det m_isv m_iit m_len m_at m_err m_wro m_cmd m_to1 m_to2 m_now m_sav m_ahe m_bef m_hst m_noi m_own m_inp)) (hS : va_S A s.heap H locs) (ls : Array Slot) (hl : lv_has ls 4 [(0, .ref (q 0)), (1, .int x1)]) (hf : f_X5_goHour_c2 n x1 m_now m_noi = some res), W p l e ⟨6, 0, 0, 120⟩ s m args below meth c H locs 0 0 (MQ below (qI D (wX5 q cy m_thr m_kept m_rea m_det m_isv m_iit m_len m_at m_err m_wro m_cmd m_to1 m_to2 res.2.1 m_sav m_ahe m_bef m_hst res.2.2 m_own m_inp) res.1 A) args s 0 0 A) (F0 m 2 ls []) := by
    intro n
    induction n with
    | zero => intro x1 m_now m_noi H locs hP hD hS ls hl hf; cases (show none = some res from hf)
    | succ n ih =>
    intro x1 m_now m_noi H locs hP hD hS ls hl hf
    refine lv_iload_n hx hb (dg ddX5_goHour 2 rfl) rfl (lv_at hl 1 rfl) ?_
    refine lv_bipush (v := 8) hx hb (dg ddX5_goHour 3 rfl) (by decide) ?_
    refine lv_icmp_ge (tgt := 25) hx hb (dg ddX5_goHour 4 rfl) (by decide) (fun h1 => ?_) (fun h1 => ?_)
    · have hf := it_t h1 hf
      refine lv_iconst (v := 0) hx hb (dg ddX5_goHour 14 rfl) (by decide) ?_
      refine lv_istore_n (lv' := [(1, .int 0), (0, .ref (q 0))]) hx hb (dg ddX5_goHour 15 rfl) rfl hl (by decide) rfl (fun ls hl => ?_)
      refine lv_iconst (v := 0) hx hb (dg ddX5_goHour 16 rfl) (by decide) ?_
      refine lv_istore_n (lv' := [(2, .int 0), (1, .int 0), (0, .ref (q 0))]) hx hb (dg ddX5_goHour 17 rfl) rfl hl (by decide) rfl (fun ls hl => ?_)
      exact K29 4096 0 0 m_now m_noi _ _ hP hD hS _ (lv_sub hl [2, 1, 0] rfl) hf
    · have hf := it_f h1 hf
      refine lv_aload_n hx hb (dg ddX5_goHour 5 rfl) rfl (lv_at hl 0 rfl) ?_
      refine gf_RX5_27 CX hK hP 0 rfl rfl (dg ddX5_goHour 6 rfl) ?_
      refine lv_iload_n hx hb (dg ddX5_goHour 7 rfl) rfl (lv_at hl 1 rfl) ?_
      refine lv_aload_n hx hb (dg ddX5_goHour 8 rfl) rfl (lv_at hl 0 rfl) ?_
      refine lv_iload_n hx hb (dg ddX5_goHour 9 rfl) rfl (lv_at hl 1 rfl) ?_
      obtain ⟨r3, e2, hf⟩ := ob_some hf
      refine cro_vf CX hml (As := [.int x1]) (rest := [.int x1, .ref (q 6)]) (c_X5_noiseAt l D cy q m_thr m_kept m_rea m_det m_isv m_iit m_len m_at m_err m_wro m_cmd m_to1 m_to2 m_now m_sav m_ahe m_bef m_hst m_noi m_own m_inp x1 e2) lk_RX5_156 rfl rfl hRMX5_noiseAt hP hK hN 0 rfl rfl rfl hl.1 rfl (Nat.le_of_ble_eq_true rfl) ⟨Nat.le_of_ble_eq_true rfl, Nat.le_of_ble_eq_true rfl⟩ (dg ddX5_goHour 10 rfl) ?_
      obtain ⟨h4, hf⟩ := og_some hf
      refine va_fast hx hb hK hP hD hS 6 1 rfl rfl (inb_in h4) (dg ddX5_goHour 11 rfl) (fun H locs hP hD hS => ?_)
      have hP : va_P D vwCl (wX5 q cy m_thr m_kept m_rea m_det m_isv m_iit m_len m_at m_err m_wro m_cmd m_to1 m_to2 m_now m_sav m_ahe m_bef m_hst (vf_upd m_noi x1.toNatClampNeg r3) m_own m_inp) H := hP
      have hD : va_D A (wX5 q cy m_thr m_kept m_rea m_det m_isv m_iit m_len m_at m_err m_wro m_cmd m_to1 m_to2 m_now m_sav m_ahe m_bef m_hst (vf_upd m_noi x1.toNatClampNeg r3) m_own m_inp) := hD
      refine lv_iinc (v := x1 + 1) (lv' := [(1, .int (x1 + 1)), (0, .ref (q 0))]) hx hb (dg ddX5_goHour 12 rfl) hl (k := 1) rfl (congrArg (HAdd.hAdd x1) (by decide)) (by decide) rfl (fun ls hl => ?_)
      refine lv_goto (tgt := 2) hx hb (dg ddX5_goHour 13 rfl) (by decide) ?_
      exact ih (x1 + 1) m_now (vf_upd m_noi x1.toNatClampNeg r3) _ _ hP hD hS _ (lv_sub hl [1, 0] rfl) hf
  refine lv_iconst (v := 0) hx hb (dg ddX5_goHour 0 rfl) (by decide) ?_
  refine lv_istore_n (lv' := [(1, .int 0), (0, .ref (q 0))]) hx hb (dg ddX5_goHour 1 rfl) rfl hl (by decide) rfl (fun ls hl => ?_)
  exact K2 4096 0 m_now m_noi _ _ hP hD hS _ (lv_sub hl [1, 0] rfl) hf
def f_X5_pass_c33  (m_iit : Int32) (a1 : Int32) : Nat → Int32 → Int32 → Int32 → Int32 → (Nat → Int32) → (Nat → Nat → Int32) → (Nat → UInt32) → Option (Int32 × Int32 × Int32 × (Nat → Int32) × (Nat → Nat → Int32) × (Nat → UInt32))
  | 0, _, _, _, _, _, _, _ => none
  | n + 1, x2, x3, m_thr, m_kept, m_now, m_hst, m_noi => if a1 ≤ x3 then (some (x2, m_thr, m_kept, m_now, m_hst, m_noi)) else (ob (f_X5_goHour m_now m_noi) fun r3 => (f_X5_pass_c33 m_iit a1 n (x2 + r3.1) (x3 + 1) m_thr m_kept r3.2.1 m_hst r3.2.2))
def f_X5_pass_c17  (m_iit : Int32) (a1 : Int32) (t0 : Int32) (t1 : Int32) (m_thr : Int32) (m_kept : Int32) (m_now : Nat → Int32) (m_hst : Nat → Nat → Int32) (m_noi : Nat → UInt32) : Option (Int32 × Int32 × Int32 × (Nat → Int32) × (Nat → Nat → Int32) × (Nat → UInt32)) := ob (f_X5_fails m_thr t1 t0) fun r2 => (if r2.1 = 0 then (ob (f_X5_change m_kept m_iit m_now m_hst) fun r5 => (f_X5_pass_c33 m_iit a1 4096 0 0 r2.2 r5.1 m_now r5.2 m_noi)) else (some (0, r2.2, m_kept, m_now, m_hst, m_noi)))
def f_X5_pass (m_thr : Int32) (m_kept : Int32) (m_iit : Int32) (m_now : Nat → Int32) (m_hst : Nat → Nat → Int32) (m_noi : Nat → UInt32) (a1 : Int32) : Option (Int32 × Int32 × Int32 × (Nat → Int32) × (Nat → Nat → Int32) × (Nat → UInt32)) := ob (f_X5_isBetween a1 1 60) fun r2 => (if r2 = 0 then (f_X5_pass_c17 m_iit a1 1 1 m_thr m_kept m_now m_hst m_noi) else (f_X5_pass_c17 m_iit a1 0 1 m_thr m_kept m_now m_hst m_noi))
set_option maxHeartbeats 4000000 in
set_option maxRecDepth 100000 in
theorem c_X5_pass (l : Launch) (D : va_G) (cy : Nat → ClassId) (q : Nat → Nat) (m_thr : Int32) (m_kept : Int32) (m_rea : Int32) (m_det : Int32) (m_isv : Int32) (m_iit : Int32) (m_len : Int32) (m_at : Int32) (m_err : Int32) (m_wro : Int32) (m_cmd : Int32) (m_to1 : Int32) (m_to2 : Int32) (m_now : Nat → Int32) (m_sav : Nat → Int32) (m_ahe : Nat → Int32) (m_bef : Nat → Int32) (m_hst : Nat → Nat → Int32) (m_noi : Nat → UInt32) (m_own : Nat → UInt32) (m_inp : Nat → Int32) (a1 : Int32) (sz : Nat) {res : Int32 × Int32 × Int32 × (Nat → Int32) × (Nat → Nat → Int32) × (Nat → UInt32)} (hf : f_X5_pass m_thr m_kept m_iit m_now m_hst m_noi a1 = some res) : Met l yX5_pass (.code yX5_pass cX5_pass 4 (some .int) :: lw_all) { frames := 7, cells := 0, slots := 0, locals := 143 } (va_Pc [.ref (q 0), .int a1] (sW D cy (wX5 q cy m_thr m_kept m_rea m_det m_isv m_iit m_len m_at m_err m_wro m_cmd m_to1 m_to2 m_now m_sav m_ahe m_bef m_hst m_noi m_own m_inp) sz)) (qI D (wX5 q cy res.2.1 res.2.2.1 m_rea m_det m_isv m_iit m_len m_at m_err m_wro m_cmd m_to1 m_to2 res.2.2.2.1 m_sav m_ahe m_bef res.2.2.2.2.1 res.2.2.2.2.2 m_own m_inp) res.1 (va_A (wX5 q cy m_thr m_kept m_rea m_det m_isv m_iit m_len m_at m_err m_wro m_cmd m_to1 m_to2 m_now m_sav m_ahe m_bef m_hst m_noi m_own m_inp) sz)) 0 0 (va_A (wX5 q cy m_thr m_kept m_rea m_det m_isv m_iit m_len m_at m_err m_wro m_cmd m_to1 m_to2 m_now m_sav m_ahe m_bef m_hst m_noi m_own m_inp) sz) := by
  refine mk_rw (Qc := qI D (wX5 q cy res.2.1 res.2.2.1 m_rea m_det m_isv m_iit m_len m_at m_err m_wro m_cmd m_to1 m_to2 res.2.2.2.1 m_sav m_ahe m_bef res.2.2.2.2.1 res.2.2.2.2.2 m_own m_inp) res.1) (Rc := RX5) (by decide +kernel) rfl (Nat.le_of_ble_eq_true rfl) ?_
  intro p e s m args below meth c ls A CX hml hr hlk hK hN hP hD hS hA hl
  have hx := CX.1
  have hb := CX.2.1
  have hRMX5_change : (⟨3, 0, 0, 56⟩ : Room).frames + 1 ≤ (⟨7, 0, 0, 143⟩ : Room).frames ∧ 8 + (1 + 11) + (⟨3, 0, 0, 56⟩ : Room).locals ≤ (⟨7, 0, 0, 143⟩ : Room).locals := ⟨Nat.le_of_ble_eq_true rfl, Nat.le_of_ble_eq_true rfl⟩
  have hRMX5_fails : (⟨1, 0, 0, 12⟩ : Room).frames + 1 ≤ (⟨7, 0, 0, 143⟩ : Room).frames ∧ 8 + (3 + 11) + (⟨1, 0, 0, 12⟩ : Room).locals ≤ (⟨7, 0, 0, 143⟩ : Room).locals := ⟨Nat.le_of_ble_eq_true rfl, Nat.le_of_ble_eq_true rfl⟩
  have hRMX5_goHour : (⟨6, 0, 0, 120⟩ : Room).frames + 1 ≤ (⟨7, 0, 0, 143⟩ : Room).frames ∧ 8 + (4 + 11) + (⟨6, 0, 0, 120⟩ : Room).locals ≤ (⟨7, 0, 0, 143⟩ : Room).locals := ⟨Nat.le_of_ble_eq_true rfl, Nat.le_of_ble_eq_true rfl⟩
  have hRMX5_isBetween : (⟨1, 0, 0, 12⟩ : Room).frames + 1 ≤ (⟨7, 0, 0, 143⟩ : Room).frames ∧ 8 + (3 + 11) + (⟨1, 0, 0, 12⟩ : Room).locals ≤ (⟨7, 0, 0, 143⟩ : Room).locals := ⟨Nat.le_of_ble_eq_true rfl, Nat.le_of_ble_eq_true rfl⟩
  have hl0 := hl
  have K33 : ∀ (n : Nat), ∀ (x2 : Int32) (x3 : Int32) (m_thr : Int32) (m_kept : Int32) (m_now : Nat → Int32) (m_hst : Nat → Nat → Int32) (m_noi : Nat → UInt32) (H : Heap) (locs : List Loc) (hP : va_P D vwCl (wX5 q cy m_thr m_kept m_rea m_det m_isv m_iit m_len m_at m_err m_wro m_cmd m_to1 m_to2 m_now m_sav m_ahe m_bef m_hst m_noi m_own m_inp) H) (hD : va_D A (wX5 q cy m_thr m_kept m_rea m_det m_isv m_iit m_len m_at m_err m_wro m_cmd m_to1 m_to2 m_now m_sav m_ahe m_bef m_hst m_noi m_own m_inp)) (hS : va_S A s.heap H locs) (ls : Array Slot) (hl : lv_has ls 4 [(0, .ref (q 0)), (1, .int a1), (2, .int x2), (3, .int x3)]) (hf : f_X5_pass_c33 m_iit a1 n x2 x3 m_thr m_kept m_now m_hst m_noi = some res), W p l e ⟨7, 0, 0, 143⟩ s m args below meth c H locs 0 0 (MQ below (qI D (wX5 q cy res.2.1 res.2.2.1 m_rea m_det m_isv m_iit m_len m_at m_err m_wro m_cmd m_to1 m_to2 res.2.2.2.1 m_sav m_ahe m_bef res.2.2.2.2.1 res.2.2.2.2.2 m_own m_inp) res.1 A) args s 0 0 A) (F0 m 33 ls []) := by
    intro n
    induction n with
    | zero => intro x2 x3 m_thr m_kept m_now m_hst m_noi H locs hP hD hS ls hl hf; cases (show none = some res from hf)
    | succ n ih =>
    intro x2 x3 m_thr m_kept m_now m_hst m_noi H locs hP hD hS ls hl hf
    refine lv_iload_n hx hb (dg ddX5_pass 20 rfl) rfl (lv_at hl 3 rfl) ?_
    refine lv_iload_n hx hb (dg ddX5_pass 21 rfl) rfl (lv_at hl 1 rfl) ?_
    refine lv_icmp_ge (tgt := 51) hx hb (dg ddX5_pass 22 rfl) (by decide) (fun h1 => ?_) (fun h1 => ?_)
    · have hf := it_t h1 hf
      refine lv_iload_n hx hb (dg ddX5_pass 30 rfl) rfl (lv_at hl 2 rfl) ?_
      cases hf
      exact e_wi CX hr hlk rfl hP hD hS (dg ddX5_pass 31 rfl)
    · have hf := it_f h1 hf
      refine lv_iload_n hx hb (dg ddX5_pass 23 rfl) rfl (lv_at hl 2 rfl) ?_
      refine lv_aload_n hx hb (dg ddX5_pass 24 rfl) rfl (lv_at hl 0 rfl) ?_
      obtain ⟨r3, e2, hf⟩ := ob_some hf
      refine crw_vi CX hml (As := []) (rest := [.int x2]) (c_X5_goHour l D cy q m_thr m_kept m_rea m_det m_isv m_iit m_len m_at m_err m_wro m_cmd m_to1 m_to2 m_now m_sav m_ahe m_bef m_hst m_noi m_own m_inp _ e2) lk_RX5_182 rfl rfl hRMX5_goHour hP hD hS hA hK hN 0 rfl rfl rfl hl.1 rfl (Nat.le_of_ble_eq_true rfl) ⟨Nat.le_of_ble_eq_true rfl, Nat.le_of_ble_eq_true rfl⟩ (dg ddX5_pass 25 rfl) (fun H locs hP hD hS => ?_)
      refine lv_iadd hx hb (dg ddX5_pass 26 rfl) ?_
      refine lv_istore_n (lv' := [(2, .int (x2 + r3.1)), (0, .ref (q 0)), (1, .int a1), (3, .int x3)]) hx hb (dg ddX5_pass 27 rfl) rfl hl (by decide) rfl (fun ls hl => ?_)
      refine lv_iinc (v := x3 + 1) (lv' := [(3, .int (x3 + 1)), (2, .int (x2 + r3.1)), (0, .ref (q 0)), (1, .int a1)]) hx hb (dg ddX5_pass 28 rfl) hl (k := 3) rfl (congrArg (HAdd.hAdd x3) (by decide)) (by decide) rfl (fun ls hl => ?_)
      refine lv_goto (tgt := 33) hx hb (dg ddX5_pass 29 rfl) (by decide) ?_
      exact ih (x2 + r3.1) (x3 + 1) m_thr m_kept r3.2.1 m_hst r3.2.2 _ _ hP hD hS _ (lv_sub hl [2, 3, 1, 0] rfl) hf
  have K17 : ∀ (t0 : Int32) (t1 : Int32) (m_thr : Int32) (m_kept : Int32) (m_now : Nat → Int32) (m_hst : Nat → Nat → Int32) (m_noi : Nat → UInt32) (H : Heap) (locs : List Loc) (hP : va_P D vwCl (wX5 q cy m_thr m_kept m_rea m_det m_isv m_iit m_len m_at m_err m_wro m_cmd m_to1 m_to2 m_now m_sav m_ahe m_bef m_hst m_noi m_own m_inp) H) (hD : va_D A (wX5 q cy m_thr m_kept m_rea m_det m_isv m_iit m_len m_at m_err m_wro m_cmd m_to1 m_to2 m_now m_sav m_ahe m_bef m_hst m_noi m_own m_inp)) (hS : va_S A s.heap H locs) (ls : Array Slot) (hl : lv_has ls 4 [(0, .ref (q 0)), (1, .int a1)]) (hf : f_X5_pass_c17 m_iit a1 t0 t1 m_thr m_kept m_now m_hst m_noi = some res), W p l e ⟨7, 0, 0, 143⟩ s m args below meth c H locs 0 0 (MQ below (qI D (wX5 q cy res.2.1 res.2.2.1 m_rea m_det m_isv m_iit m_len m_at m_err m_wro m_cmd m_to1 m_to2 res.2.2.2.1 m_sav m_ahe m_bef res.2.2.2.2.1 res.2.2.2.2.2 m_own m_inp) res.1 A) args s 0 0 A) (F0 m 17 ls [.int t0, .int t1, .ref (q 0)]) := by
    intro t0 t1 m_thr m_kept m_now m_hst m_noi H locs hP hD hS ls hl hf
    obtain ⟨r2, e1, hf⟩ := ob_some hf
    refine crw_vi CX hml (As := [.int t1, .int t0]) (rest := []) (c_X5_fails l D cy q m_thr m_kept m_rea m_det m_isv m_iit m_len m_at m_err m_wro m_cmd m_to1 m_to2 m_now m_sav m_ahe m_bef m_hst m_noi m_own m_inp t1 t0 _ e1) lk_RX5_81 rfl rfl hRMX5_fails hP hD hS hA hK hN 0 rfl rfl rfl hl.1 rfl (Nat.le_of_ble_eq_true rfl) ⟨Nat.le_of_ble_eq_true rfl, Nat.le_of_ble_eq_true rfl⟩ (dg ddX5_pass 10 rfl) (fun H locs hP hD hS => ?_)
    refine lv_if_eq (tgt := 25) hx hb (dg ddX5_pass 11 rfl) (by decide) (fun h3 => ?_) (fun h3 => ?_)
    · have hf := it_t h3 hf
      refine lv_aload_n hx hb (dg ddX5_pass 14 rfl) rfl (lv_at hl 0 rfl) ?_
      obtain ⟨r5, e4, hf⟩ := ob_some hf
      refine crw_vv CX hml (As := []) (rest := []) (c_X5_change l D cy q r2.2 m_kept m_rea m_det m_isv m_iit m_len m_at m_err m_wro m_cmd m_to1 m_to2 m_now m_sav m_ahe m_bef m_hst m_noi m_own m_inp _ e4) lk_RX5_85 rfl rfl hRMX5_change hP hD hS hA hK hN 0 rfl rfl rfl hl.1 rfl (Nat.le_of_ble_eq_true rfl) ⟨Nat.le_of_ble_eq_true rfl, Nat.le_of_ble_eq_true rfl⟩ (dg ddX5_pass 15 rfl) (fun H locs hP hD hS => ?_)
      refine lv_iconst (v := 0) hx hb (dg ddX5_pass 16 rfl) (by decide) ?_
      refine lv_istore_n (lv' := [(2, .int 0), (0, .ref (q 0)), (1, .int a1)]) hx hb (dg ddX5_pass 17 rfl) rfl hl (by decide) rfl (fun ls hl => ?_)
      refine lv_iconst (v := 0) hx hb (dg ddX5_pass 18 rfl) (by decide) ?_
      refine lv_istore_n (lv' := [(3, .int 0), (2, .int 0), (0, .ref (q 0)), (1, .int a1)]) hx hb (dg ddX5_pass 19 rfl) rfl hl (by decide) rfl (fun ls hl => ?_)
      exact K33 4096 0 0 r2.2 r5.1 m_now r5.2 m_noi _ _ hP hD hS _ (lv_sub hl [2, 3, 1, 0] rfl) hf
    · have hf := it_f h3 hf
      refine lv_iconst (v := 0) hx hb (dg ddX5_pass 12 rfl) (by decide) ?_
      cases hf
      exact e_wi CX hr hlk rfl hP hD hS (dg ddX5_pass 13 rfl)
  refine lv_aload_n hx hb (dg ddX5_pass 0 rfl) rfl (lv_at hl 0 rfl) ?_
  refine lv_iconst (v := 1) hx hb (dg ddX5_pass 1 rfl) (by decide) ?_
  refine lv_iload_n hx hb (dg ddX5_pass 2 rfl) rfl (lv_at hl 1 rfl) ?_
  refine lv_iconst (v := 1) hx hb (dg ddX5_pass 3 rfl) (by decide) ?_
  refine lv_bipush (v := 60) hx hb (dg ddX5_pass 4 rfl) (by decide) ?_
  obtain ⟨r2, e1, hf⟩ := ob_some hf
  refine cro_si CX hml (As := [.int a1, .int 1, .int 60]) (rest := [.int 1, .ref (q 0)]) (c_X5_isBetween l D cy a1 1 60 e1) lk_RX5_77 rfl rfl hRMX5_isBetween vaP_nil hK hN rfl hl.1 rfl (Nat.le_of_ble_eq_true rfl) ⟨Nat.le_of_ble_eq_true rfl, Nat.le_of_ble_eq_true rfl⟩ (dg ddX5_pass 5 rfl) ?_
  refine lv_if_ne (tgt := 16) hx hb (dg ddX5_pass 6 rfl) (by decide) (fun h3 => ?_) (fun h3 => ?_)
  · have hf := it_f h3 hf
    refine lv_iconst (v := 0) hx hb (dg ddX5_pass 9 rfl) (by decide) ?_
    exact K17  0 1 m_thr m_kept m_now m_hst m_noi _ _ hP hD hS _ (lv_sub hl [0, 1] rfl) hf
  · have hf := it_t h3 hf
    refine lv_iconst (v := 1) hx hb (dg ddX5_pass 7 rfl) (by decide) ?_
    refine lv_goto (tgt := 17) hx hb (dg ddX5_pass 8 rfl) (by decide) ?_
    exact K17  1 1 m_thr m_kept m_now m_hst m_noi _ _ hP hD hS _ (lv_sub hl [0, 1] rfl) hf
def f_X5_hatIn_c59  (a1 : Int32) (a2 : Int32) : Nat → Int32 → Int32 → (Nat → Int32) → (Nat → Int32) → (Nat → UInt32) → Option (Int32 × Int32 × (Nat → Int32) × (Nat → Int32) × (Nat → UInt32))
  | 0, _, _, _, _, _ => none
  | n + 1, x3, m_thr, m_now, m_ahe, m_noi => if a2 ≤ x3 then (ob (f_X5_of m_now a1 2) fun r3 => (ob (f_X5_copyRow m_ahe m_now) fun r5 => (some (r3, m_thr, r5, m_ahe, m_noi)))) else (ob (f_X5_goHour m_now m_noi) fun r7 => (f_X5_hatIn_c59 a1 a2 n (x3 + 1) m_thr r7.2.1 m_ahe r7.2.2))
def f_X5_hatIn_c38  (a1 : Int32) (a2 : Int32) (t0 : Int32) (t1 : Int32) (m_thr : Int32) (m_now : Nat → Int32) (m_ahe : Nat → Int32) (m_noi : Nat → UInt32) : Option (Int32 × Int32 × (Nat → Int32) × (Nat → Int32) × (Nat → UInt32)) := ob (f_X5_fails m_thr t1 t0) fun r2 => (if r2.1 = 0 then (ob (f_X5_copyRow m_now m_ahe) fun r5 => (f_X5_hatIn_c59 a1 a2 4096 0 r2.2 m_now r5 m_noi)) else (some (0, r2.2, m_now, m_ahe, m_noi)))
def f_X5_hatIn_c15  (a1 : Int32) (a2 : Int32) (t0 : Int32) (t1 : Int32) (m_thr : Int32) (m_now : Nat → Int32) (m_ahe : Nat → Int32) (m_noi : Nat → UInt32) : Option (Int32 × Int32 × (Nat → Int32) × (Nat → Int32) × (Nat → UInt32)) := ob (f_X5_fails m_thr t1 t0) fun r2 => (if r2.1 = 0 then (ob (f_X5_isBetween a2 0 60) fun r5 => (if r5 = 0 then (f_X5_hatIn_c38 a1 a2 1 2 r2.2 m_now m_ahe m_noi) else (f_X5_hatIn_c38 a1 a2 0 2 r2.2 m_now m_ahe m_noi))) else (some (0, r2.2, m_now, m_ahe, m_noi)))
def f_X5_hatIn (m_thr : Int32) (m_now : Nat → Int32) (m_ahe : Nat → Int32) (m_noi : Nat → UInt32) (a1 : Int32) (a2 : Int32) : Option (Int32 × Int32 × (Nat → Int32) × (Nat → Int32) × (Nat → UInt32)) := ob (f_X5_isBusker m_now a1) fun r2 => (if r2 = 0 then (f_X5_hatIn_c15 a1 a2 1 1 m_thr m_now m_ahe m_noi) else (f_X5_hatIn_c15 a1 a2 0 1 m_thr m_now m_ahe m_noi))
set_option maxHeartbeats 4000000 in
set_option maxRecDepth 100000 in
theorem c_X5_hatIn (l : Launch) (D : va_G) (cy : Nat → ClassId) (q : Nat → Nat) (m_thr : Int32) (m_kept : Int32) (m_rea : Int32) (m_det : Int32) (m_isv : Int32) (m_iit : Int32) (m_len : Int32) (m_at : Int32) (m_err : Int32) (m_wro : Int32) (m_cmd : Int32) (m_to1 : Int32) (m_to2 : Int32) (m_now : Nat → Int32) (m_sav : Nat → Int32) (m_ahe : Nat → Int32) (m_bef : Nat → Int32) (m_hst : Nat → Nat → Int32) (m_noi : Nat → UInt32) (m_own : Nat → UInt32) (m_inp : Nat → Int32) (a1 : Int32) (a2 : Int32) (sz : Nat) {res : Int32 × Int32 × (Nat → Int32) × (Nat → Int32) × (Nat → UInt32)} (hf : f_X5_hatIn m_thr m_now m_ahe m_noi a1 a2 = some res) : Met l yX5_hatIn (.code yX5_hatIn cX5_hatIn 4 (some .int) :: lw_all) { frames := 7, cells := 0, slots := 0, locals := 143 } (va_Pc [.ref (q 0), .int a1, .int a2] (sW D cy (wX5 q cy m_thr m_kept m_rea m_det m_isv m_iit m_len m_at m_err m_wro m_cmd m_to1 m_to2 m_now m_sav m_ahe m_bef m_hst m_noi m_own m_inp) sz)) (qI D (wX5 q cy res.2.1 m_kept m_rea m_det m_isv m_iit m_len m_at m_err m_wro m_cmd m_to1 m_to2 res.2.2.1 m_sav res.2.2.2.1 m_bef m_hst res.2.2.2.2 m_own m_inp) res.1 (va_A (wX5 q cy m_thr m_kept m_rea m_det m_isv m_iit m_len m_at m_err m_wro m_cmd m_to1 m_to2 m_now m_sav m_ahe m_bef m_hst m_noi m_own m_inp) sz)) 0 0 (va_A (wX5 q cy m_thr m_kept m_rea m_det m_isv m_iit m_len m_at m_err m_wro m_cmd m_to1 m_to2 m_now m_sav m_ahe m_bef m_hst m_noi m_own m_inp) sz) := by
  refine mk_rw (Qc := qI D (wX5 q cy res.2.1 m_kept m_rea m_det m_isv m_iit m_len m_at m_err m_wro m_cmd m_to1 m_to2 res.2.2.1 m_sav res.2.2.2.1 m_bef m_hst res.2.2.2.2 m_own m_inp) res.1) (Rc := RX5) (by decide +kernel) rfl (Nat.le_of_ble_eq_true rfl) ?_
  intro p e s m args below meth c ls A CX hml hr hlk hK hN hP hD hS hA hl
  have hx := CX.1
  have hb := CX.2.1
  have hRMX5_copyRow : (⟨1, 0, 0, 12⟩ : Room).frames + 1 ≤ (⟨7, 0, 0, 143⟩ : Room).frames ∧ 8 + (3 + 11) + (⟨1, 0, 0, 12⟩ : Room).locals ≤ (⟨7, 0, 0, 143⟩ : Room).locals := ⟨Nat.le_of_ble_eq_true rfl, Nat.le_of_ble_eq_true rfl⟩
  have hRMX5_fails : (⟨1, 0, 0, 12⟩ : Room).frames + 1 ≤ (⟨7, 0, 0, 143⟩ : Room).frames ∧ 8 + (3 + 11) + (⟨1, 0, 0, 12⟩ : Room).locals ≤ (⟨7, 0, 0, 143⟩ : Room).locals := ⟨Nat.le_of_ble_eq_true rfl, Nat.le_of_ble_eq_true rfl⟩
  have hRMX5_goHour : (⟨6, 0, 0, 120⟩ : Room).frames + 1 ≤ (⟨7, 0, 0, 143⟩ : Room).frames ∧ 8 + (4 + 11) + (⟨6, 0, 0, 120⟩ : Room).locals ≤ (⟨7, 0, 0, 143⟩ : Room).locals := ⟨Nat.le_of_ble_eq_true rfl, Nat.le_of_ble_eq_true rfl⟩
  have hRMX5_isBetween : (⟨1, 0, 0, 12⟩ : Room).frames + 1 ≤ (⟨7, 0, 0, 143⟩ : Room).frames ∧ 8 + (3 + 11) + (⟨1, 0, 0, 12⟩ : Room).locals ≤ (⟨7, 0, 0, 143⟩ : Room).locals := ⟨Nat.le_of_ble_eq_true rfl, Nat.le_of_ble_eq_true rfl⟩
  have hRMX5_isBusker : (⟨2, 0, 0, 34⟩ : Room).frames + 1 ≤ (⟨7, 0, 0, 143⟩ : Room).frames ∧ 8 + (2 + 11) + (⟨2, 0, 0, 34⟩ : Room).locals ≤ (⟨7, 0, 0, 143⟩ : Room).locals := ⟨Nat.le_of_ble_eq_true rfl, Nat.le_of_ble_eq_true rfl⟩
  have hRMX5_of : (⟨1, 0, 0, 12⟩ : Room).frames + 1 ≤ (⟨7, 0, 0, 143⟩ : Room).frames ∧ 8 + (3 + 11) + (⟨1, 0, 0, 12⟩ : Room).locals ≤ (⟨7, 0, 0, 143⟩ : Room).locals := ⟨Nat.le_of_ble_eq_true rfl, Nat.le_of_ble_eq_true rfl⟩
  have hl0 := hl
  have K59 : ∀ (n : Nat), ∀ (x3 : Int32) (m_thr : Int32) (m_now : Nat → Int32) (m_ahe : Nat → Int32) (m_noi : Nat → UInt32) (H : Heap) (locs : List Loc) (hP : va_P D vwCl (wX5 q cy m_thr m_kept m_rea m_det m_isv m_iit m_len m_at m_err m_wro m_cmd m_to1 m_to2 m_now m_sav m_ahe m_bef m_hst m_noi m_own m_inp) H) (hD : va_D A (wX5 q cy m_thr m_kept m_rea m_det m_isv m_iit m_len m_at m_err m_wro m_cmd m_to1 m_to2 m_now m_sav m_ahe m_bef m_hst m_noi m_own m_inp)) (hS : va_S A s.heap H locs) (ls : Array Slot) (hl : lv_has ls 4 [(0, .ref (q 0)), (1, .int a1), (2, .int a2), (3, .int x3)]) (hf : f_X5_hatIn_c59 a1 a2 n x3 m_thr m_now m_ahe m_noi = some res), W p l e ⟨7, 0, 0, 143⟩ s m args below meth c H locs 0 0 (MQ below (qI D (wX5 q cy res.2.1 m_kept m_rea m_det m_isv m_iit m_len m_at m_err m_wro m_cmd m_to1 m_to2 res.2.2.1 m_sav res.2.2.2.1 m_bef m_hst res.2.2.2.2 m_own m_inp) res.1 A) args s 0 0 A) (F0 m 59 ls []) := by
    intro n
    induction n with
    | zero => intro x3 m_thr m_now m_ahe m_noi H locs hP hD hS ls hl hf; cases (show none = some res from hf)
    | succ n ih =>
    intro x3 m_thr m_now m_ahe m_noi H locs hP hD hS ls hl hf
    refine lv_iload_n hx hb (dg ddX5_hatIn 32 rfl) rfl (lv_at hl 3 rfl) ?_
    refine lv_iload_n hx hb (dg ddX5_hatIn 33 rfl) rfl (lv_at hl 2 rfl) ?_
    refine lv_icmp_ge (tgt := 75) hx hb (dg ddX5_hatIn 34 rfl) (by decide) (fun h1 => ?_) (fun h1 => ?_)
    · have hf := it_t h1 hf
      refine lv_aload_n hx hb (dg ddX5_hatIn 40 rfl) rfl (lv_at hl 0 rfl) ?_
      refine lv_iload_n hx hb (dg ddX5_hatIn 41 rfl) rfl (lv_at hl 1 rfl) ?_
      refine lv_iconst (v := 2) hx hb (dg ddX5_hatIn 42 rfl) (by decide) ?_
      obtain ⟨r3, e2, hf⟩ := ob_some hf
      refine cro_vi CX hml (As := [.int a1, .int 2]) (rest := []) (c_X5_of l D cy q m_thr m_kept m_rea m_det m_isv m_iit m_len m_at m_err m_wro m_cmd m_to1 m_to2 m_now m_sav m_ahe m_bef m_hst m_noi m_own m_inp a1 2 e2) lk_RX5_100 rfl rfl hRMX5_of hP hK hN 0 rfl rfl rfl hl.1 rfl (Nat.le_of_ble_eq_true rfl) ⟨Nat.le_of_ble_eq_true rfl, Nat.le_of_ble_eq_true rfl⟩ (dg ddX5_hatIn 43 rfl) ?_
      refine lv_istore_n (lv' := [(3, .int r3), (0, .ref (q 0)), (1, .int a1), (2, .int a2)]) hx hb (dg ddX5_hatIn 44 rfl) rfl hl (by decide) rfl (fun ls hl => ?_)
      refine lv_aload_n hx hb (dg ddX5_hatIn 45 rfl) rfl (lv_at hl 1 rfl) ?_
      refine gf_RX5_16 CX hK hP 0 rfl rfl (dg ddX5_hatIn 46 rfl) ?_
      refine lv_aload_n hx hb (dg ddX5_hatIn 47 rfl) rfl (lv_at hl 1 rfl) ?_
      refine gf_RX5_9 CX hK hP 0 rfl rfl (dg ddX5_hatIn 48 rfl) ?_
      obtain ⟨r5, e4, hf⟩ := ob_some hf
      refine crs2 CX hml (As := [.ref (q 3), .ref (q 1)]) (rest := []) (ws := (wX5 q cy m_thr m_kept m_rea m_det m_isv m_iit m_len m_at m_err m_wro m_cmd m_to1 m_to2 m_now m_sav m_ahe m_bef m_hst m_noi m_own m_inp)) (wsn := (wX5 q cy m_thr m_kept m_rea m_det m_isv m_iit m_len m_at m_err m_wro m_cmd m_to1 m_to2 r5 m_sav m_ahe m_bef m_hst m_noi m_own m_inp)) (k1 := 3) (k2 := 1) (c_X5_copyRow l D cy (q 3) (q 1) m_ahe m_now _ e4) lk_RX5_65 rfl rfl hRMX5_copyRow hP hD hS hA hK hN rfl rfl (by decide) rfl rfl hl.1 rfl (Nat.le_of_ble_eq_true rfl) ⟨Nat.le_of_ble_eq_true rfl, Nat.le_of_ble_eq_true rfl⟩ (dg ddX5_hatIn 49 rfl) (fun H locs hP hD hS => ?_)
      refine lv_iload_n hx hb (dg ddX5_hatIn 50 rfl) rfl (lv_at hl 0 rfl) ?_
      cases hf
      exact e_wi CX hr hlk rfl hP hD hS (dg ddX5_hatIn 51 rfl)
    · have hf := it_f h1 hf
      refine lv_aload_n hx hb (dg ddX5_hatIn 35 rfl) rfl (lv_at hl 0 rfl) ?_
      obtain ⟨r7, e6, hf⟩ := ob_some hf
      refine crw_vi CX hml (As := []) (rest := []) (c_X5_goHour l D cy q m_thr m_kept m_rea m_det m_isv m_iit m_len m_at m_err m_wro m_cmd m_to1 m_to2 m_now m_sav m_ahe m_bef m_hst m_noi m_own m_inp _ e6) lk_RX5_182 rfl rfl hRMX5_goHour hP hD hS hA hK hN 0 rfl rfl rfl hl.1 rfl (Nat.le_of_ble_eq_true rfl) ⟨Nat.le_of_ble_eq_true rfl, Nat.le_of_ble_eq_true rfl⟩ (dg ddX5_hatIn 36 rfl) (fun H locs hP hD hS => ?_)
      refine lv_pop hx hb (dg ddX5_hatIn 37 rfl) rfl ?_
      refine lv_iinc (v := x3 + 1) (lv' := [(3, .int (x3 + 1)), (0, .ref (q 0)), (1, .int a1), (2, .int a2)]) hx hb (dg ddX5_hatIn 38 rfl) hl (k := 3) rfl (congrArg (HAdd.hAdd x3) (by decide)) (by decide) rfl (fun ls hl => ?_)
      refine lv_goto (tgt := 59) hx hb (dg ddX5_hatIn 39 rfl) (by decide) ?_
      exact ih (x3 + 1) m_thr r7.2.1 m_ahe r7.2.2 _ _ hP hD hS _ (lv_sub hl [1, 2, 3, 0] rfl) hf
  have K38 : ∀ (t0 : Int32) (t1 : Int32) (m_thr : Int32) (m_now : Nat → Int32) (m_ahe : Nat → Int32) (m_noi : Nat → UInt32) (H : Heap) (locs : List Loc) (hP : va_P D vwCl (wX5 q cy m_thr m_kept m_rea m_det m_isv m_iit m_len m_at m_err m_wro m_cmd m_to1 m_to2 m_now m_sav m_ahe m_bef m_hst m_noi m_own m_inp) H) (hD : va_D A (wX5 q cy m_thr m_kept m_rea m_det m_isv m_iit m_len m_at m_err m_wro m_cmd m_to1 m_to2 m_now m_sav m_ahe m_bef m_hst m_noi m_own m_inp)) (hS : va_S A s.heap H locs) (ls : Array Slot) (hl : lv_has ls 4 [(0, .ref (q 0)), (1, .int a1), (2, .int a2)]) (hf : f_X5_hatIn_c38 a1 a2 t0 t1 m_thr m_now m_ahe m_noi = some res), W p l e ⟨7, 0, 0, 143⟩ s m args below meth c H locs 0 0 (MQ below (qI D (wX5 q cy res.2.1 m_kept m_rea m_det m_isv m_iit m_len m_at m_err m_wro m_cmd m_to1 m_to2 res.2.2.1 m_sav res.2.2.2.1 m_bef m_hst res.2.2.2.2 m_own m_inp) res.1 A) args s 0 0 A) (F0 m 38 ls [.int t0, .int t1, .ref (q 0)]) := by
    intro t0 t1 m_thr m_now m_ahe m_noi H locs hP hD hS ls hl hf
    obtain ⟨r2, e1, hf⟩ := ob_some hf
    refine crw_vi CX hml (As := [.int t1, .int t0]) (rest := []) (c_X5_fails l D cy q m_thr m_kept m_rea m_det m_isv m_iit m_len m_at m_err m_wro m_cmd m_to1 m_to2 m_now m_sav m_ahe m_bef m_hst m_noi m_own m_inp t1 t0 _ e1) lk_RX5_81 rfl rfl hRMX5_fails hP hD hS hA hK hN 0 rfl rfl rfl hl.1 rfl (Nat.le_of_ble_eq_true rfl) ⟨Nat.le_of_ble_eq_true rfl, Nat.le_of_ble_eq_true rfl⟩ (dg ddX5_hatIn 21 rfl) (fun H locs hP hD hS => ?_)
    refine lv_if_eq (tgt := 46) hx hb (dg ddX5_hatIn 22 rfl) (by decide) (fun h3 => ?_) (fun h3 => ?_)
    · have hf := it_t h3 hf
      refine lv_aload_n hx hb (dg ddX5_hatIn 25 rfl) rfl (lv_at hl 0 rfl) ?_
      refine gf_RX5_9 CX hK hP 0 rfl rfl (dg ddX5_hatIn 26 rfl) ?_
      refine lv_aload_n hx hb (dg ddX5_hatIn 27 rfl) rfl (lv_at hl 0 rfl) ?_
      refine gf_RX5_16 CX hK hP 0 rfl rfl (dg ddX5_hatIn 28 rfl) ?_
      obtain ⟨r5, e4, hf⟩ := ob_some hf
      refine crs2 CX hml (As := [.ref (q 1), .ref (q 3)]) (rest := []) (ws := (wX5 q cy r2.2 m_kept m_rea m_det m_isv m_iit m_len m_at m_err m_wro m_cmd m_to1 m_to2 m_now m_sav m_ahe m_bef m_hst m_noi m_own m_inp)) (wsn := (wX5 q cy r2.2 m_kept m_rea m_det m_isv m_iit m_len m_at m_err m_wro m_cmd m_to1 m_to2 m_now m_sav r5 m_bef m_hst m_noi m_own m_inp)) (k1 := 1) (k2 := 3) (c_X5_copyRow l D cy (q 1) (q 3) m_now m_ahe _ e4) lk_RX5_65 rfl rfl hRMX5_copyRow hP hD hS hA hK hN rfl rfl (by decide) rfl rfl hl.1 rfl (Nat.le_of_ble_eq_true rfl) ⟨Nat.le_of_ble_eq_true rfl, Nat.le_of_ble_eq_true rfl⟩ (dg ddX5_hatIn 29 rfl) (fun H locs hP hD hS => ?_)
      refine lv_iconst (v := 0) hx hb (dg ddX5_hatIn 30 rfl) (by decide) ?_
      refine lv_istore_n (lv' := [(3, .int 0), (0, .ref (q 0)), (1, .int a1), (2, .int a2)]) hx hb (dg ddX5_hatIn 31 rfl) rfl hl (by decide) rfl (fun ls hl => ?_)
      exact K59 4096 0 r2.2 m_now r5 m_noi _ _ hP hD hS _ (lv_sub hl [1, 2, 3, 0] rfl) hf
    · have hf := it_f h3 hf
      refine lv_iconst (v := 0) hx hb (dg ddX5_hatIn 23 rfl) (by decide) ?_
      cases hf
      exact e_wi CX hr hlk rfl hP hD hS (dg ddX5_hatIn 24 rfl)
  have K15 : ∀ (t0 : Int32) (t1 : Int32) (m_thr : Int32) (m_now : Nat → Int32) (m_ahe : Nat → Int32) (m_noi : Nat → UInt32) (H : Heap) (locs : List Loc) (hP : va_P D vwCl (wX5 q cy m_thr m_kept m_rea m_det m_isv m_iit m_len m_at m_err m_wro m_cmd m_to1 m_to2 m_now m_sav m_ahe m_bef m_hst m_noi m_own m_inp) H) (hD : va_D A (wX5 q cy m_thr m_kept m_rea m_det m_isv m_iit m_len m_at m_err m_wro m_cmd m_to1 m_to2 m_now m_sav m_ahe m_bef m_hst m_noi m_own m_inp)) (hS : va_S A s.heap H locs) (ls : Array Slot) (hl : lv_has ls 4 [(0, .ref (q 0)), (1, .int a1), (2, .int a2)]) (hf : f_X5_hatIn_c15 a1 a2 t0 t1 m_thr m_now m_ahe m_noi = some res), W p l e ⟨7, 0, 0, 143⟩ s m args below meth c H locs 0 0 (MQ below (qI D (wX5 q cy res.2.1 m_kept m_rea m_det m_isv m_iit m_len m_at m_err m_wro m_cmd m_to1 m_to2 res.2.2.1 m_sav res.2.2.2.1 m_bef m_hst res.2.2.2.2 m_own m_inp) res.1 A) args s 0 0 A) (F0 m 15 ls [.int t0, .int t1, .ref (q 0)]) := by
    intro t0 t1 m_thr m_now m_ahe m_noi H locs hP hD hS ls hl hf
    obtain ⟨r2, e1, hf⟩ := ob_some hf
    refine crw_vi CX hml (As := [.int t1, .int t0]) (rest := []) (c_X5_fails l D cy q m_thr m_kept m_rea m_det m_isv m_iit m_len m_at m_err m_wro m_cmd m_to1 m_to2 m_now m_sav m_ahe m_bef m_hst m_noi m_own m_inp t1 t0 _ e1) lk_RX5_81 rfl rfl hRMX5_fails hP hD hS hA hK hN 0 rfl rfl rfl hl.1 rfl (Nat.le_of_ble_eq_true rfl) ⟨Nat.le_of_ble_eq_true rfl, Nat.le_of_ble_eq_true rfl⟩ (dg ddX5_hatIn 9 rfl) (fun H locs hP hD hS => ?_)
    refine lv_if_ne (tgt := 44) hx hb (dg ddX5_hatIn 10 rfl) (by decide) (fun h3 => ?_) (fun h3 => ?_)
    · have hf := it_f h3 hf
      refine lv_iconst (v := 0) hx hb (dg ddX5_hatIn 23 rfl) (by decide) ?_
      cases hf
      exact e_wi CX hr hlk rfl hP hD hS (dg ddX5_hatIn 24 rfl)
    · have hf := it_t h3 hf
      refine lv_aload_n hx hb (dg ddX5_hatIn 11 rfl) rfl (lv_at hl 0 rfl) ?_
      refine lv_iconst (v := 2) hx hb (dg ddX5_hatIn 12 rfl) (by decide) ?_
      refine lv_iload_n hx hb (dg ddX5_hatIn 13 rfl) rfl (lv_at hl 2 rfl) ?_
      refine lv_iconst (v := 0) hx hb (dg ddX5_hatIn 14 rfl) (by decide) ?_
      refine lv_bipush (v := 60) hx hb (dg ddX5_hatIn 15 rfl) (by decide) ?_
      obtain ⟨r5, e4, hf⟩ := ob_some hf
      refine cro_si CX hml (As := [.int a2, .int 0, .int 60]) (rest := [.int 2, .ref (q 0)]) (c_X5_isBetween l D cy a2 0 60 e4) lk_RX5_77 rfl rfl hRMX5_isBetween vaP_nil hK hN rfl hl.1 rfl (Nat.le_of_ble_eq_true rfl) ⟨Nat.le_of_ble_eq_true rfl, Nat.le_of_ble_eq_true rfl⟩ (dg ddX5_hatIn 16 rfl) ?_
      refine lv_if_ne (tgt := 37) hx hb (dg ddX5_hatIn 17 rfl) (by decide) (fun h6 => ?_) (fun h6 => ?_)
      · have hf := it_f h6 hf
        refine lv_iconst (v := 0) hx hb (dg ddX5_hatIn 20 rfl) (by decide) ?_
        exact K38  0 2 r2.2 m_now m_ahe m_noi _ _ hP hD hS _ (lv_sub hl [0, 1, 2] rfl) hf
      · have hf := it_t h6 hf
        refine lv_iconst (v := 1) hx hb (dg ddX5_hatIn 18 rfl) (by decide) ?_
        refine lv_goto (tgt := 38) hx hb (dg ddX5_hatIn 19 rfl) (by decide) ?_
        exact K38  1 2 r2.2 m_now m_ahe m_noi _ _ hP hD hS _ (lv_sub hl [0, 1, 2] rfl) hf
  refine lv_aload_n hx hb (dg ddX5_hatIn 0 rfl) rfl (lv_at hl 0 rfl) ?_
  refine lv_iconst (v := 1) hx hb (dg ddX5_hatIn 1 rfl) (by decide) ?_
  refine lv_aload_n hx hb (dg ddX5_hatIn 2 rfl) rfl (lv_at hl 0 rfl) ?_
  refine lv_iload_n hx hb (dg ddX5_hatIn 3 rfl) rfl (lv_at hl 1 rfl) ?_
  obtain ⟨r2, e1, hf⟩ := ob_some hf
  refine cro_vi CX hml (As := [.int a1]) (rest := [.int 1, .ref (q 0)]) (c_X5_isBusker l D cy q m_thr m_kept m_rea m_det m_isv m_iit m_len m_at m_err m_wro m_cmd m_to1 m_to2 m_now m_sav m_ahe m_bef m_hst m_noi m_own m_inp a1 e1) lk_RX5_114 rfl rfl hRMX5_isBusker hP hK hN 0 rfl rfl rfl hl.1 rfl (Nat.le_of_ble_eq_true rfl) ⟨Nat.le_of_ble_eq_true rfl, Nat.le_of_ble_eq_true rfl⟩ (dg ddX5_hatIn 4 rfl) ?_
  refine lv_if_ne (tgt := 14) hx hb (dg ddX5_hatIn 5 rfl) (by decide) (fun h3 => ?_) (fun h3 => ?_)
  · have hf := it_f h3 hf
    refine lv_iconst (v := 0) hx hb (dg ddX5_hatIn 8 rfl) (by decide) ?_
    exact K15  0 1 m_thr m_now m_ahe m_noi _ _ hP hD hS _ (lv_sub hl [0, 1, 2] rfl) hf
  · have hf := it_t h3 hf
    refine lv_iconst (v := 1) hx hb (dg ddX5_hatIn 6 rfl) (by decide) ?_
    refine lv_goto (tgt := 15) hx hb (dg ddX5_hatIn 7 rfl) (by decide) ?_
    exact K15  1 1 m_thr m_now m_ahe m_noi _ _ hP hD hS _ (lv_sub hl [0, 1, 2] rfl) hf
def f_X5_playing_c4  (m_now : Nat → Int32) : Nat → Int32 → Int32 → Option (Int32)
  | 0, _, _ => none
  | n + 1, x1, x2 => og (inb 2 112) (if (m_now (2 : Int32).toNatClampNeg) ≤ x2 then (some x1) else (ob (f_X5_of m_now x2 4) fun r4 => (if r4 = (-1) then (f_X5_playing_c4 m_now n (x1 + 0) (x2 + 1)) else (f_X5_playing_c4 m_now n (x1 + 1) (x2 + 1)))))
def f_X5_playing (m_now : Nat → Int32) : Option (Int32) := f_X5_playing_c4 m_now 4096 0 0
set_option maxHeartbeats 4000000 in
set_option maxRecDepth 100000 in
theorem c_X5_playing (l : Launch) (D : va_G) (cy : Nat → ClassId) (q : Nat → Nat) (m_thr : Int32) (m_kept : Int32) (m_rea : Int32) (m_det : Int32) (m_isv : Int32) (m_iit : Int32) (m_len : Int32) (m_at : Int32) (m_err : Int32) (m_wro : Int32) (m_cmd : Int32) (m_to1 : Int32) (m_to2 : Int32) (m_now : Nat → Int32) (m_sav : Nat → Int32) (m_ahe : Nat → Int32) (m_bef : Nat → Int32) (m_hst : Nat → Nat → Int32) (m_noi : Nat → UInt32) (m_own : Nat → UInt32) (m_inp : Nat → Int32) {res : Int32} (hf : f_X5_playing m_now = some res) : Met l yX5_playing (.code yX5_playing cX5_playing 3 (some .int) :: lw_all) { frames := 2, cells := 0, slots := 0, locals := 34 } (va_Pc [.ref (q 0)] (sR D cy (wX5 q cy m_thr m_kept m_rea m_det m_isv m_iit m_len m_at m_err m_wro m_cmd m_to1 m_to2 m_now m_sav m_ahe m_bef m_hst m_noi m_own m_inp))) (vp_Si (fun r => r = res)) 0 0 (fun _ => False) := by
  refine mk_ro (Rc := RX5) (by decide +kernel) rfl (Nat.le_of_ble_eq_true rfl) ?_
  intro p e s m args below meth c ls CX hml hr hlk hK hN hP hl
  have hx := CX.1
  have hb := CX.2.1
  have hRMX5_of : (⟨1, 0, 0, 12⟩ : Room).frames + 1 ≤ (⟨2, 0, 0, 34⟩ : Room).frames ∧ 8 + (3 + 11) + (⟨1, 0, 0, 12⟩ : Room).locals ≤ (⟨2, 0, 0, 34⟩ : Room).locals := ⟨Nat.le_of_ble_eq_true rfl, Nat.le_of_ble_eq_true rfl⟩
  have hl0 := hl
  have K4 : ∀ (n : Nat), ∀ (x1 : Int32) (x2 : Int32) (ls : Array Slot) (hl : lv_has ls 3 [(0, .ref (q 0)), (1, .int x1), (2, .int x2)]) (hf : f_X5_playing_c4 m_now n x1 x2 = some res), W p l e ⟨2, 0, 0, 34⟩ s m args below meth c s.heap [] 0 0 (MQ below (vp_Si (fun r => r = res)) args s 0 0 (fun _ => False)) (F0 m 4 ls []) := by
    intro n
    induction n with
    | zero => intro x1 x2 ls hl hf; cases (show none = some res from hf)
    | succ n ih =>
    intro x1 x2 ls hl hf
    refine lv_iload_n hx hb (dg ddX5_playing 4 rfl) rfl (lv_at hl 2 rfl) ?_
    refine lv_aload_n hx hb (dg ddX5_playing 5 rfl) rfl (lv_at hl 0 rfl) ?_
    refine gf_RX5_9 CX hK hP 0 rfl rfl (dg ddX5_playing 6 rfl) ?_
    refine lv_iconst (v := 2) hx hb (dg ddX5_playing 7 rfl) (by decide) ?_
    obtain ⟨h1, hf⟩ := og_some hf
    refine va_iald hx hb hK hP 1 0 rfl rfl (inb_in h1) (dg ddX5_playing 8 rfl) ?_
    refine lv_icmp_ge (tgt := 38) hx hb (dg ddX5_playing 9 rfl) (by decide) (fun h2 => ?_) (fun h2 => ?_)
    · have hf := it_t h2 hf
      refine lv_iload_n hx hb (dg ddX5_playing 24 rfl) rfl (lv_at hl 1 rfl) ?_
      exact e_ri CX hr hlk (Option.some.inj hf) (dg ddX5_playing 25 rfl)
    · have hf := it_f h2 hf
      refine lv_iload_n hx hb (dg ddX5_playing 10 rfl) rfl (lv_at hl 1 rfl) ?_
      refine lv_aload_n hx hb (dg ddX5_playing 11 rfl) rfl (lv_at hl 0 rfl) ?_
      refine lv_iload_n hx hb (dg ddX5_playing 12 rfl) rfl (lv_at hl 2 rfl) ?_
      refine lv_iconst (v := 4) hx hb (dg ddX5_playing 13 rfl) (by decide) ?_
      obtain ⟨r4, e3, hf⟩ := ob_some hf
      refine cro_vi CX hml (As := [.int x2, .int 4]) (rest := [.int x1]) (c_X5_of l D cy q m_thr m_kept m_rea m_det m_isv m_iit m_len m_at m_err m_wro m_cmd m_to1 m_to2 m_now m_sav m_ahe m_bef m_hst m_noi m_own m_inp x2 4 e3) lk_RX5_100 rfl rfl hRMX5_of hP hK hN 0 rfl rfl rfl hl.1 rfl (Nat.le_of_ble_eq_true rfl) ⟨Nat.le_of_ble_eq_true rfl, Nat.le_of_ble_eq_true rfl⟩ (dg ddX5_playing 14 rfl) ?_
      refine lv_iconst (v := (-1)) hx hb (dg ddX5_playing 15 rfl) (by decide) ?_
      refine lv_icmp_ne (tgt := 29) hx hb (dg ddX5_playing 16 rfl) (by decide) (fun h5 => ?_) (fun h5 => ?_)
      · have hf := it_f h5 hf
        refine lv_iconst (v := 1) hx hb (dg ddX5_playing 19 rfl) (by decide) ?_
        refine lv_iadd hx hb (dg ddX5_playing 20 rfl) ?_
        refine lv_istore_n (lv' := [(1, .int (x1 + 1)), (0, .ref (q 0)), (2, .int x2)]) hx hb (dg ddX5_playing 21 rfl) rfl hl (by decide) rfl (fun ls hl => ?_)
        refine lv_iinc (v := x2 + 1) (lv' := [(2, .int (x2 + 1)), (1, .int (x1 + 1)), (0, .ref (q 0))]) hx hb (dg ddX5_playing 22 rfl) hl (k := 2) rfl (congrArg (HAdd.hAdd x2) (by decide)) (by decide) rfl (fun ls hl => ?_)
        refine lv_goto (tgt := 4) hx hb (dg ddX5_playing 23 rfl) (by decide) ?_
        exact ih (x1 + 1) (x2 + 1) _ (lv_sub hl [2, 1, 0] rfl) hf
      · have hf := it_t h5 hf
        refine lv_iconst (v := 0) hx hb (dg ddX5_playing 17 rfl) (by decide) ?_
        refine lv_goto (tgt := 30) hx hb (dg ddX5_playing 18 rfl) (by decide) ?_
        refine lv_iadd hx hb (dg ddX5_playing 20 rfl) ?_
        refine lv_istore_n (lv' := [(1, .int (x1 + 0)), (0, .ref (q 0)), (2, .int x2)]) hx hb (dg ddX5_playing 21 rfl) rfl hl (by decide) rfl (fun ls hl => ?_)
        refine lv_iinc (v := x2 + 1) (lv' := [(2, .int (x2 + 1)), (1, .int (x1 + 0)), (0, .ref (q 0))]) hx hb (dg ddX5_playing 22 rfl) hl (k := 2) rfl (congrArg (HAdd.hAdd x2) (by decide)) (by decide) rfl (fun ls hl => ?_)
        refine lv_goto (tgt := 4) hx hb (dg ddX5_playing 23 rfl) (by decide) ?_
        exact ih (x1 + 0) (x2 + 1) _ (lv_sub hl [2, 1, 0] rfl) hf
  refine lv_iconst (v := 0) hx hb (dg ddX5_playing 0 rfl) (by decide) ?_
  refine lv_istore_n (lv' := [(1, .int 0), (0, .ref (q 0))]) hx hb (dg ddX5_playing 1 rfl) rfl hl (by decide) rfl (fun ls hl => ?_)
  refine lv_iconst (v := 0) hx hb (dg ddX5_playing 2 rfl) (by decide) ?_
  refine lv_istore_n (lv' := [(2, .int 0), (1, .int 0), (0, .ref (q 0))]) hx hb (dg ddX5_playing 3 rfl) rfl hl (by decide) rfl (fun ls hl => ?_)
  exact K4 4096 0 0 _ (lv_sub hl [2, 1, 0] rfl) hf
def f_X5_playingIn_c38  (a1 : Int32) : Nat → Int32 → Int32 → (Nat → Int32) → (Nat → Int32) → (Nat → UInt32) → Option (Int32 × Int32 × (Nat → Int32) × (Nat → Int32) × (Nat → UInt32))
  | 0, _, _, _, _, _ => none
  | n + 1, x2, m_thr, m_now, m_ahe, m_noi => if a1 ≤ x2 then (ob (f_X5_playing m_now) fun r3 => (ob (f_X5_copyRow m_ahe m_now) fun r5 => (some (r3, m_thr, r5, m_ahe, m_noi)))) else (ob (f_X5_goHour m_now m_noi) fun r7 => (f_X5_playingIn_c38 a1 n (x2 + 1) m_thr r7.2.1 m_ahe r7.2.2))
def f_X5_playingIn_c17  (a1 : Int32) (t0 : Int32) (t1 : Int32) (m_thr : Int32) (m_now : Nat → Int32) (m_ahe : Nat → Int32) (m_noi : Nat → UInt32) : Option (Int32 × Int32 × (Nat → Int32) × (Nat → Int32) × (Nat → UInt32)) := ob (f_X5_fails m_thr t1 t0) fun r2 => (if r2.1 = 0 then (ob (f_X5_copyRow m_now m_ahe) fun r5 => (f_X5_playingIn_c38 a1 4096 0 r2.2 m_now r5 m_noi)) else (some (0, r2.2, m_now, m_ahe, m_noi)))
def f_X5_playingIn (m_thr : Int32) (m_now : Nat → Int32) (m_ahe : Nat → Int32) (m_noi : Nat → UInt32) (a1 : Int32) : Option (Int32 × Int32 × (Nat → Int32) × (Nat → Int32) × (Nat → UInt32)) := ob (f_X5_isBetween a1 0 60) fun r2 => (if r2 = 0 then (f_X5_playingIn_c17 a1 1 1 m_thr m_now m_ahe m_noi) else (f_X5_playingIn_c17 a1 0 1 m_thr m_now m_ahe m_noi))
set_option maxHeartbeats 4000000 in
set_option maxRecDepth 100000 in
theorem c_X5_playingIn (l : Launch) (D : va_G) (cy : Nat → ClassId) (q : Nat → Nat) (m_thr : Int32) (m_kept : Int32) (m_rea : Int32) (m_det : Int32) (m_isv : Int32) (m_iit : Int32) (m_len : Int32) (m_at : Int32) (m_err : Int32) (m_wro : Int32) (m_cmd : Int32) (m_to1 : Int32) (m_to2 : Int32) (m_now : Nat → Int32) (m_sav : Nat → Int32) (m_ahe : Nat → Int32) (m_bef : Nat → Int32) (m_hst : Nat → Nat → Int32) (m_noi : Nat → UInt32) (m_own : Nat → UInt32) (m_inp : Nat → Int32) (a1 : Int32) (sz : Nat) {res : Int32 × Int32 × (Nat → Int32) × (Nat → Int32) × (Nat → UInt32)} (hf : f_X5_playingIn m_thr m_now m_ahe m_noi a1 = some res) : Met l yX5_playingIn (.code yX5_playingIn cX5_playingIn 3 (some .int) :: lw_all) { frames := 7, cells := 0, slots := 0, locals := 143 } (va_Pc [.ref (q 0), .int a1] (sW D cy (wX5 q cy m_thr m_kept m_rea m_det m_isv m_iit m_len m_at m_err m_wro m_cmd m_to1 m_to2 m_now m_sav m_ahe m_bef m_hst m_noi m_own m_inp) sz)) (qI D (wX5 q cy res.2.1 m_kept m_rea m_det m_isv m_iit m_len m_at m_err m_wro m_cmd m_to1 m_to2 res.2.2.1 m_sav res.2.2.2.1 m_bef m_hst res.2.2.2.2 m_own m_inp) res.1 (va_A (wX5 q cy m_thr m_kept m_rea m_det m_isv m_iit m_len m_at m_err m_wro m_cmd m_to1 m_to2 m_now m_sav m_ahe m_bef m_hst m_noi m_own m_inp) sz)) 0 0 (va_A (wX5 q cy m_thr m_kept m_rea m_det m_isv m_iit m_len m_at m_err m_wro m_cmd m_to1 m_to2 m_now m_sav m_ahe m_bef m_hst m_noi m_own m_inp) sz) := by
  refine mk_rw (Qc := qI D (wX5 q cy res.2.1 m_kept m_rea m_det m_isv m_iit m_len m_at m_err m_wro m_cmd m_to1 m_to2 res.2.2.1 m_sav res.2.2.2.1 m_bef m_hst res.2.2.2.2 m_own m_inp) res.1) (Rc := RX5) (by decide +kernel) rfl (Nat.le_of_ble_eq_true rfl) ?_
  intro p e s m args below meth c ls A CX hml hr hlk hK hN hP hD hS hA hl
  have hx := CX.1
  have hb := CX.2.1
  have hRMX5_copyRow : (⟨1, 0, 0, 12⟩ : Room).frames + 1 ≤ (⟨7, 0, 0, 143⟩ : Room).frames ∧ 8 + (3 + 11) + (⟨1, 0, 0, 12⟩ : Room).locals ≤ (⟨7, 0, 0, 143⟩ : Room).locals := ⟨Nat.le_of_ble_eq_true rfl, Nat.le_of_ble_eq_true rfl⟩
  have hRMX5_fails : (⟨1, 0, 0, 12⟩ : Room).frames + 1 ≤ (⟨7, 0, 0, 143⟩ : Room).frames ∧ 8 + (3 + 11) + (⟨1, 0, 0, 12⟩ : Room).locals ≤ (⟨7, 0, 0, 143⟩ : Room).locals := ⟨Nat.le_of_ble_eq_true rfl, Nat.le_of_ble_eq_true rfl⟩
  have hRMX5_goHour : (⟨6, 0, 0, 120⟩ : Room).frames + 1 ≤ (⟨7, 0, 0, 143⟩ : Room).frames ∧ 8 + (4 + 11) + (⟨6, 0, 0, 120⟩ : Room).locals ≤ (⟨7, 0, 0, 143⟩ : Room).locals := ⟨Nat.le_of_ble_eq_true rfl, Nat.le_of_ble_eq_true rfl⟩
  have hRMX5_isBetween : (⟨1, 0, 0, 12⟩ : Room).frames + 1 ≤ (⟨7, 0, 0, 143⟩ : Room).frames ∧ 8 + (3 + 11) + (⟨1, 0, 0, 12⟩ : Room).locals ≤ (⟨7, 0, 0, 143⟩ : Room).locals := ⟨Nat.le_of_ble_eq_true rfl, Nat.le_of_ble_eq_true rfl⟩
  have hRMX5_playing : (⟨2, 0, 0, 34⟩ : Room).frames + 1 ≤ (⟨7, 0, 0, 143⟩ : Room).frames ∧ 8 + (3 + 11) + (⟨2, 0, 0, 34⟩ : Room).locals ≤ (⟨7, 0, 0, 143⟩ : Room).locals := ⟨Nat.le_of_ble_eq_true rfl, Nat.le_of_ble_eq_true rfl⟩
  have hl0 := hl
  have K38 : ∀ (n : Nat), ∀ (x2 : Int32) (m_thr : Int32) (m_now : Nat → Int32) (m_ahe : Nat → Int32) (m_noi : Nat → UInt32) (H : Heap) (locs : List Loc) (hP : va_P D vwCl (wX5 q cy m_thr m_kept m_rea m_det m_isv m_iit m_len m_at m_err m_wro m_cmd m_to1 m_to2 m_now m_sav m_ahe m_bef m_hst m_noi m_own m_inp) H) (hD : va_D A (wX5 q cy m_thr m_kept m_rea m_det m_isv m_iit m_len m_at m_err m_wro m_cmd m_to1 m_to2 m_now m_sav m_ahe m_bef m_hst m_noi m_own m_inp)) (hS : va_S A s.heap H locs) (ls : Array Slot) (hl : lv_has ls 3 [(0, .ref (q 0)), (1, .int a1), (2, .int x2)]) (hf : f_X5_playingIn_c38 a1 n x2 m_thr m_now m_ahe m_noi = some res), W p l e ⟨7, 0, 0, 143⟩ s m args below meth c H locs 0 0 (MQ below (qI D (wX5 q cy res.2.1 m_kept m_rea m_det m_isv m_iit m_len m_at m_err m_wro m_cmd m_to1 m_to2 res.2.2.1 m_sav res.2.2.2.1 m_bef m_hst res.2.2.2.2 m_own m_inp) res.1 A) args s 0 0 A) (F0 m 38 ls []) := by
    intro n
    induction n with
    | zero => intro x2 m_thr m_now m_ahe m_noi H locs hP hD hS ls hl hf; cases (show none = some res from hf)
    | succ n ih =>
    intro x2 m_thr m_now m_ahe m_noi H locs hP hD hS ls hl hf
    refine lv_iload_n hx hb (dg ddX5_playingIn 21 rfl) rfl (lv_at hl 2 rfl) ?_
    refine lv_iload_n hx hb (dg ddX5_playingIn 22 rfl) rfl (lv_at hl 1 rfl) ?_
    refine lv_icmp_ge (tgt := 54) hx hb (dg ddX5_playingIn 23 rfl) (by decide) (fun h1 => ?_) (fun h1 => ?_)
    · have hf := it_t h1 hf
      refine lv_aload_n hx hb (dg ddX5_playingIn 29 rfl) rfl (lv_at hl 0 rfl) ?_
      obtain ⟨r3, e2, hf⟩ := ob_some hf
      refine cro_vi CX hml (As := []) (rest := []) (c_X5_playing l D cy q m_thr m_kept m_rea m_det m_isv m_iit m_len m_at m_err m_wro m_cmd m_to1 m_to2 m_now m_sav m_ahe m_bef m_hst m_noi m_own m_inp e2) lk_RX5_186 rfl rfl hRMX5_playing hP hK hN 0 rfl rfl rfl hl.1 rfl (Nat.le_of_ble_eq_true rfl) ⟨Nat.le_of_ble_eq_true rfl, Nat.le_of_ble_eq_true rfl⟩ (dg ddX5_playingIn 30 rfl) ?_
      refine lv_istore_n (lv' := [(2, .int r3), (0, .ref (q 0)), (1, .int a1)]) hx hb (dg ddX5_playingIn 31 rfl) rfl hl (by decide) rfl (fun ls hl => ?_)
      refine lv_aload_n hx hb (dg ddX5_playingIn 32 rfl) rfl (lv_at hl 1 rfl) ?_
      refine gf_RX5_16 CX hK hP 0 rfl rfl (dg ddX5_playingIn 33 rfl) ?_
      refine lv_aload_n hx hb (dg ddX5_playingIn 34 rfl) rfl (lv_at hl 1 rfl) ?_
      refine gf_RX5_9 CX hK hP 0 rfl rfl (dg ddX5_playingIn 35 rfl) ?_
      obtain ⟨r5, e4, hf⟩ := ob_some hf
      refine crs2 CX hml (As := [.ref (q 3), .ref (q 1)]) (rest := []) (ws := (wX5 q cy m_thr m_kept m_rea m_det m_isv m_iit m_len m_at m_err m_wro m_cmd m_to1 m_to2 m_now m_sav m_ahe m_bef m_hst m_noi m_own m_inp)) (wsn := (wX5 q cy m_thr m_kept m_rea m_det m_isv m_iit m_len m_at m_err m_wro m_cmd m_to1 m_to2 r5 m_sav m_ahe m_bef m_hst m_noi m_own m_inp)) (k1 := 3) (k2 := 1) (c_X5_copyRow l D cy (q 3) (q 1) m_ahe m_now _ e4) lk_RX5_65 rfl rfl hRMX5_copyRow hP hD hS hA hK hN rfl rfl (by decide) rfl rfl hl.1 rfl (Nat.le_of_ble_eq_true rfl) ⟨Nat.le_of_ble_eq_true rfl, Nat.le_of_ble_eq_true rfl⟩ (dg ddX5_playingIn 36 rfl) (fun H locs hP hD hS => ?_)
      refine lv_iload_n hx hb (dg ddX5_playingIn 37 rfl) rfl (lv_at hl 0 rfl) ?_
      cases hf
      exact e_wi CX hr hlk rfl hP hD hS (dg ddX5_playingIn 38 rfl)
    · have hf := it_f h1 hf
      refine lv_aload_n hx hb (dg ddX5_playingIn 24 rfl) rfl (lv_at hl 0 rfl) ?_
      obtain ⟨r7, e6, hf⟩ := ob_some hf
      refine crw_vi CX hml (As := []) (rest := []) (c_X5_goHour l D cy q m_thr m_kept m_rea m_det m_isv m_iit m_len m_at m_err m_wro m_cmd m_to1 m_to2 m_now m_sav m_ahe m_bef m_hst m_noi m_own m_inp _ e6) lk_RX5_182 rfl rfl hRMX5_goHour hP hD hS hA hK hN 0 rfl rfl rfl hl.1 rfl (Nat.le_of_ble_eq_true rfl) ⟨Nat.le_of_ble_eq_true rfl, Nat.le_of_ble_eq_true rfl⟩ (dg ddX5_playingIn 25 rfl) (fun H locs hP hD hS => ?_)
      refine lv_pop hx hb (dg ddX5_playingIn 26 rfl) rfl ?_
      refine lv_iinc (v := x2 + 1) (lv' := [(2, .int (x2 + 1)), (0, .ref (q 0)), (1, .int a1)]) hx hb (dg ddX5_playingIn 27 rfl) hl (k := 2) rfl (congrArg (HAdd.hAdd x2) (by decide)) (by decide) rfl (fun ls hl => ?_)
      refine lv_goto (tgt := 38) hx hb (dg ddX5_playingIn 28 rfl) (by decide) ?_
      exact ih (x2 + 1) m_thr r7.2.1 m_ahe r7.2.2 _ _ hP hD hS _ (lv_sub hl [1, 2, 0] rfl) hf
  have K17 : ∀ (t0 : Int32) (t1 : Int32) (m_thr : Int32) (m_now : Nat → Int32) (m_ahe : Nat → Int32) (m_noi : Nat → UInt32) (H : Heap) (locs : List Loc) (hP : va_P D vwCl (wX5 q cy m_thr m_kept m_rea m_det m_isv m_iit m_len m_at m_err m_wro m_cmd m_to1 m_to2 m_now m_sav m_ahe m_bef m_hst m_noi m_own m_inp) H) (hD : va_D A (wX5 q cy m_thr m_kept m_rea m_det m_isv m_iit m_len m_at m_err m_wro m_cmd m_to1 m_to2 m_now m_sav m_ahe m_bef m_hst m_noi m_own m_inp)) (hS : va_S A s.heap H locs) (ls : Array Slot) (hl : lv_has ls 3 [(0, .ref (q 0)), (1, .int a1)]) (hf : f_X5_playingIn_c17 a1 t0 t1 m_thr m_now m_ahe m_noi = some res), W p l e ⟨7, 0, 0, 143⟩ s m args below meth c H locs 0 0 (MQ below (qI D (wX5 q cy res.2.1 m_kept m_rea m_det m_isv m_iit m_len m_at m_err m_wro m_cmd m_to1 m_to2 res.2.2.1 m_sav res.2.2.2.1 m_bef m_hst res.2.2.2.2 m_own m_inp) res.1 A) args s 0 0 A) (F0 m 17 ls [.int t0, .int t1, .ref (q 0)]) := by
    intro t0 t1 m_thr m_now m_ahe m_noi H locs hP hD hS ls hl hf
    obtain ⟨r2, e1, hf⟩ := ob_some hf
    refine crw_vi CX hml (As := [.int t1, .int t0]) (rest := []) (c_X5_fails l D cy q m_thr m_kept m_rea m_det m_isv m_iit m_len m_at m_err m_wro m_cmd m_to1 m_to2 m_now m_sav m_ahe m_bef m_hst m_noi m_own m_inp t1 t0 _ e1) lk_RX5_81 rfl rfl hRMX5_fails hP hD hS hA hK hN 0 rfl rfl rfl hl.1 rfl (Nat.le_of_ble_eq_true rfl) ⟨Nat.le_of_ble_eq_true rfl, Nat.le_of_ble_eq_true rfl⟩ (dg ddX5_playingIn 10 rfl) (fun H locs hP hD hS => ?_)
    refine lv_if_eq (tgt := 25) hx hb (dg ddX5_playingIn 11 rfl) (by decide) (fun h3 => ?_) (fun h3 => ?_)
    · have hf := it_t h3 hf
      refine lv_aload_n hx hb (dg ddX5_playingIn 14 rfl) rfl (lv_at hl 0 rfl) ?_
      refine gf_RX5_9 CX hK hP 0 rfl rfl (dg ddX5_playingIn 15 rfl) ?_
      refine lv_aload_n hx hb (dg ddX5_playingIn 16 rfl) rfl (lv_at hl 0 rfl) ?_
      refine gf_RX5_16 CX hK hP 0 rfl rfl (dg ddX5_playingIn 17 rfl) ?_
      obtain ⟨r5, e4, hf⟩ := ob_some hf
      refine crs2 CX hml (As := [.ref (q 1), .ref (q 3)]) (rest := []) (ws := (wX5 q cy r2.2 m_kept m_rea m_det m_isv m_iit m_len m_at m_err m_wro m_cmd m_to1 m_to2 m_now m_sav m_ahe m_bef m_hst m_noi m_own m_inp)) (wsn := (wX5 q cy r2.2 m_kept m_rea m_det m_isv m_iit m_len m_at m_err m_wro m_cmd m_to1 m_to2 m_now m_sav r5 m_bef m_hst m_noi m_own m_inp)) (k1 := 1) (k2 := 3) (c_X5_copyRow l D cy (q 1) (q 3) m_now m_ahe _ e4) lk_RX5_65 rfl rfl hRMX5_copyRow hP hD hS hA hK hN rfl rfl (by decide) rfl rfl hl.1 rfl (Nat.le_of_ble_eq_true rfl) ⟨Nat.le_of_ble_eq_true rfl, Nat.le_of_ble_eq_true rfl⟩ (dg ddX5_playingIn 18 rfl) (fun H locs hP hD hS => ?_)
      refine lv_iconst (v := 0) hx hb (dg ddX5_playingIn 19 rfl) (by decide) ?_
      refine lv_istore_n (lv' := [(2, .int 0), (0, .ref (q 0)), (1, .int a1)]) hx hb (dg ddX5_playingIn 20 rfl) rfl hl (by decide) rfl (fun ls hl => ?_)
      exact K38 4096 0 r2.2 m_now r5 m_noi _ _ hP hD hS _ (lv_sub hl [1, 2, 0] rfl) hf
    · have hf := it_f h3 hf
      refine lv_iconst (v := 0) hx hb (dg ddX5_playingIn 12 rfl) (by decide) ?_
      cases hf
      exact e_wi CX hr hlk rfl hP hD hS (dg ddX5_playingIn 13 rfl)
  refine lv_aload_n hx hb (dg ddX5_playingIn 0 rfl) rfl (lv_at hl 0 rfl) ?_
  refine lv_iconst (v := 1) hx hb (dg ddX5_playingIn 1 rfl) (by decide) ?_
  refine lv_iload_n hx hb (dg ddX5_playingIn 2 rfl) rfl (lv_at hl 1 rfl) ?_
  refine lv_iconst (v := 0) hx hb (dg ddX5_playingIn 3 rfl) (by decide) ?_
  refine lv_bipush (v := 60) hx hb (dg ddX5_playingIn 4 rfl) (by decide) ?_
  obtain ⟨r2, e1, hf⟩ := ob_some hf
  refine cro_si CX hml (As := [.int a1, .int 0, .int 60]) (rest := [.int 1, .ref (q 0)]) (c_X5_isBetween l D cy a1 0 60 e1) lk_RX5_77 rfl rfl hRMX5_isBetween vaP_nil hK hN rfl hl.1 rfl (Nat.le_of_ble_eq_true rfl) ⟨Nat.le_of_ble_eq_true rfl, Nat.le_of_ble_eq_true rfl⟩ (dg ddX5_playingIn 5 rfl) ?_
  refine lv_if_ne (tgt := 16) hx hb (dg ddX5_playingIn 6 rfl) (by decide) (fun h3 => ?_) (fun h3 => ?_)
  · have hf := it_f h3 hf
    refine lv_iconst (v := 0) hx hb (dg ddX5_playingIn 9 rfl) (by decide) ?_
    exact K17  0 1 m_thr m_now m_ahe m_noi _ _ hP hD hS _ (lv_sub hl [0, 1] rfl) hf
  · have hf := it_t h3 hf
    refine lv_iconst (v := 1) hx hb (dg ddX5_playingIn 7 rfl) (by decide) ?_
    refine lv_goto (tgt := 17) hx hb (dg ddX5_playingIn 8 rfl) (by decide) ?_
    exact K17  1 1 m_thr m_now m_ahe m_noi _ _ hP hD hS _ (lv_sub hl [0, 1] rfl) hf
def f_X5_sign_c42  (m_now : Nat → Int32) (a1 : Int32) (t0 : Int32) (m_thr : Int32) : Option (Int32 × Int32) := ob (f_X5_ofPitch m_now a1 3) fun r2 => (if r2 = (-1) then (if t0 = 0 then (some (46, m_thr)) else (some (33, m_thr))) else (ob (f_X5_of m_now r2 0) fun r5 => (if r5 = 0 then (if t0 = 0 then (some (102, m_thr)) else (some (70, m_thr))) else (if t0 = 0 then (some (97, m_thr)) else (some (65, m_thr))))))
def f_X5_sign_c14  (m_now : Nat → Int32) (a1 : Int32) (t0 : Int32) (t1 : Int32) (m_thr : Int32) : Option (Int32 × Int32) := ob (f_X5_fails m_thr t1 t0) fun r2 => (if r2.1 = 0 then (ob (f_X5_noiseAt m_now a1) fun r5 => (ob (f_X5_limitOf m_now a1) fun r7 => (if (Op.cmpValue (FP.fcmp r5 r7) .l) ≤ 0 then (f_X5_sign_c42 m_now a1 0 r2.2) else (f_X5_sign_c42 m_now a1 1 r2.2)))) else (some (32, r2.2)))
def f_X5_sign (m_thr : Int32) (m_now : Nat → Int32) (a1 : Int32) : Option (Int32 × Int32) := ob (f_X5_isPitch a1) fun r2 => (if r2 = 0 then (f_X5_sign_c14 m_now a1 1 1 m_thr) else (f_X5_sign_c14 m_now a1 0 1 m_thr))
set_option maxHeartbeats 4000000 in
set_option maxRecDepth 100000 in
theorem c_X5_sign (l : Launch) (D : va_G) (cy : Nat → ClassId) (q : Nat → Nat) (m_thr : Int32) (m_kept : Int32) (m_rea : Int32) (m_det : Int32) (m_isv : Int32) (m_iit : Int32) (m_len : Int32) (m_at : Int32) (m_err : Int32) (m_wro : Int32) (m_cmd : Int32) (m_to1 : Int32) (m_to2 : Int32) (m_now : Nat → Int32) (m_sav : Nat → Int32) (m_ahe : Nat → Int32) (m_bef : Nat → Int32) (m_hst : Nat → Nat → Int32) (m_noi : Nat → UInt32) (m_own : Nat → UInt32) (m_inp : Nat → Int32) (a1 : Int32) (sz : Nat) {res : Int32 × Int32} (hf : f_X5_sign m_thr m_now a1 = some res) : Met l yX5_sign (.code yX5_sign cX5_sign 4 (some .char) :: lw_all) { frames := 6, cells := 0, slots := 0, locals := 120 } (va_Pc [.ref (q 0), .int a1] (sW D cy (wX5 q cy m_thr m_kept m_rea m_det m_isv m_iit m_len m_at m_err m_wro m_cmd m_to1 m_to2 m_now m_sav m_ahe m_bef m_hst m_noi m_own m_inp) sz)) (qI D (wX5 q cy res.2 m_kept m_rea m_det m_isv m_iit m_len m_at m_err m_wro m_cmd m_to1 m_to2 m_now m_sav m_ahe m_bef m_hst m_noi m_own m_inp) res.1 (va_A (wX5 q cy m_thr m_kept m_rea m_det m_isv m_iit m_len m_at m_err m_wro m_cmd m_to1 m_to2 m_now m_sav m_ahe m_bef m_hst m_noi m_own m_inp) sz)) 0 0 (va_A (wX5 q cy m_thr m_kept m_rea m_det m_isv m_iit m_len m_at m_err m_wro m_cmd m_to1 m_to2 m_now m_sav m_ahe m_bef m_hst m_noi m_own m_inp) sz) := by
  refine mk_rw (Qc := qI D (wX5 q cy res.2 m_kept m_rea m_det m_isv m_iit m_len m_at m_err m_wro m_cmd m_to1 m_to2 m_now m_sav m_ahe m_bef m_hst m_noi m_own m_inp) res.1) (Rc := RX5) (by decide +kernel) rfl (Nat.le_of_ble_eq_true rfl) ?_
  intro p e s m args below meth c ls A CX hml hr hlk hK hN hP hD hS hA hl
  have hx := CX.1
  have hb := CX.2.1
  have hRMX5_fails : (⟨1, 0, 0, 12⟩ : Room).frames + 1 ≤ (⟨6, 0, 0, 120⟩ : Room).frames ∧ 8 + (3 + 11) + (⟨1, 0, 0, 12⟩ : Room).locals ≤ (⟨6, 0, 0, 120⟩ : Room).locals := ⟨Nat.le_of_ble_eq_true rfl, Nat.le_of_ble_eq_true rfl⟩
  have hRMX5_isPitch : (⟨2, 0, 0, 34⟩ : Room).frames + 1 ≤ (⟨6, 0, 0, 120⟩ : Room).frames ∧ 8 + (1 + 11) + (⟨2, 0, 0, 34⟩ : Room).locals ≤ (⟨6, 0, 0, 120⟩ : Room).locals := ⟨Nat.le_of_ble_eq_true rfl, Nat.le_of_ble_eq_true rfl⟩
  have hRMX5_limitOf : (⟨2, 0, 0, 40⟩ : Room).frames + 1 ≤ (⟨6, 0, 0, 120⟩ : Room).frames ∧ 8 + (2 + 11) + (⟨2, 0, 0, 40⟩ : Room).locals ≤ (⟨6, 0, 0, 120⟩ : Room).locals := ⟨Nat.le_of_ble_eq_true rfl, Nat.le_of_ble_eq_true rfl⟩
  have hRMX5_noiseAt : (⟨5, 0, 0, 99⟩ : Room).frames + 1 ≤ (⟨6, 0, 0, 120⟩ : Room).frames ∧ 8 + (2 + 11) + (⟨5, 0, 0, 99⟩ : Room).locals ≤ (⟨6, 0, 0, 120⟩ : Room).locals := ⟨Nat.le_of_ble_eq_true rfl, Nat.le_of_ble_eq_true rfl⟩
  have hRMX5_of : (⟨1, 0, 0, 12⟩ : Room).frames + 1 ≤ (⟨6, 0, 0, 120⟩ : Room).frames ∧ 8 + (3 + 11) + (⟨1, 0, 0, 12⟩ : Room).locals ≤ (⟨6, 0, 0, 120⟩ : Room).locals := ⟨Nat.le_of_ble_eq_true rfl, Nat.le_of_ble_eq_true rfl⟩
  have hRMX5_ofPitch : (⟨1, 0, 0, 12⟩ : Room).frames + 1 ≤ (⟨6, 0, 0, 120⟩ : Room).frames ∧ 8 + (3 + 11) + (⟨1, 0, 0, 12⟩ : Room).locals ≤ (⟨6, 0, 0, 120⟩ : Room).locals := ⟨Nat.le_of_ble_eq_true rfl, Nat.le_of_ble_eq_true rfl⟩
  have hl0 := hl
  have K42 : ∀ (t0 : Int32) (m_thr : Int32) (H : Heap) (locs : List Loc) (hP : va_P D vwCl (wX5 q cy m_thr m_kept m_rea m_det m_isv m_iit m_len m_at m_err m_wro m_cmd m_to1 m_to2 m_now m_sav m_ahe m_bef m_hst m_noi m_own m_inp) H) (hD : va_D A (wX5 q cy m_thr m_kept m_rea m_det m_isv m_iit m_len m_at m_err m_wro m_cmd m_to1 m_to2 m_now m_sav m_ahe m_bef m_hst m_noi m_own m_inp)) (hS : va_S A s.heap H locs) (ls : Array Slot) (hl : lv_has ls 4 [(0, .ref (q 0)), (1, .int a1)]) (hf : f_X5_sign_c42 m_now a1 t0 m_thr = some res), W p l e ⟨6, 0, 0, 120⟩ s m args below meth c H locs 0 0 (MQ below (qI D (wX5 q cy res.2 m_kept m_rea m_det m_isv m_iit m_len m_at m_err m_wro m_cmd m_to1 m_to2 m_now m_sav m_ahe m_bef m_hst m_noi m_own m_inp) res.1 A) args s 0 0 A) (F0 m 42 ls [.int t0]) := by
    intro t0 m_thr H locs hP hD hS ls hl hf
    refine lv_istore_n (lv' := [(2, .int t0), (0, .ref (q 0)), (1, .int a1)]) hx hb (dg ddX5_sign 23 rfl) rfl hl (by decide) rfl (fun ls hl => ?_)
    refine lv_aload_n hx hb (dg ddX5_sign 24 rfl) rfl (lv_at hl 1 rfl) ?_
    refine lv_iload_n hx hb (dg ddX5_sign 25 rfl) rfl (lv_at hl 2 rfl) ?_
    refine lv_iconst (v := 3) hx hb (dg ddX5_sign 26 rfl) (by decide) ?_
    obtain ⟨r2, e1, hf⟩ := ob_some hf
    refine cro_vi CX hml (As := [.int a1, .int 3]) (rest := []) (c_X5_ofPitch l D cy q m_thr m_kept m_rea m_det m_isv m_iit m_len m_at m_err m_wro m_cmd m_to1 m_to2 m_now m_sav m_ahe m_bef m_hst m_noi m_own m_inp a1 3 e1) lk_RX5_88 rfl rfl hRMX5_ofPitch hP hK hN 0 rfl rfl rfl hl.1 rfl (Nat.le_of_ble_eq_true rfl) ⟨Nat.le_of_ble_eq_true rfl, Nat.le_of_ble_eq_true rfl⟩ (dg ddX5_sign 27 rfl) ?_
    refine lv_istore_n (lv' := [(3, .int r2), (2, .int t0), (0, .ref (q 0)), (1, .int a1)]) hx hb (dg ddX5_sign 28 rfl) rfl hl (by decide) rfl (fun ls hl => ?_)
    refine lv_iload_n hx hb (dg ddX5_sign 29 rfl) rfl (lv_at hl 0 rfl) ?_
    refine lv_iconst (v := (-1)) hx hb (dg ddX5_sign 30 rfl) (by decide) ?_
    refine lv_icmp_ne (tgt := 67) hx hb (dg ddX5_sign 31 rfl) (by decide) (fun h3 => ?_) (fun h3 => ?_)
    · have hf := it_f h3 hf
      refine lv_aload_n hx hb (dg ddX5_sign 38 rfl) rfl (lv_at hl 2 rfl) ?_
      refine lv_iload_n hx hb (dg ddX5_sign 39 rfl) rfl (lv_at hl 0 rfl) ?_
      refine lv_iconst (v := 0) hx hb (dg ddX5_sign 40 rfl) (by decide) ?_
      obtain ⟨r5, e4, hf⟩ := ob_some hf
      refine cro_vi CX hml (As := [.int r2, .int 0]) (rest := []) (c_X5_of l D cy q m_thr m_kept m_rea m_det m_isv m_iit m_len m_at m_err m_wro m_cmd m_to1 m_to2 m_now m_sav m_ahe m_bef m_hst m_noi m_own m_inp r2 0 e4) lk_RX5_100 rfl rfl hRMX5_of hP hK hN 0 rfl rfl rfl hl.1 rfl (Nat.le_of_ble_eq_true rfl) ⟨Nat.le_of_ble_eq_true rfl, Nat.le_of_ble_eq_true rfl⟩ (dg ddX5_sign 41 rfl) ?_
      refine lv_if_ne (tgt := 90) hx hb (dg ddX5_sign 42 rfl) (by decide) (fun h6 => ?_) (fun h6 => ?_)
      · have hf := it_f h6 hf
        refine lv_iload_n hx hb (dg ddX5_sign 49 rfl) rfl (lv_at hl 1 rfl) ?_
        refine lv_if_eq (tgt := 99) hx hb (dg ddX5_sign 50 rfl) (by decide) (fun h7 => ?_) (fun h7 => ?_)
        · have hf := it_t h7 hf
          refine lv_bipush (v := 97) hx hb (dg ddX5_sign 53 rfl) (by decide) ?_
          cases hf
          exact e_wz CX hr hlk (by decide) rfl hP hD hS (dg ddX5_sign 54 rfl)
        · have hf := it_f h7 hf
          refine lv_bipush (v := 65) hx hb (dg ddX5_sign 51 rfl) (by decide) ?_
          refine lv_goto (tgt := 101) hx hb (dg ddX5_sign 52 rfl) (by decide) ?_
          cases hf
          exact e_wz CX hr hlk (by decide) rfl hP hD hS (dg ddX5_sign 54 rfl)
      · have hf := it_t h6 hf
        refine lv_iload_n hx hb (dg ddX5_sign 43 rfl) rfl (lv_at hl 1 rfl) ?_
        refine lv_if_eq (tgt := 85) hx hb (dg ddX5_sign 44 rfl) (by decide) (fun h8 => ?_) (fun h8 => ?_)
        · have hf := it_t h8 hf
          refine lv_bipush (v := 102) hx hb (dg ddX5_sign 47 rfl) (by decide) ?_
          refine lv_goto (tgt := 101) hx hb (dg ddX5_sign 48 rfl) (by decide) ?_
          cases hf
          exact e_wz CX hr hlk (by decide) rfl hP hD hS (dg ddX5_sign 54 rfl)
        · have hf := it_f h8 hf
          refine lv_bipush (v := 70) hx hb (dg ddX5_sign 45 rfl) (by decide) ?_
          refine lv_goto (tgt := 101) hx hb (dg ddX5_sign 46 rfl) (by decide) ?_
          cases hf
          exact e_wz CX hr hlk (by decide) rfl hP hD hS (dg ddX5_sign 54 rfl)
    · have hf := it_t h3 hf
      refine lv_iload_n hx hb (dg ddX5_sign 32 rfl) rfl (lv_at hl 1 rfl) ?_
      refine lv_if_eq (tgt := 64) hx hb (dg ddX5_sign 33 rfl) (by decide) (fun h9 => ?_) (fun h9 => ?_)
      · have hf := it_t h9 hf
        refine lv_bipush (v := 46) hx hb (dg ddX5_sign 36 rfl) (by decide) ?_
        cases hf
        exact e_wz CX hr hlk (by decide) rfl hP hD hS (dg ddX5_sign 37 rfl)
      · have hf := it_f h9 hf
        refine lv_bipush (v := 33) hx hb (dg ddX5_sign 34 rfl) (by decide) ?_
        refine lv_goto (tgt := 66) hx hb (dg ddX5_sign 35 rfl) (by decide) ?_
        cases hf
        exact e_wz CX hr hlk (by decide) rfl hP hD hS (dg ddX5_sign 37 rfl)
  have K14 : ∀ (t0 : Int32) (t1 : Int32) (m_thr : Int32) (H : Heap) (locs : List Loc) (hP : va_P D vwCl (wX5 q cy m_thr m_kept m_rea m_det m_isv m_iit m_len m_at m_err m_wro m_cmd m_to1 m_to2 m_now m_sav m_ahe m_bef m_hst m_noi m_own m_inp) H) (hD : va_D A (wX5 q cy m_thr m_kept m_rea m_det m_isv m_iit m_len m_at m_err m_wro m_cmd m_to1 m_to2 m_now m_sav m_ahe m_bef m_hst m_noi m_own m_inp)) (hS : va_S A s.heap H locs) (ls : Array Slot) (hl : lv_has ls 4 [(0, .ref (q 0)), (1, .int a1)]) (hf : f_X5_sign_c14 m_now a1 t0 t1 m_thr = some res), W p l e ⟨6, 0, 0, 120⟩ s m args below meth c H locs 0 0 (MQ below (qI D (wX5 q cy res.2 m_kept m_rea m_det m_isv m_iit m_len m_at m_err m_wro m_cmd m_to1 m_to2 m_now m_sav m_ahe m_bef m_hst m_noi m_own m_inp) res.1 A) args s 0 0 A) (F0 m 14 ls [.int t0, .int t1, .ref (q 0)]) := by
    intro t0 t1 m_thr H locs hP hD hS ls hl hf
    obtain ⟨r2, e1, hf⟩ := ob_some hf
    refine crw_vi CX hml (As := [.int t1, .int t0]) (rest := []) (c_X5_fails l D cy q m_thr m_kept m_rea m_det m_isv m_iit m_len m_at m_err m_wro m_cmd m_to1 m_to2 m_now m_sav m_ahe m_bef m_hst m_noi m_own m_inp t1 t0 _ e1) lk_RX5_81 rfl rfl hRMX5_fails hP hD hS hA hK hN 0 rfl rfl rfl hl.1 rfl (Nat.le_of_ble_eq_true rfl) ⟨Nat.le_of_ble_eq_true rfl, Nat.le_of_ble_eq_true rfl⟩ (dg ddX5_sign 8 rfl) (fun H locs hP hD hS => ?_)
    refine lv_if_eq (tgt := 23) hx hb (dg ddX5_sign 9 rfl) (by decide) (fun h3 => ?_) (fun h3 => ?_)
    · have hf := it_t h3 hf
      refine lv_aload_n hx hb (dg ddX5_sign 12 rfl) rfl (lv_at hl 0 rfl) ?_
      refine lv_iload_n hx hb (dg ddX5_sign 13 rfl) rfl (lv_at hl 1 rfl) ?_
      obtain ⟨r5, e4, hf⟩ := ob_some hf
      refine cro_vf CX hml (As := [.int a1]) (rest := []) (c_X5_noiseAt l D cy q r2.2 m_kept m_rea m_det m_isv m_iit m_len m_at m_err m_wro m_cmd m_to1 m_to2 m_now m_sav m_ahe m_bef m_hst m_noi m_own m_inp a1 e4) lk_RX5_156 rfl rfl hRMX5_noiseAt hP hK hN 0 rfl rfl rfl hl.1 rfl (Nat.le_of_ble_eq_true rfl) ⟨Nat.le_of_ble_eq_true rfl, Nat.le_of_ble_eq_true rfl⟩ (dg ddX5_sign 14 rfl) ?_
      refine lv_aload_n hx hb (dg ddX5_sign 15 rfl) rfl (lv_at hl 0 rfl) ?_
      refine lv_iload_n hx hb (dg ddX5_sign 16 rfl) rfl (lv_at hl 1 rfl) ?_
      obtain ⟨r7, e6, hf⟩ := ob_some hf
      refine cro_vf CX hml (As := [.int a1]) (rest := [.float r5]) (c_X5_limitOf l D cy q r2.2 m_kept m_rea m_det m_isv m_iit m_len m_at m_err m_wro m_cmd m_to1 m_to2 m_now m_sav m_ahe m_bef m_hst m_noi m_own m_inp a1 e6) lk_RX5_159 rfl rfl hRMX5_limitOf hP hK hN 0 rfl rfl rfl hl.1 rfl (Nat.le_of_ble_eq_true rfl) ⟨Nat.le_of_ble_eq_true rfl, Nat.le_of_ble_eq_true rfl⟩ (dg ddX5_sign 17 rfl) ?_
      refine lv_fcmp hx hb (dg ddX5_sign 18 rfl) ?_
      refine lv_if_le (tgt := 41) hx hb (dg ddX5_sign 19 rfl) (by decide) (fun h8 => ?_) (fun h8 => ?_)
      · have hf := it_t h8 hf
        refine lv_iconst (v := 0) hx hb (dg ddX5_sign 22 rfl) (by decide) ?_
        exact K42  0 r2.2 _ _ hP hD hS _ (lv_sub hl [0, 1] rfl) hf
      · have hf := it_f h8 hf
        refine lv_iconst (v := 1) hx hb (dg ddX5_sign 20 rfl) (by decide) ?_
        refine lv_goto (tgt := 42) hx hb (dg ddX5_sign 21 rfl) (by decide) ?_
        exact K42  1 r2.2 _ _ hP hD hS _ (lv_sub hl [0, 1] rfl) hf
    · have hf := it_f h3 hf
      refine lv_bipush (v := 32) hx hb (dg ddX5_sign 10 rfl) (by decide) ?_
      cases hf
      exact e_wz CX hr hlk (by decide) rfl hP hD hS (dg ddX5_sign 11 rfl)
  refine lv_aload_n hx hb (dg ddX5_sign 0 rfl) rfl (lv_at hl 0 rfl) ?_
  refine lv_iconst (v := 1) hx hb (dg ddX5_sign 1 rfl) (by decide) ?_
  refine lv_iload_n hx hb (dg ddX5_sign 2 rfl) rfl (lv_at hl 1 rfl) ?_
  obtain ⟨r2, e1, hf⟩ := ob_some hf
  refine cro_si CX hml (As := [.int a1]) (rest := [.int 1, .ref (q 0)]) (c_X5_isPitch l D cy a1 e1) lk_RX5_96 rfl rfl hRMX5_isPitch vaP_nil hK hN rfl hl.1 rfl (Nat.le_of_ble_eq_true rfl) ⟨Nat.le_of_ble_eq_true rfl, Nat.le_of_ble_eq_true rfl⟩ (dg ddX5_sign 3 rfl) ?_
  refine lv_if_ne (tgt := 13) hx hb (dg ddX5_sign 4 rfl) (by decide) (fun h3 => ?_) (fun h3 => ?_)
  · have hf := it_f h3 hf
    refine lv_iconst (v := 0) hx hb (dg ddX5_sign 7 rfl) (by decide) ?_
    exact K14  0 1 m_thr _ _ hP hD hS _ (lv_sub hl [0, 1] rfl) hf
  · have hf := it_t h3 hf
    refine lv_iconst (v := 1) hx hb (dg ddX5_sign 5 rfl) (by decide) ?_
    refine lv_goto (tgt := 14) hx hb (dg ddX5_sign 6 rfl) (by decide) ?_
    exact K14  1 1 m_thr _ _ hP hD hS _ (lv_sub hl [0, 1] rfl) hf
def f_X5_append_c16  (a1 : Int32) (t0 : Int32) (t1 : Int32) (m_thr : Int32) (m_len : Int32) (m_inp : Nat → Int32) : Option (Int32 × Int32 × Int32 × (Nat → Int32)) := ob (f_X5_fails m_thr t1 t0) fun r2 => (if r2.1 = 0 then (og (inb m_len 60) (some ((m_len + 1), r2.2, (m_len + 1), (upd m_inp m_len.toNatClampNeg (vp_nar .char a1))))) else (some (0, r2.2, m_len, m_inp)))
def f_X5_append (m_thr : Int32) (m_len : Int32) (m_inp : Nat → Int32) (a1 : Int32) : Option (Int32 × Int32 × Int32 × (Nat → Int32)) := if m_len = 60 then (f_X5_append_c16 a1 1 1 m_thr m_len m_inp) else (f_X5_append_c16 a1 0 1 m_thr m_len m_inp)
set_option maxHeartbeats 4000000 in
set_option maxRecDepth 100000 in
theorem c_X5_append (l : Launch) (D : va_G) (cy : Nat → ClassId) (q : Nat → Nat) (m_thr : Int32) (m_kept : Int32) (m_rea : Int32) (m_det : Int32) (m_isv : Int32) (m_iit : Int32) (m_len : Int32) (m_at : Int32) (m_err : Int32) (m_wro : Int32) (m_cmd : Int32) (m_to1 : Int32) (m_to2 : Int32) (m_now : Nat → Int32) (m_sav : Nat → Int32) (m_ahe : Nat → Int32) (m_bef : Nat → Int32) (m_hst : Nat → Nat → Int32) (m_noi : Nat → UInt32) (m_own : Nat → UInt32) (m_inp : Nat → Int32) (a1 : Int32) (sz : Nat) {res : Int32 × Int32 × Int32 × (Nat → Int32)} (hf : f_X5_append m_thr m_len m_inp a1 = some res) : Met l yX5_append (.code yX5_append cX5_append 2 (some .int) :: lw_all) { frames := 2, cells := 0, slots := 0, locals := 34 } (va_Pc [.ref (q 0), .int a1] (sW D cy (wX5 q cy m_thr m_kept m_rea m_det m_isv m_iit m_len m_at m_err m_wro m_cmd m_to1 m_to2 m_now m_sav m_ahe m_bef m_hst m_noi m_own m_inp) sz)) (qI D (wX5 q cy res.2.1 m_kept m_rea m_det m_isv m_iit res.2.2.1 m_at m_err m_wro m_cmd m_to1 m_to2 m_now m_sav m_ahe m_bef m_hst m_noi m_own res.2.2.2) res.1 (va_A (wX5 q cy m_thr m_kept m_rea m_det m_isv m_iit m_len m_at m_err m_wro m_cmd m_to1 m_to2 m_now m_sav m_ahe m_bef m_hst m_noi m_own m_inp) sz)) 0 0 (va_A (wX5 q cy m_thr m_kept m_rea m_det m_isv m_iit m_len m_at m_err m_wro m_cmd m_to1 m_to2 m_now m_sav m_ahe m_bef m_hst m_noi m_own m_inp) sz) := by
  refine mk_rw (Qc := qI D (wX5 q cy res.2.1 m_kept m_rea m_det m_isv m_iit res.2.2.1 m_at m_err m_wro m_cmd m_to1 m_to2 m_now m_sav m_ahe m_bef m_hst m_noi m_own res.2.2.2) res.1) (Rc := RX5) (by decide +kernel) rfl (Nat.le_of_ble_eq_true rfl) ?_
  intro p e s m args below meth c ls A CX hml hr hlk hK hN hP hD hS hA hl
  have hx := CX.1
  have hb := CX.2.1
  have hRMX5_fails : (⟨1, 0, 0, 12⟩ : Room).frames + 1 ≤ (⟨2, 0, 0, 34⟩ : Room).frames ∧ 8 + (3 + 11) + (⟨1, 0, 0, 12⟩ : Room).locals ≤ (⟨2, 0, 0, 34⟩ : Room).locals := ⟨Nat.le_of_ble_eq_true rfl, Nat.le_of_ble_eq_true rfl⟩
  have hl0 := hl
  have K16 : ∀ (t0 : Int32) (t1 : Int32) (m_thr : Int32) (m_len : Int32) (m_inp : Nat → Int32) (H : Heap) (locs : List Loc) (hP : va_P D vwCl (wX5 q cy m_thr m_kept m_rea m_det m_isv m_iit m_len m_at m_err m_wro m_cmd m_to1 m_to2 m_now m_sav m_ahe m_bef m_hst m_noi m_own m_inp) H) (hD : va_D A (wX5 q cy m_thr m_kept m_rea m_det m_isv m_iit m_len m_at m_err m_wro m_cmd m_to1 m_to2 m_now m_sav m_ahe m_bef m_hst m_noi m_own m_inp)) (hS : va_S A s.heap H locs) (ls : Array Slot) (hl : lv_has ls 2 [(0, .ref (q 0)), (1, .int a1)]) (hf : f_X5_append_c16 a1 t0 t1 m_thr m_len m_inp = some res), W p l e ⟨2, 0, 0, 34⟩ s m args below meth c H locs 0 0 (MQ below (qI D (wX5 q cy res.2.1 m_kept m_rea m_det m_isv m_iit res.2.2.1 m_at m_err m_wro m_cmd m_to1 m_to2 m_now m_sav m_ahe m_bef m_hst m_noi m_own res.2.2.2) res.1 A) args s 0 0 A) (F0 m 16 ls [.int t0, .int t1, .ref (q 0)]) := by
    intro t0 t1 m_thr m_len m_inp H locs hP hD hS ls hl hf
    obtain ⟨r2, e1, hf⟩ := ob_some hf
    refine crw_vi CX hml (As := [.int t1, .int t0]) (rest := []) (c_X5_fails l D cy q m_thr m_kept m_rea m_det m_isv m_iit m_len m_at m_err m_wro m_cmd m_to1 m_to2 m_now m_sav m_ahe m_bef m_hst m_noi m_own m_inp t1 t0 _ e1) lk_RX5_81 rfl rfl hRMX5_fails hP hD hS hA hK hN 0 rfl rfl rfl hl.1 rfl (Nat.le_of_ble_eq_true rfl) ⟨Nat.le_of_ble_eq_true rfl, Nat.le_of_ble_eq_true rfl⟩ (dg ddX5_append 9 rfl) (fun H locs hP hD hS => ?_)
    refine lv_if_eq (tgt := 24) hx hb (dg ddX5_append 10 rfl) (by decide) (fun h3 => ?_) (fun h3 => ?_)
    · have hf := it_t h3 hf
      refine lv_aload_n hx hb (dg ddX5_append 13 rfl) rfl (lv_at hl 0 rfl) ?_
      refine gf_RX5_34 CX hK hP 0 rfl rfl (dg ddX5_append 14 rfl) ?_
      refine lv_aload_n hx hb (dg ddX5_append 15 rfl) rfl (lv_at hl 0 rfl) ?_
      refine gf_RX5_189 CX hK hP 0 rfl rfl (dg ddX5_append 16 rfl) ?_
      refine lv_iload_n hx hb (dg ddX5_append 17 rfl) rfl (lv_at hl 1 rfl) ?_
      obtain ⟨h4, hf⟩ := og_some hf
      refine va_cast hx hb hK hP hD hS 8 2 rfl rfl (inb_in h4) (dg ddX5_append 18 rfl) (fun H locs hP hD hS => ?_)
      have hP : va_P D vwCl (wX5 q cy r2.2 m_kept m_rea m_det m_isv m_iit m_len m_at m_err m_wro m_cmd m_to1 m_to2 m_now m_sav m_ahe m_bef m_hst m_noi m_own (upd m_inp m_len.toNatClampNeg (vp_nar .char a1))) H := hP
      have hD : va_D A (wX5 q cy r2.2 m_kept m_rea m_det m_isv m_iit m_len m_at m_err m_wro m_cmd m_to1 m_to2 m_now m_sav m_ahe m_bef m_hst m_noi m_own (upd m_inp m_len.toNatClampNeg (vp_nar .char a1))) := hD
      refine lv_aload_n hx hb (dg ddX5_append 19 rfl) rfl (lv_at hl 0 rfl) ?_
      refine lv_dup hx hb (dg ddX5_append 20 rfl) rfl ?_
      refine gf_RX5_189 CX hK hP 0 rfl rfl (dg ddX5_append 21 rfl) ?_
      refine lv_iconst (v := 1) hx hb (dg ddX5_append 22 rfl) (by decide) ?_
      refine lv_iadd hx hb (dg ddX5_append 23 rfl) ?_
      refine pf_RX5_189 CX hK hP hD hS 0 rfl (dg ddX5_append 24 rfl) (Nat.le_of_ble_eq_true rfl) (fun H locs hP hD hS => ?_)
      have hP : va_P D vwCl (wX5 q cy r2.2 m_kept m_rea m_det m_isv m_iit (m_len + 1) m_at m_err m_wro m_cmd m_to1 m_to2 m_now m_sav m_ahe m_bef m_hst m_noi m_own (upd m_inp m_len.toNatClampNeg (vp_nar .char a1))) H := hP
      have hD : va_D A (wX5 q cy r2.2 m_kept m_rea m_det m_isv m_iit (m_len + 1) m_at m_err m_wro m_cmd m_to1 m_to2 m_now m_sav m_ahe m_bef m_hst m_noi m_own (upd m_inp m_len.toNatClampNeg (vp_nar .char a1))) := hD
      refine lv_aload_n hx hb (dg ddX5_append 25 rfl) rfl (lv_at hl 0 rfl) ?_
      refine gf_RX5_189 CX hK hP 0 rfl rfl (dg ddX5_append 26 rfl) ?_
      cases hf
      exact e_wi CX hr hlk rfl hP hD hS (dg ddX5_append 27 rfl)
    · have hf := it_f h3 hf
      refine lv_iconst (v := 0) hx hb (dg ddX5_append 11 rfl) (by decide) ?_
      cases hf
      exact e_wi CX hr hlk rfl hP hD hS (dg ddX5_append 12 rfl)
  refine lv_aload_n hx hb (dg ddX5_append 0 rfl) rfl (lv_at hl 0 rfl) ?_
  refine lv_iconst (v := 1) hx hb (dg ddX5_append 1 rfl) (by decide) ?_
  refine lv_aload_n hx hb (dg ddX5_append 2 rfl) rfl (lv_at hl 0 rfl) ?_
  refine gf_RX5_189 CX hK hP 0 rfl rfl (dg ddX5_append 3 rfl) ?_
  refine lv_bipush (v := 60) hx hb (dg ddX5_append 4 rfl) (by decide) ?_
  refine lv_icmp_ne (tgt := 15) hx hb (dg ddX5_append 5 rfl) (by decide) (fun h1 => ?_) (fun h1 => ?_)
  · have hf := it_f h1 hf
    refine lv_iconst (v := 0) hx hb (dg ddX5_append 8 rfl) (by decide) ?_
    exact K16  0 1 m_thr m_len m_inp _ _ hP hD hS _ (lv_sub hl [0, 1] rfl) hf
  · have hf := it_t h1 hf
    refine lv_iconst (v := 1) hx hb (dg ddX5_append 6 rfl) (by decide) ?_
    refine lv_goto (tgt := 16) hx hb (dg ddX5_append 7 rfl) (by decide) ?_
    exact K16  1 1 m_thr m_len m_inp _ _ hP hD hS _ (lv_sub hl [0, 1] rfl) hf
def f_X5_sees (m_len : Int32) (m_at : Int32) (m_wro : Int32) (m_inp : Nat → Int32) (a1 : Int32) (a2 : Int32) : Option (Int32) := if m_wro = 0 then (if m_len ≤ m_at then (some 0) else (og (inb m_at 60) (ob (f_X5_isBetween (m_inp m_at.toNatClampNeg) a1 a2) fun r5 => (if r5 = 0 then (some 0) else (some 1))))) else (some 0)
set_option maxHeartbeats 4000000 in
set_option maxRecDepth 100000 in
theorem c_X5_sees (l : Launch) (D : va_G) (cy : Nat → ClassId) (q : Nat → Nat) (m_thr : Int32) (m_kept : Int32) (m_rea : Int32) (m_det : Int32) (m_isv : Int32) (m_iit : Int32) (m_len : Int32) (m_at : Int32) (m_err : Int32) (m_wro : Int32) (m_cmd : Int32) (m_to1 : Int32) (m_to2 : Int32) (m_now : Nat → Int32) (m_sav : Nat → Int32) (m_ahe : Nat → Int32) (m_bef : Nat → Int32) (m_hst : Nat → Nat → Int32) (m_noi : Nat → UInt32) (m_own : Nat → UInt32) (m_inp : Nat → Int32) (a1 : Int32) (a2 : Int32) {res : Int32} (hf : f_X5_sees m_len m_at m_wro m_inp a1 a2 = some res) : Met l yX5_sees (.code yX5_sees cX5_sees 3 (some .boolean) :: lw_all) { frames := 2, cells := 0, slots := 0, locals := 34 } (va_Pc [.ref (q 0), .int a1, .int a2] (sR D cy (wX5 q cy m_thr m_kept m_rea m_det m_isv m_iit m_len m_at m_err m_wro m_cmd m_to1 m_to2 m_now m_sav m_ahe m_bef m_hst m_noi m_own m_inp))) (vp_Si (fun r => r = res)) 0 0 (fun _ => False) := by
  refine mk_ro (Rc := RX5) (by decide +kernel) rfl (Nat.le_of_ble_eq_true rfl) ?_
  intro p e s m args below meth c ls CX hml hr hlk hK hN hP hl
  have hx := CX.1
  have hb := CX.2.1
  have hRMX5_isBetween : (⟨1, 0, 0, 12⟩ : Room).frames + 1 ≤ (⟨2, 0, 0, 34⟩ : Room).frames ∧ 8 + (3 + 11) + (⟨1, 0, 0, 12⟩ : Room).locals ≤ (⟨2, 0, 0, 34⟩ : Room).locals := ⟨Nat.le_of_ble_eq_true rfl, Nat.le_of_ble_eq_true rfl⟩
  refine lv_aload_n hx hb (dg ddX5_sees 0 rfl) rfl (lv_at hl 0 rfl) ?_
  refine gf_RX5_192 CX hK hP 0 rfl rfl (dg ddX5_sees 1 rfl) ?_
  refine lv_if_ne (tgt := 39) hx hb (dg ddX5_sees 2 rfl) (by decide) (fun h1 => ?_) (fun h1 => ?_)
  · have hf := it_f h1 hf
    refine lv_iconst (v := 0) hx hb (dg ddX5_sees 19 rfl) (by decide) ?_
    exact e_rz CX hr hlk (by decide) (Option.some.inj hf) (dg ddX5_sees 20 rfl)
  · have hf := it_t h1 hf
    refine lv_aload_n hx hb (dg ddX5_sees 3 rfl) rfl (lv_at hl 0 rfl) ?_
    refine gf_RX5_195 CX hK hP 0 rfl rfl (dg ddX5_sees 4 rfl) ?_
    refine lv_aload_n hx hb (dg ddX5_sees 5 rfl) rfl (lv_at hl 0 rfl) ?_
    refine gf_RX5_189 CX hK hP 0 rfl rfl (dg ddX5_sees 6 rfl) ?_
    refine lv_icmp_ge (tgt := 39) hx hb (dg ddX5_sees 7 rfl) (by decide) (fun h2 => ?_) (fun h2 => ?_)
    · have hf := it_t h2 hf
      refine lv_iconst (v := 0) hx hb (dg ddX5_sees 19 rfl) (by decide) ?_
      exact e_rz CX hr hlk (by decide) (Option.some.inj hf) (dg ddX5_sees 20 rfl)
    · have hf := it_f h2 hf
      refine lv_aload_n hx hb (dg ddX5_sees 8 rfl) rfl (lv_at hl 0 rfl) ?_
      refine gf_RX5_34 CX hK hP 0 rfl rfl (dg ddX5_sees 9 rfl) ?_
      refine lv_aload_n hx hb (dg ddX5_sees 10 rfl) rfl (lv_at hl 0 rfl) ?_
      refine gf_RX5_195 CX hK hP 0 rfl rfl (dg ddX5_sees 11 rfl) ?_
      obtain ⟨h3, hf⟩ := og_some hf
      refine va_cald hx hb hK hP 8 2 rfl rfl (inb_in h3) (dg ddX5_sees 12 rfl) ?_
      refine lv_iload_n hx hb (dg ddX5_sees 13 rfl) rfl (lv_at hl 1 rfl) ?_
      refine lv_iload_n hx hb (dg ddX5_sees 14 rfl) rfl (lv_at hl 2 rfl) ?_
      obtain ⟨r5, e4, hf⟩ := ob_some hf
      refine cro_si CX hml (As := [.int (m_inp m_at.toNatClampNeg), .int a1, .int a2]) (rest := []) (c_X5_isBetween l D cy (m_inp m_at.toNatClampNeg) a1 a2 e4) lk_RX5_77 rfl rfl hRMX5_isBetween vaP_nil hK hN rfl hl.1 rfl (Nat.le_of_ble_eq_true rfl) ⟨Nat.le_of_ble_eq_true rfl, Nat.le_of_ble_eq_true rfl⟩ (dg ddX5_sees 15 rfl) ?_
      refine lv_if_eq (tgt := 39) hx hb (dg ddX5_sees 16 rfl) (by decide) (fun h6 => ?_) (fun h6 => ?_)
      · have hf := it_t h6 hf
        refine lv_iconst (v := 0) hx hb (dg ddX5_sees 19 rfl) (by decide) ?_
        exact e_rz CX hr hlk (by decide) (Option.some.inj hf) (dg ddX5_sees 20 rfl)
      · have hf := it_f h6 hf
        refine lv_iconst (v := 1) hx hb (dg ddX5_sees 17 rfl) (by decide) ?_
        refine lv_goto (tgt := 40) hx hb (dg ddX5_sees 18 rfl) (by decide) ?_
        exact e_rz CX hr hlk (by decide) (Option.some.inj hf) (dg ddX5_sees 20 rfl)
def f_X5_must_c19  (m_len : Int32) (m_inp : Nat → Int32) (t0 : Int32) (t1 : Int32) (m_at : Int32) (m_wro : Int32) : Option (Int32 × Int32) := og (isZ (t1 ||| t0)) (if (t1 ||| t0) = 0 then (some ((m_at + 1), (t1 ||| t0))) else (some ((m_at + 0), (t1 ||| t0))))
def f_X5_must (m_len : Int32) (m_at : Int32) (m_wro : Int32) (m_inp : Nat → Int32) (a1 : Int32) : Option (Int32 × Int32) := ob (f_X5_sees m_len m_at m_wro m_inp a1 a1) fun r2 => (if r2 = 0 then (f_X5_must_c19 m_len m_inp 1 m_wro m_at m_wro) else (f_X5_must_c19 m_len m_inp 0 m_wro m_at m_wro))
set_option maxHeartbeats 4000000 in
set_option maxRecDepth 100000 in
theorem c_X5_must (l : Launch) (D : va_G) (cy : Nat → ClassId) (q : Nat → Nat) (m_thr : Int32) (m_kept : Int32) (m_rea : Int32) (m_det : Int32) (m_isv : Int32) (m_iit : Int32) (m_len : Int32) (m_at : Int32) (m_err : Int32) (m_wro : Int32) (m_cmd : Int32) (m_to1 : Int32) (m_to2 : Int32) (m_now : Nat → Int32) (m_sav : Nat → Int32) (m_ahe : Nat → Int32) (m_bef : Nat → Int32) (m_hst : Nat → Nat → Int32) (m_noi : Nat → UInt32) (m_own : Nat → UInt32) (m_inp : Nat → Int32) (a1 : Int32) (sz : Nat) {res : Int32 × Int32} (hf : f_X5_must m_len m_at m_wro m_inp a1 = some res) : Met l yX5_must (.code yX5_must cX5_must 2 none :: lw_all) { frames := 3, cells := 0, slots := 0, locals := 56 } (va_Pc [.ref (q 0), .int a1] (sW D cy (wX5 q cy m_thr m_kept m_rea m_det m_isv m_iit m_len m_at m_err m_wro m_cmd m_to1 m_to2 m_now m_sav m_ahe m_bef m_hst m_noi m_own m_inp) sz)) (qV D (wX5 q cy m_thr m_kept m_rea m_det m_isv m_iit m_len res.1 m_err res.2 m_cmd m_to1 m_to2 m_now m_sav m_ahe m_bef m_hst m_noi m_own m_inp) (va_A (wX5 q cy m_thr m_kept m_rea m_det m_isv m_iit m_len m_at m_err m_wro m_cmd m_to1 m_to2 m_now m_sav m_ahe m_bef m_hst m_noi m_own m_inp) sz)) 0 0 (va_A (wX5 q cy m_thr m_kept m_rea m_det m_isv m_iit m_len m_at m_err m_wro m_cmd m_to1 m_to2 m_now m_sav m_ahe m_bef m_hst m_noi m_own m_inp) sz) := by
  refine mk_rw (Qc := qV D (wX5 q cy m_thr m_kept m_rea m_det m_isv m_iit m_len res.1 m_err res.2 m_cmd m_to1 m_to2 m_now m_sav m_ahe m_bef m_hst m_noi m_own m_inp) ) (Rc := RX5) (by decide +kernel) rfl (Nat.le_of_ble_eq_true rfl) ?_
  intro p e s m args below meth c ls A CX hml hr hlk hK hN hP hD hS hA hl
  have hx := CX.1
  have hb := CX.2.1
  have hRMX5_sees : (⟨2, 0, 0, 34⟩ : Room).frames + 1 ≤ (⟨3, 0, 0, 56⟩ : Room).frames ∧ 8 + (3 + 11) + (⟨2, 0, 0, 34⟩ : Room).locals ≤ (⟨3, 0, 0, 56⟩ : Room).locals := ⟨Nat.le_of_ble_eq_true rfl, Nat.le_of_ble_eq_true rfl⟩
  have hl0 := hl
  have K19 : ∀ (t0 : Int32) (t1 : Int32) (m_at : Int32) (m_wro : Int32) (H : Heap) (locs : List Loc) (hP : va_P D vwCl (wX5 q cy m_thr m_kept m_rea m_det m_isv m_iit m_len m_at m_err m_wro m_cmd m_to1 m_to2 m_now m_sav m_ahe m_bef m_hst m_noi m_own m_inp) H) (hD : va_D A (wX5 q cy m_thr m_kept m_rea m_det m_isv m_iit m_len m_at m_err m_wro m_cmd m_to1 m_to2 m_now m_sav m_ahe m_bef m_hst m_noi m_own m_inp)) (hS : va_S A s.heap H locs) (ls : Array Slot) (hl : lv_has ls 2 [(0, .ref (q 0))]) (hf : f_X5_must_c19 m_len m_inp t0 t1 m_at m_wro = some res), W p l e ⟨3, 0, 0, 56⟩ s m args below meth c H locs 0 0 (MQ below (qV D (wX5 q cy m_thr m_kept m_rea m_det m_isv m_iit m_len res.1 m_err res.2 m_cmd m_to1 m_to2 m_now m_sav m_ahe m_bef m_hst m_noi m_own m_inp) A) args s 0 0 A) (F0 m 19 ls [.int t0, .int t1, .ref (q 0)]) := by
    intro t0 t1 m_at m_wro H locs hP hD hS ls hl hf
    refine lv_ior hx hb (dg ddX5_must 11 rfl) ?_
    obtain ⟨h1, hf⟩ := og_some hf
    refine pf_RX5_192 CX hK hP hD hS 0 rfl (isZ_n h1) (isZ_f h1) (dg ddX5_must 12 rfl) (Nat.le_of_ble_eq_true rfl) (fun H locs hP hD hS => ?_)
    have hP : va_P D vwCl (wX5 q cy m_thr m_kept m_rea m_det m_isv m_iit m_len m_at m_err (t1 ||| t0) m_cmd m_to1 m_to2 m_now m_sav m_ahe m_bef m_hst m_noi m_own m_inp) H := hP
    have hD : va_D A (wX5 q cy m_thr m_kept m_rea m_det m_isv m_iit m_len m_at m_err (t1 ||| t0) m_cmd m_to1 m_to2 m_now m_sav m_ahe m_bef m_hst m_noi m_own m_inp) := hD
    refine lv_aload_n hx hb (dg ddX5_must 13 rfl) rfl (lv_at hl 0 rfl) ?_
    refine lv_dup hx hb (dg ddX5_must 14 rfl) rfl ?_
    refine gf_RX5_195 CX hK hP 0 rfl rfl (dg ddX5_must 15 rfl) ?_
    refine lv_aload_n hx hb (dg ddX5_must 16 rfl) rfl (lv_at hl 0 rfl) ?_
    refine gf_RX5_192 CX hK hP 0 rfl rfl (dg ddX5_must 17 rfl) ?_
    refine lv_if_eq (tgt := 39) hx hb (dg ddX5_must 18 rfl) (by decide) (fun h2 => ?_) (fun h2 => ?_)
    · have hf := it_t h2 hf
      refine lv_iconst (v := 1) hx hb (dg ddX5_must 21 rfl) (by decide) ?_
      refine lv_iadd hx hb (dg ddX5_must 22 rfl) ?_
      refine pf_RX5_195 CX hK hP hD hS 0 rfl (dg ddX5_must 23 rfl) (Nat.le_of_ble_eq_true rfl) (fun H locs hP hD hS => ?_)
      have hP : va_P D vwCl (wX5 q cy m_thr m_kept m_rea m_det m_isv m_iit m_len (m_at + 1) m_err (t1 ||| t0) m_cmd m_to1 m_to2 m_now m_sav m_ahe m_bef m_hst m_noi m_own m_inp) H := hP
      have hD : va_D A (wX5 q cy m_thr m_kept m_rea m_det m_isv m_iit m_len (m_at + 1) m_err (t1 ||| t0) m_cmd m_to1 m_to2 m_now m_sav m_ahe m_bef m_hst m_noi m_own m_inp) := hD
      cases hf
      exact e_wv CX hr hlk hP hD hS (dg ddX5_must 24 rfl)
    · have hf := it_f h2 hf
      refine lv_iconst (v := 0) hx hb (dg ddX5_must 19 rfl) (by decide) ?_
      refine lv_goto (tgt := 40) hx hb (dg ddX5_must 20 rfl) (by decide) ?_
      refine lv_iadd hx hb (dg ddX5_must 22 rfl) ?_
      refine pf_RX5_195 CX hK hP hD hS 0 rfl (dg ddX5_must 23 rfl) (Nat.le_of_ble_eq_true rfl) (fun H locs hP hD hS => ?_)
      have hP : va_P D vwCl (wX5 q cy m_thr m_kept m_rea m_det m_isv m_iit m_len (m_at + 0) m_err (t1 ||| t0) m_cmd m_to1 m_to2 m_now m_sav m_ahe m_bef m_hst m_noi m_own m_inp) H := hP
      have hD : va_D A (wX5 q cy m_thr m_kept m_rea m_det m_isv m_iit m_len (m_at + 0) m_err (t1 ||| t0) m_cmd m_to1 m_to2 m_now m_sav m_ahe m_bef m_hst m_noi m_own m_inp) := hD
      cases hf
      exact e_wv CX hr hlk hP hD hS (dg ddX5_must 24 rfl)
  refine lv_aload_n hx hb (dg ddX5_must 0 rfl) rfl (lv_at hl 0 rfl) ?_
  refine lv_dup hx hb (dg ddX5_must 1 rfl) rfl ?_
  refine gf_RX5_192 CX hK hP 0 rfl rfl (dg ddX5_must 2 rfl) ?_
  refine lv_aload_n hx hb (dg ddX5_must 3 rfl) rfl (lv_at hl 0 rfl) ?_
  refine lv_iload_n hx hb (dg ddX5_must 4 rfl) rfl (lv_at hl 1 rfl) ?_
  refine lv_iload_n hx hb (dg ddX5_must 5 rfl) rfl (lv_at hl 1 rfl) ?_
  obtain ⟨r2, e1, hf⟩ := ob_some hf
  refine cro_vi CX hml (As := [.int a1, .int a1]) (rest := [.int m_wro, .ref (q 0)]) (c_X5_sees l D cy q m_thr m_kept m_rea m_det m_isv m_iit m_len m_at m_err m_wro m_cmd m_to1 m_to2 m_now m_sav m_ahe m_bef m_hst m_noi m_own m_inp a1 a1 e1) lk_RX5_198 rfl rfl hRMX5_sees hP hK hN 0 rfl rfl rfl hl.1 rfl (Nat.le_of_ble_eq_true rfl) ⟨Nat.le_of_ble_eq_true rfl, Nat.le_of_ble_eq_true rfl⟩ (dg ddX5_must 6 rfl) ?_
  refine lv_if_ne (tgt := 18) hx hb (dg ddX5_must 7 rfl) (by decide) (fun h3 => ?_) (fun h3 => ?_)
  · have hf := it_f h3 hf
    refine lv_iconst (v := 0) hx hb (dg ddX5_must 10 rfl) (by decide) ?_
    exact K19  0 m_wro m_at m_wro _ _ hP hD hS _ (lv_sub hl [0] rfl) hf
  · have hf := it_t h3 hf
    refine lv_iconst (v := 1) hx hb (dg ddX5_must 8 rfl) (by decide) ?_
    refine lv_goto (tgt := 19) hx hb (dg ddX5_must 9 rfl) (by decide) ?_
    exact K19  1 m_wro m_at m_wro _ _ hP hD hS _ (lv_sub hl [0] rfl) hf
def f_X5_readNumber_c29  (m_len : Int32) (m_inp : Nat → Int32) (a1 : Int32) : Nat → Int32 → Int32 → Int32 → Int32 → Option (Int32 × Int32 × Int32)
  | 0, _, _, _, _ => none
  | n + 1, x2, x3, m_at, m_wro => if a1 ≤ x3 then (some (x2, m_at, m_wro)) else (ob (f_X5_sees m_len m_at m_wro m_inp 48 57) fun r3 => (if r3 = 0 then (some (x2, m_at, m_wro)) else (og (inb m_at 60) (f_X5_readNumber_c29 m_len m_inp a1 n (((10 * x2) + (m_inp m_at.toNatClampNeg)) - 48) (x3 + 1) (m_at + 1) m_wro))))
def f_X5_readNumber (m_len : Int32) (m_at : Int32) (m_wro : Int32) (m_inp : Nat → Int32) (a1 : Int32) : Option (Int32 × Int32 × Int32) := ob (f_X5_sees m_len m_at m_wro m_inp 48 57) fun r2 => (if r2 = 0 then (og (isZ (m_wro ||| 1)) (f_X5_readNumber_c29 m_len m_inp a1 4096 0 0 m_at (m_wro ||| 1))) else (og (isZ (m_wro ||| 0)) (f_X5_readNumber_c29 m_len m_inp a1 4096 0 0 m_at (m_wro ||| 0))))
set_option maxHeartbeats 4000000 in
set_option maxRecDepth 100000 in
theorem c_X5_readNumber (l : Launch) (D : va_G) (cy : Nat → ClassId) (q : Nat → Nat) (m_thr : Int32) (m_kept : Int32) (m_rea : Int32) (m_det : Int32) (m_isv : Int32) (m_iit : Int32) (m_len : Int32) (m_at : Int32) (m_err : Int32) (m_wro : Int32) (m_cmd : Int32) (m_to1 : Int32) (m_to2 : Int32) (m_now : Nat → Int32) (m_sav : Nat → Int32) (m_ahe : Nat → Int32) (m_bef : Nat → Int32) (m_hst : Nat → Nat → Int32) (m_noi : Nat → UInt32) (m_own : Nat → UInt32) (m_inp : Nat → Int32) (a1 : Int32) (sz : Nat) {res : Int32 × Int32 × Int32} (hf : f_X5_readNumber m_len m_at m_wro m_inp a1 = some res) : Met l yX5_readNumber (.code yX5_readNumber cX5_readNumber 4 (some .int) :: lw_all) { frames := 3, cells := 0, slots := 0, locals := 56 } (va_Pc [.ref (q 0), .int a1] (sW D cy (wX5 q cy m_thr m_kept m_rea m_det m_isv m_iit m_len m_at m_err m_wro m_cmd m_to1 m_to2 m_now m_sav m_ahe m_bef m_hst m_noi m_own m_inp) sz)) (qI D (wX5 q cy m_thr m_kept m_rea m_det m_isv m_iit m_len res.2.1 m_err res.2.2 m_cmd m_to1 m_to2 m_now m_sav m_ahe m_bef m_hst m_noi m_own m_inp) res.1 (va_A (wX5 q cy m_thr m_kept m_rea m_det m_isv m_iit m_len m_at m_err m_wro m_cmd m_to1 m_to2 m_now m_sav m_ahe m_bef m_hst m_noi m_own m_inp) sz)) 0 0 (va_A (wX5 q cy m_thr m_kept m_rea m_det m_isv m_iit m_len m_at m_err m_wro m_cmd m_to1 m_to2 m_now m_sav m_ahe m_bef m_hst m_noi m_own m_inp) sz) := by
  refine mk_rw (Qc := qI D (wX5 q cy m_thr m_kept m_rea m_det m_isv m_iit m_len res.2.1 m_err res.2.2 m_cmd m_to1 m_to2 m_now m_sav m_ahe m_bef m_hst m_noi m_own m_inp) res.1) (Rc := RX5) (by decide +kernel) rfl (Nat.le_of_ble_eq_true rfl) ?_
  intro p e s m args below meth c ls A CX hml hr hlk hK hN hP hD hS hA hl
  have hx := CX.1
  have hb := CX.2.1
  have hRMX5_sees : (⟨2, 0, 0, 34⟩ : Room).frames + 1 ≤ (⟨3, 0, 0, 56⟩ : Room).frames ∧ 8 + (3 + 11) + (⟨2, 0, 0, 34⟩ : Room).locals ≤ (⟨3, 0, 0, 56⟩ : Room).locals := ⟨Nat.le_of_ble_eq_true rfl, Nat.le_of_ble_eq_true rfl⟩
  have hl0 := hl
  have K29 : ∀ (n : Nat), ∀ (x2 : Int32) (x3 : Int32) (m_at : Int32) (m_wro : Int32) (H : Heap) (locs : List Loc) (hP : va_P D vwCl (wX5 q cy m_thr m_kept m_rea m_det m_isv m_iit m_len m_at m_err m_wro m_cmd m_to1 m_to2 m_now m_sav m_ahe m_bef m_hst m_noi m_own m_inp) H) (hD : va_D A (wX5 q cy m_thr m_kept m_rea m_det m_isv m_iit m_len m_at m_err m_wro m_cmd m_to1 m_to2 m_now m_sav m_ahe m_bef m_hst m_noi m_own m_inp)) (hS : va_S A s.heap H locs) (ls : Array Slot) (hl : lv_has ls 4 [(0, .ref (q 0)), (1, .int a1), (2, .int x2), (3, .int x3)]) (hf : f_X5_readNumber_c29 m_len m_inp a1 n x2 x3 m_at m_wro = some res), W p l e ⟨3, 0, 0, 56⟩ s m args below meth c H locs 0 0 (MQ below (qI D (wX5 q cy m_thr m_kept m_rea m_det m_isv m_iit m_len res.2.1 m_err res.2.2 m_cmd m_to1 m_to2 m_now m_sav m_ahe m_bef m_hst m_noi m_own m_inp) res.1 A) args s 0 0 A) (F0 m 29 ls []) := by
    intro n
    induction n with
    | zero => intro x2 x3 m_at m_wro H locs hP hD hS ls hl hf; cases (show none = some res from hf)
    | succ n ih =>
    intro x2 x3 m_at m_wro H locs hP hD hS ls hl hf
    refine lv_iload_n hx hb (dg ddX5_readNumber 17 rfl) rfl (lv_at hl 3 rfl) ?_
    refine lv_iload_n hx hb (dg ddX5_readNumber 18 rfl) rfl (lv_at hl 1 rfl) ?_
    refine lv_icmp_ge (tgt := 79) hx hb (dg ddX5_readNumber 19 rfl) (by decide) (fun h1 => ?_) (fun h1 => ?_)
    · have hf := it_t h1 hf
      refine lv_iload_n hx hb (dg ddX5_readNumber 45 rfl) rfl (lv_at hl 2 rfl) ?_
      cases hf
      exact e_wi CX hr hlk rfl hP hD hS (dg ddX5_readNumber 46 rfl)
    · have hf := it_f h1 hf
      refine lv_aload_n hx hb (dg ddX5_readNumber 20 rfl) rfl (lv_at hl 0 rfl) ?_
      refine lv_bipush (v := 48) hx hb (dg ddX5_readNumber 21 rfl) (by decide) ?_
      refine lv_bipush (v := 57) hx hb (dg ddX5_readNumber 22 rfl) (by decide) ?_
      obtain ⟨r3, e2, hf⟩ := ob_some hf
      refine cro_vi CX hml (As := [.int 48, .int 57]) (rest := []) (c_X5_sees l D cy q m_thr m_kept m_rea m_det m_isv m_iit m_len m_at m_err m_wro m_cmd m_to1 m_to2 m_now m_sav m_ahe m_bef m_hst m_noi m_own m_inp 48 57 e2) lk_RX5_198 rfl rfl hRMX5_sees hP hK hN 0 rfl rfl rfl hl.1 rfl (Nat.le_of_ble_eq_true rfl) ⟨Nat.le_of_ble_eq_true rfl, Nat.le_of_ble_eq_true rfl⟩ (dg ddX5_readNumber 23 rfl) ?_
      refine lv_if_eq (tgt := 79) hx hb (dg ddX5_readNumber 24 rfl) (by decide) (fun h4 => ?_) (fun h4 => ?_)
      · have hf := it_t h4 hf
        refine lv_iload_n hx hb (dg ddX5_readNumber 45 rfl) rfl (lv_at hl 2 rfl) ?_
        cases hf
        exact e_wi CX hr hlk rfl hP hD hS (dg ddX5_readNumber 46 rfl)
      · have hf := it_f h4 hf
        refine lv_bipush (v := 10) hx hb (dg ddX5_readNumber 25 rfl) (by decide) ?_
        refine lv_iload_n hx hb (dg ddX5_readNumber 26 rfl) rfl (lv_at hl 2 rfl) ?_
        refine lv_imul hx hb (dg ddX5_readNumber 27 rfl) ?_
        refine lv_aload_n hx hb (dg ddX5_readNumber 28 rfl) rfl (lv_at hl 0 rfl) ?_
        refine gf_RX5_34 CX hK hP 0 rfl rfl (dg ddX5_readNumber 29 rfl) ?_
        refine lv_aload_n hx hb (dg ddX5_readNumber 30 rfl) rfl (lv_at hl 0 rfl) ?_
        refine gf_RX5_195 CX hK hP 0 rfl rfl (dg ddX5_readNumber 31 rfl) ?_
        obtain ⟨h5, hf⟩ := og_some hf
        refine va_cald hx hb hK hP 8 2 rfl rfl (inb_in h5) (dg ddX5_readNumber 32 rfl) ?_
        refine lv_iadd hx hb (dg ddX5_readNumber 33 rfl) ?_
        refine lv_bipush (v := 48) hx hb (dg ddX5_readNumber 34 rfl) (by decide) ?_
        refine lv_isub hx hb (dg ddX5_readNumber 35 rfl) ?_
        refine lv_istore_n (lv' := [(2, .int (((10 * x2) + (m_inp m_at.toNatClampNeg)) - 48)), (0, .ref (q 0)), (1, .int a1), (3, .int x3)]) hx hb (dg ddX5_readNumber 36 rfl) rfl hl (by decide) rfl (fun ls hl => ?_)
        refine lv_aload_n hx hb (dg ddX5_readNumber 37 rfl) rfl (lv_at hl 1 rfl) ?_
        refine lv_dup hx hb (dg ddX5_readNumber 38 rfl) rfl ?_
        refine gf_RX5_195 CX hK hP 0 rfl rfl (dg ddX5_readNumber 39 rfl) ?_
        refine lv_iconst (v := 1) hx hb (dg ddX5_readNumber 40 rfl) (by decide) ?_
        refine lv_iadd hx hb (dg ddX5_readNumber 41 rfl) ?_
        refine pf_RX5_195 CX hK hP hD hS 0 rfl (dg ddX5_readNumber 42 rfl) (Nat.le_of_ble_eq_true rfl) (fun H locs hP hD hS => ?_)
        have hP : va_P D vwCl (wX5 q cy m_thr m_kept m_rea m_det m_isv m_iit m_len (m_at + 1) m_err m_wro m_cmd m_to1 m_to2 m_now m_sav m_ahe m_bef m_hst m_noi m_own m_inp) H := hP
        have hD : va_D A (wX5 q cy m_thr m_kept m_rea m_det m_isv m_iit m_len (m_at + 1) m_err m_wro m_cmd m_to1 m_to2 m_now m_sav m_ahe m_bef m_hst m_noi m_own m_inp) := hD
        refine lv_iinc (v := x3 + 1) (lv' := [(3, .int (x3 + 1)), (2, .int (((10 * x2) + (m_inp m_at.toNatClampNeg)) - 48)), (0, .ref (q 0)), (1, .int a1)]) hx hb (dg ddX5_readNumber 43 rfl) hl (k := 3) rfl (congrArg (HAdd.hAdd x3) (by decide)) (by decide) rfl (fun ls hl => ?_)
        refine lv_goto (tgt := 29) hx hb (dg ddX5_readNumber 44 rfl) (by decide) ?_
        exact ih (((10 * x2) + (m_inp m_at.toNatClampNeg)) - 48) (x3 + 1) (m_at + 1) m_wro _ _ hP hD hS _ (lv_sub hl [2, 3, 1, 0] rfl) hf
  refine lv_aload_n hx hb (dg ddX5_readNumber 0 rfl) rfl (lv_at hl 0 rfl) ?_
  refine lv_dup hx hb (dg ddX5_readNumber 1 rfl) rfl ?_
  refine gf_RX5_192 CX hK hP 0 rfl rfl (dg ddX5_readNumber 2 rfl) ?_
  refine lv_aload_n hx hb (dg ddX5_readNumber 3 rfl) rfl (lv_at hl 0 rfl) ?_
  refine lv_bipush (v := 48) hx hb (dg ddX5_readNumber 4 rfl) (by decide) ?_
  refine lv_bipush (v := 57) hx hb (dg ddX5_readNumber 5 rfl) (by decide) ?_
  obtain ⟨r2, e1, hf⟩ := ob_some hf
  refine cro_vi CX hml (As := [.int 48, .int 57]) (rest := [.int m_wro, .ref (q 0)]) (c_X5_sees l D cy q m_thr m_kept m_rea m_det m_isv m_iit m_len m_at m_err m_wro m_cmd m_to1 m_to2 m_now m_sav m_ahe m_bef m_hst m_noi m_own m_inp 48 57 e1) lk_RX5_198 rfl rfl hRMX5_sees hP hK hN 0 rfl rfl rfl hl.1 rfl (Nat.le_of_ble_eq_true rfl) ⟨Nat.le_of_ble_eq_true rfl, Nat.le_of_ble_eq_true rfl⟩ (dg ddX5_readNumber 6 rfl) ?_
  refine lv_if_ne (tgt := 20) hx hb (dg ddX5_readNumber 7 rfl) (by decide) (fun h3 => ?_) (fun h3 => ?_)
  · have hf := it_f h3 hf
    refine lv_iconst (v := 0) hx hb (dg ddX5_readNumber 10 rfl) (by decide) ?_
    refine lv_ior hx hb (dg ddX5_readNumber 11 rfl) ?_
    obtain ⟨h4, hf⟩ := og_some hf
    refine pf_RX5_192 CX hK hP hD hS 0 rfl (isZ_n h4) (isZ_f h4) (dg ddX5_readNumber 12 rfl) (Nat.le_of_ble_eq_true rfl) (fun H locs hP hD hS => ?_)
    have hP : va_P D vwCl (wX5 q cy m_thr m_kept m_rea m_det m_isv m_iit m_len m_at m_err (m_wro ||| 0) m_cmd m_to1 m_to2 m_now m_sav m_ahe m_bef m_hst m_noi m_own m_inp) H := hP
    have hD : va_D A (wX5 q cy m_thr m_kept m_rea m_det m_isv m_iit m_len m_at m_err (m_wro ||| 0) m_cmd m_to1 m_to2 m_now m_sav m_ahe m_bef m_hst m_noi m_own m_inp) := hD
    refine lv_iconst (v := 0) hx hb (dg ddX5_readNumber 13 rfl) (by decide) ?_
    refine lv_istore_n (lv' := [(2, .int 0), (0, .ref (q 0)), (1, .int a1)]) hx hb (dg ddX5_readNumber 14 rfl) rfl hl (by decide) rfl (fun ls hl => ?_)
    refine lv_iconst (v := 0) hx hb (dg ddX5_readNumber 15 rfl) (by decide) ?_
    refine lv_istore_n (lv' := [(3, .int 0), (2, .int 0), (0, .ref (q 0)), (1, .int a1)]) hx hb (dg ddX5_readNumber 16 rfl) rfl hl (by decide) rfl (fun ls hl => ?_)
    exact K29 4096 0 0 m_at (m_wro ||| 0) _ _ hP hD hS _ (lv_sub hl [2, 3, 1, 0] rfl) hf
  · have hf := it_t h3 hf
    refine lv_iconst (v := 1) hx hb (dg ddX5_readNumber 8 rfl) (by decide) ?_
    refine lv_goto (tgt := 21) hx hb (dg ddX5_readNumber 9 rfl) (by decide) ?_
    refine lv_ior hx hb (dg ddX5_readNumber 11 rfl) ?_
    obtain ⟨h5, hf⟩ := og_some hf
    refine pf_RX5_192 CX hK hP hD hS 0 rfl (isZ_n h5) (isZ_f h5) (dg ddX5_readNumber 12 rfl) (Nat.le_of_ble_eq_true rfl) (fun H locs hP hD hS => ?_)
    have hP : va_P D vwCl (wX5 q cy m_thr m_kept m_rea m_det m_isv m_iit m_len m_at m_err (m_wro ||| 1) m_cmd m_to1 m_to2 m_now m_sav m_ahe m_bef m_hst m_noi m_own m_inp) H := hP
    have hD : va_D A (wX5 q cy m_thr m_kept m_rea m_det m_isv m_iit m_len m_at m_err (m_wro ||| 1) m_cmd m_to1 m_to2 m_now m_sav m_ahe m_bef m_hst m_noi m_own m_inp) := hD
    refine lv_iconst (v := 0) hx hb (dg ddX5_readNumber 13 rfl) (by decide) ?_
    refine lv_istore_n (lv' := [(2, .int 0), (0, .ref (q 0)), (1, .int a1)]) hx hb (dg ddX5_readNumber 14 rfl) rfl hl (by decide) rfl (fun ls hl => ?_)
    refine lv_iconst (v := 0) hx hb (dg ddX5_readNumber 15 rfl) (by decide) ?_
    refine lv_istore_n (lv' := [(3, .int 0), (2, .int 0), (0, .ref (q 0)), (1, .int a1)]) hx hb (dg ddX5_readNumber 16 rfl) rfl hl (by decide) rfl (fun ls hl => ?_)
    exact K29 4096 0 0 m_at (m_wro ||| 1) _ _ hP hD hS _ (lv_sub hl [2, 3, 1, 0] rfl) hf
def f_X5_isKind (a1 : Int32) : Option (Int32) := if a1 = 97 then (some 1) else (if a1 = 99 then (some 1) else (if a1 = 100 then (some 1) else (if a1 = 112 then (some 1) else (if a1 = 115 then (some 1) else (if a1 = 119 then (some 1) else (if a1 = 120 then (some 1) else (some 0)))))))
set_option maxHeartbeats 4000000 in
set_option maxRecDepth 100000 in
theorem c_X5_isKind (l : Launch) (D : va_G) (cy : Nat → ClassId) (a1 : Int32) {res : Int32} (hf : f_X5_isKind a1 = some res) : Met l yX5_isKind (.code yX5_isKind cX5_isKind 1 (some .boolean) :: lw_all) { frames := 1, cells := 0, slots := 0, locals := 12 } (va_Pc [.int a1] (sR D cy [])) (vp_Si (fun r => r = res)) 0 0 (fun _ => False) := by
  refine mk_ro (Rc := RX5) (by decide +kernel) rfl (Nat.le_of_ble_eq_true rfl) ?_
  intro p e s m args below meth c ls CX hml hr hlk hK hN hP hl
  have hx := CX.1
  have hb := CX.2.1
  refine lv_iload_n hx hb (dg ddX5_isKind 0 rfl) rfl (lv_at hl 0 rfl) ?_
  by_cases h1 : a1 = 97
  · have hf := it_t h1 hf
    refine lv_tableIn (off := 111) (tgt := 112) hx hb (dg ddX5_isKind 1 rfl) (by rw [h1]; decide) (by rw [h1]; decide) (by rw [h1]; rfl) (by decide) ?_
    refine lv_iconst (v := 1) hx hb (dg ddX5_isKind 2 rfl) (by decide) ?_
    exact e_rz CX hr hlk (by decide) (Option.some.inj hf) (dg ddX5_isKind 3 rfl)
  have hf := it_f h1 hf
  by_cases h2 : a1 = 99
  · have hf := it_t h2 hf
    refine lv_tableIn (off := 111) (tgt := 112) hx hb (dg ddX5_isKind 1 rfl) (by rw [h2]; decide) (by rw [h2]; decide) (by rw [h2]; rfl) (by decide) ?_
    refine lv_iconst (v := 1) hx hb (dg ddX5_isKind 2 rfl) (by decide) ?_
    exact e_rz CX hr hlk (by decide) (Option.some.inj hf) (dg ddX5_isKind 3 rfl)
  have hf := it_f h2 hf
  by_cases h3 : a1 = 100
  · have hf := it_t h3 hf
    refine lv_tableIn (off := 111) (tgt := 112) hx hb (dg ddX5_isKind 1 rfl) (by rw [h3]; decide) (by rw [h3]; decide) (by rw [h3]; rfl) (by decide) ?_
    refine lv_iconst (v := 1) hx hb (dg ddX5_isKind 2 rfl) (by decide) ?_
    exact e_rz CX hr hlk (by decide) (Option.some.inj hf) (dg ddX5_isKind 3 rfl)
  have hf := it_f h3 hf
  by_cases h4 : a1 = 112
  · have hf := it_t h4 hf
    refine lv_tableIn (off := 111) (tgt := 112) hx hb (dg ddX5_isKind 1 rfl) (by rw [h4]; decide) (by rw [h4]; decide) (by rw [h4]; rfl) (by decide) ?_
    refine lv_iconst (v := 1) hx hb (dg ddX5_isKind 2 rfl) (by decide) ?_
    exact e_rz CX hr hlk (by decide) (Option.some.inj hf) (dg ddX5_isKind 3 rfl)
  have hf := it_f h4 hf
  by_cases h5 : a1 = 115
  · have hf := it_t h5 hf
    refine lv_tableIn (off := 111) (tgt := 112) hx hb (dg ddX5_isKind 1 rfl) (by rw [h5]; decide) (by rw [h5]; decide) (by rw [h5]; rfl) (by decide) ?_
    refine lv_iconst (v := 1) hx hb (dg ddX5_isKind 2 rfl) (by decide) ?_
    exact e_rz CX hr hlk (by decide) (Option.some.inj hf) (dg ddX5_isKind 3 rfl)
  have hf := it_f h5 hf
  by_cases h6 : a1 = 119
  · have hf := it_t h6 hf
    refine lv_tableIn (off := 111) (tgt := 112) hx hb (dg ddX5_isKind 1 rfl) (by rw [h6]; decide) (by rw [h6]; decide) (by rw [h6]; rfl) (by decide) ?_
    refine lv_iconst (v := 1) hx hb (dg ddX5_isKind 2 rfl) (by decide) ?_
    exact e_rz CX hr hlk (by decide) (Option.some.inj hf) (dg ddX5_isKind 3 rfl)
  have hf := it_f h6 hf
  by_cases h7 : a1 = 120
  · have hf := it_t h7 hf
    refine lv_tableIn (off := 111) (tgt := 112) hx hb (dg ddX5_isKind 1 rfl) (by rw [h7]; decide) (by rw [h7]; decide) (by rw [h7]; rfl) (by decide) ?_
    refine lv_iconst (v := 1) hx hb (dg ddX5_isKind 2 rfl) (by decide) ?_
    exact e_rz CX hr hlk (by decide) (Option.some.inj hf) (dg ddX5_isKind 3 rfl)
  have hf := it_f h7 hf
  refine lv_tabD (off := 113) (tgt := 114) hx hb (dg ddX5_isKind 1 rfl) (by have g0 : (a1).toInt ≠ 97 := ne_ti h1 (by decide); have g1 : (a1).toInt ≠ 99 := ne_ti h2 (by decide); have g2 : (a1).toInt ≠ 100 := ne_ti h3 (by decide); have g3 : (a1).toInt ≠ 112 := ne_ti h4 (by decide); have g4 : (a1).toInt ≠ 115 := ne_ti h5 (by decide); have g5 : (a1).toInt ≠ 119 := ne_ti h6 (by decide); have g6 : (a1).toInt ≠ 120 := ne_ti h7 (by decide); rcases (show ((a1).toInt < 97 ∨ 120 < (a1).toInt) ∨ (a1).toInt = 98 ∨ (a1).toInt = 101 ∨ (a1).toInt = 102 ∨ (a1).toInt = 103 ∨ (a1).toInt = 104 ∨ (a1).toInt = 105 ∨ (a1).toInt = 106 ∨ (a1).toInt = 107 ∨ (a1).toInt = 108 ∨ (a1).toInt = 109 ∨ (a1).toInt = 110 ∨ (a1).toInt = 111 ∨ (a1).toInt = 113 ∨ (a1).toInt = 114 ∨ (a1).toInt = 116 ∨ (a1).toInt = 117 ∨ (a1).toInt = 118 by omega) with h | h | h | h | h | h | h | h | h | h | h | h | h | h | h | h | h | h <;> first | exact Or.inl ⟨h, rfl⟩ | exact Or.inr (by rw [h]; decide)) (by decide) ?_
  refine lv_iconst (v := 0) hx hb (dg ddX5_isKind 4 rfl) (by decide) ?_
  exact e_rz CX hr hlk (by decide) (Option.some.inj hf) (dg ddX5_isKind 5 rfl)
def f_X5_readOrder_c96  (m_len : Int32) (m_inp : Nat → Int32) (t0 : Int32) (m_at : Int32) (m_wro : Int32) (m_cmd : Int32) (m_to1 : Int32) (m_to2 : Int32) : Option (Int32 × Int32 × Int32 × Int32 × Int32) := ob (f_X5_readNumber m_len m_at m_wro m_inp t0) fun r2 => (if m_cmd = 100 then (ob (f_X5_must m_len r2.2.1 r2.2.2 m_inp 35) fun r5 => (ob (f_X5_readNumber m_len r5.1 r5.2 m_inp 2) fun r7 => (some (r7.2.1, r7.2.2, m_cmd, r2.1, r7.1)))) else (some (r2.2.1, r2.2.2, m_cmd, r2.1, m_to2)))
def f_X5_readOrder_c91  (m_len : Int32) (m_inp : Nat → Int32) (m_at : Int32) (m_wro : Int32) (m_cmd : Int32) (m_to1 : Int32) (m_to2 : Int32) : Option (Int32 × Int32 × Int32 × Int32 × Int32) := f_X5_readOrder_c96 m_len m_inp 2 m_at m_wro m_cmd m_to1 m_to2
def f_X5_readOrder_c36  (m_len : Int32) (m_inp : Nat → Int32) (t0 : Int32) (t1 : Int32) (m_at : Int32) (m_wro : Int32) (m_cmd : Int32) (m_to1 : Int32) (m_to2 : Int32) : Option (Int32 × Int32 × Int32 × Int32 × Int32) := og (isZ (t1 ||| t0)) (if (t1 ||| t0) = 0 then (og (inb m_at 60) (og (isC (m_inp m_at.toNatClampNeg)) (if (m_inp m_at.toNatClampNeg) = 99 then (f_X5_readOrder_c91 m_len m_inp (m_at + 1) (t1 ||| t0) (m_inp m_at.toNatClampNeg) m_to1 m_to2) else (if (m_inp m_at.toNatClampNeg) = 112 then (f_X5_readOrder_c91 m_len m_inp (m_at + 1) (t1 ||| t0) (m_inp m_at.toNatClampNeg) m_to1 m_to2) else (f_X5_readOrder_c96 m_len m_inp 1 (m_at + 1) (t1 ||| t0) (m_inp m_at.toNatClampNeg) m_to1 m_to2))))) else (some (m_at, (t1 ||| t0), m_cmd, m_to1, m_to2)))
def f_X5_readOrder_c31  (m_len : Int32) (m_inp : Nat → Int32) (t0 : Int32) (m_at : Int32) (m_wro : Int32) (m_cmd : Int32) (m_to1 : Int32) (m_to2 : Int32) : Option (Int32 × Int32 × Int32 × Int32 × Int32) := f_X5_readOrder_c36 m_len m_inp 1 t0 m_at m_wro m_cmd m_to1 m_to2
def f_X5_readOrder (m_len : Int32) (m_at : Int32) (m_wro : Int32) (m_cmd : Int32) (m_to1 : Int32) (m_to2 : Int32) (m_inp : Nat → Int32) : Option (Int32 × Int32 × Int32 × Int32 × Int32) := if m_len ≤ m_at then (f_X5_readOrder_c31 m_len m_inp m_wro m_at m_wro m_cmd m_to1 m_to2) else (og (inb m_at 60) (ob (f_X5_isKind (m_inp m_at.toNatClampNeg)) fun r4 => (if r4 = 0 then (f_X5_readOrder_c31 m_len m_inp m_wro m_at m_wro m_cmd m_to1 m_to2) else (f_X5_readOrder_c36 m_len m_inp 0 m_wro m_at m_wro m_cmd m_to1 m_to2))))
set_option maxHeartbeats 4000000 in
set_option maxRecDepth 100000 in
theorem c_X5_readOrder (l : Launch) (D : va_G) (cy : Nat → ClassId) (q : Nat → Nat) (m_thr : Int32) (m_kept : Int32) (m_rea : Int32) (m_det : Int32) (m_isv : Int32) (m_iit : Int32) (m_len : Int32) (m_at : Int32) (m_err : Int32) (m_wro : Int32) (m_cmd : Int32) (m_to1 : Int32) (m_to2 : Int32) (m_now : Nat → Int32) (m_sav : Nat → Int32) (m_ahe : Nat → Int32) (m_bef : Nat → Int32) (m_hst : Nat → Nat → Int32) (m_noi : Nat → UInt32) (m_own : Nat → UInt32) (m_inp : Nat → Int32) (sz : Nat) {res : Int32 × Int32 × Int32 × Int32 × Int32} (hf : f_X5_readOrder m_len m_at m_wro m_cmd m_to1 m_to2 m_inp = some res) : Met l yX5_readOrder (.code yX5_readOrder cX5_readOrder 1 none :: lw_all) { frames := 4, cells := 0, slots := 0, locals := 79 } (va_Pc [.ref (q 0)] (sW D cy (wX5 q cy m_thr m_kept m_rea m_det m_isv m_iit m_len m_at m_err m_wro m_cmd m_to1 m_to2 m_now m_sav m_ahe m_bef m_hst m_noi m_own m_inp) sz)) (qV D (wX5 q cy m_thr m_kept m_rea m_det m_isv m_iit m_len res.1 m_err res.2.1 res.2.2.1 res.2.2.2.1 res.2.2.2.2 m_now m_sav m_ahe m_bef m_hst m_noi m_own m_inp) (va_A (wX5 q cy m_thr m_kept m_rea m_det m_isv m_iit m_len m_at m_err m_wro m_cmd m_to1 m_to2 m_now m_sav m_ahe m_bef m_hst m_noi m_own m_inp) sz)) 0 0 (va_A (wX5 q cy m_thr m_kept m_rea m_det m_isv m_iit m_len m_at m_err m_wro m_cmd m_to1 m_to2 m_now m_sav m_ahe m_bef m_hst m_noi m_own m_inp) sz) := by
  refine mk_rw (Qc := qV D (wX5 q cy m_thr m_kept m_rea m_det m_isv m_iit m_len res.1 m_err res.2.1 res.2.2.1 res.2.2.2.1 res.2.2.2.2 m_now m_sav m_ahe m_bef m_hst m_noi m_own m_inp) ) (Rc := RX5) (by decide +kernel) rfl (Nat.le_of_ble_eq_true rfl) ?_
  intro p e s m args below meth c ls A CX hml hr hlk hK hN hP hD hS hA hl
  have hx := CX.1
  have hb := CX.2.1
  have hRMX5_isKind : (⟨1, 0, 0, 12⟩ : Room).frames + 1 ≤ (⟨4, 0, 0, 79⟩ : Room).frames ∧ 8 + (1 + 11) + (⟨1, 0, 0, 12⟩ : Room).locals ≤ (⟨4, 0, 0, 79⟩ : Room).locals := ⟨Nat.le_of_ble_eq_true rfl, Nat.le_of_ble_eq_true rfl⟩
  have hRMX5_must : (⟨3, 0, 0, 56⟩ : Room).frames + 1 ≤ (⟨4, 0, 0, 79⟩ : Room).frames ∧ 8 + (2 + 11) + (⟨3, 0, 0, 56⟩ : Room).locals ≤ (⟨4, 0, 0, 79⟩ : Room).locals := ⟨Nat.le_of_ble_eq_true rfl, Nat.le_of_ble_eq_true rfl⟩
  have hRMX5_readNumber : (⟨3, 0, 0, 56⟩ : Room).frames + 1 ≤ (⟨4, 0, 0, 79⟩ : Room).frames ∧ 8 + (4 + 11) + (⟨3, 0, 0, 56⟩ : Room).locals ≤ (⟨4, 0, 0, 79⟩ : Room).locals := ⟨Nat.le_of_ble_eq_true rfl, Nat.le_of_ble_eq_true rfl⟩
  have hl0 := hl
  have K96 : ∀ (t0 : Int32) (m_at : Int32) (m_wro : Int32) (m_cmd : Int32) (m_to1 : Int32) (m_to2 : Int32) (H : Heap) (locs : List Loc) (hP : va_P D vwCl (wX5 q cy m_thr m_kept m_rea m_det m_isv m_iit m_len m_at m_err m_wro m_cmd m_to1 m_to2 m_now m_sav m_ahe m_bef m_hst m_noi m_own m_inp) H) (hD : va_D A (wX5 q cy m_thr m_kept m_rea m_det m_isv m_iit m_len m_at m_err m_wro m_cmd m_to1 m_to2 m_now m_sav m_ahe m_bef m_hst m_noi m_own m_inp)) (hS : va_S A s.heap H locs) (ls : Array Slot) (hl : lv_has ls 1 [(0, .ref (q 0))]) (hf : f_X5_readOrder_c96 m_len m_inp t0 m_at m_wro m_cmd m_to1 m_to2 = some res), W p l e ⟨4, 0, 0, 79⟩ s m args below meth c H locs 0 0 (MQ below (qV D (wX5 q cy m_thr m_kept m_rea m_det m_isv m_iit m_len res.1 m_err res.2.1 res.2.2.1 res.2.2.2.1 res.2.2.2.2 m_now m_sav m_ahe m_bef m_hst m_noi m_own m_inp) A) args s 0 0 A) (F0 m 96 ls [.int t0, .ref (q 0), .ref (q 0)]) := by
    intro t0 m_at m_wro m_cmd m_to1 m_to2 H locs hP hD hS ls hl hf
    obtain ⟨r2, e1, hf⟩ := ob_some hf
    refine crw_vi CX hml (As := [.int t0]) (rest := [.ref (q 0)]) (c_X5_readNumber l D cy q m_thr m_kept m_rea m_det m_isv m_iit m_len m_at m_err m_wro m_cmd m_to1 m_to2 m_now m_sav m_ahe m_bef m_hst m_noi m_own m_inp t0 _ e1) lk_RX5_210 rfl rfl hRMX5_readNumber hP hD hS hA hK hN 0 rfl rfl rfl hl.1 rfl (Nat.le_of_ble_eq_true rfl) ⟨Nat.le_of_ble_eq_true rfl, Nat.le_of_ble_eq_true rfl⟩ (dg ddX5_readOrder 50 rfl) (fun H locs hP hD hS => ?_)
    refine pf_RX5_213 CX hK hP hD hS 0 rfl (dg ddX5_readOrder 51 rfl) (Nat.le_of_ble_eq_true rfl) (fun H locs hP hD hS => ?_)
    have hP : va_P D vwCl (wX5 q cy m_thr m_kept m_rea m_det m_isv m_iit m_len r2.2.1 m_err r2.2.2 m_cmd r2.1 m_to2 m_now m_sav m_ahe m_bef m_hst m_noi m_own m_inp) H := hP
    have hD : va_D A (wX5 q cy m_thr m_kept m_rea m_det m_isv m_iit m_len r2.2.1 m_err r2.2.2 m_cmd r2.1 m_to2 m_now m_sav m_ahe m_bef m_hst m_noi m_own m_inp) := hD
    refine lv_aload_n hx hb (dg ddX5_readOrder 52 rfl) rfl (lv_at hl 0 rfl) ?_
    refine gf_RX5_206 CX hK hP 0 rfl rfl (dg ddX5_readOrder 53 rfl) ?_
    refine lv_bipush (v := 100) hx hb (dg ddX5_readOrder 54 rfl) (by decide) ?_
    refine lv_icmp_ne (tgt := 126) hx hb (dg ddX5_readOrder 55 rfl) (by decide) (fun h3 => ?_) (fun h3 => ?_)
    · have hf := it_f h3 hf
      cases hf
      exact e_wv CX hr hlk hP hD hS (dg ddX5_readOrder 64 rfl)
    · have hf := it_t h3 hf
      refine lv_aload_n hx hb (dg ddX5_readOrder 56 rfl) rfl (lv_at hl 0 rfl) ?_
      refine lv_bipush (v := 35) hx hb (dg ddX5_readOrder 57 rfl) (by decide) ?_
      obtain ⟨r5, e4, hf⟩ := ob_some hf
      refine crw_vv CX hml (As := [.int 35]) (rest := []) (c_X5_must l D cy q m_thr m_kept m_rea m_det m_isv m_iit m_len r2.2.1 m_err r2.2.2 m_cmd r2.1 m_to2 m_now m_sav m_ahe m_bef m_hst m_noi m_own m_inp 35 _ e4) lk_RX5_216 rfl rfl hRMX5_must hP hD hS hA hK hN 0 rfl rfl rfl hl.1 rfl (Nat.le_of_ble_eq_true rfl) ⟨Nat.le_of_ble_eq_true rfl, Nat.le_of_ble_eq_true rfl⟩ (dg ddX5_readOrder 58 rfl) (fun H locs hP hD hS => ?_)
      refine lv_aload_n hx hb (dg ddX5_readOrder 59 rfl) rfl (lv_at hl 0 rfl) ?_
      refine lv_aload_n hx hb (dg ddX5_readOrder 60 rfl) rfl (lv_at hl 0 rfl) ?_
      refine lv_iconst (v := 2) hx hb (dg ddX5_readOrder 61 rfl) (by decide) ?_
      obtain ⟨r7, e6, hf⟩ := ob_some hf
      refine crw_vi CX hml (As := [.int 2]) (rest := [.ref (q 0)]) (c_X5_readNumber l D cy q m_thr m_kept m_rea m_det m_isv m_iit m_len r5.1 m_err r5.2 m_cmd r2.1 m_to2 m_now m_sav m_ahe m_bef m_hst m_noi m_own m_inp 2 _ e6) lk_RX5_210 rfl rfl hRMX5_readNumber hP hD hS hA hK hN 0 rfl rfl rfl hl.1 rfl (Nat.le_of_ble_eq_true rfl) ⟨Nat.le_of_ble_eq_true rfl, Nat.le_of_ble_eq_true rfl⟩ (dg ddX5_readOrder 62 rfl) (fun H locs hP hD hS => ?_)
      refine pf_RX5_220 CX hK hP hD hS 0 rfl (dg ddX5_readOrder 63 rfl) (Nat.le_of_ble_eq_true rfl) (fun H locs hP hD hS => ?_)
      have hP : va_P D vwCl (wX5 q cy m_thr m_kept m_rea m_det m_isv m_iit m_len r7.2.1 m_err r7.2.2 m_cmd r2.1 r7.1 m_now m_sav m_ahe m_bef m_hst m_noi m_own m_inp) H := hP
      have hD : va_D A (wX5 q cy m_thr m_kept m_rea m_det m_isv m_iit m_len r7.2.1 m_err r7.2.2 m_cmd r2.1 r7.1 m_now m_sav m_ahe m_bef m_hst m_noi m_own m_inp) := hD
      cases hf
      exact e_wv CX hr hlk hP hD hS (dg ddX5_readOrder 64 rfl)
  have K91 : ∀ (m_at : Int32) (m_wro : Int32) (m_cmd : Int32) (m_to1 : Int32) (m_to2 : Int32) (H : Heap) (locs : List Loc) (hP : va_P D vwCl (wX5 q cy m_thr m_kept m_rea m_det m_isv m_iit m_len m_at m_err m_wro m_cmd m_to1 m_to2 m_now m_sav m_ahe m_bef m_hst m_noi m_own m_inp) H) (hD : va_D A (wX5 q cy m_thr m_kept m_rea m_det m_isv m_iit m_len m_at m_err m_wro m_cmd m_to1 m_to2 m_now m_sav m_ahe m_bef m_hst m_noi m_own m_inp)) (hS : va_S A s.heap H locs) (ls : Array Slot) (hl : lv_has ls 1 [(0, .ref (q 0))]) (hf : f_X5_readOrder_c91 m_len m_inp m_at m_wro m_cmd m_to1 m_to2 = some res), W p l e ⟨4, 0, 0, 79⟩ s m args below meth c H locs 0 0 (MQ below (qV D (wX5 q cy m_thr m_kept m_rea m_det m_isv m_iit m_len res.1 m_err res.2.1 res.2.2.1 res.2.2.2.1 res.2.2.2.2 m_now m_sav m_ahe m_bef m_hst m_noi m_own m_inp) A) args s 0 0 A) (F0 m 91 ls [.ref (q 0), .ref (q 0)]) := by
    intro m_at m_wro m_cmd m_to1 m_to2 H locs hP hD hS ls hl hf
    refine lv_iconst (v := 2) hx hb (dg ddX5_readOrder 47 rfl) (by decide) ?_
    refine lv_goto (tgt := 96) hx hb (dg ddX5_readOrder 48 rfl) (by decide) ?_
    exact K96  2 m_at m_wro m_cmd m_to1 m_to2 _ _ hP hD hS _ (lv_sub hl [0] rfl) hf
  have K36 : ∀ (t0 : Int32) (t1 : Int32) (m_at : Int32) (m_wro : Int32) (m_cmd : Int32) (m_to1 : Int32) (m_to2 : Int32) (H : Heap) (locs : List Loc) (hP : va_P D vwCl (wX5 q cy m_thr m_kept m_rea m_det m_isv m_iit m_len m_at m_err m_wro m_cmd m_to1 m_to2 m_now m_sav m_ahe m_bef m_hst m_noi m_own m_inp) H) (hD : va_D A (wX5 q cy m_thr m_kept m_rea m_det m_isv m_iit m_len m_at m_err m_wro m_cmd m_to1 m_to2 m_now m_sav m_ahe m_bef m_hst m_noi m_own m_inp)) (hS : va_S A s.heap H locs) (ls : Array Slot) (hl : lv_has ls 1 [(0, .ref (q 0))]) (hf : f_X5_readOrder_c36 m_len m_inp t0 t1 m_at m_wro m_cmd m_to1 m_to2 = some res), W p l e ⟨4, 0, 0, 79⟩ s m args below meth c H locs 0 0 (MQ below (qV D (wX5 q cy m_thr m_kept m_rea m_det m_isv m_iit m_len res.1 m_err res.2.1 res.2.2.1 res.2.2.2.1 res.2.2.2.2 m_now m_sav m_ahe m_bef m_hst m_noi m_own m_inp) A) args s 0 0 A) (F0 m 36 ls [.int t0, .int t1, .ref (q 0)]) := by
    intro t0 t1 m_at m_wro m_cmd m_to1 m_to2 H locs hP hD hS ls hl hf
    refine lv_ior hx hb (dg ddX5_readOrder 18 rfl) ?_
    obtain ⟨h1, hf⟩ := og_some hf
    refine pf_RX5_192 CX hK hP hD hS 0 rfl (isZ_n h1) (isZ_f h1) (dg ddX5_readOrder 19 rfl) (Nat.le_of_ble_eq_true rfl) (fun H locs hP hD hS => ?_)
    have hP : va_P D vwCl (wX5 q cy m_thr m_kept m_rea m_det m_isv m_iit m_len m_at m_err (t1 ||| t0) m_cmd m_to1 m_to2 m_now m_sav m_ahe m_bef m_hst m_noi m_own m_inp) H := hP
    have hD : va_D A (wX5 q cy m_thr m_kept m_rea m_det m_isv m_iit m_len m_at m_err (t1 ||| t0) m_cmd m_to1 m_to2 m_now m_sav m_ahe m_bef m_hst m_noi m_own m_inp) := hD
    refine lv_aload_n hx hb (dg ddX5_readOrder 20 rfl) rfl (lv_at hl 0 rfl) ?_
    refine gf_RX5_192 CX hK hP 0 rfl rfl (dg ddX5_readOrder 21 rfl) ?_
    refine lv_if_eq (tgt := 48) hx hb (dg ddX5_readOrder 22 rfl) (by decide) (fun h2 => ?_) (fun h2 => ?_)
    · have hf := it_t h2 hf
      refine lv_aload_n hx hb (dg ddX5_readOrder 24 rfl) rfl (lv_at hl 0 rfl) ?_
      refine lv_aload_n hx hb (dg ddX5_readOrder 25 rfl) rfl (lv_at hl 0 rfl) ?_
      refine gf_RX5_34 CX hK hP 0 rfl rfl (dg ddX5_readOrder 26 rfl) ?_
      refine lv_aload_n hx hb (dg ddX5_readOrder 27 rfl) rfl (lv_at hl 0 rfl) ?_
      refine gf_RX5_195 CX hK hP 0 rfl rfl (dg ddX5_readOrder 28 rfl) ?_
      obtain ⟨h3, hf⟩ := og_some hf
      refine va_cald hx hb hK hP 8 2 rfl rfl (inb_in h3) (dg ddX5_readOrder 29 rfl) ?_
      obtain ⟨h4, hf⟩ := og_some hf
      refine pf_RX5_206 CX hK hP hD hS 0 rfl (isC_n h4) (isC_f h4) (dg ddX5_readOrder 30 rfl) (Nat.le_of_ble_eq_true rfl) (fun H locs hP hD hS => ?_)
      have hP : va_P D vwCl (wX5 q cy m_thr m_kept m_rea m_det m_isv m_iit m_len m_at m_err (t1 ||| t0) (m_inp m_at.toNatClampNeg) m_to1 m_to2 m_now m_sav m_ahe m_bef m_hst m_noi m_own m_inp) H := hP
      have hD : va_D A (wX5 q cy m_thr m_kept m_rea m_det m_isv m_iit m_len m_at m_err (t1 ||| t0) (m_inp m_at.toNatClampNeg) m_to1 m_to2 m_now m_sav m_ahe m_bef m_hst m_noi m_own m_inp) := hD
      refine lv_aload_n hx hb (dg ddX5_readOrder 31 rfl) rfl (lv_at hl 0 rfl) ?_
      refine lv_dup hx hb (dg ddX5_readOrder 32 rfl) rfl ?_
      refine gf_RX5_195 CX hK hP 0 rfl rfl (dg ddX5_readOrder 33 rfl) ?_
      refine lv_iconst (v := 1) hx hb (dg ddX5_readOrder 34 rfl) (by decide) ?_
      refine lv_iadd hx hb (dg ddX5_readOrder 35 rfl) ?_
      refine pf_RX5_195 CX hK hP hD hS 0 rfl (dg ddX5_readOrder 36 rfl) (Nat.le_of_ble_eq_true rfl) (fun H locs hP hD hS => ?_)
      have hP : va_P D vwCl (wX5 q cy m_thr m_kept m_rea m_det m_isv m_iit m_len (m_at + 1) m_err (t1 ||| t0) (m_inp m_at.toNatClampNeg) m_to1 m_to2 m_now m_sav m_ahe m_bef m_hst m_noi m_own m_inp) H := hP
      have hD : va_D A (wX5 q cy m_thr m_kept m_rea m_det m_isv m_iit m_len (m_at + 1) m_err (t1 ||| t0) (m_inp m_at.toNatClampNeg) m_to1 m_to2 m_now m_sav m_ahe m_bef m_hst m_noi m_own m_inp) := hD
      refine lv_aload_n hx hb (dg ddX5_readOrder 37 rfl) rfl (lv_at hl 0 rfl) ?_
      refine lv_aload_n hx hb (dg ddX5_readOrder 38 rfl) rfl (lv_at hl 0 rfl) ?_
      refine lv_aload_n hx hb (dg ddX5_readOrder 39 rfl) rfl (lv_at hl 0 rfl) ?_
      refine gf_RX5_206 CX hK hP 0 rfl rfl (dg ddX5_readOrder 40 rfl) ?_
      refine lv_bipush (v := 99) hx hb (dg ddX5_readOrder 41 rfl) (by decide) ?_
      refine lv_icmp_eq (tgt := 91) hx hb (dg ddX5_readOrder 42 rfl) (by decide) (fun h5 => ?_) (fun h5 => ?_)
      · have hf := it_t h5 hf
        exact K91  (m_at + 1) (t1 ||| t0) (m_inp m_at.toNatClampNeg) m_to1 m_to2 _ _ hP hD hS _ (lv_sub hl [0] rfl) hf
      · have hf := it_f h5 hf
        refine lv_aload_n hx hb (dg ddX5_readOrder 43 rfl) rfl (lv_at hl 0 rfl) ?_
        refine gf_RX5_206 CX hK hP 0 rfl rfl (dg ddX5_readOrder 44 rfl) ?_
        refine lv_bipush (v := 112) hx hb (dg ddX5_readOrder 45 rfl) (by decide) ?_
        refine lv_icmp_ne (tgt := 95) hx hb (dg ddX5_readOrder 46 rfl) (by decide) (fun h6 => ?_) (fun h6 => ?_)
        · have hf := it_f h6 hf
          refine lv_iconst (v := 1) hx hb (dg ddX5_readOrder 49 rfl) (by decide) ?_
          exact K96  1 (m_at + 1) (t1 ||| t0) (m_inp m_at.toNatClampNeg) m_to1 m_to2 _ _ hP hD hS _ (lv_sub hl [0] rfl) hf
        · have hf := it_t h6 hf
          exact K91  (m_at + 1) (t1 ||| t0) (m_inp m_at.toNatClampNeg) m_to1 m_to2 _ _ hP hD hS _ (lv_sub hl [0] rfl) hf
    · have hf := it_f h2 hf
      cases hf
      exact e_wv CX hr hlk hP hD hS (dg ddX5_readOrder 23 rfl)
  have K31 : ∀ (t0 : Int32) (m_at : Int32) (m_wro : Int32) (m_cmd : Int32) (m_to1 : Int32) (m_to2 : Int32) (H : Heap) (locs : List Loc) (hP : va_P D vwCl (wX5 q cy m_thr m_kept m_rea m_det m_isv m_iit m_len m_at m_err m_wro m_cmd m_to1 m_to2 m_now m_sav m_ahe m_bef m_hst m_noi m_own m_inp) H) (hD : va_D A (wX5 q cy m_thr m_kept m_rea m_det m_isv m_iit m_len m_at m_err m_wro m_cmd m_to1 m_to2 m_now m_sav m_ahe m_bef m_hst m_noi m_own m_inp)) (hS : va_S A s.heap H locs) (ls : Array Slot) (hl : lv_has ls 1 [(0, .ref (q 0))]) (hf : f_X5_readOrder_c31 m_len m_inp t0 m_at m_wro m_cmd m_to1 m_to2 = some res), W p l e ⟨4, 0, 0, 79⟩ s m args below meth c H locs 0 0 (MQ below (qV D (wX5 q cy m_thr m_kept m_rea m_det m_isv m_iit m_len res.1 m_err res.2.1 res.2.2.1 res.2.2.2.1 res.2.2.2.2 m_now m_sav m_ahe m_bef m_hst m_noi m_own m_inp) A) args s 0 0 A) (F0 m 31 ls [.int t0, .ref (q 0)]) := by
    intro t0 m_at m_wro m_cmd m_to1 m_to2 H locs hP hD hS ls hl hf
    refine lv_iconst (v := 1) hx hb (dg ddX5_readOrder 15 rfl) (by decide) ?_
    refine lv_goto (tgt := 36) hx hb (dg ddX5_readOrder 16 rfl) (by decide) ?_
    exact K36  1 t0 m_at m_wro m_cmd m_to1 m_to2 _ _ hP hD hS _ (lv_sub hl [0] rfl) hf
  refine lv_aload_n hx hb (dg ddX5_readOrder 0 rfl) rfl (lv_at hl 0 rfl) ?_
  refine lv_dup hx hb (dg ddX5_readOrder 1 rfl) rfl ?_
  refine gf_RX5_192 CX hK hP 0 rfl rfl (dg ddX5_readOrder 2 rfl) ?_
  refine lv_aload_n hx hb (dg ddX5_readOrder 3 rfl) rfl (lv_at hl 0 rfl) ?_
  refine gf_RX5_195 CX hK hP 0 rfl rfl (dg ddX5_readOrder 4 rfl) ?_
  refine lv_aload_n hx hb (dg ddX5_readOrder 5 rfl) rfl (lv_at hl 0 rfl) ?_
  refine gf_RX5_189 CX hK hP 0 rfl rfl (dg ddX5_readOrder 6 rfl) ?_
  refine lv_icmp_ge (tgt := 31) hx hb (dg ddX5_readOrder 7 rfl) (by decide) (fun h1 => ?_) (fun h1 => ?_)
  · have hf := it_t h1 hf
    exact K31  m_wro m_at m_wro m_cmd m_to1 m_to2 _ _ hP hD hS _ (lv_sub hl [0] rfl) hf
  · have hf := it_f h1 hf
    refine lv_aload_n hx hb (dg ddX5_readOrder 8 rfl) rfl (lv_at hl 0 rfl) ?_
    refine gf_RX5_34 CX hK hP 0 rfl rfl (dg ddX5_readOrder 9 rfl) ?_
    refine lv_aload_n hx hb (dg ddX5_readOrder 10 rfl) rfl (lv_at hl 0 rfl) ?_
    refine gf_RX5_195 CX hK hP 0 rfl rfl (dg ddX5_readOrder 11 rfl) ?_
    obtain ⟨h2, hf⟩ := og_some hf
    refine va_cald hx hb hK hP 8 2 rfl rfl (inb_in h2) (dg ddX5_readOrder 12 rfl) ?_
    obtain ⟨r4, e3, hf⟩ := ob_some hf
    refine cro_si CX hml (As := [.int (m_inp m_at.toNatClampNeg)]) (rest := [.int m_wro, .ref (q 0)]) (c_X5_isKind l D cy (m_inp m_at.toNatClampNeg) e3) lk_RX5_202 rfl rfl hRMX5_isKind vaP_nil hK hN rfl hl.1 rfl (Nat.le_of_ble_eq_true rfl) ⟨Nat.le_of_ble_eq_true rfl, Nat.le_of_ble_eq_true rfl⟩ (dg ddX5_readOrder 13 rfl) ?_
    refine lv_if_ne (tgt := 35) hx hb (dg ddX5_readOrder 14 rfl) (by decide) (fun h5 => ?_) (fun h5 => ?_)
    · have hf := it_f h5 hf
      refine lv_iconst (v := 0) hx hb (dg ddX5_readOrder 17 rfl) (by decide) ?_
      exact K36  0 m_wro m_at m_wro m_cmd m_to1 m_to2 _ _ hP hD hS _ (lv_sub hl [0] rfl) hf
    · have hf := it_t h5 hf
      exact K31  m_wro m_at m_wro m_cmd m_to1 m_to2 _ _ hP hD hS _ (lv_sub hl [0] rfl) hf
def f_X5_countOrders_c16  (m_len : Int32) (m_inp : Nat → Int32) : Nat → Int32 → Int32 → Int32 → Int32 → Int32 → Int32 → Option (Int32 × Int32 × Int32 × Int32 × Int32 × Int32)
  | 0, _, _, _, _, _, _ => none
  | n + 1, x1, m_at, m_wro, m_cmd, m_to1, m_to2 => if m_wro = 0 then (if m_len ≤ m_at then (some (x1, m_at, m_wro, m_cmd, m_to1, m_to2)) else (ob (f_X5_must m_len m_at m_wro m_inp 59) fun r4 => (ob (f_X5_readOrder m_len r4.1 r4.2 m_cmd m_to1 m_to2 m_inp) fun r6 => (f_X5_countOrders_c16 m_len m_inp n (x1 + 1) r6.1 r6.2.1 r6.2.2.1 r6.2.2.2.1 r6.2.2.2.2)))) else (some (x1, m_at, m_wro, m_cmd, m_to1, m_to2))
def f_X5_countOrders (m_len : Int32) (m_at : Int32) (m_wro : Int32) (m_cmd : Int32) (m_to1 : Int32) (m_to2 : Int32) (m_inp : Nat → Int32) : Option (Int32 × Int32 × Int32 × Int32 × Int32 × Int32) := ob (f_X5_readOrder m_len 0 0 m_cmd m_to1 m_to2 m_inp) fun r2 => (f_X5_countOrders_c16 m_len m_inp 4096 1 r2.1 r2.2.1 r2.2.2.1 r2.2.2.2.1 r2.2.2.2.2)
set_option maxHeartbeats 4000000 in
set_option maxRecDepth 100000 in
theorem c_X5_countOrders (l : Launch) (D : va_G) (cy : Nat → ClassId) (q : Nat → Nat) (m_thr : Int32) (m_kept : Int32) (m_rea : Int32) (m_det : Int32) (m_isv : Int32) (m_iit : Int32) (m_len : Int32) (m_at : Int32) (m_err : Int32) (m_wro : Int32) (m_cmd : Int32) (m_to1 : Int32) (m_to2 : Int32) (m_now : Nat → Int32) (m_sav : Nat → Int32) (m_ahe : Nat → Int32) (m_bef : Nat → Int32) (m_hst : Nat → Nat → Int32) (m_noi : Nat → UInt32) (m_own : Nat → UInt32) (m_inp : Nat → Int32) (sz : Nat) {res : Int32 × Int32 × Int32 × Int32 × Int32 × Int32} (hf : f_X5_countOrders m_len m_at m_wro m_cmd m_to1 m_to2 m_inp = some res) : Met l yX5_countOrders (.code yX5_countOrders cX5_countOrders 2 (some .int) :: lw_all) { frames := 5, cells := 0, slots := 0, locals := 99 } (va_Pc [.ref (q 0)] (sW D cy (wX5 q cy m_thr m_kept m_rea m_det m_isv m_iit m_len m_at m_err m_wro m_cmd m_to1 m_to2 m_now m_sav m_ahe m_bef m_hst m_noi m_own m_inp) sz)) (qI D (wX5 q cy m_thr m_kept m_rea m_det m_isv m_iit m_len res.2.1 m_err res.2.2.1 res.2.2.2.1 res.2.2.2.2.1 res.2.2.2.2.2 m_now m_sav m_ahe m_bef m_hst m_noi m_own m_inp) res.1 (va_A (wX5 q cy m_thr m_kept m_rea m_det m_isv m_iit m_len m_at m_err m_wro m_cmd m_to1 m_to2 m_now m_sav m_ahe m_bef m_hst m_noi m_own m_inp) sz)) 0 0 (va_A (wX5 q cy m_thr m_kept m_rea m_det m_isv m_iit m_len m_at m_err m_wro m_cmd m_to1 m_to2 m_now m_sav m_ahe m_bef m_hst m_noi m_own m_inp) sz) := by
  refine mk_rw (Qc := qI D (wX5 q cy m_thr m_kept m_rea m_det m_isv m_iit m_len res.2.1 m_err res.2.2.1 res.2.2.2.1 res.2.2.2.2.1 res.2.2.2.2.2 m_now m_sav m_ahe m_bef m_hst m_noi m_own m_inp) res.1) (Rc := RX5) (by decide +kernel) rfl (Nat.le_of_ble_eq_true rfl) ?_
  intro p e s m args below meth c ls A CX hml hr hlk hK hN hP hD hS hA hl
  have hx := CX.1
  have hb := CX.2.1
  have hRMX5_must : (⟨3, 0, 0, 56⟩ : Room).frames + 1 ≤ (⟨5, 0, 0, 99⟩ : Room).frames ∧ 8 + (2 + 11) + (⟨3, 0, 0, 56⟩ : Room).locals ≤ (⟨5, 0, 0, 99⟩ : Room).locals := ⟨Nat.le_of_ble_eq_true rfl, Nat.le_of_ble_eq_true rfl⟩
  have hRMX5_readOrder : (⟨4, 0, 0, 79⟩ : Room).frames + 1 ≤ (⟨5, 0, 0, 99⟩ : Room).frames ∧ 8 + (1 + 11) + (⟨4, 0, 0, 79⟩ : Room).locals ≤ (⟨5, 0, 0, 99⟩ : Room).locals := ⟨Nat.le_of_ble_eq_true rfl, Nat.le_of_ble_eq_true rfl⟩
  have hl0 := hl
  have K16 : ∀ (n : Nat), ∀ (x1 : Int32) (m_at : Int32) (m_wro : Int32) (m_cmd : Int32) (m_to1 : Int32) (m_to2 : Int32) (H : Heap) (locs : List Loc) (hP : va_P D vwCl (wX5 q cy m_thr m_kept m_rea m_det m_isv m_iit m_len m_at m_err m_wro m_cmd m_to1 m_to2 m_now m_sav m_ahe m_bef m_hst m_noi m_own m_inp) H) (hD : va_D A (wX5 q cy m_thr m_kept m_rea m_det m_isv m_iit m_len m_at m_err m_wro m_cmd m_to1 m_to2 m_now m_sav m_ahe m_bef m_hst m_noi m_own m_inp)) (hS : va_S A s.heap H locs) (ls : Array Slot) (hl : lv_has ls 2 [(0, .ref (q 0)), (1, .int x1)]) (hf : f_X5_countOrders_c16 m_len m_inp n x1 m_at m_wro m_cmd m_to1 m_to2 = some res), W p l e ⟨5, 0, 0, 99⟩ s m args below meth c H locs 0 0 (MQ below (qI D (wX5 q cy m_thr m_kept m_rea m_det m_isv m_iit m_len res.2.1 m_err res.2.2.1 res.2.2.2.1 res.2.2.2.2.1 res.2.2.2.2.2 m_now m_sav m_ahe m_bef m_hst m_noi m_own m_inp) res.1 A) args s 0 0 A) (F0 m 16 ls []) := by
    intro n
    induction n with
    | zero => intro x1 m_at m_wro m_cmd m_to1 m_to2 H locs hP hD hS ls hl hf; cases (show none = some res from hf)
    | succ n ih =>
    intro x1 m_at m_wro m_cmd m_to1 m_to2 H locs hP hD hS ls hl hf
    refine lv_aload_n hx hb (dg ddX5_countOrders 10 rfl) rfl (lv_at hl 0 rfl) ?_
    refine gf_RX5_192 CX hK hP 0 rfl rfl (dg ddX5_countOrders 11 rfl) ?_
    refine lv_if_ne (tgt := 50) hx hb (dg ddX5_countOrders 12 rfl) (by decide) (fun h1 => ?_) (fun h1 => ?_)
    · have hf := it_f h1 hf
      refine lv_iload_n hx hb (dg ddX5_countOrders 25 rfl) rfl (lv_at hl 1 rfl) ?_
      cases hf
      exact e_wi CX hr hlk rfl hP hD hS (dg ddX5_countOrders 26 rfl)
    · have hf := it_t h1 hf
      refine lv_aload_n hx hb (dg ddX5_countOrders 13 rfl) rfl (lv_at hl 0 rfl) ?_
      refine gf_RX5_195 CX hK hP 0 rfl rfl (dg ddX5_countOrders 14 rfl) ?_
      refine lv_aload_n hx hb (dg ddX5_countOrders 15 rfl) rfl (lv_at hl 0 rfl) ?_
      refine gf_RX5_189 CX hK hP 0 rfl rfl (dg ddX5_countOrders 16 rfl) ?_
      refine lv_icmp_ge (tgt := 50) hx hb (dg ddX5_countOrders 17 rfl) (by decide) (fun h2 => ?_) (fun h2 => ?_)
      · have hf := it_t h2 hf
        refine lv_iload_n hx hb (dg ddX5_countOrders 25 rfl) rfl (lv_at hl 1 rfl) ?_
        cases hf
        exact e_wi CX hr hlk rfl hP hD hS (dg ddX5_countOrders 26 rfl)
      · have hf := it_f h2 hf
        refine lv_aload_n hx hb (dg ddX5_countOrders 18 rfl) rfl (lv_at hl 0 rfl) ?_
        refine lv_bipush (v := 59) hx hb (dg ddX5_countOrders 19 rfl) (by decide) ?_
        obtain ⟨r4, e3, hf⟩ := ob_some hf
        refine crw_vv CX hml (As := [.int 59]) (rest := []) (c_X5_must l D cy q m_thr m_kept m_rea m_det m_isv m_iit m_len m_at m_err m_wro m_cmd m_to1 m_to2 m_now m_sav m_ahe m_bef m_hst m_noi m_own m_inp 59 _ e3) lk_RX5_216 rfl rfl hRMX5_must hP hD hS hA hK hN 0 rfl rfl rfl hl.1 rfl (Nat.le_of_ble_eq_true rfl) ⟨Nat.le_of_ble_eq_true rfl, Nat.le_of_ble_eq_true rfl⟩ (dg ddX5_countOrders 20 rfl) (fun H locs hP hD hS => ?_)
        refine lv_aload_n hx hb (dg ddX5_countOrders 21 rfl) rfl (lv_at hl 0 rfl) ?_
        obtain ⟨r6, e5, hf⟩ := ob_some hf
        refine crw_vv CX hml (As := []) (rest := []) (c_X5_readOrder l D cy q m_thr m_kept m_rea m_det m_isv m_iit m_len r4.1 m_err r4.2 m_cmd m_to1 m_to2 m_now m_sav m_ahe m_bef m_hst m_noi m_own m_inp _ e5) lk_RX5_223 rfl rfl hRMX5_readOrder hP hD hS hA hK hN 0 rfl rfl rfl hl.1 rfl (Nat.le_of_ble_eq_true rfl) ⟨Nat.le_of_ble_eq_true rfl, Nat.le_of_ble_eq_true rfl⟩ (dg ddX5_countOrders 22 rfl) (fun H locs hP hD hS => ?_)
        refine lv_iinc (v := x1 + 1) (lv' := [(1, .int (x1 + 1)), (0, .ref (q 0))]) hx hb (dg ddX5_countOrders 23 rfl) hl (k := 1) rfl (congrArg (HAdd.hAdd x1) (by decide)) (by decide) rfl (fun ls hl => ?_)
        refine lv_goto (tgt := 16) hx hb (dg ddX5_countOrders 24 rfl) (by decide) ?_
        exact ih (x1 + 1) r6.1 r6.2.1 r6.2.2.1 r6.2.2.2.1 r6.2.2.2.2 _ _ hP hD hS _ (lv_sub hl [1, 0] rfl) hf
  refine lv_aload_n hx hb (dg ddX5_countOrders 0 rfl) rfl (lv_at hl 0 rfl) ?_
  refine lv_iconst (v := 0) hx hb (dg ddX5_countOrders 1 rfl) (by decide) ?_
  refine pf_RX5_195 CX hK hP hD hS 0 rfl (dg ddX5_countOrders 2 rfl) (Nat.le_of_ble_eq_true rfl) (fun H locs hP hD hS => ?_)
  have hP : va_P D vwCl (wX5 q cy m_thr m_kept m_rea m_det m_isv m_iit m_len 0 m_err m_wro m_cmd m_to1 m_to2 m_now m_sav m_ahe m_bef m_hst m_noi m_own m_inp) H := hP
  have hD : va_D A (wX5 q cy m_thr m_kept m_rea m_det m_isv m_iit m_len 0 m_err m_wro m_cmd m_to1 m_to2 m_now m_sav m_ahe m_bef m_hst m_noi m_own m_inp) := hD
  refine lv_aload_n hx hb (dg ddX5_countOrders 3 rfl) rfl (lv_at hl 0 rfl) ?_
  refine lv_iconst (v := 0) hx hb (dg ddX5_countOrders 4 rfl) (by decide) ?_
  refine pf_RX5_192 CX hK hP hD hS 0 rfl (isZ_n (by decide : isZ 0 = true)) (isZ_f (by decide : isZ 0 = true)) (dg ddX5_countOrders 5 rfl) (Nat.le_of_ble_eq_true rfl) (fun H locs hP hD hS => ?_)
  have hP : va_P D vwCl (wX5 q cy m_thr m_kept m_rea m_det m_isv m_iit m_len 0 m_err 0 m_cmd m_to1 m_to2 m_now m_sav m_ahe m_bef m_hst m_noi m_own m_inp) H := hP
  have hD : va_D A (wX5 q cy m_thr m_kept m_rea m_det m_isv m_iit m_len 0 m_err 0 m_cmd m_to1 m_to2 m_now m_sav m_ahe m_bef m_hst m_noi m_own m_inp) := hD
  refine lv_iconst (v := 1) hx hb (dg ddX5_countOrders 6 rfl) (by decide) ?_
  refine lv_istore_n (lv' := [(1, .int 1), (0, .ref (q 0))]) hx hb (dg ddX5_countOrders 7 rfl) rfl hl (by decide) rfl (fun ls hl => ?_)
  refine lv_aload_n hx hb (dg ddX5_countOrders 8 rfl) rfl (lv_at hl 1 rfl) ?_
  obtain ⟨r2, e1, hf⟩ := ob_some hf
  refine crw_vv CX hml (As := []) (rest := []) (c_X5_readOrder l D cy q m_thr m_kept m_rea m_det m_isv m_iit m_len 0 m_err 0 m_cmd m_to1 m_to2 m_now m_sav m_ahe m_bef m_hst m_noi m_own m_inp _ e1) lk_RX5_223 rfl rfl hRMX5_readOrder hP hD hS hA hK hN 0 rfl rfl rfl hl.1 rfl (Nat.le_of_ble_eq_true rfl) ⟨Nat.le_of_ble_eq_true rfl, Nat.le_of_ble_eq_true rfl⟩ (dg ddX5_countOrders 9 rfl) (fun H locs hP hD hS => ?_)
  exact K16 4096 1 r2.1 r2.2.1 r2.2.2.1 r2.2.2.2.1 r2.2.2.2.2 _ _ hP hD hS _ (lv_sub hl [1, 0] rfl) hf
def f_X5_carryOut (m_thr : Int32) (m_kept : Int32) (m_rea : Int32) (m_det : Int32) (m_iit : Int32) (m_cmd : Int32) (m_to1 : Int32) (m_to2 : Int32) (m_now : Nat → Int32) (m_hst : Nat → Nat → Int32) (m_noi : Nat → UInt32) : Option (Int32 × Int32 × Int32 × Int32 × Int32 × (Nat → Int32) × (Nat → Nat → Int32) × (Nat → UInt32)) := if m_cmd = 97 then (ob (f_X5_answer m_thr m_kept m_rea m_det m_iit m_now m_hst m_to1) fun r3 => (some (2, r3.2.1, r3.2.2.1, r3.2.2.2.1, r3.2.2.2.2.1, r3.2.2.2.2.2.1, r3.2.2.2.2.2.2, m_noi))) else (if m_cmd = 99 then (ob (f_X5_crowd m_thr m_kept m_iit m_now m_hst m_to1) fun r6 => (some ((-1), r6.2.1, r6.2.2.1, m_rea, m_det, r6.2.2.2.1, r6.2.2.2.2, m_noi))) else (if m_cmd = 100 then (ob (f_X5_draw m_thr m_kept m_rea m_det m_iit m_now m_hst m_to1 m_to2) fun r9 => (some (3, r9.2.1, r9.2.2.1, r9.2.2.2.1, r9.2.2.2.2.1, r9.2.2.2.2.2.1, r9.2.2.2.2.2.2, m_noi))) else (if m_cmd = 115 then (ob (f_X5_strings m_thr m_kept m_rea m_det m_iit m_now m_hst m_to1) fun r12 => (some (2, r12.2.1, r12.2.2.1, r12.2.2.2.1, r12.2.2.2.2.1, r12.2.2.2.2.2.1, r12.2.2.2.2.2.2, m_noi))) else (if m_cmd = 119 then (ob (f_X5_join m_thr m_kept m_rea m_det m_iit m_now m_hst m_to1) fun r15 => (some (2, r15.2.1, r15.2.2.1, r15.2.2.2.1, r15.2.2.2.2.1, r15.2.2.2.2.2.1, r15.2.2.2.2.2.2, m_noi))) else (if m_cmd = 120 then (ob (f_X5_leave m_thr m_kept m_rea m_det m_iit m_now m_hst m_to1) fun r18 => (some (2, r18.2.1, r18.2.2.1, r18.2.2.2.1, r18.2.2.2.2.1, r18.2.2.2.2.2.1, r18.2.2.2.2.2.2, m_noi))) else (ob (f_X5_pass m_thr m_kept m_iit m_now m_hst m_noi m_to1) fun r20 => (some ((-1), r20.2.1, r20.2.2.1, m_rea, m_det, r20.2.2.2.1, r20.2.2.2.2.1, r20.2.2.2.2.2))))))))
set_option maxHeartbeats 4000000 in
set_option maxRecDepth 100000 in
theorem c_X5_carryOut (l : Launch) (D : va_G) (cy : Nat → ClassId) (q : Nat → Nat) (m_thr : Int32) (m_kept : Int32) (m_rea : Int32) (m_det : Int32) (m_isv : Int32) (m_iit : Int32) (m_len : Int32) (m_at : Int32) (m_err : Int32) (m_wro : Int32) (m_cmd : Int32) (m_to1 : Int32) (m_to2 : Int32) (m_now : Nat → Int32) (m_sav : Nat → Int32) (m_ahe : Nat → Int32) (m_bef : Nat → Int32) (m_hst : Nat → Nat → Int32) (m_noi : Nat → UInt32) (m_own : Nat → UInt32) (m_inp : Nat → Int32) (sz : Nat) {res : Int32 × Int32 × Int32 × Int32 × Int32 × (Nat → Int32) × (Nat → Nat → Int32) × (Nat → UInt32)} (hf : f_X5_carryOut m_thr m_kept m_rea m_det m_iit m_cmd m_to1 m_to2 m_now m_hst m_noi = some res) : Met l yX5_carryOut (.code yX5_carryOut cX5_carryOut 1 (some .int) :: lw_all) { frames := 8, cells := 0, slots := 0, locals := 166 } (va_Pc [.ref (q 0)] (sW D cy (wX5 q cy m_thr m_kept m_rea m_det m_isv m_iit m_len m_at m_err m_wro m_cmd m_to1 m_to2 m_now m_sav m_ahe m_bef m_hst m_noi m_own m_inp) sz)) (qI D (wX5 q cy res.2.1 res.2.2.1 res.2.2.2.1 res.2.2.2.2.1 m_isv m_iit m_len m_at m_err m_wro m_cmd m_to1 m_to2 res.2.2.2.2.2.1 m_sav m_ahe m_bef res.2.2.2.2.2.2.1 res.2.2.2.2.2.2.2 m_own m_inp) res.1 (va_A (wX5 q cy m_thr m_kept m_rea m_det m_isv m_iit m_len m_at m_err m_wro m_cmd m_to1 m_to2 m_now m_sav m_ahe m_bef m_hst m_noi m_own m_inp) sz)) 0 0 (va_A (wX5 q cy m_thr m_kept m_rea m_det m_isv m_iit m_len m_at m_err m_wro m_cmd m_to1 m_to2 m_now m_sav m_ahe m_bef m_hst m_noi m_own m_inp) sz) := by
  refine mk_rw (Qc := qI D (wX5 q cy res.2.1 res.2.2.1 res.2.2.2.1 res.2.2.2.2.1 m_isv m_iit m_len m_at m_err m_wro m_cmd m_to1 m_to2 res.2.2.2.2.2.1 m_sav m_ahe m_bef res.2.2.2.2.2.2.1 res.2.2.2.2.2.2.2 m_own m_inp) res.1) (Rc := RX5) (by decide +kernel) rfl (Nat.le_of_ble_eq_true rfl) ?_
  intro p e s m args below meth c ls A CX hml hr hlk hK hN hP hD hS hA hl
  have hx := CX.1
  have hb := CX.2.1
  have hRMX5_answer : (⟨4, 0, 0, 76⟩ : Room).frames + 1 ≤ (⟨8, 0, 0, 166⟩ : Room).frames ∧ 8 + (3 + 11) + (⟨4, 0, 0, 76⟩ : Room).locals ≤ (⟨8, 0, 0, 166⟩ : Room).locals := ⟨Nat.le_of_ble_eq_true rfl, Nat.le_of_ble_eq_true rfl⟩
  have hRMX5_crowd : (⟨4, 0, 0, 76⟩ : Room).frames + 1 ≤ (⟨8, 0, 0, 166⟩ : Room).frames ∧ 8 + (3 + 11) + (⟨4, 0, 0, 76⟩ : Room).locals ≤ (⟨8, 0, 0, 166⟩ : Room).locals := ⟨Nat.le_of_ble_eq_true rfl, Nat.le_of_ble_eq_true rfl⟩
  have hRMX5_draw : (⟨4, 0, 0, 76⟩ : Room).frames + 1 ≤ (⟨8, 0, 0, 166⟩ : Room).frames ∧ 8 + (6 + 11) + (⟨4, 0, 0, 76⟩ : Room).locals ≤ (⟨8, 0, 0, 166⟩ : Room).locals := ⟨Nat.le_of_ble_eq_true rfl, Nat.le_of_ble_eq_true rfl⟩
  have hRMX5_join : (⟨5, 0, 0, 106⟩ : Room).frames + 1 ≤ (⟨8, 0, 0, 166⟩ : Room).frames ∧ 8 + (2 + 11) + (⟨5, 0, 0, 106⟩ : Room).locals ≤ (⟨8, 0, 0, 166⟩ : Room).locals := ⟨Nat.le_of_ble_eq_true rfl, Nat.le_of_ble_eq_true rfl⟩
  have hRMX5_leave : (⟨4, 0, 0, 76⟩ : Room).frames + 1 ≤ (⟨8, 0, 0, 166⟩ : Room).frames ∧ 8 + (3 + 11) + (⟨4, 0, 0, 76⟩ : Room).locals ≤ (⟨8, 0, 0, 166⟩ : Room).locals := ⟨Nat.le_of_ble_eq_true rfl, Nat.le_of_ble_eq_true rfl⟩
  have hRMX5_pass : (⟨7, 0, 0, 143⟩ : Room).frames + 1 ≤ (⟨8, 0, 0, 166⟩ : Room).frames ∧ 8 + (4 + 11) + (⟨7, 0, 0, 143⟩ : Room).locals ≤ (⟨8, 0, 0, 166⟩ : Room).locals := ⟨Nat.le_of_ble_eq_true rfl, Nat.le_of_ble_eq_true rfl⟩
  have hRMX5_strings : (⟨4, 0, 0, 83⟩ : Room).frames + 1 ≤ (⟨8, 0, 0, 166⟩ : Room).frames ∧ 8 + (3 + 11) + (⟨4, 0, 0, 83⟩ : Room).locals ≤ (⟨8, 0, 0, 166⟩ : Room).locals := ⟨Nat.le_of_ble_eq_true rfl, Nat.le_of_ble_eq_true rfl⟩
  refine lv_aload_n hx hb (dg ddX5_carryOut 0 rfl) rfl (lv_at hl 0 rfl) ?_
  refine gf_RX5_206 CX hK hP 0 rfl rfl (dg ddX5_carryOut 1 rfl) ?_
  by_cases h1 : m_cmd = 97
  · have hf := it_t h1 hf
    refine lv_lookup (off := 108) (tgt := 112) hx hb (dg ddX5_carryOut 2 rfl) (by decide) (by rw [h1]; decide) (by decide) ?_
    refine lv_aload_n hx hb (dg ddX5_carryOut 33 rfl) rfl (lv_at hl 0 rfl) ?_
    refine lv_aload_n hx hb (dg ddX5_carryOut 34 rfl) rfl (lv_at hl 0 rfl) ?_
    refine gf_RX5_213 CX hK hP 0 rfl rfl (dg ddX5_carryOut 35 rfl) ?_
    obtain ⟨r3, e2, hf⟩ := ob_some hf
    refine crw_vi CX hml (As := [.int m_to1]) (rest := []) (c_X5_answer l D cy q m_thr m_kept m_rea m_det m_isv m_iit m_len m_at m_err m_wro m_cmd m_to1 m_to2 m_now m_sav m_ahe m_bef m_hst m_noi m_own m_inp m_to1 _ e2) lk_RX5_238 rfl rfl hRMX5_answer hP hD hS hA hK hN 0 rfl rfl rfl hl.1 rfl (Nat.le_of_ble_eq_true rfl) ⟨Nat.le_of_ble_eq_true rfl, Nat.le_of_ble_eq_true rfl⟩ (dg ddX5_carryOut 36 rfl) (fun H locs hP hD hS => ?_)
    refine lv_pop hx hb (dg ddX5_carryOut 37 rfl) rfl ?_
    refine lv_iconst (v := 2) hx hb (dg ddX5_carryOut 38 rfl) (by decide) ?_
    cases hf
    exact e_wi CX hr hlk rfl hP hD hS (dg ddX5_carryOut 39 rfl)
  have hf := it_f h1 hf
  by_cases h4 : m_cmd = 99
  · have hf := it_t h4 hf
    refine lv_lookup (off := 119) (tgt := 123) hx hb (dg ddX5_carryOut 2 rfl) (by decide) (by rw [h4]; decide) (by decide) ?_
    refine lv_aload_n hx hb (dg ddX5_carryOut 40 rfl) rfl (lv_at hl 0 rfl) ?_
    refine lv_aload_n hx hb (dg ddX5_carryOut 41 rfl) rfl (lv_at hl 0 rfl) ?_
    refine gf_RX5_213 CX hK hP 0 rfl rfl (dg ddX5_carryOut 42 rfl) ?_
    obtain ⟨r6, e5, hf⟩ := ob_some hf
    refine crw_vi CX hml (As := [.int m_to1]) (rest := []) (c_X5_crowd l D cy q m_thr m_kept m_rea m_det m_isv m_iit m_len m_at m_err m_wro m_cmd m_to1 m_to2 m_now m_sav m_ahe m_bef m_hst m_noi m_own m_inp m_to1 _ e5) lk_RX5_241 rfl rfl hRMX5_crowd hP hD hS hA hK hN 0 rfl rfl rfl hl.1 rfl (Nat.le_of_ble_eq_true rfl) ⟨Nat.le_of_ble_eq_true rfl, Nat.le_of_ble_eq_true rfl⟩ (dg ddX5_carryOut 43 rfl) (fun H locs hP hD hS => ?_)
    refine lv_pop hx hb (dg ddX5_carryOut 44 rfl) rfl ?_
    refine lv_iconst (v := (-1)) hx hb (dg ddX5_carryOut 45 rfl) (by decide) ?_
    cases hf
    exact e_wi CX hr hlk rfl hP hD hS (dg ddX5_carryOut 46 rfl)
  have hf := it_f h4 hf
  by_cases h7 : m_cmd = 100
  · have hf := it_t h7 hf
    refine lv_lookup (off := 71) (tgt := 75) hx hb (dg ddX5_carryOut 2 rfl) (by decide) (by rw [h7]; decide) (by decide) ?_
    refine lv_aload_n hx hb (dg ddX5_carryOut 10 rfl) rfl (lv_at hl 0 rfl) ?_
    refine lv_aload_n hx hb (dg ddX5_carryOut 11 rfl) rfl (lv_at hl 0 rfl) ?_
    refine gf_RX5_213 CX hK hP 0 rfl rfl (dg ddX5_carryOut 12 rfl) ?_
    refine lv_aload_n hx hb (dg ddX5_carryOut 13 rfl) rfl (lv_at hl 0 rfl) ?_
    refine gf_RX5_220 CX hK hP 0 rfl rfl (dg ddX5_carryOut 14 rfl) ?_
    obtain ⟨r9, e8, hf⟩ := ob_some hf
    refine crw_vi CX hml (As := [.int m_to1, .int m_to2]) (rest := []) (c_X5_draw l D cy q m_thr m_kept m_rea m_det m_isv m_iit m_len m_at m_err m_wro m_cmd m_to1 m_to2 m_now m_sav m_ahe m_bef m_hst m_noi m_own m_inp m_to1 m_to2 _ e8) lk_RX5_229 rfl rfl hRMX5_draw hP hD hS hA hK hN 0 rfl rfl rfl hl.1 rfl (Nat.le_of_ble_eq_true rfl) ⟨Nat.le_of_ble_eq_true rfl, Nat.le_of_ble_eq_true rfl⟩ (dg ddX5_carryOut 15 rfl) (fun H locs hP hD hS => ?_)
    refine lv_pop hx hb (dg ddX5_carryOut 16 rfl) rfl ?_
    refine lv_iconst (v := 3) hx hb (dg ddX5_carryOut 17 rfl) (by decide) ?_
    cases hf
    exact e_wi CX hr hlk rfl hP hD hS (dg ddX5_carryOut 18 rfl)
  have hf := it_f h7 hf
  by_cases h10 : m_cmd = 115
  · have hf := it_t h10 hf
    refine lv_lookup (off := 97) (tgt := 101) hx hb (dg ddX5_carryOut 2 rfl) (by decide) (by rw [h10]; decide) (by decide) ?_
    refine lv_aload_n hx hb (dg ddX5_carryOut 26 rfl) rfl (lv_at hl 0 rfl) ?_
    refine lv_aload_n hx hb (dg ddX5_carryOut 27 rfl) rfl (lv_at hl 0 rfl) ?_
    refine gf_RX5_213 CX hK hP 0 rfl rfl (dg ddX5_carryOut 28 rfl) ?_
    obtain ⟨r12, e11, hf⟩ := ob_some hf
    refine crw_vi CX hml (As := [.int m_to1]) (rest := []) (c_X5_strings l D cy q m_thr m_kept m_rea m_det m_isv m_iit m_len m_at m_err m_wro m_cmd m_to1 m_to2 m_now m_sav m_ahe m_bef m_hst m_noi m_own m_inp m_to1 _ e11) lk_RX5_235 rfl rfl hRMX5_strings hP hD hS hA hK hN 0 rfl rfl rfl hl.1 rfl (Nat.le_of_ble_eq_true rfl) ⟨Nat.le_of_ble_eq_true rfl, Nat.le_of_ble_eq_true rfl⟩ (dg ddX5_carryOut 29 rfl) (fun H locs hP hD hS => ?_)
    refine lv_pop hx hb (dg ddX5_carryOut 30 rfl) rfl ?_
    refine lv_iconst (v := 2) hx hb (dg ddX5_carryOut 31 rfl) (by decide) ?_
    cases hf
    exact e_wi CX hr hlk rfl hP hD hS (dg ddX5_carryOut 32 rfl)
  have hf := it_f h10 hf
  by_cases h13 : m_cmd = 119
  · have hf := it_t h13 hf
    refine lv_lookup (off := 60) (tgt := 64) hx hb (dg ddX5_carryOut 2 rfl) (by decide) (by rw [h13]; decide) (by decide) ?_
    refine lv_aload_n hx hb (dg ddX5_carryOut 3 rfl) rfl (lv_at hl 0 rfl) ?_
    refine lv_aload_n hx hb (dg ddX5_carryOut 4 rfl) rfl (lv_at hl 0 rfl) ?_
    refine gf_RX5_213 CX hK hP 0 rfl rfl (dg ddX5_carryOut 5 rfl) ?_
    obtain ⟨r15, e14, hf⟩ := ob_some hf
    refine crw_vi CX hml (As := [.int m_to1]) (rest := []) (c_X5_join l D cy q m_thr m_kept m_rea m_det m_isv m_iit m_len m_at m_err m_wro m_cmd m_to1 m_to2 m_now m_sav m_ahe m_bef m_hst m_noi m_own m_inp m_to1 _ e14) lk_RX5_226 rfl rfl hRMX5_join hP hD hS hA hK hN 0 rfl rfl rfl hl.1 rfl (Nat.le_of_ble_eq_true rfl) ⟨Nat.le_of_ble_eq_true rfl, Nat.le_of_ble_eq_true rfl⟩ (dg ddX5_carryOut 6 rfl) (fun H locs hP hD hS => ?_)
    refine lv_pop hx hb (dg ddX5_carryOut 7 rfl) rfl ?_
    refine lv_iconst (v := 2) hx hb (dg ddX5_carryOut 8 rfl) (by decide) ?_
    cases hf
    exact e_wi CX hr hlk rfl hP hD hS (dg ddX5_carryOut 9 rfl)
  have hf := it_f h13 hf
  by_cases h16 : m_cmd = 120
  · have hf := it_t h16 hf
    refine lv_lookup (off := 86) (tgt := 90) hx hb (dg ddX5_carryOut 2 rfl) (by decide) (by rw [h16]; decide) (by decide) ?_
    refine lv_aload_n hx hb (dg ddX5_carryOut 19 rfl) rfl (lv_at hl 0 rfl) ?_
    refine lv_aload_n hx hb (dg ddX5_carryOut 20 rfl) rfl (lv_at hl 0 rfl) ?_
    refine gf_RX5_213 CX hK hP 0 rfl rfl (dg ddX5_carryOut 21 rfl) ?_
    obtain ⟨r18, e17, hf⟩ := ob_some hf
    refine crw_vi CX hml (As := [.int m_to1]) (rest := []) (c_X5_leave l D cy q m_thr m_kept m_rea m_det m_isv m_iit m_len m_at m_err m_wro m_cmd m_to1 m_to2 m_now m_sav m_ahe m_bef m_hst m_noi m_own m_inp m_to1 _ e17) lk_RX5_232 rfl rfl hRMX5_leave hP hD hS hA hK hN 0 rfl rfl rfl hl.1 rfl (Nat.le_of_ble_eq_true rfl) ⟨Nat.le_of_ble_eq_true rfl, Nat.le_of_ble_eq_true rfl⟩ (dg ddX5_carryOut 22 rfl) (fun H locs hP hD hS => ?_)
    refine lv_pop hx hb (dg ddX5_carryOut 23 rfl) rfl ?_
    refine lv_iconst (v := 2) hx hb (dg ddX5_carryOut 24 rfl) (by decide) ?_
    cases hf
    exact e_wi CX hr hlk rfl hP hD hS (dg ddX5_carryOut 25 rfl)
  have hf := it_f h16 hf
  refine lv_lookup (off := 130) (tgt := 134) hx hb (dg ddX5_carryOut 2 rfl) (by decide) (by have g0 : (m_cmd).toInt ≠ 97 := ne_ti h1 (by decide); have g1 : (m_cmd).toInt ≠ 99 := ne_ti h4 (by decide); have g2 : (m_cmd).toInt ≠ 100 := ne_ti h7 (by decide); have g3 : (m_cmd).toInt ≠ 115 := ne_ti h10 (by decide); have g4 : (m_cmd).toInt ≠ 119 := ne_ti h13 (by decide); have g5 : (m_cmd).toInt ≠ 120 := ne_ti h16 (by decide); have k0 := g0.symm; have k1 := g1.symm; have k2 := g2.symm; have k3 := g3.symm; have k4 := g4.symm; have k5 := g5.symm; simp [Op.lookupswitch.offset, List.find?, *]) (by decide) ?_
  refine lv_aload_n hx hb (dg ddX5_carryOut 47 rfl) rfl (lv_at hl 0 rfl) ?_
  refine lv_aload_n hx hb (dg ddX5_carryOut 48 rfl) rfl (lv_at hl 0 rfl) ?_
  refine gf_RX5_213 CX hK hP 0 rfl rfl (dg ddX5_carryOut 49 rfl) ?_
  obtain ⟨r20, e19, hf⟩ := ob_some hf
  refine crw_vi CX hml (As := [.int m_to1]) (rest := []) (c_X5_pass l D cy q m_thr m_kept m_rea m_det m_isv m_iit m_len m_at m_err m_wro m_cmd m_to1 m_to2 m_now m_sav m_ahe m_bef m_hst m_noi m_own m_inp m_to1 _ e19) lk_RX5_244 rfl rfl hRMX5_pass hP hD hS hA hK hN 0 rfl rfl rfl hl.1 rfl (Nat.le_of_ble_eq_true rfl) ⟨Nat.le_of_ble_eq_true rfl, Nat.le_of_ble_eq_true rfl⟩ (dg ddX5_carryOut 50 rfl) (fun H locs hP hD hS => ?_)
  refine lv_pop hx hb (dg ddX5_carryOut 51 rfl) rfl ?_
  refine lv_iconst (v := (-1)) hx hb (dg ddX5_carryOut 52 rfl) (by decide) ?_
  cases hf
  exact e_wi CX hr hlk rfl hP hD hS (dg ddX5_carryOut 53 rfl)
def f_X5_read_c113 (rec71 : Int32 → Int32 → Int32 → Int32 → Int32 → Int32 → Int32 → Int32 → Int32 → Int32 → Int32 → Int32 → Int32 → Int32 → Int32 → Int32 → (Nat → Int32) → (Nat → Int32) → (Nat → Nat → Int32) → (Nat → UInt32) → Option (Int32 × Int32 × Int32 × Int32 × Int32 × Int32 × Int32 × Int32 × Int32 × Int32 × Int32 × Int32 × Int32 × (Nat → Int32) × (Nat → Int32) × (Nat → Nat → Int32) × (Nat → UInt32))) (m_inp : Nat → Int32) (x1 : Int32) (x4 : Int32) (x5 : Int32) (t0 : Int32) (m_thr : Int32) (m_kept : Int32) (m_rea : Int32) (m_det : Int32) (m_iit : Int32) (m_len : Int32) (m_at : Int32) (m_err : Int32) (m_wro : Int32) (m_cmd : Int32) (m_to1 : Int32) (m_to2 : Int32) (m_now : Nat → Int32) (m_bef : Nat → Int32) (m_hst : Nat → Nat → Int32) (m_noi : Nat → UInt32) : Option (Int32 × Int32 × Int32 × Int32 × Int32 × Int32 × Int32 × Int32 × Int32 × Int32 × Int32 × Int32 × Int32 × (Nat → Int32) × (Nat → Int32) × (Nat → Nat → Int32) × (Nat → UInt32)) := if m_thr = x5 then (rec71 x1 t0 1 (x4 + 1) m_thr m_kept m_rea m_det m_iit m_len m_at m_err m_wro m_cmd m_to1 m_to2 m_now m_bef m_hst m_noi) else (rec71 x1 t0 0 (x4 + 1) m_thr m_kept m_rea m_det m_iit m_len m_at m_err m_wro m_cmd m_to1 m_to2 m_now m_bef m_hst m_noi)
def f_X5_read_c135  (m_inp : Nat → Int32) (x1 : Int32) (x2 : Int32) (x3 : Int32) (m_thr : Int32) (m_kept : Int32) (m_rea : Int32) (m_det : Int32) (m_iit : Int32) (m_len : Int32) (m_at : Int32) (m_err : Int32) (m_wro : Int32) (m_cmd : Int32) (m_to1 : Int32) (m_to2 : Int32) (m_now : Nat → Int32) (m_bef : Nat → Int32) (m_hst : Nat → Nat → Int32) (m_noi : Nat → UInt32) : Option (Int32 × Int32 × Int32 × Int32 × Int32 × Int32 × Int32 × Int32 × Int32 × Int32 × Int32 × Int32 × Int32 × (Nat → Int32) × (Nat → Int32) × (Nat → Nat → Int32) × (Nat → UInt32)) := if x2 = 0 then (ob (f_X5_copyRow m_bef m_now) fun r5 => (if x3 = 0 then (some (0, 1, m_kept, m_rea, m_det, 0, 0, m_at, m_err, m_wro, m_cmd, m_to1, m_to2, r5, m_bef, m_hst, m_noi)) else (some (0, 2, m_kept, m_rea, m_det, 0, 0, m_at, m_err, m_wro, m_cmd, m_to1, m_to2, r5, m_bef, m_hst, m_noi)))) else (ob (f_X5_remember_bef m_kept m_bef m_hst) fun r3 => (some (x1, 0, r3.1, m_rea, m_det, 0, 0, m_at, m_err, m_wro, m_cmd, m_to1, m_to2, m_now, m_bef, r3.2, m_noi)))
def f_X5_read_c71  (m_inp : Nat → Int32) : Nat → Int32 → Int32 → Int32 → Int32 → Int32 → Int32 → Int32 → Int32 → Int32 → Int32 → Int32 → Int32 → Int32 → Int32 → Int32 → Int32 → (Nat → Int32) → (Nat → Int32) → (Nat → Nat → Int32) → (Nat → UInt32) → Option (Int32 × Int32 × Int32 × Int32 × Int32 × Int32 × Int32 × Int32 × Int32 × Int32 × Int32 × Int32 × Int32 × (Nat → Int32) × (Nat → Int32) × (Nat → Nat → Int32) × (Nat → UInt32))
  | 0, _, _, _, _, _, _, _, _, _, _, _, _, _, _, _, _, _, _, _, _ => none
  | n + 1, x1, x2, x3, x4, m_thr, m_kept, m_rea, m_det, m_iit, m_len, m_at, m_err, m_wro, m_cmd, m_to1, m_to2, m_now, m_bef, m_hst, m_noi => if x1 ≤ x4 then (f_X5_read_c135 m_inp x1 x2 x3 m_thr m_kept m_rea m_det m_iit m_len m_at m_err m_wro m_cmd m_to1 m_to2 m_now m_bef m_hst m_noi) else (if x2 = 0 then (f_X5_read_c135 m_inp x1 x2 x3 m_thr m_kept m_rea m_det m_iit m_len m_at m_err m_wro m_cmd m_to1 m_to2 m_now m_bef m_hst m_noi) else (ob (f_X5_readOrder m_len m_at m_wro m_cmd m_to1 m_to2 m_inp) fun r4 => (ob (f_X5_carryOut m_thr m_kept m_rea m_det m_iit r4.2.2.1 r4.2.2.2.1 r4.2.2.2.2 m_now m_hst m_noi) fun r6 => (if r6.2.1 = 0 then (f_X5_read_c113 (f_X5_read_c71 m_inp n) m_inp x1 x4 r6.1 1 r6.2.1 r6.2.2.1 r6.2.2.2.1 r6.2.2.2.2.1 m_iit m_len (r4.1 + 1) m_err r4.2.1 r4.2.2.1 r4.2.2.2.1 r4.2.2.2.2 r6.2.2.2.2.2.1 m_bef r6.2.2.2.2.2.2.1 r6.2.2.2.2.2.2.2) else (f_X5_read_c113 (f_X5_read_c71 m_inp n) m_inp x1 x4 r6.1 0 r6.2.1 r6.2.2.1 r6.2.2.2.1 r6.2.2.2.2.1 m_iit m_len (r4.1 + 1) m_err r4.2.1 r4.2.2.1 r4.2.2.2.1 r4.2.2.2.2 r6.2.2.2.2.2.1 m_bef r6.2.2.2.2.2.2.1 r6.2.2.2.2.2.2.2)))))
def f_X5_read_c21  (m_inp : Nat → Int32) (x1 : Int32) (t0 : Int32) (m_thr : Int32) (m_kept : Int32) (m_rea : Int32) (m_det : Int32) (m_iit : Int32) (m_len : Int32) (m_at : Int32) (m_err : Int32) (m_wro : Int32) (m_cmd : Int32) (m_to1 : Int32) (m_to2 : Int32) (m_now : Nat → Int32) (m_bef : Nat → Int32) (m_hst : Nat → Nat → Int32) (m_noi : Nat → UInt32) : Option (Int32 × Int32 × Int32 × Int32 × Int32 × Int32 × Int32 × Int32 × Int32 × Int32 × Int32 × Int32 × Int32 × (Nat → Int32) × (Nat → Int32) × (Nat → Nat → Int32) × (Nat → UInt32)) := if m_wro = 0 then (ob (f_X5_copyRow m_now m_bef) fun r3 => (f_X5_read_c71 m_inp 4096 x1 1 0 0 m_thr m_kept m_rea m_det 1 m_len 0 t0 m_wro m_cmd m_to1 m_to2 m_now r3 m_hst m_noi)) else (some (0, 1, m_kept, m_rea, m_det, m_iit, 0, m_at, t0, m_wro, m_cmd, m_to1, m_to2, m_now, m_bef, m_hst, m_noi))
def f_X5_read (m_thr : Int32) (m_kept : Int32) (m_rea : Int32) (m_det : Int32) (m_iit : Int32) (m_len : Int32) (m_at : Int32) (m_err : Int32) (m_wro : Int32) (m_cmd : Int32) (m_to1 : Int32) (m_to2 : Int32) (m_now : Nat → Int32) (m_bef : Nat → Int32) (m_hst : Nat → Nat → Int32) (m_noi : Nat → UInt32) (m_inp : Nat → Int32) : Option (Int32 × Int32 × Int32 × Int32 × Int32 × Int32 × Int32 × Int32 × Int32 × Int32 × Int32 × Int32 × Int32 × (Nat → Int32) × (Nat → Int32) × (Nat → Nat → Int32) × (Nat → UInt32)) := ob (f_X5_countOrders m_len m_at m_wro m_cmd m_to1 m_to2 m_inp) fun r2 => (if r2.2.2.1 = 0 then (f_X5_read_c21 m_inp r2.1 (-1) m_thr m_kept m_rea m_det m_iit m_len r2.2.1 m_err r2.2.2.1 r2.2.2.2.1 r2.2.2.2.2.1 r2.2.2.2.2.2 m_now m_bef m_hst m_noi) else (f_X5_read_c21 m_inp r2.1 r2.2.1 m_thr m_kept m_rea m_det m_iit m_len r2.2.1 m_err r2.2.2.1 r2.2.2.2.1 r2.2.2.2.2.1 r2.2.2.2.2.2 m_now m_bef m_hst m_noi))
set_option maxHeartbeats 4000000 in
set_option maxRecDepth 100000 in
theorem c_X5_read (l : Launch) (D : va_G) (cy : Nat → ClassId) (q : Nat → Nat) (m_thr : Int32) (m_kept : Int32) (m_rea : Int32) (m_det : Int32) (m_isv : Int32) (m_iit : Int32) (m_len : Int32) (m_at : Int32) (m_err : Int32) (m_wro : Int32) (m_cmd : Int32) (m_to1 : Int32) (m_to2 : Int32) (m_now : Nat → Int32) (m_sav : Nat → Int32) (m_ahe : Nat → Int32) (m_bef : Nat → Int32) (m_hst : Nat → Nat → Int32) (m_noi : Nat → UInt32) (m_own : Nat → UInt32) (m_inp : Nat → Int32) (sz : Nat) {res : Int32 × Int32 × Int32 × Int32 × Int32 × Int32 × Int32 × Int32 × Int32 × Int32 × Int32 × Int32 × Int32 × (Nat → Int32) × (Nat → Int32) × (Nat → Nat → Int32) × (Nat → UInt32)} (hf : f_X5_read m_thr m_kept m_rea m_det m_iit m_len m_at m_err m_wro m_cmd m_to1 m_to2 m_now m_bef m_hst m_noi m_inp = some res) : Met l yX5_read (.code yX5_read cX5_read 6 (some .int) :: lw_all) { frames := 9, cells := 0, slots := 0, locals := 186 } (va_Pc [.ref (q 0)] (sW D cy (wX5 q cy m_thr m_kept m_rea m_det m_isv m_iit m_len m_at m_err m_wro m_cmd m_to1 m_to2 m_now m_sav m_ahe m_bef m_hst m_noi m_own m_inp) sz)) (qI D (wX5 q cy res.2.1 res.2.2.1 res.2.2.2.1 res.2.2.2.2.1 m_isv res.2.2.2.2.2.1 res.2.2.2.2.2.2.1 res.2.2.2.2.2.2.2.1 res.2.2.2.2.2.2.2.2.1 res.2.2.2.2.2.2.2.2.2.1 res.2.2.2.2.2.2.2.2.2.2.1 res.2.2.2.2.2.2.2.2.2.2.2.1 res.2.2.2.2.2.2.2.2.2.2.2.2.1 res.2.2.2.2.2.2.2.2.2.2.2.2.2.1 m_sav m_ahe res.2.2.2.2.2.2.2.2.2.2.2.2.2.2.1 res.2.2.2.2.2.2.2.2.2.2.2.2.2.2.2.1 res.2.2.2.2.2.2.2.2.2.2.2.2.2.2.2.2 m_own m_inp) res.1 (va_A (wX5 q cy m_thr m_kept m_rea m_det m_isv m_iit m_len m_at m_err m_wro m_cmd m_to1 m_to2 m_now m_sav m_ahe m_bef m_hst m_noi m_own m_inp) sz)) 0 0 (va_A (wX5 q cy m_thr m_kept m_rea m_det m_isv m_iit m_len m_at m_err m_wro m_cmd m_to1 m_to2 m_now m_sav m_ahe m_bef m_hst m_noi m_own m_inp) sz) := by
  refine mk_rw (Qc := qI D (wX5 q cy res.2.1 res.2.2.1 res.2.2.2.1 res.2.2.2.2.1 m_isv res.2.2.2.2.2.1 res.2.2.2.2.2.2.1 res.2.2.2.2.2.2.2.1 res.2.2.2.2.2.2.2.2.1 res.2.2.2.2.2.2.2.2.2.1 res.2.2.2.2.2.2.2.2.2.2.1 res.2.2.2.2.2.2.2.2.2.2.2.1 res.2.2.2.2.2.2.2.2.2.2.2.2.1 res.2.2.2.2.2.2.2.2.2.2.2.2.2.1 m_sav m_ahe res.2.2.2.2.2.2.2.2.2.2.2.2.2.2.1 res.2.2.2.2.2.2.2.2.2.2.2.2.2.2.2.1 res.2.2.2.2.2.2.2.2.2.2.2.2.2.2.2.2 m_own m_inp) res.1) (Rc := RX5) (by decide +kernel) rfl (Nat.le_of_ble_eq_true rfl) ?_
  intro p e s m args below meth c ls A CX hml hr hlk hK hN hP hD hS hA hl
  have hx := CX.1
  have hb := CX.2.1
  have hRMX5_carryOut : (⟨8, 0, 0, 166⟩ : Room).frames + 1 ≤ (⟨9, 0, 0, 186⟩ : Room).frames ∧ 8 + (1 + 11) + (⟨8, 0, 0, 166⟩ : Room).locals ≤ (⟨9, 0, 0, 186⟩ : Room).locals := ⟨Nat.le_of_ble_eq_true rfl, Nat.le_of_ble_eq_true rfl⟩
  have hRMX5_copyRow : (⟨1, 0, 0, 12⟩ : Room).frames + 1 ≤ (⟨9, 0, 0, 186⟩ : Room).frames ∧ 8 + (3 + 11) + (⟨1, 0, 0, 12⟩ : Room).locals ≤ (⟨9, 0, 0, 186⟩ : Room).locals := ⟨Nat.le_of_ble_eq_true rfl, Nat.le_of_ble_eq_true rfl⟩
  have hRMX5_countOrders : (⟨5, 0, 0, 99⟩ : Room).frames + 1 ≤ (⟨9, 0, 0, 186⟩ : Room).frames ∧ 8 + (2 + 11) + (⟨5, 0, 0, 99⟩ : Room).locals ≤ (⟨9, 0, 0, 186⟩ : Room).locals := ⟨Nat.le_of_ble_eq_true rfl, Nat.le_of_ble_eq_true rfl⟩
  have hRMX5_readOrder : (⟨4, 0, 0, 79⟩ : Room).frames + 1 ≤ (⟨9, 0, 0, 186⟩ : Room).frames ∧ 8 + (1 + 11) + (⟨4, 0, 0, 79⟩ : Room).locals ≤ (⟨9, 0, 0, 186⟩ : Room).locals := ⟨Nat.le_of_ble_eq_true rfl, Nat.le_of_ble_eq_true rfl⟩
  have hRMX5_remember_bef : (⟨2, 0, 0, 34⟩ : Room).frames + 1 ≤ (⟨9, 0, 0, 186⟩ : Room).frames ∧ 8 + (3 + 11) + (⟨2, 0, 0, 34⟩ : Room).locals ≤ (⟨9, 0, 0, 186⟩ : Room).locals := ⟨Nat.le_of_ble_eq_true rfl, Nat.le_of_ble_eq_true rfl⟩
  have hl0 := hl
  have K113 : ∀ (rec71 : Int32 → Int32 → Int32 → Int32 → Int32 → Int32 → Int32 → Int32 → Int32 → Int32 → Int32 → Int32 → Int32 → Int32 → Int32 → Int32 → (Nat → Int32) → (Nat → Int32) → (Nat → Nat → Int32) → (Nat → UInt32) → Option (Int32 × Int32 × Int32 × Int32 × Int32 × Int32 × Int32 × Int32 × Int32 × Int32 × Int32 × Int32 × Int32 × (Nat → Int32) × (Nat → Int32) × (Nat → Nat → Int32) × (Nat → UInt32))) (hrec71 : ∀ (x1 : Int32) (x2 : Int32) (x3 : Int32) (x4 : Int32) (m_thr : Int32) (m_kept : Int32) (m_rea : Int32) (m_det : Int32) (m_iit : Int32) (m_len : Int32) (m_at : Int32) (m_err : Int32) (m_wro : Int32) (m_cmd : Int32) (m_to1 : Int32) (m_to2 : Int32) (m_now : Nat → Int32) (m_bef : Nat → Int32) (m_hst : Nat → Nat → Int32) (m_noi : Nat → UInt32) (H : Heap) (locs : List Loc) (hP : va_P D vwCl (wX5 q cy m_thr m_kept m_rea m_det m_isv m_iit m_len m_at m_err m_wro m_cmd m_to1 m_to2 m_now m_sav m_ahe m_bef m_hst m_noi m_own m_inp) H) (hD : va_D A (wX5 q cy m_thr m_kept m_rea m_det m_isv m_iit m_len m_at m_err m_wro m_cmd m_to1 m_to2 m_now m_sav m_ahe m_bef m_hst m_noi m_own m_inp)) (hS : va_S A s.heap H locs) (ls : Array Slot) (hl : lv_has ls 6 [(0, .ref (q 0)), (1, .int x1), (2, .int x2), (3, .int x3), (4, .int x4)]) (hf : rec71 x1 x2 x3 x4 m_thr m_kept m_rea m_det m_iit m_len m_at m_err m_wro m_cmd m_to1 m_to2 m_now m_bef m_hst m_noi = some res), W p l e ⟨9, 0, 0, 186⟩ s m args below meth c H locs 0 0 (MQ below (qI D (wX5 q cy res.2.1 res.2.2.1 res.2.2.2.1 res.2.2.2.2.1 m_isv res.2.2.2.2.2.1 res.2.2.2.2.2.2.1 res.2.2.2.2.2.2.2.1 res.2.2.2.2.2.2.2.2.1 res.2.2.2.2.2.2.2.2.2.1 res.2.2.2.2.2.2.2.2.2.2.1 res.2.2.2.2.2.2.2.2.2.2.2.1 res.2.2.2.2.2.2.2.2.2.2.2.2.1 res.2.2.2.2.2.2.2.2.2.2.2.2.2.1 m_sav m_ahe res.2.2.2.2.2.2.2.2.2.2.2.2.2.2.1 res.2.2.2.2.2.2.2.2.2.2.2.2.2.2.2.1 res.2.2.2.2.2.2.2.2.2.2.2.2.2.2.2.2 m_own m_inp) res.1 A) args s 0 0 A) (F0 m 71 ls [])), ∀ (x1 : Int32) (x4 : Int32) (x5 : Int32) (t0 : Int32) (m_thr : Int32) (m_kept : Int32) (m_rea : Int32) (m_det : Int32) (m_iit : Int32) (m_len : Int32) (m_at : Int32) (m_err : Int32) (m_wro : Int32) (m_cmd : Int32) (m_to1 : Int32) (m_to2 : Int32) (m_now : Nat → Int32) (m_bef : Nat → Int32) (m_hst : Nat → Nat → Int32) (m_noi : Nat → UInt32) (H : Heap) (locs : List Loc) (hP : va_P D vwCl (wX5 q cy m_thr m_kept m_rea m_det m_isv m_iit m_len m_at m_err m_wro m_cmd m_to1 m_to2 m_now m_sav m_ahe m_bef m_hst m_noi m_own m_inp) H) (hD : va_D A (wX5 q cy m_thr m_kept m_rea m_det m_isv m_iit m_len m_at m_err m_wro m_cmd m_to1 m_to2 m_now m_sav m_ahe m_bef m_hst m_noi m_own m_inp)) (hS : va_S A s.heap H locs) (ls : Array Slot) (hl : lv_has ls 6 [(0, .ref (q 0)), (1, .int x1), (4, .int x4), (5, .int x5)]) (hf : f_X5_read_c113 rec71 m_inp x1 x4 x5 t0 m_thr m_kept m_rea m_det m_iit m_len m_at m_err m_wro m_cmd m_to1 m_to2 m_now m_bef m_hst m_noi = some res), W p l e ⟨9, 0, 0, 186⟩ s m args below meth c H locs 0 0 (MQ below (qI D (wX5 q cy res.2.1 res.2.2.1 res.2.2.2.1 res.2.2.2.2.1 m_isv res.2.2.2.2.2.1 res.2.2.2.2.2.2.1 res.2.2.2.2.2.2.2.1 res.2.2.2.2.2.2.2.2.1 res.2.2.2.2.2.2.2.2.2.1 res.2.2.2.2.2.2.2.2.2.2.1 res.2.2.2.2.2.2.2.2.2.2.2.1 res.2.2.2.2.2.2.2.2.2.2.2.2.1 res.2.2.2.2.2.2.2.2.2.2.2.2.2.1 m_sav m_ahe res.2.2.2.2.2.2.2.2.2.2.2.2.2.2.1 res.2.2.2.2.2.2.2.2.2.2.2.2.2.2.2.1 res.2.2.2.2.2.2.2.2.2.2.2.2.2.2.2.2 m_own m_inp) res.1 A) args s 0 0 A) (F0 m 113 ls [.int t0]) := by
    intro rec71 hrec71 x1 x4 x5 t0 m_thr m_kept m_rea m_det m_iit m_len m_at m_err m_wro m_cmd m_to1 m_to2 m_now m_bef m_hst m_noi H locs hP hD hS ls hl hf
    refine lv_istore_n (lv' := [(2, .int t0), (0, .ref (q 0)), (1, .int x1), (4, .int x4), (5, .int x5)]) hx hb (dg ddX5_read 62 rfl) rfl hl (by decide) rfl (fun ls hl => ?_)
    refine lv_aload_n hx hb (dg ddX5_read 63 rfl) rfl (lv_at hl 1 rfl) ?_
    refine gf_RX5_53 CX hK hP 0 rfl rfl (dg ddX5_read 64 rfl) ?_
    refine lv_iload hx hb (dg ddX5_read 65 rfl) (lv_at hl 4 rfl) ?_
    refine lv_icmp_ne (tgt := 127) hx hb (dg ddX5_read 66 rfl) (by decide) (fun h1 => ?_) (fun h1 => ?_)
    · have hf := it_f h1 hf
      refine lv_iconst (v := 0) hx hb (dg ddX5_read 69 rfl) (by decide) ?_
      refine lv_istore_n (lv' := [(3, .int 0), (2, .int t0), (0, .ref (q 0)), (1, .int x1), (4, .int x4), (5, .int x5)]) hx hb (dg ddX5_read 70 rfl) rfl hl (by decide) rfl (fun ls hl => ?_)
      refine lv_iinc (v := x4 + 1) (lv' := [(4, .int (x4 + 1)), (3, .int 0), (2, .int t0), (0, .ref (q 0)), (1, .int x1), (5, .int x5)]) hx hb (dg ddX5_read 71 rfl) hl (k := 4) rfl (congrArg (HAdd.hAdd x4) (by decide)) (by decide) rfl (fun ls hl => ?_)
      refine lv_goto (tgt := 71) hx hb (dg ddX5_read 72 rfl) (by decide) ?_
      exact hrec71 x1 t0 0 (x4 + 1) m_thr m_kept m_rea m_det m_iit m_len m_at m_err m_wro m_cmd m_to1 m_to2 m_now m_bef m_hst m_noi _ _ hP hD hS _ (lv_sub hl [3, 4, 2, 1, 0] rfl) hf
    · have hf := it_t h1 hf
      refine lv_iconst (v := 1) hx hb (dg ddX5_read 67 rfl) (by decide) ?_
      refine lv_goto (tgt := 128) hx hb (dg ddX5_read 68 rfl) (by decide) ?_
      refine lv_istore_n (lv' := [(3, .int 1), (2, .int t0), (0, .ref (q 0)), (1, .int x1), (4, .int x4), (5, .int x5)]) hx hb (dg ddX5_read 70 rfl) rfl hl (by decide) rfl (fun ls hl => ?_)
      refine lv_iinc (v := x4 + 1) (lv' := [(4, .int (x4 + 1)), (3, .int 1), (2, .int t0), (0, .ref (q 0)), (1, .int x1), (5, .int x5)]) hx hb (dg ddX5_read 71 rfl) hl (k := 4) rfl (congrArg (HAdd.hAdd x4) (by decide)) (by decide) rfl (fun ls hl => ?_)
      refine lv_goto (tgt := 71) hx hb (dg ddX5_read 72 rfl) (by decide) ?_
      exact hrec71 x1 t0 1 (x4 + 1) m_thr m_kept m_rea m_det m_iit m_len m_at m_err m_wro m_cmd m_to1 m_to2 m_now m_bef m_hst m_noi _ _ hP hD hS _ (lv_sub hl [3, 4, 2, 1, 0] rfl) hf
  have K135 : ∀ (x1 : Int32) (x2 : Int32) (x3 : Int32) (m_thr : Int32) (m_kept : Int32) (m_rea : Int32) (m_det : Int32) (m_iit : Int32) (m_len : Int32) (m_at : Int32) (m_err : Int32) (m_wro : Int32) (m_cmd : Int32) (m_to1 : Int32) (m_to2 : Int32) (m_now : Nat → Int32) (m_bef : Nat → Int32) (m_hst : Nat → Nat → Int32) (m_noi : Nat → UInt32) (H : Heap) (locs : List Loc) (hP : va_P D vwCl (wX5 q cy m_thr m_kept m_rea m_det m_isv m_iit m_len m_at m_err m_wro m_cmd m_to1 m_to2 m_now m_sav m_ahe m_bef m_hst m_noi m_own m_inp) H) (hD : va_D A (wX5 q cy m_thr m_kept m_rea m_det m_isv m_iit m_len m_at m_err m_wro m_cmd m_to1 m_to2 m_now m_sav m_ahe m_bef m_hst m_noi m_own m_inp)) (hS : va_S A s.heap H locs) (ls : Array Slot) (hl : lv_has ls 6 [(0, .ref (q 0)), (1, .int x1), (2, .int x2), (3, .int x3)]) (hf : f_X5_read_c135 m_inp x1 x2 x3 m_thr m_kept m_rea m_det m_iit m_len m_at m_err m_wro m_cmd m_to1 m_to2 m_now m_bef m_hst m_noi = some res), W p l e ⟨9, 0, 0, 186⟩ s m args below meth c H locs 0 0 (MQ below (qI D (wX5 q cy res.2.1 res.2.2.1 res.2.2.2.1 res.2.2.2.2.1 m_isv res.2.2.2.2.2.1 res.2.2.2.2.2.2.1 res.2.2.2.2.2.2.2.1 res.2.2.2.2.2.2.2.2.1 res.2.2.2.2.2.2.2.2.2.1 res.2.2.2.2.2.2.2.2.2.2.1 res.2.2.2.2.2.2.2.2.2.2.2.1 res.2.2.2.2.2.2.2.2.2.2.2.2.1 res.2.2.2.2.2.2.2.2.2.2.2.2.2.1 m_sav m_ahe res.2.2.2.2.2.2.2.2.2.2.2.2.2.2.1 res.2.2.2.2.2.2.2.2.2.2.2.2.2.2.2.1 res.2.2.2.2.2.2.2.2.2.2.2.2.2.2.2.2 m_own m_inp) res.1 A) args s 0 0 A) (F0 m 135 ls []) := by
    intro x1 x2 x3 m_thr m_kept m_rea m_det m_iit m_len m_at m_err m_wro m_cmd m_to1 m_to2 m_now m_bef m_hst m_noi H locs hP hD hS ls hl hf
    refine lv_aload_n hx hb (dg ddX5_read 73 rfl) rfl (lv_at hl 0 rfl) ?_
    refine lv_iconst (v := 0) hx hb (dg ddX5_read 74 rfl) (by decide) ?_
    refine pf_RX5_69 CX hK hP hD hS 0 rfl (isZ_n (by decide : isZ 0 = true)) (isZ_f (by decide : isZ 0 = true)) (dg ddX5_read 75 rfl) (Nat.le_of_ble_eq_true rfl) (fun H locs hP hD hS => ?_)
    have hP : va_P D vwCl (wX5 q cy m_thr m_kept m_rea m_det m_isv 0 m_len m_at m_err m_wro m_cmd m_to1 m_to2 m_now m_sav m_ahe m_bef m_hst m_noi m_own m_inp) H := hP
    have hD : va_D A (wX5 q cy m_thr m_kept m_rea m_det m_isv 0 m_len m_at m_err m_wro m_cmd m_to1 m_to2 m_now m_sav m_ahe m_bef m_hst m_noi m_own m_inp) := hD
    refine lv_aload_n hx hb (dg ddX5_read 76 rfl) rfl (lv_at hl 0 rfl) ?_
    refine lv_iconst (v := 0) hx hb (dg ddX5_read 77 rfl) (by decide) ?_
    refine pf_RX5_189 CX hK hP hD hS 0 rfl (dg ddX5_read 78 rfl) (Nat.le_of_ble_eq_true rfl) (fun H locs hP hD hS => ?_)
    have hP : va_P D vwCl (wX5 q cy m_thr m_kept m_rea m_det m_isv 0 0 m_at m_err m_wro m_cmd m_to1 m_to2 m_now m_sav m_ahe m_bef m_hst m_noi m_own m_inp) H := hP
    have hD : va_D A (wX5 q cy m_thr m_kept m_rea m_det m_isv 0 0 m_at m_err m_wro m_cmd m_to1 m_to2 m_now m_sav m_ahe m_bef m_hst m_noi m_own m_inp) := hD
    refine lv_iload_n hx hb (dg ddX5_read 79 rfl) rfl (lv_at hl 2 rfl) ?_
    refine lv_if_ne (tgt := 175) hx hb (dg ddX5_read 80 rfl) (by decide) (fun h1 => ?_) (fun h1 => ?_)
    · have hf := it_f h1 hf
      refine lv_aload_n hx hb (dg ddX5_read 95 rfl) rfl (lv_at hl 0 rfl) ?_
      refine lv_iconst (v := 0) hx hb (dg ddX5_read 96 rfl) (by decide) ?_
      refine pf_RX5_53 CX hK hP hD hS 0 rfl (dg ddX5_read 97 rfl) (Nat.le_of_ble_eq_true rfl) (fun H locs hP hD hS => ?_)
      have hP : va_P D vwCl (wX5 q cy 0 m_kept m_rea m_det m_isv 0 0 m_at m_err m_wro m_cmd m_to1 m_to2 m_now m_sav m_ahe m_bef m_hst m_noi m_own m_inp) H := hP
      have hD : va_D A (wX5 q cy 0 m_kept m_rea m_det m_isv 0 0 m_at m_err m_wro m_cmd m_to1 m_to2 m_now m_sav m_ahe m_bef m_hst m_noi m_own m_inp) := hD
      refine lv_aload_n hx hb (dg ddX5_read 98 rfl) rfl (lv_at hl 0 rfl) ?_
      refine lv_aload_n hx hb (dg ddX5_read 99 rfl) rfl (lv_at hl 0 rfl) ?_
      refine gf_RX5_19 CX hK hP 0 rfl rfl (dg ddX5_read 100 rfl) ?_
      obtain ⟨r3, e2, hf⟩ := ob_some hf
      refine crw_vv CX hml (As := [.ref (q 4)]) (rest := []) (c_X5_remember_bef l D cy q 0 m_kept m_rea m_det m_isv 0 0 m_at m_err m_wro m_cmd m_to1 m_to2 m_now m_sav m_ahe m_bef m_hst m_noi m_own m_inp _ e2) lk_RX5_73 rfl rfl hRMX5_remember_bef hP hD hS hA hK hN 0 rfl rfl rfl hl.1 rfl (Nat.le_of_ble_eq_true rfl) ⟨Nat.le_of_ble_eq_true rfl, Nat.le_of_ble_eq_true rfl⟩ (dg ddX5_read 101 rfl) (fun H locs hP hD hS => ?_)
      refine lv_iload_n hx hb (dg ddX5_read 102 rfl) rfl (lv_at hl 1 rfl) ?_
      cases hf
      exact e_wi CX hr hlk rfl hP hD hS (dg ddX5_read 103 rfl)
    · have hf := it_t h1 hf
      refine lv_aload_n hx hb (dg ddX5_read 81 rfl) rfl (lv_at hl 0 rfl) ?_
      refine gf_RX5_19 CX hK hP 0 rfl rfl (dg ddX5_read 82 rfl) ?_
      refine lv_aload_n hx hb (dg ddX5_read 83 rfl) rfl (lv_at hl 0 rfl) ?_
      refine gf_RX5_9 CX hK hP 0 rfl rfl (dg ddX5_read 84 rfl) ?_
      obtain ⟨r5, e4, hf⟩ := ob_some hf
      refine crs2 CX hml (As := [.ref (q 4), .ref (q 1)]) (rest := []) (ws := (wX5 q cy m_thr m_kept m_rea m_det m_isv 0 0 m_at m_err m_wro m_cmd m_to1 m_to2 m_now m_sav m_ahe m_bef m_hst m_noi m_own m_inp)) (wsn := (wX5 q cy m_thr m_kept m_rea m_det m_isv 0 0 m_at m_err m_wro m_cmd m_to1 m_to2 r5 m_sav m_ahe m_bef m_hst m_noi m_own m_inp)) (k1 := 4) (k2 := 1) (c_X5_copyRow l D cy (q 4) (q 1) m_bef m_now _ e4) lk_RX5_65 rfl rfl hRMX5_copyRow hP hD hS hA hK hN rfl rfl (by decide) rfl rfl hl.1 rfl (Nat.le_of_ble_eq_true rfl) ⟨Nat.le_of_ble_eq_true rfl, Nat.le_of_ble_eq_true rfl⟩ (dg ddX5_read 85 rfl) (fun H locs hP hD hS => ?_)
      refine lv_aload_n hx hb (dg ddX5_read 86 rfl) rfl (lv_at hl 0 rfl) ?_
      refine lv_iload_n hx hb (dg ddX5_read 87 rfl) rfl (lv_at hl 3 rfl) ?_
      refine lv_if_eq (tgt := 169) hx hb (dg ddX5_read 88 rfl) (by decide) (fun h6 => ?_) (fun h6 => ?_)
      · have hf := it_t h6 hf
        refine lv_iconst (v := 1) hx hb (dg ddX5_read 91 rfl) (by decide) ?_
        refine pf_RX5_53 CX hK hP hD hS 0 rfl (dg ddX5_read 92 rfl) (Nat.le_of_ble_eq_true rfl) (fun H locs hP hD hS => ?_)
        have hP : va_P D vwCl (wX5 q cy 1 m_kept m_rea m_det m_isv 0 0 m_at m_err m_wro m_cmd m_to1 m_to2 r5 m_sav m_ahe m_bef m_hst m_noi m_own m_inp) H := hP
        have hD : va_D A (wX5 q cy 1 m_kept m_rea m_det m_isv 0 0 m_at m_err m_wro m_cmd m_to1 m_to2 r5 m_sav m_ahe m_bef m_hst m_noi m_own m_inp) := hD
        refine lv_iconst (v := 0) hx hb (dg ddX5_read 93 rfl) (by decide) ?_
        cases hf
        exact e_wi CX hr hlk rfl hP hD hS (dg ddX5_read 94 rfl)
      · have hf := it_f h6 hf
        refine lv_iconst (v := 2) hx hb (dg ddX5_read 89 rfl) (by decide) ?_
        refine lv_goto (tgt := 170) hx hb (dg ddX5_read 90 rfl) (by decide) ?_
        refine pf_RX5_53 CX hK hP hD hS 0 rfl (dg ddX5_read 92 rfl) (Nat.le_of_ble_eq_true rfl) (fun H locs hP hD hS => ?_)
        have hP : va_P D vwCl (wX5 q cy 2 m_kept m_rea m_det m_isv 0 0 m_at m_err m_wro m_cmd m_to1 m_to2 r5 m_sav m_ahe m_bef m_hst m_noi m_own m_inp) H := hP
        have hD : va_D A (wX5 q cy 2 m_kept m_rea m_det m_isv 0 0 m_at m_err m_wro m_cmd m_to1 m_to2 r5 m_sav m_ahe m_bef m_hst m_noi m_own m_inp) := hD
        refine lv_iconst (v := 0) hx hb (dg ddX5_read 93 rfl) (by decide) ?_
        cases hf
        exact e_wi CX hr hlk rfl hP hD hS (dg ddX5_read 94 rfl)
  have K71 : ∀ (n : Nat), ∀ (x1 : Int32) (x2 : Int32) (x3 : Int32) (x4 : Int32) (m_thr : Int32) (m_kept : Int32) (m_rea : Int32) (m_det : Int32) (m_iit : Int32) (m_len : Int32) (m_at : Int32) (m_err : Int32) (m_wro : Int32) (m_cmd : Int32) (m_to1 : Int32) (m_to2 : Int32) (m_now : Nat → Int32) (m_bef : Nat → Int32) (m_hst : Nat → Nat → Int32) (m_noi : Nat → UInt32) (H : Heap) (locs : List Loc) (hP : va_P D vwCl (wX5 q cy m_thr m_kept m_rea m_det m_isv m_iit m_len m_at m_err m_wro m_cmd m_to1 m_to2 m_now m_sav m_ahe m_bef m_hst m_noi m_own m_inp) H) (hD : va_D A (wX5 q cy m_thr m_kept m_rea m_det m_isv m_iit m_len m_at m_err m_wro m_cmd m_to1 m_to2 m_now m_sav m_ahe m_bef m_hst m_noi m_own m_inp)) (hS : va_S A s.heap H locs) (ls : Array Slot) (hl : lv_has ls 6 [(0, .ref (q 0)), (1, .int x1), (2, .int x2), (3, .int x3), (4, .int x4)]) (hf : f_X5_read_c71 m_inp n x1 x2 x3 x4 m_thr m_kept m_rea m_det m_iit m_len m_at m_err m_wro m_cmd m_to1 m_to2 m_now m_bef m_hst m_noi = some res), W p l e ⟨9, 0, 0, 186⟩ s m args below meth c H locs 0 0 (MQ below (qI D (wX5 q cy res.2.1 res.2.2.1 res.2.2.2.1 res.2.2.2.2.1 m_isv res.2.2.2.2.2.1 res.2.2.2.2.2.2.1 res.2.2.2.2.2.2.2.1 res.2.2.2.2.2.2.2.2.1 res.2.2.2.2.2.2.2.2.2.1 res.2.2.2.2.2.2.2.2.2.2.1 res.2.2.2.2.2.2.2.2.2.2.2.1 res.2.2.2.2.2.2.2.2.2.2.2.2.1 res.2.2.2.2.2.2.2.2.2.2.2.2.2.1 m_sav m_ahe res.2.2.2.2.2.2.2.2.2.2.2.2.2.2.1 res.2.2.2.2.2.2.2.2.2.2.2.2.2.2.2.1 res.2.2.2.2.2.2.2.2.2.2.2.2.2.2.2.2 m_own m_inp) res.1 A) args s 0 0 A) (F0 m 71 ls []) := by
    intro n
    induction n with
    | zero => intro x1 x2 x3 x4 m_thr m_kept m_rea m_det m_iit m_len m_at m_err m_wro m_cmd m_to1 m_to2 m_now m_bef m_hst m_noi H locs hP hD hS ls hl hf; cases (show none = some res from hf)
    | succ n ih =>
    intro x1 x2 x3 x4 m_thr m_kept m_rea m_det m_iit m_len m_at m_err m_wro m_cmd m_to1 m_to2 m_now m_bef m_hst m_noi H locs hP hD hS ls hl hf
    refine lv_iload hx hb (dg ddX5_read 40 rfl) (lv_at hl 4 rfl) ?_
    refine lv_iload_n hx hb (dg ddX5_read 41 rfl) rfl (lv_at hl 1 rfl) ?_
    refine lv_icmp_ge (tgt := 135) hx hb (dg ddX5_read 42 rfl) (by decide) (fun h1 => ?_) (fun h1 => ?_)
    · have hf := it_t h1 hf
      exact K135  x1 x2 x3 m_thr m_kept m_rea m_det m_iit m_len m_at m_err m_wro m_cmd m_to1 m_to2 m_now m_bef m_hst m_noi _ _ hP hD hS _ (lv_sub hl [0, 1, 2, 3] rfl) hf
    · have hf := it_f h1 hf
      refine lv_iload_n hx hb (dg ddX5_read 43 rfl) rfl (lv_at hl 2 rfl) ?_
      refine lv_if_eq (tgt := 135) hx hb (dg ddX5_read 44 rfl) (by decide) (fun h2 => ?_) (fun h2 => ?_)
      · have hf := it_t h2 hf
        exact K135  x1 x2 x3 m_thr m_kept m_rea m_det m_iit m_len m_at m_err m_wro m_cmd m_to1 m_to2 m_now m_bef m_hst m_noi _ _ hP hD hS _ (lv_sub hl [0, 1, 2, 3] rfl) hf
      · have hf := it_f h2 hf
        refine lv_aload_n hx hb (dg ddX5_read 45 rfl) rfl (lv_at hl 0 rfl) ?_
        obtain ⟨r4, e3, hf⟩ := ob_some hf
        refine crw_vv CX hml (As := []) (rest := []) (c_X5_readOrder l D cy q m_thr m_kept m_rea m_det m_isv m_iit m_len m_at m_err m_wro m_cmd m_to1 m_to2 m_now m_sav m_ahe m_bef m_hst m_noi m_own m_inp _ e3) lk_RX5_223 rfl rfl hRMX5_readOrder hP hD hS hA hK hN 0 rfl rfl rfl hl.1 rfl (Nat.le_of_ble_eq_true rfl) ⟨Nat.le_of_ble_eq_true rfl, Nat.le_of_ble_eq_true rfl⟩ (dg ddX5_read 46 rfl) (fun H locs hP hD hS => ?_)
        refine lv_aload_n hx hb (dg ddX5_read 47 rfl) rfl (lv_at hl 0 rfl) ?_
        refine lv_dup hx hb (dg ddX5_read 48 rfl) rfl ?_
        refine gf_RX5_195 CX hK hP 0 rfl rfl (dg ddX5_read 49 rfl) ?_
        refine lv_iconst (v := 1) hx hb (dg ddX5_read 50 rfl) (by decide) ?_
        refine lv_iadd hx hb (dg ddX5_read 51 rfl) ?_
        refine pf_RX5_195 CX hK hP hD hS 0 rfl (dg ddX5_read 52 rfl) (Nat.le_of_ble_eq_true rfl) (fun H locs hP hD hS => ?_)
        have hP : va_P D vwCl (wX5 q cy m_thr m_kept m_rea m_det m_isv m_iit m_len (r4.1 + 1) m_err r4.2.1 r4.2.2.1 r4.2.2.2.1 r4.2.2.2.2 m_now m_sav m_ahe m_bef m_hst m_noi m_own m_inp) H := hP
        have hD : va_D A (wX5 q cy m_thr m_kept m_rea m_det m_isv m_iit m_len (r4.1 + 1) m_err r4.2.1 r4.2.2.1 r4.2.2.2.1 r4.2.2.2.2 m_now m_sav m_ahe m_bef m_hst m_noi m_own m_inp) := hD
        refine lv_aload_n hx hb (dg ddX5_read 53 rfl) rfl (lv_at hl 0 rfl) ?_
        obtain ⟨r6, e5, hf⟩ := ob_some hf
        refine crw_vi CX hml (As := []) (rest := []) (c_X5_carryOut l D cy q m_thr m_kept m_rea m_det m_isv m_iit m_len (r4.1 + 1) m_err r4.2.1 r4.2.2.1 r4.2.2.2.1 r4.2.2.2.2 m_now m_sav m_ahe m_bef m_hst m_noi m_own m_inp _ e5) lk_RX5_250 rfl rfl hRMX5_carryOut hP hD hS hA hK hN 0 rfl rfl rfl hl.1 rfl (Nat.le_of_ble_eq_true rfl) ⟨Nat.le_of_ble_eq_true rfl, Nat.le_of_ble_eq_true rfl⟩ (dg ddX5_read 54 rfl) (fun H locs hP hD hS => ?_)
        refine lv_istore (lv' := [(5, .int r6.1), (0, .ref (q 0)), (1, .int x1), (2, .int x2), (3, .int x3), (4, .int x4)]) hx hb (dg ddX5_read 55 rfl) hl (by decide) rfl (fun ls hl => ?_)
        refine lv_aload_n hx hb (dg ddX5_read 56 rfl) rfl (lv_at hl 1 rfl) ?_
        refine gf_RX5_53 CX hK hP 0 rfl rfl (dg ddX5_read 57 rfl) ?_
        refine lv_if_ne (tgt := 112) hx hb (dg ddX5_read 58 rfl) (by decide) (fun h7 => ?_) (fun h7 => ?_)
        · have hf := it_f h7 hf
          refine lv_iconst (v := 0) hx hb (dg ddX5_read 61 rfl) (by decide) ?_
          exact K113 (f_X5_read_c71 m_inp n) ih  x1 x4 r6.1 0 r6.2.1 r6.2.2.1 r6.2.2.2.1 r6.2.2.2.2.1 m_iit m_len (r4.1 + 1) m_err r4.2.1 r4.2.2.1 r4.2.2.2.1 r4.2.2.2.2 r6.2.2.2.2.2.1 m_bef r6.2.2.2.2.2.2.1 r6.2.2.2.2.2.2.2 _ _ hP hD hS _ (lv_sub hl [1, 2, 5, 0] rfl) hf
        · have hf := it_t h7 hf
          refine lv_iconst (v := 1) hx hb (dg ddX5_read 59 rfl) (by decide) ?_
          refine lv_goto (tgt := 113) hx hb (dg ddX5_read 60 rfl) (by decide) ?_
          exact K113 (f_X5_read_c71 m_inp n) ih  x1 x4 r6.1 1 r6.2.1 r6.2.2.1 r6.2.2.2.1 r6.2.2.2.2.1 m_iit m_len (r4.1 + 1) m_err r4.2.1 r4.2.2.1 r4.2.2.2.1 r4.2.2.2.2 r6.2.2.2.2.2.1 m_bef r6.2.2.2.2.2.2.1 r6.2.2.2.2.2.2.2 _ _ hP hD hS _ (lv_sub hl [1, 2, 5, 0] rfl) hf
  have K21 : ∀ (x1 : Int32) (t0 : Int32) (m_thr : Int32) (m_kept : Int32) (m_rea : Int32) (m_det : Int32) (m_iit : Int32) (m_len : Int32) (m_at : Int32) (m_err : Int32) (m_wro : Int32) (m_cmd : Int32) (m_to1 : Int32) (m_to2 : Int32) (m_now : Nat → Int32) (m_bef : Nat → Int32) (m_hst : Nat → Nat → Int32) (m_noi : Nat → UInt32) (H : Heap) (locs : List Loc) (hP : va_P D vwCl (wX5 q cy m_thr m_kept m_rea m_det m_isv m_iit m_len m_at m_err m_wro m_cmd m_to1 m_to2 m_now m_sav m_ahe m_bef m_hst m_noi m_own m_inp) H) (hD : va_D A (wX5 q cy m_thr m_kept m_rea m_det m_isv m_iit m_len m_at m_err m_wro m_cmd m_to1 m_to2 m_now m_sav m_ahe m_bef m_hst m_noi m_own m_inp)) (hS : va_S A s.heap H locs) (ls : Array Slot) (hl : lv_has ls 6 [(0, .ref (q 0)), (1, .int x1)]) (hf : f_X5_read_c21 m_inp x1 t0 m_thr m_kept m_rea m_det m_iit m_len m_at m_err m_wro m_cmd m_to1 m_to2 m_now m_bef m_hst m_noi = some res), W p l e ⟨9, 0, 0, 186⟩ s m args below meth c H locs 0 0 (MQ below (qI D (wX5 q cy res.2.1 res.2.2.1 res.2.2.2.1 res.2.2.2.2.1 m_isv res.2.2.2.2.2.1 res.2.2.2.2.2.2.1 res.2.2.2.2.2.2.2.1 res.2.2.2.2.2.2.2.2.1 res.2.2.2.2.2.2.2.2.2.1 res.2.2.2.2.2.2.2.2.2.2.1 res.2.2.2.2.2.2.2.2.2.2.2.1 res.2.2.2.2.2.2.2.2.2.2.2.2.1 res.2.2.2.2.2.2.2.2.2.2.2.2.2.1 m_sav m_ahe res.2.2.2.2.2.2.2.2.2.2.2.2.2.2.1 res.2.2.2.2.2.2.2.2.2.2.2.2.2.2.2.1 res.2.2.2.2.2.2.2.2.2.2.2.2.2.2.2.2 m_own m_inp) res.1 A) args s 0 0 A) (F0 m 21 ls [.int t0, .ref (q 0)]) := by
    intro x1 t0 m_thr m_kept m_rea m_det m_iit m_len m_at m_err m_wro m_cmd m_to1 m_to2 m_now m_bef m_hst m_noi H locs hP hD hS ls hl hf
    refine pf_RX5_38 CX hK hP hD hS 0 rfl (dg ddX5_read 11 rfl) (Nat.le_of_ble_eq_true rfl) (fun H locs hP hD hS => ?_)
    have hP : va_P D vwCl (wX5 q cy m_thr m_kept m_rea m_det m_isv m_iit m_len m_at t0 m_wro m_cmd m_to1 m_to2 m_now m_sav m_ahe m_bef m_hst m_noi m_own m_inp) H := hP
    have hD : va_D A (wX5 q cy m_thr m_kept m_rea m_det m_isv m_iit m_len m_at t0 m_wro m_cmd m_to1 m_to2 m_now m_sav m_ahe m_bef m_hst m_noi m_own m_inp) := hD
    refine lv_aload_n hx hb (dg ddX5_read 12 rfl) rfl (lv_at hl 0 rfl) ?_
    refine gf_RX5_192 CX hK hP 0 rfl rfl (dg ddX5_read 13 rfl) ?_
    refine lv_if_eq (tgt := 43) hx hb (dg ddX5_read 14 rfl) (by decide) (fun h1 => ?_) (fun h1 => ?_)
    · have hf := it_t h1 hf
      refine lv_aload_n hx hb (dg ddX5_read 23 rfl) rfl (lv_at hl 0 rfl) ?_
      refine gf_RX5_9 CX hK hP 0 rfl rfl (dg ddX5_read 24 rfl) ?_
      refine lv_aload_n hx hb (dg ddX5_read 25 rfl) rfl (lv_at hl 0 rfl) ?_
      refine gf_RX5_19 CX hK hP 0 rfl rfl (dg ddX5_read 26 rfl) ?_
      obtain ⟨r3, e2, hf⟩ := ob_some hf
      refine crs2 CX hml (As := [.ref (q 1), .ref (q 4)]) (rest := []) (ws := (wX5 q cy m_thr m_kept m_rea m_det m_isv m_iit m_len m_at t0 m_wro m_cmd m_to1 m_to2 m_now m_sav m_ahe m_bef m_hst m_noi m_own m_inp)) (wsn := (wX5 q cy m_thr m_kept m_rea m_det m_isv m_iit m_len m_at t0 m_wro m_cmd m_to1 m_to2 m_now m_sav m_ahe r3 m_hst m_noi m_own m_inp)) (k1 := 1) (k2 := 4) (c_X5_copyRow l D cy (q 1) (q 4) m_now m_bef _ e2) lk_RX5_65 rfl rfl hRMX5_copyRow hP hD hS hA hK hN rfl rfl (by decide) rfl rfl hl.1 rfl (Nat.le_of_ble_eq_true rfl) ⟨Nat.le_of_ble_eq_true rfl, Nat.le_of_ble_eq_true rfl⟩ (dg ddX5_read 27 rfl) (fun H locs hP hD hS => ?_)
      refine lv_aload_n hx hb (dg ddX5_read 28 rfl) rfl (lv_at hl 0 rfl) ?_
      refine lv_iconst (v := 1) hx hb (dg ddX5_read 29 rfl) (by decide) ?_
      refine pf_RX5_69 CX hK hP hD hS 0 rfl (isZ_n (by decide : isZ 1 = true)) (isZ_f (by decide : isZ 1 = true)) (dg ddX5_read 30 rfl) (Nat.le_of_ble_eq_true rfl) (fun H locs hP hD hS => ?_)
      have hP : va_P D vwCl (wX5 q cy m_thr m_kept m_rea m_det m_isv 1 m_len m_at t0 m_wro m_cmd m_to1 m_to2 m_now m_sav m_ahe r3 m_hst m_noi m_own m_inp) H := hP
      have hD : va_D A (wX5 q cy m_thr m_kept m_rea m_det m_isv 1 m_len m_at t0 m_wro m_cmd m_to1 m_to2 m_now m_sav m_ahe r3 m_hst m_noi m_own m_inp) := hD
      refine lv_iconst (v := 1) hx hb (dg ddX5_read 31 rfl) (by decide) ?_
      refine lv_istore_n (lv' := [(2, .int 1), (0, .ref (q 0)), (1, .int x1)]) hx hb (dg ddX5_read 32 rfl) rfl hl (by decide) rfl (fun ls hl => ?_)
      refine lv_iconst (v := 0) hx hb (dg ddX5_read 33 rfl) (by decide) ?_
      refine lv_istore_n (lv' := [(3, .int 0), (2, .int 1), (0, .ref (q 0)), (1, .int x1)]) hx hb (dg ddX5_read 34 rfl) rfl hl (by decide) rfl (fun ls hl => ?_)
      refine lv_aload_n hx hb (dg ddX5_read 35 rfl) rfl (lv_at hl 2 rfl) ?_
      refine lv_iconst (v := 0) hx hb (dg ddX5_read 36 rfl) (by decide) ?_
      refine pf_RX5_195 CX hK hP hD hS 0 rfl (dg ddX5_read 37 rfl) (Nat.le_of_ble_eq_true rfl) (fun H locs hP hD hS => ?_)
      have hP : va_P D vwCl (wX5 q cy m_thr m_kept m_rea m_det m_isv 1 m_len 0 t0 m_wro m_cmd m_to1 m_to2 m_now m_sav m_ahe r3 m_hst m_noi m_own m_inp) H := hP
      have hD : va_D A (wX5 q cy m_thr m_kept m_rea m_det m_isv 1 m_len 0 t0 m_wro m_cmd m_to1 m_to2 m_now m_sav m_ahe r3 m_hst m_noi m_own m_inp) := hD
      refine lv_iconst (v := 0) hx hb (dg ddX5_read 38 rfl) (by decide) ?_
      refine lv_istore (lv' := [(4, .int 0), (3, .int 0), (2, .int 1), (0, .ref (q 0)), (1, .int x1)]) hx hb (dg ddX5_read 39 rfl) hl (by decide) rfl (fun ls hl => ?_)
      exact K71 4096 x1 1 0 0 m_thr m_kept m_rea m_det 1 m_len 0 t0 m_wro m_cmd m_to1 m_to2 m_now r3 m_hst m_noi _ _ hP hD hS _ (lv_sub hl [3, 4, 2, 1, 0] rfl) hf
    · have hf := it_f h1 hf
      refine lv_aload_n hx hb (dg ddX5_read 15 rfl) rfl (lv_at hl 0 rfl) ?_
      refine lv_iconst (v := 0) hx hb (dg ddX5_read 16 rfl) (by decide) ?_
      refine pf_RX5_189 CX hK hP hD hS 0 rfl (dg ddX5_read 17 rfl) (Nat.le_of_ble_eq_true rfl) (fun H locs hP hD hS => ?_)
      have hP : va_P D vwCl (wX5 q cy m_thr m_kept m_rea m_det m_isv m_iit 0 m_at t0 m_wro m_cmd m_to1 m_to2 m_now m_sav m_ahe m_bef m_hst m_noi m_own m_inp) H := hP
      have hD : va_D A (wX5 q cy m_thr m_kept m_rea m_det m_isv m_iit 0 m_at t0 m_wro m_cmd m_to1 m_to2 m_now m_sav m_ahe m_bef m_hst m_noi m_own m_inp) := hD
      refine lv_aload_n hx hb (dg ddX5_read 18 rfl) rfl (lv_at hl 0 rfl) ?_
      refine lv_iconst (v := 1) hx hb (dg ddX5_read 19 rfl) (by decide) ?_
      refine pf_RX5_53 CX hK hP hD hS 0 rfl (dg ddX5_read 20 rfl) (Nat.le_of_ble_eq_true rfl) (fun H locs hP hD hS => ?_)
      have hP : va_P D vwCl (wX5 q cy 1 m_kept m_rea m_det m_isv m_iit 0 m_at t0 m_wro m_cmd m_to1 m_to2 m_now m_sav m_ahe m_bef m_hst m_noi m_own m_inp) H := hP
      have hD : va_D A (wX5 q cy 1 m_kept m_rea m_det m_isv m_iit 0 m_at t0 m_wro m_cmd m_to1 m_to2 m_now m_sav m_ahe m_bef m_hst m_noi m_own m_inp) := hD
      refine lv_iconst (v := 0) hx hb (dg ddX5_read 21 rfl) (by decide) ?_
      cases hf
      exact e_wi CX hr hlk rfl hP hD hS (dg ddX5_read 22 rfl)
  refine lv_aload_n hx hb (dg ddX5_read 0 rfl) rfl (lv_at hl 0 rfl) ?_
  obtain ⟨r2, e1, hf⟩ := ob_some hf
  refine crw_vi CX hml (As := []) (rest := []) (c_X5_countOrders l D cy q m_thr m_kept m_rea m_det m_isv m_iit m_len m_at m_err m_wro m_cmd m_to1 m_to2 m_now m_sav m_ahe m_bef m_hst m_noi m_own m_inp _ e1) lk_RX5_247 rfl rfl hRMX5_countOrders hP hD hS hA hK hN 0 rfl rfl rfl hl.1 rfl (Nat.le_of_ble_eq_true rfl) ⟨Nat.le_of_ble_eq_true rfl, Nat.le_of_ble_eq_true rfl⟩ (dg ddX5_read 1 rfl) (fun H locs hP hD hS => ?_)
  refine lv_istore_n (lv' := [(1, .int r2.1), (0, .ref (q 0))]) hx hb (dg ddX5_read 2 rfl) rfl hl (by decide) rfl (fun ls hl => ?_)
  refine lv_aload_n hx hb (dg ddX5_read 3 rfl) rfl (lv_at hl 1 rfl) ?_
  refine lv_aload_n hx hb (dg ddX5_read 4 rfl) rfl (lv_at hl 1 rfl) ?_
  refine gf_RX5_192 CX hK hP 0 rfl rfl (dg ddX5_read 5 rfl) ?_
  refine lv_if_eq (tgt := 20) hx hb (dg ddX5_read 6 rfl) (by decide) (fun h3 => ?_) (fun h3 => ?_)
  · have hf := it_t h3 hf
    refine lv_iconst (v := (-1)) hx hb (dg ddX5_read 10 rfl) (by decide) ?_
    exact K21  r2.1 (-1) m_thr m_kept m_rea m_det m_iit m_len r2.2.1 m_err r2.2.2.1 r2.2.2.2.1 r2.2.2.2.2.1 r2.2.2.2.2.2 m_now m_bef m_hst m_noi _ _ hP hD hS _ (lv_sub hl [1, 0] rfl) hf
  · have hf := it_f h3 hf
    refine lv_aload_n hx hb (dg ddX5_read 7 rfl) rfl (lv_at hl 1 rfl) ?_
    refine gf_RX5_195 CX hK hP 0 rfl rfl (dg ddX5_read 8 rfl) ?_
    refine lv_goto (tgt := 21) hx hb (dg ddX5_read 9 rfl) (by decide) ?_
    exact K21  r2.1 r2.2.1 m_thr m_kept m_rea m_det m_iit m_len r2.2.1 m_err r2.2.2.1 r2.2.2.2.1 r2.2.2.2.2.1 r2.2.2.2.2.2 m_now m_bef m_hst m_noi _ _ hP hD hS _ (lv_sub hl [1, 0] rfl) hf
def f_X5_errorPosition (m_thr : Int32) (m_err : Int32) : Option (Int32 × Int32) := some (m_err, 0)
set_option maxHeartbeats 4000000 in
set_option maxRecDepth 100000 in
theorem c_X5_errorPosition (l : Launch) (D : va_G) (cy : Nat → ClassId) (q : Nat → Nat) (m_thr : Int32) (m_kept : Int32) (m_rea : Int32) (m_det : Int32) (m_isv : Int32) (m_iit : Int32) (m_len : Int32) (m_at : Int32) (m_err : Int32) (m_wro : Int32) (m_cmd : Int32) (m_to1 : Int32) (m_to2 : Int32) (m_now : Nat → Int32) (m_sav : Nat → Int32) (m_ahe : Nat → Int32) (m_bef : Nat → Int32) (m_hst : Nat → Nat → Int32) (m_noi : Nat → UInt32) (m_own : Nat → UInt32) (m_inp : Nat → Int32) (sz : Nat) {res : Int32 × Int32} (hf : f_X5_errorPosition m_thr m_err = some res) : Met l yX5_errorPosition (.code yX5_errorPosition cX5_errorPosition 1 (some .int) :: lw_all) { frames := 1, cells := 0, slots := 0, locals := 12 } (va_Pc [.ref (q 0)] (sW D cy (wX5 q cy m_thr m_kept m_rea m_det m_isv m_iit m_len m_at m_err m_wro m_cmd m_to1 m_to2 m_now m_sav m_ahe m_bef m_hst m_noi m_own m_inp) sz)) (qI D (wX5 q cy res.2 m_kept m_rea m_det m_isv m_iit m_len m_at m_err m_wro m_cmd m_to1 m_to2 m_now m_sav m_ahe m_bef m_hst m_noi m_own m_inp) res.1 (va_A (wX5 q cy m_thr m_kept m_rea m_det m_isv m_iit m_len m_at m_err m_wro m_cmd m_to1 m_to2 m_now m_sav m_ahe m_bef m_hst m_noi m_own m_inp) sz)) 0 0 (va_A (wX5 q cy m_thr m_kept m_rea m_det m_isv m_iit m_len m_at m_err m_wro m_cmd m_to1 m_to2 m_now m_sav m_ahe m_bef m_hst m_noi m_own m_inp) sz) := by
  refine mk_rw (Qc := qI D (wX5 q cy res.2 m_kept m_rea m_det m_isv m_iit m_len m_at m_err m_wro m_cmd m_to1 m_to2 m_now m_sav m_ahe m_bef m_hst m_noi m_own m_inp) res.1) (Rc := RX5) (by decide +kernel) rfl (Nat.le_of_ble_eq_true rfl) ?_
  intro p e s m args below meth c ls A CX hml hr hlk hK hN hP hD hS hA hl
  have hx := CX.1
  have hb := CX.2.1
  refine lv_aload_n hx hb (dg ddX5_errorPosition 0 rfl) rfl (lv_at hl 0 rfl) ?_
  refine lv_iconst (v := 0) hx hb (dg ddX5_errorPosition 1 rfl) (by decide) ?_
  refine pf_RX5_53 CX hK hP hD hS 0 rfl (dg ddX5_errorPosition 2 rfl) (Nat.le_of_ble_eq_true rfl) (fun H locs hP hD hS => ?_)
  have hP : va_P D vwCl (wX5 q cy 0 m_kept m_rea m_det m_isv m_iit m_len m_at m_err m_wro m_cmd m_to1 m_to2 m_now m_sav m_ahe m_bef m_hst m_noi m_own m_inp) H := hP
  have hD : va_D A (wX5 q cy 0 m_kept m_rea m_det m_isv m_iit m_len m_at m_err m_wro m_cmd m_to1 m_to2 m_now m_sav m_ahe m_bef m_hst m_noi m_own m_inp) := hD
  refine lv_aload_n hx hb (dg ddX5_errorPosition 3 rfl) rfl (lv_at hl 0 rfl) ?_
  refine gf_RX5_38 CX hK hP 0 rfl rfl (dg ddX5_errorPosition 4 rfl) ?_
  cases hf
  exact e_wi CX hr hlk rfl hP hD hS (dg ddX5_errorPosition 5 rfl)
def f_X5_refusal_c14  (m_rea : Int32) (m_det : Int32) (a1 : Int32) (t0 : Int32) (t1 : Int32) (m_thr : Int32) : Option (Int32 × Int32) := ob (f_X5_fails m_thr t1 t0) fun r2 => (if r2.1 = 0 then (if a1 = 0 then (some (m_rea, r2.2)) else (some (m_det, r2.2))) else (some (0, r2.2)))
def f_X5_refusal (m_thr : Int32) (m_rea : Int32) (m_det : Int32) (a1 : Int32) : Option (Int32 × Int32) := if m_rea = 0 then (f_X5_refusal_c14 m_rea m_det a1 1 1 m_thr) else (f_X5_refusal_c14 m_rea m_det a1 0 1 m_thr)
set_option maxHeartbeats 4000000 in
set_option maxRecDepth 100000 in
theorem c_X5_refusal (l : Launch) (D : va_G) (cy : Nat → ClassId) (q : Nat → Nat) (m_thr : Int32) (m_kept : Int32) (m_rea : Int32) (m_det : Int32) (m_isv : Int32) (m_iit : Int32) (m_len : Int32) (m_at : Int32) (m_err : Int32) (m_wro : Int32) (m_cmd : Int32) (m_to1 : Int32) (m_to2 : Int32) (m_now : Nat → Int32) (m_sav : Nat → Int32) (m_ahe : Nat → Int32) (m_bef : Nat → Int32) (m_hst : Nat → Nat → Int32) (m_noi : Nat → UInt32) (m_own : Nat → UInt32) (m_inp : Nat → Int32) (a1 : Int32) (sz : Nat) {res : Int32 × Int32} (hf : f_X5_refusal m_thr m_rea m_det a1 = some res) : Met l yX5_refusal (.code yX5_refusal cX5_refusal 2 (some .int) :: lw_all) { frames := 2, cells := 0, slots := 0, locals := 34 } (va_Pc [.ref (q 0), .int a1] (sW D cy (wX5 q cy m_thr m_kept m_rea m_det m_isv m_iit m_len m_at m_err m_wro m_cmd m_to1 m_to2 m_now m_sav m_ahe m_bef m_hst m_noi m_own m_inp) sz)) (qI D (wX5 q cy res.2 m_kept m_rea m_det m_isv m_iit m_len m_at m_err m_wro m_cmd m_to1 m_to2 m_now m_sav m_ahe m_bef m_hst m_noi m_own m_inp) res.1 (va_A (wX5 q cy m_thr m_kept m_rea m_det m_isv m_iit m_len m_at m_err m_wro m_cmd m_to1 m_to2 m_now m_sav m_ahe m_bef m_hst m_noi m_own m_inp) sz)) 0 0 (va_A (wX5 q cy m_thr m_kept m_rea m_det m_isv m_iit m_len m_at m_err m_wro m_cmd m_to1 m_to2 m_now m_sav m_ahe m_bef m_hst m_noi m_own m_inp) sz) := by
  refine mk_rw (Qc := qI D (wX5 q cy res.2 m_kept m_rea m_det m_isv m_iit m_len m_at m_err m_wro m_cmd m_to1 m_to2 m_now m_sav m_ahe m_bef m_hst m_noi m_own m_inp) res.1) (Rc := RX5) (by decide +kernel) rfl (Nat.le_of_ble_eq_true rfl) ?_
  intro p e s m args below meth c ls A CX hml hr hlk hK hN hP hD hS hA hl
  have hx := CX.1
  have hb := CX.2.1
  have hRMX5_fails : (⟨1, 0, 0, 12⟩ : Room).frames + 1 ≤ (⟨2, 0, 0, 34⟩ : Room).frames ∧ 8 + (3 + 11) + (⟨1, 0, 0, 12⟩ : Room).locals ≤ (⟨2, 0, 0, 34⟩ : Room).locals := ⟨Nat.le_of_ble_eq_true rfl, Nat.le_of_ble_eq_true rfl⟩
  have hl0 := hl
  have K14 : ∀ (t0 : Int32) (t1 : Int32) (m_thr : Int32) (H : Heap) (locs : List Loc) (hP : va_P D vwCl (wX5 q cy m_thr m_kept m_rea m_det m_isv m_iit m_len m_at m_err m_wro m_cmd m_to1 m_to2 m_now m_sav m_ahe m_bef m_hst m_noi m_own m_inp) H) (hD : va_D A (wX5 q cy m_thr m_kept m_rea m_det m_isv m_iit m_len m_at m_err m_wro m_cmd m_to1 m_to2 m_now m_sav m_ahe m_bef m_hst m_noi m_own m_inp)) (hS : va_S A s.heap H locs) (ls : Array Slot) (hl : lv_has ls 2 [(0, .ref (q 0)), (1, .int a1)]) (hf : f_X5_refusal_c14 m_rea m_det a1 t0 t1 m_thr = some res), W p l e ⟨2, 0, 0, 34⟩ s m args below meth c H locs 0 0 (MQ below (qI D (wX5 q cy res.2 m_kept m_rea m_det m_isv m_iit m_len m_at m_err m_wro m_cmd m_to1 m_to2 m_now m_sav m_ahe m_bef m_hst m_noi m_own m_inp) res.1 A) args s 0 0 A) (F0 m 14 ls [.int t0, .int t1, .ref (q 0)]) := by
    intro t0 t1 m_thr H locs hP hD hS ls hl hf
    obtain ⟨r2, e1, hf⟩ := ob_some hf
    refine crw_vi CX hml (As := [.int t1, .int t0]) (rest := []) (c_X5_fails l D cy q m_thr m_kept m_rea m_det m_isv m_iit m_len m_at m_err m_wro m_cmd m_to1 m_to2 m_now m_sav m_ahe m_bef m_hst m_noi m_own m_inp t1 t0 _ e1) lk_RX5_81 rfl rfl hRMX5_fails hP hD hS hA hK hN 0 rfl rfl rfl hl.1 rfl (Nat.le_of_ble_eq_true rfl) ⟨Nat.le_of_ble_eq_true rfl, Nat.le_of_ble_eq_true rfl⟩ (dg ddX5_refusal 8 rfl) (fun H locs hP hD hS => ?_)
    refine lv_if_eq (tgt := 22) hx hb (dg ddX5_refusal 9 rfl) (by decide) (fun h3 => ?_) (fun h3 => ?_)
    · have hf := it_t h3 hf
      refine lv_iload_n hx hb (dg ddX5_refusal 12 rfl) rfl (lv_at hl 1 rfl) ?_
      refine lv_if_eq (tgt := 33) hx hb (dg ddX5_refusal 13 rfl) (by decide) (fun h4 => ?_) (fun h4 => ?_)
      · have hf := it_t h4 hf
        refine lv_aload_n hx hb (dg ddX5_refusal 17 rfl) rfl (lv_at hl 0 rfl) ?_
        refine gf_RX5_56 CX hK hP 0 rfl rfl (dg ddX5_refusal 18 rfl) ?_
        cases hf
        exact e_wi CX hr hlk rfl hP hD hS (dg ddX5_refusal 19 rfl)
      · have hf := it_f h4 hf
        refine lv_aload_n hx hb (dg ddX5_refusal 14 rfl) rfl (lv_at hl 0 rfl) ?_
        refine gf_RX5_59 CX hK hP 0 rfl rfl (dg ddX5_refusal 15 rfl) ?_
        refine lv_goto (tgt := 37) hx hb (dg ddX5_refusal 16 rfl) (by decide) ?_
        cases hf
        exact e_wi CX hr hlk rfl hP hD hS (dg ddX5_refusal 19 rfl)
    · have hf := it_f h3 hf
      refine lv_iconst (v := 0) hx hb (dg ddX5_refusal 10 rfl) (by decide) ?_
      cases hf
      exact e_wi CX hr hlk rfl hP hD hS (dg ddX5_refusal 11 rfl)
  refine lv_aload_n hx hb (dg ddX5_refusal 0 rfl) rfl (lv_at hl 0 rfl) ?_
  refine lv_iconst (v := 1) hx hb (dg ddX5_refusal 1 rfl) (by decide) ?_
  refine lv_aload_n hx hb (dg ddX5_refusal 2 rfl) rfl (lv_at hl 0 rfl) ?_
  refine gf_RX5_56 CX hK hP 0 rfl rfl (dg ddX5_refusal 3 rfl) ?_
  refine lv_if_ne (tgt := 13) hx hb (dg ddX5_refusal 4 rfl) (by decide) (fun h1 => ?_) (fun h1 => ?_)
  · have hf := it_f h1 hf
    refine lv_iconst (v := 0) hx hb (dg ddX5_refusal 7 rfl) (by decide) ?_
    exact K14  0 1 m_thr _ _ hP hD hS _ (lv_sub hl [0, 1] rfl) hf
  · have hf := it_t h1 hf
    refine lv_iconst (v := 1) hx hb (dg ddX5_refusal 5 rfl) (by decide) ?_
    refine lv_goto (tgt := 14) hx hb (dg ddX5_refusal 6 rfl) (by decide) ?_
    exact K14  1 1 m_thr _ _ hP hD hS _ (lv_sub hl [0, 1] rfl) hf
def f_X5_snapped_c4  (m_now : Nat → Int32) : Nat → Int32 → Int32 → Option (Int32)
  | 0, _, _ => none
  | n + 1, x1, x2 => og (inb 2 112) (if (m_now (2 : Int32).toNatClampNeg) ≤ x2 then (some x1) else (ob (f_X5_isSnapped m_now x2) fun r4 => (if r4 = 0 then (f_X5_snapped_c4 m_now n (x1 + 0) (x2 + 1)) else (f_X5_snapped_c4 m_now n (x1 + 1) (x2 + 1)))))
def f_X5_snapped (m_now : Nat → Int32) : Option (Int32) := f_X5_snapped_c4 m_now 4096 0 0
set_option maxHeartbeats 4000000 in
set_option maxRecDepth 100000 in
theorem c_X5_snapped (l : Launch) (D : va_G) (cy : Nat → ClassId) (q : Nat → Nat) (m_thr : Int32) (m_kept : Int32) (m_rea : Int32) (m_det : Int32) (m_isv : Int32) (m_iit : Int32) (m_len : Int32) (m_at : Int32) (m_err : Int32) (m_wro : Int32) (m_cmd : Int32) (m_to1 : Int32) (m_to2 : Int32) (m_now : Nat → Int32) (m_sav : Nat → Int32) (m_ahe : Nat → Int32) (m_bef : Nat → Int32) (m_hst : Nat → Nat → Int32) (m_noi : Nat → UInt32) (m_own : Nat → UInt32) (m_inp : Nat → Int32) {res : Int32} (hf : f_X5_snapped m_now = some res) : Met l yX5_snapped (.code yX5_snapped cX5_snapped 3 (some .int) :: lw_all) { frames := 4, cells := 0, slots := 0, locals := 83 } (va_Pc [.ref (q 0)] (sR D cy (wX5 q cy m_thr m_kept m_rea m_det m_isv m_iit m_len m_at m_err m_wro m_cmd m_to1 m_to2 m_now m_sav m_ahe m_bef m_hst m_noi m_own m_inp))) (vp_Si (fun r => r = res)) 0 0 (fun _ => False) := by
  refine mk_ro (Rc := RX5) (by decide +kernel) rfl (Nat.le_of_ble_eq_true rfl) ?_
  intro p e s m args below meth c ls CX hml hr hlk hK hN hP hl
  have hx := CX.1
  have hb := CX.2.1
  have hRMX5_isSnapped : (⟨3, 0, 0, 62⟩ : Room).frames + 1 ≤ (⟨4, 0, 0, 83⟩ : Room).frames ∧ 8 + (2 + 11) + (⟨3, 0, 0, 62⟩ : Room).locals ≤ (⟨4, 0, 0, 83⟩ : Room).locals := ⟨Nat.le_of_ble_eq_true rfl, Nat.le_of_ble_eq_true rfl⟩
  have hl0 := hl
  have K4 : ∀ (n : Nat), ∀ (x1 : Int32) (x2 : Int32) (ls : Array Slot) (hl : lv_has ls 3 [(0, .ref (q 0)), (1, .int x1), (2, .int x2)]) (hf : f_X5_snapped_c4 m_now n x1 x2 = some res), W p l e ⟨4, 0, 0, 83⟩ s m args below meth c s.heap [] 0 0 (MQ below (vp_Si (fun r => r = res)) args s 0 0 (fun _ => False)) (F0 m 4 ls []) := by
    intro n
    induction n with
    | zero => intro x1 x2 ls hl hf; cases (show none = some res from hf)
    | succ n ih =>
    intro x1 x2 ls hl hf
    refine lv_iload_n hx hb (dg ddX5_snapped 4 rfl) rfl (lv_at hl 2 rfl) ?_
    refine lv_aload_n hx hb (dg ddX5_snapped 5 rfl) rfl (lv_at hl 0 rfl) ?_
    refine gf_RX5_9 CX hK hP 0 rfl rfl (dg ddX5_snapped 6 rfl) ?_
    refine lv_iconst (v := 2) hx hb (dg ddX5_snapped 7 rfl) (by decide) ?_
    obtain ⟨h1, hf⟩ := og_some hf
    refine va_iald hx hb hK hP 1 0 rfl rfl (inb_in h1) (dg ddX5_snapped 8 rfl) ?_
    refine lv_icmp_ge (tgt := 36) hx hb (dg ddX5_snapped 9 rfl) (by decide) (fun h2 => ?_) (fun h2 => ?_)
    · have hf := it_t h2 hf
      refine lv_iload_n hx hb (dg ddX5_snapped 22 rfl) rfl (lv_at hl 1 rfl) ?_
      exact e_ri CX hr hlk (Option.some.inj hf) (dg ddX5_snapped 23 rfl)
    · have hf := it_f h2 hf
      refine lv_iload_n hx hb (dg ddX5_snapped 10 rfl) rfl (lv_at hl 1 rfl) ?_
      refine lv_aload_n hx hb (dg ddX5_snapped 11 rfl) rfl (lv_at hl 0 rfl) ?_
      refine lv_iload_n hx hb (dg ddX5_snapped 12 rfl) rfl (lv_at hl 2 rfl) ?_
      obtain ⟨r4, e3, hf⟩ := ob_some hf
      refine cro_vi CX hml (As := [.int x2]) (rest := [.int x1]) (c_X5_isSnapped l D cy q m_thr m_kept m_rea m_det m_isv m_iit m_len m_at m_err m_wro m_cmd m_to1 m_to2 m_now m_sav m_ahe m_bef m_hst m_noi m_own m_inp x2 e3) lk_RX5_125 rfl rfl hRMX5_isSnapped hP hK hN 0 rfl rfl rfl hl.1 rfl (Nat.le_of_ble_eq_true rfl) ⟨Nat.le_of_ble_eq_true rfl, Nat.le_of_ble_eq_true rfl⟩ (dg ddX5_snapped 13 rfl) ?_
      refine lv_if_eq (tgt := 27) hx hb (dg ddX5_snapped 14 rfl) (by decide) (fun h5 => ?_) (fun h5 => ?_)
      · have hf := it_t h5 hf
        refine lv_iconst (v := 0) hx hb (dg ddX5_snapped 17 rfl) (by decide) ?_
        refine lv_iadd hx hb (dg ddX5_snapped 18 rfl) ?_
        refine lv_istore_n (lv' := [(1, .int (x1 + 0)), (0, .ref (q 0)), (2, .int x2)]) hx hb (dg ddX5_snapped 19 rfl) rfl hl (by decide) rfl (fun ls hl => ?_)
        refine lv_iinc (v := x2 + 1) (lv' := [(2, .int (x2 + 1)), (1, .int (x1 + 0)), (0, .ref (q 0))]) hx hb (dg ddX5_snapped 20 rfl) hl (k := 2) rfl (congrArg (HAdd.hAdd x2) (by decide)) (by decide) rfl (fun ls hl => ?_)
        refine lv_goto (tgt := 4) hx hb (dg ddX5_snapped 21 rfl) (by decide) ?_
        exact ih (x1 + 0) (x2 + 1) _ (lv_sub hl [2, 1, 0] rfl) hf
      · have hf := it_f h5 hf
        refine lv_iconst (v := 1) hx hb (dg ddX5_snapped 15 rfl) (by decide) ?_
        refine lv_goto (tgt := 28) hx hb (dg ddX5_snapped 16 rfl) (by decide) ?_
        refine lv_iadd hx hb (dg ddX5_snapped 18 rfl) ?_
        refine lv_istore_n (lv' := [(1, .int (x1 + 1)), (0, .ref (q 0)), (2, .int x2)]) hx hb (dg ddX5_snapped 19 rfl) rfl hl (by decide) rfl (fun ls hl => ?_)
        refine lv_iinc (v := x2 + 1) (lv' := [(2, .int (x2 + 1)), (1, .int (x1 + 1)), (0, .ref (q 0))]) hx hb (dg ddX5_snapped 20 rfl) hl (k := 2) rfl (congrArg (HAdd.hAdd x2) (by decide)) (by decide) rfl (fun ls hl => ?_)
        refine lv_goto (tgt := 4) hx hb (dg ddX5_snapped 21 rfl) (by decide) ?_
        exact ih (x1 + 1) (x2 + 1) _ (lv_sub hl [2, 1, 0] rfl) hf
  refine lv_iconst (v := 0) hx hb (dg ddX5_snapped 0 rfl) (by decide) ?_
  refine lv_istore_n (lv' := [(1, .int 0), (0, .ref (q 0))]) hx hb (dg ddX5_snapped 1 rfl) rfl hl (by decide) rfl (fun ls hl => ?_)
  refine lv_iconst (v := 0) hx hb (dg ddX5_snapped 2 rfl) (by decide) ?_
  refine lv_istore_n (lv' := [(2, .int 0), (1, .int 0), (0, .ref (q 0))]) hx hb (dg ddX5_snapped 3 rfl) rfl hl (by decide) rfl (fun ls hl => ?_)
  exact K4 4096 0 0 _ (lv_sub hl [2, 1, 0] rfl) hf
def f_X5_complaints_c4  (m_now : Nat → Int32) : Nat → Int32 → Int32 → Option (Int32)
  | 0, _, _ => none
  | n + 1, x1, x2 => if 8 ≤ x2 then (some x1) else (ob (f_X5_ofPitch m_now x2 1) fun r3 => (f_X5_complaints_c4 m_now n (x1 + r3) (x2 + 1)))
def f_X5_complaints (m_now : Nat → Int32) : Option (Int32) := f_X5_complaints_c4 m_now 4096 0 0
set_option maxHeartbeats 4000000 in
set_option maxRecDepth 100000 in
theorem c_X5_complaints (l : Launch) (D : va_G) (cy : Nat → ClassId) (q : Nat → Nat) (m_thr : Int32) (m_kept : Int32) (m_rea : Int32) (m_det : Int32) (m_isv : Int32) (m_iit : Int32) (m_len : Int32) (m_at : Int32) (m_err : Int32) (m_wro : Int32) (m_cmd : Int32) (m_to1 : Int32) (m_to2 : Int32) (m_now : Nat → Int32) (m_sav : Nat → Int32) (m_ahe : Nat → Int32) (m_bef : Nat → Int32) (m_hst : Nat → Nat → Int32) (m_noi : Nat → UInt32) (m_own : Nat → UInt32) (m_inp : Nat → Int32) {res : Int32} (hf : f_X5_complaints m_now = some res) : Met l yX5_complaints (.code yX5_complaints cX5_complaints 3 (some .int) :: lw_all) { frames := 2, cells := 0, slots := 0, locals := 34 } (va_Pc [.ref (q 0)] (sR D cy (wX5 q cy m_thr m_kept m_rea m_det m_isv m_iit m_len m_at m_err m_wro m_cmd m_to1 m_to2 m_now m_sav m_ahe m_bef m_hst m_noi m_own m_inp))) (vp_Si (fun r => r = res)) 0 0 (fun _ => False) := by
  refine mk_ro (Rc := RX5) (by decide +kernel) rfl (Nat.le_of_ble_eq_true rfl) ?_
  intro p e s m args below meth c ls CX hml hr hlk hK hN hP hl
  have hx := CX.1
  have hb := CX.2.1
  have hRMX5_ofPitch : (⟨1, 0, 0, 12⟩ : Room).frames + 1 ≤ (⟨2, 0, 0, 34⟩ : Room).frames ∧ 8 + (3 + 11) + (⟨1, 0, 0, 12⟩ : Room).locals ≤ (⟨2, 0, 0, 34⟩ : Room).locals := ⟨Nat.le_of_ble_eq_true rfl, Nat.le_of_ble_eq_true rfl⟩
  have hl0 := hl
  have K4 : ∀ (n : Nat), ∀ (x1 : Int32) (x2 : Int32) (ls : Array Slot) (hl : lv_has ls 3 [(0, .ref (q 0)), (1, .int x1), (2, .int x2)]) (hf : f_X5_complaints_c4 m_now n x1 x2 = some res), W p l e ⟨2, 0, 0, 34⟩ s m args below meth c s.heap [] 0 0 (MQ below (vp_Si (fun r => r = res)) args s 0 0 (fun _ => False)) (F0 m 4 ls []) := by
    intro n
    induction n with
    | zero => intro x1 x2 ls hl hf; cases (show none = some res from hf)
    | succ n ih =>
    intro x1 x2 ls hl hf
    refine lv_iload_n hx hb (dg ddX5_complaints 4 rfl) rfl (lv_at hl 2 rfl) ?_
    refine lv_bipush (v := 8) hx hb (dg ddX5_complaints 5 rfl) (by decide) ?_
    refine lv_icmp_ge (tgt := 25) hx hb (dg ddX5_complaints 6 rfl) (by decide) (fun h1 => ?_) (fun h1 => ?_)
    · have hf := it_t h1 hf
      refine lv_iload_n hx hb (dg ddX5_complaints 16 rfl) rfl (lv_at hl 1 rfl) ?_
      exact e_ri CX hr hlk (Option.some.inj hf) (dg ddX5_complaints 17 rfl)
    · have hf := it_f h1 hf
      refine lv_iload_n hx hb (dg ddX5_complaints 7 rfl) rfl (lv_at hl 1 rfl) ?_
      refine lv_aload_n hx hb (dg ddX5_complaints 8 rfl) rfl (lv_at hl 0 rfl) ?_
      refine lv_iload_n hx hb (dg ddX5_complaints 9 rfl) rfl (lv_at hl 2 rfl) ?_
      refine lv_iconst (v := 1) hx hb (dg ddX5_complaints 10 rfl) (by decide) ?_
      obtain ⟨r3, e2, hf⟩ := ob_some hf
      refine cro_vi CX hml (As := [.int x2, .int 1]) (rest := [.int x1]) (c_X5_ofPitch l D cy q m_thr m_kept m_rea m_det m_isv m_iit m_len m_at m_err m_wro m_cmd m_to1 m_to2 m_now m_sav m_ahe m_bef m_hst m_noi m_own m_inp x2 1 e2) lk_RX5_88 rfl rfl hRMX5_ofPitch hP hK hN 0 rfl rfl rfl hl.1 rfl (Nat.le_of_ble_eq_true rfl) ⟨Nat.le_of_ble_eq_true rfl, Nat.le_of_ble_eq_true rfl⟩ (dg ddX5_complaints 11 rfl) ?_
      refine lv_iadd hx hb (dg ddX5_complaints 12 rfl) ?_
      refine lv_istore_n (lv' := [(1, .int (x1 + r3)), (0, .ref (q 0)), (2, .int x2)]) hx hb (dg ddX5_complaints 13 rfl) rfl hl (by decide) rfl (fun ls hl => ?_)
      refine lv_iinc (v := x2 + 1) (lv' := [(2, .int (x2 + 1)), (1, .int (x1 + r3)), (0, .ref (q 0))]) hx hb (dg ddX5_complaints 14 rfl) hl (k := 2) rfl (congrArg (HAdd.hAdd x2) (by decide)) (by decide) rfl (fun ls hl => ?_)
      refine lv_goto (tgt := 4) hx hb (dg ddX5_complaints 15 rfl) (by decide) ?_
      exact ih (x1 + r3) (x2 + 1) _ (lv_sub hl [2, 1, 0] rfl) hf
  refine lv_iconst (v := 0) hx hb (dg ddX5_complaints 0 rfl) (by decide) ?_
  refine lv_istore_n (lv' := [(1, .int 0), (0, .ref (q 0))]) hx hb (dg ddX5_complaints 1 rfl) rfl hl (by decide) rfl (fun ls hl => ?_)
  refine lv_iconst (v := 0) hx hb (dg ddX5_complaints 2 rfl) (by decide) ?_
  refine lv_istore_n (lv' := [(2, .int 0), (1, .int 0), (0, .ref (q 0))]) hx hb (dg ddX5_complaints 3 rfl) rfl hl (by decide) rfl (fun ls hl => ?_)
  exact K4 4096 0 0 _ (lv_sub hl [2, 1, 0] rfl) hf
def f_X5_cases_c4  (m_now : Nat → Int32) : Nat → Int32 → Int32 → Option (Int32)
  | 0, _, _ => none
  | n + 1, x1, x2 => og (inb 2 112) (if (m_now (2 : Int32).toNatClampNeg) ≤ x2 then (some x1) else (ob (f_X5_of m_now x2 5) fun r4 => (if r4 = (-1) then (f_X5_cases_c4 m_now n (x1 + 0) (x2 + 1)) else (f_X5_cases_c4 m_now n (x1 + 1) (x2 + 1)))))
def f_X5_cases (m_now : Nat → Int32) : Option (Int32) := f_X5_cases_c4 m_now 4096 0 0
set_option maxHeartbeats 4000000 in
set_option maxRecDepth 100000 in
theorem c_X5_cases (l : Launch) (D : va_G) (cy : Nat → ClassId) (q : Nat → Nat) (m_thr : Int32) (m_kept : Int32) (m_rea : Int32) (m_det : Int32) (m_isv : Int32) (m_iit : Int32) (m_len : Int32) (m_at : Int32) (m_err : Int32) (m_wro : Int32) (m_cmd : Int32) (m_to1 : Int32) (m_to2 : Int32) (m_now : Nat → Int32) (m_sav : Nat → Int32) (m_ahe : Nat → Int32) (m_bef : Nat → Int32) (m_hst : Nat → Nat → Int32) (m_noi : Nat → UInt32) (m_own : Nat → UInt32) (m_inp : Nat → Int32) {res : Int32} (hf : f_X5_cases m_now = some res) : Met l yX5_cases (.code yX5_cases cX5_cases 3 (some .int) :: lw_all) { frames := 2, cells := 0, slots := 0, locals := 34 } (va_Pc [.ref (q 0)] (sR D cy (wX5 q cy m_thr m_kept m_rea m_det m_isv m_iit m_len m_at m_err m_wro m_cmd m_to1 m_to2 m_now m_sav m_ahe m_bef m_hst m_noi m_own m_inp))) (vp_Si (fun r => r = res)) 0 0 (fun _ => False) := by
  refine mk_ro (Rc := RX5) (by decide +kernel) rfl (Nat.le_of_ble_eq_true rfl) ?_
  intro p e s m args below meth c ls CX hml hr hlk hK hN hP hl
  have hx := CX.1
  have hb := CX.2.1
  have hRMX5_of : (⟨1, 0, 0, 12⟩ : Room).frames + 1 ≤ (⟨2, 0, 0, 34⟩ : Room).frames ∧ 8 + (3 + 11) + (⟨1, 0, 0, 12⟩ : Room).locals ≤ (⟨2, 0, 0, 34⟩ : Room).locals := ⟨Nat.le_of_ble_eq_true rfl, Nat.le_of_ble_eq_true rfl⟩
  have hl0 := hl
  have K4 : ∀ (n : Nat), ∀ (x1 : Int32) (x2 : Int32) (ls : Array Slot) (hl : lv_has ls 3 [(0, .ref (q 0)), (1, .int x1), (2, .int x2)]) (hf : f_X5_cases_c4 m_now n x1 x2 = some res), W p l e ⟨2, 0, 0, 34⟩ s m args below meth c s.heap [] 0 0 (MQ below (vp_Si (fun r => r = res)) args s 0 0 (fun _ => False)) (F0 m 4 ls []) := by
    intro n
    induction n with
    | zero => intro x1 x2 ls hl hf; cases (show none = some res from hf)
    | succ n ih =>
    intro x1 x2 ls hl hf
    refine lv_iload_n hx hb (dg ddX5_cases 4 rfl) rfl (lv_at hl 2 rfl) ?_
    refine lv_aload_n hx hb (dg ddX5_cases 5 rfl) rfl (lv_at hl 0 rfl) ?_
    refine gf_RX5_9 CX hK hP 0 rfl rfl (dg ddX5_cases 6 rfl) ?_
    refine lv_iconst (v := 2) hx hb (dg ddX5_cases 7 rfl) (by decide) ?_
    obtain ⟨h1, hf⟩ := og_some hf
    refine va_iald hx hb hK hP 1 0 rfl rfl (inb_in h1) (dg ddX5_cases 8 rfl) ?_
    refine lv_icmp_ge (tgt := 38) hx hb (dg ddX5_cases 9 rfl) (by decide) (fun h2 => ?_) (fun h2 => ?_)
    · have hf := it_t h2 hf
      refine lv_iload_n hx hb (dg ddX5_cases 24 rfl) rfl (lv_at hl 1 rfl) ?_
      exact e_ri CX hr hlk (Option.some.inj hf) (dg ddX5_cases 25 rfl)
    · have hf := it_f h2 hf
      refine lv_iload_n hx hb (dg ddX5_cases 10 rfl) rfl (lv_at hl 1 rfl) ?_
      refine lv_aload_n hx hb (dg ddX5_cases 11 rfl) rfl (lv_at hl 0 rfl) ?_
      refine lv_iload_n hx hb (dg ddX5_cases 12 rfl) rfl (lv_at hl 2 rfl) ?_
      refine lv_iconst (v := 5) hx hb (dg ddX5_cases 13 rfl) (by decide) ?_
      obtain ⟨r4, e3, hf⟩ := ob_some hf
      refine cro_vi CX hml (As := [.int x2, .int 5]) (rest := [.int x1]) (c_X5_of l D cy q m_thr m_kept m_rea m_det m_isv m_iit m_len m_at m_err m_wro m_cmd m_to1 m_to2 m_now m_sav m_ahe m_bef m_hst m_noi m_own m_inp x2 5 e3) lk_RX5_100 rfl rfl hRMX5_of hP hK hN 0 rfl rfl rfl hl.1 rfl (Nat.le_of_ble_eq_true rfl) ⟨Nat.le_of_ble_eq_true rfl, Nat.le_of_ble_eq_true rfl⟩ (dg ddX5_cases 14 rfl) ?_
      refine lv_iconst (v := (-1)) hx hb (dg ddX5_cases 15 rfl) (by decide) ?_
      refine lv_icmp_ne (tgt := 29) hx hb (dg ddX5_cases 16 rfl) (by decide) (fun h5 => ?_) (fun h5 => ?_)
      · have hf := it_f h5 hf
        refine lv_iconst (v := 1) hx hb (dg ddX5_cases 19 rfl) (by decide) ?_
        refine lv_iadd hx hb (dg ddX5_cases 20 rfl) ?_
        refine lv_istore_n (lv' := [(1, .int (x1 + 1)), (0, .ref (q 0)), (2, .int x2)]) hx hb (dg ddX5_cases 21 rfl) rfl hl (by decide) rfl (fun ls hl => ?_)
        refine lv_iinc (v := x2 + 1) (lv' := [(2, .int (x2 + 1)), (1, .int (x1 + 1)), (0, .ref (q 0))]) hx hb (dg ddX5_cases 22 rfl) hl (k := 2) rfl (congrArg (HAdd.hAdd x2) (by decide)) (by decide) rfl (fun ls hl => ?_)
        refine lv_goto (tgt := 4) hx hb (dg ddX5_cases 23 rfl) (by decide) ?_
        exact ih (x1 + 1) (x2 + 1) _ (lv_sub hl [2, 1, 0] rfl) hf
      · have hf := it_t h5 hf
        refine lv_iconst (v := 0) hx hb (dg ddX5_cases 17 rfl) (by decide) ?_
        refine lv_goto (tgt := 30) hx hb (dg ddX5_cases 18 rfl) (by decide) ?_
        refine lv_iadd hx hb (dg ddX5_cases 20 rfl) ?_
        refine lv_istore_n (lv' := [(1, .int (x1 + 0)), (0, .ref (q 0)), (2, .int x2)]) hx hb (dg ddX5_cases 21 rfl) rfl hl (by decide) rfl (fun ls hl => ?_)
        refine lv_iinc (v := x2 + 1) (lv' := [(2, .int (x2 + 1)), (1, .int (x1 + 0)), (0, .ref (q 0))]) hx hb (dg ddX5_cases 22 rfl) hl (k := 2) rfl (congrArg (HAdd.hAdd x2) (by decide)) (by decide) rfl (fun ls hl => ?_)
        refine lv_goto (tgt := 4) hx hb (dg ddX5_cases 23 rfl) (by decide) ?_
        exact ih (x1 + 0) (x2 + 1) _ (lv_sub hl [2, 1, 0] rfl) hf
  refine lv_iconst (v := 0) hx hb (dg ddX5_cases 0 rfl) (by decide) ?_
  refine lv_istore_n (lv' := [(1, .int 0), (0, .ref (q 0))]) hx hb (dg ddX5_cases 1 rfl) rfl hl (by decide) rfl (fun ls hl => ?_)
  refine lv_iconst (v := 0) hx hb (dg ddX5_cases 2 rfl) (by decide) ?_
  refine lv_istore_n (lv' := [(2, .int 0), (1, .int 0), (0, .ref (q 0))]) hx hb (dg ddX5_cases 3 rfl) rfl hl (by decide) rfl (fun ls hl => ?_)
  exact K4 4096 0 0 _ (lv_sub hl [2, 1, 0] rfl) hf
def f_X5_otherAccount (m_kept : Int32) (m_len : Int32) (m_now : Nat → Int32) (a1 : Int32) : Option (Int32) := if a1 = 8 then (og (inb 4 112) (some (m_now (4 : Int32).toNatClampNeg))) else (if a1 = 9 then (og (inb 5 112) (some (m_now (5 : Int32).toNatClampNeg))) else (if a1 = 10 then (ob (f_X5_cases m_now) fun r7 => (some r7)) else (if a1 = 11 then (og (inb 6 112) (some (m_now (6 : Int32).toNatClampNeg))) else (if a1 = 12 then (og (inb 7 112) (some (m_now (7 : Int32).toNatClampNeg))) else (if a1 = 13 then (some m_len) else (some m_kept))))))
set_option maxHeartbeats 4000000 in
set_option maxRecDepth 100000 in
theorem c_X5_otherAccount (l : Launch) (D : va_G) (cy : Nat → ClassId) (q : Nat → Nat) (m_thr : Int32) (m_kept : Int32) (m_rea : Int32) (m_det : Int32) (m_isv : Int32) (m_iit : Int32) (m_len : Int32) (m_at : Int32) (m_err : Int32) (m_wro : Int32) (m_cmd : Int32) (m_to1 : Int32) (m_to2 : Int32) (m_now : Nat → Int32) (m_sav : Nat → Int32) (m_ahe : Nat → Int32) (m_bef : Nat → Int32) (m_hst : Nat → Nat → Int32) (m_noi : Nat → UInt32) (m_own : Nat → UInt32) (m_inp : Nat → Int32) (a1 : Int32) {res : Int32} (hf : f_X5_otherAccount m_kept m_len m_now a1 = some res) : Met l yX5_otherAccount (.code yX5_otherAccount cX5_otherAccount 2 (some .int) :: lw_all) { frames := 3, cells := 0, slots := 0, locals := 56 } (va_Pc [.ref (q 0), .int a1] (sR D cy (wX5 q cy m_thr m_kept m_rea m_det m_isv m_iit m_len m_at m_err m_wro m_cmd m_to1 m_to2 m_now m_sav m_ahe m_bef m_hst m_noi m_own m_inp))) (vp_Si (fun r => r = res)) 0 0 (fun _ => False) := by
  refine mk_ro (Rc := RX5) (by decide +kernel) rfl (Nat.le_of_ble_eq_true rfl) ?_
  intro p e s m args below meth c ls CX hml hr hlk hK hN hP hl
  have hx := CX.1
  have hb := CX.2.1
  have hRMX5_cases : (⟨2, 0, 0, 34⟩ : Room).frames + 1 ≤ (⟨3, 0, 0, 56⟩ : Room).frames ∧ 8 + (3 + 11) + (⟨2, 0, 0, 34⟩ : Room).locals ≤ (⟨3, 0, 0, 56⟩ : Room).locals := ⟨Nat.le_of_ble_eq_true rfl, Nat.le_of_ble_eq_true rfl⟩
  refine lv_iload_n hx hb (dg ddX5_otherAccount 0 rfl) rfl (lv_at hl 1 rfl) ?_
  by_cases h1 : a1 = 8
  · have hf := it_t h1 hf
    refine lv_tableIn (off := 39) (tgt := 40) hx hb (dg ddX5_otherAccount 1 rfl) (by rw [h1]; decide) (by rw [h1]; decide) (by rw [h1]; rfl) (by decide) ?_
    refine lv_aload_n hx hb (dg ddX5_otherAccount 2 rfl) rfl (lv_at hl 0 rfl) ?_
    refine gf_RX5_9 CX hK hP 0 rfl rfl (dg ddX5_otherAccount 3 rfl) ?_
    refine lv_iconst (v := 4) hx hb (dg ddX5_otherAccount 4 rfl) (by decide) ?_
    obtain ⟨h2, hf⟩ := og_some hf
    refine va_iald hx hb hK hP 1 0 rfl rfl (inb_in h2) (dg ddX5_otherAccount 5 rfl) ?_
    exact e_ri CX hr hlk (Option.some.inj hf) (dg ddX5_otherAccount 6 rfl)
  have hf := it_f h1 hf
  by_cases h3 : a1 = 9
  · have hf := it_t h3 hf
    refine lv_tableIn (off := 46) (tgt := 47) hx hb (dg ddX5_otherAccount 1 rfl) (by rw [h3]; decide) (by rw [h3]; decide) (by rw [h3]; rfl) (by decide) ?_
    refine lv_aload_n hx hb (dg ddX5_otherAccount 7 rfl) rfl (lv_at hl 0 rfl) ?_
    refine gf_RX5_9 CX hK hP 0 rfl rfl (dg ddX5_otherAccount 8 rfl) ?_
    refine lv_iconst (v := 5) hx hb (dg ddX5_otherAccount 9 rfl) (by decide) ?_
    obtain ⟨h4, hf⟩ := og_some hf
    refine va_iald hx hb hK hP 1 0 rfl rfl (inb_in h4) (dg ddX5_otherAccount 10 rfl) ?_
    exact e_ri CX hr hlk (Option.some.inj hf) (dg ddX5_otherAccount 11 rfl)
  have hf := it_f h3 hf
  by_cases h5 : a1 = 10
  · have hf := it_t h5 hf
    refine lv_tableIn (off := 53) (tgt := 54) hx hb (dg ddX5_otherAccount 1 rfl) (by rw [h5]; decide) (by rw [h5]; decide) (by rw [h5]; rfl) (by decide) ?_
    refine lv_aload_n hx hb (dg ddX5_otherAccount 12 rfl) rfl (lv_at hl 0 rfl) ?_
    obtain ⟨r7, e6, hf⟩ := ob_some hf
    refine cro_vi CX hml (As := []) (rest := []) (c_X5_cases l D cy q m_thr m_kept m_rea m_det m_isv m_iit m_len m_at m_err m_wro m_cmd m_to1 m_to2 m_now m_sav m_ahe m_bef m_hst m_noi m_own m_inp e6) lk_RX5_253 rfl rfl hRMX5_cases hP hK hN 0 rfl rfl rfl hl.1 rfl (Nat.le_of_ble_eq_true rfl) ⟨Nat.le_of_ble_eq_true rfl, Nat.le_of_ble_eq_true rfl⟩ (dg ddX5_otherAccount 13 rfl) ?_
    exact e_ri CX hr hlk (Option.some.inj hf) (dg ddX5_otherAccount 14 rfl)
  have hf := it_f h5 hf
  by_cases h8 : a1 = 11
  · have hf := it_t h8 hf
    refine lv_tableIn (off := 58) (tgt := 59) hx hb (dg ddX5_otherAccount 1 rfl) (by rw [h8]; decide) (by rw [h8]; decide) (by rw [h8]; rfl) (by decide) ?_
    refine lv_aload_n hx hb (dg ddX5_otherAccount 15 rfl) rfl (lv_at hl 0 rfl) ?_
    refine gf_RX5_9 CX hK hP 0 rfl rfl (dg ddX5_otherAccount 16 rfl) ?_
    refine lv_bipush (v := 6) hx hb (dg ddX5_otherAccount 17 rfl) (by decide) ?_
    obtain ⟨h9, hf⟩ := og_some hf
    refine va_iald hx hb hK hP 1 0 rfl rfl (inb_in h9) (dg ddX5_otherAccount 18 rfl) ?_
    exact e_ri CX hr hlk (Option.some.inj hf) (dg ddX5_otherAccount 19 rfl)
  have hf := it_f h8 hf
  by_cases h10 : a1 = 12
  · have hf := it_t h10 hf
    refine lv_tableIn (off := 66) (tgt := 67) hx hb (dg ddX5_otherAccount 1 rfl) (by rw [h10]; decide) (by rw [h10]; decide) (by rw [h10]; rfl) (by decide) ?_
    refine lv_aload_n hx hb (dg ddX5_otherAccount 20 rfl) rfl (lv_at hl 0 rfl) ?_
    refine gf_RX5_9 CX hK hP 0 rfl rfl (dg ddX5_otherAccount 21 rfl) ?_
    refine lv_bipush (v := 7) hx hb (dg ddX5_otherAccount 22 rfl) (by decide) ?_
    obtain ⟨h11, hf⟩ := og_some hf
    refine va_iald hx hb hK hP 1 0 rfl rfl (inb_in h11) (dg ddX5_otherAccount 23 rfl) ?_
    exact e_ri CX hr hlk (Option.some.inj hf) (dg ddX5_otherAccount 24 rfl)
  have hf := it_f h10 hf
  by_cases h12 : a1 = 13
  · have hf := it_t h12 hf
    refine lv_tableIn (off := 74) (tgt := 75) hx hb (dg ddX5_otherAccount 1 rfl) (by rw [h12]; decide) (by rw [h12]; decide) (by rw [h12]; rfl) (by decide) ?_
    refine lv_aload_n hx hb (dg ddX5_otherAccount 25 rfl) rfl (lv_at hl 0 rfl) ?_
    refine gf_RX5_189 CX hK hP 0 rfl rfl (dg ddX5_otherAccount 26 rfl) ?_
    exact e_ri CX hr hlk (Option.some.inj hf) (dg ddX5_otherAccount 27 rfl)
  have hf := it_f h12 hf
  refine lv_tabD (off := 79) (tgt := 80) hx hb (dg ddX5_otherAccount 1 rfl) (by have g0 : (a1).toInt ≠ 8 := ne_ti h1 (by decide); have g1 : (a1).toInt ≠ 9 := ne_ti h3 (by decide); have g2 : (a1).toInt ≠ 10 := ne_ti h5 (by decide); have g3 : (a1).toInt ≠ 11 := ne_ti h8 (by decide); have g4 : (a1).toInt ≠ 12 := ne_ti h10 (by decide); have g5 : (a1).toInt ≠ 13 := ne_ti h12 (by decide); exact Or.inl ⟨by omega, rfl⟩) (by decide) ?_
  refine lv_aload_n hx hb (dg ddX5_otherAccount 28 rfl) rfl (lv_at hl 0 rfl) ?_
  refine gf_RX5_62 CX hK hP 0 rfl rfl (dg ddX5_otherAccount 29 rfl) ?_
  exact e_ri CX hr hlk (Option.some.inj hf) (dg ddX5_otherAccount 30 rfl)
def f_X5_account_c17  (m_kept : Int32) (m_len : Int32) (m_now : Nat → Int32) (a1 : Int32) (t0 : Int32) (t1 : Int32) (m_thr : Int32) : Option (Int32 × Int32) := ob (f_X5_fails m_thr t1 t0) fun r2 => (if r2.1 = 0 then (if a1 = 0 then (og (inb 0 112) (some ((m_now (0 : Int32).toNatClampNeg), r2.2))) else (if a1 = 1 then (og (inb 1 112) (some ((m_now (1 : Int32).toNatClampNeg), r2.2))) else (if a1 = 2 then (og (inb 2 112) (some ((m_now (2 : Int32).toNatClampNeg), r2.2))) else (if a1 = 3 then (og (inb 2 112) (og (inb 3 112) (ob (f_X5_playing m_now) fun r14 => (some ((((m_now (2 : Int32).toNatClampNeg) - (m_now (3 : Int32).toNatClampNeg)) - r14), r2.2))))) else (if a1 = 4 then (og (inb 3 112) (some ((m_now (3 : Int32).toNatClampNeg), r2.2))) else (if a1 = 5 then (ob (f_X5_playing m_now) fun r19 => (some (r19, r2.2))) else (if a1 = 6 then (ob (f_X5_snapped m_now) fun r22 => (some (r22, r2.2))) else (if a1 = 7 then (ob (f_X5_complaints m_now) fun r25 => (some (r25, r2.2))) else (ob (f_X5_otherAccount m_kept m_len m_now a1) fun r27 => (some (r27, r2.2))))))))))) else (some (0, r2.2)))
def f_X5_account (m_thr : Int32) (m_kept : Int32) (m_len : Int32) (m_now : Nat → Int32) (a1 : Int32) : Option (Int32 × Int32) := ob (f_X5_isBetween a1 0 14) fun r2 => (if r2 = 0 then (f_X5_account_c17 m_kept m_len m_now a1 1 1 m_thr) else (f_X5_account_c17 m_kept m_len m_now a1 0 1 m_thr))
set_option maxHeartbeats 4000000 in
set_option maxRecDepth 100000 in
theorem c_X5_account (l : Launch) (D : va_G) (cy : Nat → ClassId) (q : Nat → Nat) (m_thr : Int32) (m_kept : Int32) (m_rea : Int32) (m_det : Int32) (m_isv : Int32) (m_iit : Int32) (m_len : Int32) (m_at : Int32) (m_err : Int32) (m_wro : Int32) (m_cmd : Int32) (m_to1 : Int32) (m_to2 : Int32) (m_now : Nat → Int32) (m_sav : Nat → Int32) (m_ahe : Nat → Int32) (m_bef : Nat → Int32) (m_hst : Nat → Nat → Int32) (m_noi : Nat → UInt32) (m_own : Nat → UInt32) (m_inp : Nat → Int32) (a1 : Int32) (sz : Nat) {res : Int32 × Int32} (hf : f_X5_account m_thr m_kept m_len m_now a1 = some res) : Met l yX5_account (.code yX5_account cX5_account 2 (some .int) :: lw_all) { frames := 5, cells := 0, slots := 0, locals := 105 } (va_Pc [.ref (q 0), .int a1] (sW D cy (wX5 q cy m_thr m_kept m_rea m_det m_isv m_iit m_len m_at m_err m_wro m_cmd m_to1 m_to2 m_now m_sav m_ahe m_bef m_hst m_noi m_own m_inp) sz)) (qI D (wX5 q cy res.2 m_kept m_rea m_det m_isv m_iit m_len m_at m_err m_wro m_cmd m_to1 m_to2 m_now m_sav m_ahe m_bef m_hst m_noi m_own m_inp) res.1 (va_A (wX5 q cy m_thr m_kept m_rea m_det m_isv m_iit m_len m_at m_err m_wro m_cmd m_to1 m_to2 m_now m_sav m_ahe m_bef m_hst m_noi m_own m_inp) sz)) 0 0 (va_A (wX5 q cy m_thr m_kept m_rea m_det m_isv m_iit m_len m_at m_err m_wro m_cmd m_to1 m_to2 m_now m_sav m_ahe m_bef m_hst m_noi m_own m_inp) sz) := by
  refine mk_rw (Qc := qI D (wX5 q cy res.2 m_kept m_rea m_det m_isv m_iit m_len m_at m_err m_wro m_cmd m_to1 m_to2 m_now m_sav m_ahe m_bef m_hst m_noi m_own m_inp) res.1) (Rc := RX5) (by decide +kernel) rfl (Nat.le_of_ble_eq_true rfl) ?_
  intro p e s m args below meth c ls A CX hml hr hlk hK hN hP hD hS hA hl
  have hx := CX.1
  have hb := CX.2.1
  have hRMX5_complaints : (⟨2, 0, 0, 34⟩ : Room).frames + 1 ≤ (⟨5, 0, 0, 105⟩ : Room).frames ∧ 8 + (3 + 11) + (⟨2, 0, 0, 34⟩ : Room).locals ≤ (⟨5, 0, 0, 105⟩ : Room).locals := ⟨Nat.le_of_ble_eq_true rfl, Nat.le_of_ble_eq_true rfl⟩
  have hRMX5_fails : (⟨1, 0, 0, 12⟩ : Room).frames + 1 ≤ (⟨5, 0, 0, 105⟩ : Room).frames ∧ 8 + (3 + 11) + (⟨1, 0, 0, 12⟩ : Room).locals ≤ (⟨5, 0, 0, 105⟩ : Room).locals := ⟨Nat.le_of_ble_eq_true rfl, Nat.le_of_ble_eq_true rfl⟩
  have hRMX5_isBetween : (⟨1, 0, 0, 12⟩ : Room).frames + 1 ≤ (⟨5, 0, 0, 105⟩ : Room).frames ∧ 8 + (3 + 11) + (⟨1, 0, 0, 12⟩ : Room).locals ≤ (⟨5, 0, 0, 105⟩ : Room).locals := ⟨Nat.le_of_ble_eq_true rfl, Nat.le_of_ble_eq_true rfl⟩
  have hRMX5_otherAccount : (⟨3, 0, 0, 56⟩ : Room).frames + 1 ≤ (⟨5, 0, 0, 105⟩ : Room).frames ∧ 8 + (2 + 11) + (⟨3, 0, 0, 56⟩ : Room).locals ≤ (⟨5, 0, 0, 105⟩ : Room).locals := ⟨Nat.le_of_ble_eq_true rfl, Nat.le_of_ble_eq_true rfl⟩
  have hRMX5_playing : (⟨2, 0, 0, 34⟩ : Room).frames + 1 ≤ (⟨5, 0, 0, 105⟩ : Room).frames ∧ 8 + (3 + 11) + (⟨2, 0, 0, 34⟩ : Room).locals ≤ (⟨5, 0, 0, 105⟩ : Room).locals := ⟨Nat.le_of_ble_eq_true rfl, Nat.le_of_ble_eq_true rfl⟩
  have hRMX5_snapped : (⟨4, 0, 0, 83⟩ : Room).frames + 1 ≤ (⟨5, 0, 0, 105⟩ : Room).frames ∧ 8 + (3 + 11) + (⟨4, 0, 0, 83⟩ : Room).locals ≤ (⟨5, 0, 0, 105⟩ : Room).locals := ⟨Nat.le_of_ble_eq_true rfl, Nat.le_of_ble_eq_true rfl⟩
  have hl0 := hl
  have K17 : ∀ (t0 : Int32) (t1 : Int32) (m_thr : Int32) (H : Heap) (locs : List Loc) (hP : va_P D vwCl (wX5 q cy m_thr m_kept m_rea m_det m_isv m_iit m_len m_at m_err m_wro m_cmd m_to1 m_to2 m_now m_sav m_ahe m_bef m_hst m_noi m_own m_inp) H) (hD : va_D A (wX5 q cy m_thr m_kept m_rea m_det m_isv m_iit m_len m_at m_err m_wro m_cmd m_to1 m_to2 m_now m_sav m_ahe m_bef m_hst m_noi m_own m_inp)) (hS : va_S A s.heap H locs) (ls : Array Slot) (hl : lv_has ls 2 [(0, .ref (q 0)), (1, .int a1)]) (hf : f_X5_account_c17 m_kept m_len m_now a1 t0 t1 m_thr = some res), W p l e ⟨5, 0, 0, 105⟩ s m args below meth c H locs 0 0 (MQ below (qI D (wX5 q cy res.2 m_kept m_rea m_det m_isv m_iit m_len m_at m_err m_wro m_cmd m_to1 m_to2 m_now m_sav m_ahe m_bef m_hst m_noi m_own m_inp) res.1 A) args s 0 0 A) (F0 m 17 ls [.int t0, .int t1, .ref (q 0)]) := by
    intro t0 t1 m_thr H locs hP hD hS ls hl hf
    obtain ⟨r2, e1, hf⟩ := ob_some hf
    refine crw_vi CX hml (As := [.int t1, .int t0]) (rest := []) (c_X5_fails l D cy q m_thr m_kept m_rea m_det m_isv m_iit m_len m_at m_err m_wro m_cmd m_to1 m_to2 m_now m_sav m_ahe m_bef m_hst m_noi m_own m_inp t1 t0 _ e1) lk_RX5_81 rfl rfl hRMX5_fails hP hD hS hA hK hN 0 rfl rfl rfl hl.1 rfl (Nat.le_of_ble_eq_true rfl) ⟨Nat.le_of_ble_eq_true rfl, Nat.le_of_ble_eq_true rfl⟩ (dg ddX5_account 10 rfl) (fun H locs hP hD hS => ?_)
    refine lv_if_eq (tgt := 25) hx hb (dg ddX5_account 11 rfl) (by decide) (fun h3 => ?_) (fun h3 => ?_)
    · have hf := it_t h3 hf
      refine lv_iload_n hx hb (dg ddX5_account 14 rfl) rfl (lv_at hl 1 rfl) ?_
      by_cases h4 : a1 = 0
      · have hf := it_t h4 hf
        refine lv_tableIn (off := 46) (tgt := 72) hx hb (dg ddX5_account 15 rfl) (by rw [h4]; decide) (by rw [h4]; decide) (by rw [h4]; rfl) (by decide) ?_
        refine lv_aload_n hx hb (dg ddX5_account 16 rfl) rfl (lv_at hl 0 rfl) ?_
        refine gf_RX5_9 CX hK hP 0 rfl rfl (dg ddX5_account 17 rfl) ?_
        refine lv_iconst (v := 0) hx hb (dg ddX5_account 18 rfl) (by decide) ?_
        obtain ⟨h5, hf⟩ := og_some hf
        refine va_iald hx hb hK hP 1 0 rfl rfl (inb_in h5) (dg ddX5_account 19 rfl) ?_
        cases hf
        exact e_wi CX hr hlk rfl hP hD hS (dg ddX5_account 20 rfl)
      have hf := it_f h4 hf
      by_cases h6 : a1 = 1
      · have hf := it_t h6 hf
        refine lv_tableIn (off := 53) (tgt := 79) hx hb (dg ddX5_account 15 rfl) (by rw [h6]; decide) (by rw [h6]; decide) (by rw [h6]; rfl) (by decide) ?_
        refine lv_aload_n hx hb (dg ddX5_account 21 rfl) rfl (lv_at hl 0 rfl) ?_
        refine gf_RX5_9 CX hK hP 0 rfl rfl (dg ddX5_account 22 rfl) ?_
        refine lv_iconst (v := 1) hx hb (dg ddX5_account 23 rfl) (by decide) ?_
        obtain ⟨h7, hf⟩ := og_some hf
        refine va_iald hx hb hK hP 1 0 rfl rfl (inb_in h7) (dg ddX5_account 24 rfl) ?_
        cases hf
        exact e_wi CX hr hlk rfl hP hD hS (dg ddX5_account 25 rfl)
      have hf := it_f h6 hf
      by_cases h8 : a1 = 2
      · have hf := it_t h8 hf
        refine lv_tableIn (off := 60) (tgt := 86) hx hb (dg ddX5_account 15 rfl) (by rw [h8]; decide) (by rw [h8]; decide) (by rw [h8]; rfl) (by decide) ?_
        refine lv_aload_n hx hb (dg ddX5_account 26 rfl) rfl (lv_at hl 0 rfl) ?_
        refine gf_RX5_9 CX hK hP 0 rfl rfl (dg ddX5_account 27 rfl) ?_
        refine lv_iconst (v := 2) hx hb (dg ddX5_account 28 rfl) (by decide) ?_
        obtain ⟨h9, hf⟩ := og_some hf
        refine va_iald hx hb hK hP 1 0 rfl rfl (inb_in h9) (dg ddX5_account 29 rfl) ?_
        cases hf
        exact e_wi CX hr hlk rfl hP hD hS (dg ddX5_account 30 rfl)
      have hf := it_f h8 hf
      by_cases h10 : a1 = 3
      · have hf := it_t h10 hf
        refine lv_tableIn (off := 67) (tgt := 93) hx hb (dg ddX5_account 15 rfl) (by rw [h10]; decide) (by rw [h10]; decide) (by rw [h10]; rfl) (by decide) ?_
        refine lv_aload_n hx hb (dg ddX5_account 31 rfl) rfl (lv_at hl 0 rfl) ?_
        refine gf_RX5_9 CX hK hP 0 rfl rfl (dg ddX5_account 32 rfl) ?_
        refine lv_iconst (v := 2) hx hb (dg ddX5_account 33 rfl) (by decide) ?_
        obtain ⟨h11, hf⟩ := og_some hf
        refine va_iald hx hb hK hP 1 0 rfl rfl (inb_in h11) (dg ddX5_account 34 rfl) ?_
        refine lv_aload_n hx hb (dg ddX5_account 35 rfl) rfl (lv_at hl 0 rfl) ?_
        refine gf_RX5_9 CX hK hP 0 rfl rfl (dg ddX5_account 36 rfl) ?_
        refine lv_iconst (v := 3) hx hb (dg ddX5_account 37 rfl) (by decide) ?_
        obtain ⟨h12, hf⟩ := og_some hf
        refine va_iald hx hb hK hP 1 0 rfl rfl (inb_in h12) (dg ddX5_account 38 rfl) ?_
        refine lv_isub hx hb (dg ddX5_account 39 rfl) ?_
        refine lv_aload_n hx hb (dg ddX5_account 40 rfl) rfl (lv_at hl 0 rfl) ?_
        obtain ⟨r14, e13, hf⟩ := ob_some hf
        refine cro_vi CX hml (As := []) (rest := [.int ((m_now (2 : Int32).toNatClampNeg) - (m_now (3 : Int32).toNatClampNeg))]) (c_X5_playing l D cy q r2.2 m_kept m_rea m_det m_isv m_iit m_len m_at m_err m_wro m_cmd m_to1 m_to2 m_now m_sav m_ahe m_bef m_hst m_noi m_own m_inp e13) lk_RX5_186 rfl rfl hRMX5_playing hP hK hN 0 rfl rfl rfl hl.1 rfl (Nat.le_of_ble_eq_true rfl) ⟨Nat.le_of_ble_eq_true rfl, Nat.le_of_ble_eq_true rfl⟩ (dg ddX5_account 41 rfl) ?_
        refine lv_isub hx hb (dg ddX5_account 42 rfl) ?_
        cases hf
        exact e_wi CX hr hlk rfl hP hD hS (dg ddX5_account 43 rfl)
      have hf := it_f h10 hf
      by_cases h15 : a1 = 4
      · have hf := it_t h15 hf
        refine lv_tableIn (off := 86) (tgt := 112) hx hb (dg ddX5_account 15 rfl) (by rw [h15]; decide) (by rw [h15]; decide) (by rw [h15]; rfl) (by decide) ?_
        refine lv_aload_n hx hb (dg ddX5_account 44 rfl) rfl (lv_at hl 0 rfl) ?_
        refine gf_RX5_9 CX hK hP 0 rfl rfl (dg ddX5_account 45 rfl) ?_
        refine lv_iconst (v := 3) hx hb (dg ddX5_account 46 rfl) (by decide) ?_
        obtain ⟨h16, hf⟩ := og_some hf
        refine va_iald hx hb hK hP 1 0 rfl rfl (inb_in h16) (dg ddX5_account 47 rfl) ?_
        cases hf
        exact e_wi CX hr hlk rfl hP hD hS (dg ddX5_account 48 rfl)
      have hf := it_f h15 hf
      by_cases h17 : a1 = 5
      · have hf := it_t h17 hf
        refine lv_tableIn (off := 93) (tgt := 119) hx hb (dg ddX5_account 15 rfl) (by rw [h17]; decide) (by rw [h17]; decide) (by rw [h17]; rfl) (by decide) ?_
        refine lv_aload_n hx hb (dg ddX5_account 49 rfl) rfl (lv_at hl 0 rfl) ?_
        obtain ⟨r19, e18, hf⟩ := ob_some hf
        refine cro_vi CX hml (As := []) (rest := []) (c_X5_playing l D cy q r2.2 m_kept m_rea m_det m_isv m_iit m_len m_at m_err m_wro m_cmd m_to1 m_to2 m_now m_sav m_ahe m_bef m_hst m_noi m_own m_inp e18) lk_RX5_186 rfl rfl hRMX5_playing hP hK hN 0 rfl rfl rfl hl.1 rfl (Nat.le_of_ble_eq_true rfl) ⟨Nat.le_of_ble_eq_true rfl, Nat.le_of_ble_eq_true rfl⟩ (dg ddX5_account 50 rfl) ?_
        cases hf
        exact e_wi CX hr hlk rfl hP hD hS (dg ddX5_account 51 rfl)
      have hf := it_f h17 hf
      by_cases h20 : a1 = 6
      · have hf := it_t h20 hf
        refine lv_tableIn (off := 98) (tgt := 124) hx hb (dg ddX5_account 15 rfl) (by rw [h20]; decide) (by rw [h20]; decide) (by rw [h20]; rfl) (by decide) ?_
        refine lv_aload_n hx hb (dg ddX5_account 52 rfl) rfl (lv_at hl 0 rfl) ?_
        obtain ⟨r22, e21, hf⟩ := ob_some hf
        refine cro_vi CX hml (As := []) (rest := []) (c_X5_snapped l D cy q r2.2 m_kept m_rea m_det m_isv m_iit m_len m_at m_err m_wro m_cmd m_to1 m_to2 m_now m_sav m_ahe m_bef m_hst m_noi m_own m_inp e21) lk_RX5_256 rfl rfl hRMX5_snapped hP hK hN 0 rfl rfl rfl hl.1 rfl (Nat.le_of_ble_eq_true rfl) ⟨Nat.le_of_ble_eq_true rfl, Nat.le_of_ble_eq_true rfl⟩ (dg ddX5_account 53 rfl) ?_
        cases hf
        exact e_wi CX hr hlk rfl hP hD hS (dg ddX5_account 54 rfl)
      have hf := it_f h20 hf
      by_cases h23 : a1 = 7
      · have hf := it_t h23 hf
        refine lv_tableIn (off := 103) (tgt := 129) hx hb (dg ddX5_account 15 rfl) (by rw [h23]; decide) (by rw [h23]; decide) (by rw [h23]; rfl) (by decide) ?_
        refine lv_aload_n hx hb (dg ddX5_account 55 rfl) rfl (lv_at hl 0 rfl) ?_
        obtain ⟨r25, e24, hf⟩ := ob_some hf
        refine cro_vi CX hml (As := []) (rest := []) (c_X5_complaints l D cy q r2.2 m_kept m_rea m_det m_isv m_iit m_len m_at m_err m_wro m_cmd m_to1 m_to2 m_now m_sav m_ahe m_bef m_hst m_noi m_own m_inp e24) lk_RX5_259 rfl rfl hRMX5_complaints hP hK hN 0 rfl rfl rfl hl.1 rfl (Nat.le_of_ble_eq_true rfl) ⟨Nat.le_of_ble_eq_true rfl, Nat.le_of_ble_eq_true rfl⟩ (dg ddX5_account 56 rfl) ?_
        cases hf
        exact e_wi CX hr hlk rfl hP hD hS (dg ddX5_account 57 rfl)
      have hf := it_f h23 hf
      refine lv_tabD (off := 108) (tgt := 134) hx hb (dg ddX5_account 15 rfl) (by have g0 : (a1).toInt ≠ 0 := ne_ti h4 (by decide); have g1 : (a1).toInt ≠ 1 := ne_ti h6 (by decide); have g2 : (a1).toInt ≠ 2 := ne_ti h8 (by decide); have g3 : (a1).toInt ≠ 3 := ne_ti h10 (by decide); have g4 : (a1).toInt ≠ 4 := ne_ti h15 (by decide); have g5 : (a1).toInt ≠ 5 := ne_ti h17 (by decide); have g6 : (a1).toInt ≠ 6 := ne_ti h20 (by decide); have g7 : (a1).toInt ≠ 7 := ne_ti h23 (by decide); exact Or.inl ⟨by omega, rfl⟩) (by decide) ?_
      refine lv_aload_n hx hb (dg ddX5_account 58 rfl) rfl (lv_at hl 0 rfl) ?_
      refine lv_iload_n hx hb (dg ddX5_account 59 rfl) rfl (lv_at hl 1 rfl) ?_
      obtain ⟨r27, e26, hf⟩ := ob_some hf
      refine cro_vi CX hml (As := [.int a1]) (rest := []) (c_X5_otherAccount l D cy q r2.2 m_kept m_rea m_det m_isv m_iit m_len m_at m_err m_wro m_cmd m_to1 m_to2 m_now m_sav m_ahe m_bef m_hst m_noi m_own m_inp a1 e26) lk_RX5_262 rfl rfl hRMX5_otherAccount hP hK hN 0 rfl rfl rfl hl.1 rfl (Nat.le_of_ble_eq_true rfl) ⟨Nat.le_of_ble_eq_true rfl, Nat.le_of_ble_eq_true rfl⟩ (dg ddX5_account 60 rfl) ?_
      cases hf
      exact e_wi CX hr hlk rfl hP hD hS (dg ddX5_account 61 rfl)
    · have hf := it_f h3 hf
      refine lv_iconst (v := 0) hx hb (dg ddX5_account 12 rfl) (by decide) ?_
      cases hf
      exact e_wi CX hr hlk rfl hP hD hS (dg ddX5_account 13 rfl)
  refine lv_aload_n hx hb (dg ddX5_account 0 rfl) rfl (lv_at hl 0 rfl) ?_
  refine lv_iconst (v := 1) hx hb (dg ddX5_account 1 rfl) (by decide) ?_
  refine lv_iload_n hx hb (dg ddX5_account 2 rfl) rfl (lv_at hl 1 rfl) ?_
  refine lv_iconst (v := 0) hx hb (dg ddX5_account 3 rfl) (by decide) ?_
  refine lv_bipush (v := 14) hx hb (dg ddX5_account 4 rfl) (by decide) ?_
  obtain ⟨r2, e1, hf⟩ := ob_some hf
  refine cro_si CX hml (As := [.int a1, .int 0, .int 14]) (rest := [.int 1, .ref (q 0)]) (c_X5_isBetween l D cy a1 0 14 e1) lk_RX5_77 rfl rfl hRMX5_isBetween vaP_nil hK hN rfl hl.1 rfl (Nat.le_of_ble_eq_true rfl) ⟨Nat.le_of_ble_eq_true rfl, Nat.le_of_ble_eq_true rfl⟩ (dg ddX5_account 5 rfl) ?_
  refine lv_if_ne (tgt := 16) hx hb (dg ddX5_account 6 rfl) (by decide) (fun h3 => ?_) (fun h3 => ?_)
  · have hf := it_f h3 hf
    refine lv_iconst (v := 0) hx hb (dg ddX5_account 9 rfl) (by decide) ?_
    exact K17  0 1 m_thr _ _ hP hD hS _ (lv_sub hl [0, 1] rfl) hf
  · have hf := it_t h3 hf
    refine lv_iconst (v := 1) hx hb (dg ddX5_account 7 rfl) (by decide) ?_
    refine lv_goto (tgt := 17) hx hb (dg ddX5_account 8 rfl) (by decide) ?_
    exact K17  1 1 m_thr _ _ hP hD hS _ (lv_sub hl [0, 1] rfl) hf
def f_X5_isWell_c92  (m_now : Nat → Int32) : Nat → Int32 → Int32 → Int32 → Option (Int32 × Int32)
  | 0, _, _, _ => none
  | n + 1, x1, x2, m_thr => if 8 ≤ x2 then (og (isZ x1) (some (x1, m_thr))) else (if x1 = 0 then (og (isZ x1) (some (x1, m_thr))) else (ob (f_X5_ofPitch m_now x2 3) fun r6 => (if r6 = (-1) then (f_X5_isWell_c92 m_now n 1 (x2 + 1) m_thr) else (ob (f_X5_of m_now r6 4) fun r9 => (if r9 = x2 then (f_X5_isWell_c92 m_now n 1 (x2 + 1) m_thr) else (f_X5_isWell_c92 m_now n 0 (x2 + 1) m_thr))))))
def f_X5_isWell_c33  (m_now : Nat → Int32) : Nat → Int32 → Int32 → Int32 → Option (Int32 × Int32)
  | 0, _, _, _ => none
  | n + 1, x1, x2, m_thr => og (inb 2 112) (if (m_now (2 : Int32).toNatClampNeg) ≤ x2 then (f_X5_isWell_c92 m_now 4096 x1 0 m_thr) else (if x1 = 0 then (f_X5_isWell_c92 m_now 4096 x1 0 m_thr) else (ob (f_X5_of m_now x2 4) fun r5 => (if r5 = (-1) then (f_X5_isWell_c33 m_now n 1 (x2 + 1) m_thr) else (ob (f_X5_ofPitch m_now r5 3) fun r8 => (if r8 = x2 then (ob (f_X5_placeInLine m_now x2) fun r11 => (if r11 = (-1) then (f_X5_isWell_c33 m_now n 1 (x2 + 1) m_thr) else (f_X5_isWell_c33 m_now n 0 (x2 + 1) m_thr))) else (f_X5_isWell_c33 m_now n 0 (x2 + 1) m_thr)))))))
def f_X5_isWell (m_thr : Int32) (m_now : Nat → Int32) : Option (Int32 × Int32) := ob (f_X5_complaints m_now) fun r2 => (og (inb 4 112) (og (inb 5 112) (if (r2 + (m_now (4 : Int32).toNatClampNeg)) = (m_now (5 : Int32).toNatClampNeg) then (f_X5_isWell_c33 m_now 4096 1 0 0) else (f_X5_isWell_c33 m_now 4096 0 0 0))))
set_option maxHeartbeats 4000000 in
set_option maxRecDepth 100000 in
theorem c_X5_isWell (l : Launch) (D : va_G) (cy : Nat → ClassId) (q : Nat → Nat) (m_thr : Int32) (m_kept : Int32) (m_rea : Int32) (m_det : Int32) (m_isv : Int32) (m_iit : Int32) (m_len : Int32) (m_at : Int32) (m_err : Int32) (m_wro : Int32) (m_cmd : Int32) (m_to1 : Int32) (m_to2 : Int32) (m_now : Nat → Int32) (m_sav : Nat → Int32) (m_ahe : Nat → Int32) (m_bef : Nat → Int32) (m_hst : Nat → Nat → Int32) (m_noi : Nat → UInt32) (m_own : Nat → UInt32) (m_inp : Nat → Int32) (sz : Nat) {res : Int32 × Int32} (hf : f_X5_isWell m_thr m_now = some res) : Met l yX5_isWell (.code yX5_isWell cX5_isWell 4 (some .boolean) :: lw_all) { frames := 3, cells := 0, slots := 0, locals := 56 } (va_Pc [.ref (q 0)] (sW D cy (wX5 q cy m_thr m_kept m_rea m_det m_isv m_iit m_len m_at m_err m_wro m_cmd m_to1 m_to2 m_now m_sav m_ahe m_bef m_hst m_noi m_own m_inp) sz)) (qI D (wX5 q cy res.2 m_kept m_rea m_det m_isv m_iit m_len m_at m_err m_wro m_cmd m_to1 m_to2 m_now m_sav m_ahe m_bef m_hst m_noi m_own m_inp) res.1 (va_A (wX5 q cy m_thr m_kept m_rea m_det m_isv m_iit m_len m_at m_err m_wro m_cmd m_to1 m_to2 m_now m_sav m_ahe m_bef m_hst m_noi m_own m_inp) sz)) 0 0 (va_A (wX5 q cy m_thr m_kept m_rea m_det m_isv m_iit m_len m_at m_err m_wro m_cmd m_to1 m_to2 m_now m_sav m_ahe m_bef m_hst m_noi m_own m_inp) sz) := by
  refine mk_rw (Qc := qI D (wX5 q cy res.2 m_kept m_rea m_det m_isv m_iit m_len m_at m_err m_wro m_cmd m_to1 m_to2 m_now m_sav m_ahe m_bef m_hst m_noi m_own m_inp) res.1) (Rc := RX5) (by decide +kernel) rfl (Nat.le_of_ble_eq_true rfl) ?_
  intro p e s m args below meth c ls A CX hml hr hlk hK hN hP hD hS hA hl
  have hx := CX.1
  have hb := CX.2.1
  have hRMX5_complaints : (⟨2, 0, 0, 34⟩ : Room).frames + 1 ≤ (⟨3, 0, 0, 56⟩ : Room).frames ∧ 8 + (3 + 11) + (⟨2, 0, 0, 34⟩ : Room).locals ≤ (⟨3, 0, 0, 56⟩ : Room).locals := ⟨Nat.le_of_ble_eq_true rfl, Nat.le_of_ble_eq_true rfl⟩
  have hRMX5_of : (⟨1, 0, 0, 12⟩ : Room).frames + 1 ≤ (⟨3, 0, 0, 56⟩ : Room).frames ∧ 8 + (3 + 11) + (⟨1, 0, 0, 12⟩ : Room).locals ≤ (⟨3, 0, 0, 56⟩ : Room).locals := ⟨Nat.le_of_ble_eq_true rfl, Nat.le_of_ble_eq_true rfl⟩
  have hRMX5_ofPitch : (⟨1, 0, 0, 12⟩ : Room).frames + 1 ≤ (⟨3, 0, 0, 56⟩ : Room).frames ∧ 8 + (3 + 11) + (⟨1, 0, 0, 12⟩ : Room).locals ≤ (⟨3, 0, 0, 56⟩ : Room).locals := ⟨Nat.le_of_ble_eq_true rfl, Nat.le_of_ble_eq_true rfl⟩
  have hRMX5_placeInLine : (⟨1, 0, 0, 12⟩ : Room).frames + 1 ≤ (⟨3, 0, 0, 56⟩ : Room).frames ∧ 8 + (3 + 11) + (⟨1, 0, 0, 12⟩ : Room).locals ≤ (⟨3, 0, 0, 56⟩ : Room).locals := ⟨Nat.le_of_ble_eq_true rfl, Nat.le_of_ble_eq_true rfl⟩
  have hl0 := hl
  have K92 : ∀ (n : Nat), ∀ (x1 : Int32) (x2 : Int32) (m_thr : Int32) (H : Heap) (locs : List Loc) (hP : va_P D vwCl (wX5 q cy m_thr m_kept m_rea m_det m_isv m_iit m_len m_at m_err m_wro m_cmd m_to1 m_to2 m_now m_sav m_ahe m_bef m_hst m_noi m_own m_inp) H) (hD : va_D A (wX5 q cy m_thr m_kept m_rea m_det m_isv m_iit m_len m_at m_err m_wro m_cmd m_to1 m_to2 m_now m_sav m_ahe m_bef m_hst m_noi m_own m_inp)) (hS : va_S A s.heap H locs) (ls : Array Slot) (hl : lv_has ls 4 [(0, .ref (q 0)), (1, .int x1), (2, .int x2)]) (hf : f_X5_isWell_c92 m_now n x1 x2 m_thr = some res), W p l e ⟨3, 0, 0, 56⟩ s m args below meth c H locs 0 0 (MQ below (qI D (wX5 q cy res.2 m_kept m_rea m_det m_isv m_iit m_len m_at m_err m_wro m_cmd m_to1 m_to2 m_now m_sav m_ahe m_bef m_hst m_noi m_own m_inp) res.1 A) args s 0 0 A) (F0 m 92 ls []) := by
    intro n
    induction n with
    | zero => intro x1 x2 m_thr H locs hP hD hS ls hl hf; cases (show none = some res from hf)
    | succ n ih =>
    intro x1 x2 m_thr H locs hP hD hS ls hl hf
    refine lv_iload_n hx hb (dg ddX5_isWell 56 rfl) rfl (lv_at hl 2 rfl) ?_
    refine lv_bipush (v := 8) hx hb (dg ddX5_isWell 57 rfl) (by decide) ?_
    refine lv_icmp_ge (tgt := 136) hx hb (dg ddX5_isWell 58 rfl) (by decide) (fun h1 => ?_) (fun h1 => ?_)
    · have hf := it_t h1 hf
      refine lv_iload_n hx hb (dg ddX5_isWell 81 rfl) rfl (lv_at hl 1 rfl) ?_
      obtain ⟨h2, hf⟩ := og_some hf
      cases hf
      exact e_wz CX hr hlk (isZ_n h2) rfl hP hD hS (dg ddX5_isWell 82 rfl)
    · have hf := it_f h1 hf
      refine lv_iload_n hx hb (dg ddX5_isWell 59 rfl) rfl (lv_at hl 1 rfl) ?_
      refine lv_if_eq (tgt := 136) hx hb (dg ddX5_isWell 60 rfl) (by decide) (fun h3 => ?_) (fun h3 => ?_)
      · have hf := it_t h3 hf
        refine lv_iload_n hx hb (dg ddX5_isWell 81 rfl) rfl (lv_at hl 1 rfl) ?_
        obtain ⟨h4, hf⟩ := og_some hf
        cases hf
        exact e_wz CX hr hlk (isZ_n h4) rfl hP hD hS (dg ddX5_isWell 82 rfl)
      · have hf := it_f h3 hf
        refine lv_aload_n hx hb (dg ddX5_isWell 61 rfl) rfl (lv_at hl 0 rfl) ?_
        refine lv_iload_n hx hb (dg ddX5_isWell 62 rfl) rfl (lv_at hl 2 rfl) ?_
        refine lv_iconst (v := 3) hx hb (dg ddX5_isWell 63 rfl) (by decide) ?_
        obtain ⟨r6, e5, hf⟩ := ob_some hf
        refine cro_vi CX hml (As := [.int x2, .int 3]) (rest := []) (c_X5_ofPitch l D cy q m_thr m_kept m_rea m_det m_isv m_iit m_len m_at m_err m_wro m_cmd m_to1 m_to2 m_now m_sav m_ahe m_bef m_hst m_noi m_own m_inp x2 3 e5) lk_RX5_88 rfl rfl hRMX5_ofPitch hP hK hN 0 rfl rfl rfl hl.1 rfl (Nat.le_of_ble_eq_true rfl) ⟨Nat.le_of_ble_eq_true rfl, Nat.le_of_ble_eq_true rfl⟩ (dg ddX5_isWell 64 rfl) ?_
        refine lv_istore_n (lv' := [(3, .int r6), (0, .ref (q 0)), (1, .int x1), (2, .int x2)]) hx hb (dg ddX5_isWell 65 rfl) rfl hl (by decide) rfl (fun ls hl => ?_)
        refine lv_iload_n hx hb (dg ddX5_isWell 66 rfl) rfl (lv_at hl 0 rfl) ?_
        refine lv_iconst (v := (-1)) hx hb (dg ddX5_isWell 67 rfl) (by decide) ?_
        refine lv_icmp_eq (tgt := 124) hx hb (dg ddX5_isWell 68 rfl) (by decide) (fun h7 => ?_) (fun h7 => ?_)
        · have hf := it_t h7 hf
          refine lv_iconst (v := 1) hx hb (dg ddX5_isWell 75 rfl) (by decide) ?_
          refine lv_goto (tgt := 129) hx hb (dg ddX5_isWell 76 rfl) (by decide) ?_
          refine lv_istore_n (lv' := [(1, .int 1), (3, .int r6), (0, .ref (q 0)), (2, .int x2)]) hx hb (dg ddX5_isWell 78 rfl) rfl hl (by decide) rfl (fun ls hl => ?_)
          refine lv_iinc (v := x2 + 1) (lv' := [(2, .int (x2 + 1)), (1, .int 1), (3, .int r6), (0, .ref (q 0))]) hx hb (dg ddX5_isWell 79 rfl) hl (k := 3) rfl (congrArg (HAdd.hAdd x2) (by decide)) (by decide) rfl (fun ls hl => ?_)
          refine lv_goto (tgt := 92) hx hb (dg ddX5_isWell 80 rfl) (by decide) ?_
          exact ih 1 (x2 + 1) m_thr _ _ hP hD hS _ (lv_sub hl [3, 1, 0] rfl) hf
        · have hf := it_f h7 hf
          refine lv_aload_n hx hb (dg ddX5_isWell 69 rfl) rfl (lv_at hl 1 rfl) ?_
          refine lv_iload_n hx hb (dg ddX5_isWell 70 rfl) rfl (lv_at hl 0 rfl) ?_
          refine lv_iconst (v := 4) hx hb (dg ddX5_isWell 71 rfl) (by decide) ?_
          obtain ⟨r9, e8, hf⟩ := ob_some hf
          refine cro_vi CX hml (As := [.int r6, .int 4]) (rest := []) (c_X5_of l D cy q m_thr m_kept m_rea m_det m_isv m_iit m_len m_at m_err m_wro m_cmd m_to1 m_to2 m_now m_sav m_ahe m_bef m_hst m_noi m_own m_inp r6 4 e8) lk_RX5_100 rfl rfl hRMX5_of hP hK hN 0 rfl rfl rfl hl.1 rfl (Nat.le_of_ble_eq_true rfl) ⟨Nat.le_of_ble_eq_true rfl, Nat.le_of_ble_eq_true rfl⟩ (dg ddX5_isWell 72 rfl) ?_
          refine lv_iload_n hx hb (dg ddX5_isWell 73 rfl) rfl (lv_at hl 3 rfl) ?_
          refine lv_icmp_ne (tgt := 128) hx hb (dg ddX5_isWell 74 rfl) (by decide) (fun h10 => ?_) (fun h10 => ?_)
          · have hf := it_f h10 hf
            refine lv_iconst (v := 0) hx hb (dg ddX5_isWell 77 rfl) (by decide) ?_
            refine lv_istore_n (lv' := [(1, .int 0), (3, .int r6), (0, .ref (q 0)), (2, .int x2)]) hx hb (dg ddX5_isWell 78 rfl) rfl hl (by decide) rfl (fun ls hl => ?_)
            refine lv_iinc (v := x2 + 1) (lv' := [(2, .int (x2 + 1)), (1, .int 0), (3, .int r6), (0, .ref (q 0))]) hx hb (dg ddX5_isWell 79 rfl) hl (k := 3) rfl (congrArg (HAdd.hAdd x2) (by decide)) (by decide) rfl (fun ls hl => ?_)
            refine lv_goto (tgt := 92) hx hb (dg ddX5_isWell 80 rfl) (by decide) ?_
            exact ih 0 (x2 + 1) m_thr _ _ hP hD hS _ (lv_sub hl [3, 1, 0] rfl) hf
          · have hf := it_t h10 hf
            refine lv_iconst (v := 1) hx hb (dg ddX5_isWell 75 rfl) (by decide) ?_
            refine lv_goto (tgt := 129) hx hb (dg ddX5_isWell 76 rfl) (by decide) ?_
            refine lv_istore_n (lv' := [(1, .int 1), (3, .int r6), (0, .ref (q 0)), (2, .int x2)]) hx hb (dg ddX5_isWell 78 rfl) rfl hl (by decide) rfl (fun ls hl => ?_)
            refine lv_iinc (v := x2 + 1) (lv' := [(2, .int (x2 + 1)), (1, .int 1), (3, .int r6), (0, .ref (q 0))]) hx hb (dg ddX5_isWell 79 rfl) hl (k := 3) rfl (congrArg (HAdd.hAdd x2) (by decide)) (by decide) rfl (fun ls hl => ?_)
            refine lv_goto (tgt := 92) hx hb (dg ddX5_isWell 80 rfl) (by decide) ?_
            exact ih 1 (x2 + 1) m_thr _ _ hP hD hS _ (lv_sub hl [3, 1, 0] rfl) hf
  have K33 : ∀ (n : Nat), ∀ (x1 : Int32) (x2 : Int32) (m_thr : Int32) (H : Heap) (locs : List Loc) (hP : va_P D vwCl (wX5 q cy m_thr m_kept m_rea m_det m_isv m_iit m_len m_at m_err m_wro m_cmd m_to1 m_to2 m_now m_sav m_ahe m_bef m_hst m_noi m_own m_inp) H) (hD : va_D A (wX5 q cy m_thr m_kept m_rea m_det m_isv m_iit m_len m_at m_err m_wro m_cmd m_to1 m_to2 m_now m_sav m_ahe m_bef m_hst m_noi m_own m_inp)) (hS : va_S A s.heap H locs) (ls : Array Slot) (hl : lv_has ls 4 [(0, .ref (q 0)), (1, .int x1), (2, .int x2)]) (hf : f_X5_isWell_c33 m_now n x1 x2 m_thr = some res), W p l e ⟨3, 0, 0, 56⟩ s m args below meth c H locs 0 0 (MQ below (qI D (wX5 q cy res.2 m_kept m_rea m_det m_isv m_iit m_len m_at m_err m_wro m_cmd m_to1 m_to2 m_now m_sav m_ahe m_bef m_hst m_noi m_own m_inp) res.1 A) args s 0 0 A) (F0 m 33 ls []) := by
    intro n
    induction n with
    | zero => intro x1 x2 m_thr H locs hP hD hS ls hl hf; cases (show none = some res from hf)
    | succ n ih =>
    intro x1 x2 m_thr H locs hP hD hS ls hl hf
    refine lv_iload_n hx hb (dg ddX5_isWell 21 rfl) rfl (lv_at hl 2 rfl) ?_
    refine lv_aload_n hx hb (dg ddX5_isWell 22 rfl) rfl (lv_at hl 0 rfl) ?_
    refine gf_RX5_9 CX hK hP 0 rfl rfl (dg ddX5_isWell 23 rfl) ?_
    refine lv_iconst (v := 2) hx hb (dg ddX5_isWell 24 rfl) (by decide) ?_
    obtain ⟨h1, hf⟩ := og_some hf
    refine va_iald hx hb hK hP 1 0 rfl rfl (inb_in h1) (dg ddX5_isWell 25 rfl) ?_
    refine lv_icmp_ge (tgt := 90) hx hb (dg ddX5_isWell 26 rfl) (by decide) (fun h2 => ?_) (fun h2 => ?_)
    · have hf := it_t h2 hf
      refine lv_iconst (v := 0) hx hb (dg ddX5_isWell 54 rfl) (by decide) ?_
      refine lv_istore_n (lv' := [(2, .int 0), (0, .ref (q 0)), (1, .int x1)]) hx hb (dg ddX5_isWell 55 rfl) rfl hl (by decide) rfl (fun ls hl => ?_)
      exact K92 4096 x1 0 m_thr _ _ hP hD hS _ (lv_sub hl [1, 2, 0] rfl) hf
    · have hf := it_f h2 hf
      refine lv_iload_n hx hb (dg ddX5_isWell 27 rfl) rfl (lv_at hl 1 rfl) ?_
      refine lv_if_eq (tgt := 90) hx hb (dg ddX5_isWell 28 rfl) (by decide) (fun h3 => ?_) (fun h3 => ?_)
      · have hf := it_t h3 hf
        refine lv_iconst (v := 0) hx hb (dg ddX5_isWell 54 rfl) (by decide) ?_
        refine lv_istore_n (lv' := [(2, .int 0), (0, .ref (q 0)), (1, .int x1)]) hx hb (dg ddX5_isWell 55 rfl) rfl hl (by decide) rfl (fun ls hl => ?_)
        exact K92 4096 x1 0 m_thr _ _ hP hD hS _ (lv_sub hl [1, 2, 0] rfl) hf
      · have hf := it_f h3 hf
        refine lv_aload_n hx hb (dg ddX5_isWell 29 rfl) rfl (lv_at hl 0 rfl) ?_
        refine lv_iload_n hx hb (dg ddX5_isWell 30 rfl) rfl (lv_at hl 2 rfl) ?_
        refine lv_iconst (v := 4) hx hb (dg ddX5_isWell 31 rfl) (by decide) ?_
        obtain ⟨r5, e4, hf⟩ := ob_some hf
        refine cro_vi CX hml (As := [.int x2, .int 4]) (rest := []) (c_X5_of l D cy q m_thr m_kept m_rea m_det m_isv m_iit m_len m_at m_err m_wro m_cmd m_to1 m_to2 m_now m_sav m_ahe m_bef m_hst m_noi m_own m_inp x2 4 e4) lk_RX5_100 rfl rfl hRMX5_of hP hK hN 0 rfl rfl rfl hl.1 rfl (Nat.le_of_ble_eq_true rfl) ⟨Nat.le_of_ble_eq_true rfl, Nat.le_of_ble_eq_true rfl⟩ (dg ddX5_isWell 32 rfl) ?_
        refine lv_istore_n (lv' := [(3, .int r5), (0, .ref (q 0)), (1, .int x1), (2, .int x2)]) hx hb (dg ddX5_isWell 33 rfl) rfl hl (by decide) rfl (fun ls hl => ?_)
        refine lv_iload_n hx hb (dg ddX5_isWell 34 rfl) rfl (lv_at hl 0 rfl) ?_
        refine lv_iconst (v := (-1)) hx hb (dg ddX5_isWell 35 rfl) (by decide) ?_
        refine lv_icmp_eq (tgt := 78) hx hb (dg ddX5_isWell 36 rfl) (by decide) (fun h6 => ?_) (fun h6 => ?_)
        · have hf := it_t h6 hf
          refine lv_iconst (v := 1) hx hb (dg ddX5_isWell 48 rfl) (by decide) ?_
          refine lv_goto (tgt := 83) hx hb (dg ddX5_isWell 49 rfl) (by decide) ?_
          refine lv_istore_n (lv' := [(1, .int 1), (3, .int r5), (0, .ref (q 0)), (2, .int x2)]) hx hb (dg ddX5_isWell 51 rfl) rfl hl (by decide) rfl (fun ls hl => ?_)
          refine lv_iinc (v := x2 + 1) (lv' := [(2, .int (x2 + 1)), (1, .int 1), (3, .int r5), (0, .ref (q 0))]) hx hb (dg ddX5_isWell 52 rfl) hl (k := 3) rfl (congrArg (HAdd.hAdd x2) (by decide)) (by decide) rfl (fun ls hl => ?_)
          refine lv_goto (tgt := 33) hx hb (dg ddX5_isWell 53 rfl) (by decide) ?_
          exact ih 1 (x2 + 1) m_thr _ _ hP hD hS _ (lv_sub hl [3, 1, 0] rfl) hf
        · have hf := it_f h6 hf
          refine lv_aload_n hx hb (dg ddX5_isWell 37 rfl) rfl (lv_at hl 1 rfl) ?_
          refine lv_iload_n hx hb (dg ddX5_isWell 38 rfl) rfl (lv_at hl 0 rfl) ?_
          refine lv_iconst (v := 3) hx hb (dg ddX5_isWell 39 rfl) (by decide) ?_
          obtain ⟨r8, e7, hf⟩ := ob_some hf
          refine cro_vi CX hml (As := [.int r5, .int 3]) (rest := []) (c_X5_ofPitch l D cy q m_thr m_kept m_rea m_det m_isv m_iit m_len m_at m_err m_wro m_cmd m_to1 m_to2 m_now m_sav m_ahe m_bef m_hst m_noi m_own m_inp r5 3 e7) lk_RX5_88 rfl rfl hRMX5_ofPitch hP hK hN 0 rfl rfl rfl hl.1 rfl (Nat.le_of_ble_eq_true rfl) ⟨Nat.le_of_ble_eq_true rfl, Nat.le_of_ble_eq_true rfl⟩ (dg ddX5_isWell 40 rfl) ?_
          refine lv_iload_n hx hb (dg ddX5_isWell 41 rfl) rfl (lv_at hl 3 rfl) ?_
          refine lv_icmp_ne (tgt := 82) hx hb (dg ddX5_isWell 42 rfl) (by decide) (fun h9 => ?_) (fun h9 => ?_)
          · have hf := it_f h9 hf
            refine lv_iconst (v := 0) hx hb (dg ddX5_isWell 50 rfl) (by decide) ?_
            refine lv_istore_n (lv' := [(1, .int 0), (3, .int r5), (0, .ref (q 0)), (2, .int x2)]) hx hb (dg ddX5_isWell 51 rfl) rfl hl (by decide) rfl (fun ls hl => ?_)
            refine lv_iinc (v := x2 + 1) (lv' := [(2, .int (x2 + 1)), (1, .int 0), (3, .int r5), (0, .ref (q 0))]) hx hb (dg ddX5_isWell 52 rfl) hl (k := 3) rfl (congrArg (HAdd.hAdd x2) (by decide)) (by decide) rfl (fun ls hl => ?_)
            refine lv_goto (tgt := 33) hx hb (dg ddX5_isWell 53 rfl) (by decide) ?_
            exact ih 0 (x2 + 1) m_thr _ _ hP hD hS _ (lv_sub hl [3, 1, 0] rfl) hf
          · have hf := it_t h9 hf
            refine lv_aload_n hx hb (dg ddX5_isWell 43 rfl) rfl (lv_at hl 1 rfl) ?_
            refine lv_iload_n hx hb (dg ddX5_isWell 44 rfl) rfl (lv_at hl 3 rfl) ?_
            obtain ⟨r11, e10, hf⟩ := ob_some hf
            refine cro_vi CX hml (As := [.int x2]) (rest := []) (c_X5_placeInLine l D cy q m_thr m_kept m_rea m_det m_isv m_iit m_len m_at m_err m_wro m_cmd m_to1 m_to2 m_now m_sav m_ahe m_bef m_hst m_noi m_own m_inp x2 e10) lk_RX5_117 rfl rfl hRMX5_placeInLine hP hK hN 0 rfl rfl rfl hl.1 rfl (Nat.le_of_ble_eq_true rfl) ⟨Nat.le_of_ble_eq_true rfl, Nat.le_of_ble_eq_true rfl⟩ (dg ddX5_isWell 45 rfl) ?_
            refine lv_iconst (v := (-1)) hx hb (dg ddX5_isWell 46 rfl) (by decide) ?_
            refine lv_icmp_ne (tgt := 82) hx hb (dg ddX5_isWell 47 rfl) (by decide) (fun h12 => ?_) (fun h12 => ?_)
            · have hf := it_f h12 hf
              refine lv_iconst (v := 0) hx hb (dg ddX5_isWell 50 rfl) (by decide) ?_
              refine lv_istore_n (lv' := [(1, .int 0), (3, .int r5), (0, .ref (q 0)), (2, .int x2)]) hx hb (dg ddX5_isWell 51 rfl) rfl hl (by decide) rfl (fun ls hl => ?_)
              refine lv_iinc (v := x2 + 1) (lv' := [(2, .int (x2 + 1)), (1, .int 0), (3, .int r5), (0, .ref (q 0))]) hx hb (dg ddX5_isWell 52 rfl) hl (k := 3) rfl (congrArg (HAdd.hAdd x2) (by decide)) (by decide) rfl (fun ls hl => ?_)
              refine lv_goto (tgt := 33) hx hb (dg ddX5_isWell 53 rfl) (by decide) ?_
              exact ih 0 (x2 + 1) m_thr _ _ hP hD hS _ (lv_sub hl [3, 1, 0] rfl) hf
            · have hf := it_t h12 hf
              refine lv_iconst (v := 1) hx hb (dg ddX5_isWell 48 rfl) (by decide) ?_
              refine lv_goto (tgt := 83) hx hb (dg ddX5_isWell 49 rfl) (by decide) ?_
              refine lv_istore_n (lv' := [(1, .int 1), (3, .int r5), (0, .ref (q 0)), (2, .int x2)]) hx hb (dg ddX5_isWell 51 rfl) rfl hl (by decide) rfl (fun ls hl => ?_)
              refine lv_iinc (v := x2 + 1) (lv' := [(2, .int (x2 + 1)), (1, .int 1), (3, .int r5), (0, .ref (q 0))]) hx hb (dg ddX5_isWell 52 rfl) hl (k := 3) rfl (congrArg (HAdd.hAdd x2) (by decide)) (by decide) rfl (fun ls hl => ?_)
              refine lv_goto (tgt := 33) hx hb (dg ddX5_isWell 53 rfl) (by decide) ?_
              exact ih 1 (x2 + 1) m_thr _ _ hP hD hS _ (lv_sub hl [3, 1, 0] rfl) hf
  refine lv_aload_n hx hb (dg ddX5_isWell 0 rfl) rfl (lv_at hl 0 rfl) ?_
  refine lv_iconst (v := 0) hx hb (dg ddX5_isWell 1 rfl) (by decide) ?_
  refine pf_RX5_53 CX hK hP hD hS 0 rfl (dg ddX5_isWell 2 rfl) (Nat.le_of_ble_eq_true rfl) (fun H locs hP hD hS => ?_)
  have hP : va_P D vwCl (wX5 q cy 0 m_kept m_rea m_det m_isv m_iit m_len m_at m_err m_wro m_cmd m_to1 m_to2 m_now m_sav m_ahe m_bef m_hst m_noi m_own m_inp) H := hP
  have hD : va_D A (wX5 q cy 0 m_kept m_rea m_det m_isv m_iit m_len m_at m_err m_wro m_cmd m_to1 m_to2 m_now m_sav m_ahe m_bef m_hst m_noi m_own m_inp) := hD
  refine lv_aload_n hx hb (dg ddX5_isWell 3 rfl) rfl (lv_at hl 0 rfl) ?_
  obtain ⟨r2, e1, hf⟩ := ob_some hf
  refine cro_vi CX hml (As := []) (rest := []) (c_X5_complaints l D cy q 0 m_kept m_rea m_det m_isv m_iit m_len m_at m_err m_wro m_cmd m_to1 m_to2 m_now m_sav m_ahe m_bef m_hst m_noi m_own m_inp e1) lk_RX5_259 rfl rfl hRMX5_complaints hP hK hN 0 rfl rfl rfl hl.1 rfl (Nat.le_of_ble_eq_true rfl) ⟨Nat.le_of_ble_eq_true rfl, Nat.le_of_ble_eq_true rfl⟩ (dg ddX5_isWell 4 rfl) ?_
  refine lv_aload_n hx hb (dg ddX5_isWell 5 rfl) rfl (lv_at hl 0 rfl) ?_
  refine gf_RX5_9 CX hK hP 0 rfl rfl (dg ddX5_isWell 6 rfl) ?_
  refine lv_iconst (v := 4) hx hb (dg ddX5_isWell 7 rfl) (by decide) ?_
  obtain ⟨h3, hf⟩ := og_some hf
  refine va_iald hx hb hK hP 1 0 rfl rfl (inb_in h3) (dg ddX5_isWell 8 rfl) ?_
  refine lv_iadd hx hb (dg ddX5_isWell 9 rfl) ?_
  refine lv_aload_n hx hb (dg ddX5_isWell 10 rfl) rfl (lv_at hl 0 rfl) ?_
  refine gf_RX5_9 CX hK hP 0 rfl rfl (dg ddX5_isWell 11 rfl) ?_
  refine lv_iconst (v := 5) hx hb (dg ddX5_isWell 12 rfl) (by decide) ?_
  obtain ⟨h4, hf⟩ := og_some hf
  refine va_iald hx hb hK hP 1 0 rfl rfl (inb_in h4) (dg ddX5_isWell 13 rfl) ?_
  refine lv_icmp_ne (tgt := 29) hx hb (dg ddX5_isWell 14 rfl) (by decide) (fun h5 => ?_) (fun h5 => ?_)
  · have hf := it_f h5 hf
    refine lv_iconst (v := 0) hx hb (dg ddX5_isWell 17 rfl) (by decide) ?_
    refine lv_istore_n (lv' := [(1, .int 0), (0, .ref (q 0))]) hx hb (dg ddX5_isWell 18 rfl) rfl hl (by decide) rfl (fun ls hl => ?_)
    refine lv_iconst (v := 0) hx hb (dg ddX5_isWell 19 rfl) (by decide) ?_
    refine lv_istore_n (lv' := [(2, .int 0), (1, .int 0), (0, .ref (q 0))]) hx hb (dg ddX5_isWell 20 rfl) rfl hl (by decide) rfl (fun ls hl => ?_)
    exact K33 4096 0 0 0 _ _ hP hD hS _ (lv_sub hl [2, 1, 0] rfl) hf
  · have hf := it_t h5 hf
    refine lv_iconst (v := 1) hx hb (dg ddX5_isWell 15 rfl) (by decide) ?_
    refine lv_goto (tgt := 30) hx hb (dg ddX5_isWell 16 rfl) (by decide) ?_
    refine lv_istore_n (lv' := [(1, .int 1), (0, .ref (q 0))]) hx hb (dg ddX5_isWell 18 rfl) rfl hl (by decide) rfl (fun ls hl => ?_)
    refine lv_iconst (v := 0) hx hb (dg ddX5_isWell 19 rfl) (by decide) ?_
    refine lv_istore_n (lv' := [(2, .int 0), (1, .int 1), (0, .ref (q 0))]) hx hb (dg ddX5_isWell 20 rfl) rfl hl (by decide) rfl (fun ls hl => ?_)
    exact K33 4096 1 0 0 _ _ hP hD hS _ (lv_sub hl [2, 1, 0] rfl) hf
def f_X5_meanBits_c28  (m_now : Nat → Int32) : Nat → UInt64 → Int32 → Int32 → Option (Int64 × Int32)
  | 0, _, _, _ => none
  | n + 1, x1, x3, m_thr => og (inb 2 112) (if (m_now (2 : Int32).toNatClampNeg) ≤ x3 then (og (inb 2 112) (og (n64 (FP.ddiv x1 (FP.i2d (m_now (2 : Int32).toNatClampNeg)))) (ob (f_Jxe99ae_doubleToLongBits_ccdee (FP.ddiv x1 (FP.i2d (m_now (2 : Int32).toNatClampNeg)))) fun r6 => (some (r6, m_thr))))) else (ob (f_X5_floatOf m_now x3 2) fun r8 => (og (n64 (FP.f2d r8)) (og (n64 (FP.dadd x1 (FP.f2d r8))) (f_X5_meanBits_c28 m_now n (FP.dadd x1 (FP.f2d r8)) (x3 + 1) m_thr)))))
def f_X5_meanBits_c16  (m_now : Nat → Int32) (t0 : Int32) (t1 : Int32) (m_thr : Int32) : Option (Int64 × Int32) := ob (f_X5_fails m_thr t1 t0) fun r2 => (if r2.1 = 0 then (f_X5_meanBits_c28 m_now 4096 FP.dconst0 0 r2.2) else (some (0, r2.2)))
def f_X5_meanBits (m_thr : Int32) (m_now : Nat → Int32) : Option (Int64 × Int32) := og (inb 2 112) (if (m_now (2 : Int32).toNatClampNeg) = 0 then (f_X5_meanBits_c16 m_now 1 1 m_thr) else (f_X5_meanBits_c16 m_now 0 1 m_thr))
set_option maxHeartbeats 4000000 in
set_option maxRecDepth 100000 in
theorem c_X5_meanBits (l : Launch) (D : va_G) (cy : Nat → ClassId) (q : Nat → Nat) (m_thr : Int32) (m_kept : Int32) (m_rea : Int32) (m_det : Int32) (m_isv : Int32) (m_iit : Int32) (m_len : Int32) (m_at : Int32) (m_err : Int32) (m_wro : Int32) (m_cmd : Int32) (m_to1 : Int32) (m_to2 : Int32) (m_now : Nat → Int32) (m_sav : Nat → Int32) (m_ahe : Nat → Int32) (m_bef : Nat → Int32) (m_hst : Nat → Nat → Int32) (m_noi : Nat → UInt32) (m_own : Nat → UInt32) (m_inp : Nat → Int32) (sz : Nat) {res : Int64 × Int32} (hf : f_X5_meanBits m_thr m_now = some res) : Met l yX5_meanBits (.code yX5_meanBits cX5_meanBits 4 (some .long) :: lw_all) { frames := 3, cells := 0, slots := 0, locals := 62 } (va_Pc [.ref (q 0)] (sW D cy (wX5 q cy m_thr m_kept m_rea m_det m_isv m_iit m_len m_at m_err m_wro m_cmd m_to1 m_to2 m_now m_sav m_ahe m_bef m_hst m_noi m_own m_inp) sz)) (qL D (wX5 q cy res.2 m_kept m_rea m_det m_isv m_iit m_len m_at m_err m_wro m_cmd m_to1 m_to2 m_now m_sav m_ahe m_bef m_hst m_noi m_own m_inp) res.1 (va_A (wX5 q cy m_thr m_kept m_rea m_det m_isv m_iit m_len m_at m_err m_wro m_cmd m_to1 m_to2 m_now m_sav m_ahe m_bef m_hst m_noi m_own m_inp) sz)) 0 0 (va_A (wX5 q cy m_thr m_kept m_rea m_det m_isv m_iit m_len m_at m_err m_wro m_cmd m_to1 m_to2 m_now m_sav m_ahe m_bef m_hst m_noi m_own m_inp) sz) := by
  refine mk_rw (Qc := qL D (wX5 q cy res.2 m_kept m_rea m_det m_isv m_iit m_len m_at m_err m_wro m_cmd m_to1 m_to2 m_now m_sav m_ahe m_bef m_hst m_noi m_own m_inp) res.1) (Rc := RX5) (by decide +kernel) rfl (Nat.le_of_ble_eq_true rfl) ?_
  intro p e s m args below meth c ls A CX hml hr hlk hK hN hP hD hS hA hl
  have hx := CX.1
  have hb := CX.2.1
  have hRMJxe99ae_doubleToLongBits_ccdee : (⟨2, 0, 0, 40⟩ : Room).frames + 1 ≤ (⟨3, 0, 0, 62⟩ : Room).frames ∧ 8 + (2 + 11) + (⟨2, 0, 0, 40⟩ : Room).locals ≤ (⟨3, 0, 0, 62⟩ : Room).locals := ⟨Nat.le_of_ble_eq_true rfl, Nat.le_of_ble_eq_true rfl⟩
  have hRMX5_fails : (⟨1, 0, 0, 12⟩ : Room).frames + 1 ≤ (⟨3, 0, 0, 62⟩ : Room).frames ∧ 8 + (3 + 11) + (⟨1, 0, 0, 12⟩ : Room).locals ≤ (⟨3, 0, 0, 62⟩ : Room).locals := ⟨Nat.le_of_ble_eq_true rfl, Nat.le_of_ble_eq_true rfl⟩
  have hRMX5_floatOf : (⟨2, 0, 0, 40⟩ : Room).frames + 1 ≤ (⟨3, 0, 0, 62⟩ : Room).frames ∧ 8 + (3 + 11) + (⟨2, 0, 0, 40⟩ : Room).locals ≤ (⟨3, 0, 0, 62⟩ : Room).locals := ⟨Nat.le_of_ble_eq_true rfl, Nat.le_of_ble_eq_true rfl⟩
  have hl0 := hl
  have K28 : ∀ (n : Nat), ∀ (x1 : UInt64) (x3 : Int32) (m_thr : Int32) (H : Heap) (locs : List Loc) (hP : va_P D vwCl (wX5 q cy m_thr m_kept m_rea m_det m_isv m_iit m_len m_at m_err m_wro m_cmd m_to1 m_to2 m_now m_sav m_ahe m_bef m_hst m_noi m_own m_inp) H) (hD : va_D A (wX5 q cy m_thr m_kept m_rea m_det m_isv m_iit m_len m_at m_err m_wro m_cmd m_to1 m_to2 m_now m_sav m_ahe m_bef m_hst m_noi m_own m_inp)) (hS : va_S A s.heap H locs) (ls : Array Slot) (hl : lv_has ls 4 [(0, .ref (q 0)), (1, .double x1), (3, .int x3)]) (hf : f_X5_meanBits_c28 m_now n x1 x3 m_thr = some res), W p l e ⟨3, 0, 0, 62⟩ s m args below meth c H locs 0 0 (MQ below (qL D (wX5 q cy res.2 m_kept m_rea m_det m_isv m_iit m_len m_at m_err m_wro m_cmd m_to1 m_to2 m_now m_sav m_ahe m_bef m_hst m_noi m_own m_inp) res.1 A) args s 0 0 A) (F0 m 28 ls []) := by
    intro n
    induction n with
    | zero => intro x1 x3 m_thr H locs hP hD hS ls hl hf; cases (show none = some res from hf)
    | succ n ih =>
    intro x1 x3 m_thr H locs hP hD hS ls hl hf
    refine lv_iload_n hx hb (dg ddX5_meanBits 18 rfl) rfl (lv_at hl 2 rfl) ?_
    refine lv_aload_n hx hb (dg ddX5_meanBits 19 rfl) rfl (lv_at hl 0 rfl) ?_
    refine gf_RX5_9 CX hK hP 0 rfl rfl (dg ddX5_meanBits 20 rfl) ?_
    refine lv_iconst (v := 2) hx hb (dg ddX5_meanBits 21 rfl) (by decide) ?_
    obtain ⟨h1, hf⟩ := og_some hf
    refine va_iald hx hb hK hP 1 0 rfl rfl (inb_in h1) (dg ddX5_meanBits 22 rfl) ?_
    refine lv_icmp_ge (tgt := 54) hx hb (dg ddX5_meanBits 23 rfl) (by decide) (fun h2 => ?_) (fun h2 => ?_)
    · have hf := it_t h2 hf
      refine lv_dload_n hx hb (dg ddX5_meanBits 34 rfl) rfl (lv_at hl 1 rfl) ?_
      refine lv_aload_n hx hb (dg ddX5_meanBits 35 rfl) rfl (lv_at hl 0 rfl) ?_
      refine gf_RX5_9 CX hK hP 0 rfl rfl (dg ddX5_meanBits 36 rfl) ?_
      refine lv_iconst (v := 2) hx hb (dg ddX5_meanBits 37 rfl) (by decide) ?_
      obtain ⟨h3, hf⟩ := og_some hf
      refine va_iald hx hb hK hP 1 0 rfl rfl (inb_in h3) (dg ddX5_meanBits 38 rfl) ?_
      refine lv_i2d hx hb (dg ddX5_meanBits 39 rfl) ?_
      obtain ⟨h4, hf⟩ := og_some hf
      refine lv_ddiv hx hb (dg ddX5_meanBits 40 rfl) (n64_in h4) ?_
      obtain ⟨r6, e5, hf⟩ := ob_some hf
      refine cro_sl CX hml (As := [.double (FP.ddiv x1 (FP.i2d (m_now (2 : Int32).toNatClampNeg)))]) (rest := []) (c_Jxe99ae_doubleToLongBits_ccdee l D cy (FP.ddiv x1 (FP.i2d (m_now (2 : Int32).toNatClampNeg))) e5) lk_RX5_265 rfl rfl hRMJxe99ae_doubleToLongBits_ccdee vaP_nil hK hN rfl hl.1 rfl (Nat.le_of_ble_eq_true rfl) ⟨Nat.le_of_ble_eq_true rfl, Nat.le_of_ble_eq_true rfl⟩ (dg ddX5_meanBits 41 rfl) ?_
      cases hf
      exact e_wl CX hr hlk rfl hP hD hS (dg ddX5_meanBits 42 rfl)
    · have hf := it_f h2 hf
      refine lv_dload_n hx hb (dg ddX5_meanBits 24 rfl) rfl (lv_at hl 1 rfl) ?_
      refine lv_aload_n hx hb (dg ddX5_meanBits 25 rfl) rfl (lv_at hl 0 rfl) ?_
      refine lv_iload_n hx hb (dg ddX5_meanBits 26 rfl) rfl (lv_at hl 2 rfl) ?_
      refine lv_iconst (v := 2) hx hb (dg ddX5_meanBits 27 rfl) (by decide) ?_
      obtain ⟨r8, e7, hf⟩ := ob_some hf
      refine cro_vf CX hml (As := [.int x3, .int 2]) (rest := [.double x1]) (c_X5_floatOf l D cy q m_thr m_kept m_rea m_det m_isv m_iit m_len m_at m_err m_wro m_cmd m_to1 m_to2 m_now m_sav m_ahe m_bef m_hst m_noi m_own m_inp x3 2 e7) lk_RX5_121 rfl rfl hRMX5_floatOf hP hK hN 0 rfl rfl rfl hl.1 rfl (Nat.le_of_ble_eq_true rfl) ⟨Nat.le_of_ble_eq_true rfl, Nat.le_of_ble_eq_true rfl⟩ (dg ddX5_meanBits 28 rfl) ?_
      obtain ⟨h9, hf⟩ := og_some hf
      refine lv_f2d hx hb (dg ddX5_meanBits 29 rfl) (n64_in h9) ?_
      obtain ⟨h10, hf⟩ := og_some hf
      refine lv_dadd hx hb (dg ddX5_meanBits 30 rfl) (n64_in h10) ?_
      refine lv_dstore_n (lv' := [(1, .double (FP.dadd x1 (FP.f2d r8))), (0, .ref (q 0)), (3, .int x3)]) hx hb (dg ddX5_meanBits 31 rfl) rfl hl (by decide) rfl (fun ls hl => ?_)
      refine lv_iinc (v := x3 + 1) (lv' := [(3, .int (x3 + 1)), (1, .double (FP.dadd x1 (FP.f2d r8))), (0, .ref (q 0))]) hx hb (dg ddX5_meanBits 32 rfl) hl (k := 2) rfl (congrArg (HAdd.hAdd x3) (by decide)) (by decide) rfl (fun ls hl => ?_)
      refine lv_goto (tgt := 28) hx hb (dg ddX5_meanBits 33 rfl) (by decide) ?_
      exact ih (FP.dadd x1 (FP.f2d r8)) (x3 + 1) m_thr _ _ hP hD hS _ (lv_sub hl [2, 1, 0] rfl) hf
  have K16 : ∀ (t0 : Int32) (t1 : Int32) (m_thr : Int32) (H : Heap) (locs : List Loc) (hP : va_P D vwCl (wX5 q cy m_thr m_kept m_rea m_det m_isv m_iit m_len m_at m_err m_wro m_cmd m_to1 m_to2 m_now m_sav m_ahe m_bef m_hst m_noi m_own m_inp) H) (hD : va_D A (wX5 q cy m_thr m_kept m_rea m_det m_isv m_iit m_len m_at m_err m_wro m_cmd m_to1 m_to2 m_now m_sav m_ahe m_bef m_hst m_noi m_own m_inp)) (hS : va_S A s.heap H locs) (ls : Array Slot) (hl : lv_has ls 4 [(0, .ref (q 0))]) (hf : f_X5_meanBits_c16 m_now t0 t1 m_thr = some res), W p l e ⟨3, 0, 0, 62⟩ s m args below meth c H locs 0 0 (MQ below (qL D (wX5 q cy res.2 m_kept m_rea m_det m_isv m_iit m_len m_at m_err m_wro m_cmd m_to1 m_to2 m_now m_sav m_ahe m_bef m_hst m_noi m_own m_inp) res.1 A) args s 0 0 A) (F0 m 16 ls [.int t0, .int t1, .ref (q 0)]) := by
    intro t0 t1 m_thr H locs hP hD hS ls hl hf
    obtain ⟨r2, e1, hf⟩ := ob_some hf
    refine crw_vi CX hml (As := [.int t1, .int t0]) (rest := []) (c_X5_fails l D cy q m_thr m_kept m_rea m_det m_isv m_iit m_len m_at m_err m_wro m_cmd m_to1 m_to2 m_now m_sav m_ahe m_bef m_hst m_noi m_own m_inp t1 t0 _ e1) lk_RX5_81 rfl rfl hRMX5_fails hP hD hS hA hK hN 0 rfl rfl rfl hl.1 rfl (Nat.le_of_ble_eq_true rfl) ⟨Nat.le_of_ble_eq_true rfl, Nat.le_of_ble_eq_true rfl⟩ (dg ddX5_meanBits 10 rfl) (fun H locs hP hD hS => ?_)
    refine lv_if_eq (tgt := 24) hx hb (dg ddX5_meanBits 11 rfl) (by decide) (fun h3 => ?_) (fun h3 => ?_)
    · have hf := it_t h3 hf
      refine lv_dconst0 hx hb (dg ddX5_meanBits 14 rfl) ?_
      refine lv_dstore_n (lv' := [(1, .double FP.dconst0), (0, .ref (q 0))]) hx hb (dg ddX5_meanBits 15 rfl) rfl hl (by decide) rfl (fun ls hl => ?_)
      refine lv_iconst (v := 0) hx hb (dg ddX5_meanBits 16 rfl) (by decide) ?_
      refine lv_istore_n (lv' := [(3, .int 0), (1, .double FP.dconst0), (0, .ref (q 0))]) hx hb (dg ddX5_meanBits 17 rfl) rfl hl (by decide) rfl (fun ls hl => ?_)
      exact K28 4096 FP.dconst0 0 r2.2 _ _ hP hD hS _ (lv_sub hl [2, 1, 0] rfl) hf
    · have hf := it_f h3 hf
      refine lv_lconst (v := 0) hx hb (dg ddX5_meanBits 12 rfl) (by decide) ?_
      cases hf
      exact e_wl CX hr hlk rfl hP hD hS (dg ddX5_meanBits 13 rfl)
  refine lv_aload_n hx hb (dg ddX5_meanBits 0 rfl) rfl (lv_at hl 0 rfl) ?_
  refine lv_iconst (v := 1) hx hb (dg ddX5_meanBits 1 rfl) (by decide) ?_
  refine lv_aload_n hx hb (dg ddX5_meanBits 2 rfl) rfl (lv_at hl 0 rfl) ?_
  refine gf_RX5_9 CX hK hP 0 rfl rfl (dg ddX5_meanBits 3 rfl) ?_
  refine lv_iconst (v := 2) hx hb (dg ddX5_meanBits 4 rfl) (by decide) ?_
  obtain ⟨h1, hf⟩ := og_some hf
  refine va_iald hx hb hK hP 1 0 rfl rfl (inb_in h1) (dg ddX5_meanBits 5 rfl) ?_
  refine lv_if_ne (tgt := 15) hx hb (dg ddX5_meanBits 6 rfl) (by decide) (fun h2 => ?_) (fun h2 => ?_)
  · have hf := it_f h2 hf
    refine lv_iconst (v := 0) hx hb (dg ddX5_meanBits 9 rfl) (by decide) ?_
    exact K16  0 1 m_thr _ _ hP hD hS _ (lv_sub hl [0] rfl) hf
  · have hf := it_t h2 hf
    refine lv_iconst (v := 1) hx hb (dg ddX5_meanBits 7 rfl) (by decide) ?_
    refine lv_goto (tgt := 16) hx hb (dg ddX5_meanBits 8 rfl) (by decide) ?_
    exact K16  1 1 m_thr _ _ hP hD hS _ (lv_sub hl [0] rfl) hf
def f_X5_undo_c14  (m_hst : Nat → Nat → Int32) (t0 : Int32) (t1 : Int32) (m_thr : Int32) (m_kept : Int32) (m_now : Nat → Int32) : Option (Int32 × Int32 × Int32 × (Nat → Int32)) := ob (f_X5_fails m_thr t1 t0) fun r2 => (if r2.1 = 0 then (og (inb (m_kept - 1) 8) (ob (f_X5_copyRow (m_hst ((m_kept - 1).toNatClampNeg)) m_now) fun r6 => (some ((m_kept - 1), r2.2, (m_kept - 1), r6)))) else (some (0, r2.2, m_kept, m_now)))
def f_X5_undo (m_thr : Int32) (m_kept : Int32) (m_now : Nat → Int32) (m_hst : Nat → Nat → Int32) : Option (Int32 × Int32 × Int32 × (Nat → Int32)) := if m_kept = 0 then (f_X5_undo_c14 m_hst 1 1 m_thr m_kept m_now) else (f_X5_undo_c14 m_hst 0 1 m_thr m_kept m_now)
set_option maxHeartbeats 4000000 in
set_option maxRecDepth 100000 in
theorem c_X5_undo (l : Launch) (D : va_G) (cy : Nat → ClassId) (q : Nat → Nat) (m_thr : Int32) (m_kept : Int32) (m_rea : Int32) (m_det : Int32) (m_isv : Int32) (m_iit : Int32) (m_len : Int32) (m_at : Int32) (m_err : Int32) (m_wro : Int32) (m_cmd : Int32) (m_to1 : Int32) (m_to2 : Int32) (m_now : Nat → Int32) (m_sav : Nat → Int32) (m_ahe : Nat → Int32) (m_bef : Nat → Int32) (m_hst : Nat → Nat → Int32) (m_noi : Nat → UInt32) (m_own : Nat → UInt32) (m_inp : Nat → Int32) (sz : Nat) {res : Int32 × Int32 × Int32 × (Nat → Int32)} (hf : f_X5_undo m_thr m_kept m_now m_hst = some res) : Met l yX5_undo (.code yX5_undo cX5_undo 1 (some .int) :: lw_all) { frames := 2, cells := 0, slots := 0, locals := 34 } (va_Pc [.ref (q 0)] (sW D cy (wX5 q cy m_thr m_kept m_rea m_det m_isv m_iit m_len m_at m_err m_wro m_cmd m_to1 m_to2 m_now m_sav m_ahe m_bef m_hst m_noi m_own m_inp) sz)) (qI D (wX5 q cy res.2.1 res.2.2.1 m_rea m_det m_isv m_iit m_len m_at m_err m_wro m_cmd m_to1 m_to2 res.2.2.2 m_sav m_ahe m_bef m_hst m_noi m_own m_inp) res.1 (va_A (wX5 q cy m_thr m_kept m_rea m_det m_isv m_iit m_len m_at m_err m_wro m_cmd m_to1 m_to2 m_now m_sav m_ahe m_bef m_hst m_noi m_own m_inp) sz)) 0 0 (va_A (wX5 q cy m_thr m_kept m_rea m_det m_isv m_iit m_len m_at m_err m_wro m_cmd m_to1 m_to2 m_now m_sav m_ahe m_bef m_hst m_noi m_own m_inp) sz) := by
  refine mk_rw (Qc := qI D (wX5 q cy res.2.1 res.2.2.1 m_rea m_det m_isv m_iit m_len m_at m_err m_wro m_cmd m_to1 m_to2 res.2.2.2 m_sav m_ahe m_bef m_hst m_noi m_own m_inp) res.1) (Rc := RX5) (by decide +kernel) rfl (Nat.le_of_ble_eq_true rfl) ?_
  intro p e s m args below meth c ls A CX hml hr hlk hK hN hP hD hS hA hl
  have hx := CX.1
  have hb := CX.2.1
  have hRMX5_copyRow : (⟨1, 0, 0, 12⟩ : Room).frames + 1 ≤ (⟨2, 0, 0, 34⟩ : Room).frames ∧ 8 + (3 + 11) + (⟨1, 0, 0, 12⟩ : Room).locals ≤ (⟨2, 0, 0, 34⟩ : Room).locals := ⟨Nat.le_of_ble_eq_true rfl, Nat.le_of_ble_eq_true rfl⟩
  have hRMX5_fails : (⟨1, 0, 0, 12⟩ : Room).frames + 1 ≤ (⟨2, 0, 0, 34⟩ : Room).frames ∧ 8 + (3 + 11) + (⟨1, 0, 0, 12⟩ : Room).locals ≤ (⟨2, 0, 0, 34⟩ : Room).locals := ⟨Nat.le_of_ble_eq_true rfl, Nat.le_of_ble_eq_true rfl⟩
  have hl0 := hl
  have K14 : ∀ (t0 : Int32) (t1 : Int32) (m_thr : Int32) (m_kept : Int32) (m_now : Nat → Int32) (H : Heap) (locs : List Loc) (hP : va_P D vwCl (wX5 q cy m_thr m_kept m_rea m_det m_isv m_iit m_len m_at m_err m_wro m_cmd m_to1 m_to2 m_now m_sav m_ahe m_bef m_hst m_noi m_own m_inp) H) (hD : va_D A (wX5 q cy m_thr m_kept m_rea m_det m_isv m_iit m_len m_at m_err m_wro m_cmd m_to1 m_to2 m_now m_sav m_ahe m_bef m_hst m_noi m_own m_inp)) (hS : va_S A s.heap H locs) (ls : Array Slot) (hl : lv_has ls 1 [(0, .ref (q 0))]) (hf : f_X5_undo_c14 m_hst t0 t1 m_thr m_kept m_now = some res), W p l e ⟨2, 0, 0, 34⟩ s m args below meth c H locs 0 0 (MQ below (qI D (wX5 q cy res.2.1 res.2.2.1 m_rea m_det m_isv m_iit m_len m_at m_err m_wro m_cmd m_to1 m_to2 res.2.2.2 m_sav m_ahe m_bef m_hst m_noi m_own m_inp) res.1 A) args s 0 0 A) (F0 m 14 ls [.int t0, .int t1, .ref (q 0)]) := by
    intro t0 t1 m_thr m_kept m_now H locs hP hD hS ls hl hf
    obtain ⟨r2, e1, hf⟩ := ob_some hf
    refine crw_vi CX hml (As := [.int t1, .int t0]) (rest := []) (c_X5_fails l D cy q m_thr m_kept m_rea m_det m_isv m_iit m_len m_at m_err m_wro m_cmd m_to1 m_to2 m_now m_sav m_ahe m_bef m_hst m_noi m_own m_inp t1 t0 _ e1) lk_RX5_81 rfl rfl hRMX5_fails hP hD hS hA hK hN 0 rfl rfl rfl hl.1 rfl (Nat.le_of_ble_eq_true rfl) ⟨Nat.le_of_ble_eq_true rfl, Nat.le_of_ble_eq_true rfl⟩ (dg ddX5_undo 8 rfl) (fun H locs hP hD hS => ?_)
    refine lv_if_eq (tgt := 22) hx hb (dg ddX5_undo 9 rfl) (by decide) (fun h3 => ?_) (fun h3 => ?_)
    · have hf := it_t h3 hf
      refine lv_aload_n hx hb (dg ddX5_undo 12 rfl) rfl (lv_at hl 0 rfl) ?_
      refine lv_dup hx hb (dg ddX5_undo 13 rfl) rfl ?_
      refine gf_RX5_62 CX hK hP 0 rfl rfl (dg ddX5_undo 14 rfl) ?_
      refine lv_iconst (v := 1) hx hb (dg ddX5_undo 15 rfl) (by decide) ?_
      refine lv_isub hx hb (dg ddX5_undo 16 rfl) ?_
      refine pf_RX5_62 CX hK hP hD hS 0 rfl (dg ddX5_undo 17 rfl) (Nat.le_of_ble_eq_true rfl) (fun H locs hP hD hS => ?_)
      have hP : va_P D vwCl (wX5 q cy r2.2 (m_kept - 1) m_rea m_det m_isv m_iit m_len m_at m_err m_wro m_cmd m_to1 m_to2 m_now m_sav m_ahe m_bef m_hst m_noi m_own m_inp) H := hP
      have hD : va_D A (wX5 q cy r2.2 (m_kept - 1) m_rea m_det m_isv m_iit m_len m_at m_err m_wro m_cmd m_to1 m_to2 m_now m_sav m_ahe m_bef m_hst m_noi m_own m_inp) := hD
      refine lv_aload_n hx hb (dg ddX5_undo 18 rfl) rfl (lv_at hl 0 rfl) ?_
      refine gf_RX5_24 CX hK hP 0 rfl rfl (dg ddX5_undo 19 rfl) ?_
      refine lv_aload_n hx hb (dg ddX5_undo 20 rfl) rfl (lv_at hl 0 rfl) ?_
      refine gf_RX5_62 CX hK hP 0 rfl rfl (dg ddX5_undo 21 rfl) ?_
      obtain ⟨h4, hf⟩ := og_some hf
      refine va_aldA (cell := ()) hx hb hK hP 5 4 rfl rfl (inb_in h4) (dg ddX5_undo 22 rfl) ?_
      show W p l e _ s m args below meth c _ _ 0 0 _ (F0 m 41 ls (.ref (q (20 + (m_kept - 1).toNatClampNeg)) :: _))
      refine lv_aload_n hx hb (dg ddX5_undo 23 rfl) rfl (lv_at hl 0 rfl) ?_
      refine gf_RX5_9 CX hK hP 0 rfl rfl (dg ddX5_undo 24 rfl) ?_
      obtain ⟨r6, e5, hf⟩ := ob_some hf
      refine crs2 CX hml (As := [.ref (q (20 + (m_kept - 1).toNatClampNeg)), .ref (q 1)]) (rest := []) (ws := (wX5 q cy r2.2 (m_kept - 1) m_rea m_det m_isv m_iit m_len m_at m_err m_wro m_cmd m_to1 m_to2 m_now m_sav m_ahe m_bef m_hst m_noi m_own m_inp)) (wsn := (wX5 q cy r2.2 (m_kept - 1) m_rea m_det m_isv m_iit m_len m_at m_err m_wro m_cmd m_to1 m_to2 r6 m_sav m_ahe m_bef m_hst m_noi m_own m_inp)) (k1 := (9 + (m_kept - 1).toNatClampNeg)) (k2 := 1) (c_X5_copyRow l D cy (q (20 + (m_kept - 1).toNatClampNeg)) (q 1) (m_hst ((m_kept - 1).toNatClampNeg)) m_now _ e5) lk_RX5_65 rfl rfl hRMX5_copyRow hP hD hS hA hK hN (hrow_at (inb_lt h4)) rfl (by omega) rfl rfl hl.1 rfl (Nat.le_of_ble_eq_true rfl) ⟨Nat.le_of_ble_eq_true rfl, Nat.le_of_ble_eq_true rfl⟩ (dg ddX5_undo 25 rfl) (fun H locs hP hD hS => ?_)
      refine lv_aload_n hx hb (dg ddX5_undo 26 rfl) rfl (lv_at hl 0 rfl) ?_
      refine gf_RX5_62 CX hK hP 0 rfl rfl (dg ddX5_undo 27 rfl) ?_
      cases hf
      exact e_wi CX hr hlk rfl hP hD hS (dg ddX5_undo 28 rfl)
    · have hf := it_f h3 hf
      refine lv_iconst (v := 0) hx hb (dg ddX5_undo 10 rfl) (by decide) ?_
      cases hf
      exact e_wi CX hr hlk rfl hP hD hS (dg ddX5_undo 11 rfl)
  refine lv_aload_n hx hb (dg ddX5_undo 0 rfl) rfl (lv_at hl 0 rfl) ?_
  refine lv_iconst (v := 1) hx hb (dg ddX5_undo 1 rfl) (by decide) ?_
  refine lv_aload_n hx hb (dg ddX5_undo 2 rfl) rfl (lv_at hl 0 rfl) ?_
  refine gf_RX5_62 CX hK hP 0 rfl rfl (dg ddX5_undo 3 rfl) ?_
  refine lv_if_ne (tgt := 13) hx hb (dg ddX5_undo 4 rfl) (by decide) (fun h1 => ?_) (fun h1 => ?_)
  · have hf := it_f h1 hf
    refine lv_iconst (v := 0) hx hb (dg ddX5_undo 7 rfl) (by decide) ?_
    exact K14  0 1 m_thr m_kept m_now _ _ hP hD hS _ (lv_sub hl [0] rfl) hf
  · have hf := it_t h1 hf
    refine lv_iconst (v := 1) hx hb (dg ddX5_undo 5 rfl) (by decide) ?_
    refine lv_goto (tgt := 14) hx hb (dg ddX5_undo 6 rfl) (by decide) ?_
    exact K14  1 1 m_thr m_kept m_now _ _ hP hD hS _ (lv_sub hl [0] rfl) hf
def f_X5_save (m_thr : Int32) (m_isv : Int32) (m_now : Nat → Int32) (m_sav : Nat → Int32) : Option (Int32 × Int32 × Int32 × (Nat → Int32)) := ob (f_X5_copyRow m_now m_sav) fun r2 => (og (inb 2 112) (some ((m_now (2 : Int32).toNatClampNeg), 0, 1, r2)))
set_option maxHeartbeats 4000000 in
set_option maxRecDepth 100000 in
theorem c_X5_save (l : Launch) (D : va_G) (cy : Nat → ClassId) (q : Nat → Nat) (m_thr : Int32) (m_kept : Int32) (m_rea : Int32) (m_det : Int32) (m_isv : Int32) (m_iit : Int32) (m_len : Int32) (m_at : Int32) (m_err : Int32) (m_wro : Int32) (m_cmd : Int32) (m_to1 : Int32) (m_to2 : Int32) (m_now : Nat → Int32) (m_sav : Nat → Int32) (m_ahe : Nat → Int32) (m_bef : Nat → Int32) (m_hst : Nat → Nat → Int32) (m_noi : Nat → UInt32) (m_own : Nat → UInt32) (m_inp : Nat → Int32) (sz : Nat) {res : Int32 × Int32 × Int32 × (Nat → Int32)} (hf : f_X5_save m_thr m_isv m_now m_sav = some res) : Met l yX5_save (.code yX5_save cX5_save 1 (some .int) :: lw_all) { frames := 2, cells := 0, slots := 0, locals := 34 } (va_Pc [.ref (q 0)] (sW D cy (wX5 q cy m_thr m_kept m_rea m_det m_isv m_iit m_len m_at m_err m_wro m_cmd m_to1 m_to2 m_now m_sav m_ahe m_bef m_hst m_noi m_own m_inp) sz)) (qI D (wX5 q cy res.2.1 m_kept m_rea m_det res.2.2.1 m_iit m_len m_at m_err m_wro m_cmd m_to1 m_to2 m_now res.2.2.2 m_ahe m_bef m_hst m_noi m_own m_inp) res.1 (va_A (wX5 q cy m_thr m_kept m_rea m_det m_isv m_iit m_len m_at m_err m_wro m_cmd m_to1 m_to2 m_now m_sav m_ahe m_bef m_hst m_noi m_own m_inp) sz)) 0 0 (va_A (wX5 q cy m_thr m_kept m_rea m_det m_isv m_iit m_len m_at m_err m_wro m_cmd m_to1 m_to2 m_now m_sav m_ahe m_bef m_hst m_noi m_own m_inp) sz) := by
  refine mk_rw (Qc := qI D (wX5 q cy res.2.1 m_kept m_rea m_det res.2.2.1 m_iit m_len m_at m_err m_wro m_cmd m_to1 m_to2 m_now res.2.2.2 m_ahe m_bef m_hst m_noi m_own m_inp) res.1) (Rc := RX5) (by decide +kernel) rfl (Nat.le_of_ble_eq_true rfl) ?_
  intro p e s m args below meth c ls A CX hml hr hlk hK hN hP hD hS hA hl
  have hx := CX.1
  have hb := CX.2.1
  have hRMX5_copyRow : (⟨1, 0, 0, 12⟩ : Room).frames + 1 ≤ (⟨2, 0, 0, 34⟩ : Room).frames ∧ 8 + (3 + 11) + (⟨1, 0, 0, 12⟩ : Room).locals ≤ (⟨2, 0, 0, 34⟩ : Room).locals := ⟨Nat.le_of_ble_eq_true rfl, Nat.le_of_ble_eq_true rfl⟩
  refine lv_aload_n hx hb (dg ddX5_save 0 rfl) rfl (lv_at hl 0 rfl) ?_
  refine lv_iconst (v := 0) hx hb (dg ddX5_save 1 rfl) (by decide) ?_
  refine pf_RX5_53 CX hK hP hD hS 0 rfl (dg ddX5_save 2 rfl) (Nat.le_of_ble_eq_true rfl) (fun H locs hP hD hS => ?_)
  have hP : va_P D vwCl (wX5 q cy 0 m_kept m_rea m_det m_isv m_iit m_len m_at m_err m_wro m_cmd m_to1 m_to2 m_now m_sav m_ahe m_bef m_hst m_noi m_own m_inp) H := hP
  have hD : va_D A (wX5 q cy 0 m_kept m_rea m_det m_isv m_iit m_len m_at m_err m_wro m_cmd m_to1 m_to2 m_now m_sav m_ahe m_bef m_hst m_noi m_own m_inp) := hD
  refine lv_aload_n hx hb (dg ddX5_save 3 rfl) rfl (lv_at hl 0 rfl) ?_
  refine lv_iconst (v := 1) hx hb (dg ddX5_save 4 rfl) (by decide) ?_
  refine pf_RX5_271 CX hK hP hD hS 0 rfl (isZ_n (by decide : isZ 1 = true)) (isZ_f (by decide : isZ 1 = true)) (dg ddX5_save 5 rfl) (Nat.le_of_ble_eq_true rfl) (fun H locs hP hD hS => ?_)
  have hP : va_P D vwCl (wX5 q cy 0 m_kept m_rea m_det 1 m_iit m_len m_at m_err m_wro m_cmd m_to1 m_to2 m_now m_sav m_ahe m_bef m_hst m_noi m_own m_inp) H := hP
  have hD : va_D A (wX5 q cy 0 m_kept m_rea m_det 1 m_iit m_len m_at m_err m_wro m_cmd m_to1 m_to2 m_now m_sav m_ahe m_bef m_hst m_noi m_own m_inp) := hD
  refine lv_aload_n hx hb (dg ddX5_save 6 rfl) rfl (lv_at hl 0 rfl) ?_
  refine gf_RX5_9 CX hK hP 0 rfl rfl (dg ddX5_save 7 rfl) ?_
  refine lv_aload_n hx hb (dg ddX5_save 8 rfl) rfl (lv_at hl 0 rfl) ?_
  refine gf_RX5_13 CX hK hP 0 rfl rfl (dg ddX5_save 9 rfl) ?_
  obtain ⟨r2, e1, hf⟩ := ob_some hf
  refine crs2 CX hml (As := [.ref (q 1), .ref (q 2)]) (rest := []) (ws := (wX5 q cy 0 m_kept m_rea m_det 1 m_iit m_len m_at m_err m_wro m_cmd m_to1 m_to2 m_now m_sav m_ahe m_bef m_hst m_noi m_own m_inp)) (wsn := (wX5 q cy 0 m_kept m_rea m_det 1 m_iit m_len m_at m_err m_wro m_cmd m_to1 m_to2 m_now r2 m_ahe m_bef m_hst m_noi m_own m_inp)) (k1 := 1) (k2 := 2) (c_X5_copyRow l D cy (q 1) (q 2) m_now m_sav _ e1) lk_RX5_65 rfl rfl hRMX5_copyRow hP hD hS hA hK hN rfl rfl (by decide) rfl rfl hl.1 rfl (Nat.le_of_ble_eq_true rfl) ⟨Nat.le_of_ble_eq_true rfl, Nat.le_of_ble_eq_true rfl⟩ (dg ddX5_save 10 rfl) (fun H locs hP hD hS => ?_)
  refine lv_aload_n hx hb (dg ddX5_save 11 rfl) rfl (lv_at hl 0 rfl) ?_
  refine gf_RX5_9 CX hK hP 0 rfl rfl (dg ddX5_save 12 rfl) ?_
  refine lv_iconst (v := 2) hx hb (dg ddX5_save 13 rfl) (by decide) ?_
  obtain ⟨h3, hf⟩ := og_some hf
  refine va_iald hx hb hK hP 1 0 rfl rfl (inb_in h3) (dg ddX5_save 14 rfl) ?_
  cases hf
  exact e_wi CX hr hlk rfl hP hD hS (dg ddX5_save 15 rfl)
def f_X5_restore_c14  (m_isv : Int32) (m_sav : Nat → Int32) (t0 : Int32) (t1 : Int32) (m_thr : Int32) (m_kept : Int32) (m_now : Nat → Int32) : Option (Int32 × Int32 × Int32 × (Nat → Int32)) := ob (f_X5_fails m_thr t1 t0) fun r2 => (if r2.1 = 0 then (ob (f_X5_copyRow m_sav m_now) fun r5 => (og (inb 2 112) (some ((r5 (2 : Int32).toNatClampNeg), r2.2, 0, r5)))) else (some (0, r2.2, m_kept, m_now)))
def f_X5_restore (m_thr : Int32) (m_kept : Int32) (m_isv : Int32) (m_now : Nat → Int32) (m_sav : Nat → Int32) : Option (Int32 × Int32 × Int32 × (Nat → Int32)) := if m_isv = 0 then (f_X5_restore_c14 m_isv m_sav 1 1 m_thr m_kept m_now) else (f_X5_restore_c14 m_isv m_sav 0 1 m_thr m_kept m_now)
set_option maxHeartbeats 4000000 in
set_option maxRecDepth 100000 in
theorem c_X5_restore (l : Launch) (D : va_G) (cy : Nat → ClassId) (q : Nat → Nat) (m_thr : Int32) (m_kept : Int32) (m_rea : Int32) (m_det : Int32) (m_isv : Int32) (m_iit : Int32) (m_len : Int32) (m_at : Int32) (m_err : Int32) (m_wro : Int32) (m_cmd : Int32) (m_to1 : Int32) (m_to2 : Int32) (m_now : Nat → Int32) (m_sav : Nat → Int32) (m_ahe : Nat → Int32) (m_bef : Nat → Int32) (m_hst : Nat → Nat → Int32) (m_noi : Nat → UInt32) (m_own : Nat → UInt32) (m_inp : Nat → Int32) (sz : Nat) {res : Int32 × Int32 × Int32 × (Nat → Int32)} (hf : f_X5_restore m_thr m_kept m_isv m_now m_sav = some res) : Met l yX5_restore (.code yX5_restore cX5_restore 1 (some .int) :: lw_all) { frames := 2, cells := 0, slots := 0, locals := 34 } (va_Pc [.ref (q 0)] (sW D cy (wX5 q cy m_thr m_kept m_rea m_det m_isv m_iit m_len m_at m_err m_wro m_cmd m_to1 m_to2 m_now m_sav m_ahe m_bef m_hst m_noi m_own m_inp) sz)) (qI D (wX5 q cy res.2.1 res.2.2.1 m_rea m_det m_isv m_iit m_len m_at m_err m_wro m_cmd m_to1 m_to2 res.2.2.2 m_sav m_ahe m_bef m_hst m_noi m_own m_inp) res.1 (va_A (wX5 q cy m_thr m_kept m_rea m_det m_isv m_iit m_len m_at m_err m_wro m_cmd m_to1 m_to2 m_now m_sav m_ahe m_bef m_hst m_noi m_own m_inp) sz)) 0 0 (va_A (wX5 q cy m_thr m_kept m_rea m_det m_isv m_iit m_len m_at m_err m_wro m_cmd m_to1 m_to2 m_now m_sav m_ahe m_bef m_hst m_noi m_own m_inp) sz) := by
  refine mk_rw (Qc := qI D (wX5 q cy res.2.1 res.2.2.1 m_rea m_det m_isv m_iit m_len m_at m_err m_wro m_cmd m_to1 m_to2 res.2.2.2 m_sav m_ahe m_bef m_hst m_noi m_own m_inp) res.1) (Rc := RX5) (by decide +kernel) rfl (Nat.le_of_ble_eq_true rfl) ?_
  intro p e s m args below meth c ls A CX hml hr hlk hK hN hP hD hS hA hl
  have hx := CX.1
  have hb := CX.2.1
  have hRMX5_copyRow : (⟨1, 0, 0, 12⟩ : Room).frames + 1 ≤ (⟨2, 0, 0, 34⟩ : Room).frames ∧ 8 + (3 + 11) + (⟨1, 0, 0, 12⟩ : Room).locals ≤ (⟨2, 0, 0, 34⟩ : Room).locals := ⟨Nat.le_of_ble_eq_true rfl, Nat.le_of_ble_eq_true rfl⟩
  have hRMX5_fails : (⟨1, 0, 0, 12⟩ : Room).frames + 1 ≤ (⟨2, 0, 0, 34⟩ : Room).frames ∧ 8 + (3 + 11) + (⟨1, 0, 0, 12⟩ : Room).locals ≤ (⟨2, 0, 0, 34⟩ : Room).locals := ⟨Nat.le_of_ble_eq_true rfl, Nat.le_of_ble_eq_true rfl⟩
  have hl0 := hl
  have K14 : ∀ (t0 : Int32) (t1 : Int32) (m_thr : Int32) (m_kept : Int32) (m_now : Nat → Int32) (H : Heap) (locs : List Loc) (hP : va_P D vwCl (wX5 q cy m_thr m_kept m_rea m_det m_isv m_iit m_len m_at m_err m_wro m_cmd m_to1 m_to2 m_now m_sav m_ahe m_bef m_hst m_noi m_own m_inp) H) (hD : va_D A (wX5 q cy m_thr m_kept m_rea m_det m_isv m_iit m_len m_at m_err m_wro m_cmd m_to1 m_to2 m_now m_sav m_ahe m_bef m_hst m_noi m_own m_inp)) (hS : va_S A s.heap H locs) (ls : Array Slot) (hl : lv_has ls 1 [(0, .ref (q 0))]) (hf : f_X5_restore_c14 m_isv m_sav t0 t1 m_thr m_kept m_now = some res), W p l e ⟨2, 0, 0, 34⟩ s m args below meth c H locs 0 0 (MQ below (qI D (wX5 q cy res.2.1 res.2.2.1 m_rea m_det m_isv m_iit m_len m_at m_err m_wro m_cmd m_to1 m_to2 res.2.2.2 m_sav m_ahe m_bef m_hst m_noi m_own m_inp) res.1 A) args s 0 0 A) (F0 m 14 ls [.int t0, .int t1, .ref (q 0)]) := by
    intro t0 t1 m_thr m_kept m_now H locs hP hD hS ls hl hf
    obtain ⟨r2, e1, hf⟩ := ob_some hf
    refine crw_vi CX hml (As := [.int t1, .int t0]) (rest := []) (c_X5_fails l D cy q m_thr m_kept m_rea m_det m_isv m_iit m_len m_at m_err m_wro m_cmd m_to1 m_to2 m_now m_sav m_ahe m_bef m_hst m_noi m_own m_inp t1 t0 _ e1) lk_RX5_81 rfl rfl hRMX5_fails hP hD hS hA hK hN 0 rfl rfl rfl hl.1 rfl (Nat.le_of_ble_eq_true rfl) ⟨Nat.le_of_ble_eq_true rfl, Nat.le_of_ble_eq_true rfl⟩ (dg ddX5_restore 8 rfl) (fun H locs hP hD hS => ?_)
    refine lv_if_eq (tgt := 22) hx hb (dg ddX5_restore 9 rfl) (by decide) (fun h3 => ?_) (fun h3 => ?_)
    · have hf := it_t h3 hf
      refine lv_aload_n hx hb (dg ddX5_restore 12 rfl) rfl (lv_at hl 0 rfl) ?_
      refine gf_RX5_13 CX hK hP 0 rfl rfl (dg ddX5_restore 13 rfl) ?_
      refine lv_aload_n hx hb (dg ddX5_restore 14 rfl) rfl (lv_at hl 0 rfl) ?_
      refine gf_RX5_9 CX hK hP 0 rfl rfl (dg ddX5_restore 15 rfl) ?_
      obtain ⟨r5, e4, hf⟩ := ob_some hf
      refine crs2 CX hml (As := [.ref (q 2), .ref (q 1)]) (rest := []) (ws := (wX5 q cy r2.2 m_kept m_rea m_det m_isv m_iit m_len m_at m_err m_wro m_cmd m_to1 m_to2 m_now m_sav m_ahe m_bef m_hst m_noi m_own m_inp)) (wsn := (wX5 q cy r2.2 m_kept m_rea m_det m_isv m_iit m_len m_at m_err m_wro m_cmd m_to1 m_to2 r5 m_sav m_ahe m_bef m_hst m_noi m_own m_inp)) (k1 := 2) (k2 := 1) (c_X5_copyRow l D cy (q 2) (q 1) m_sav m_now _ e4) lk_RX5_65 rfl rfl hRMX5_copyRow hP hD hS hA hK hN rfl rfl (by decide) rfl rfl hl.1 rfl (Nat.le_of_ble_eq_true rfl) ⟨Nat.le_of_ble_eq_true rfl, Nat.le_of_ble_eq_true rfl⟩ (dg ddX5_restore 16 rfl) (fun H locs hP hD hS => ?_)
      refine lv_aload_n hx hb (dg ddX5_restore 17 rfl) rfl (lv_at hl 0 rfl) ?_
      refine lv_iconst (v := 0) hx hb (dg ddX5_restore 18 rfl) (by decide) ?_
      refine pf_RX5_62 CX hK hP hD hS 0 rfl (dg ddX5_restore 19 rfl) (Nat.le_of_ble_eq_true rfl) (fun H locs hP hD hS => ?_)
      have hP : va_P D vwCl (wX5 q cy r2.2 0 m_rea m_det m_isv m_iit m_len m_at m_err m_wro m_cmd m_to1 m_to2 r5 m_sav m_ahe m_bef m_hst m_noi m_own m_inp) H := hP
      have hD : va_D A (wX5 q cy r2.2 0 m_rea m_det m_isv m_iit m_len m_at m_err m_wro m_cmd m_to1 m_to2 r5 m_sav m_ahe m_bef m_hst m_noi m_own m_inp) := hD
      refine lv_aload_n hx hb (dg ddX5_restore 20 rfl) rfl (lv_at hl 0 rfl) ?_
      refine gf_RX5_9 CX hK hP 0 rfl rfl (dg ddX5_restore 21 rfl) ?_
      refine lv_iconst (v := 2) hx hb (dg ddX5_restore 22 rfl) (by decide) ?_
      obtain ⟨h6, hf⟩ := og_some hf
      refine va_iald hx hb hK hP 1 0 rfl rfl (inb_in h6) (dg ddX5_restore 23 rfl) ?_
      cases hf
      exact e_wi CX hr hlk rfl hP hD hS (dg ddX5_restore 24 rfl)
    · have hf := it_f h3 hf
      refine lv_iconst (v := 0) hx hb (dg ddX5_restore 10 rfl) (by decide) ?_
      cases hf
      exact e_wi CX hr hlk rfl hP hD hS (dg ddX5_restore 11 rfl)
  refine lv_aload_n hx hb (dg ddX5_restore 0 rfl) rfl (lv_at hl 0 rfl) ?_
  refine lv_iconst (v := 1) hx hb (dg ddX5_restore 1 rfl) (by decide) ?_
  refine lv_aload_n hx hb (dg ddX5_restore 2 rfl) rfl (lv_at hl 0 rfl) ?_
  refine gf_RX5_271 CX hK hP 0 rfl rfl (dg ddX5_restore 3 rfl) ?_
  refine lv_if_ne (tgt := 13) hx hb (dg ddX5_restore 4 rfl) (by decide) (fun h1 => ?_) (fun h1 => ?_)
  · have hf := it_f h1 hf
    refine lv_iconst (v := 0) hx hb (dg ddX5_restore 7 rfl) (by decide) ?_
    exact K14  0 1 m_thr m_kept m_now _ _ hP hD hS _ (lv_sub hl [0] rfl) hf
  · have hf := it_t h1 hf
    refine lv_iconst (v := 1) hx hb (dg ddX5_restore 5 rfl) (by decide) ?_
    refine lv_goto (tgt := 14) hx hb (dg ddX5_restore 6 rfl) (by decide) ?_
    exact K14  1 1 m_thr m_kept m_now _ _ hP hD hS _ (lv_sub hl [0] rfl) hf
