/-! by program: the face, what throws -/
def f_X4_throwFor (a1 : Int32) : Option ((Nat) ⊕ (Unit)) := if a1 = 1 then (some (.inl 1)) else (if a1 = 2 then (some (.inl 2)) else (if a1 = 3 then (some (.inl 3)) else (some (.inr ()))))
set_option maxHeartbeats 4000000 in
set_option maxRecDepth 100000 in
theorem c_X4_throwFor (l : Launch) (D : va_G) (cy : Nat → ClassId) (a1 : Int32) (sz : Nat) (hst : l.stackTraces = false) {res : (Nat) ⊕ (Unit)} (hf : f_X4_throwFor a1 = some res) : vx_Met l yX4_throwFor (.code yX4_throwFor cX4_throwFor 1 none :: lw_all) { frames := 6, cells := 1, slots := 6, locals := 82 } (va_Pc [.int a1] (sX D cy [] sz)) (xV (α := Nat) D (fun x : Unit => []) res (va_A [] sz)) (xX (β := Unit) D (fun x : Nat => []) (fun x : Nat => x) res (va_A [] sz)) 1 6 (va_A [] sz) := by
  refine mk_x (Qc := fun A => (xV (α := Nat) D (fun x : Unit => []) res A)) (XC := fun A => (xX (β := Unit) D (fun x : Nat => []) (fun x : Nat => x) res A)) (Rc := RX4) (by decide +kernel) rfl (Nat.le_of_ble_eq_true rfl) ?_
  intro p e s m args below meth c ls A CX hml hr hlk hK hN hP hD hS hA hl hout hX
  have hx := CX.1
  have hb := CX.2.1
  refine lv_iload_n hx hb (dg ddX4_throwFor 0 rfl) rfl (lv_at hl 0 rfl) ?_
  by_cases h1 : a1 = 1
  · have hf := it_t h1 hf
    refine lv_tableIn (off := 27) (tgt := 28) hx hb (dg ddX4_throwFor 1 rfl) (by rw [h1]; decide) (by rw [h1]; decide) (by rw [h1]; rfl) (by decide) ?_
    cases hf
    exact xt_1_W (is := 332) (tx := "there is no such one") (by decide +kernel) CX (hml.trans hl.1.symm) hst hX hout hlk rfl hP hD hS (Nat.le_of_ble_eq_true rfl) (Nat.le_of_ble_eq_true rfl) (Nat.le_of_ble_eq_true rfl) (Nat.le_of_ble_eq_true rfl) (Nat.le_of_ble_eq_true rfl) (Nat.le_of_ble_eq_true rfl) (dg ddX4_throwFor 2 rfl) (dg ddX4_throwFor 3 rfl) (dg ddX4_throwFor 4 rfl) (dg ddX4_throwFor 5 rfl) (dg ddX4_throwFor 6 rfl)
  have hf := it_f h1 hf
  by_cases h2 : a1 = 2
  · have hf := it_t h2 hf
    refine lv_tableIn (off := 38) (tgt := 39) hx hb (dg ddX4_throwFor 1 rfl) (by rw [h2]; decide) (by rw [h2]; decide) (by rw [h2]; rfl) (by decide) ?_
    cases hf
    exact xt_2_W (is := 334) (tx := "out of range") (by decide +kernel) CX (hml.trans hl.1.symm) hst hX hout hlk rfl hP hD hS (Nat.le_of_ble_eq_true rfl) (Nat.le_of_ble_eq_true rfl) (Nat.le_of_ble_eq_true rfl) (Nat.le_of_ble_eq_true rfl) (Nat.le_of_ble_eq_true rfl) (Nat.le_of_ble_eq_true rfl) (dg ddX4_throwFor 7 rfl) (dg ddX4_throwFor 8 rfl) (dg ddX4_throwFor 9 rfl) (dg ddX4_throwFor 10 rfl) (dg ddX4_throwFor 11 rfl)
  have hf := it_f h2 hf
  by_cases h3 : a1 = 3
  · have hf := it_t h3 hf
    refine lv_tableIn (off := 49) (tgt := 50) hx hb (dg ddX4_throwFor 1 rfl) (by rw [h3]; decide) (by rw [h3]; decide) (by rw [h3]; rfl) (by decide) ?_
    cases hf
    exact xt_3_W (is := 336) (tx := "refused") (by decide +kernel) CX (hml.trans hl.1.symm) hst hX hout hlk rfl hP hD hS (Nat.le_of_ble_eq_true rfl) (Nat.le_of_ble_eq_true rfl) (Nat.le_of_ble_eq_true rfl) (Nat.le_of_ble_eq_true rfl) (Nat.le_of_ble_eq_true rfl) (Nat.le_of_ble_eq_true rfl) (dg ddX4_throwFor 12 rfl) (dg ddX4_throwFor 13 rfl) (dg ddX4_throwFor 14 rfl) (dg ddX4_throwFor 15 rfl) (dg ddX4_throwFor 16 rfl)
  have hf := it_f h3 hf
  refine lv_tabD (off := 60) (tgt := 61) hx hb (dg ddX4_throwFor 1 rfl) (by have g0 : (a1).toInt ≠ 1 := ne_ti h1 (by decide); have g1 : (a1).toInt ≠ 2 := ne_ti h2 (by decide); have g2 : (a1).toInt ≠ 3 := ne_ti h3 (by decide); exact Or.inl ⟨by omega, rfl⟩) (by decide) ?_
  cases hf
  refine W.widen (k := 1) (n := 6) (Nat.le_of_ble_eq_true rfl) (Nat.le_of_ble_eq_true rfl) ?_
  exact x_wv CX hr hlk hP hD hS (dg ddX4_throwFor 17 rfl)
def f_X4_crowd (x_now : SV) (x_nxt : Int32) (x_cnt : Int32) (x_rng : Nat → SV) (a1 : Int32) : Option ((Nat × SV × Int32 × Int32 × (Nat → SV)) ⊕ (Int32 × SV × Int32 × Int32 × (Nat → SV))) := ob (f_X4_hindranceOfCrowd a1) fun r2 => (ob (f_X4_throwFor r2) fun r4 => (os r4 (fun t => some (.inl (t, x_now, x_nxt, x_cnt, x_rng))) fun _ => (ob (f_X1_keep x_nxt x_cnt x_rng x_now) fun r6 => (some (.inr ((g_crowd x_now), (s_crowd x_now a1), r6.1, r6.2.1, r6.2.2))))))
set_option maxHeartbeats 4000000 in
set_option maxRecDepth 100000 in
theorem c_X4_crowd (l : Launch) (D : va_G) (cy : Nat → ClassId) (q : Nat → Nat → Nat) (x_isv : Int32) (x_te : Int32) (x_re : Int32) (x_de : Int32) (x_now : SV) (x_spa : SV) (x_sna : SV) (x_len : Int32) (x_sig : Nat → Int32) (x_nxt : Int32) (x_cnt : Int32) (x_rng : Nat → SV) (a1 : Int32) (sz : Nat) (hst : l.stackTraces = false) {res : (Nat × SV × Int32 × Int32 × (Nat → SV)) ⊕ (Int32 × SV × Int32 × Int32 × (Nat → SV))} (hf : f_X4_crowd x_now x_nxt x_cnt x_rng a1 = some res) : vx_Met l yX4_crowd (.code yX4_crowd cX4_crowd 3 (some .int) :: lw_all) { frames := 7, cells := 1, slots := 6, locals := 102 } (va_Pc [.ref (q 0 0), .int a1] (sX D cy (wX4 q cy x_isv x_te x_re x_de x_now x_spa x_sna x_len x_sig x_nxt x_cnt x_rng) sz)) (xI (α := Nat × SV × Int32 × Int32 × (Nat → SV)) D (fun x : Int32 × SV × Int32 × Int32 × (Nat → SV) => (wX4 q cy x_isv x_te x_re x_de x.2.1 x_spa x_sna x_len x_sig x.2.2.1 x.2.2.2.1 x.2.2.2.2)) (fun x : Int32 × SV × Int32 × Int32 × (Nat → SV) => x.1) res (va_A (wX4 q cy x_isv x_te x_re x_de x_now x_spa x_sna x_len x_sig x_nxt x_cnt x_rng) sz)) (xX (β := Int32 × SV × Int32 × Int32 × (Nat → SV)) D (fun x : Nat × SV × Int32 × Int32 × (Nat → SV) => (wX4 q cy x_isv x_te x_re x_de x.2.1 x_spa x_sna x_len x_sig x.2.2.1 x.2.2.2.1 x.2.2.2.2)) (fun x : Nat × SV × Int32 × Int32 × (Nat → SV) => x.1) res (va_A (wX4 q cy x_isv x_te x_re x_de x_now x_spa x_sna x_len x_sig x_nxt x_cnt x_rng) sz)) 1 6 (va_A (wX4 q cy x_isv x_te x_re x_de x_now x_spa x_sna x_len x_sig x_nxt x_cnt x_rng) sz) := by
  refine mk_x (Qc := fun A => (xI (α := Nat × SV × Int32 × Int32 × (Nat → SV)) D (fun x : Int32 × SV × Int32 × Int32 × (Nat → SV) => (wX4 q cy x_isv x_te x_re x_de x.2.1 x_spa x_sna x_len x_sig x.2.2.1 x.2.2.2.1 x.2.2.2.2)) (fun x : Int32 × SV × Int32 × Int32 × (Nat → SV) => x.1) res A)) (XC := fun A => (xX (β := Int32 × SV × Int32 × Int32 × (Nat → SV)) D (fun x : Nat × SV × Int32 × Int32 × (Nat → SV) => (wX4 q cy x_isv x_te x_re x_de x.2.1 x_spa x_sna x_len x_sig x.2.2.1 x.2.2.2.1 x.2.2.2.2)) (fun x : Nat × SV × Int32 × Int32 × (Nat → SV) => x.1) res A)) (Rc := RX4) (by decide +kernel) rfl (Nat.le_of_ble_eq_true rfl) ?_
  intro p e s m args below meth c ls A CX hml hr hlk hK hN hP hD hS hA hl hout hX
  have hx := CX.1
  have hb := CX.2.1
  have hRMX1_keep : (⟨2, 0, 0, 61⟩ : Room).frames + 1 ≤ (⟨7, 1, 6, 102⟩ : Room).frames ∧ 8 + (3 + 11) + (⟨2, 0, 0, 61⟩ : Room).locals ≤ (⟨7, 1, 6, 102⟩ : Room).locals := ⟨Nat.le_of_ble_eq_true rfl, Nat.le_of_ble_eq_true rfl⟩
  have hRMX4_hindranceOfCrowd : (⟨2, 0, 0, 34⟩ : Room).frames + 1 ≤ (⟨7, 1, 6, 102⟩ : Room).frames ∧ 8 + (1 + 11) + (⟨2, 0, 0, 34⟩ : Room).locals ≤ (⟨7, 1, 6, 102⟩ : Room).locals := ⟨Nat.le_of_ble_eq_true rfl, Nat.le_of_ble_eq_true rfl⟩
  have hRMX4_throwFor : (⟨6, 1, 6, 82⟩ : Room).frames + 1 ≤ (⟨7, 1, 6, 102⟩ : Room).frames ∧ 8 + (1 + 11) + (⟨6, 1, 6, 82⟩ : Room).locals ≤ (⟨7, 1, 6, 102⟩ : Room).locals := ⟨Nat.le_of_ble_eq_true rfl, Nat.le_of_ble_eq_true rfl⟩
  refine lv_iload_n hx hb (dg ddX4_crowd 0 rfl) rfl (lv_at hl 1 rfl) ?_
  obtain ⟨r2, e1, hf⟩ := ob_some hf
  refine cro_si CX hml (As := [.int a1]) (rest := []) (c_X4_hindranceOfCrowd l D cy a1 e1) lk_RX4_50 rfl rfl hRMX4_hindranceOfCrowd vaP_nil hK hN rfl hl.1 rfl (Nat.le_of_ble_eq_true rfl) ⟨Nat.le_of_ble_eq_true rfl, Nat.le_of_ble_eq_true rfl⟩ (dg ddX4_crowd 1 rfl) ?_
  obtain ⟨r4, e3, hf⟩ := ob_some hf
  rcases r4 with t9 | t9
  · cases os_l hf
    exact crx_t CX hml (As := [.int r2]) (rest := []) (c_X4_throwFor l D cy r2 _ hst e3) lk_RX4_54 rfl rfl hRMX4_throwFor hP hD hS hA hK hN hX hout hlk rfl rfl rfl hl.1 rfl (Nat.le_of_ble_eq_true rfl) ⟨(Nat.le_of_ble_eq_true rfl), (Nat.le_of_ble_eq_true rfl)⟩ (Nat.le_of_ble_eq_true rfl) (Nat.le_of_ble_eq_true rfl) (dg ddX4_crowd 2 rfl)
  have hf := os_r hf
  refine crx_r CX hml (As := [.int r2]) (rest := []) (c_X4_throwFor l D cy r2 _ hst e3) lk_RX4_54 rfl rfl hRMX4_throwFor hP hD hS hA hK hN hX rfl hl.1 rfl (Nat.le_of_ble_eq_true rfl) ⟨(Nat.le_of_ble_eq_true rfl), (Nat.le_of_ble_eq_true rfl)⟩ (dg ddX4_crowd 2 rfl) (fun H locs hP hS => ?_)
  refine lv_aload_n hx hb (dg ddX4_crowd 3 rfl) rfl (lv_at hl 0 rfl) ?_
  refine gf_RX4_29 CX hK hP 0 rfl rfl (dg ddX4_crowd 4 rfl) ?_
  refine lv_aload_n hx hb (dg ddX4_crowd 5 rfl) rfl (lv_at hl 0 rfl) ?_
  refine gf_RX4_10 CX hK hP 0 rfl rfl (dg ddX4_crowd 6 rfl) ?_
  obtain ⟨r6, e5, hf⟩ := ob_some hf
  refine crf_vv CX hml (As := [.ref (q 1 0)]) (rest := []) (ws := (wX4 q cy x_isv x_te x_re x_de x_now x_spa x_sna x_len x_sig x_nxt x_cnt x_rng)) (wsn := (wX4 q cy x_isv x_te x_re x_de x_now x_spa x_sna x_len x_sig r6.1 r6.2.1 r6.2.2)) (c_X1_keep l D cy q (q 1) x_nxt x_cnt x_rng x_now _ e5) lk_RX4_58 rfl rfl hRMX1_keep hP hD hS hA hK hN (pm_hn _ _ _ _ _ _) ((pm_hn _ _ _ _ _ _).symm) 0 rfl rfl rfl hl.1 rfl (Nat.le_of_ble_eq_true rfl) ⟨Nat.le_of_ble_eq_true rfl, Nat.le_of_ble_eq_true rfl⟩ (dg ddX4_crowd 7 rfl) (fun H locs hP hD hS => ?_)
  refine lv_aload_n hx hb (dg ddX4_crowd 8 rfl) rfl (lv_at hl 0 rfl) ?_
  refine gf_RX4_10 CX hK hP 0 rfl rfl (dg ddX4_crowd 9 rfl) ?_
  refine gf_RX4_62 CX hK hP 1 rfl rfl (dg ddX4_crowd 10 rfl) ?_
  refine lv_istore_n (lv' := [(2, .int (g_crowd x_now)), (0, .ref (q 0 0)), (1, .int a1)]) hx hb (dg ddX4_crowd 11 rfl) rfl hl (by decide) rfl (fun ls hl => ?_)
  refine lv_aload_n hx hb (dg ddX4_crowd 12 rfl) rfl (lv_at hl 1 rfl) ?_
  refine gf_RX4_10 CX hK hP 0 rfl rfl (dg ddX4_crowd 13 rfl) ?_
  refine lv_iload_n hx hb (dg ddX4_crowd 14 rfl) rfl (lv_at hl 2 rfl) ?_
  refine pf_RX4_62 CX hK hP hD hS 1 rfl (dg ddX4_crowd 15 rfl) (Nat.le_of_ble_eq_true rfl) (fun H locs hP hD hS => ?_)
  have hP : va_P D vwCl (wX4 q cy x_isv x_te x_re x_de (s_crowd x_now a1) x_spa x_sna x_len x_sig r6.1 r6.2.1 r6.2.2) H := hP
  have hD : va_D A (wX4 q cy x_isv x_te x_re x_de (s_crowd x_now a1) x_spa x_sna x_len x_sig r6.1 r6.2.1 r6.2.2) := hD
  refine lv_iload_n hx hb (dg ddX4_crowd 16 rfl) rfl (lv_at hl 0 rfl) ?_
  cases hf
  exact x_wi CX hr hlk rfl hP hD hS (dg ddX4_crowd 17 rfl)
def f_X4_limit (x_now : SV) (x_nxt : Int32) (x_cnt : Int32) (x_rng : Nat → SV) (a1 : Int32) (a2 : Int32) : Option ((Nat × SV × Int32 × Int32 × (Nat → SV)) ⊕ (Int32 × SV × Int32 × Int32 × (Nat → SV))) := ob (f_X4_hindranceOfLimit a1 a2) fun r2 => (ob (f_X4_throwFor r2) fun r4 => (os r4 (fun t => some (.inl (t, x_now, x_nxt, x_cnt, x_rng))) fun _ => (ob (f_X1_keep x_nxt x_cnt x_rng x_now) fun r6 => (og (inb a1 8) (og (inb a1 8) (ob (f_X0_ofFloat ((g_lim x_now) a1.toNatClampNeg)) fun r10 => (some (.inr (r10, (s_lim x_now (vf_upd (g_lim x_now) a1.toNatClampNeg (FP.i2f a2))), r6.1, r6.2.1, r6.2.2)))))))))
set_option maxHeartbeats 4000000 in
set_option maxRecDepth 100000 in
theorem c_X4_limit (l : Launch) (D : va_G) (cy : Nat → ClassId) (q : Nat → Nat → Nat) (x_isv : Int32) (x_te : Int32) (x_re : Int32) (x_de : Int32) (x_now : SV) (x_spa : SV) (x_sna : SV) (x_len : Int32) (x_sig : Nat → Int32) (x_nxt : Int32) (x_cnt : Int32) (x_rng : Nat → SV) (a1 : Int32) (a2 : Int32) (sz : Nat) (hst : l.stackTraces = false) {res : (Nat × SV × Int32 × Int32 × (Nat → SV)) ⊕ (Int32 × SV × Int32 × Int32 × (Nat → SV))} (hf : f_X4_limit x_now x_nxt x_cnt x_rng a1 a2 = some res) : vx_Met l yX4_limit (.code yX4_limit cX4_limit 4 (some .int) :: lw_all) { frames := 7, cells := 1, slots := 6, locals := 102 } (va_Pc [.ref (q 0 0), .int a1, .int a2] (sX D cy (wX4 q cy x_isv x_te x_re x_de x_now x_spa x_sna x_len x_sig x_nxt x_cnt x_rng) sz)) (xI (α := Nat × SV × Int32 × Int32 × (Nat → SV)) D (fun x : Int32 × SV × Int32 × Int32 × (Nat → SV) => (wX4 q cy x_isv x_te x_re x_de x.2.1 x_spa x_sna x_len x_sig x.2.2.1 x.2.2.2.1 x.2.2.2.2)) (fun x : Int32 × SV × Int32 × Int32 × (Nat → SV) => x.1) res (va_A (wX4 q cy x_isv x_te x_re x_de x_now x_spa x_sna x_len x_sig x_nxt x_cnt x_rng) sz)) (xX (β := Int32 × SV × Int32 × Int32 × (Nat → SV)) D (fun x : Nat × SV × Int32 × Int32 × (Nat → SV) => (wX4 q cy x_isv x_te x_re x_de x.2.1 x_spa x_sna x_len x_sig x.2.2.1 x.2.2.2.1 x.2.2.2.2)) (fun x : Nat × SV × Int32 × Int32 × (Nat → SV) => x.1) res (va_A (wX4 q cy x_isv x_te x_re x_de x_now x_spa x_sna x_len x_sig x_nxt x_cnt x_rng) sz)) 1 6 (va_A (wX4 q cy x_isv x_te x_re x_de x_now x_spa x_sna x_len x_sig x_nxt x_cnt x_rng) sz) := by
  refine mk_x (Qc := fun A => (xI (α := Nat × SV × Int32 × Int32 × (Nat → SV)) D (fun x : Int32 × SV × Int32 × Int32 × (Nat → SV) => (wX4 q cy x_isv x_te x_re x_de x.2.1 x_spa x_sna x_len x_sig x.2.2.1 x.2.2.2.1 x.2.2.2.2)) (fun x : Int32 × SV × Int32 × Int32 × (Nat → SV) => x.1) res A)) (XC := fun A => (xX (β := Int32 × SV × Int32 × Int32 × (Nat → SV)) D (fun x : Nat × SV × Int32 × Int32 × (Nat → SV) => (wX4 q cy x_isv x_te x_re x_de x.2.1 x_spa x_sna x_len x_sig x.2.2.1 x.2.2.2.1 x.2.2.2.2)) (fun x : Nat × SV × Int32 × Int32 × (Nat → SV) => x.1) res A)) (Rc := RX4) (by decide +kernel) rfl (Nat.le_of_ble_eq_true rfl) ?_
  intro p e s m args below meth c ls A CX hml hr hlk hK hN hP hD hS hA hl hout hX
  have hx := CX.1
  have hb := CX.2.1
  have hRMX0_ofFloat : (⟨1, 0, 0, 12⟩ : Room).frames + 1 ≤ (⟨7, 1, 6, 102⟩ : Room).frames ∧ 8 + (3 + 11) + (⟨1, 0, 0, 12⟩ : Room).locals ≤ (⟨7, 1, 6, 102⟩ : Room).locals := ⟨Nat.le_of_ble_eq_true rfl, Nat.le_of_ble_eq_true rfl⟩
  have hRMX1_keep : (⟨2, 0, 0, 61⟩ : Room).frames + 1 ≤ (⟨7, 1, 6, 102⟩ : Room).frames ∧ 8 + (3 + 11) + (⟨2, 0, 0, 61⟩ : Room).locals ≤ (⟨7, 1, 6, 102⟩ : Room).locals := ⟨Nat.le_of_ble_eq_true rfl, Nat.le_of_ble_eq_true rfl⟩
  have hRMX4_hindranceOfLimit : (⟨2, 0, 0, 34⟩ : Room).frames + 1 ≤ (⟨7, 1, 6, 102⟩ : Room).frames ∧ 8 + (2 + 11) + (⟨2, 0, 0, 34⟩ : Room).locals ≤ (⟨7, 1, 6, 102⟩ : Room).locals := ⟨Nat.le_of_ble_eq_true rfl, Nat.le_of_ble_eq_true rfl⟩
  have hRMX4_throwFor : (⟨6, 1, 6, 82⟩ : Room).frames + 1 ≤ (⟨7, 1, 6, 102⟩ : Room).frames ∧ 8 + (1 + 11) + (⟨6, 1, 6, 82⟩ : Room).locals ≤ (⟨7, 1, 6, 102⟩ : Room).locals := ⟨Nat.le_of_ble_eq_true rfl, Nat.le_of_ble_eq_true rfl⟩
  refine lv_iload_n hx hb (dg ddX4_limit 0 rfl) rfl (lv_at hl 1 rfl) ?_
  refine lv_iload_n hx hb (dg ddX4_limit 1 rfl) rfl (lv_at hl 2 rfl) ?_
  obtain ⟨r2, e1, hf⟩ := ob_some hf
  refine cro_si CX hml (As := [.int a1, .int a2]) (rest := []) (c_X4_hindranceOfLimit l D cy a1 a2 e1) lk_RX4_65 rfl rfl hRMX4_hindranceOfLimit vaP_nil hK hN rfl hl.1 rfl (Nat.le_of_ble_eq_true rfl) ⟨Nat.le_of_ble_eq_true rfl, Nat.le_of_ble_eq_true rfl⟩ (dg ddX4_limit 2 rfl) ?_
  obtain ⟨r4, e3, hf⟩ := ob_some hf
  rcases r4 with t9 | t9
  · cases os_l hf
    exact crx_t CX hml (As := [.int r2]) (rest := []) (c_X4_throwFor l D cy r2 _ hst e3) lk_RX4_54 rfl rfl hRMX4_throwFor hP hD hS hA hK hN hX hout hlk rfl rfl rfl hl.1 rfl (Nat.le_of_ble_eq_true rfl) ⟨(Nat.le_of_ble_eq_true rfl), (Nat.le_of_ble_eq_true rfl)⟩ (Nat.le_of_ble_eq_true rfl) (Nat.le_of_ble_eq_true rfl) (dg ddX4_limit 3 rfl)
  have hf := os_r hf
  refine crx_r CX hml (As := [.int r2]) (rest := []) (c_X4_throwFor l D cy r2 _ hst e3) lk_RX4_54 rfl rfl hRMX4_throwFor hP hD hS hA hK hN hX rfl hl.1 rfl (Nat.le_of_ble_eq_true rfl) ⟨(Nat.le_of_ble_eq_true rfl), (Nat.le_of_ble_eq_true rfl)⟩ (dg ddX4_limit 3 rfl) (fun H locs hP hS => ?_)
  refine lv_aload_n hx hb (dg ddX4_limit 4 rfl) rfl (lv_at hl 0 rfl) ?_
  refine gf_RX4_29 CX hK hP 0 rfl rfl (dg ddX4_limit 5 rfl) ?_
  refine lv_aload_n hx hb (dg ddX4_limit 6 rfl) rfl (lv_at hl 0 rfl) ?_
  refine gf_RX4_10 CX hK hP 0 rfl rfl (dg ddX4_limit 7 rfl) ?_
  obtain ⟨r6, e5, hf⟩ := ob_some hf
  refine crf_vv CX hml (As := [.ref (q 1 0)]) (rest := []) (ws := (wX4 q cy x_isv x_te x_re x_de x_now x_spa x_sna x_len x_sig x_nxt x_cnt x_rng)) (wsn := (wX4 q cy x_isv x_te x_re x_de x_now x_spa x_sna x_len x_sig r6.1 r6.2.1 r6.2.2)) (c_X1_keep l D cy q (q 1) x_nxt x_cnt x_rng x_now _ e5) lk_RX4_58 rfl rfl hRMX1_keep hP hD hS hA hK hN (pm_hn _ _ _ _ _ _) ((pm_hn _ _ _ _ _ _).symm) 0 rfl rfl rfl hl.1 rfl (Nat.le_of_ble_eq_true rfl) ⟨Nat.le_of_ble_eq_true rfl, Nat.le_of_ble_eq_true rfl⟩ (dg ddX4_limit 8 rfl) (fun H locs hP hD hS => ?_)
  refine lv_aload_n hx hb (dg ddX4_limit 9 rfl) rfl (lv_at hl 0 rfl) ?_
  refine gf_RX4_10 CX hK hP 0 rfl rfl (dg ddX4_limit 10 rfl) ?_
  refine gf_RX4_69 CX hK hP 1 rfl rfl (dg ddX4_limit 11 rfl) ?_
  refine lv_iload_n hx hb (dg ddX4_limit 12 rfl) rfl (lv_at hl 1 rfl) ?_
  obtain ⟨h7, hf⟩ := og_some hf
  refine va_fald hx hb hK hP 2 1 rfl rfl (inb_in h7) (dg ddX4_limit 13 rfl) ?_
  refine lv_fstore_n (lv' := [(3, .float ((g_lim x_now) a1.toNatClampNeg)), (0, .ref (q 0 0)), (1, .int a1), (2, .int a2)]) hx hb (dg ddX4_limit 14 rfl) rfl hl (by decide) rfl (fun ls hl => ?_)
  refine lv_aload_n hx hb (dg ddX4_limit 15 rfl) rfl (lv_at hl 1 rfl) ?_
  refine gf_RX4_10 CX hK hP 0 rfl rfl (dg ddX4_limit 16 rfl) ?_
  refine gf_RX4_69 CX hK hP 1 rfl rfl (dg ddX4_limit 17 rfl) ?_
  refine lv_iload_n hx hb (dg ddX4_limit 18 rfl) rfl (lv_at hl 2 rfl) ?_
  refine lv_iload_n hx hb (dg ddX4_limit 19 rfl) rfl (lv_at hl 3 rfl) ?_
  refine lv_i2f hx hb (dg ddX4_limit 20 rfl) ?_
  obtain ⟨h8, hf⟩ := og_some hf
  refine va_fast hx hb hK hP hD hS 2 1 rfl rfl (inb_in h8) (dg ddX4_limit 21 rfl) (fun H locs hP hD hS => ?_)
  have hP : va_P D vwCl (wX4 q cy x_isv x_te x_re x_de (s_lim x_now (vf_upd (g_lim x_now) a1.toNatClampNeg (FP.i2f a2))) x_spa x_sna x_len x_sig r6.1 r6.2.1 r6.2.2) H := hP
  have hD : va_D A (wX4 q cy x_isv x_te x_re x_de (s_lim x_now (vf_upd (g_lim x_now) a1.toNatClampNeg (FP.i2f a2))) x_spa x_sna x_len x_sig r6.1 r6.2.1 r6.2.2) := hD
  refine lv_fload_n hx hb (dg ddX4_limit 22 rfl) rfl (lv_at hl 0 rfl) ?_
  obtain ⟨r10, e9, hf⟩ := ob_some hf
  refine cro_si CX hml (As := [.float ((g_lim x_now) a1.toNatClampNeg)]) (rest := []) (c_X0_ofFloat l D cy ((g_lim x_now) a1.toNatClampNeg) e9) lk_RX4_73 rfl rfl hRMX0_ofFloat vaP_nil hK hN rfl hl.1 rfl (Nat.le_of_ble_eq_true rfl) ⟨Nat.le_of_ble_eq_true rfl, Nat.le_of_ble_eq_true rfl⟩ (dg ddX4_limit 23 rfl) ?_
  cases hf
  exact x_wi CX hr hlk rfl hP hD hS (dg ddX4_limit 24 rfl)
def f_X4_busker (x_re : Int32) (x_de : Int32) (x_now : SV) (x_nxt : Int32) (x_cnt : Int32) (x_rng : Nat → SV) (a1 : Int32) (a2 : Int32) : Option ((Nat × Int32 × Int32 × SV × Int32 × Int32 × (Nat → SV)) ⊕ (Int32 × Int32 × Int32 × SV × Int32 × Int32 × (Nat → SV))) := ob (f_X4_hindranceOfBusker x_re x_de x_now a1 a2) fun r2 => (ob (f_X4_throwFor r2.1) fun r4 => (os r4 (fun t => some (.inl (t, r2.2.1, r2.2.2, x_now, x_nxt, x_cnt, x_rng))) fun _ => (ob (f_X1_keep x_nxt x_cnt x_rng x_now) fun r6 => (ob (f_X3_addBusker (g_buskers x_now) (g_kin x_now) (g_lou x_now) a1 a2) fun r8 => (some (.inr (r8.1, r2.2.1, r2.2.2, (s_lou (s_kin (s_buskers x_now r8.2.1) r8.2.2.1) r8.2.2.2), r6.1, r6.2.1, r6.2.2)))))))
set_option maxHeartbeats 4000000 in
set_option maxRecDepth 100000 in
theorem c_X4_busker (l : Launch) (D : va_G) (cy : Nat → ClassId) (q : Nat → Nat → Nat) (x_isv : Int32) (x_te : Int32) (x_re : Int32) (x_de : Int32) (x_now : SV) (x_spa : SV) (x_sna : SV) (x_len : Int32) (x_sig : Nat → Int32) (x_nxt : Int32) (x_cnt : Int32) (x_rng : Nat → SV) (a1 : Int32) (a2 : Int32) (sz : Nat) (hst : l.stackTraces = false) {res : (Nat × Int32 × Int32 × SV × Int32 × Int32 × (Nat → SV)) ⊕ (Int32 × Int32 × Int32 × SV × Int32 × Int32 × (Nat → SV))} (hf : f_X4_busker x_re x_de x_now x_nxt x_cnt x_rng a1 a2 = some res) : vx_Met l yX4_busker (.code yX4_busker cX4_busker 3 (some .int) :: lw_all) { frames := 7, cells := 1, slots := 6, locals := 102 } (va_Pc [.ref (q 0 0), .int a1, .int a2] (sX D cy (wX4 q cy x_isv x_te x_re x_de x_now x_spa x_sna x_len x_sig x_nxt x_cnt x_rng) sz)) (xI (α := Nat × Int32 × Int32 × SV × Int32 × Int32 × (Nat → SV)) D (fun x : Int32 × Int32 × Int32 × SV × Int32 × Int32 × (Nat → SV) => (wX4 q cy x_isv x_te x.2.1 x.2.2.1 x.2.2.2.1 x_spa x_sna x_len x_sig x.2.2.2.2.1 x.2.2.2.2.2.1 x.2.2.2.2.2.2)) (fun x : Int32 × Int32 × Int32 × SV × Int32 × Int32 × (Nat → SV) => x.1) res (va_A (wX4 q cy x_isv x_te x_re x_de x_now x_spa x_sna x_len x_sig x_nxt x_cnt x_rng) sz)) (xX (β := Int32 × Int32 × Int32 × SV × Int32 × Int32 × (Nat → SV)) D (fun x : Nat × Int32 × Int32 × SV × Int32 × Int32 × (Nat → SV) => (wX4 q cy x_isv x_te x.2.1 x.2.2.1 x.2.2.2.1 x_spa x_sna x_len x_sig x.2.2.2.2.1 x.2.2.2.2.2.1 x.2.2.2.2.2.2)) (fun x : Nat × Int32 × Int32 × SV × Int32 × Int32 × (Nat → SV) => x.1) res (va_A (wX4 q cy x_isv x_te x_re x_de x_now x_spa x_sna x_len x_sig x_nxt x_cnt x_rng) sz)) 1 6 (va_A (wX4 q cy x_isv x_te x_re x_de x_now x_spa x_sna x_len x_sig x_nxt x_cnt x_rng) sz) := by
  refine mk_x (Qc := fun A => (xI (α := Nat × Int32 × Int32 × SV × Int32 × Int32 × (Nat → SV)) D (fun x : Int32 × Int32 × Int32 × SV × Int32 × Int32 × (Nat → SV) => (wX4 q cy x_isv x_te x.2.1 x.2.2.1 x.2.2.2.1 x_spa x_sna x_len x_sig x.2.2.2.2.1 x.2.2.2.2.2.1 x.2.2.2.2.2.2)) (fun x : Int32 × Int32 × Int32 × SV × Int32 × Int32 × (Nat → SV) => x.1) res A)) (XC := fun A => (xX (β := Int32 × Int32 × Int32 × SV × Int32 × Int32 × (Nat → SV)) D (fun x : Nat × Int32 × Int32 × SV × Int32 × Int32 × (Nat → SV) => (wX4 q cy x_isv x_te x.2.1 x.2.2.1 x.2.2.2.1 x_spa x_sna x_len x_sig x.2.2.2.2.1 x.2.2.2.2.2.1 x.2.2.2.2.2.2)) (fun x : Nat × Int32 × Int32 × SV × Int32 × Int32 × (Nat → SV) => x.1) res A)) (Rc := RX4) (by decide +kernel) rfl (Nat.le_of_ble_eq_true rfl) ?_
  intro p e s m args below meth c ls A CX hml hr hlk hK hN hP hD hS hA hl hout hX
  have hx := CX.1
  have hb := CX.2.1
  have hRMX1_keep : (⟨2, 0, 0, 61⟩ : Room).frames + 1 ≤ (⟨7, 1, 6, 102⟩ : Room).frames ∧ 8 + (3 + 11) + (⟨2, 0, 0, 61⟩ : Room).locals ≤ (⟨7, 1, 6, 102⟩ : Room).locals := ⟨Nat.le_of_ble_eq_true rfl, Nat.le_of_ble_eq_true rfl⟩
  have hRMX3_addBusker : (⟨1, 0, 0, 12⟩ : Room).frames + 1 ≤ (⟨7, 1, 6, 102⟩ : Room).frames ∧ 8 + (3 + 11) + (⟨1, 0, 0, 12⟩ : Room).locals ≤ (⟨7, 1, 6, 102⟩ : Room).locals := ⟨Nat.le_of_ble_eq_true rfl, Nat.le_of_ble_eq_true rfl⟩
  have hRMX4_hindranceOfBusker : (⟨2, 0, 0, 34⟩ : Room).frames + 1 ≤ (⟨7, 1, 6, 102⟩ : Room).frames ∧ 8 + (3 + 11) + (⟨2, 0, 0, 34⟩ : Room).locals ≤ (⟨7, 1, 6, 102⟩ : Room).locals := ⟨Nat.le_of_ble_eq_true rfl, Nat.le_of_ble_eq_true rfl⟩
  have hRMX4_throwFor : (⟨6, 1, 6, 82⟩ : Room).frames + 1 ≤ (⟨7, 1, 6, 102⟩ : Room).frames ∧ 8 + (1 + 11) + (⟨6, 1, 6, 82⟩ : Room).locals ≤ (⟨7, 1, 6, 102⟩ : Room).locals := ⟨Nat.le_of_ble_eq_true rfl, Nat.le_of_ble_eq_true rfl⟩
  refine lv_aload_n hx hb (dg ddX4_busker 0 rfl) rfl (lv_at hl 0 rfl) ?_
  refine lv_iload_n hx hb (dg ddX4_busker 1 rfl) rfl (lv_at hl 1 rfl) ?_
  refine lv_iload_n hx hb (dg ddX4_busker 2 rfl) rfl (lv_at hl 2 rfl) ?_
  obtain ⟨r2, e1, hf⟩ := ob_some hf
  refine crw_vi CX hml (As := [.int a1, .int a2]) (rest := []) (c_X4_hindranceOfBusker l D cy q x_isv x_te x_re x_de x_now x_spa x_sna x_len x_sig x_nxt x_cnt x_rng a1 a2 _ e1) lk_RX4_79 rfl rfl hRMX4_hindranceOfBusker hP hD hS hA hK hN 0 rfl rfl rfl hl.1 rfl (Nat.le_of_ble_eq_true rfl) ⟨Nat.le_of_ble_eq_true rfl, Nat.le_of_ble_eq_true rfl⟩ (dg ddX4_busker 3 rfl) (fun H locs hP hD hS => ?_)
  obtain ⟨r4, e3, hf⟩ := ob_some hf
  rcases r4 with t9 | t9
  · cases os_l hf
    exact crx_t CX hml (As := [.int r2.1]) (rest := []) (c_X4_throwFor l D cy r2.1 _ hst e3) lk_RX4_54 rfl rfl hRMX4_throwFor hP hD hS hA hK hN hX hout hlk rfl rfl rfl hl.1 rfl (Nat.le_of_ble_eq_true rfl) ⟨(Nat.le_of_ble_eq_true rfl), (Nat.le_of_ble_eq_true rfl)⟩ (Nat.le_of_ble_eq_true rfl) (Nat.le_of_ble_eq_true rfl) (dg ddX4_busker 4 rfl)
  have hf := os_r hf
  refine crx_r CX hml (As := [.int r2.1]) (rest := []) (c_X4_throwFor l D cy r2.1 _ hst e3) lk_RX4_54 rfl rfl hRMX4_throwFor hP hD hS hA hK hN hX rfl hl.1 rfl (Nat.le_of_ble_eq_true rfl) ⟨(Nat.le_of_ble_eq_true rfl), (Nat.le_of_ble_eq_true rfl)⟩ (dg ddX4_busker 4 rfl) (fun H locs hP hS => ?_)
  refine lv_aload_n hx hb (dg ddX4_busker 5 rfl) rfl (lv_at hl 0 rfl) ?_
  refine gf_RX4_29 CX hK hP 0 rfl rfl (dg ddX4_busker 6 rfl) ?_
  refine lv_aload_n hx hb (dg ddX4_busker 7 rfl) rfl (lv_at hl 0 rfl) ?_
  refine gf_RX4_10 CX hK hP 0 rfl rfl (dg ddX4_busker 8 rfl) ?_
  obtain ⟨r6, e5, hf⟩ := ob_some hf
  refine crf_vv CX hml (As := [.ref (q 1 0)]) (rest := []) (ws := (wX4 q cy x_isv x_te r2.2.1 r2.2.2 x_now x_spa x_sna x_len x_sig x_nxt x_cnt x_rng)) (wsn := (wX4 q cy x_isv x_te r2.2.1 r2.2.2 x_now x_spa x_sna x_len x_sig r6.1 r6.2.1 r6.2.2)) (c_X1_keep l D cy q (q 1) x_nxt x_cnt x_rng x_now _ e5) lk_RX4_58 rfl rfl hRMX1_keep hP hD hS hA hK hN (pm_hn _ _ _ _ _ _) ((pm_hn _ _ _ _ _ _).symm) 0 rfl rfl rfl hl.1 rfl (Nat.le_of_ble_eq_true rfl) ⟨Nat.le_of_ble_eq_true rfl, Nat.le_of_ble_eq_true rfl⟩ (dg ddX4_busker 9 rfl) (fun H locs hP hD hS => ?_)
  refine lv_aload_n hx hb (dg ddX4_busker 10 rfl) rfl (lv_at hl 0 rfl) ?_
  refine gf_RX4_10 CX hK hP 0 rfl rfl (dg ddX4_busker 11 rfl) ?_
  refine lv_iload_n hx hb (dg ddX4_busker 12 rfl) rfl (lv_at hl 1 rfl) ?_
  refine lv_iload_n hx hb (dg ddX4_busker 13 rfl) rfl (lv_at hl 2 rfl) ?_
  obtain ⟨r8, e7, hf⟩ := ob_some hf
  refine crf_vi CX hml (As := [.int a1, .int a2]) (rest := []) (ws := (wX4 q cy x_isv x_te r2.2.1 r2.2.2 x_now x_spa x_sna x_len x_sig r6.1 r6.2.1 r6.2.2)) (wsn := (wX4 q cy x_isv x_te r2.2.1 r2.2.2 (s_lou (s_kin (s_buskers x_now r8.2.1) r8.2.2.1) r8.2.2.2) x_spa x_sna x_len x_sig r6.1 r6.2.1 r6.2.2)) (c_X3_addBusker l D cy (q 1) (g_hour x_now) (g_crowd x_now) (g_buskers x_now) (g_answered x_now) (g_draws x_now) (g_lim x_now) (g_cmp x_now) (g_sof x_now) (g_kin x_now) (g_lou x_now) (g_pit x_now) (g_pla x_now) (g_cas x_now) (g_hrs x_now) (g_nws x_now) (g_hat x_now) (g_wea x_now) (g_row x_now) a1 a2 _ e7) lk_RX4_82 rfl rfl hRMX3_addBusker hP hD hS hA hK hN (pm_n _ _ _ _ _ _) ((pm_n _ _ _ _ _ _).symm) 0 rfl rfl rfl hl.1 rfl (Nat.le_of_ble_eq_true rfl) ⟨Nat.le_of_ble_eq_true rfl, Nat.le_of_ble_eq_true rfl⟩ (dg ddX4_busker 14 rfl) (fun H locs hP hD hS => ?_)
  cases hf
  exact x_wi CX hr hlk rfl hP hD hS (dg ddX4_busker 15 rfl)
def f_X4_buskerOf (x_now : SV) (a1 : Int32) (a2 : Int32) : Option ((Nat) ⊕ (Int32)) := ob (f_X4_hindranceOfBuskerNumber x_now a1) fun r2 => (ob (f_X4_throwFor r2) fun r4 => (os r4 (fun t => some (.inl t)) fun _ => (if a2 = 0 then (og (inb a1 8) (some (.inr ((g_kin x_now) a1.toNatClampNeg)))) else (if a2 = 1 then (og (inb a1 8) (some (.inr ((g_lou x_now) a1.toNatClampNeg)))) else (if a2 = 2 then (og (inb a1 8) (some (.inr ((g_pit x_now) a1.toNatClampNeg)))) else (if a2 = 3 then (og (inb a1 8) (some (.inr ((g_pla x_now) a1.toNatClampNeg)))) else (if a2 = 4 then (og (inb a1 8) (some (.inr ((g_cas x_now) a1.toNatClampNeg)))) else (if a2 = 5 then (og (inb a1 8) (some (.inr ((g_hrs x_now) a1.toNatClampNeg)))) else (if a2 = 6 then (og (inb a1 8) (some (.inr ((g_nws x_now) a1.toNatClampNeg)))) else (some (.inl 2)))))))))))
set_option maxHeartbeats 4000000 in
set_option maxRecDepth 100000 in
theorem c_X4_buskerOf (l : Launch) (D : va_G) (cy : Nat → ClassId) (q : Nat → Nat → Nat) (x_isv : Int32) (x_te : Int32) (x_re : Int32) (x_de : Int32) (x_now : SV) (x_spa : SV) (x_sna : SV) (x_len : Int32) (x_sig : Nat → Int32) (x_nxt : Int32) (x_cnt : Int32) (x_rng : Nat → SV) (a1 : Int32) (a2 : Int32) (sz : Nat) (hst : l.stackTraces = false) {res : (Nat) ⊕ (Int32)} (hf : f_X4_buskerOf x_now a1 a2 = some res) : vx_Met l yX4_buskerOf (.code yX4_buskerOf cX4_buskerOf 3 (some .int) :: lw_all) { frames := 7, cells := 2, slots := 12, locals := 102 } (va_Pc [.ref (q 0 0), .int a1, .int a2] (sX D cy (wX4 q cy x_isv x_te x_re x_de x_now x_spa x_sna x_len x_sig x_nxt x_cnt x_rng) sz)) (xI (α := Nat) D (fun x : Int32 => (wX4 q cy x_isv x_te x_re x_de x_now x_spa x_sna x_len x_sig x_nxt x_cnt x_rng)) (fun x : Int32 => x) res (va_A (wX4 q cy x_isv x_te x_re x_de x_now x_spa x_sna x_len x_sig x_nxt x_cnt x_rng) sz)) (xX (β := Int32) D (fun x : Nat => (wX4 q cy x_isv x_te x_re x_de x_now x_spa x_sna x_len x_sig x_nxt x_cnt x_rng)) (fun x : Nat => x) res (va_A (wX4 q cy x_isv x_te x_re x_de x_now x_spa x_sna x_len x_sig x_nxt x_cnt x_rng) sz)) 2 12 (va_A (wX4 q cy x_isv x_te x_re x_de x_now x_spa x_sna x_len x_sig x_nxt x_cnt x_rng) sz) := by
  refine mk_x (Qc := fun A => (xI (α := Nat) D (fun x : Int32 => (wX4 q cy x_isv x_te x_re x_de x_now x_spa x_sna x_len x_sig x_nxt x_cnt x_rng)) (fun x : Int32 => x) res A)) (XC := fun A => (xX (β := Int32) D (fun x : Nat => (wX4 q cy x_isv x_te x_re x_de x_now x_spa x_sna x_len x_sig x_nxt x_cnt x_rng)) (fun x : Nat => x) res A)) (Rc := RX4) (by decide +kernel) rfl (Nat.le_of_ble_eq_true rfl) ?_
  intro p e s m args below meth c ls A CX hml hr hlk hK hN hP hD hS hA hl hout hX
  have hx := CX.1
  have hb := CX.2.1
  have hRMX4_hindranceOfBuskerNumber : (⟨2, 0, 0, 33⟩ : Room).frames + 1 ≤ (⟨7, 2, 12, 102⟩ : Room).frames ∧ 8 + (2 + 11) + (⟨2, 0, 0, 33⟩ : Room).locals ≤ (⟨7, 2, 12, 102⟩ : Room).locals := ⟨Nat.le_of_ble_eq_true rfl, Nat.le_of_ble_eq_true rfl⟩
  have hRMX4_throwFor : (⟨6, 1, 6, 82⟩ : Room).frames + 1 ≤ (⟨7, 2, 12, 102⟩ : Room).frames ∧ 8 + (1 + 11) + (⟨6, 1, 6, 82⟩ : Room).locals ≤ (⟨7, 2, 12, 102⟩ : Room).locals := ⟨Nat.le_of_ble_eq_true rfl, Nat.le_of_ble_eq_true rfl⟩
  refine lv_aload_n hx hb (dg ddX4_buskerOf 0 rfl) rfl (lv_at hl 0 rfl) ?_
  refine lv_iload_n hx hb (dg ddX4_buskerOf 1 rfl) rfl (lv_at hl 1 rfl) ?_
  obtain ⟨r2, e1, hf⟩ := ob_some hf
  refine cro_vi CX hml (As := [.int a1]) (rest := []) (c_X4_hindranceOfBuskerNumber l D cy q x_isv x_te x_re x_de x_now x_spa x_sna x_len x_sig x_nxt x_cnt x_rng a1 e1) lk_RX4_85 rfl rfl hRMX4_hindranceOfBuskerNumber hP hK hN 0 rfl rfl rfl hl.1 rfl (Nat.le_of_ble_eq_true rfl) ⟨Nat.le_of_ble_eq_true rfl, Nat.le_of_ble_eq_true rfl⟩ (dg ddX4_buskerOf 2 rfl) ?_
  obtain ⟨r4, e3, hf⟩ := ob_some hf
  rcases r4 with t9 | t9
  · cases os_l hf
    exact crx_t CX hml (As := [.int r2]) (rest := []) (c_X4_throwFor l D cy r2 _ hst e3) lk_RX4_54 rfl rfl hRMX4_throwFor hP hD hS hA hK hN hX hout hlk rfl rfl rfl hl.1 rfl (Nat.le_of_ble_eq_true rfl) ⟨(Nat.le_of_ble_eq_true rfl), (Nat.le_of_ble_eq_true rfl)⟩ (Nat.le_of_ble_eq_true rfl) (Nat.le_of_ble_eq_true rfl) (dg ddX4_buskerOf 3 rfl)
  have hf := os_r hf
  refine crx_r CX hml (As := [.int r2]) (rest := []) (c_X4_throwFor l D cy r2 _ hst e3) lk_RX4_54 rfl rfl hRMX4_throwFor hP hD hS hA hK hN hX rfl hl.1 rfl (Nat.le_of_ble_eq_true rfl) ⟨(Nat.le_of_ble_eq_true rfl), (Nat.le_of_ble_eq_true rfl)⟩ (dg ddX4_buskerOf 3 rfl) (fun H locs hP hS => ?_)
  refine lv_iload_n hx hb (dg ddX4_buskerOf 4 rfl) rfl (lv_at hl 2 rfl) ?_
  by_cases h5 : a2 = 0
  · have hf := it_t h5 hf
    refine lv_tableIn (off := 43) (tgt := 52) hx hb (dg ddX4_buskerOf 5 rfl) (by rw [h5]; decide) (by rw [h5]; decide) (by rw [h5]; rfl) (by decide) ?_
    refine lv_aload_n hx hb (dg ddX4_buskerOf 6 rfl) rfl (lv_at hl 0 rfl) ?_
    refine gf_RX4_10 CX hK hP 0 rfl rfl (dg ddX4_buskerOf 7 rfl) ?_
    refine gf_RX4_88 CX hK hP 1 rfl rfl (dg ddX4_buskerOf 8 rfl) ?_
    refine lv_iload_n hx hb (dg ddX4_buskerOf 9 rfl) rfl (lv_at hl 1 rfl) ?_
    obtain ⟨h6, hf⟩ := og_some hf
    refine va_iald hx hb hK hP 5 0 rfl rfl (inb_in h6) (dg ddX4_buskerOf 10 rfl) ?_
    cases hf
    refine W.widen (k := 2) (n := 12) (Nat.le_of_ble_eq_true rfl) (Nat.le_of_ble_eq_true rfl) ?_
    exact x_wi CX hr hlk rfl hP hD hS (dg ddX4_buskerOf 11 rfl)
  have hf := it_f h5 hf
  by_cases h7 : a2 = 1
  · have hf := it_t h7 hf
    refine lv_tableIn (off := 53) (tgt := 62) hx hb (dg ddX4_buskerOf 5 rfl) (by rw [h7]; decide) (by rw [h7]; decide) (by rw [h7]; rfl) (by decide) ?_
    refine lv_aload_n hx hb (dg ddX4_buskerOf 12 rfl) rfl (lv_at hl 0 rfl) ?_
    refine gf_RX4_10 CX hK hP 0 rfl rfl (dg ddX4_buskerOf 13 rfl) ?_
    refine gf_RX4_92 CX hK hP 1 rfl rfl (dg ddX4_buskerOf 14 rfl) ?_
    refine lv_iload_n hx hb (dg ddX4_buskerOf 15 rfl) rfl (lv_at hl 1 rfl) ?_
    obtain ⟨h8, hf⟩ := og_some hf
    refine va_iald hx hb hK hP 6 0 rfl rfl (inb_in h8) (dg ddX4_buskerOf 16 rfl) ?_
    cases hf
    refine W.widen (k := 2) (n := 12) (Nat.le_of_ble_eq_true rfl) (Nat.le_of_ble_eq_true rfl) ?_
    exact x_wi CX hr hlk rfl hP hD hS (dg ddX4_buskerOf 17 rfl)
  have hf := it_f h7 hf
  by_cases h9 : a2 = 2
  · have hf := it_t h9 hf
    refine lv_tableIn (off := 63) (tgt := 72) hx hb (dg ddX4_buskerOf 5 rfl) (by rw [h9]; decide) (by rw [h9]; decide) (by rw [h9]; rfl) (by decide) ?_
    refine lv_aload_n hx hb (dg ddX4_buskerOf 18 rfl) rfl (lv_at hl 0 rfl) ?_
    refine gf_RX4_10 CX hK hP 0 rfl rfl (dg ddX4_buskerOf 19 rfl) ?_
    refine gf_RX4_95 CX hK hP 1 rfl rfl (dg ddX4_buskerOf 20 rfl) ?_
    refine lv_iload_n hx hb (dg ddX4_buskerOf 21 rfl) rfl (lv_at hl 1 rfl) ?_
    obtain ⟨h10, hf⟩ := og_some hf
    refine va_iald hx hb hK hP 7 0 rfl rfl (inb_in h10) (dg ddX4_buskerOf 22 rfl) ?_
    cases hf
    refine W.widen (k := 2) (n := 12) (Nat.le_of_ble_eq_true rfl) (Nat.le_of_ble_eq_true rfl) ?_
    exact x_wi CX hr hlk rfl hP hD hS (dg ddX4_buskerOf 23 rfl)
  have hf := it_f h9 hf
  by_cases h11 : a2 = 3
  · have hf := it_t h11 hf
    refine lv_tableIn (off := 73) (tgt := 82) hx hb (dg ddX4_buskerOf 5 rfl) (by rw [h11]; decide) (by rw [h11]; decide) (by rw [h11]; rfl) (by decide) ?_
    refine lv_aload_n hx hb (dg ddX4_buskerOf 24 rfl) rfl (lv_at hl 0 rfl) ?_
    refine gf_RX4_10 CX hK hP 0 rfl rfl (dg ddX4_buskerOf 25 rfl) ?_
    refine gf_RX4_98 CX hK hP 1 rfl rfl (dg ddX4_buskerOf 26 rfl) ?_
    refine lv_iload_n hx hb (dg ddX4_buskerOf 27 rfl) rfl (lv_at hl 1 rfl) ?_
    obtain ⟨h12, hf⟩ := og_some hf
    refine va_iald hx hb hK hP 8 0 rfl rfl (inb_in h12) (dg ddX4_buskerOf 28 rfl) ?_
    cases hf
    refine W.widen (k := 2) (n := 12) (Nat.le_of_ble_eq_true rfl) (Nat.le_of_ble_eq_true rfl) ?_
    exact x_wi CX hr hlk rfl hP hD hS (dg ddX4_buskerOf 29 rfl)
  have hf := it_f h11 hf
  by_cases h13 : a2 = 4
  · have hf := it_t h13 hf
    refine lv_tableIn (off := 83) (tgt := 92) hx hb (dg ddX4_buskerOf 5 rfl) (by rw [h13]; decide) (by rw [h13]; decide) (by rw [h13]; rfl) (by decide) ?_
    refine lv_aload_n hx hb (dg ddX4_buskerOf 30 rfl) rfl (lv_at hl 0 rfl) ?_
    refine gf_RX4_10 CX hK hP 0 rfl rfl (dg ddX4_buskerOf 31 rfl) ?_
    refine gf_RX4_101 CX hK hP 1 rfl rfl (dg ddX4_buskerOf 32 rfl) ?_
    refine lv_iload_n hx hb (dg ddX4_buskerOf 33 rfl) rfl (lv_at hl 1 rfl) ?_
    obtain ⟨h14, hf⟩ := og_some hf
    refine va_iald hx hb hK hP 9 0 rfl rfl (inb_in h14) (dg ddX4_buskerOf 34 rfl) ?_
    cases hf
    refine W.widen (k := 2) (n := 12) (Nat.le_of_ble_eq_true rfl) (Nat.le_of_ble_eq_true rfl) ?_
    exact x_wi CX hr hlk rfl hP hD hS (dg ddX4_buskerOf 35 rfl)
  have hf := it_f h13 hf
  by_cases h15 : a2 = 5
  · have hf := it_t h15 hf
    refine lv_tableIn (off := 93) (tgt := 102) hx hb (dg ddX4_buskerOf 5 rfl) (by rw [h15]; decide) (by rw [h15]; decide) (by rw [h15]; rfl) (by decide) ?_
    refine lv_aload_n hx hb (dg ddX4_buskerOf 36 rfl) rfl (lv_at hl 0 rfl) ?_
    refine gf_RX4_10 CX hK hP 0 rfl rfl (dg ddX4_buskerOf 37 rfl) ?_
    refine gf_RX4_104 CX hK hP 1 rfl rfl (dg ddX4_buskerOf 38 rfl) ?_
    refine lv_iload_n hx hb (dg ddX4_buskerOf 39 rfl) rfl (lv_at hl 1 rfl) ?_
    obtain ⟨h16, hf⟩ := og_some hf
    refine va_iald hx hb hK hP 10 0 rfl rfl (inb_in h16) (dg ddX4_buskerOf 40 rfl) ?_
    cases hf
    refine W.widen (k := 2) (n := 12) (Nat.le_of_ble_eq_true rfl) (Nat.le_of_ble_eq_true rfl) ?_
    exact x_wi CX hr hlk rfl hP hD hS (dg ddX4_buskerOf 41 rfl)
  have hf := it_f h15 hf
  by_cases h17 : a2 = 6
  · have hf := it_t h17 hf
    refine lv_tableIn (off := 103) (tgt := 112) hx hb (dg ddX4_buskerOf 5 rfl) (by rw [h17]; decide) (by rw [h17]; decide) (by rw [h17]; rfl) (by decide) ?_
    refine lv_aload_n hx hb (dg ddX4_buskerOf 42 rfl) rfl (lv_at hl 0 rfl) ?_
    refine gf_RX4_10 CX hK hP 0 rfl rfl (dg ddX4_buskerOf 43 rfl) ?_
    refine gf_RX4_107 CX hK hP 1 rfl rfl (dg ddX4_buskerOf 44 rfl) ?_
    refine lv_iload_n hx hb (dg ddX4_buskerOf 45 rfl) rfl (lv_at hl 1 rfl) ?_
    obtain ⟨h18, hf⟩ := og_some hf
    refine va_iald hx hb hK hP 11 0 rfl rfl (inb_in h18) (dg ddX4_buskerOf 46 rfl) ?_
    cases hf
    refine W.widen (k := 2) (n := 12) (Nat.le_of_ble_eq_true rfl) (Nat.le_of_ble_eq_true rfl) ?_
    exact x_wi CX hr hlk rfl hP hD hS (dg ddX4_buskerOf 47 rfl)
  have hf := it_f h17 hf
  refine lv_tabD (off := 113) (tgt := 122) hx hb (dg ddX4_buskerOf 5 rfl) (by have g0 : (a2).toInt ≠ 0 := ne_ti h5 (by decide); have g1 : (a2).toInt ≠ 1 := ne_ti h7 (by decide); have g2 : (a2).toInt ≠ 2 := ne_ti h9 (by decide); have g3 : (a2).toInt ≠ 3 := ne_ti h11 (by decide); have g4 : (a2).toInt ≠ 4 := ne_ti h13 (by decide); have g5 : (a2).toInt ≠ 5 := ne_ti h15 (by decide); have g6 : (a2).toInt ≠ 6 := ne_ti h17 (by decide); exact Or.inl ⟨by omega, rfl⟩) (by decide) ?_
  cases hf
  exact xt_2_S (is := 112) (tx := "no such number of a busker") (by decide +kernel) CX (hml.trans hl.1.symm) hst hX hout hlk rfl hP hD hS (Nat.le_of_ble_eq_true rfl) (Nat.le_of_ble_eq_true rfl) (Nat.le_of_ble_eq_true rfl) (Nat.le_of_ble_eq_true rfl) (Nat.le_of_ble_eq_true rfl) (Nat.le_of_ble_eq_true rfl) (dg ddX4_buskerOf 48 rfl) (dg ddX4_buskerOf 49 rfl) (dg ddX4_buskerOf 50 rfl) (dg ddX4_buskerOf 51 rfl) (dg ddX4_buskerOf 52 rfl)
def f_X4_hat (x_now : SV) (a1 : Int32) : Option ((Nat) ⊕ (UInt32)) := ob (f_X4_hindranceOfBuskerNumber x_now a1) fun r2 => (ob (f_X4_throwFor r2) fun r4 => (os r4 (fun t => some (.inl t)) fun _ => (og (inb a1 8) (some (.inr ((g_hat x_now) a1.toNatClampNeg))))))
set_option maxHeartbeats 4000000 in
set_option maxRecDepth 100000 in
theorem c_X4_hat (l : Launch) (D : va_G) (cy : Nat → ClassId) (q : Nat → Nat → Nat) (x_isv : Int32) (x_te : Int32) (x_re : Int32) (x_de : Int32) (x_now : SV) (x_spa : SV) (x_sna : SV) (x_len : Int32) (x_sig : Nat → Int32) (x_nxt : Int32) (x_cnt : Int32) (x_rng : Nat → SV) (a1 : Int32) (sz : Nat) (hst : l.stackTraces = false) {res : (Nat) ⊕ (UInt32)} (hf : f_X4_hat x_now a1 = some res) : vx_Met l yX4_hat (.code yX4_hat cX4_hat 2 (some .float) :: lw_all) { frames := 7, cells := 1, slots := 6, locals := 102 } (va_Pc [.ref (q 0 0), .int a1] (sX D cy (wX4 q cy x_isv x_te x_re x_de x_now x_spa x_sna x_len x_sig x_nxt x_cnt x_rng) sz)) (xF (α := Nat) D (fun x : UInt32 => (wX4 q cy x_isv x_te x_re x_de x_now x_spa x_sna x_len x_sig x_nxt x_cnt x_rng)) (fun x : UInt32 => x) res (va_A (wX4 q cy x_isv x_te x_re x_de x_now x_spa x_sna x_len x_sig x_nxt x_cnt x_rng) sz)) (xX (β := UInt32) D (fun x : Nat => (wX4 q cy x_isv x_te x_re x_de x_now x_spa x_sna x_len x_sig x_nxt x_cnt x_rng)) (fun x : Nat => x) res (va_A (wX4 q cy x_isv x_te x_re x_de x_now x_spa x_sna x_len x_sig x_nxt x_cnt x_rng) sz)) 1 6 (va_A (wX4 q cy x_isv x_te x_re x_de x_now x_spa x_sna x_len x_sig x_nxt x_cnt x_rng) sz) := by
  refine mk_x (Qc := fun A => (xF (α := Nat) D (fun x : UInt32 => (wX4 q cy x_isv x_te x_re x_de x_now x_spa x_sna x_len x_sig x_nxt x_cnt x_rng)) (fun x : UInt32 => x) res A)) (XC := fun A => (xX (β := UInt32) D (fun x : Nat => (wX4 q cy x_isv x_te x_re x_de x_now x_spa x_sna x_len x_sig x_nxt x_cnt x_rng)) (fun x : Nat => x) res A)) (Rc := RX4) (by decide +kernel) rfl (Nat.le_of_ble_eq_true rfl) ?_
  intro p e s m args below meth c ls A CX hml hr hlk hK hN hP hD hS hA hl hout hX
  have hx := CX.1
  have hb := CX.2.1
  have hRMX4_hindranceOfBuskerNumber : (⟨2, 0, 0, 33⟩ : Room).frames + 1 ≤ (⟨7, 1, 6, 102⟩ : Room).frames ∧ 8 + (2 + 11) + (⟨2, 0, 0, 33⟩ : Room).locals ≤ (⟨7, 1, 6, 102⟩ : Room).locals := ⟨Nat.le_of_ble_eq_true rfl, Nat.le_of_ble_eq_true rfl⟩
  have hRMX4_throwFor : (⟨6, 1, 6, 82⟩ : Room).frames + 1 ≤ (⟨7, 1, 6, 102⟩ : Room).frames ∧ 8 + (1 + 11) + (⟨6, 1, 6, 82⟩ : Room).locals ≤ (⟨7, 1, 6, 102⟩ : Room).locals := ⟨Nat.le_of_ble_eq_true rfl, Nat.le_of_ble_eq_true rfl⟩
  refine lv_aload_n hx hb (dg ddX4_hat 0 rfl) rfl (lv_at hl 0 rfl) ?_
  refine lv_iload_n hx hb (dg ddX4_hat 1 rfl) rfl (lv_at hl 1 rfl) ?_
  obtain ⟨r2, e1, hf⟩ := ob_some hf
  refine cro_vi CX hml (As := [.int a1]) (rest := []) (c_X4_hindranceOfBuskerNumber l D cy q x_isv x_te x_re x_de x_now x_spa x_sna x_len x_sig x_nxt x_cnt x_rng a1 e1) lk_RX4_85 rfl rfl hRMX4_hindranceOfBuskerNumber hP hK hN 0 rfl rfl rfl hl.1 rfl (Nat.le_of_ble_eq_true rfl) ⟨Nat.le_of_ble_eq_true rfl, Nat.le_of_ble_eq_true rfl⟩ (dg ddX4_hat 2 rfl) ?_
  obtain ⟨r4, e3, hf⟩ := ob_some hf
  rcases r4 with t9 | t9
  · cases os_l hf
    exact crx_t CX hml (As := [.int r2]) (rest := []) (c_X4_throwFor l D cy r2 _ hst e3) lk_RX4_54 rfl rfl hRMX4_throwFor hP hD hS hA hK hN hX hout hlk rfl rfl rfl hl.1 rfl (Nat.le_of_ble_eq_true rfl) ⟨(Nat.le_of_ble_eq_true rfl), (Nat.le_of_ble_eq_true rfl)⟩ (Nat.le_of_ble_eq_true rfl) (Nat.le_of_ble_eq_true rfl) (dg ddX4_hat 3 rfl)
  have hf := os_r hf
  refine crx_r CX hml (As := [.int r2]) (rest := []) (c_X4_throwFor l D cy r2 _ hst e3) lk_RX4_54 rfl rfl hRMX4_throwFor hP hD hS hA hK hN hX rfl hl.1 rfl (Nat.le_of_ble_eq_true rfl) ⟨(Nat.le_of_ble_eq_true rfl), (Nat.le_of_ble_eq_true rfl)⟩ (dg ddX4_hat 3 rfl) (fun H locs hP hS => ?_)
  refine lv_aload_n hx hb (dg ddX4_hat 4 rfl) rfl (lv_at hl 0 rfl) ?_
  refine gf_RX4_10 CX hK hP 0 rfl rfl (dg ddX4_hat 5 rfl) ?_
  refine gf_RX4_117 CX hK hP 1 rfl rfl (dg ddX4_hat 6 rfl) ?_
  refine lv_iload_n hx hb (dg ddX4_hat 7 rfl) rfl (lv_at hl 1 rfl) ?_
  obtain ⟨h5, hf⟩ := og_some hf
  refine va_fald hx hb hK hP 12 1 rfl rfl (inb_in h5) (dg ddX4_hat 8 rfl) ?_
  cases hf
  exact x_wf CX hr hlk rfl hP hD hS (dg ddX4_hat 9 rfl)
def f_X4_wear (x_now : SV) (a1 : Int32) : Option ((Nat) ⊕ (Int32)) := ob (f_X4_hindranceOfBuskerNumber x_now a1) fun r2 => (ob (f_X4_throwFor r2) fun r4 => (os r4 (fun t => some (.inl t)) fun _ => (og (inb a1 8) (ob (f_X0_ofFloat ((g_wea x_now) a1.toNatClampNeg)) fun r7 => (some (.inr r7))))))
set_option maxHeartbeats 4000000 in
set_option maxRecDepth 100000 in
theorem c_X4_wear (l : Launch) (D : va_G) (cy : Nat → ClassId) (q : Nat → Nat → Nat) (x_isv : Int32) (x_te : Int32) (x_re : Int32) (x_de : Int32) (x_now : SV) (x_spa : SV) (x_sna : SV) (x_len : Int32) (x_sig : Nat → Int32) (x_nxt : Int32) (x_cnt : Int32) (x_rng : Nat → SV) (a1 : Int32) (sz : Nat) (hst : l.stackTraces = false) {res : (Nat) ⊕ (Int32)} (hf : f_X4_wear x_now a1 = some res) : vx_Met l yX4_wear (.code yX4_wear cX4_wear 2 (some .int) :: lw_all) { frames := 7, cells := 1, slots := 6, locals := 102 } (va_Pc [.ref (q 0 0), .int a1] (sX D cy (wX4 q cy x_isv x_te x_re x_de x_now x_spa x_sna x_len x_sig x_nxt x_cnt x_rng) sz)) (xI (α := Nat) D (fun x : Int32 => (wX4 q cy x_isv x_te x_re x_de x_now x_spa x_sna x_len x_sig x_nxt x_cnt x_rng)) (fun x : Int32 => x) res (va_A (wX4 q cy x_isv x_te x_re x_de x_now x_spa x_sna x_len x_sig x_nxt x_cnt x_rng) sz)) (xX (β := Int32) D (fun x : Nat => (wX4 q cy x_isv x_te x_re x_de x_now x_spa x_sna x_len x_sig x_nxt x_cnt x_rng)) (fun x : Nat => x) res (va_A (wX4 q cy x_isv x_te x_re x_de x_now x_spa x_sna x_len x_sig x_nxt x_cnt x_rng) sz)) 1 6 (va_A (wX4 q cy x_isv x_te x_re x_de x_now x_spa x_sna x_len x_sig x_nxt x_cnt x_rng) sz) := by
  refine mk_x (Qc := fun A => (xI (α := Nat) D (fun x : Int32 => (wX4 q cy x_isv x_te x_re x_de x_now x_spa x_sna x_len x_sig x_nxt x_cnt x_rng)) (fun x : Int32 => x) res A)) (XC := fun A => (xX (β := Int32) D (fun x : Nat => (wX4 q cy x_isv x_te x_re x_de x_now x_spa x_sna x_len x_sig x_nxt x_cnt x_rng)) (fun x : Nat => x) res A)) (Rc := RX4) (by decide +kernel) rfl (Nat.le_of_ble_eq_true rfl) ?_
  intro p e s m args below meth c ls A CX hml hr hlk hK hN hP hD hS hA hl hout hX
  have hx := CX.1
  have hb := CX.2.1
  have hRMX0_ofFloat : (⟨1, 0, 0, 12⟩ : Room).frames + 1 ≤ (⟨7, 1, 6, 102⟩ : Room).frames ∧ 8 + (3 + 11) + (⟨1, 0, 0, 12⟩ : Room).locals ≤ (⟨7, 1, 6, 102⟩ : Room).locals := ⟨Nat.le_of_ble_eq_true rfl, Nat.le_of_ble_eq_true rfl⟩
  have hRMX4_hindranceOfBuskerNumber : (⟨2, 0, 0, 33⟩ : Room).frames + 1 ≤ (⟨7, 1, 6, 102⟩ : Room).frames ∧ 8 + (2 + 11) + (⟨2, 0, 0, 33⟩ : Room).locals ≤ (⟨7, 1, 6, 102⟩ : Room).locals := ⟨Nat.le_of_ble_eq_true rfl, Nat.le_of_ble_eq_true rfl⟩
  have hRMX4_throwFor : (⟨6, 1, 6, 82⟩ : Room).frames + 1 ≤ (⟨7, 1, 6, 102⟩ : Room).frames ∧ 8 + (1 + 11) + (⟨6, 1, 6, 82⟩ : Room).locals ≤ (⟨7, 1, 6, 102⟩ : Room).locals := ⟨Nat.le_of_ble_eq_true rfl, Nat.le_of_ble_eq_true rfl⟩
  refine lv_aload_n hx hb (dg ddX4_wear 0 rfl) rfl (lv_at hl 0 rfl) ?_
  refine lv_iload_n hx hb (dg ddX4_wear 1 rfl) rfl (lv_at hl 1 rfl) ?_
  obtain ⟨r2, e1, hf⟩ := ob_some hf
  refine cro_vi CX hml (As := [.int a1]) (rest := []) (c_X4_hindranceOfBuskerNumber l D cy q x_isv x_te x_re x_de x_now x_spa x_sna x_len x_sig x_nxt x_cnt x_rng a1 e1) lk_RX4_85 rfl rfl hRMX4_hindranceOfBuskerNumber hP hK hN 0 rfl rfl rfl hl.1 rfl (Nat.le_of_ble_eq_true rfl) ⟨Nat.le_of_ble_eq_true rfl, Nat.le_of_ble_eq_true rfl⟩ (dg ddX4_wear 2 rfl) ?_
  obtain ⟨r4, e3, hf⟩ := ob_some hf
  rcases r4 with t9 | t9
  · cases os_l hf
    exact crx_t CX hml (As := [.int r2]) (rest := []) (c_X4_throwFor l D cy r2 _ hst e3) lk_RX4_54 rfl rfl hRMX4_throwFor hP hD hS hA hK hN hX hout hlk rfl rfl rfl hl.1 rfl (Nat.le_of_ble_eq_true rfl) ⟨(Nat.le_of_ble_eq_true rfl), (Nat.le_of_ble_eq_true rfl)⟩ (Nat.le_of_ble_eq_true rfl) (Nat.le_of_ble_eq_true rfl) (dg ddX4_wear 3 rfl)
  have hf := os_r hf
  refine crx_r CX hml (As := [.int r2]) (rest := []) (c_X4_throwFor l D cy r2 _ hst e3) lk_RX4_54 rfl rfl hRMX4_throwFor hP hD hS hA hK hN hX rfl hl.1 rfl (Nat.le_of_ble_eq_true rfl) ⟨(Nat.le_of_ble_eq_true rfl), (Nat.le_of_ble_eq_true rfl)⟩ (dg ddX4_wear 3 rfl) (fun H locs hP hS => ?_)
  refine lv_aload_n hx hb (dg ddX4_wear 4 rfl) rfl (lv_at hl 0 rfl) ?_
  refine gf_RX4_10 CX hK hP 0 rfl rfl (dg ddX4_wear 5 rfl) ?_
  refine gf_RX4_120 CX hK hP 1 rfl rfl (dg ddX4_wear 6 rfl) ?_
  refine lv_iload_n hx hb (dg ddX4_wear 7 rfl) rfl (lv_at hl 1 rfl) ?_
  obtain ⟨h5, hf⟩ := og_some hf
  refine va_fald hx hb hK hP 13 1 rfl rfl (inb_in h5) (dg ddX4_wear 8 rfl) ?_
  obtain ⟨r7, e6, hf⟩ := ob_some hf
  refine cro_si CX hml (As := [.float ((g_wea x_now) a1.toNatClampNeg)]) (rest := []) (c_X0_ofFloat l D cy ((g_wea x_now) a1.toNatClampNeg) e6) lk_RX4_73 rfl rfl hRMX0_ofFloat vaP_nil hK hN rfl hl.1 rfl (Nat.le_of_ble_eq_true rfl) ⟨Nat.le_of_ble_eq_true rfl, Nat.le_of_ble_eq_true rfl⟩ (dg ddX4_wear 9 rfl) ?_
  cases hf
  exact x_wi CX hr hlk rfl hP hD hS (dg ddX4_wear 10 rfl)
def f_X4_pitchOf (x_now : SV) (a1 : Int32) (a2 : Int32) : Option ((Nat) ⊕ (Int32)) := ob (f_X4_hindranceOfPitchNumber a1) fun r2 => (ob (f_X4_throwFor r2) fun r4 => (os r4 (fun t => some (.inl t)) fun _ => (if a2 = 0 then (ob (f_X3_playerOn (g_pit x_now) a1) fun r7 => (some (.inr r7))) else (if a2 = 1 then (og (inb a1 8) (some (.inr ((g_cmp x_now) a1.toNatClampNeg)))) else (if a2 = 2 then (og (inb a1 8) (some (.inr ((g_sof x_now) a1.toNatClampNeg)))) else (some (.inl 2)))))))
set_option maxHeartbeats 4000000 in
set_option maxRecDepth 100000 in
theorem c_X4_pitchOf (l : Launch) (D : va_G) (cy : Nat → ClassId) (q : Nat → Nat → Nat) (x_isv : Int32) (x_te : Int32) (x_re : Int32) (x_de : Int32) (x_now : SV) (x_spa : SV) (x_sna : SV) (x_len : Int32) (x_sig : Nat → Int32) (x_nxt : Int32) (x_cnt : Int32) (x_rng : Nat → SV) (a1 : Int32) (a2 : Int32) (sz : Nat) (hst : l.stackTraces = false) {res : (Nat) ⊕ (Int32)} (hf : f_X4_pitchOf x_now a1 a2 = some res) : vx_Met l yX4_pitchOf (.code yX4_pitchOf cX4_pitchOf 3 (some .int) :: lw_all) { frames := 7, cells := 2, slots := 12, locals := 102 } (va_Pc [.ref (q 0 0), .int a1, .int a2] (sX D cy (wX4 q cy x_isv x_te x_re x_de x_now x_spa x_sna x_len x_sig x_nxt x_cnt x_rng) sz)) (xI (α := Nat) D (fun x : Int32 => (wX4 q cy x_isv x_te x_re x_de x_now x_spa x_sna x_len x_sig x_nxt x_cnt x_rng)) (fun x : Int32 => x) res (va_A (wX4 q cy x_isv x_te x_re x_de x_now x_spa x_sna x_len x_sig x_nxt x_cnt x_rng) sz)) (xX (β := Int32) D (fun x : Nat => (wX4 q cy x_isv x_te x_re x_de x_now x_spa x_sna x_len x_sig x_nxt x_cnt x_rng)) (fun x : Nat => x) res (va_A (wX4 q cy x_isv x_te x_re x_de x_now x_spa x_sna x_len x_sig x_nxt x_cnt x_rng) sz)) 2 12 (va_A (wX4 q cy x_isv x_te x_re x_de x_now x_spa x_sna x_len x_sig x_nxt x_cnt x_rng) sz) := by
  refine mk_x (Qc := fun A => (xI (α := Nat) D (fun x : Int32 => (wX4 q cy x_isv x_te x_re x_de x_now x_spa x_sna x_len x_sig x_nxt x_cnt x_rng)) (fun x : Int32 => x) res A)) (XC := fun A => (xX (β := Int32) D (fun x : Nat => (wX4 q cy x_isv x_te x_re x_de x_now x_spa x_sna x_len x_sig x_nxt x_cnt x_rng)) (fun x : Nat => x) res A)) (Rc := RX4) (by decide +kernel) rfl (Nat.le_of_ble_eq_true rfl) ?_
  intro p e s m args below meth c ls A CX hml hr hlk hK hN hP hD hS hA hl hout hX
  have hx := CX.1
  have hb := CX.2.1
  have hRMX3_playerOn : (⟨2, 0, 0, 32⟩ : Room).frames + 1 ≤ (⟨7, 2, 12, 102⟩ : Room).frames ∧ 8 + (3 + 11) + (⟨2, 0, 0, 32⟩ : Room).locals ≤ (⟨7, 2, 12, 102⟩ : Room).locals := ⟨Nat.le_of_ble_eq_true rfl, Nat.le_of_ble_eq_true rfl⟩
  have hRMX4_hindranceOfPitchNumber : (⟨2, 0, 0, 32⟩ : Room).frames + 1 ≤ (⟨7, 2, 12, 102⟩ : Room).frames ∧ 8 + (1 + 11) + (⟨2, 0, 0, 32⟩ : Room).locals ≤ (⟨7, 2, 12, 102⟩ : Room).locals := ⟨Nat.le_of_ble_eq_true rfl, Nat.le_of_ble_eq_true rfl⟩
  have hRMX4_throwFor : (⟨6, 1, 6, 82⟩ : Room).frames + 1 ≤ (⟨7, 2, 12, 102⟩ : Room).frames ∧ 8 + (1 + 11) + (⟨6, 1, 6, 82⟩ : Room).locals ≤ (⟨7, 2, 12, 102⟩ : Room).locals := ⟨Nat.le_of_ble_eq_true rfl, Nat.le_of_ble_eq_true rfl⟩
  refine lv_iload_n hx hb (dg ddX4_pitchOf 0 rfl) rfl (lv_at hl 1 rfl) ?_
  obtain ⟨r2, e1, hf⟩ := ob_some hf
  refine cro_si CX hml (As := [.int a1]) (rest := []) (c_X4_hindranceOfPitchNumber l D cy a1 e1) lk_RX4_123 rfl rfl hRMX4_hindranceOfPitchNumber vaP_nil hK hN rfl hl.1 rfl (Nat.le_of_ble_eq_true rfl) ⟨Nat.le_of_ble_eq_true rfl, Nat.le_of_ble_eq_true rfl⟩ (dg ddX4_pitchOf 1 rfl) ?_
  obtain ⟨r4, e3, hf⟩ := ob_some hf
  rcases r4 with t9 | t9
  · cases os_l hf
    exact crx_t CX hml (As := [.int r2]) (rest := []) (c_X4_throwFor l D cy r2 _ hst e3) lk_RX4_54 rfl rfl hRMX4_throwFor hP hD hS hA hK hN hX hout hlk rfl rfl rfl hl.1 rfl (Nat.le_of_ble_eq_true rfl) ⟨(Nat.le_of_ble_eq_true rfl), (Nat.le_of_ble_eq_true rfl)⟩ (Nat.le_of_ble_eq_true rfl) (Nat.le_of_ble_eq_true rfl) (dg ddX4_pitchOf 2 rfl)
  have hf := os_r hf
  refine crx_r CX hml (As := [.int r2]) (rest := []) (c_X4_throwFor l D cy r2 _ hst e3) lk_RX4_54 rfl rfl hRMX4_throwFor hP hD hS hA hK hN hX rfl hl.1 rfl (Nat.le_of_ble_eq_true rfl) ⟨(Nat.le_of_ble_eq_true rfl), (Nat.le_of_ble_eq_true rfl)⟩ (dg ddX4_pitchOf 2 rfl) (fun H locs hP hS => ?_)
  refine lv_iload_n hx hb (dg ddX4_pitchOf 3 rfl) rfl (lv_at hl 2 rfl) ?_
  by_cases h5 : a2 = 0
  · have hf := it_t h5 hf
    refine lv_tableIn (off := 28) (tgt := 36) hx hb (dg ddX4_pitchOf 4 rfl) (by rw [h5]; decide) (by rw [h5]; decide) (by rw [h5]; rfl) (by decide) ?_
    refine lv_aload_n hx hb (dg ddX4_pitchOf 5 rfl) rfl (lv_at hl 0 rfl) ?_
    refine gf_RX4_10 CX hK hP 0 rfl rfl (dg ddX4_pitchOf 6 rfl) ?_
    refine lv_iload_n hx hb (dg ddX4_pitchOf 7 rfl) rfl (lv_at hl 1 rfl) ?_
    obtain ⟨r7, e6, hf⟩ := ob_some hf
    refine cro_vi CX hml (As := [.int a1]) (rest := []) (c_X3_playerOn l D cy (q 1) (g_hour x_now) (g_crowd x_now) (g_buskers x_now) (g_answered x_now) (g_draws x_now) (g_lim x_now) (g_cmp x_now) (g_sof x_now) (g_kin x_now) (g_lou x_now) (g_pit x_now) (g_pla x_now) (g_cas x_now) (g_hrs x_now) (g_nws x_now) (g_hat x_now) (g_wea x_now) (g_row x_now) a1 e6) lk_RX4_126 rfl rfl hRMX3_playerOn (vaP_l (vaP_perm (pm_n _ _ _ _ _ _) hP)) hK hN 0 rfl rfl rfl hl.1 rfl (Nat.le_of_ble_eq_true rfl) ⟨Nat.le_of_ble_eq_true rfl, Nat.le_of_ble_eq_true rfl⟩ (dg ddX4_pitchOf 8 rfl) ?_
    cases hf
    refine W.widen (k := 2) (n := 12) (Nat.le_of_ble_eq_true rfl) (Nat.le_of_ble_eq_true rfl) ?_
    exact x_wi CX hr hlk rfl hP hD hS (dg ddX4_pitchOf 9 rfl)
  have hf := it_f h5 hf
  by_cases h8 : a2 = 1
  · have hf := it_t h8 hf
    refine lv_tableIn (off := 37) (tgt := 45) hx hb (dg ddX4_pitchOf 4 rfl) (by rw [h8]; decide) (by rw [h8]; decide) (by rw [h8]; rfl) (by decide) ?_
    refine lv_aload_n hx hb (dg ddX4_pitchOf 10 rfl) rfl (lv_at hl 0 rfl) ?_
    refine gf_RX4_10 CX hK hP 0 rfl rfl (dg ddX4_pitchOf 11 rfl) ?_
    refine gf_RX4_129 CX hK hP 1 rfl rfl (dg ddX4_pitchOf 12 rfl) ?_
    refine lv_iload_n hx hb (dg ddX4_pitchOf 13 rfl) rfl (lv_at hl 1 rfl) ?_
    obtain ⟨h9, hf⟩ := og_some hf
    refine va_iald hx hb hK hP 3 0 rfl rfl (inb_in h9) (dg ddX4_pitchOf 14 rfl) ?_
    cases hf
    refine W.widen (k := 2) (n := 12) (Nat.le_of_ble_eq_true rfl) (Nat.le_of_ble_eq_true rfl) ?_
    exact x_wi CX hr hlk rfl hP hD hS (dg ddX4_pitchOf 15 rfl)
  have hf := it_f h8 hf
  by_cases h10 : a2 = 2
  · have hf := it_t h10 hf
    refine lv_tableIn (off := 47) (tgt := 55) hx hb (dg ddX4_pitchOf 4 rfl) (by rw [h10]; decide) (by rw [h10]; decide) (by rw [h10]; rfl) (by decide) ?_
    refine lv_aload_n hx hb (dg ddX4_pitchOf 16 rfl) rfl (lv_at hl 0 rfl) ?_
    refine gf_RX4_10 CX hK hP 0 rfl rfl (dg ddX4_pitchOf 17 rfl) ?_
    refine gf_RX4_132 CX hK hP 1 rfl rfl (dg ddX4_pitchOf 18 rfl) ?_
    refine lv_iload_n hx hb (dg ddX4_pitchOf 19 rfl) rfl (lv_at hl 1 rfl) ?_
    obtain ⟨h11, hf⟩ := og_some hf
    refine va_iald hx hb hK hP 4 0 rfl rfl (inb_in h11) (dg ddX4_pitchOf 20 rfl) ?_
    cases hf
    refine W.widen (k := 2) (n := 12) (Nat.le_of_ble_eq_true rfl) (Nat.le_of_ble_eq_true rfl) ?_
    exact x_wi CX hr hlk rfl hP hD hS (dg ddX4_pitchOf 21 rfl)
  have hf := it_f h10 hf
  refine lv_tabD (off := 57) (tgt := 65) hx hb (dg ddX4_pitchOf 4 rfl) (by have g0 : (a2).toInt ≠ 0 := ne_ti h5 (by decide); have g1 : (a2).toInt ≠ 1 := ne_ti h8 (by decide); have g2 : (a2).toInt ≠ 2 := ne_ti h10 (by decide); exact Or.inl ⟨by omega, rfl⟩) (by decide) ?_
  cases hf
  exact xt_2_S (is := 135) (tx := "no such number of a pitch") (by decide +kernel) CX (hml.trans hl.1.symm) hst hX hout hlk rfl hP hD hS (Nat.le_of_ble_eq_true rfl) (Nat.le_of_ble_eq_true rfl) (Nat.le_of_ble_eq_true rfl) (Nat.le_of_ble_eq_true rfl) (Nat.le_of_ble_eq_true rfl) (Nat.le_of_ble_eq_true rfl) (dg ddX4_pitchOf 22 rfl) (dg ddX4_pitchOf 23 rfl) (dg ddX4_pitchOf 24 rfl) (dg ddX4_pitchOf 25 rfl) (dg ddX4_pitchOf 26 rfl)
def f_X4_join (x_re : Int32) (x_de : Int32) (x_now : SV) (x_nxt : Int32) (x_cnt : Int32) (x_rng : Nat → SV) (a1 : Int32) : Option ((Nat × Int32 × Int32 × SV × Int32 × Int32 × (Nat → SV)) ⊕ (Int32 × Int32 × Int32 × SV × Int32 × Int32 × (Nat → SV))) := ob (f_X4_hindranceOfJoin x_re x_de x_now a1) fun r2 => (ob (f_X4_throwFor r2.1) fun r4 => (os r4 (fun t => some (.inl (t, r2.2.1, r2.2.2, x_now, x_nxt, x_cnt, x_rng))) fun _ => (ob (f_X1_keep x_nxt x_cnt x_rng x_now) fun r6 => (ob (f_X3_putInLine (g_pla x_now) a1) fun r8 => (some (.inr (r8.1, r2.2.1, r2.2.2, (s_pla x_now r8.2), r6.1, r6.2.1, r6.2.2)))))))
set_option maxHeartbeats 4000000 in
set_option maxRecDepth 100000 in
theorem c_X4_join (l : Launch) (D : va_G) (cy : Nat → ClassId) (q : Nat → Nat → Nat) (x_isv : Int32) (x_te : Int32) (x_re : Int32) (x_de : Int32) (x_now : SV) (x_spa : SV) (x_sna : SV) (x_len : Int32) (x_sig : Nat → Int32) (x_nxt : Int32) (x_cnt : Int32) (x_rng : Nat → SV) (a1 : Int32) (sz : Nat) (hst : l.stackTraces = false) {res : (Nat × Int32 × Int32 × SV × Int32 × Int32 × (Nat → SV)) ⊕ (Int32 × Int32 × Int32 × SV × Int32 × Int32 × (Nat → SV))} (hf : f_X4_join x_re x_de x_now x_nxt x_cnt x_rng a1 = some res) : vx_Met l yX4_join (.code yX4_join cX4_join 2 (some .int) :: lw_all) { frames := 7, cells := 1, slots := 6, locals := 102 } (va_Pc [.ref (q 0 0), .int a1] (sX D cy (wX4 q cy x_isv x_te x_re x_de x_now x_spa x_sna x_len x_sig x_nxt x_cnt x_rng) sz)) (xI (α := Nat × Int32 × Int32 × SV × Int32 × Int32 × (Nat → SV)) D (fun x : Int32 × Int32 × Int32 × SV × Int32 × Int32 × (Nat → SV) => (wX4 q cy x_isv x_te x.2.1 x.2.2.1 x.2.2.2.1 x_spa x_sna x_len x_sig x.2.2.2.2.1 x.2.2.2.2.2.1 x.2.2.2.2.2.2)) (fun x : Int32 × Int32 × Int32 × SV × Int32 × Int32 × (Nat → SV) => x.1) res (va_A (wX4 q cy x_isv x_te x_re x_de x_now x_spa x_sna x_len x_sig x_nxt x_cnt x_rng) sz)) (xX (β := Int32 × Int32 × Int32 × SV × Int32 × Int32 × (Nat → SV)) D (fun x : Nat × Int32 × Int32 × SV × Int32 × Int32 × (Nat → SV) => (wX4 q cy x_isv x_te x.2.1 x.2.2.1 x.2.2.2.1 x_spa x_sna x_len x_sig x.2.2.2.2.1 x.2.2.2.2.2.1 x.2.2.2.2.2.2)) (fun x : Nat × Int32 × Int32 × SV × Int32 × Int32 × (Nat → SV) => x.1) res (va_A (wX4 q cy x_isv x_te x_re x_de x_now x_spa x_sna x_len x_sig x_nxt x_cnt x_rng) sz)) 1 6 (va_A (wX4 q cy x_isv x_te x_re x_de x_now x_spa x_sna x_len x_sig x_nxt x_cnt x_rng) sz) := by
  refine mk_x (Qc := fun A => (xI (α := Nat × Int32 × Int32 × SV × Int32 × Int32 × (Nat → SV)) D (fun x : Int32 × Int32 × Int32 × SV × Int32 × Int32 × (Nat → SV) => (wX4 q cy x_isv x_te x.2.1 x.2.2.1 x.2.2.2.1 x_spa x_sna x_len x_sig x.2.2.2.2.1 x.2.2.2.2.2.1 x.2.2.2.2.2.2)) (fun x : Int32 × Int32 × Int32 × SV × Int32 × Int32 × (Nat → SV) => x.1) res A)) (XC := fun A => (xX (β := Int32 × Int32 × Int32 × SV × Int32 × Int32 × (Nat → SV)) D (fun x : Nat × Int32 × Int32 × SV × Int32 × Int32 × (Nat → SV) => (wX4 q cy x_isv x_te x.2.1 x.2.2.1 x.2.2.2.1 x_spa x_sna x_len x_sig x.2.2.2.2.1 x.2.2.2.2.2.1 x.2.2.2.2.2.2)) (fun x : Nat × Int32 × Int32 × SV × Int32 × Int32 × (Nat → SV) => x.1) res A)) (Rc := RX4) (by decide +kernel) rfl (Nat.le_of_ble_eq_true rfl) ?_
  intro p e s m args below meth c ls A CX hml hr hlk hK hN hP hD hS hA hl hout hX
  have hx := CX.1
  have hb := CX.2.1
  have hRMX1_keep : (⟨2, 0, 0, 61⟩ : Room).frames + 1 ≤ (⟨7, 1, 6, 102⟩ : Room).frames ∧ 8 + (3 + 11) + (⟨2, 0, 0, 61⟩ : Room).locals ≤ (⟨7, 1, 6, 102⟩ : Room).locals := ⟨Nat.le_of_ble_eq_true rfl, Nat.le_of_ble_eq_true rfl⟩
  have hRMX3_putInLine : (⟨2, 0, 0, 37⟩ : Room).frames + 1 ≤ (⟨7, 1, 6, 102⟩ : Room).frames ∧ 8 + (2 + 11) + (⟨2, 0, 0, 37⟩ : Room).locals ≤ (⟨7, 1, 6, 102⟩ : Room).locals := ⟨Nat.le_of_ble_eq_true rfl, Nat.le_of_ble_eq_true rfl⟩
  have hRMX4_hindranceOfJoin : (⟨2, 0, 0, 34⟩ : Room).frames + 1 ≤ (⟨7, 1, 6, 102⟩ : Room).frames ∧ 8 + (2 + 11) + (⟨2, 0, 0, 34⟩ : Room).locals ≤ (⟨7, 1, 6, 102⟩ : Room).locals := ⟨Nat.le_of_ble_eq_true rfl, Nat.le_of_ble_eq_true rfl⟩
  have hRMX4_throwFor : (⟨6, 1, 6, 82⟩ : Room).frames + 1 ≤ (⟨7, 1, 6, 102⟩ : Room).frames ∧ 8 + (1 + 11) + (⟨6, 1, 6, 82⟩ : Room).locals ≤ (⟨7, 1, 6, 102⟩ : Room).locals := ⟨Nat.le_of_ble_eq_true rfl, Nat.le_of_ble_eq_true rfl⟩
  refine lv_aload_n hx hb (dg ddX4_join 0 rfl) rfl (lv_at hl 0 rfl) ?_
  refine lv_iload_n hx hb (dg ddX4_join 1 rfl) rfl (lv_at hl 1 rfl) ?_
  obtain ⟨r2, e1, hf⟩ := ob_some hf
  refine crw_vi CX hml (As := [.int a1]) (rest := []) (c_X4_hindranceOfJoin l D cy q x_isv x_te x_re x_de x_now x_spa x_sna x_len x_sig x_nxt x_cnt x_rng a1 _ e1) lk_RX4_137 rfl rfl hRMX4_hindranceOfJoin hP hD hS hA hK hN 0 rfl rfl rfl hl.1 rfl (Nat.le_of_ble_eq_true rfl) ⟨Nat.le_of_ble_eq_true rfl, Nat.le_of_ble_eq_true rfl⟩ (dg ddX4_join 2 rfl) (fun H locs hP hD hS => ?_)
  obtain ⟨r4, e3, hf⟩ := ob_some hf
  rcases r4 with t9 | t9
  · cases os_l hf
    exact crx_t CX hml (As := [.int r2.1]) (rest := []) (c_X4_throwFor l D cy r2.1 _ hst e3) lk_RX4_54 rfl rfl hRMX4_throwFor hP hD hS hA hK hN hX hout hlk rfl rfl rfl hl.1 rfl (Nat.le_of_ble_eq_true rfl) ⟨(Nat.le_of_ble_eq_true rfl), (Nat.le_of_ble_eq_true rfl)⟩ (Nat.le_of_ble_eq_true rfl) (Nat.le_of_ble_eq_true rfl) (dg ddX4_join 3 rfl)
  have hf := os_r hf
  refine crx_r CX hml (As := [.int r2.1]) (rest := []) (c_X4_throwFor l D cy r2.1 _ hst e3) lk_RX4_54 rfl rfl hRMX4_throwFor hP hD hS hA hK hN hX rfl hl.1 rfl (Nat.le_of_ble_eq_true rfl) ⟨(Nat.le_of_ble_eq_true rfl), (Nat.le_of_ble_eq_true rfl)⟩ (dg ddX4_join 3 rfl) (fun H locs hP hS => ?_)
  refine lv_aload_n hx hb (dg ddX4_join 4 rfl) rfl (lv_at hl 0 rfl) ?_
  refine gf_RX4_29 CX hK hP 0 rfl rfl (dg ddX4_join 5 rfl) ?_
  refine lv_aload_n hx hb (dg ddX4_join 6 rfl) rfl (lv_at hl 0 rfl) ?_
  refine gf_RX4_10 CX hK hP 0 rfl rfl (dg ddX4_join 7 rfl) ?_
  obtain ⟨r6, e5, hf⟩ := ob_some hf
  refine crf_vv CX hml (As := [.ref (q 1 0)]) (rest := []) (ws := (wX4 q cy x_isv x_te r2.2.1 r2.2.2 x_now x_spa x_sna x_len x_sig x_nxt x_cnt x_rng)) (wsn := (wX4 q cy x_isv x_te r2.2.1 r2.2.2 x_now x_spa x_sna x_len x_sig r6.1 r6.2.1 r6.2.2)) (c_X1_keep l D cy q (q 1) x_nxt x_cnt x_rng x_now _ e5) lk_RX4_58 rfl rfl hRMX1_keep hP hD hS hA hK hN (pm_hn _ _ _ _ _ _) ((pm_hn _ _ _ _ _ _).symm) 0 rfl rfl rfl hl.1 rfl (Nat.le_of_ble_eq_true rfl) ⟨Nat.le_of_ble_eq_true rfl, Nat.le_of_ble_eq_true rfl⟩ (dg ddX4_join 8 rfl) (fun H locs hP hD hS => ?_)
  refine lv_aload_n hx hb (dg ddX4_join 9 rfl) rfl (lv_at hl 0 rfl) ?_
  refine gf_RX4_10 CX hK hP 0 rfl rfl (dg ddX4_join 10 rfl) ?_
  refine lv_iload_n hx hb (dg ddX4_join 11 rfl) rfl (lv_at hl 1 rfl) ?_
  obtain ⟨r8, e7, hf⟩ := ob_some hf
  refine crf_vi CX hml (As := [.int a1]) (rest := []) (ws := (wX4 q cy x_isv x_te r2.2.1 r2.2.2 x_now x_spa x_sna x_len x_sig r6.1 r6.2.1 r6.2.2)) (wsn := (wX4 q cy x_isv x_te r2.2.1 r2.2.2 (s_pla x_now r8.2) x_spa x_sna x_len x_sig r6.1 r6.2.1 r6.2.2)) (c_X3_putInLine l D cy (q 1) (g_hour x_now) (g_crowd x_now) (g_buskers x_now) (g_answered x_now) (g_draws x_now) (g_lim x_now) (g_cmp x_now) (g_sof x_now) (g_kin x_now) (g_lou x_now) (g_pit x_now) (g_pla x_now) (g_cas x_now) (g_hrs x_now) (g_nws x_now) (g_hat x_now) (g_wea x_now) (g_row x_now) a1 _ e7) lk_RX4_140 rfl rfl hRMX3_putInLine hP hD hS hA hK hN (pm_n _ _ _ _ _ _) ((pm_n _ _ _ _ _ _).symm) 0 rfl rfl rfl hl.1 rfl (Nat.le_of_ble_eq_true rfl) ⟨Nat.le_of_ble_eq_true rfl, Nat.le_of_ble_eq_true rfl⟩ (dg ddX4_join 12 rfl) (fun H locs hP hD hS => ?_)
  cases hf
  exact x_wi CX hr hlk rfl hP hD hS (dg ddX4_join 13 rfl)
def f_X4_draw (x_re : Int32) (x_de : Int32) (x_now : SV) (x_nxt : Int32) (x_cnt : Int32) (x_rng : Nat → SV) (a1 : Int32) (a2 : Int32) : Option ((Nat × Int32 × Int32 × SV × Int32 × Int32 × (Nat → SV)) ⊕ (Int32 × Int32 × Int32 × SV × Int32 × Int32 × (Nat → SV))) := ob (f_X4_hindranceOfDraw x_re x_de x_now a1 a2) fun r2 => (ob (f_X4_throwFor r2.1) fun r4 => (os r4 (fun t => some (.inl (t, r2.2.1, r2.2.2, x_now, x_nxt, x_cnt, x_rng))) fun _ => (ob (f_X1_keep x_nxt x_cnt x_rng x_now) fun r6 => (ob (f_X3_drawFor (g_draws x_now) (g_pit x_now) (g_pla x_now) a1 a2) fun r8 => (some (.inr (r8.1, r2.2.1, r2.2.2, (s_pla (s_pit (s_draws x_now r8.2.1) r8.2.2.1) r8.2.2.2), r6.1, r6.2.1, r6.2.2)))))))
set_option maxHeartbeats 4000000 in
set_option maxRecDepth 100000 in
theorem c_X4_draw (l : Launch) (D : va_G) (cy : Nat → ClassId) (q : Nat → Nat → Nat) (x_isv : Int32) (x_te : Int32) (x_re : Int32) (x_de : Int32) (x_now : SV) (x_spa : SV) (x_sna : SV) (x_len : Int32) (x_sig : Nat → Int32) (x_nxt : Int32) (x_cnt : Int32) (x_rng : Nat → SV) (a1 : Int32) (a2 : Int32) (sz : Nat) (hst : l.stackTraces = false) {res : (Nat × Int32 × Int32 × SV × Int32 × Int32 × (Nat → SV)) ⊕ (Int32 × Int32 × Int32 × SV × Int32 × Int32 × (Nat → SV))} (hf : f_X4_draw x_re x_de x_now x_nxt x_cnt x_rng a1 a2 = some res) : vx_Met l yX4_draw (.code yX4_draw cX4_draw 3 (some .int) :: lw_all) { frames := 7, cells := 1, slots := 6, locals := 102 } (va_Pc [.ref (q 0 0), .int a1, .int a2] (sX D cy (wX4 q cy x_isv x_te x_re x_de x_now x_spa x_sna x_len x_sig x_nxt x_cnt x_rng) sz)) (xI (α := Nat × Int32 × Int32 × SV × Int32 × Int32 × (Nat → SV)) D (fun x : Int32 × Int32 × Int32 × SV × Int32 × Int32 × (Nat → SV) => (wX4 q cy x_isv x_te x.2.1 x.2.2.1 x.2.2.2.1 x_spa x_sna x_len x_sig x.2.2.2.2.1 x.2.2.2.2.2.1 x.2.2.2.2.2.2)) (fun x : Int32 × Int32 × Int32 × SV × Int32 × Int32 × (Nat → SV) => x.1) res (va_A (wX4 q cy x_isv x_te x_re x_de x_now x_spa x_sna x_len x_sig x_nxt x_cnt x_rng) sz)) (xX (β := Int32 × Int32 × Int32 × SV × Int32 × Int32 × (Nat → SV)) D (fun x : Nat × Int32 × Int32 × SV × Int32 × Int32 × (Nat → SV) => (wX4 q cy x_isv x_te x.2.1 x.2.2.1 x.2.2.2.1 x_spa x_sna x_len x_sig x.2.2.2.2.1 x.2.2.2.2.2.1 x.2.2.2.2.2.2)) (fun x : Nat × Int32 × Int32 × SV × Int32 × Int32 × (Nat → SV) => x.1) res (va_A (wX4 q cy x_isv x_te x_re x_de x_now x_spa x_sna x_len x_sig x_nxt x_cnt x_rng) sz)) 1 6 (va_A (wX4 q cy x_isv x_te x_re x_de x_now x_spa x_sna x_len x_sig x_nxt x_cnt x_rng) sz) := by
  refine mk_x (Qc := fun A => (xI (α := Nat × Int32 × Int32 × SV × Int32 × Int32 × (Nat → SV)) D (fun x : Int32 × Int32 × Int32 × SV × Int32 × Int32 × (Nat → SV) => (wX4 q cy x_isv x_te x.2.1 x.2.2.1 x.2.2.2.1 x_spa x_sna x_len x_sig x.2.2.2.2.1 x.2.2.2.2.2.1 x.2.2.2.2.2.2)) (fun x : Int32 × Int32 × Int32 × SV × Int32 × Int32 × (Nat → SV) => x.1) res A)) (XC := fun A => (xX (β := Int32 × Int32 × Int32 × SV × Int32 × Int32 × (Nat → SV)) D (fun x : Nat × Int32 × Int32 × SV × Int32 × Int32 × (Nat → SV) => (wX4 q cy x_isv x_te x.2.1 x.2.2.1 x.2.2.2.1 x_spa x_sna x_len x_sig x.2.2.2.2.1 x.2.2.2.2.2.1 x.2.2.2.2.2.2)) (fun x : Nat × Int32 × Int32 × SV × Int32 × Int32 × (Nat → SV) => x.1) res A)) (Rc := RX4) (by decide +kernel) rfl (Nat.le_of_ble_eq_true rfl) ?_
  intro p e s m args below meth c ls A CX hml hr hlk hK hN hP hD hS hA hl hout hX
  have hx := CX.1
  have hb := CX.2.1
  have hRMX1_keep : (⟨2, 0, 0, 61⟩ : Room).frames + 1 ≤ (⟨7, 1, 6, 102⟩ : Room).frames ∧ 8 + (3 + 11) + (⟨2, 0, 0, 61⟩ : Room).locals ≤ (⟨7, 1, 6, 102⟩ : Room).locals := ⟨Nat.le_of_ble_eq_true rfl, Nat.le_of_ble_eq_true rfl⟩
  have hRMX3_drawFor : (⟨2, 0, 0, 37⟩ : Room).frames + 1 ≤ (⟨7, 1, 6, 102⟩ : Room).frames ∧ 8 + (7 + 11) + (⟨2, 0, 0, 37⟩ : Room).locals ≤ (⟨7, 1, 6, 102⟩ : Room).locals := ⟨Nat.le_of_ble_eq_true rfl, Nat.le_of_ble_eq_true rfl⟩
  have hRMX4_hindranceOfDraw : (⟨3, 0, 0, 54⟩ : Room).frames + 1 ≤ (⟨7, 1, 6, 102⟩ : Room).frames ∧ 8 + (3 + 11) + (⟨3, 0, 0, 54⟩ : Room).locals ≤ (⟨7, 1, 6, 102⟩ : Room).locals := ⟨Nat.le_of_ble_eq_true rfl, Nat.le_of_ble_eq_true rfl⟩
  have hRMX4_throwFor : (⟨6, 1, 6, 82⟩ : Room).frames + 1 ≤ (⟨7, 1, 6, 102⟩ : Room).frames ∧ 8 + (1 + 11) + (⟨6, 1, 6, 82⟩ : Room).locals ≤ (⟨7, 1, 6, 102⟩ : Room).locals := ⟨Nat.le_of_ble_eq_true rfl, Nat.le_of_ble_eq_true rfl⟩
  refine lv_aload_n hx hb (dg ddX4_draw 0 rfl) rfl (lv_at hl 0 rfl) ?_
  refine lv_iload_n hx hb (dg ddX4_draw 1 rfl) rfl (lv_at hl 1 rfl) ?_
  refine lv_iload_n hx hb (dg ddX4_draw 2 rfl) rfl (lv_at hl 2 rfl) ?_
  obtain ⟨r2, e1, hf⟩ := ob_some hf
  refine crw_vi CX hml (As := [.int a1, .int a2]) (rest := []) (c_X4_hindranceOfDraw l D cy q x_isv x_te x_re x_de x_now x_spa x_sna x_len x_sig x_nxt x_cnt x_rng a1 a2 _ e1) lk_RX4_143 rfl rfl hRMX4_hindranceOfDraw hP hD hS hA hK hN 0 rfl rfl rfl hl.1 rfl (Nat.le_of_ble_eq_true rfl) ⟨Nat.le_of_ble_eq_true rfl, Nat.le_of_ble_eq_true rfl⟩ (dg ddX4_draw 3 rfl) (fun H locs hP hD hS => ?_)
  obtain ⟨r4, e3, hf⟩ := ob_some hf
  rcases r4 with t9 | t9
  · cases os_l hf
    exact crx_t CX hml (As := [.int r2.1]) (rest := []) (c_X4_throwFor l D cy r2.1 _ hst e3) lk_RX4_54 rfl rfl hRMX4_throwFor hP hD hS hA hK hN hX hout hlk rfl rfl rfl hl.1 rfl (Nat.le_of_ble_eq_true rfl) ⟨(Nat.le_of_ble_eq_true rfl), (Nat.le_of_ble_eq_true rfl)⟩ (Nat.le_of_ble_eq_true rfl) (Nat.le_of_ble_eq_true rfl) (dg ddX4_draw 4 rfl)
  have hf := os_r hf
  refine crx_r CX hml (As := [.int r2.1]) (rest := []) (c_X4_throwFor l D cy r2.1 _ hst e3) lk_RX4_54 rfl rfl hRMX4_throwFor hP hD hS hA hK hN hX rfl hl.1 rfl (Nat.le_of_ble_eq_true rfl) ⟨(Nat.le_of_ble_eq_true rfl), (Nat.le_of_ble_eq_true rfl)⟩ (dg ddX4_draw 4 rfl) (fun H locs hP hS => ?_)
  refine lv_aload_n hx hb (dg ddX4_draw 5 rfl) rfl (lv_at hl 0 rfl) ?_
  refine gf_RX4_29 CX hK hP 0 rfl rfl (dg ddX4_draw 6 rfl) ?_
  refine lv_aload_n hx hb (dg ddX4_draw 7 rfl) rfl (lv_at hl 0 rfl) ?_
  refine gf_RX4_10 CX hK hP 0 rfl rfl (dg ddX4_draw 8 rfl) ?_
  obtain ⟨r6, e5, hf⟩ := ob_some hf
  refine crf_vv CX hml (As := [.ref (q 1 0)]) (rest := []) (ws := (wX4 q cy x_isv x_te r2.2.1 r2.2.2 x_now x_spa x_sna x_len x_sig x_nxt x_cnt x_rng)) (wsn := (wX4 q cy x_isv x_te r2.2.1 r2.2.2 x_now x_spa x_sna x_len x_sig r6.1 r6.2.1 r6.2.2)) (c_X1_keep l D cy q (q 1) x_nxt x_cnt x_rng x_now _ e5) lk_RX4_58 rfl rfl hRMX1_keep hP hD hS hA hK hN (pm_hn _ _ _ _ _ _) ((pm_hn _ _ _ _ _ _).symm) 0 rfl rfl rfl hl.1 rfl (Nat.le_of_ble_eq_true rfl) ⟨Nat.le_of_ble_eq_true rfl, Nat.le_of_ble_eq_true rfl⟩ (dg ddX4_draw 9 rfl) (fun H locs hP hD hS => ?_)
  refine lv_aload_n hx hb (dg ddX4_draw 10 rfl) rfl (lv_at hl 0 rfl) ?_
  refine gf_RX4_10 CX hK hP 0 rfl rfl (dg ddX4_draw 11 rfl) ?_
  refine lv_iload_n hx hb (dg ddX4_draw 12 rfl) rfl (lv_at hl 1 rfl) ?_
  refine lv_iload_n hx hb (dg ddX4_draw 13 rfl) rfl (lv_at hl 2 rfl) ?_
  obtain ⟨r8, e7, hf⟩ := ob_some hf
  refine crf_vi CX hml (As := [.int a1, .int a2]) (rest := []) (ws := (wX4 q cy x_isv x_te r2.2.1 r2.2.2 x_now x_spa x_sna x_len x_sig r6.1 r6.2.1 r6.2.2)) (wsn := (wX4 q cy x_isv x_te r2.2.1 r2.2.2 (s_pla (s_pit (s_draws x_now r8.2.1) r8.2.2.1) r8.2.2.2) x_spa x_sna x_len x_sig r6.1 r6.2.1 r6.2.2)) (c_X3_drawFor l D cy (q 1) (g_hour x_now) (g_crowd x_now) (g_buskers x_now) (g_answered x_now) (g_draws x_now) (g_lim x_now) (g_cmp x_now) (g_sof x_now) (g_kin x_now) (g_lou x_now) (g_pit x_now) (g_pla x_now) (g_cas x_now) (g_hrs x_now) (g_nws x_now) (g_hat x_now) (g_wea x_now) (g_row x_now) a1 a2 _ e7) lk_RX4_146 rfl rfl hRMX3_drawFor hP hD hS hA hK hN (pm_n _ _ _ _ _ _) ((pm_n _ _ _ _ _ _).symm) 0 rfl rfl rfl hl.1 rfl (Nat.le_of_ble_eq_true rfl) ⟨Nat.le_of_ble_eq_true rfl, Nat.le_of_ble_eq_true rfl⟩ (dg ddX4_draw 14 rfl) (fun H locs hP hD hS => ?_)
  cases hf
  exact x_wi CX hr hlk rfl hP hD hS (dg ddX4_draw 15 rfl)
def f_X4_waiting (x_now : SV) (a1 : Int32) : Option ((Nat) ⊕ (Int32)) := ob (f_X3_waiterAt (g_pla x_now) a1) fun r2 => (if r2 = (-1) then (some (.inl 4)) else (some (.inr r2)))
set_option maxHeartbeats 4000000 in
set_option maxRecDepth 100000 in
theorem c_X4_waiting (l : Launch) (D : va_G) (cy : Nat → ClassId) (q : Nat → Nat → Nat) (x_isv : Int32) (x_te : Int32) (x_re : Int32) (x_de : Int32) (x_now : SV) (x_spa : SV) (x_sna : SV) (x_len : Int32) (x_sig : Nat → Int32) (x_nxt : Int32) (x_cnt : Int32) (x_rng : Nat → SV) (a1 : Int32) (sz : Nat) (hst : l.stackTraces = false) {res : (Nat) ⊕ (Int32)} (hf : f_X4_waiting x_now a1 = some res) : vx_Met l yX4_waiting (.code yX4_waiting cX4_waiting 3 (some .int) :: lw_all) { frames := 6, cells := 1, slots := 6, locals := 82 } (va_Pc [.ref (q 0 0), .int a1] (sX D cy (wX4 q cy x_isv x_te x_re x_de x_now x_spa x_sna x_len x_sig x_nxt x_cnt x_rng) sz)) (xI (α := Nat) D (fun x : Int32 => (wX4 q cy x_isv x_te x_re x_de x_now x_spa x_sna x_len x_sig x_nxt x_cnt x_rng)) (fun x : Int32 => x) res (va_A (wX4 q cy x_isv x_te x_re x_de x_now x_spa x_sna x_len x_sig x_nxt x_cnt x_rng) sz)) (xX (β := Int32) D (fun x : Nat => (wX4 q cy x_isv x_te x_re x_de x_now x_spa x_sna x_len x_sig x_nxt x_cnt x_rng)) (fun x : Nat => x) res (va_A (wX4 q cy x_isv x_te x_re x_de x_now x_spa x_sna x_len x_sig x_nxt x_cnt x_rng) sz)) 1 6 (va_A (wX4 q cy x_isv x_te x_re x_de x_now x_spa x_sna x_len x_sig x_nxt x_cnt x_rng) sz) := by
  refine mk_x (Qc := fun A => (xI (α := Nat) D (fun x : Int32 => (wX4 q cy x_isv x_te x_re x_de x_now x_spa x_sna x_len x_sig x_nxt x_cnt x_rng)) (fun x : Int32 => x) res A)) (XC := fun A => (xX (β := Int32) D (fun x : Nat => (wX4 q cy x_isv x_te x_re x_de x_now x_spa x_sna x_len x_sig x_nxt x_cnt x_rng)) (fun x : Nat => x) res A)) (Rc := RX4) (by decide +kernel) rfl (Nat.le_of_ble_eq_true rfl) ?_
  intro p e s m args below meth c ls A CX hml hr hlk hK hN hP hD hS hA hl hout hX
  have hx := CX.1
  have hb := CX.2.1
  have hRMX3_waiterAt : (⟨1, 0, 0, 12⟩ : Room).frames + 1 ≤ (⟨6, 1, 6, 82⟩ : Room).frames ∧ 8 + (3 + 11) + (⟨1, 0, 0, 12⟩ : Room).locals ≤ (⟨6, 1, 6, 82⟩ : Room).locals := ⟨Nat.le_of_ble_eq_true rfl, Nat.le_of_ble_eq_true rfl⟩
  refine lv_aload_n hx hb (dg ddX4_waiting 0 rfl) rfl (lv_at hl 0 rfl) ?_
  refine gf_RX4_10 CX hK hP 0 rfl rfl (dg ddX4_waiting 1 rfl) ?_
  refine lv_iload_n hx hb (dg ddX4_waiting 2 rfl) rfl (lv_at hl 1 rfl) ?_
  obtain ⟨r2, e1, hf⟩ := ob_some hf
  refine cro_vi CX hml (As := [.int a1]) (rest := []) (c_X3_waiterAt l D cy (q 1) (g_hour x_now) (g_crowd x_now) (g_buskers x_now) (g_answered x_now) (g_draws x_now) (g_lim x_now) (g_cmp x_now) (g_sof x_now) (g_kin x_now) (g_lou x_now) (g_pit x_now) (g_pla x_now) (g_cas x_now) (g_hrs x_now) (g_nws x_now) (g_hat x_now) (g_wea x_now) (g_row x_now) a1 e1) lk_RX4_149 rfl rfl hRMX3_waiterAt (vaP_l (vaP_perm (pm_n _ _ _ _ _ _) hP)) hK hN 0 rfl rfl rfl hl.1 rfl (Nat.le_of_ble_eq_true rfl) ⟨Nat.le_of_ble_eq_true rfl, Nat.le_of_ble_eq_true rfl⟩ (dg ddX4_waiting 3 rfl) ?_
  refine lv_istore_n (lv' := [(2, .int r2), (0, .ref (q 0 0)), (1, .int a1)]) hx hb (dg ddX4_waiting 4 rfl) rfl hl (by decide) rfl (fun ls hl => ?_)
  refine lv_iload_n hx hb (dg ddX4_waiting 5 rfl) rfl (lv_at hl 0 rfl) ?_
  refine lv_iconst (v := (-1)) hx hb (dg ddX4_waiting 6 rfl) (by decide) ?_
  refine lv_icmp_ne (tgt := 24) hx hb (dg ddX4_waiting 7 rfl) (by decide) (fun h3 => ?_) (fun h3 => ?_)
  · have hf := it_f h3 hf
    refine lv_iload_n hx hb (dg ddX4_waiting 13 rfl) rfl (lv_at hl 0 rfl) ?_
    cases hf
    refine W.widen (k := 1) (n := 6) (Nat.le_of_ble_eq_true rfl) (Nat.le_of_ble_eq_true rfl) ?_
    exact x_wi CX hr hlk rfl hP hD hS (dg ddX4_waiting 14 rfl)
  · have hf := it_t h3 hf
    cases hf
    exact xt_4_S (is := 154) (tx := "no such place in the line") (by decide +kernel) CX (hml.trans hl.1.symm) hst hX hout hlk rfl hP hD hS (Nat.le_of_ble_eq_true rfl) (Nat.le_of_ble_eq_true rfl) (Nat.le_of_ble_eq_true rfl) (Nat.le_of_ble_eq_true rfl) (Nat.le_of_ble_eq_true rfl) (Nat.le_of_ble_eq_true rfl) (dg ddX4_waiting 8 rfl) (dg ddX4_waiting 9 rfl) (dg ddX4_waiting 10 rfl) (dg ddX4_waiting 11 rfl) (dg ddX4_waiting 12 rfl)
def f_X4_leave (x_re : Int32) (x_de : Int32) (x_now : SV) (x_nxt : Int32) (x_cnt : Int32) (x_rng : Nat → SV) (a1 : Int32) : Option ((Nat × Int32 × Int32 × SV × Int32 × Int32 × (Nat → SV)) ⊕ (Int32 × Int32 × Int32 × SV × Int32 × Int32 × (Nat → SV))) := ob (f_X4_hindranceOfLeave x_re x_de x_now a1) fun r2 => (ob (f_X4_throwFor r2.1) fun r4 => (os r4 (fun t => some (.inl (t, r2.2.1, r2.2.2, x_now, x_nxt, x_cnt, x_rng))) fun _ => (ob (f_X1_keep x_nxt x_cnt x_rng x_now) fun r6 => (ob (f_X3_sendHomeFrom (g_pit x_now) a1) fun r8 => (some (.inr (r8.1, r2.2.1, r2.2.2, (s_pit x_now r8.2), r6.1, r6.2.1, r6.2.2)))))))
set_option maxHeartbeats 4000000 in
set_option maxRecDepth 100000 in
theorem c_X4_leave (l : Launch) (D : va_G) (cy : Nat → ClassId) (q : Nat → Nat → Nat) (x_isv : Int32) (x_te : Int32) (x_re : Int32) (x_de : Int32) (x_now : SV) (x_spa : SV) (x_sna : SV) (x_len : Int32) (x_sig : Nat → Int32) (x_nxt : Int32) (x_cnt : Int32) (x_rng : Nat → SV) (a1 : Int32) (sz : Nat) (hst : l.stackTraces = false) {res : (Nat × Int32 × Int32 × SV × Int32 × Int32 × (Nat → SV)) ⊕ (Int32 × Int32 × Int32 × SV × Int32 × Int32 × (Nat → SV))} (hf : f_X4_leave x_re x_de x_now x_nxt x_cnt x_rng a1 = some res) : vx_Met l yX4_leave (.code yX4_leave cX4_leave 2 (some .int) :: lw_all) { frames := 7, cells := 1, slots := 6, locals := 102 } (va_Pc [.ref (q 0 0), .int a1] (sX D cy (wX4 q cy x_isv x_te x_re x_de x_now x_spa x_sna x_len x_sig x_nxt x_cnt x_rng) sz)) (xI (α := Nat × Int32 × Int32 × SV × Int32 × Int32 × (Nat → SV)) D (fun x : Int32 × Int32 × Int32 × SV × Int32 × Int32 × (Nat → SV) => (wX4 q cy x_isv x_te x.2.1 x.2.2.1 x.2.2.2.1 x_spa x_sna x_len x_sig x.2.2.2.2.1 x.2.2.2.2.2.1 x.2.2.2.2.2.2)) (fun x : Int32 × Int32 × Int32 × SV × Int32 × Int32 × (Nat → SV) => x.1) res (va_A (wX4 q cy x_isv x_te x_re x_de x_now x_spa x_sna x_len x_sig x_nxt x_cnt x_rng) sz)) (xX (β := Int32 × Int32 × Int32 × SV × Int32 × Int32 × (Nat → SV)) D (fun x : Nat × Int32 × Int32 × SV × Int32 × Int32 × (Nat → SV) => (wX4 q cy x_isv x_te x.2.1 x.2.2.1 x.2.2.2.1 x_spa x_sna x_len x_sig x.2.2.2.2.1 x.2.2.2.2.2.1 x.2.2.2.2.2.2)) (fun x : Nat × Int32 × Int32 × SV × Int32 × Int32 × (Nat → SV) => x.1) res (va_A (wX4 q cy x_isv x_te x_re x_de x_now x_spa x_sna x_len x_sig x_nxt x_cnt x_rng) sz)) 1 6 (va_A (wX4 q cy x_isv x_te x_re x_de x_now x_spa x_sna x_len x_sig x_nxt x_cnt x_rng) sz) := by
  refine mk_x (Qc := fun A => (xI (α := Nat × Int32 × Int32 × SV × Int32 × Int32 × (Nat → SV)) D (fun x : Int32 × Int32 × Int32 × SV × Int32 × Int32 × (Nat → SV) => (wX4 q cy x_isv x_te x.2.1 x.2.2.1 x.2.2.2.1 x_spa x_sna x_len x_sig x.2.2.2.2.1 x.2.2.2.2.2.1 x.2.2.2.2.2.2)) (fun x : Int32 × Int32 × Int32 × SV × Int32 × Int32 × (Nat → SV) => x.1) res A)) (XC := fun A => (xX (β := Int32 × Int32 × Int32 × SV × Int32 × Int32 × (Nat → SV)) D (fun x : Nat × Int32 × Int32 × SV × Int32 × Int32 × (Nat → SV) => (wX4 q cy x_isv x_te x.2.1 x.2.2.1 x.2.2.2.1 x_spa x_sna x_len x_sig x.2.2.2.2.1 x.2.2.2.2.2.1 x.2.2.2.2.2.2)) (fun x : Nat × Int32 × Int32 × SV × Int32 × Int32 × (Nat → SV) => x.1) res A)) (Rc := RX4) (by decide +kernel) rfl (Nat.le_of_ble_eq_true rfl) ?_
  intro p e s m args below meth c ls A CX hml hr hlk hK hN hP hD hS hA hl hout hX
  have hx := CX.1
  have hb := CX.2.1
  have hRMX1_keep : (⟨2, 0, 0, 61⟩ : Room).frames + 1 ≤ (⟨7, 1, 6, 102⟩ : Room).frames ∧ 8 + (3 + 11) + (⟨2, 0, 0, 61⟩ : Room).locals ≤ (⟨7, 1, 6, 102⟩ : Room).locals := ⟨Nat.le_of_ble_eq_true rfl, Nat.le_of_ble_eq_true rfl⟩
  have hRMX3_sendHomeFrom : (⟨3, 0, 0, 54⟩ : Room).frames + 1 ≤ (⟨7, 1, 6, 102⟩ : Room).frames ∧ 8 + (3 + 11) + (⟨3, 0, 0, 54⟩ : Room).locals ≤ (⟨7, 1, 6, 102⟩ : Room).locals := ⟨Nat.le_of_ble_eq_true rfl, Nat.le_of_ble_eq_true rfl⟩
  have hRMX4_hindranceOfLeave : (⟨3, 0, 0, 54⟩ : Room).frames + 1 ≤ (⟨7, 1, 6, 102⟩ : Room).frames ∧ 8 + (2 + 11) + (⟨3, 0, 0, 54⟩ : Room).locals ≤ (⟨7, 1, 6, 102⟩ : Room).locals := ⟨Nat.le_of_ble_eq_true rfl, Nat.le_of_ble_eq_true rfl⟩
  have hRMX4_throwFor : (⟨6, 1, 6, 82⟩ : Room).frames + 1 ≤ (⟨7, 1, 6, 102⟩ : Room).frames ∧ 8 + (1 + 11) + (⟨6, 1, 6, 82⟩ : Room).locals ≤ (⟨7, 1, 6, 102⟩ : Room).locals := ⟨Nat.le_of_ble_eq_true rfl, Nat.le_of_ble_eq_true rfl⟩
  refine lv_aload_n hx hb (dg ddX4_leave 0 rfl) rfl (lv_at hl 0 rfl) ?_
  refine lv_iload_n hx hb (dg ddX4_leave 1 rfl) rfl (lv_at hl 1 rfl) ?_
  obtain ⟨r2, e1, hf⟩ := ob_some hf
  refine crw_vi CX hml (As := [.int a1]) (rest := []) (c_X4_hindranceOfLeave l D cy q x_isv x_te x_re x_de x_now x_spa x_sna x_len x_sig x_nxt x_cnt x_rng a1 _ e1) lk_RX4_157 rfl rfl hRMX4_hindranceOfLeave hP hD hS hA hK hN 0 rfl rfl rfl hl.1 rfl (Nat.le_of_ble_eq_true rfl) ⟨Nat.le_of_ble_eq_true rfl, Nat.le_of_ble_eq_true rfl⟩ (dg ddX4_leave 2 rfl) (fun H locs hP hD hS => ?_)
  obtain ⟨r4, e3, hf⟩ := ob_some hf
  rcases r4 with t9 | t9
  · cases os_l hf
    exact crx_t CX hml (As := [.int r2.1]) (rest := []) (c_X4_throwFor l D cy r2.1 _ hst e3) lk_RX4_54 rfl rfl hRMX4_throwFor hP hD hS hA hK hN hX hout hlk rfl rfl rfl hl.1 rfl (Nat.le_of_ble_eq_true rfl) ⟨(Nat.le_of_ble_eq_true rfl), (Nat.le_of_ble_eq_true rfl)⟩ (Nat.le_of_ble_eq_true rfl) (Nat.le_of_ble_eq_true rfl) (dg ddX4_leave 3 rfl)
  have hf := os_r hf
  refine crx_r CX hml (As := [.int r2.1]) (rest := []) (c_X4_throwFor l D cy r2.1 _ hst e3) lk_RX4_54 rfl rfl hRMX4_throwFor hP hD hS hA hK hN hX rfl hl.1 rfl (Nat.le_of_ble_eq_true rfl) ⟨(Nat.le_of_ble_eq_true rfl), (Nat.le_of_ble_eq_true rfl)⟩ (dg ddX4_leave 3 rfl) (fun H locs hP hS => ?_)
  refine lv_aload_n hx hb (dg ddX4_leave 4 rfl) rfl (lv_at hl 0 rfl) ?_
  refine gf_RX4_29 CX hK hP 0 rfl rfl (dg ddX4_leave 5 rfl) ?_
  refine lv_aload_n hx hb (dg ddX4_leave 6 rfl) rfl (lv_at hl 0 rfl) ?_
  refine gf_RX4_10 CX hK hP 0 rfl rfl (dg ddX4_leave 7 rfl) ?_
  obtain ⟨r6, e5, hf⟩ := ob_some hf
  refine crf_vv CX hml (As := [.ref (q 1 0)]) (rest := []) (ws := (wX4 q cy x_isv x_te r2.2.1 r2.2.2 x_now x_spa x_sna x_len x_sig x_nxt x_cnt x_rng)) (wsn := (wX4 q cy x_isv x_te r2.2.1 r2.2.2 x_now x_spa x_sna x_len x_sig r6.1 r6.2.1 r6.2.2)) (c_X1_keep l D cy q (q 1) x_nxt x_cnt x_rng x_now _ e5) lk_RX4_58 rfl rfl hRMX1_keep hP hD hS hA hK hN (pm_hn _ _ _ _ _ _) ((pm_hn _ _ _ _ _ _).symm) 0 rfl rfl rfl hl.1 rfl (Nat.le_of_ble_eq_true rfl) ⟨Nat.le_of_ble_eq_true rfl, Nat.le_of_ble_eq_true rfl⟩ (dg ddX4_leave 8 rfl) (fun H locs hP hD hS => ?_)
  refine lv_aload_n hx hb (dg ddX4_leave 9 rfl) rfl (lv_at hl 0 rfl) ?_
  refine gf_RX4_10 CX hK hP 0 rfl rfl (dg ddX4_leave 10 rfl) ?_
  refine lv_iload_n hx hb (dg ddX4_leave 11 rfl) rfl (lv_at hl 1 rfl) ?_
  obtain ⟨r8, e7, hf⟩ := ob_some hf
  refine crf_vi CX hml (As := [.int a1]) (rest := []) (ws := (wX4 q cy x_isv x_te r2.2.1 r2.2.2 x_now x_spa x_sna x_len x_sig r6.1 r6.2.1 r6.2.2)) (wsn := (wX4 q cy x_isv x_te r2.2.1 r2.2.2 (s_pit x_now r8.2) x_spa x_sna x_len x_sig r6.1 r6.2.1 r6.2.2)) (c_X3_sendHomeFrom l D cy (q 1) (g_hour x_now) (g_crowd x_now) (g_buskers x_now) (g_answered x_now) (g_draws x_now) (g_lim x_now) (g_cmp x_now) (g_sof x_now) (g_kin x_now) (g_lou x_now) (g_pit x_now) (g_pla x_now) (g_cas x_now) (g_hrs x_now) (g_nws x_now) (g_hat x_now) (g_wea x_now) (g_row x_now) a1 _ e7) lk_RX4_160 rfl rfl hRMX3_sendHomeFrom hP hD hS hA hK hN (pm_n _ _ _ _ _ _) ((pm_n _ _ _ _ _ _).symm) 0 rfl rfl rfl hl.1 rfl (Nat.le_of_ble_eq_true rfl) ⟨Nat.le_of_ble_eq_true rfl, Nat.le_of_ble_eq_true rfl⟩ (dg ddX4_leave 12 rfl) (fun H locs hP hD hS => ?_)
  cases hf
  exact x_wi CX hr hlk rfl hP hD hS (dg ddX4_leave 13 rfl)
def f_X4_swap (x_re : Int32) (x_de : Int32) (x_now : SV) (x_nxt : Int32) (x_cnt : Int32) (x_rng : Nat → SV) (a1 : Int32) (a2 : Int32) : Option ((Nat × Int32 × Int32 × SV × Int32 × Int32 × (Nat → SV)) ⊕ (Int32 × Int32 × Int32 × SV × Int32 × Int32 × (Nat → SV))) := ob (f_X4_hindranceOfSwap x_re x_de x_now a1 a2) fun r2 => (ob (f_X4_throwFor r2.1) fun r4 => (os r4 (fun t => some (.inl (t, r2.2.1, r2.2.2, x_now, x_nxt, x_cnt, x_rng))) fun _ => (ob (f_X1_keep x_nxt x_cnt x_rng x_now) fun r6 => (ob (f_X3_exchange (g_pit x_now) a1 a2) fun r8 => (some (.inr (r8.1, r2.2.1, r2.2.2, (s_pit x_now r8.2), r6.1, r6.2.1, r6.2.2)))))))
set_option maxHeartbeats 4000000 in
set_option maxRecDepth 100000 in
theorem c_X4_swap (l : Launch) (D : va_G) (cy : Nat → ClassId) (q : Nat → Nat → Nat) (x_isv : Int32) (x_te : Int32) (x_re : Int32) (x_de : Int32) (x_now : SV) (x_spa : SV) (x_sna : SV) (x_len : Int32) (x_sig : Nat → Int32) (x_nxt : Int32) (x_cnt : Int32) (x_rng : Nat → SV) (a1 : Int32) (a2 : Int32) (sz : Nat) (hst : l.stackTraces = false) {res : (Nat × Int32 × Int32 × SV × Int32 × Int32 × (Nat → SV)) ⊕ (Int32 × Int32 × Int32 × SV × Int32 × Int32 × (Nat → SV))} (hf : f_X4_swap x_re x_de x_now x_nxt x_cnt x_rng a1 a2 = some res) : vx_Met l yX4_swap (.code yX4_swap cX4_swap 3 (some .int) :: lw_all) { frames := 7, cells := 1, slots := 6, locals := 102 } (va_Pc [.ref (q 0 0), .int a1, .int a2] (sX D cy (wX4 q cy x_isv x_te x_re x_de x_now x_spa x_sna x_len x_sig x_nxt x_cnt x_rng) sz)) (xI (α := Nat × Int32 × Int32 × SV × Int32 × Int32 × (Nat → SV)) D (fun x : Int32 × Int32 × Int32 × SV × Int32 × Int32 × (Nat → SV) => (wX4 q cy x_isv x_te x.2.1 x.2.2.1 x.2.2.2.1 x_spa x_sna x_len x_sig x.2.2.2.2.1 x.2.2.2.2.2.1 x.2.2.2.2.2.2)) (fun x : Int32 × Int32 × Int32 × SV × Int32 × Int32 × (Nat → SV) => x.1) res (va_A (wX4 q cy x_isv x_te x_re x_de x_now x_spa x_sna x_len x_sig x_nxt x_cnt x_rng) sz)) (xX (β := Int32 × Int32 × Int32 × SV × Int32 × Int32 × (Nat → SV)) D (fun x : Nat × Int32 × Int32 × SV × Int32 × Int32 × (Nat → SV) => (wX4 q cy x_isv x_te x.2.1 x.2.2.1 x.2.2.2.1 x_spa x_sna x_len x_sig x.2.2.2.2.1 x.2.2.2.2.2.1 x.2.2.2.2.2.2)) (fun x : Nat × Int32 × Int32 × SV × Int32 × Int32 × (Nat → SV) => x.1) res (va_A (wX4 q cy x_isv x_te x_re x_de x_now x_spa x_sna x_len x_sig x_nxt x_cnt x_rng) sz)) 1 6 (va_A (wX4 q cy x_isv x_te x_re x_de x_now x_spa x_sna x_len x_sig x_nxt x_cnt x_rng) sz) := by
  refine mk_x (Qc := fun A => (xI (α := Nat × Int32 × Int32 × SV × Int32 × Int32 × (Nat → SV)) D (fun x : Int32 × Int32 × Int32 × SV × Int32 × Int32 × (Nat → SV) => (wX4 q cy x_isv x_te x.2.1 x.2.2.1 x.2.2.2.1 x_spa x_sna x_len x_sig x.2.2.2.2.1 x.2.2.2.2.2.1 x.2.2.2.2.2.2)) (fun x : Int32 × Int32 × Int32 × SV × Int32 × Int32 × (Nat → SV) => x.1) res A)) (XC := fun A => (xX (β := Int32 × Int32 × Int32 × SV × Int32 × Int32 × (Nat → SV)) D (fun x : Nat × Int32 × Int32 × SV × Int32 × Int32 × (Nat → SV) => (wX4 q cy x_isv x_te x.2.1 x.2.2.1 x.2.2.2.1 x_spa x_sna x_len x_sig x.2.2.2.2.1 x.2.2.2.2.2.1 x.2.2.2.2.2.2)) (fun x : Nat × Int32 × Int32 × SV × Int32 × Int32 × (Nat → SV) => x.1) res A)) (Rc := RX4) (by decide +kernel) rfl (Nat.le_of_ble_eq_true rfl) ?_
  intro p e s m args below meth c ls A CX hml hr hlk hK hN hP hD hS hA hl hout hX
  have hx := CX.1
  have hb := CX.2.1
  have hRMX1_keep : (⟨2, 0, 0, 61⟩ : Room).frames + 1 ≤ (⟨7, 1, 6, 102⟩ : Room).frames ∧ 8 + (3 + 11) + (⟨2, 0, 0, 61⟩ : Room).locals ≤ (⟨7, 1, 6, 102⟩ : Room).locals := ⟨Nat.le_of_ble_eq_true rfl, Nat.le_of_ble_eq_true rfl⟩
  have hRMX3_exchange : (⟨3, 0, 0, 54⟩ : Room).frames + 1 ≤ (⟨7, 1, 6, 102⟩ : Room).frames ∧ 8 + (5 + 11) + (⟨3, 0, 0, 54⟩ : Room).locals ≤ (⟨7, 1, 6, 102⟩ : Room).locals := ⟨Nat.le_of_ble_eq_true rfl, Nat.le_of_ble_eq_true rfl⟩
  have hRMX4_hindranceOfSwap : (⟨3, 0, 0, 54⟩ : Room).frames + 1 ≤ (⟨7, 1, 6, 102⟩ : Room).frames ∧ 8 + (3 + 11) + (⟨3, 0, 0, 54⟩ : Room).locals ≤ (⟨7, 1, 6, 102⟩ : Room).locals := ⟨Nat.le_of_ble_eq_true rfl, Nat.le_of_ble_eq_true rfl⟩
  have hRMX4_throwFor : (⟨6, 1, 6, 82⟩ : Room).frames + 1 ≤ (⟨7, 1, 6, 102⟩ : Room).frames ∧ 8 + (1 + 11) + (⟨6, 1, 6, 82⟩ : Room).locals ≤ (⟨7, 1, 6, 102⟩ : Room).locals := ⟨Nat.le_of_ble_eq_true rfl, Nat.le_of_ble_eq_true rfl⟩
  refine lv_aload_n hx hb (dg ddX4_swap 0 rfl) rfl (lv_at hl 0 rfl) ?_
  refine lv_iload_n hx hb (dg ddX4_swap 1 rfl) rfl (lv_at hl 1 rfl) ?_
  refine lv_iload_n hx hb (dg ddX4_swap 2 rfl) rfl (lv_at hl 2 rfl) ?_
  obtain ⟨r2, e1, hf⟩ := ob_some hf
  refine crw_vi CX hml (As := [.int a1, .int a2]) (rest := []) (c_X4_hindranceOfSwap l D cy q x_isv x_te x_re x_de x_now x_spa x_sna x_len x_sig x_nxt x_cnt x_rng a1 a2 _ e1) lk_RX4_163 rfl rfl hRMX4_hindranceOfSwap hP hD hS hA hK hN 0 rfl rfl rfl hl.1 rfl (Nat.le_of_ble_eq_true rfl) ⟨Nat.le_of_ble_eq_true rfl, Nat.le_of_ble_eq_true rfl⟩ (dg ddX4_swap 3 rfl) (fun H locs hP hD hS => ?_)
  obtain ⟨r4, e3, hf⟩ := ob_some hf
  rcases r4 with t9 | t9
  · cases os_l hf
    exact crx_t CX hml (As := [.int r2.1]) (rest := []) (c_X4_throwFor l D cy r2.1 _ hst e3) lk_RX4_54 rfl rfl hRMX4_throwFor hP hD hS hA hK hN hX hout hlk rfl rfl rfl hl.1 rfl (Nat.le_of_ble_eq_true rfl) ⟨(Nat.le_of_ble_eq_true rfl), (Nat.le_of_ble_eq_true rfl)⟩ (Nat.le_of_ble_eq_true rfl) (Nat.le_of_ble_eq_true rfl) (dg ddX4_swap 4 rfl)
  have hf := os_r hf
  refine crx_r CX hml (As := [.int r2.1]) (rest := []) (c_X4_throwFor l D cy r2.1 _ hst e3) lk_RX4_54 rfl rfl hRMX4_throwFor hP hD hS hA hK hN hX rfl hl.1 rfl (Nat.le_of_ble_eq_true rfl) ⟨(Nat.le_of_ble_eq_true rfl), (Nat.le_of_ble_eq_true rfl)⟩ (dg ddX4_swap 4 rfl) (fun H locs hP hS => ?_)
  refine lv_aload_n hx hb (dg ddX4_swap 5 rfl) rfl (lv_at hl 0 rfl) ?_
  refine gf_RX4_29 CX hK hP 0 rfl rfl (dg ddX4_swap 6 rfl) ?_
  refine lv_aload_n hx hb (dg ddX4_swap 7 rfl) rfl (lv_at hl 0 rfl) ?_
  refine gf_RX4_10 CX hK hP 0 rfl rfl (dg ddX4_swap 8 rfl) ?_
  obtain ⟨r6, e5, hf⟩ := ob_some hf
  refine crf_vv CX hml (As := [.ref (q 1 0)]) (rest := []) (ws := (wX4 q cy x_isv x_te r2.2.1 r2.2.2 x_now x_spa x_sna x_len x_sig x_nxt x_cnt x_rng)) (wsn := (wX4 q cy x_isv x_te r2.2.1 r2.2.2 x_now x_spa x_sna x_len x_sig r6.1 r6.2.1 r6.2.2)) (c_X1_keep l D cy q (q 1) x_nxt x_cnt x_rng x_now _ e5) lk_RX4_58 rfl rfl hRMX1_keep hP hD hS hA hK hN (pm_hn _ _ _ _ _ _) ((pm_hn _ _ _ _ _ _).symm) 0 rfl rfl rfl hl.1 rfl (Nat.le_of_ble_eq_true rfl) ⟨Nat.le_of_ble_eq_true rfl, Nat.le_of_ble_eq_true rfl⟩ (dg ddX4_swap 9 rfl) (fun H locs hP hD hS => ?_)
  refine lv_aload_n hx hb (dg ddX4_swap 10 rfl) rfl (lv_at hl 0 rfl) ?_
  refine gf_RX4_10 CX hK hP 0 rfl rfl (dg ddX4_swap 11 rfl) ?_
  refine lv_iload_n hx hb (dg ddX4_swap 12 rfl) rfl (lv_at hl 1 rfl) ?_
  refine lv_iload_n hx hb (dg ddX4_swap 13 rfl) rfl (lv_at hl 2 rfl) ?_
  obtain ⟨r8, e7, hf⟩ := ob_some hf
  refine crf_vi CX hml (As := [.int a1, .int a2]) (rest := []) (ws := (wX4 q cy x_isv x_te r2.2.1 r2.2.2 x_now x_spa x_sna x_len x_sig r6.1 r6.2.1 r6.2.2)) (wsn := (wX4 q cy x_isv x_te r2.2.1 r2.2.2 (s_pit x_now r8.2) x_spa x_sna x_len x_sig r6.1 r6.2.1 r6.2.2)) (c_X3_exchange l D cy (q 1) (g_hour x_now) (g_crowd x_now) (g_buskers x_now) (g_answered x_now) (g_draws x_now) (g_lim x_now) (g_cmp x_now) (g_sof x_now) (g_kin x_now) (g_lou x_now) (g_pit x_now) (g_pla x_now) (g_cas x_now) (g_hrs x_now) (g_nws x_now) (g_hat x_now) (g_wea x_now) (g_row x_now) a1 a2 _ e7) lk_RX4_166 rfl rfl hRMX3_exchange hP hD hS hA hK hN (pm_n _ _ _ _ _ _) ((pm_n _ _ _ _ _ _).symm) 0 rfl rfl rfl hl.1 rfl (Nat.le_of_ble_eq_true rfl) ⟨Nat.le_of_ble_eq_true rfl, Nat.le_of_ble_eq_true rfl⟩ (dg ddX4_swap 14 rfl) (fun H locs hP hD hS => ?_)
  cases hf
  exact x_wi CX hr hlk rfl hP hD hS (dg ddX4_swap 15 rfl)
def f_X4_noise (x_now : SV) (a1 : Int32) : Option ((Nat) ⊕ (Int32)) := ob (f_X4_hindranceOfPitchNumber a1) fun r2 => (ob (f_X4_throwFor r2) fun r4 => (os r4 (fun t => some (.inl t)) fun _ => (ob (f_X3_noiseOn (g_kin x_now) (g_lou x_now) (g_pit x_now) a1) fun r6 => (ob (f_X0_ofFloat r6) fun r8 => (some (.inr r8))))))
set_option maxHeartbeats 4000000 in
set_option maxRecDepth 100000 in
theorem c_X4_noise (l : Launch) (D : va_G) (cy : Nat → ClassId) (q : Nat → Nat → Nat) (x_isv : Int32) (x_te : Int32) (x_re : Int32) (x_de : Int32) (x_now : SV) (x_spa : SV) (x_sna : SV) (x_len : Int32) (x_sig : Nat → Int32) (x_nxt : Int32) (x_cnt : Int32) (x_rng : Nat → SV) (a1 : Int32) (sz : Nat) (hst : l.stackTraces = false) {res : (Nat) ⊕ (Int32)} (hf : f_X4_noise x_now a1 = some res) : vx_Met l yX4_noise (.code yX4_noise cX4_noise 2 (some .int) :: lw_all) { frames := 7, cells := 1, slots := 6, locals := 119 } (va_Pc [.ref (q 0 0), .int a1] (sX D cy (wX4 q cy x_isv x_te x_re x_de x_now x_spa x_sna x_len x_sig x_nxt x_cnt x_rng) sz)) (xI (α := Nat) D (fun x : Int32 => (wX4 q cy x_isv x_te x_re x_de x_now x_spa x_sna x_len x_sig x_nxt x_cnt x_rng)) (fun x : Int32 => x) res (va_A (wX4 q cy x_isv x_te x_re x_de x_now x_spa x_sna x_len x_sig x_nxt x_cnt x_rng) sz)) (xX (β := Int32) D (fun x : Nat => (wX4 q cy x_isv x_te x_re x_de x_now x_spa x_sna x_len x_sig x_nxt x_cnt x_rng)) (fun x : Nat => x) res (va_A (wX4 q cy x_isv x_te x_re x_de x_now x_spa x_sna x_len x_sig x_nxt x_cnt x_rng) sz)) 1 6 (va_A (wX4 q cy x_isv x_te x_re x_de x_now x_spa x_sna x_len x_sig x_nxt x_cnt x_rng) sz) := by
  refine mk_x (Qc := fun A => (xI (α := Nat) D (fun x : Int32 => (wX4 q cy x_isv x_te x_re x_de x_now x_spa x_sna x_len x_sig x_nxt x_cnt x_rng)) (fun x : Int32 => x) res A)) (XC := fun A => (xX (β := Int32) D (fun x : Nat => (wX4 q cy x_isv x_te x_re x_de x_now x_spa x_sna x_len x_sig x_nxt x_cnt x_rng)) (fun x : Nat => x) res A)) (Rc := RX4) (by decide +kernel) rfl (Nat.le_of_ble_eq_true rfl) ?_
  intro p e s m args below meth c ls A CX hml hr hlk hK hN hP hD hS hA hl hout hX
  have hx := CX.1
  have hb := CX.2.1
  have hRMX0_ofFloat : (⟨1, 0, 0, 12⟩ : Room).frames + 1 ≤ (⟨7, 1, 6, 119⟩ : Room).frames ∧ 8 + (3 + 11) + (⟨1, 0, 0, 12⟩ : Room).locals ≤ (⟨7, 1, 6, 119⟩ : Room).locals := ⟨Nat.le_of_ble_eq_true rfl, Nat.le_of_ble_eq_true rfl⟩
  have hRMX3_noiseOn : (⟨5, 0, 0, 98⟩ : Room).frames + 1 ≤ (⟨7, 1, 6, 119⟩ : Room).frames ∧ 8 + (2 + 11) + (⟨5, 0, 0, 98⟩ : Room).locals ≤ (⟨7, 1, 6, 119⟩ : Room).locals := ⟨Nat.le_of_ble_eq_true rfl, Nat.le_of_ble_eq_true rfl⟩
  have hRMX4_hindranceOfPitchNumber : (⟨2, 0, 0, 32⟩ : Room).frames + 1 ≤ (⟨7, 1, 6, 119⟩ : Room).frames ∧ 8 + (1 + 11) + (⟨2, 0, 0, 32⟩ : Room).locals ≤ (⟨7, 1, 6, 119⟩ : Room).locals := ⟨Nat.le_of_ble_eq_true rfl, Nat.le_of_ble_eq_true rfl⟩
  have hRMX4_throwFor : (⟨6, 1, 6, 82⟩ : Room).frames + 1 ≤ (⟨7, 1, 6, 119⟩ : Room).frames ∧ 8 + (1 + 11) + (⟨6, 1, 6, 82⟩ : Room).locals ≤ (⟨7, 1, 6, 119⟩ : Room).locals := ⟨Nat.le_of_ble_eq_true rfl, Nat.le_of_ble_eq_true rfl⟩
  refine lv_iload_n hx hb (dg ddX4_noise 0 rfl) rfl (lv_at hl 1 rfl) ?_
  obtain ⟨r2, e1, hf⟩ := ob_some hf
  refine cro_si CX hml (As := [.int a1]) (rest := []) (c_X4_hindranceOfPitchNumber l D cy a1 e1) lk_RX4_123 rfl rfl hRMX4_hindranceOfPitchNumber vaP_nil hK hN rfl hl.1 rfl (Nat.le_of_ble_eq_true rfl) ⟨Nat.le_of_ble_eq_true rfl, Nat.le_of_ble_eq_true rfl⟩ (dg ddX4_noise 1 rfl) ?_
  obtain ⟨r4, e3, hf⟩ := ob_some hf
  rcases r4 with t9 | t9
  · cases os_l hf
    exact crx_t CX hml (As := [.int r2]) (rest := []) (c_X4_throwFor l D cy r2 _ hst e3) lk_RX4_54 rfl rfl hRMX4_throwFor hP hD hS hA hK hN hX hout hlk rfl rfl rfl hl.1 rfl (Nat.le_of_ble_eq_true rfl) ⟨(Nat.le_of_ble_eq_true rfl), (Nat.le_of_ble_eq_true rfl)⟩ (Nat.le_of_ble_eq_true rfl) (Nat.le_of_ble_eq_true rfl) (dg ddX4_noise 2 rfl)
  have hf := os_r hf
  refine crx_r CX hml (As := [.int r2]) (rest := []) (c_X4_throwFor l D cy r2 _ hst e3) lk_RX4_54 rfl rfl hRMX4_throwFor hP hD hS hA hK hN hX rfl hl.1 rfl (Nat.le_of_ble_eq_true rfl) ⟨(Nat.le_of_ble_eq_true rfl), (Nat.le_of_ble_eq_true rfl)⟩ (dg ddX4_noise 2 rfl) (fun H locs hP hS => ?_)
  refine lv_aload_n hx hb (dg ddX4_noise 3 rfl) rfl (lv_at hl 0 rfl) ?_
  refine gf_RX4_10 CX hK hP 0 rfl rfl (dg ddX4_noise 4 rfl) ?_
  refine lv_iload_n hx hb (dg ddX4_noise 5 rfl) rfl (lv_at hl 1 rfl) ?_
  obtain ⟨r6, e5, hf⟩ := ob_some hf
  refine cro_vf CX hml (As := [.int a1]) (rest := []) (c_X3_noiseOn l D cy (q 1) (g_hour x_now) (g_crowd x_now) (g_buskers x_now) (g_answered x_now) (g_draws x_now) (g_lim x_now) (g_cmp x_now) (g_sof x_now) (g_kin x_now) (g_lou x_now) (g_pit x_now) (g_pla x_now) (g_cas x_now) (g_hrs x_now) (g_nws x_now) (g_hat x_now) (g_wea x_now) (g_row x_now) a1 e5) lk_RX4_169 rfl rfl hRMX3_noiseOn (vaP_l (vaP_perm (pm_n _ _ _ _ _ _) hP)) hK hN 0 rfl rfl rfl hl.1 rfl (Nat.le_of_ble_eq_true rfl) ⟨Nat.le_of_ble_eq_true rfl, Nat.le_of_ble_eq_true rfl⟩ (dg ddX4_noise 6 rfl) ?_
  obtain ⟨r8, e7, hf⟩ := ob_some hf
  refine cro_si CX hml (As := [.float r6]) (rest := []) (c_X0_ofFloat l D cy r6 e7) lk_RX4_73 rfl rfl hRMX0_ofFloat vaP_nil hK hN rfl hl.1 rfl (Nat.le_of_ble_eq_true rfl) ⟨Nat.le_of_ble_eq_true rfl, Nat.le_of_ble_eq_true rfl⟩ (dg ddX4_noise 7 rfl) ?_
  cases hf
  exact x_wi CX hr hlk rfl hP hD hS (dg ddX4_noise 8 rfl)
def f_X4_noiseAgain (x_now : SV) (a1 : Int32) : Option ((Nat × SV) ⊕ (Int32 × SV)) := ob (f_X4_hindranceOfPitchNumber a1) fun r2 => (ob (f_X4_throwFor r2) fun r4 => (os r4 (fun t => some (.inl (t, x_now))) fun _ => (ob (f_X3_layRow (g_kin x_now) (g_lou x_now) (g_pit x_now) (g_row x_now)) fun r6 => (ob (f_X3_noiseByRow r6 a1) fun r8 => (ob (f_X0_ofFloat r8) fun r10 => (some (.inr (r10, (s_row x_now r6)))))))))
set_option maxHeartbeats 4000000 in
set_option maxRecDepth 100000 in
theorem c_X4_noiseAgain (l : Launch) (D : va_G) (cy : Nat → ClassId) (q : Nat → Nat → Nat) (x_isv : Int32) (x_te : Int32) (x_re : Int32) (x_de : Int32) (x_now : SV) (x_spa : SV) (x_sna : SV) (x_len : Int32) (x_sig : Nat → Int32) (x_nxt : Int32) (x_cnt : Int32) (x_rng : Nat → SV) (a1 : Int32) (sz : Nat) (hst : l.stackTraces = false) {res : (Nat × SV) ⊕ (Int32 × SV)} (hf : f_X4_noiseAgain x_now a1 = some res) : vx_Met l yX4_noiseAgain (.code yX4_noiseAgain cX4_noiseAgain 2 (some .int) :: lw_all) { frames := 7, cells := 1, slots := 6, locals := 102 } (va_Pc [.ref (q 0 0), .int a1] (sX D cy (wX4 q cy x_isv x_te x_re x_de x_now x_spa x_sna x_len x_sig x_nxt x_cnt x_rng) sz)) (xI (α := Nat × SV) D (fun x : Int32 × SV => (wX4 q cy x_isv x_te x_re x_de x.2 x_spa x_sna x_len x_sig x_nxt x_cnt x_rng)) (fun x : Int32 × SV => x.1) res (va_A (wX4 q cy x_isv x_te x_re x_de x_now x_spa x_sna x_len x_sig x_nxt x_cnt x_rng) sz)) (xX (β := Int32 × SV) D (fun x : Nat × SV => (wX4 q cy x_isv x_te x_re x_de x.2 x_spa x_sna x_len x_sig x_nxt x_cnt x_rng)) (fun x : Nat × SV => x.1) res (va_A (wX4 q cy x_isv x_te x_re x_de x_now x_spa x_sna x_len x_sig x_nxt x_cnt x_rng) sz)) 1 6 (va_A (wX4 q cy x_isv x_te x_re x_de x_now x_spa x_sna x_len x_sig x_nxt x_cnt x_rng) sz) := by
  refine mk_x (Qc := fun A => (xI (α := Nat × SV) D (fun x : Int32 × SV => (wX4 q cy x_isv x_te x_re x_de x.2 x_spa x_sna x_len x_sig x_nxt x_cnt x_rng)) (fun x : Int32 × SV => x.1) res A)) (XC := fun A => (xX (β := Int32 × SV) D (fun x : Nat × SV => (wX4 q cy x_isv x_te x_re x_de x.2 x_spa x_sna x_len x_sig x_nxt x_cnt x_rng)) (fun x : Nat × SV => x.1) res A)) (Rc := RX4) (by decide +kernel) rfl (Nat.le_of_ble_eq_true rfl) ?_
  intro p e s m args below meth c ls A CX hml hr hlk hK hN hP hD hS hA hl hout hX
  have hx := CX.1
  have hb := CX.2.1
  have hRMX0_ofFloat : (⟨1, 0, 0, 12⟩ : Room).frames + 1 ≤ (⟨7, 1, 6, 102⟩ : Room).frames ∧ 8 + (3 + 11) + (⟨1, 0, 0, 12⟩ : Room).locals ≤ (⟨7, 1, 6, 102⟩ : Room).locals := ⟨Nat.le_of_ble_eq_true rfl, Nat.le_of_ble_eq_true rfl⟩
  have hRMX3_layRow : (⟨2, 0, 0, 35⟩ : Room).frames + 1 ≤ (⟨7, 1, 6, 102⟩ : Room).frames ∧ 8 + (2 + 11) + (⟨2, 0, 0, 35⟩ : Room).locals ≤ (⟨7, 1, 6, 102⟩ : Room).locals := ⟨Nat.le_of_ble_eq_true rfl, Nat.le_of_ble_eq_true rfl⟩
  have hRMX3_noiseByRow : (⟨1, 0, 0, 12⟩ : Room).frames + 1 ≤ (⟨7, 1, 6, 102⟩ : Room).frames ∧ 8 + (2 + 11) + (⟨1, 0, 0, 12⟩ : Room).locals ≤ (⟨7, 1, 6, 102⟩ : Room).locals := ⟨Nat.le_of_ble_eq_true rfl, Nat.le_of_ble_eq_true rfl⟩
  have hRMX4_hindranceOfPitchNumber : (⟨2, 0, 0, 32⟩ : Room).frames + 1 ≤ (⟨7, 1, 6, 102⟩ : Room).frames ∧ 8 + (1 + 11) + (⟨2, 0, 0, 32⟩ : Room).locals ≤ (⟨7, 1, 6, 102⟩ : Room).locals := ⟨Nat.le_of_ble_eq_true rfl, Nat.le_of_ble_eq_true rfl⟩
  have hRMX4_throwFor : (⟨6, 1, 6, 82⟩ : Room).frames + 1 ≤ (⟨7, 1, 6, 102⟩ : Room).frames ∧ 8 + (1 + 11) + (⟨6, 1, 6, 82⟩ : Room).locals ≤ (⟨7, 1, 6, 102⟩ : Room).locals := ⟨Nat.le_of_ble_eq_true rfl, Nat.le_of_ble_eq_true rfl⟩
  refine lv_iload_n hx hb (dg ddX4_noiseAgain 0 rfl) rfl (lv_at hl 1 rfl) ?_
  obtain ⟨r2, e1, hf⟩ := ob_some hf
  refine cro_si CX hml (As := [.int a1]) (rest := []) (c_X4_hindranceOfPitchNumber l D cy a1 e1) lk_RX4_123 rfl rfl hRMX4_hindranceOfPitchNumber vaP_nil hK hN rfl hl.1 rfl (Nat.le_of_ble_eq_true rfl) ⟨Nat.le_of_ble_eq_true rfl, Nat.le_of_ble_eq_true rfl⟩ (dg ddX4_noiseAgain 1 rfl) ?_
  obtain ⟨r4, e3, hf⟩ := ob_some hf
  rcases r4 with t9 | t9
  · cases os_l hf
    exact crx_t CX hml (As := [.int r2]) (rest := []) (c_X4_throwFor l D cy r2 _ hst e3) lk_RX4_54 rfl rfl hRMX4_throwFor hP hD hS hA hK hN hX hout hlk rfl rfl rfl hl.1 rfl (Nat.le_of_ble_eq_true rfl) ⟨(Nat.le_of_ble_eq_true rfl), (Nat.le_of_ble_eq_true rfl)⟩ (Nat.le_of_ble_eq_true rfl) (Nat.le_of_ble_eq_true rfl) (dg ddX4_noiseAgain 2 rfl)
  have hf := os_r hf
  refine crx_r CX hml (As := [.int r2]) (rest := []) (c_X4_throwFor l D cy r2 _ hst e3) lk_RX4_54 rfl rfl hRMX4_throwFor hP hD hS hA hK hN hX rfl hl.1 rfl (Nat.le_of_ble_eq_true rfl) ⟨(Nat.le_of_ble_eq_true rfl), (Nat.le_of_ble_eq_true rfl)⟩ (dg ddX4_noiseAgain 2 rfl) (fun H locs hP hS => ?_)
  refine lv_aload_n hx hb (dg ddX4_noiseAgain 3 rfl) rfl (lv_at hl 0 rfl) ?_
  refine gf_RX4_10 CX hK hP 0 rfl rfl (dg ddX4_noiseAgain 4 rfl) ?_
  obtain ⟨r6, e5, hf⟩ := ob_some hf
  refine crf_vv CX hml (As := []) (rest := []) (ws := (wX4 q cy x_isv x_te x_re x_de x_now x_spa x_sna x_len x_sig x_nxt x_cnt x_rng)) (wsn := (wX4 q cy x_isv x_te x_re x_de (s_row x_now r6) x_spa x_sna x_len x_sig x_nxt x_cnt x_rng)) (c_X3_layRow l D cy (q 1) (g_hour x_now) (g_crowd x_now) (g_buskers x_now) (g_answered x_now) (g_draws x_now) (g_lim x_now) (g_cmp x_now) (g_sof x_now) (g_kin x_now) (g_lou x_now) (g_pit x_now) (g_pla x_now) (g_cas x_now) (g_hrs x_now) (g_nws x_now) (g_hat x_now) (g_wea x_now) (g_row x_now)  _ e5) lk_RX4_173 rfl rfl hRMX3_layRow hP hD hS hA hK hN (pm_n _ _ _ _ _ _) ((pm_n _ _ _ _ _ _).symm) 0 rfl rfl rfl hl.1 rfl (Nat.le_of_ble_eq_true rfl) ⟨Nat.le_of_ble_eq_true rfl, Nat.le_of_ble_eq_true rfl⟩ (dg ddX4_noiseAgain 5 rfl) (fun H locs hP hD hS => ?_)
  refine lv_aload_n hx hb (dg ddX4_noiseAgain 6 rfl) rfl (lv_at hl 0 rfl) ?_
  refine gf_RX4_10 CX hK hP 0 rfl rfl (dg ddX4_noiseAgain 7 rfl) ?_
  refine lv_iload_n hx hb (dg ddX4_noiseAgain 8 rfl) rfl (lv_at hl 1 rfl) ?_
  obtain ⟨r8, e7, hf⟩ := ob_some hf
  refine cro_vf CX hml (As := [.int a1]) (rest := []) (c_X3_noiseByRow l D cy (q 1) (g_hour x_now) (g_crowd x_now) (g_buskers x_now) (g_answered x_now) (g_draws x_now) (g_lim x_now) (g_cmp x_now) (g_sof x_now) (g_kin x_now) (g_lou x_now) (g_pit x_now) (g_pla x_now) (g_cas x_now) (g_hrs x_now) (g_nws x_now) (g_hat x_now) (g_wea x_now) r6 a1 e7) lk_RX4_176 rfl rfl hRMX3_noiseByRow (vaP_l (vaP_perm (pm_n _ _ _ _ _ _) hP)) hK hN 0 rfl rfl rfl hl.1 rfl (Nat.le_of_ble_eq_true rfl) ⟨Nat.le_of_ble_eq_true rfl, Nat.le_of_ble_eq_true rfl⟩ (dg ddX4_noiseAgain 9 rfl) ?_
  obtain ⟨r10, e9, hf⟩ := ob_some hf
  refine cro_si CX hml (As := [.float r8]) (rest := []) (c_X0_ofFloat l D cy r8 e9) lk_RX4_73 rfl rfl hRMX0_ofFloat vaP_nil hK hN rfl hl.1 rfl (Nat.le_of_ble_eq_true rfl) ⟨Nat.le_of_ble_eq_true rfl, Nat.le_of_ble_eq_true rfl⟩ (dg ddX4_noiseAgain 10 rfl) ?_
  cases hf
  exact x_wi CX hr hlk rfl hP hD hS (dg ddX4_noiseAgain 11 rfl)
def f_X4_below (x_now : SV) (a1 : Int32) : Option ((Nat) ⊕ (UInt32)) := ob (f_X4_hindranceOfPitchNumber a1) fun r2 => (ob (f_X4_throwFor r2) fun r4 => (os r4 (fun t => some (.inl t)) fun _ => (og (inb a1 8) (ob (f_X3_noiseOn (g_kin x_now) (g_lou x_now) (g_pit x_now) a1) fun r7 => (og (n32 (FP.fsub ((g_lim x_now) a1.toNatClampNeg) r7)) (some (.inr (FP.fsub ((g_lim x_now) a1.toNatClampNeg) r7))))))))
set_option maxHeartbeats 4000000 in
set_option maxRecDepth 100000 in
theorem c_X4_below (l : Launch) (D : va_G) (cy : Nat → ClassId) (q : Nat → Nat → Nat) (x_isv : Int32) (x_te : Int32) (x_re : Int32) (x_de : Int32) (x_now : SV) (x_spa : SV) (x_sna : SV) (x_len : Int32) (x_sig : Nat → Int32) (x_nxt : Int32) (x_cnt : Int32) (x_rng : Nat → SV) (a1 : Int32) (sz : Nat) (hst : l.stackTraces = false) {res : (Nat) ⊕ (UInt32)} (hf : f_X4_below x_now a1 = some res) : vx_Met l yX4_below (.code yX4_below cX4_below 2 (some .float) :: lw_all) { frames := 7, cells := 1, slots := 6, locals := 119 } (va_Pc [.ref (q 0 0), .int a1] (sX D cy (wX4 q cy x_isv x_te x_re x_de x_now x_spa x_sna x_len x_sig x_nxt x_cnt x_rng) sz)) (xF (α := Nat) D (fun x : UInt32 => (wX4 q cy x_isv x_te x_re x_de x_now x_spa x_sna x_len x_sig x_nxt x_cnt x_rng)) (fun x : UInt32 => x) res (va_A (wX4 q cy x_isv x_te x_re x_de x_now x_spa x_sna x_len x_sig x_nxt x_cnt x_rng) sz)) (xX (β := UInt32) D (fun x : Nat => (wX4 q cy x_isv x_te x_re x_de x_now x_spa x_sna x_len x_sig x_nxt x_cnt x_rng)) (fun x : Nat => x) res (va_A (wX4 q cy x_isv x_te x_re x_de x_now x_spa x_sna x_len x_sig x_nxt x_cnt x_rng) sz)) 1 6 (va_A (wX4 q cy x_isv x_te x_re x_de x_now x_spa x_sna x_len x_sig x_nxt x_cnt x_rng) sz) := by
  refine mk_x (Qc := fun A => (xF (α := Nat) D (fun x : UInt32 => (wX4 q cy x_isv x_te x_re x_de x_now x_spa x_sna x_len x_sig x_nxt x_cnt x_rng)) (fun x : UInt32 => x) res A)) (XC := fun A => (xX (β := UInt32) D (fun x : Nat => (wX4 q cy x_isv x_te x_re x_de x_now x_spa x_sna x_len x_sig x_nxt x_cnt x_rng)) (fun x : Nat => x) res A)) (Rc := RX4) (by decide +kernel) rfl (Nat.le_of_ble_eq_true rfl) ?_
  intro p e s m args below meth c ls A CX hml hr hlk hK hN hP hD hS hA hl hout hX
  have hx := CX.1
  have hb := CX.2.1
  have hRMX3_noiseOn : (⟨5, 0, 0, 98⟩ : Room).frames + 1 ≤ (⟨7, 1, 6, 119⟩ : Room).frames ∧ 8 + (2 + 11) + (⟨5, 0, 0, 98⟩ : Room).locals ≤ (⟨7, 1, 6, 119⟩ : Room).locals := ⟨Nat.le_of_ble_eq_true rfl, Nat.le_of_ble_eq_true rfl⟩
  have hRMX4_hindranceOfPitchNumber : (⟨2, 0, 0, 32⟩ : Room).frames + 1 ≤ (⟨7, 1, 6, 119⟩ : Room).frames ∧ 8 + (1 + 11) + (⟨2, 0, 0, 32⟩ : Room).locals ≤ (⟨7, 1, 6, 119⟩ : Room).locals := ⟨Nat.le_of_ble_eq_true rfl, Nat.le_of_ble_eq_true rfl⟩
  have hRMX4_throwFor : (⟨6, 1, 6, 82⟩ : Room).frames + 1 ≤ (⟨7, 1, 6, 119⟩ : Room).frames ∧ 8 + (1 + 11) + (⟨6, 1, 6, 82⟩ : Room).locals ≤ (⟨7, 1, 6, 119⟩ : Room).locals := ⟨Nat.le_of_ble_eq_true rfl, Nat.le_of_ble_eq_true rfl⟩
  refine lv_iload_n hx hb (dg ddX4_below 0 rfl) rfl (lv_at hl 1 rfl) ?_
  obtain ⟨r2, e1, hf⟩ := ob_some hf
  refine cro_si CX hml (As := [.int a1]) (rest := []) (c_X4_hindranceOfPitchNumber l D cy a1 e1) lk_RX4_123 rfl rfl hRMX4_hindranceOfPitchNumber vaP_nil hK hN rfl hl.1 rfl (Nat.le_of_ble_eq_true rfl) ⟨Nat.le_of_ble_eq_true rfl, Nat.le_of_ble_eq_true rfl⟩ (dg ddX4_below 1 rfl) ?_
  obtain ⟨r4, e3, hf⟩ := ob_some hf
  rcases r4 with t9 | t9
  · cases os_l hf
    exact crx_t CX hml (As := [.int r2]) (rest := []) (c_X4_throwFor l D cy r2 _ hst e3) lk_RX4_54 rfl rfl hRMX4_throwFor hP hD hS hA hK hN hX hout hlk rfl rfl rfl hl.1 rfl (Nat.le_of_ble_eq_true rfl) ⟨(Nat.le_of_ble_eq_true rfl), (Nat.le_of_ble_eq_true rfl)⟩ (Nat.le_of_ble_eq_true rfl) (Nat.le_of_ble_eq_true rfl) (dg ddX4_below 2 rfl)
  have hf := os_r hf
  refine crx_r CX hml (As := [.int r2]) (rest := []) (c_X4_throwFor l D cy r2 _ hst e3) lk_RX4_54 rfl rfl hRMX4_throwFor hP hD hS hA hK hN hX rfl hl.1 rfl (Nat.le_of_ble_eq_true rfl) ⟨(Nat.le_of_ble_eq_true rfl), (Nat.le_of_ble_eq_true rfl)⟩ (dg ddX4_below 2 rfl) (fun H locs hP hS => ?_)
  refine lv_aload_n hx hb (dg ddX4_below 3 rfl) rfl (lv_at hl 0 rfl) ?_
  refine gf_RX4_10 CX hK hP 0 rfl rfl (dg ddX4_below 4 rfl) ?_
  refine gf_RX4_69 CX hK hP 1 rfl rfl (dg ddX4_below 5 rfl) ?_
  refine lv_iload_n hx hb (dg ddX4_below 6 rfl) rfl (lv_at hl 1 rfl) ?_
  obtain ⟨h5, hf⟩ := og_some hf
  refine va_fald hx hb hK hP 2 1 rfl rfl (inb_in h5) (dg ddX4_below 7 rfl) ?_
  refine lv_aload_n hx hb (dg ddX4_below 8 rfl) rfl (lv_at hl 0 rfl) ?_
  refine gf_RX4_10 CX hK hP 0 rfl rfl (dg ddX4_below 9 rfl) ?_
  refine lv_iload_n hx hb (dg ddX4_below 10 rfl) rfl (lv_at hl 1 rfl) ?_
  obtain ⟨r7, e6, hf⟩ := ob_some hf
  refine cro_vf CX hml (As := [.int a1]) (rest := [.float ((g_lim x_now) a1.toNatClampNeg)]) (c_X3_noiseOn l D cy (q 1) (g_hour x_now) (g_crowd x_now) (g_buskers x_now) (g_answered x_now) (g_draws x_now) (g_lim x_now) (g_cmp x_now) (g_sof x_now) (g_kin x_now) (g_lou x_now) (g_pit x_now) (g_pla x_now) (g_cas x_now) (g_hrs x_now) (g_nws x_now) (g_hat x_now) (g_wea x_now) (g_row x_now) a1 e6) lk_RX4_169 rfl rfl hRMX3_noiseOn (vaP_l (vaP_perm (pm_n _ _ _ _ _ _) hP)) hK hN 0 rfl rfl rfl hl.1 rfl (Nat.le_of_ble_eq_true rfl) ⟨Nat.le_of_ble_eq_true rfl, Nat.le_of_ble_eq_true rfl⟩ (dg ddX4_below 11 rfl) ?_
  obtain ⟨h8, hf⟩ := og_some hf
  refine lv_fsub hx hb (dg ddX4_below 12 rfl) (n32_in h8) ?_
  cases hf
  exact x_wf CX hr hlk rfl hP hD hS (dg ddX4_below 13 rfl)
def f_X4_noiseWith (x_now : SV) (a1 : Int32) (a2 : Int32) : Option ((Nat) ⊕ (Int32)) := ob (f_X4_hindranceOfPitchNumber a1) fun r2 => (ob (f_X4_throwFor r2) fun r4 => (os r4 (fun t => some (.inl t)) fun _ => (ob (f_X4_hindranceOfBuskerNumber x_now a2) fun r6 => (ob (f_X4_throwFor r6) fun r8 => (os r8 (fun t => some (.inl t)) fun _ => (ob (f_X3_noiseOf (g_kin x_now) (g_lou x_now) (g_pit x_now) a1 a2) fun r10 => (ob (f_X0_ofFloat r10) fun r12 => (some (.inr r12)))))))))
set_option maxHeartbeats 4000000 in
set_option maxRecDepth 100000 in
theorem c_X4_noiseWith (l : Launch) (D : va_G) (cy : Nat → ClassId) (q : Nat → Nat → Nat) (x_isv : Int32) (x_te : Int32) (x_re : Int32) (x_de : Int32) (x_now : SV) (x_spa : SV) (x_sna : SV) (x_len : Int32) (x_sig : Nat → Int32) (x_nxt : Int32) (x_cnt : Int32) (x_rng : Nat → SV) (a1 : Int32) (a2 : Int32) (sz : Nat) (hst : l.stackTraces = false) {res : (Nat) ⊕ (Int32)} (hf : f_X4_noiseWith x_now a1 a2 = some res) : vx_Met l yX4_noiseWith (.code yX4_noiseWith cX4_noiseWith 3 (some .int) :: lw_all) { frames := 7, cells := 2, slots := 12, locals := 120 } (va_Pc [.ref (q 0 0), .int a1, .int a2] (sX D cy (wX4 q cy x_isv x_te x_re x_de x_now x_spa x_sna x_len x_sig x_nxt x_cnt x_rng) sz)) (xI (α := Nat) D (fun x : Int32 => (wX4 q cy x_isv x_te x_re x_de x_now x_spa x_sna x_len x_sig x_nxt x_cnt x_rng)) (fun x : Int32 => x) res (va_A (wX4 q cy x_isv x_te x_re x_de x_now x_spa x_sna x_len x_sig x_nxt x_cnt x_rng) sz)) (xX (β := Int32) D (fun x : Nat => (wX4 q cy x_isv x_te x_re x_de x_now x_spa x_sna x_len x_sig x_nxt x_cnt x_rng)) (fun x : Nat => x) res (va_A (wX4 q cy x_isv x_te x_re x_de x_now x_spa x_sna x_len x_sig x_nxt x_cnt x_rng) sz)) 2 12 (va_A (wX4 q cy x_isv x_te x_re x_de x_now x_spa x_sna x_len x_sig x_nxt x_cnt x_rng) sz) := by
  refine mk_x (Qc := fun A => (xI (α := Nat) D (fun x : Int32 => (wX4 q cy x_isv x_te x_re x_de x_now x_spa x_sna x_len x_sig x_nxt x_cnt x_rng)) (fun x : Int32 => x) res A)) (XC := fun A => (xX (β := Int32) D (fun x : Nat => (wX4 q cy x_isv x_te x_re x_de x_now x_spa x_sna x_len x_sig x_nxt x_cnt x_rng)) (fun x : Nat => x) res A)) (Rc := RX4) (by decide +kernel) rfl (Nat.le_of_ble_eq_true rfl) ?_
  intro p e s m args below meth c ls A CX hml hr hlk hK hN hP hD hS hA hl hout hX
  have hx := CX.1
  have hb := CX.2.1
  have hRMX0_ofFloat : (⟨1, 0, 0, 12⟩ : Room).frames + 1 ≤ (⟨7, 2, 12, 120⟩ : Room).frames ∧ 8 + (3 + 11) + (⟨1, 0, 0, 12⟩ : Room).locals ≤ (⟨7, 2, 12, 120⟩ : Room).locals := ⟨Nat.le_of_ble_eq_true rfl, Nat.le_of_ble_eq_true rfl⟩
  have hRMX3_noiseOf : (⟨5, 0, 0, 98⟩ : Room).frames + 1 ≤ (⟨7, 2, 12, 120⟩ : Room).frames ∧ 8 + (3 + 11) + (⟨5, 0, 0, 98⟩ : Room).locals ≤ (⟨7, 2, 12, 120⟩ : Room).locals := ⟨Nat.le_of_ble_eq_true rfl, Nat.le_of_ble_eq_true rfl⟩
  have hRMX4_hindranceOfBuskerNumber : (⟨2, 0, 0, 33⟩ : Room).frames + 1 ≤ (⟨7, 2, 12, 120⟩ : Room).frames ∧ 8 + (2 + 11) + (⟨2, 0, 0, 33⟩ : Room).locals ≤ (⟨7, 2, 12, 120⟩ : Room).locals := ⟨Nat.le_of_ble_eq_true rfl, Nat.le_of_ble_eq_true rfl⟩
  have hRMX4_hindranceOfPitchNumber : (⟨2, 0, 0, 32⟩ : Room).frames + 1 ≤ (⟨7, 2, 12, 120⟩ : Room).frames ∧ 8 + (1 + 11) + (⟨2, 0, 0, 32⟩ : Room).locals ≤ (⟨7, 2, 12, 120⟩ : Room).locals := ⟨Nat.le_of_ble_eq_true rfl, Nat.le_of_ble_eq_true rfl⟩
  have hRMX4_throwFor : (⟨6, 1, 6, 82⟩ : Room).frames + 1 ≤ (⟨7, 2, 12, 120⟩ : Room).frames ∧ 8 + (1 + 11) + (⟨6, 1, 6, 82⟩ : Room).locals ≤ (⟨7, 2, 12, 120⟩ : Room).locals := ⟨Nat.le_of_ble_eq_true rfl, Nat.le_of_ble_eq_true rfl⟩
  refine lv_iload_n hx hb (dg ddX4_noiseWith 0 rfl) rfl (lv_at hl 1 rfl) ?_
  obtain ⟨r2, e1, hf⟩ := ob_some hf
  refine cro_si CX hml (As := [.int a1]) (rest := []) (c_X4_hindranceOfPitchNumber l D cy a1 e1) lk_RX4_123 rfl rfl hRMX4_hindranceOfPitchNumber vaP_nil hK hN rfl hl.1 rfl (Nat.le_of_ble_eq_true rfl) ⟨Nat.le_of_ble_eq_true rfl, Nat.le_of_ble_eq_true rfl⟩ (dg ddX4_noiseWith 1 rfl) ?_
  obtain ⟨r4, e3, hf⟩ := ob_some hf
  rcases r4 with t9 | t9
  · cases os_l hf
    exact crx_t CX hml (As := [.int r2]) (rest := []) (c_X4_throwFor l D cy r2 _ hst e3) lk_RX4_54 rfl rfl hRMX4_throwFor hP hD hS hA hK hN hX hout hlk rfl rfl rfl hl.1 rfl (Nat.le_of_ble_eq_true rfl) ⟨(Nat.le_of_ble_eq_true rfl), (Nat.le_of_ble_eq_true rfl)⟩ (Nat.le_of_ble_eq_true rfl) (Nat.le_of_ble_eq_true rfl) (dg ddX4_noiseWith 2 rfl)
  have hf := os_r hf
  refine crx_r CX hml (As := [.int r2]) (rest := []) (c_X4_throwFor l D cy r2 _ hst e3) lk_RX4_54 rfl rfl hRMX4_throwFor hP hD hS hA hK hN hX rfl hl.1 rfl (Nat.le_of_ble_eq_true rfl) ⟨(Nat.le_of_ble_eq_true rfl), (Nat.le_of_ble_eq_true rfl)⟩ (dg ddX4_noiseWith 2 rfl) (fun H locs hP hS => ?_)
  refine lv_aload_n hx hb (dg ddX4_noiseWith 3 rfl) rfl (lv_at hl 0 rfl) ?_
  refine lv_iload_n hx hb (dg ddX4_noiseWith 4 rfl) rfl (lv_at hl 2 rfl) ?_
  obtain ⟨r6, e5, hf⟩ := ob_some hf
  refine cro_vi CX hml (As := [.int a2]) (rest := []) (c_X4_hindranceOfBuskerNumber l D cy q x_isv x_te x_re x_de x_now x_spa x_sna x_len x_sig x_nxt x_cnt x_rng a2 e5) lk_RX4_85 rfl rfl hRMX4_hindranceOfBuskerNumber hP hK hN 0 rfl rfl rfl hl.1 rfl (Nat.le_of_ble_eq_true rfl) ⟨Nat.le_of_ble_eq_true rfl, Nat.le_of_ble_eq_true rfl⟩ (dg ddX4_noiseWith 5 rfl) ?_
  obtain ⟨r8, e7, hf⟩ := ob_some hf
  rcases r8 with t9 | t9
  · cases os_l hf
    exact crx_t CX hml (As := [.int r6]) (rest := []) (c_X4_throwFor l D cy r6 _ hst e7) lk_RX4_54 rfl rfl hRMX4_throwFor hP hD hS hA hK hN hX hout hlk rfl rfl rfl hl.1 rfl (Nat.le_of_ble_eq_true rfl) ⟨(Nat.le_of_ble_eq_true rfl), (Nat.le_of_ble_eq_true rfl)⟩ (Nat.le_of_ble_eq_true rfl) (Nat.le_of_ble_eq_true rfl) (dg ddX4_noiseWith 6 rfl)
  have hf := os_r hf
  refine crx_r CX hml (As := [.int r6]) (rest := []) (c_X4_throwFor l D cy r6 _ hst e7) lk_RX4_54 rfl rfl hRMX4_throwFor hP hD hS hA hK hN hX rfl hl.1 rfl (Nat.le_of_ble_eq_true rfl) ⟨(Nat.le_of_ble_eq_true rfl), (Nat.le_of_ble_eq_true rfl)⟩ (dg ddX4_noiseWith 6 rfl) (fun H locs hP hS => ?_)
  refine lv_aload_n hx hb (dg ddX4_noiseWith 7 rfl) rfl (lv_at hl 0 rfl) ?_
  refine gf_RX4_10 CX hK hP 0 rfl rfl (dg ddX4_noiseWith 8 rfl) ?_
  refine lv_iload_n hx hb (dg ddX4_noiseWith 9 rfl) rfl (lv_at hl 1 rfl) ?_
  refine lv_iload_n hx hb (dg ddX4_noiseWith 10 rfl) rfl (lv_at hl 2 rfl) ?_
  obtain ⟨r10, e9, hf⟩ := ob_some hf
  refine cro_vf CX hml (As := [.int a1, .int a2]) (rest := []) (c_X3_noiseOf l D cy (q 1) (g_hour x_now) (g_crowd x_now) (g_buskers x_now) (g_answered x_now) (g_draws x_now) (g_lim x_now) (g_cmp x_now) (g_sof x_now) (g_kin x_now) (g_lou x_now) (g_pit x_now) (g_pla x_now) (g_cas x_now) (g_hrs x_now) (g_nws x_now) (g_hat x_now) (g_wea x_now) (g_row x_now) a1 a2 e9) lk_RX4_179 rfl rfl hRMX3_noiseOf (vaP_l (vaP_perm (pm_n _ _ _ _ _ _) hP)) hK hN 0 rfl rfl rfl hl.1 rfl (Nat.le_of_ble_eq_true rfl) ⟨Nat.le_of_ble_eq_true rfl, Nat.le_of_ble_eq_true rfl⟩ (dg ddX4_noiseWith 11 rfl) ?_
  obtain ⟨r12, e11, hf⟩ := ob_some hf
  refine cro_si CX hml (As := [.float r10]) (rest := []) (c_X0_ofFloat l D cy r10 e11) lk_RX4_73 rfl rfl hRMX0_ofFloat vaP_nil hK hN rfl hl.1 rfl (Nat.le_of_ble_eq_true rfl) ⟨Nat.le_of_ble_eq_true rfl, Nat.le_of_ble_eq_true rfl⟩ (dg ddX4_noiseWith 12 rfl) ?_
  cases hf
  exact x_wi CX hr hlk rfl hP hD hS (dg ddX4_noiseWith 13 rfl)
def f_X4_quietest (x_now : SV) (a1 : Int32) : Option ((Nat) ⊕ (Int32)) := ob (f_X4_hindranceOfBuskerNumber x_now a1) fun r2 => (ob (f_X4_throwFor r2) fun r4 => (os r4 (fun t => some (.inl t)) fun _ => (ob (f_X3_quietestFor (g_lim x_now) (g_kin x_now) (g_lou x_now) (g_pit x_now) a1) fun r6 => (if r6 = (-1) then (some (.inl 4)) else (some (.inr r6))))))
set_option maxHeartbeats 4000000 in
set_option maxRecDepth 100000 in
theorem c_X4_quietest (l : Launch) (D : va_G) (cy : Nat → ClassId) (q : Nat → Nat → Nat) (x_isv : Int32) (x_te : Int32) (x_re : Int32) (x_de : Int32) (x_now : SV) (x_spa : SV) (x_sna : SV) (x_len : Int32) (x_sig : Nat → Int32) (x_nxt : Int32) (x_cnt : Int32) (x_rng : Nat → SV) (a1 : Int32) (sz : Nat) (hst : l.stackTraces = false) {res : (Nat) ⊕ (Int32)} (hf : f_X4_quietest x_now a1 = some res) : vx_Met l yX4_quietest (.code yX4_quietest cX4_quietest 3 (some .int) :: lw_all) { frames := 7, cells := 2, slots := 12, locals := 146 } (va_Pc [.ref (q 0 0), .int a1] (sX D cy (wX4 q cy x_isv x_te x_re x_de x_now x_spa x_sna x_len x_sig x_nxt x_cnt x_rng) sz)) (xI (α := Nat) D (fun x : Int32 => (wX4 q cy x_isv x_te x_re x_de x_now x_spa x_sna x_len x_sig x_nxt x_cnt x_rng)) (fun x : Int32 => x) res (va_A (wX4 q cy x_isv x_te x_re x_de x_now x_spa x_sna x_len x_sig x_nxt x_cnt x_rng) sz)) (xX (β := Int32) D (fun x : Nat => (wX4 q cy x_isv x_te x_re x_de x_now x_spa x_sna x_len x_sig x_nxt x_cnt x_rng)) (fun x : Nat => x) res (va_A (wX4 q cy x_isv x_te x_re x_de x_now x_spa x_sna x_len x_sig x_nxt x_cnt x_rng) sz)) 2 12 (va_A (wX4 q cy x_isv x_te x_re x_de x_now x_spa x_sna x_len x_sig x_nxt x_cnt x_rng) sz) := by
  refine mk_x (Qc := fun A => (xI (α := Nat) D (fun x : Int32 => (wX4 q cy x_isv x_te x_re x_de x_now x_spa x_sna x_len x_sig x_nxt x_cnt x_rng)) (fun x : Int32 => x) res A)) (XC := fun A => (xX (β := Int32) D (fun x : Nat => (wX4 q cy x_isv x_te x_re x_de x_now x_spa x_sna x_len x_sig x_nxt x_cnt x_rng)) (fun x : Nat => x) res A)) (Rc := RX4) (by decide +kernel) rfl (Nat.le_of_ble_eq_true rfl) ?_
  intro p e s m args below meth c ls A CX hml hr hlk hK hN hP hD hS hA hl hout hX
  have hx := CX.1
  have hb := CX.2.1
  have hRMX3_quietestFor : (⟨6, 0, 0, 120⟩ : Room).frames + 1 ≤ (⟨7, 2, 12, 146⟩ : Room).frames ∧ 8 + (7 + 11) + (⟨6, 0, 0, 120⟩ : Room).locals ≤ (⟨7, 2, 12, 146⟩ : Room).locals := ⟨Nat.le_of_ble_eq_true rfl, Nat.le_of_ble_eq_true rfl⟩
  have hRMX4_hindranceOfBuskerNumber : (⟨2, 0, 0, 33⟩ : Room).frames + 1 ≤ (⟨7, 2, 12, 146⟩ : Room).frames ∧ 8 + (2 + 11) + (⟨2, 0, 0, 33⟩ : Room).locals ≤ (⟨7, 2, 12, 146⟩ : Room).locals := ⟨Nat.le_of_ble_eq_true rfl, Nat.le_of_ble_eq_true rfl⟩
  have hRMX4_throwFor : (⟨6, 1, 6, 82⟩ : Room).frames + 1 ≤ (⟨7, 2, 12, 146⟩ : Room).frames ∧ 8 + (1 + 11) + (⟨6, 1, 6, 82⟩ : Room).locals ≤ (⟨7, 2, 12, 146⟩ : Room).locals := ⟨Nat.le_of_ble_eq_true rfl, Nat.le_of_ble_eq_true rfl⟩
  refine lv_aload_n hx hb (dg ddX4_quietest 0 rfl) rfl (lv_at hl 0 rfl) ?_
  refine lv_iload_n hx hb (dg ddX4_quietest 1 rfl) rfl (lv_at hl 1 rfl) ?_
  obtain ⟨r2, e1, hf⟩ := ob_some hf
  refine cro_vi CX hml (As := [.int a1]) (rest := []) (c_X4_hindranceOfBuskerNumber l D cy q x_isv x_te x_re x_de x_now x_spa x_sna x_len x_sig x_nxt x_cnt x_rng a1 e1) lk_RX4_85 rfl rfl hRMX4_hindranceOfBuskerNumber hP hK hN 0 rfl rfl rfl hl.1 rfl (Nat.le_of_ble_eq_true rfl) ⟨Nat.le_of_ble_eq_true rfl, Nat.le_of_ble_eq_true rfl⟩ (dg ddX4_quietest 2 rfl) ?_
  obtain ⟨r4, e3, hf⟩ := ob_some hf
  rcases r4 with t9 | t9
  · cases os_l hf
    exact crx_t CX hml (As := [.int r2]) (rest := []) (c_X4_throwFor l D cy r2 _ hst e3) lk_RX4_54 rfl rfl hRMX4_throwFor hP hD hS hA hK hN hX hout hlk rfl rfl rfl hl.1 rfl (Nat.le_of_ble_eq_true rfl) ⟨(Nat.le_of_ble_eq_true rfl), (Nat.le_of_ble_eq_true rfl)⟩ (Nat.le_of_ble_eq_true rfl) (Nat.le_of_ble_eq_true rfl) (dg ddX4_quietest 3 rfl)
  have hf := os_r hf
  refine crx_r CX hml (As := [.int r2]) (rest := []) (c_X4_throwFor l D cy r2 _ hst e3) lk_RX4_54 rfl rfl hRMX4_throwFor hP hD hS hA hK hN hX rfl hl.1 rfl (Nat.le_of_ble_eq_true rfl) ⟨(Nat.le_of_ble_eq_true rfl), (Nat.le_of_ble_eq_true rfl)⟩ (dg ddX4_quietest 3 rfl) (fun H locs hP hS => ?_)
  refine lv_aload_n hx hb (dg ddX4_quietest 4 rfl) rfl (lv_at hl 0 rfl) ?_
  refine gf_RX4_10 CX hK hP 0 rfl rfl (dg ddX4_quietest 5 rfl) ?_
  refine lv_iload_n hx hb (dg ddX4_quietest 6 rfl) rfl (lv_at hl 1 rfl) ?_
  obtain ⟨r6, e5, hf⟩ := ob_some hf
  refine cro_vi CX hml (As := [.int a1]) (rest := []) (c_X3_quietestFor l D cy (q 1) (g_hour x_now) (g_crowd x_now) (g_buskers x_now) (g_answered x_now) (g_draws x_now) (g_lim x_now) (g_cmp x_now) (g_sof x_now) (g_kin x_now) (g_lou x_now) (g_pit x_now) (g_pla x_now) (g_cas x_now) (g_hrs x_now) (g_nws x_now) (g_hat x_now) (g_wea x_now) (g_row x_now) a1 e5) lk_RX4_183 rfl rfl hRMX3_quietestFor (vaP_l (vaP_perm (pm_n _ _ _ _ _ _) hP)) hK hN 0 rfl rfl rfl hl.1 rfl (Nat.le_of_ble_eq_true rfl) ⟨Nat.le_of_ble_eq_true rfl, Nat.le_of_ble_eq_true rfl⟩ (dg ddX4_quietest 7 rfl) ?_
  refine lv_istore_n (lv' := [(2, .int r6), (0, .ref (q 0 0)), (1, .int a1)]) hx hb (dg ddX4_quietest 8 rfl) rfl hl (by decide) rfl (fun ls hl => ?_)
  refine lv_iload_n hx hb (dg ddX4_quietest 9 rfl) rfl (lv_at hl 0 rfl) ?_
  refine lv_iconst (v := (-1)) hx hb (dg ddX4_quietest 10 rfl) (by decide) ?_
  refine lv_icmp_ne (tgt := 32) hx hb (dg ddX4_quietest 11 rfl) (by decide) (fun h7 => ?_) (fun h7 => ?_)
  · have hf := it_f h7 hf
    refine lv_iload_n hx hb (dg ddX4_quietest 17 rfl) rfl (lv_at hl 0 rfl) ?_
    cases hf
    refine W.widen (k := 2) (n := 12) (Nat.le_of_ble_eq_true rfl) (Nat.le_of_ble_eq_true rfl) ?_
    exact x_wi CX hr hlk rfl hP hD hS (dg ddX4_quietest 18 rfl)
  · have hf := it_t h7 hf
    cases hf
    exact xt_4_S (is := 186) (tx := "no pitch is free and quiet enough") (by decide +kernel) CX (hml.trans hl.1.symm) hst hX hout hlk rfl hP hD hS (Nat.le_of_ble_eq_true rfl) (Nat.le_of_ble_eq_true rfl) (Nat.le_of_ble_eq_true rfl) (Nat.le_of_ble_eq_true rfl) (Nat.le_of_ble_eq_true rfl) (Nat.le_of_ble_eq_true rfl) (dg ddX4_quietest 12 rfl) (dg ddX4_quietest 13 rfl) (dg ddX4_quietest 14 rfl) (dg ddX4_quietest 15 rfl) (dg ddX4_quietest 16 rfl)
def f_X4_strings (x_re : Int32) (x_de : Int32) (x_now : SV) (x_nxt : Int32) (x_cnt : Int32) (x_rng : Nat → SV) (a1 : Int32) : Option ((Nat × Int32 × Int32 × SV × Int32 × Int32 × (Nat → SV)) ⊕ (Int32 × Int32 × Int32 × SV × Int32 × Int32 × (Nat → SV))) := ob (f_X4_hindranceOfStrings x_re x_de x_now a1) fun r2 => (ob (f_X4_throwFor r2.1) fun r4 => (os r4 (fun t => some (.inl (t, r2.2.1, r2.2.2, x_now, x_nxt, x_cnt, x_rng))) fun _ => (ob (f_X1_keep x_nxt x_cnt x_rng x_now) fun r6 => (ob (f_X3_buyStrings (g_nws x_now) (g_hat x_now) (g_wea x_now) a1) fun r8 => (og (inb a1 8) (ob (f_X0_ofFloat (r8.2.1 a1.toNatClampNeg)) fun r11 => (some (.inr (r11, r2.2.1, r2.2.2, (s_wea (s_hat (s_nws x_now r8.1) r8.2.1) r8.2.2), r6.1, r6.2.1, r6.2.2)))))))))
set_option maxHeartbeats 4000000 in
set_option maxRecDepth 100000 in
theorem c_X4_strings (l : Launch) (D : va_G) (cy : Nat → ClassId) (q : Nat → Nat → Nat) (x_isv : Int32) (x_te : Int32) (x_re : Int32) (x_de : Int32) (x_now : SV) (x_spa : SV) (x_sna : SV) (x_len : Int32) (x_sig : Nat → Int32) (x_nxt : Int32) (x_cnt : Int32) (x_rng : Nat → SV) (a1 : Int32) (sz : Nat) (hst : l.stackTraces = false) {res : (Nat × Int32 × Int32 × SV × Int32 × Int32 × (Nat → SV)) ⊕ (Int32 × Int32 × Int32 × SV × Int32 × Int32 × (Nat → SV))} (hf : f_X4_strings x_re x_de x_now x_nxt x_cnt x_rng a1 = some res) : vx_Met l yX4_strings (.code yX4_strings cX4_strings 2 (some .int) :: lw_all) { frames := 7, cells := 1, slots := 6, locals := 102 } (va_Pc [.ref (q 0 0), .int a1] (sX D cy (wX4 q cy x_isv x_te x_re x_de x_now x_spa x_sna x_len x_sig x_nxt x_cnt x_rng) sz)) (xI (α := Nat × Int32 × Int32 × SV × Int32 × Int32 × (Nat → SV)) D (fun x : Int32 × Int32 × Int32 × SV × Int32 × Int32 × (Nat → SV) => (wX4 q cy x_isv x_te x.2.1 x.2.2.1 x.2.2.2.1 x_spa x_sna x_len x_sig x.2.2.2.2.1 x.2.2.2.2.2.1 x.2.2.2.2.2.2)) (fun x : Int32 × Int32 × Int32 × SV × Int32 × Int32 × (Nat → SV) => x.1) res (va_A (wX4 q cy x_isv x_te x_re x_de x_now x_spa x_sna x_len x_sig x_nxt x_cnt x_rng) sz)) (xX (β := Int32 × Int32 × Int32 × SV × Int32 × Int32 × (Nat → SV)) D (fun x : Nat × Int32 × Int32 × SV × Int32 × Int32 × (Nat → SV) => (wX4 q cy x_isv x_te x.2.1 x.2.2.1 x.2.2.2.1 x_spa x_sna x_len x_sig x.2.2.2.2.1 x.2.2.2.2.2.1 x.2.2.2.2.2.2)) (fun x : Nat × Int32 × Int32 × SV × Int32 × Int32 × (Nat → SV) => x.1) res (va_A (wX4 q cy x_isv x_te x_re x_de x_now x_spa x_sna x_len x_sig x_nxt x_cnt x_rng) sz)) 1 6 (va_A (wX4 q cy x_isv x_te x_re x_de x_now x_spa x_sna x_len x_sig x_nxt x_cnt x_rng) sz) := by
  refine mk_x (Qc := fun A => (xI (α := Nat × Int32 × Int32 × SV × Int32 × Int32 × (Nat → SV)) D (fun x : Int32 × Int32 × Int32 × SV × Int32 × Int32 × (Nat → SV) => (wX4 q cy x_isv x_te x.2.1 x.2.2.1 x.2.2.2.1 x_spa x_sna x_len x_sig x.2.2.2.2.1 x.2.2.2.2.2.1 x.2.2.2.2.2.2)) (fun x : Int32 × Int32 × Int32 × SV × Int32 × Int32 × (Nat → SV) => x.1) res A)) (XC := fun A => (xX (β := Int32 × Int32 × Int32 × SV × Int32 × Int32 × (Nat → SV)) D (fun x : Nat × Int32 × Int32 × SV × Int32 × Int32 × (Nat → SV) => (wX4 q cy x_isv x_te x.2.1 x.2.2.1 x.2.2.2.1 x_spa x_sna x_len x_sig x.2.2.2.2.1 x.2.2.2.2.2.1 x.2.2.2.2.2.2)) (fun x : Nat × Int32 × Int32 × SV × Int32 × Int32 × (Nat → SV) => x.1) res A)) (Rc := RX4) (by decide +kernel) rfl (Nat.le_of_ble_eq_true rfl) ?_
  intro p e s m args below meth c ls A CX hml hr hlk hK hN hP hD hS hA hl hout hX
  have hx := CX.1
  have hb := CX.2.1
  have hRMX0_ofFloat : (⟨1, 0, 0, 12⟩ : Room).frames + 1 ≤ (⟨7, 1, 6, 102⟩ : Room).frames ∧ 8 + (3 + 11) + (⟨1, 0, 0, 12⟩ : Room).locals ≤ (⟨7, 1, 6, 102⟩ : Room).locals := ⟨Nat.le_of_ble_eq_true rfl, Nat.le_of_ble_eq_true rfl⟩
  have hRMX1_keep : (⟨2, 0, 0, 61⟩ : Room).frames + 1 ≤ (⟨7, 1, 6, 102⟩ : Room).frames ∧ 8 + (3 + 11) + (⟨2, 0, 0, 61⟩ : Room).locals ≤ (⟨7, 1, 6, 102⟩ : Room).locals := ⟨Nat.le_of_ble_eq_true rfl, Nat.le_of_ble_eq_true rfl⟩
  have hRMX3_buyStrings : (⟨1, 0, 0, 12⟩ : Room).frames + 1 ≤ (⟨7, 1, 6, 102⟩ : Room).frames ∧ 8 + (2 + 11) + (⟨1, 0, 0, 12⟩ : Room).locals ≤ (⟨7, 1, 6, 102⟩ : Room).locals := ⟨Nat.le_of_ble_eq_true rfl, Nat.le_of_ble_eq_true rfl⟩
  have hRMX4_hindranceOfStrings : (⟨2, 0, 0, 34⟩ : Room).frames + 1 ≤ (⟨7, 1, 6, 102⟩ : Room).frames ∧ 8 + (2 + 11) + (⟨2, 0, 0, 34⟩ : Room).locals ≤ (⟨7, 1, 6, 102⟩ : Room).locals := ⟨Nat.le_of_ble_eq_true rfl, Nat.le_of_ble_eq_true rfl⟩
  have hRMX4_throwFor : (⟨6, 1, 6, 82⟩ : Room).frames + 1 ≤ (⟨7, 1, 6, 102⟩ : Room).frames ∧ 8 + (1 + 11) + (⟨6, 1, 6, 82⟩ : Room).locals ≤ (⟨7, 1, 6, 102⟩ : Room).locals := ⟨Nat.le_of_ble_eq_true rfl, Nat.le_of_ble_eq_true rfl⟩
  refine lv_aload_n hx hb (dg ddX4_strings 0 rfl) rfl (lv_at hl 0 rfl) ?_
  refine lv_iload_n hx hb (dg ddX4_strings 1 rfl) rfl (lv_at hl 1 rfl) ?_
  obtain ⟨r2, e1, hf⟩ := ob_some hf
  refine crw_vi CX hml (As := [.int a1]) (rest := []) (c_X4_hindranceOfStrings l D cy q x_isv x_te x_re x_de x_now x_spa x_sna x_len x_sig x_nxt x_cnt x_rng a1 _ e1) lk_RX4_188 rfl rfl hRMX4_hindranceOfStrings hP hD hS hA hK hN 0 rfl rfl rfl hl.1 rfl (Nat.le_of_ble_eq_true rfl) ⟨Nat.le_of_ble_eq_true rfl, Nat.le_of_ble_eq_true rfl⟩ (dg ddX4_strings 2 rfl) (fun H locs hP hD hS => ?_)
  obtain ⟨r4, e3, hf⟩ := ob_some hf
  rcases r4 with t9 | t9
  · cases os_l hf
    exact crx_t CX hml (As := [.int r2.1]) (rest := []) (c_X4_throwFor l D cy r2.1 _ hst e3) lk_RX4_54 rfl rfl hRMX4_throwFor hP hD hS hA hK hN hX hout hlk rfl rfl rfl hl.1 rfl (Nat.le_of_ble_eq_true rfl) ⟨(Nat.le_of_ble_eq_true rfl), (Nat.le_of_ble_eq_true rfl)⟩ (Nat.le_of_ble_eq_true rfl) (Nat.le_of_ble_eq_true rfl) (dg ddX4_strings 3 rfl)
  have hf := os_r hf
  refine crx_r CX hml (As := [.int r2.1]) (rest := []) (c_X4_throwFor l D cy r2.1 _ hst e3) lk_RX4_54 rfl rfl hRMX4_throwFor hP hD hS hA hK hN hX rfl hl.1 rfl (Nat.le_of_ble_eq_true rfl) ⟨(Nat.le_of_ble_eq_true rfl), (Nat.le_of_ble_eq_true rfl)⟩ (dg ddX4_strings 3 rfl) (fun H locs hP hS => ?_)
  refine lv_aload_n hx hb (dg ddX4_strings 4 rfl) rfl (lv_at hl 0 rfl) ?_
  refine gf_RX4_29 CX hK hP 0 rfl rfl (dg ddX4_strings 5 rfl) ?_
  refine lv_aload_n hx hb (dg ddX4_strings 6 rfl) rfl (lv_at hl 0 rfl) ?_
  refine gf_RX4_10 CX hK hP 0 rfl rfl (dg ddX4_strings 7 rfl) ?_
  obtain ⟨r6, e5, hf⟩ := ob_some hf
  refine crf_vv CX hml (As := [.ref (q 1 0)]) (rest := []) (ws := (wX4 q cy x_isv x_te r2.2.1 r2.2.2 x_now x_spa x_sna x_len x_sig x_nxt x_cnt x_rng)) (wsn := (wX4 q cy x_isv x_te r2.2.1 r2.2.2 x_now x_spa x_sna x_len x_sig r6.1 r6.2.1 r6.2.2)) (c_X1_keep l D cy q (q 1) x_nxt x_cnt x_rng x_now _ e5) lk_RX4_58 rfl rfl hRMX1_keep hP hD hS hA hK hN (pm_hn _ _ _ _ _ _) ((pm_hn _ _ _ _ _ _).symm) 0 rfl rfl rfl hl.1 rfl (Nat.le_of_ble_eq_true rfl) ⟨Nat.le_of_ble_eq_true rfl, Nat.le_of_ble_eq_true rfl⟩ (dg ddX4_strings 8 rfl) (fun H locs hP hD hS => ?_)
  refine lv_aload_n hx hb (dg ddX4_strings 9 rfl) rfl (lv_at hl 0 rfl) ?_
  refine gf_RX4_10 CX hK hP 0 rfl rfl (dg ddX4_strings 10 rfl) ?_
  refine lv_iload_n hx hb (dg ddX4_strings 11 rfl) rfl (lv_at hl 1 rfl) ?_
  obtain ⟨r8, e7, hf⟩ := ob_some hf
  refine crf_vv CX hml (As := [.int a1]) (rest := []) (ws := (wX4 q cy x_isv x_te r2.2.1 r2.2.2 x_now x_spa x_sna x_len x_sig r6.1 r6.2.1 r6.2.2)) (wsn := (wX4 q cy x_isv x_te r2.2.1 r2.2.2 (s_wea (s_hat (s_nws x_now r8.1) r8.2.1) r8.2.2) x_spa x_sna x_len x_sig r6.1 r6.2.1 r6.2.2)) (c_X3_buyStrings l D cy (q 1) (g_hour x_now) (g_crowd x_now) (g_buskers x_now) (g_answered x_now) (g_draws x_now) (g_lim x_now) (g_cmp x_now) (g_sof x_now) (g_kin x_now) (g_lou x_now) (g_pit x_now) (g_pla x_now) (g_cas x_now) (g_hrs x_now) (g_nws x_now) (g_hat x_now) (g_wea x_now) (g_row x_now) a1 _ e7) lk_RX4_191 rfl rfl hRMX3_buyStrings hP hD hS hA hK hN (pm_n _ _ _ _ _ _) ((pm_n _ _ _ _ _ _).symm) 0 rfl rfl rfl hl.1 rfl (Nat.le_of_ble_eq_true rfl) ⟨Nat.le_of_ble_eq_true rfl, Nat.le_of_ble_eq_true rfl⟩ (dg ddX4_strings 12 rfl) (fun H locs hP hD hS => ?_)
  refine lv_aload_n hx hb (dg ddX4_strings 13 rfl) rfl (lv_at hl 0 rfl) ?_
  refine gf_RX4_10 CX hK hP 0 rfl rfl (dg ddX4_strings 14 rfl) ?_
  refine gf_RX4_117 CX hK hP 1 rfl rfl (dg ddX4_strings 15 rfl) ?_
  refine lv_iload_n hx hb (dg ddX4_strings 16 rfl) rfl (lv_at hl 1 rfl) ?_
  obtain ⟨h9, hf⟩ := og_some hf
  refine va_fald hx hb hK hP 12 1 rfl rfl (inb_in h9) (dg ddX4_strings 17 rfl) ?_
  obtain ⟨r11, e10, hf⟩ := ob_some hf
  refine cro_si CX hml (As := [.float (r8.2.1 a1.toNatClampNeg)]) (rest := []) (c_X0_ofFloat l D cy (r8.2.1 a1.toNatClampNeg) e10) lk_RX4_73 rfl rfl hRMX0_ofFloat vaP_nil hK hN rfl hl.1 rfl (Nat.le_of_ble_eq_true rfl) ⟨Nat.le_of_ble_eq_true rfl, Nat.le_of_ble_eq_true rfl⟩ (dg ddX4_strings 18 rfl) ?_
  cases hf
  exact x_wi CX hr hlk rfl hP hD hS (dg ddX4_strings 19 rfl)
def f_X4_snapsIn (x_now : SV) (a1 : Int32) : Option ((Nat) ⊕ (Int32)) := ob (f_X4_hindranceOfBuskerNumber x_now a1) fun r2 => (ob (f_X4_throwFor r2) fun r4 => (os r4 (fun t => some (.inl t)) fun _ => (og (inb a1 8) (if ((g_kin x_now) a1.toNatClampNeg) = 1 then (some (.inl 4)) else (ob (f_X3_hoursUntilSnapped (g_lou x_now) (g_wea x_now) a1) fun r8 => (some (.inr r8)))))))
set_option maxHeartbeats 4000000 in
set_option maxRecDepth 100000 in
theorem c_X4_snapsIn (l : Launch) (D : va_G) (cy : Nat → ClassId) (q : Nat → Nat → Nat) (x_isv : Int32) (x_te : Int32) (x_re : Int32) (x_de : Int32) (x_now : SV) (x_spa : SV) (x_sna : SV) (x_len : Int32) (x_sig : Nat → Int32) (x_nxt : Int32) (x_cnt : Int32) (x_rng : Nat → SV) (a1 : Int32) (sz : Nat) (hst : l.stackTraces = false) {res : (Nat) ⊕ (Int32)} (hf : f_X4_snapsIn x_now a1 = some res) : vx_Met l yX4_snapsIn (.code yX4_snapsIn cX4_snapsIn 2 (some .int) :: lw_all) { frames := 7, cells := 2, slots := 12, locals := 102 } (va_Pc [.ref (q 0 0), .int a1] (sX D cy (wX4 q cy x_isv x_te x_re x_de x_now x_spa x_sna x_len x_sig x_nxt x_cnt x_rng) sz)) (xI (α := Nat) D (fun x : Int32 => (wX4 q cy x_isv x_te x_re x_de x_now x_spa x_sna x_len x_sig x_nxt x_cnt x_rng)) (fun x : Int32 => x) res (va_A (wX4 q cy x_isv x_te x_re x_de x_now x_spa x_sna x_len x_sig x_nxt x_cnt x_rng) sz)) (xX (β := Int32) D (fun x : Nat => (wX4 q cy x_isv x_te x_re x_de x_now x_spa x_sna x_len x_sig x_nxt x_cnt x_rng)) (fun x : Nat => x) res (va_A (wX4 q cy x_isv x_te x_re x_de x_now x_spa x_sna x_len x_sig x_nxt x_cnt x_rng) sz)) 2 12 (va_A (wX4 q cy x_isv x_te x_re x_de x_now x_spa x_sna x_len x_sig x_nxt x_cnt x_rng) sz) := by
  refine mk_x (Qc := fun A => (xI (α := Nat) D (fun x : Int32 => (wX4 q cy x_isv x_te x_re x_de x_now x_spa x_sna x_len x_sig x_nxt x_cnt x_rng)) (fun x : Int32 => x) res A)) (XC := fun A => (xX (β := Int32) D (fun x : Nat => (wX4 q cy x_isv x_te x_re x_de x_now x_spa x_sna x_len x_sig x_nxt x_cnt x_rng)) (fun x : Nat => x) res A)) (Rc := RX4) (by decide +kernel) rfl (Nat.le_of_ble_eq_true rfl) ?_
  intro p e s m args below meth c ls A CX hml hr hlk hK hN hP hD hS hA hl hout hX
  have hx := CX.1
  have hb := CX.2.1
  have hRMX3_hoursUntilSnapped : (⟨2, 0, 0, 33⟩ : Room).frames + 1 ≤ (⟨7, 2, 12, 102⟩ : Room).frames ∧ 8 + (4 + 11) + (⟨2, 0, 0, 33⟩ : Room).locals ≤ (⟨7, 2, 12, 102⟩ : Room).locals := ⟨Nat.le_of_ble_eq_true rfl, Nat.le_of_ble_eq_true rfl⟩
  have hRMX4_hindranceOfBuskerNumber : (⟨2, 0, 0, 33⟩ : Room).frames + 1 ≤ (⟨7, 2, 12, 102⟩ : Room).frames ∧ 8 + (2 + 11) + (⟨2, 0, 0, 33⟩ : Room).locals ≤ (⟨7, 2, 12, 102⟩ : Room).locals := ⟨Nat.le_of_ble_eq_true rfl, Nat.le_of_ble_eq_true rfl⟩
  have hRMX4_throwFor : (⟨6, 1, 6, 82⟩ : Room).frames + 1 ≤ (⟨7, 2, 12, 102⟩ : Room).frames ∧ 8 + (1 + 11) + (⟨6, 1, 6, 82⟩ : Room).locals ≤ (⟨7, 2, 12, 102⟩ : Room).locals := ⟨Nat.le_of_ble_eq_true rfl, Nat.le_of_ble_eq_true rfl⟩
  refine lv_aload_n hx hb (dg ddX4_snapsIn 0 rfl) rfl (lv_at hl 0 rfl) ?_
  refine lv_iload_n hx hb (dg ddX4_snapsIn 1 rfl) rfl (lv_at hl 1 rfl) ?_
  obtain ⟨r2, e1, hf⟩ := ob_some hf
  refine cro_vi CX hml (As := [.int a1]) (rest := []) (c_X4_hindranceOfBuskerNumber l D cy q x_isv x_te x_re x_de x_now x_spa x_sna x_len x_sig x_nxt x_cnt x_rng a1 e1) lk_RX4_85 rfl rfl hRMX4_hindranceOfBuskerNumber hP hK hN 0 rfl rfl rfl hl.1 rfl (Nat.le_of_ble_eq_true rfl) ⟨Nat.le_of_ble_eq_true rfl, Nat.le_of_ble_eq_true rfl⟩ (dg ddX4_snapsIn 2 rfl) ?_
  obtain ⟨r4, e3, hf⟩ := ob_some hf
  rcases r4 with t9 | t9
  · cases os_l hf
    exact crx_t CX hml (As := [.int r2]) (rest := []) (c_X4_throwFor l D cy r2 _ hst e3) lk_RX4_54 rfl rfl hRMX4_throwFor hP hD hS hA hK hN hX hout hlk rfl rfl rfl hl.1 rfl (Nat.le_of_ble_eq_true rfl) ⟨(Nat.le_of_ble_eq_true rfl), (Nat.le_of_ble_eq_true rfl)⟩ (Nat.le_of_ble_eq_true rfl) (Nat.le_of_ble_eq_true rfl) (dg ddX4_snapsIn 3 rfl)
  have hf := os_r hf
  refine crx_r CX hml (As := [.int r2]) (rest := []) (c_X4_throwFor l D cy r2 _ hst e3) lk_RX4_54 rfl rfl hRMX4_throwFor hP hD hS hA hK hN hX rfl hl.1 rfl (Nat.le_of_ble_eq_true rfl) ⟨(Nat.le_of_ble_eq_true rfl), (Nat.le_of_ble_eq_true rfl)⟩ (dg ddX4_snapsIn 3 rfl) (fun H locs hP hS => ?_)
  refine lv_aload_n hx hb (dg ddX4_snapsIn 4 rfl) rfl (lv_at hl 0 rfl) ?_
  refine gf_RX4_10 CX hK hP 0 rfl rfl (dg ddX4_snapsIn 5 rfl) ?_
  refine gf_RX4_88 CX hK hP 1 rfl rfl (dg ddX4_snapsIn 6 rfl) ?_
  refine lv_iload_n hx hb (dg ddX4_snapsIn 7 rfl) rfl (lv_at hl 1 rfl) ?_
  obtain ⟨h5, hf⟩ := og_some hf
  refine va_iald hx hb hK hP 5 0 rfl rfl (inb_in h5) (dg ddX4_snapsIn 8 rfl) ?_
  refine lv_iconst (v := 1) hx hb (dg ddX4_snapsIn 9 rfl) (by decide) ?_
  refine lv_icmp_ne (tgt := 31) hx hb (dg ddX4_snapsIn 10 rfl) (by decide) (fun h6 => ?_) (fun h6 => ?_)
  · have hf := it_f h6 hf
    refine lv_aload_n hx hb (dg ddX4_snapsIn 16 rfl) rfl (lv_at hl 0 rfl) ?_
    refine gf_RX4_10 CX hK hP 0 rfl rfl (dg ddX4_snapsIn 17 rfl) ?_
    refine lv_iload_n hx hb (dg ddX4_snapsIn 18 rfl) rfl (lv_at hl 1 rfl) ?_
    obtain ⟨r8, e7, hf⟩ := ob_some hf
    refine cro_vi CX hml (As := [.int a1]) (rest := []) (c_X3_hoursUntilSnapped l D cy (q 1) (g_hour x_now) (g_crowd x_now) (g_buskers x_now) (g_answered x_now) (g_draws x_now) (g_lim x_now) (g_cmp x_now) (g_sof x_now) (g_kin x_now) (g_lou x_now) (g_pit x_now) (g_pla x_now) (g_cas x_now) (g_hrs x_now) (g_nws x_now) (g_hat x_now) (g_wea x_now) (g_row x_now) a1 e7) lk_RX4_196 rfl rfl hRMX3_hoursUntilSnapped (vaP_l (vaP_perm (pm_n _ _ _ _ _ _) hP)) hK hN 0 rfl rfl rfl hl.1 rfl (Nat.le_of_ble_eq_true rfl) ⟨Nat.le_of_ble_eq_true rfl, Nat.le_of_ble_eq_true rfl⟩ (dg ddX4_snapsIn 19 rfl) ?_
    cases hf
    refine W.widen (k := 2) (n := 12) (Nat.le_of_ble_eq_true rfl) (Nat.le_of_ble_eq_true rfl) ?_
    exact x_wi CX hr hlk rfl hP hD hS (dg ddX4_snapsIn 20 rfl)
  · have hf := it_t h6 hf
    cases hf
    exact xt_4_S (is := 194) (tx := "an accordion has no strings that snap") (by decide +kernel) CX (hml.trans hl.1.symm) hst hX hout hlk rfl hP hD hS (Nat.le_of_ble_eq_true rfl) (Nat.le_of_ble_eq_true rfl) (Nat.le_of_ble_eq_true rfl) (Nat.le_of_ble_eq_true rfl) (Nat.le_of_ble_eq_true rfl) (Nat.le_of_ble_eq_true rfl) (dg ddX4_snapsIn 11 rfl) (dg ddX4_snapsIn 12 rfl) (dg ddX4_snapsIn 13 rfl) (dg ddX4_snapsIn 14 rfl) (dg ddX4_snapsIn 15 rfl)
def f_X4_answer (x_re : Int32) (x_de : Int32) (x_now : SV) (x_nxt : Int32) (x_cnt : Int32) (x_rng : Nat → SV) (a1 : Int32) : Option ((Nat × Int32 × Int32 × SV × Int32 × Int32 × (Nat → SV)) ⊕ (Int32 × Int32 × Int32 × SV × Int32 × Int32 × (Nat → SV))) := ob (f_X4_hindranceOfAnswer x_re x_de x_now a1) fun r2 => (ob (f_X4_throwFor r2.1) fun r4 => (os r4 (fun t => some (.inl (t, r2.2.1, r2.2.2, x_now, x_nxt, x_cnt, x_rng))) fun _ => (ob (f_X1_keep x_nxt x_cnt x_rng x_now) fun r6 => (ob (f_X3_answerComplaints (g_answered x_now) (g_cmp x_now) a1) fun r8 => (some (.inr (r8.1, r2.2.1, r2.2.2, (s_cmp (s_answered x_now r8.2.1) r8.2.2), r6.1, r6.2.1, r6.2.2)))))))
set_option maxHeartbeats 4000000 in
set_option maxRecDepth 100000 in
theorem c_X4_answer (l : Launch) (D : va_G) (cy : Nat → ClassId) (q : Nat → Nat → Nat) (x_isv : Int32) (x_te : Int32) (x_re : Int32) (x_de : Int32) (x_now : SV) (x_spa : SV) (x_sna : SV) (x_len : Int32) (x_sig : Nat → Int32) (x_nxt : Int32) (x_cnt : Int32) (x_rng : Nat → SV) (a1 : Int32) (sz : Nat) (hst : l.stackTraces = false) {res : (Nat × Int32 × Int32 × SV × Int32 × Int32 × (Nat → SV)) ⊕ (Int32 × Int32 × Int32 × SV × Int32 × Int32 × (Nat → SV))} (hf : f_X4_answer x_re x_de x_now x_nxt x_cnt x_rng a1 = some res) : vx_Met l yX4_answer (.code yX4_answer cX4_answer 2 (some .int) :: lw_all) { frames := 7, cells := 1, slots := 6, locals := 102 } (va_Pc [.ref (q 0 0), .int a1] (sX D cy (wX4 q cy x_isv x_te x_re x_de x_now x_spa x_sna x_len x_sig x_nxt x_cnt x_rng) sz)) (xI (α := Nat × Int32 × Int32 × SV × Int32 × Int32 × (Nat → SV)) D (fun x : Int32 × Int32 × Int32 × SV × Int32 × Int32 × (Nat → SV) => (wX4 q cy x_isv x_te x.2.1 x.2.2.1 x.2.2.2.1 x_spa x_sna x_len x_sig x.2.2.2.2.1 x.2.2.2.2.2.1 x.2.2.2.2.2.2)) (fun x : Int32 × Int32 × Int32 × SV × Int32 × Int32 × (Nat → SV) => x.1) res (va_A (wX4 q cy x_isv x_te x_re x_de x_now x_spa x_sna x_len x_sig x_nxt x_cnt x_rng) sz)) (xX (β := Int32 × Int32 × Int32 × SV × Int32 × Int32 × (Nat → SV)) D (fun x : Nat × Int32 × Int32 × SV × Int32 × Int32 × (Nat → SV) => (wX4 q cy x_isv x_te x.2.1 x.2.2.1 x.2.2.2.1 x_spa x_sna x_len x_sig x.2.2.2.2.1 x.2.2.2.2.2.1 x.2.2.2.2.2.2)) (fun x : Nat × Int32 × Int32 × SV × Int32 × Int32 × (Nat → SV) => x.1) res (va_A (wX4 q cy x_isv x_te x_re x_de x_now x_spa x_sna x_len x_sig x_nxt x_cnt x_rng) sz)) 1 6 (va_A (wX4 q cy x_isv x_te x_re x_de x_now x_spa x_sna x_len x_sig x_nxt x_cnt x_rng) sz) := by
  refine mk_x (Qc := fun A => (xI (α := Nat × Int32 × Int32 × SV × Int32 × Int32 × (Nat → SV)) D (fun x : Int32 × Int32 × Int32 × SV × Int32 × Int32 × (Nat → SV) => (wX4 q cy x_isv x_te x.2.1 x.2.2.1 x.2.2.2.1 x_spa x_sna x_len x_sig x.2.2.2.2.1 x.2.2.2.2.2.1 x.2.2.2.2.2.2)) (fun x : Int32 × Int32 × Int32 × SV × Int32 × Int32 × (Nat → SV) => x.1) res A)) (XC := fun A => (xX (β := Int32 × Int32 × Int32 × SV × Int32 × Int32 × (Nat → SV)) D (fun x : Nat × Int32 × Int32 × SV × Int32 × Int32 × (Nat → SV) => (wX4 q cy x_isv x_te x.2.1 x.2.2.1 x.2.2.2.1 x_spa x_sna x_len x_sig x.2.2.2.2.1 x.2.2.2.2.2.1 x.2.2.2.2.2.2)) (fun x : Nat × Int32 × Int32 × SV × Int32 × Int32 × (Nat → SV) => x.1) res A)) (Rc := RX4) (by decide +kernel) rfl (Nat.le_of_ble_eq_true rfl) ?_
  intro p e s m args below meth c ls A CX hml hr hlk hK hN hP hD hS hA hl hout hX
  have hx := CX.1
  have hb := CX.2.1
  have hRMX1_keep : (⟨2, 0, 0, 61⟩ : Room).frames + 1 ≤ (⟨7, 1, 6, 102⟩ : Room).frames ∧ 8 + (3 + 11) + (⟨2, 0, 0, 61⟩ : Room).locals ≤ (⟨7, 1, 6, 102⟩ : Room).locals := ⟨Nat.le_of_ble_eq_true rfl, Nat.le_of_ble_eq_true rfl⟩
  have hRMX3_answerComplaints : (⟨1, 0, 0, 12⟩ : Room).frames + 1 ≤ (⟨7, 1, 6, 102⟩ : Room).frames ∧ 8 + (3 + 11) + (⟨1, 0, 0, 12⟩ : Room).locals ≤ (⟨7, 1, 6, 102⟩ : Room).locals := ⟨Nat.le_of_ble_eq_true rfl, Nat.le_of_ble_eq_true rfl⟩
  have hRMX4_hindranceOfAnswer : (⟨2, 0, 0, 34⟩ : Room).frames + 1 ≤ (⟨7, 1, 6, 102⟩ : Room).frames ∧ 8 + (2 + 11) + (⟨2, 0, 0, 34⟩ : Room).locals ≤ (⟨7, 1, 6, 102⟩ : Room).locals := ⟨Nat.le_of_ble_eq_true rfl, Nat.le_of_ble_eq_true rfl⟩
  have hRMX4_throwFor : (⟨6, 1, 6, 82⟩ : Room).frames + 1 ≤ (⟨7, 1, 6, 102⟩ : Room).frames ∧ 8 + (1 + 11) + (⟨6, 1, 6, 82⟩ : Room).locals ≤ (⟨7, 1, 6, 102⟩ : Room).locals := ⟨Nat.le_of_ble_eq_true rfl, Nat.le_of_ble_eq_true rfl⟩
  refine lv_aload_n hx hb (dg ddX4_answer 0 rfl) rfl (lv_at hl 0 rfl) ?_
  refine lv_iload_n hx hb (dg ddX4_answer 1 rfl) rfl (lv_at hl 1 rfl) ?_
  obtain ⟨r2, e1, hf⟩ := ob_some hf
  refine crw_vi CX hml (As := [.int a1]) (rest := []) (c_X4_hindranceOfAnswer l D cy q x_isv x_te x_re x_de x_now x_spa x_sna x_len x_sig x_nxt x_cnt x_rng a1 _ e1) lk_RX4_199 rfl rfl hRMX4_hindranceOfAnswer hP hD hS hA hK hN 0 rfl rfl rfl hl.1 rfl (Nat.le_of_ble_eq_true rfl) ⟨Nat.le_of_ble_eq_true rfl, Nat.le_of_ble_eq_true rfl⟩ (dg ddX4_answer 2 rfl) (fun H locs hP hD hS => ?_)
  obtain ⟨r4, e3, hf⟩ := ob_some hf
  rcases r4 with t9 | t9
  · cases os_l hf
    exact crx_t CX hml (As := [.int r2.1]) (rest := []) (c_X4_throwFor l D cy r2.1 _ hst e3) lk_RX4_54 rfl rfl hRMX4_throwFor hP hD hS hA hK hN hX hout hlk rfl rfl rfl hl.1 rfl (Nat.le_of_ble_eq_true rfl) ⟨(Nat.le_of_ble_eq_true rfl), (Nat.le_of_ble_eq_true rfl)⟩ (Nat.le_of_ble_eq_true rfl) (Nat.le_of_ble_eq_true rfl) (dg ddX4_answer 3 rfl)
  have hf := os_r hf
  refine crx_r CX hml (As := [.int r2.1]) (rest := []) (c_X4_throwFor l D cy r2.1 _ hst e3) lk_RX4_54 rfl rfl hRMX4_throwFor hP hD hS hA hK hN hX rfl hl.1 rfl (Nat.le_of_ble_eq_true rfl) ⟨(Nat.le_of_ble_eq_true rfl), (Nat.le_of_ble_eq_true rfl)⟩ (dg ddX4_answer 3 rfl) (fun H locs hP hS => ?_)
  refine lv_aload_n hx hb (dg ddX4_answer 4 rfl) rfl (lv_at hl 0 rfl) ?_
  refine gf_RX4_29 CX hK hP 0 rfl rfl (dg ddX4_answer 5 rfl) ?_
  refine lv_aload_n hx hb (dg ddX4_answer 6 rfl) rfl (lv_at hl 0 rfl) ?_
  refine gf_RX4_10 CX hK hP 0 rfl rfl (dg ddX4_answer 7 rfl) ?_
  obtain ⟨r6, e5, hf⟩ := ob_some hf
  refine crf_vv CX hml (As := [.ref (q 1 0)]) (rest := []) (ws := (wX4 q cy x_isv x_te r2.2.1 r2.2.2 x_now x_spa x_sna x_len x_sig x_nxt x_cnt x_rng)) (wsn := (wX4 q cy x_isv x_te r2.2.1 r2.2.2 x_now x_spa x_sna x_len x_sig r6.1 r6.2.1 r6.2.2)) (c_X1_keep l D cy q (q 1) x_nxt x_cnt x_rng x_now _ e5) lk_RX4_58 rfl rfl hRMX1_keep hP hD hS hA hK hN (pm_hn _ _ _ _ _ _) ((pm_hn _ _ _ _ _ _).symm) 0 rfl rfl rfl hl.1 rfl (Nat.le_of_ble_eq_true rfl) ⟨Nat.le_of_ble_eq_true rfl, Nat.le_of_ble_eq_true rfl⟩ (dg ddX4_answer 8 rfl) (fun H locs hP hD hS => ?_)
  refine lv_aload_n hx hb (dg ddX4_answer 9 rfl) rfl (lv_at hl 0 rfl) ?_
  refine gf_RX4_10 CX hK hP 0 rfl rfl (dg ddX4_answer 10 rfl) ?_
  refine lv_iload_n hx hb (dg ddX4_answer 11 rfl) rfl (lv_at hl 1 rfl) ?_
  obtain ⟨r8, e7, hf⟩ := ob_some hf
  refine crf_vi CX hml (As := [.int a1]) (rest := []) (ws := (wX4 q cy x_isv x_te r2.2.1 r2.2.2 x_now x_spa x_sna x_len x_sig r6.1 r6.2.1 r6.2.2)) (wsn := (wX4 q cy x_isv x_te r2.2.1 r2.2.2 (s_cmp (s_answered x_now r8.2.1) r8.2.2) x_spa x_sna x_len x_sig r6.1 r6.2.1 r6.2.2)) (c_X3_answerComplaints l D cy (q 1) (g_hour x_now) (g_crowd x_now) (g_buskers x_now) (g_answered x_now) (g_draws x_now) (g_lim x_now) (g_cmp x_now) (g_sof x_now) (g_kin x_now) (g_lou x_now) (g_pit x_now) (g_pla x_now) (g_cas x_now) (g_hrs x_now) (g_nws x_now) (g_hat x_now) (g_wea x_now) (g_row x_now) a1 _ e7) lk_RX4_202 rfl rfl hRMX3_answerComplaints hP hD hS hA hK hN (pm_n _ _ _ _ _ _) ((pm_n _ _ _ _ _ _).symm) 0 rfl rfl rfl hl.1 rfl (Nat.le_of_ble_eq_true rfl) ⟨Nat.le_of_ble_eq_true rfl, Nat.le_of_ble_eq_true rfl⟩ (dg ddX4_answer 12 rfl) (fun H locs hP hD hS => ?_)
  cases hf
  exact x_wi CX hr hlk rfl hP hD hS (dg ddX4_answer 13 rfl)
def f_X4_rack (x_re : Int32) (x_de : Int32) (x_now : SV) (x_nxt : Int32) (x_cnt : Int32) (x_rng : Nat → SV) (a1 : Int32) (a2 : Int32) : Option ((Nat × Int32 × Int32 × SV × Int32 × Int32 × (Nat → SV)) ⊕ (Int32 × Int32 × Int32 × SV × Int32 × Int32 × (Nat → SV))) := ob (f_X4_hindranceOfRack x_re x_de x_now a1 a2) fun r2 => (ob (f_X4_throwFor r2.1) fun r4 => (os r4 (fun t => some (.inl (t, r2.2.1, r2.2.2, x_now, x_nxt, x_cnt, x_rng))) fun _ => (ob (f_X1_keep x_nxt x_cnt x_rng x_now) fun r6 => (ob (f_X3_putCase (g_kin x_now) (g_cas x_now) a1) fun r8 => (some (.inr (r8.1, r2.2.1, r2.2.2, (s_cas x_now r8.2), r6.1, r6.2.1, r6.2.2)))))))
set_option maxHeartbeats 4000000 in
set_option maxRecDepth 100000 in
theorem c_X4_rack (l : Launch) (D : va_G) (cy : Nat → ClassId) (q : Nat → Nat → Nat) (x_isv : Int32) (x_te : Int32) (x_re : Int32) (x_de : Int32) (x_now : SV) (x_spa : SV) (x_sna : SV) (x_len : Int32) (x_sig : Nat → Int32) (x_nxt : Int32) (x_cnt : Int32) (x_rng : Nat → SV) (a1 : Int32) (a2 : Int32) (sz : Nat) (hst : l.stackTraces = false) {res : (Nat × Int32 × Int32 × SV × Int32 × Int32 × (Nat → SV)) ⊕ (Int32 × Int32 × Int32 × SV × Int32 × Int32 × (Nat → SV))} (hf : f_X4_rack x_re x_de x_now x_nxt x_cnt x_rng a1 a2 = some res) : vx_Met l yX4_rack (.code yX4_rack cX4_rack 3 (some .int) :: lw_all) { frames := 7, cells := 1, slots := 6, locals := 102 } (va_Pc [.ref (q 0 0), .int a1, .int a2] (sX D cy (wX4 q cy x_isv x_te x_re x_de x_now x_spa x_sna x_len x_sig x_nxt x_cnt x_rng) sz)) (xI (α := Nat × Int32 × Int32 × SV × Int32 × Int32 × (Nat → SV)) D (fun x : Int32 × Int32 × Int32 × SV × Int32 × Int32 × (Nat → SV) => (wX4 q cy x_isv x_te x.2.1 x.2.2.1 x.2.2.2.1 x_spa x_sna x_len x_sig x.2.2.2.2.1 x.2.2.2.2.2.1 x.2.2.2.2.2.2)) (fun x : Int32 × Int32 × Int32 × SV × Int32 × Int32 × (Nat → SV) => x.1) res (va_A (wX4 q cy x_isv x_te x_re x_de x_now x_spa x_sna x_len x_sig x_nxt x_cnt x_rng) sz)) (xX (β := Int32 × Int32 × Int32 × SV × Int32 × Int32 × (Nat → SV)) D (fun x : Nat × Int32 × Int32 × SV × Int32 × Int32 × (Nat → SV) => (wX4 q cy x_isv x_te x.2.1 x.2.2.1 x.2.2.2.1 x_spa x_sna x_len x_sig x.2.2.2.2.1 x.2.2.2.2.2.1 x.2.2.2.2.2.2)) (fun x : Nat × Int32 × Int32 × SV × Int32 × Int32 × (Nat → SV) => x.1) res (va_A (wX4 q cy x_isv x_te x_re x_de x_now x_spa x_sna x_len x_sig x_nxt x_cnt x_rng) sz)) 1 6 (va_A (wX4 q cy x_isv x_te x_re x_de x_now x_spa x_sna x_len x_sig x_nxt x_cnt x_rng) sz) := by
  refine mk_x (Qc := fun A => (xI (α := Nat × Int32 × Int32 × SV × Int32 × Int32 × (Nat → SV)) D (fun x : Int32 × Int32 × Int32 × SV × Int32 × Int32 × (Nat → SV) => (wX4 q cy x_isv x_te x.2.1 x.2.2.1 x.2.2.2.1 x_spa x_sna x_len x_sig x.2.2.2.2.1 x.2.2.2.2.2.1 x.2.2.2.2.2.2)) (fun x : Int32 × Int32 × Int32 × SV × Int32 × Int32 × (Nat → SV) => x.1) res A)) (XC := fun A => (xX (β := Int32 × Int32 × Int32 × SV × Int32 × Int32 × (Nat → SV)) D (fun x : Nat × Int32 × Int32 × SV × Int32 × Int32 × (Nat → SV) => (wX4 q cy x_isv x_te x.2.1 x.2.2.1 x.2.2.2.1 x_spa x_sna x_len x_sig x.2.2.2.2.1 x.2.2.2.2.2.1 x.2.2.2.2.2.2)) (fun x : Nat × Int32 × Int32 × SV × Int32 × Int32 × (Nat → SV) => x.1) res A)) (Rc := RX4) (by decide +kernel) rfl (Nat.le_of_ble_eq_true rfl) ?_
  intro p e s m args below meth c ls A CX hml hr hlk hK hN hP hD hS hA hl hout hX
  have hx := CX.1
  have hb := CX.2.1
  have hRMX1_keep : (⟨2, 0, 0, 61⟩ : Room).frames + 1 ≤ (⟨7, 1, 6, 102⟩ : Room).frames ∧ 8 + (3 + 11) + (⟨2, 0, 0, 61⟩ : Room).locals ≤ (⟨7, 1, 6, 102⟩ : Room).locals := ⟨Nat.le_of_ble_eq_true rfl, Nat.le_of_ble_eq_true rfl⟩
  have hRMX3_putCase : (⟨3, 0, 0, 57⟩ : Room).frames + 1 ≤ (⟨7, 1, 6, 102⟩ : Room).frames ∧ 8 + (2 + 11) + (⟨3, 0, 0, 57⟩ : Room).locals ≤ (⟨7, 1, 6, 102⟩ : Room).locals := ⟨Nat.le_of_ble_eq_true rfl, Nat.le_of_ble_eq_true rfl⟩
  have hRMX4_hindranceOfRack : (⟨3, 0, 0, 57⟩ : Room).frames + 1 ≤ (⟨7, 1, 6, 102⟩ : Room).frames ∧ 8 + (3 + 11) + (⟨3, 0, 0, 57⟩ : Room).locals ≤ (⟨7, 1, 6, 102⟩ : Room).locals := ⟨Nat.le_of_ble_eq_true rfl, Nat.le_of_ble_eq_true rfl⟩
  have hRMX4_throwFor : (⟨6, 1, 6, 82⟩ : Room).frames + 1 ≤ (⟨7, 1, 6, 102⟩ : Room).frames ∧ 8 + (1 + 11) + (⟨6, 1, 6, 82⟩ : Room).locals ≤ (⟨7, 1, 6, 102⟩ : Room).locals := ⟨Nat.le_of_ble_eq_true rfl, Nat.le_of_ble_eq_true rfl⟩
  refine lv_aload_n hx hb (dg ddX4_rack 0 rfl) rfl (lv_at hl 0 rfl) ?_
  refine lv_iload_n hx hb (dg ddX4_rack 1 rfl) rfl (lv_at hl 1 rfl) ?_
  refine lv_iload_n hx hb (dg ddX4_rack 2 rfl) rfl (lv_at hl 2 rfl) ?_
  obtain ⟨r2, e1, hf⟩ := ob_some hf
  refine crw_vi CX hml (As := [.int a1, .int a2]) (rest := []) (c_X4_hindranceOfRack l D cy q x_isv x_te x_re x_de x_now x_spa x_sna x_len x_sig x_nxt x_cnt x_rng a1 a2 _ e1) lk_RX4_205 rfl rfl hRMX4_hindranceOfRack hP hD hS hA hK hN 0 rfl rfl rfl hl.1 rfl (Nat.le_of_ble_eq_true rfl) ⟨Nat.le_of_ble_eq_true rfl, Nat.le_of_ble_eq_true rfl⟩ (dg ddX4_rack 3 rfl) (fun H locs hP hD hS => ?_)
  obtain ⟨r4, e3, hf⟩ := ob_some hf
  rcases r4 with t9 | t9
  · cases os_l hf
    exact crx_t CX hml (As := [.int r2.1]) (rest := []) (c_X4_throwFor l D cy r2.1 _ hst e3) lk_RX4_54 rfl rfl hRMX4_throwFor hP hD hS hA hK hN hX hout hlk rfl rfl rfl hl.1 rfl (Nat.le_of_ble_eq_true rfl) ⟨(Nat.le_of_ble_eq_true rfl), (Nat.le_of_ble_eq_true rfl)⟩ (Nat.le_of_ble_eq_true rfl) (Nat.le_of_ble_eq_true rfl) (dg ddX4_rack 4 rfl)
  have hf := os_r hf
  refine crx_r CX hml (As := [.int r2.1]) (rest := []) (c_X4_throwFor l D cy r2.1 _ hst e3) lk_RX4_54 rfl rfl hRMX4_throwFor hP hD hS hA hK hN hX rfl hl.1 rfl (Nat.le_of_ble_eq_true rfl) ⟨(Nat.le_of_ble_eq_true rfl), (Nat.le_of_ble_eq_true rfl)⟩ (dg ddX4_rack 4 rfl) (fun H locs hP hS => ?_)
  refine lv_aload_n hx hb (dg ddX4_rack 5 rfl) rfl (lv_at hl 0 rfl) ?_
  refine gf_RX4_29 CX hK hP 0 rfl rfl (dg ddX4_rack 6 rfl) ?_
  refine lv_aload_n hx hb (dg ddX4_rack 7 rfl) rfl (lv_at hl 0 rfl) ?_
  refine gf_RX4_10 CX hK hP 0 rfl rfl (dg ddX4_rack 8 rfl) ?_
  obtain ⟨r6, e5, hf⟩ := ob_some hf
  refine crf_vv CX hml (As := [.ref (q 1 0)]) (rest := []) (ws := (wX4 q cy x_isv x_te r2.2.1 r2.2.2 x_now x_spa x_sna x_len x_sig x_nxt x_cnt x_rng)) (wsn := (wX4 q cy x_isv x_te r2.2.1 r2.2.2 x_now x_spa x_sna x_len x_sig r6.1 r6.2.1 r6.2.2)) (c_X1_keep l D cy q (q 1) x_nxt x_cnt x_rng x_now _ e5) lk_RX4_58 rfl rfl hRMX1_keep hP hD hS hA hK hN (pm_hn _ _ _ _ _ _) ((pm_hn _ _ _ _ _ _).symm) 0 rfl rfl rfl hl.1 rfl (Nat.le_of_ble_eq_true rfl) ⟨Nat.le_of_ble_eq_true rfl, Nat.le_of_ble_eq_true rfl⟩ (dg ddX4_rack 9 rfl) (fun H locs hP hD hS => ?_)
  refine lv_aload_n hx hb (dg ddX4_rack 10 rfl) rfl (lv_at hl 0 rfl) ?_
  refine gf_RX4_10 CX hK hP 0 rfl rfl (dg ddX4_rack 11 rfl) ?_
  refine lv_iload_n hx hb (dg ddX4_rack 12 rfl) rfl (lv_at hl 1 rfl) ?_
  obtain ⟨r8, e7, hf⟩ := ob_some hf
  refine crf_vi CX hml (As := [.int a1]) (rest := []) (ws := (wX4 q cy x_isv x_te r2.2.1 r2.2.2 x_now x_spa x_sna x_len x_sig r6.1 r6.2.1 r6.2.2)) (wsn := (wX4 q cy x_isv x_te r2.2.1 r2.2.2 (s_cas x_now r8.2) x_spa x_sna x_len x_sig r6.1 r6.2.1 r6.2.2)) (c_X3_putCase l D cy (q 1) (g_hour x_now) (g_crowd x_now) (g_buskers x_now) (g_answered x_now) (g_draws x_now) (g_lim x_now) (g_cmp x_now) (g_sof x_now) (g_kin x_now) (g_lou x_now) (g_pit x_now) (g_pla x_now) (g_cas x_now) (g_hrs x_now) (g_nws x_now) (g_hat x_now) (g_wea x_now) (g_row x_now) a1 _ e7) lk_RX4_208 rfl rfl hRMX3_putCase hP hD hS hA hK hN (pm_n _ _ _ _ _ _) ((pm_n _ _ _ _ _ _).symm) 0 rfl rfl rfl hl.1 rfl (Nat.le_of_ble_eq_true rfl) ⟨Nat.le_of_ble_eq_true rfl, Nat.le_of_ble_eq_true rfl⟩ (dg ddX4_rack 13 rfl) (fun H locs hP hD hS => ?_)
  cases hf
  exact x_wi CX hr hlk rfl hP hD hS (dg ddX4_rack 14 rfl)
def f_X4_unrack (x_re : Int32) (x_de : Int32) (x_now : SV) (x_nxt : Int32) (x_cnt : Int32) (x_rng : Nat → SV) (a1 : Int32) : Option ((Nat × Int32 × Int32 × SV × Int32 × Int32 × (Nat → SV)) ⊕ (Int32 × Int32 × Int32 × SV × Int32 × Int32 × (Nat → SV))) := ob (f_X4_hindranceOfUnrack x_re x_de x_now a1) fun r2 => (ob (f_X4_throwFor r2.1) fun r4 => (os r4 (fun t => some (.inl (t, r2.2.1, r2.2.2, x_now, x_nxt, x_cnt, x_rng))) fun _ => (ob (f_X1_keep x_nxt x_cnt x_rng x_now) fun r6 => (og (inb a1 8) (og (inb a1 8) (some (.inr (((g_cas x_now) a1.toNatClampNeg), r2.2.1, r2.2.2, (s_cas x_now (upd (g_cas x_now) a1.toNatClampNeg (-1))), r6.1, r6.2.1, r6.2.2))))))))
set_option maxHeartbeats 4000000 in
set_option maxRecDepth 100000 in
theorem c_X4_unrack (l : Launch) (D : va_G) (cy : Nat → ClassId) (q : Nat → Nat → Nat) (x_isv : Int32) (x_te : Int32) (x_re : Int32) (x_de : Int32) (x_now : SV) (x_spa : SV) (x_sna : SV) (x_len : Int32) (x_sig : Nat → Int32) (x_nxt : Int32) (x_cnt : Int32) (x_rng : Nat → SV) (a1 : Int32) (sz : Nat) (hst : l.stackTraces = false) {res : (Nat × Int32 × Int32 × SV × Int32 × Int32 × (Nat → SV)) ⊕ (Int32 × Int32 × Int32 × SV × Int32 × Int32 × (Nat → SV))} (hf : f_X4_unrack x_re x_de x_now x_nxt x_cnt x_rng a1 = some res) : vx_Met l yX4_unrack (.code yX4_unrack cX4_unrack 3 (some .int) :: lw_all) { frames := 7, cells := 1, slots := 6, locals := 102 } (va_Pc [.ref (q 0 0), .int a1] (sX D cy (wX4 q cy x_isv x_te x_re x_de x_now x_spa x_sna x_len x_sig x_nxt x_cnt x_rng) sz)) (xI (α := Nat × Int32 × Int32 × SV × Int32 × Int32 × (Nat → SV)) D (fun x : Int32 × Int32 × Int32 × SV × Int32 × Int32 × (Nat → SV) => (wX4 q cy x_isv x_te x.2.1 x.2.2.1 x.2.2.2.1 x_spa x_sna x_len x_sig x.2.2.2.2.1 x.2.2.2.2.2.1 x.2.2.2.2.2.2)) (fun x : Int32 × Int32 × Int32 × SV × Int32 × Int32 × (Nat → SV) => x.1) res (va_A (wX4 q cy x_isv x_te x_re x_de x_now x_spa x_sna x_len x_sig x_nxt x_cnt x_rng) sz)) (xX (β := Int32 × Int32 × Int32 × SV × Int32 × Int32 × (Nat → SV)) D (fun x : Nat × Int32 × Int32 × SV × Int32 × Int32 × (Nat → SV) => (wX4 q cy x_isv x_te x.2.1 x.2.2.1 x.2.2.2.1 x_spa x_sna x_len x_sig x.2.2.2.2.1 x.2.2.2.2.2.1 x.2.2.2.2.2.2)) (fun x : Nat × Int32 × Int32 × SV × Int32 × Int32 × (Nat → SV) => x.1) res (va_A (wX4 q cy x_isv x_te x_re x_de x_now x_spa x_sna x_len x_sig x_nxt x_cnt x_rng) sz)) 1 6 (va_A (wX4 q cy x_isv x_te x_re x_de x_now x_spa x_sna x_len x_sig x_nxt x_cnt x_rng) sz) := by
  refine mk_x (Qc := fun A => (xI (α := Nat × Int32 × Int32 × SV × Int32 × Int32 × (Nat → SV)) D (fun x : Int32 × Int32 × Int32 × SV × Int32 × Int32 × (Nat → SV) => (wX4 q cy x_isv x_te x.2.1 x.2.2.1 x.2.2.2.1 x_spa x_sna x_len x_sig x.2.2.2.2.1 x.2.2.2.2.2.1 x.2.2.2.2.2.2)) (fun x : Int32 × Int32 × Int32 × SV × Int32 × Int32 × (Nat → SV) => x.1) res A)) (XC := fun A => (xX (β := Int32 × Int32 × Int32 × SV × Int32 × Int32 × (Nat → SV)) D (fun x : Nat × Int32 × Int32 × SV × Int32 × Int32 × (Nat → SV) => (wX4 q cy x_isv x_te x.2.1 x.2.2.1 x.2.2.2.1 x_spa x_sna x_len x_sig x.2.2.2.2.1 x.2.2.2.2.2.1 x.2.2.2.2.2.2)) (fun x : Nat × Int32 × Int32 × SV × Int32 × Int32 × (Nat → SV) => x.1) res A)) (Rc := RX4) (by decide +kernel) rfl (Nat.le_of_ble_eq_true rfl) ?_
  intro p e s m args below meth c ls A CX hml hr hlk hK hN hP hD hS hA hl hout hX
  have hx := CX.1
  have hb := CX.2.1
  have hRMX1_keep : (⟨2, 0, 0, 61⟩ : Room).frames + 1 ≤ (⟨7, 1, 6, 102⟩ : Room).frames ∧ 8 + (3 + 11) + (⟨2, 0, 0, 61⟩ : Room).locals ≤ (⟨7, 1, 6, 102⟩ : Room).locals := ⟨Nat.le_of_ble_eq_true rfl, Nat.le_of_ble_eq_true rfl⟩
  have hRMX4_hindranceOfUnrack : (⟨2, 0, 0, 34⟩ : Room).frames + 1 ≤ (⟨7, 1, 6, 102⟩ : Room).frames ∧ 8 + (2 + 11) + (⟨2, 0, 0, 34⟩ : Room).locals ≤ (⟨7, 1, 6, 102⟩ : Room).locals := ⟨Nat.le_of_ble_eq_true rfl, Nat.le_of_ble_eq_true rfl⟩
  have hRMX4_throwFor : (⟨6, 1, 6, 82⟩ : Room).frames + 1 ≤ (⟨7, 1, 6, 102⟩ : Room).frames ∧ 8 + (1 + 11) + (⟨6, 1, 6, 82⟩ : Room).locals ≤ (⟨7, 1, 6, 102⟩ : Room).locals := ⟨Nat.le_of_ble_eq_true rfl, Nat.le_of_ble_eq_true rfl⟩
  refine lv_aload_n hx hb (dg ddX4_unrack 0 rfl) rfl (lv_at hl 0 rfl) ?_
  refine lv_iload_n hx hb (dg ddX4_unrack 1 rfl) rfl (lv_at hl 1 rfl) ?_
  obtain ⟨r2, e1, hf⟩ := ob_some hf
  refine crw_vi CX hml (As := [.int a1]) (rest := []) (c_X4_hindranceOfUnrack l D cy q x_isv x_te x_re x_de x_now x_spa x_sna x_len x_sig x_nxt x_cnt x_rng a1 _ e1) lk_RX4_211 rfl rfl hRMX4_hindranceOfUnrack hP hD hS hA hK hN 0 rfl rfl rfl hl.1 rfl (Nat.le_of_ble_eq_true rfl) ⟨Nat.le_of_ble_eq_true rfl, Nat.le_of_ble_eq_true rfl⟩ (dg ddX4_unrack 2 rfl) (fun H locs hP hD hS => ?_)
  obtain ⟨r4, e3, hf⟩ := ob_some hf
  rcases r4 with t9 | t9
  · cases os_l hf
    exact crx_t CX hml (As := [.int r2.1]) (rest := []) (c_X4_throwFor l D cy r2.1 _ hst e3) lk_RX4_54 rfl rfl hRMX4_throwFor hP hD hS hA hK hN hX hout hlk rfl rfl rfl hl.1 rfl (Nat.le_of_ble_eq_true rfl) ⟨(Nat.le_of_ble_eq_true rfl), (Nat.le_of_ble_eq_true rfl)⟩ (Nat.le_of_ble_eq_true rfl) (Nat.le_of_ble_eq_true rfl) (dg ddX4_unrack 3 rfl)
  have hf := os_r hf
  refine crx_r CX hml (As := [.int r2.1]) (rest := []) (c_X4_throwFor l D cy r2.1 _ hst e3) lk_RX4_54 rfl rfl hRMX4_throwFor hP hD hS hA hK hN hX rfl hl.1 rfl (Nat.le_of_ble_eq_true rfl) ⟨(Nat.le_of_ble_eq_true rfl), (Nat.le_of_ble_eq_true rfl)⟩ (dg ddX4_unrack 3 rfl) (fun H locs hP hS => ?_)
  refine lv_aload_n hx hb (dg ddX4_unrack 4 rfl) rfl (lv_at hl 0 rfl) ?_
  refine gf_RX4_29 CX hK hP 0 rfl rfl (dg ddX4_unrack 5 rfl) ?_
  refine lv_aload_n hx hb (dg ddX4_unrack 6 rfl) rfl (lv_at hl 0 rfl) ?_
  refine gf_RX4_10 CX hK hP 0 rfl rfl (dg ddX4_unrack 7 rfl) ?_
  obtain ⟨r6, e5, hf⟩ := ob_some hf
  refine crf_vv CX hml (As := [.ref (q 1 0)]) (rest := []) (ws := (wX4 q cy x_isv x_te r2.2.1 r2.2.2 x_now x_spa x_sna x_len x_sig x_nxt x_cnt x_rng)) (wsn := (wX4 q cy x_isv x_te r2.2.1 r2.2.2 x_now x_spa x_sna x_len x_sig r6.1 r6.2.1 r6.2.2)) (c_X1_keep l D cy q (q 1) x_nxt x_cnt x_rng x_now _ e5) lk_RX4_58 rfl rfl hRMX1_keep hP hD hS hA hK hN (pm_hn _ _ _ _ _ _) ((pm_hn _ _ _ _ _ _).symm) 0 rfl rfl rfl hl.1 rfl (Nat.le_of_ble_eq_true rfl) ⟨Nat.le_of_ble_eq_true rfl, Nat.le_of_ble_eq_true rfl⟩ (dg ddX4_unrack 8 rfl) (fun H locs hP hD hS => ?_)
  refine lv_aload_n hx hb (dg ddX4_unrack 9 rfl) rfl (lv_at hl 0 rfl) ?_
  refine gf_RX4_10 CX hK hP 0 rfl rfl (dg ddX4_unrack 10 rfl) ?_
  refine gf_RX4_101 CX hK hP 1 rfl rfl (dg ddX4_unrack 11 rfl) ?_
  refine lv_iload_n hx hb (dg ddX4_unrack 12 rfl) rfl (lv_at hl 1 rfl) ?_
  obtain ⟨h7, hf⟩ := og_some hf
  refine va_iald hx hb hK hP 9 0 rfl rfl (inb_in h7) (dg ddX4_unrack 13 rfl) ?_
  refine lv_istore_n (lv' := [(2, .int ((g_cas x_now) a1.toNatClampNeg)), (0, .ref (q 0 0)), (1, .int a1)]) hx hb (dg ddX4_unrack 14 rfl) rfl hl (by decide) rfl (fun ls hl => ?_)
  refine lv_aload_n hx hb (dg ddX4_unrack 15 rfl) rfl (lv_at hl 1 rfl) ?_
  refine gf_RX4_10 CX hK hP 0 rfl rfl (dg ddX4_unrack 16 rfl) ?_
  refine gf_RX4_101 CX hK hP 1 rfl rfl (dg ddX4_unrack 17 rfl) ?_
  refine lv_iload_n hx hb (dg ddX4_unrack 18 rfl) rfl (lv_at hl 2 rfl) ?_
  refine lv_iconst (v := (-1)) hx hb (dg ddX4_unrack 19 rfl) (by decide) ?_
  obtain ⟨h8, hf⟩ := og_some hf
  refine va_iast hx hb hK hP hD hS 9 0 rfl rfl (inb_in h8) (dg ddX4_unrack 20 rfl) (fun H locs hP hD hS => ?_)
  have hP : va_P D vwCl (wX4 q cy x_isv x_te r2.2.1 r2.2.2 (s_cas x_now (upd (g_cas x_now) a1.toNatClampNeg (-1))) x_spa x_sna x_len x_sig r6.1 r6.2.1 r6.2.2) H := hP
  have hD : va_D A (wX4 q cy x_isv x_te r2.2.1 r2.2.2 (s_cas x_now (upd (g_cas x_now) a1.toNatClampNeg (-1))) x_spa x_sna x_len x_sig r6.1 r6.2.1 r6.2.2) := hD
  refine lv_iload_n hx hb (dg ddX4_unrack 21 rfl) rfl (lv_at hl 0 rfl) ?_
  cases hf
  exact x_wi CX hr hlk rfl hP hD hS (dg ddX4_unrack 22 rfl)
def f_X4_onRack (x_now : SV) (a1 : Int32) (a2 : Int32) : Option ((Nat) ⊕ (Int32)) := if a1 < 0 then (some (.inl 1)) else (if 2 ≤ a1 then (some (.inl 1)) else (if a2 < 0 then (some (.inl 1)) else (if a2 < 3 then (ob (f_X3_caseAt (g_kin x_now) (g_cas x_now) a1 a2) fun r6 => (if r6 = (-1) then (some (.inl 4)) else (some (.inr r6)))) else (some (.inl 1)))))
set_option maxHeartbeats 4000000 in
set_option maxRecDepth 100000 in
theorem c_X4_onRack (l : Launch) (D : va_G) (cy : Nat → ClassId) (q : Nat → Nat → Nat) (x_isv : Int32) (x_te : Int32) (x_re : Int32) (x_de : Int32) (x_now : SV) (x_spa : SV) (x_sna : SV) (x_len : Int32) (x_sig : Nat → Int32) (x_nxt : Int32) (x_cnt : Int32) (x_rng : Nat → SV) (a1 : Int32) (a2 : Int32) (sz : Nat) (hst : l.stackTraces = false) {res : (Nat) ⊕ (Int32)} (hf : f_X4_onRack x_now a1 a2 = some res) : vx_Met l yX4_onRack (.code yX4_onRack cX4_onRack 4 (some .int) :: lw_all) { frames := 6, cells := 1, slots := 6, locals := 82 } (va_Pc [.ref (q 0 0), .int a1, .int a2] (sX D cy (wX4 q cy x_isv x_te x_re x_de x_now x_spa x_sna x_len x_sig x_nxt x_cnt x_rng) sz)) (xI (α := Nat) D (fun x : Int32 => (wX4 q cy x_isv x_te x_re x_de x_now x_spa x_sna x_len x_sig x_nxt x_cnt x_rng)) (fun x : Int32 => x) res (va_A (wX4 q cy x_isv x_te x_re x_de x_now x_spa x_sna x_len x_sig x_nxt x_cnt x_rng) sz)) (xX (β := Int32) D (fun x : Nat => (wX4 q cy x_isv x_te x_re x_de x_now x_spa x_sna x_len x_sig x_nxt x_cnt x_rng)) (fun x : Nat => x) res (va_A (wX4 q cy x_isv x_te x_re x_de x_now x_spa x_sna x_len x_sig x_nxt x_cnt x_rng) sz)) 1 6 (va_A (wX4 q cy x_isv x_te x_re x_de x_now x_spa x_sna x_len x_sig x_nxt x_cnt x_rng) sz) := by
  refine mk_x (Qc := fun A => (xI (α := Nat) D (fun x : Int32 => (wX4 q cy x_isv x_te x_re x_de x_now x_spa x_sna x_len x_sig x_nxt x_cnt x_rng)) (fun x : Int32 => x) res A)) (XC := fun A => (xX (β := Int32) D (fun x : Nat => (wX4 q cy x_isv x_te x_re x_de x_now x_spa x_sna x_len x_sig x_nxt x_cnt x_rng)) (fun x : Nat => x) res A)) (Rc := RX4) (by decide +kernel) rfl (Nat.le_of_ble_eq_true rfl) ?_
  intro p e s m args below meth c ls A CX hml hr hlk hK hN hP hD hS hA hl hout hX
  have hx := CX.1
  have hb := CX.2.1
  have hRMX3_caseAt : (⟨1, 0, 0, 12⟩ : Room).frames + 1 ≤ (⟨6, 1, 6, 82⟩ : Room).frames ∧ 8 + (4 + 11) + (⟨1, 0, 0, 12⟩ : Room).locals ≤ (⟨6, 1, 6, 82⟩ : Room).locals := ⟨Nat.le_of_ble_eq_true rfl, Nat.le_of_ble_eq_true rfl⟩
  refine lv_iload_n hx hb (dg ddX4_onRack 0 rfl) rfl (lv_at hl 1 rfl) ?_
  refine lv_if_lt (tgt := 18) hx hb (dg ddX4_onRack 1 rfl) (by decide) (fun h1 => ?_) (fun h1 => ?_)
  · have hf := it_t h1 hf
    cases hf
    exact xt_1_S (is := 216) (tx := "no such rack or place") (by decide +kernel) CX (hml.trans hl.1.symm) hst hX hout hlk rfl hP hD hS (Nat.le_of_ble_eq_true rfl) (Nat.le_of_ble_eq_true rfl) (Nat.le_of_ble_eq_true rfl) (Nat.le_of_ble_eq_true rfl) (Nat.le_of_ble_eq_true rfl) (Nat.le_of_ble_eq_true rfl) (dg ddX4_onRack 10 rfl) (dg ddX4_onRack 11 rfl) (dg ddX4_onRack 12 rfl) (dg ddX4_onRack 13 rfl) (dg ddX4_onRack 14 rfl)
  · have hf := it_f h1 hf
    refine lv_iload_n hx hb (dg ddX4_onRack 2 rfl) rfl (lv_at hl 1 rfl) ?_
    refine lv_iconst (v := 2) hx hb (dg ddX4_onRack 3 rfl) (by decide) ?_
    refine lv_icmp_ge (tgt := 18) hx hb (dg ddX4_onRack 4 rfl) (by decide) (fun h2 => ?_) (fun h2 => ?_)
    · have hf := it_t h2 hf
      cases hf
      exact xt_1_S (is := 216) (tx := "no such rack or place") (by decide +kernel) CX (hml.trans hl.1.symm) hst hX hout hlk rfl hP hD hS (Nat.le_of_ble_eq_true rfl) (Nat.le_of_ble_eq_true rfl) (Nat.le_of_ble_eq_true rfl) (Nat.le_of_ble_eq_true rfl) (Nat.le_of_ble_eq_true rfl) (Nat.le_of_ble_eq_true rfl) (dg ddX4_onRack 10 rfl) (dg ddX4_onRack 11 rfl) (dg ddX4_onRack 12 rfl) (dg ddX4_onRack 13 rfl) (dg ddX4_onRack 14 rfl)
    · have hf := it_f h2 hf
      refine lv_iload_n hx hb (dg ddX4_onRack 5 rfl) rfl (lv_at hl 2 rfl) ?_
      refine lv_if_lt (tgt := 18) hx hb (dg ddX4_onRack 6 rfl) (by decide) (fun h3 => ?_) (fun h3 => ?_)
      · have hf := it_t h3 hf
        cases hf
        exact xt_1_S (is := 216) (tx := "no such rack or place") (by decide +kernel) CX (hml.trans hl.1.symm) hst hX hout hlk rfl hP hD hS (Nat.le_of_ble_eq_true rfl) (Nat.le_of_ble_eq_true rfl) (Nat.le_of_ble_eq_true rfl) (Nat.le_of_ble_eq_true rfl) (Nat.le_of_ble_eq_true rfl) (Nat.le_of_ble_eq_true rfl) (dg ddX4_onRack 10 rfl) (dg ddX4_onRack 11 rfl) (dg ddX4_onRack 12 rfl) (dg ddX4_onRack 13 rfl) (dg ddX4_onRack 14 rfl)
      · have hf := it_f h3 hf
        refine lv_iload_n hx hb (dg ddX4_onRack 7 rfl) rfl (lv_at hl 2 rfl) ?_
        refine lv_iconst (v := 3) hx hb (dg ddX4_onRack 8 rfl) (by decide) ?_
        refine lv_icmp_lt (tgt := 28) hx hb (dg ddX4_onRack 9 rfl) (by decide) (fun h4 => ?_) (fun h4 => ?_)
        · have hf := it_t h4 hf
          refine lv_aload_n hx hb (dg ddX4_onRack 15 rfl) rfl (lv_at hl 0 rfl) ?_
          refine gf_RX4_10 CX hK hP 0 rfl rfl (dg ddX4_onRack 16 rfl) ?_
          refine lv_iload_n hx hb (dg ddX4_onRack 17 rfl) rfl (lv_at hl 1 rfl) ?_
          refine lv_iload_n hx hb (dg ddX4_onRack 18 rfl) rfl (lv_at hl 2 rfl) ?_
          obtain ⟨r6, e5, hf⟩ := ob_some hf
          refine cro_vi CX hml (As := [.int a1, .int a2]) (rest := []) (c_X3_caseAt l D cy (q 1) (g_hour x_now) (g_crowd x_now) (g_buskers x_now) (g_answered x_now) (g_draws x_now) (g_lim x_now) (g_cmp x_now) (g_sof x_now) (g_kin x_now) (g_lou x_now) (g_pit x_now) (g_pla x_now) (g_cas x_now) (g_hrs x_now) (g_nws x_now) (g_hat x_now) (g_wea x_now) (g_row x_now) a1 a2 e5) lk_RX4_219 rfl rfl hRMX3_caseAt (vaP_l (vaP_perm (pm_n _ _ _ _ _ _) hP)) hK hN 0 rfl rfl rfl hl.1 rfl (Nat.le_of_ble_eq_true rfl) ⟨Nat.le_of_ble_eq_true rfl, Nat.le_of_ble_eq_true rfl⟩ (dg ddX4_onRack 19 rfl) ?_
          refine lv_istore_n (lv' := [(3, .int r6), (0, .ref (q 0 0)), (1, .int a1), (2, .int a2)]) hx hb (dg ddX4_onRack 20 rfl) rfl hl (by decide) rfl (fun ls hl => ?_)
          refine lv_iload_n hx hb (dg ddX4_onRack 21 rfl) rfl (lv_at hl 0 rfl) ?_
          refine lv_iconst (v := (-1)) hx hb (dg ddX4_onRack 22 rfl) (by decide) ?_
          refine lv_icmp_ne (tgt := 53) hx hb (dg ddX4_onRack 23 rfl) (by decide) (fun h7 => ?_) (fun h7 => ?_)
          · have hf := it_f h7 hf
            refine lv_iload_n hx hb (dg ddX4_onRack 29 rfl) rfl (lv_at hl 0 rfl) ?_
            cases hf
            refine W.widen (k := 1) (n := 6) (Nat.le_of_ble_eq_true rfl) (Nat.le_of_ble_eq_true rfl) ?_
            exact x_wi CX hr hlk rfl hP hD hS (dg ddX4_onRack 30 rfl)
          · have hf := it_t h7 hf
            cases hf
            exact xt_4_S (is := 222) (tx := "the place is free") (by decide +kernel) CX (hml.trans hl.1.symm) hst hX hout hlk rfl hP hD hS (Nat.le_of_ble_eq_true rfl) (Nat.le_of_ble_eq_true rfl) (Nat.le_of_ble_eq_true rfl) (Nat.le_of_ble_eq_true rfl) (Nat.le_of_ble_eq_true rfl) (Nat.le_of_ble_eq_true rfl) (dg ddX4_onRack 24 rfl) (dg ddX4_onRack 25 rfl) (dg ddX4_onRack 26 rfl) (dg ddX4_onRack 27 rfl) (dg ddX4_onRack 28 rfl)
        · have hf := it_f h4 hf
          cases hf
          exact xt_1_S (is := 216) (tx := "no such rack or place") (by decide +kernel) CX (hml.trans hl.1.symm) hst hX hout hlk rfl hP hD hS (Nat.le_of_ble_eq_true rfl) (Nat.le_of_ble_eq_true rfl) (Nat.le_of_ble_eq_true rfl) (Nat.le_of_ble_eq_true rfl) (Nat.le_of_ble_eq_true rfl) (Nat.le_of_ble_eq_true rfl) (dg ddX4_onRack 10 rfl) (dg ddX4_onRack 11 rfl) (dg ddX4_onRack 12 rfl) (dg ddX4_onRack 13 rfl) (dg ddX4_onRack 14 rfl)
def f_X4_ranked_c2  (x_now : SV) (a1 : Int32) : Nat → Int32 → Option ((Nat) ⊕ (Int32))
  | 0, _ => none
  | n + 1, x2 => if 8 ≤ x2 then (some (.inl 4)) else (ob (f_X3_hasBusker (g_buskers x_now) x2) fun r3 => (if r3 = 0 then (f_X4_ranked_c2 x_now a1 n (x2 + 1)) else (ob (f_X3_countAhead (g_buskers x_now) (g_hat x_now) x2) fun r6 => (if r6 = a1 then (some (.inr x2)) else (f_X4_ranked_c2 x_now a1 n (x2 + 1))))))
def f_X4_ranked (x_now : SV) (a1 : Int32) : Option ((Nat) ⊕ (Int32)) := f_X4_ranked_c2 x_now a1 4096 0
set_option maxHeartbeats 4000000 in
set_option maxRecDepth 100000 in
theorem c_X4_ranked (l : Launch) (D : va_G) (cy : Nat → ClassId) (q : Nat → Nat → Nat) (x_isv : Int32) (x_te : Int32) (x_re : Int32) (x_de : Int32) (x_now : SV) (x_spa : SV) (x_sna : SV) (x_len : Int32) (x_sig : Nat → Int32) (x_nxt : Int32) (x_cnt : Int32) (x_rng : Nat → SV) (a1 : Int32) (sz : Nat) (hst : l.stackTraces = false) {res : (Nat) ⊕ (Int32)} (hf : f_X4_ranked x_now a1 = some res) : vx_Met l yX4_ranked (.code yX4_ranked cX4_ranked 3 (some .int) :: lw_all) { frames := 6, cells := 1, slots := 6, locals := 82 } (va_Pc [.ref (q 0 0), .int a1] (sX D cy (wX4 q cy x_isv x_te x_re x_de x_now x_spa x_sna x_len x_sig x_nxt x_cnt x_rng) sz)) (xI (α := Nat) D (fun x : Int32 => (wX4 q cy x_isv x_te x_re x_de x_now x_spa x_sna x_len x_sig x_nxt x_cnt x_rng)) (fun x : Int32 => x) res (va_A (wX4 q cy x_isv x_te x_re x_de x_now x_spa x_sna x_len x_sig x_nxt x_cnt x_rng) sz)) (xX (β := Int32) D (fun x : Nat => (wX4 q cy x_isv x_te x_re x_de x_now x_spa x_sna x_len x_sig x_nxt x_cnt x_rng)) (fun x : Nat => x) res (va_A (wX4 q cy x_isv x_te x_re x_de x_now x_spa x_sna x_len x_sig x_nxt x_cnt x_rng) sz)) 1 6 (va_A (wX4 q cy x_isv x_te x_re x_de x_now x_spa x_sna x_len x_sig x_nxt x_cnt x_rng) sz) := by
  refine mk_x (Qc := fun A => (xI (α := Nat) D (fun x : Int32 => (wX4 q cy x_isv x_te x_re x_de x_now x_spa x_sna x_len x_sig x_nxt x_cnt x_rng)) (fun x : Int32 => x) res A)) (XC := fun A => (xX (β := Int32) D (fun x : Nat => (wX4 q cy x_isv x_te x_re x_de x_now x_spa x_sna x_len x_sig x_nxt x_cnt x_rng)) (fun x : Nat => x) res A)) (Rc := RX4) (by decide +kernel) rfl (Nat.le_of_ble_eq_true rfl) ?_
  intro p e s m args below meth c ls A CX hml hr hlk hK hN hP hD hS hA hl hout hX
  have hx := CX.1
  have hb := CX.2.1
  have hRMX3_countAhead : (⟨2, 0, 0, 33⟩ : Room).frames + 1 ≤ (⟨6, 1, 6, 82⟩ : Room).frames ∧ 8 + (6 + 11) + (⟨2, 0, 0, 33⟩ : Room).locals ≤ (⟨6, 1, 6, 82⟩ : Room).locals := ⟨Nat.le_of_ble_eq_true rfl, Nat.le_of_ble_eq_true rfl⟩
  have hRMX3_hasBusker : (⟨1, 0, 0, 12⟩ : Room).frames + 1 ≤ (⟨6, 1, 6, 82⟩ : Room).frames ∧ 8 + (2 + 11) + (⟨1, 0, 0, 12⟩ : Room).locals ≤ (⟨6, 1, 6, 82⟩ : Room).locals := ⟨Nat.le_of_ble_eq_true rfl, Nat.le_of_ble_eq_true rfl⟩
  have hl0 := hl
  have K2 : ∀ (n : Nat), ∀ (x2 : Int32) (H : Heap) (locs : List Loc) (hP : va_P D vwCl (wX4 q cy x_isv x_te x_re x_de x_now x_spa x_sna x_len x_sig x_nxt x_cnt x_rng) H) (hD : va_D A (wX4 q cy x_isv x_te x_re x_de x_now x_spa x_sna x_len x_sig x_nxt x_cnt x_rng)) (hS : va_S A s.heap H locs) (ls : Array Slot) (hl : lv_has ls 3 [(0, .ref (q 0 0)), (1, .int a1), (2, .int x2)]) (hf : f_X4_ranked_c2 x_now a1 n x2 = some res), W p l e ⟨6, 1, 6, 82⟩ s m args below meth c H locs 0 0 (vx_MQ below (xI (α := Nat) D (fun x : Int32 => (wX4 q cy x_isv x_te x_re x_de x_now x_spa x_sna x_len x_sig x_nxt x_cnt x_rng)) (fun x : Int32 => x) res A) (xX (β := Int32) D (fun x : Nat => (wX4 q cy x_isv x_te x_re x_de x_now x_spa x_sna x_len x_sig x_nxt x_cnt x_rng)) (fun x : Nat => x) res A) args s 1 6 A) (F0 m 2 ls []) := by
    intro n
    induction n with
    | zero => intro x2 H locs hP hD hS ls hl hf; cases (show none = some res from hf)
    | succ n ih =>
    intro x2 H locs hP hD hS ls hl hf
    refine lv_iload_n hx hb (dg ddX4_ranked 2 rfl) rfl (lv_at hl 2 rfl) ?_
    refine lv_bipush (v := 8) hx hb (dg ddX4_ranked 3 rfl) (by decide) ?_
    refine lv_icmp_ge (tgt := 39) hx hb (dg ddX4_ranked 4 rfl) (by decide) (fun h1 => ?_) (fun h1 => ?_)
    · have hf := it_t h1 hf
      cases hf
      exact xt_4_S (is := 231) (tx := "no such place in the ranks") (by decide +kernel) CX (hml.trans hl.1.symm) hst hX hout hlk rfl hP hD hS (Nat.le_of_ble_eq_true rfl) (Nat.le_of_ble_eq_true rfl) (Nat.le_of_ble_eq_true rfl) (Nat.le_of_ble_eq_true rfl) (Nat.le_of_ble_eq_true rfl) (Nat.le_of_ble_eq_true rfl) (dg ddX4_ranked 20 rfl) (dg ddX4_ranked 21 rfl) (dg ddX4_ranked 22 rfl) (dg ddX4_ranked 23 rfl) (dg ddX4_ranked 24 rfl)
    · have hf := it_f h1 hf
      refine lv_aload_n hx hb (dg ddX4_ranked 5 rfl) rfl (lv_at hl 0 rfl) ?_
      refine gf_RX4_10 CX hK hP 0 rfl rfl (dg ddX4_ranked 6 rfl) ?_
      refine lv_iload_n hx hb (dg ddX4_ranked 7 rfl) rfl (lv_at hl 2 rfl) ?_
      obtain ⟨r3, e2, hf⟩ := ob_some hf
      refine cro_vi CX hml (As := [.int x2]) (rest := []) (c_X3_hasBusker l D cy (q 1) (g_hour x_now) (g_crowd x_now) (g_buskers x_now) (g_answered x_now) (g_draws x_now) (g_lim x_now) (g_cmp x_now) (g_sof x_now) (g_kin x_now) (g_lou x_now) (g_pit x_now) (g_pla x_now) (g_cas x_now) (g_hrs x_now) (g_nws x_now) (g_hat x_now) (g_wea x_now) (g_row x_now) x2 e2) lk_RX4_224 rfl rfl hRMX3_hasBusker (vaP_l (vaP_perm (pm_n _ _ _ _ _ _) hP)) hK hN 0 rfl rfl rfl hl.1 rfl (Nat.le_of_ble_eq_true rfl) ⟨Nat.le_of_ble_eq_true rfl, Nat.le_of_ble_eq_true rfl⟩ (dg ddX4_ranked 8 rfl) ?_
      refine lv_if_eq (tgt := 33) hx hb (dg ddX4_ranked 9 rfl) (by decide) (fun h4 => ?_) (fun h4 => ?_)
      · have hf := it_t h4 hf
        refine lv_iinc (v := x2 + 1) (lv' := [(2, .int (x2 + 1)), (0, .ref (q 0 0)), (1, .int a1)]) hx hb (dg ddX4_ranked 18 rfl) hl (k := 2) rfl (congrArg (HAdd.hAdd x2) (by decide)) (by decide) rfl (fun ls hl => ?_)
        refine lv_goto (tgt := 2) hx hb (dg ddX4_ranked 19 rfl) (by decide) ?_
        exact ih (x2 + 1) _ _ hP hD hS _ (lv_sub hl [1, 2, 0] rfl) hf
      · have hf := it_f h4 hf
        refine lv_aload_n hx hb (dg ddX4_ranked 10 rfl) rfl (lv_at hl 0 rfl) ?_
        refine gf_RX4_10 CX hK hP 0 rfl rfl (dg ddX4_ranked 11 rfl) ?_
        refine lv_iload_n hx hb (dg ddX4_ranked 12 rfl) rfl (lv_at hl 2 rfl) ?_
        obtain ⟨r6, e5, hf⟩ := ob_some hf
        refine cro_vi CX hml (As := [.int x2]) (rest := []) (c_X3_countAhead l D cy (q 1) (g_hour x_now) (g_crowd x_now) (g_buskers x_now) (g_answered x_now) (g_draws x_now) (g_lim x_now) (g_cmp x_now) (g_sof x_now) (g_kin x_now) (g_lou x_now) (g_pit x_now) (g_pla x_now) (g_cas x_now) (g_hrs x_now) (g_nws x_now) (g_hat x_now) (g_wea x_now) (g_row x_now) x2 e5) lk_RX4_228 rfl rfl hRMX3_countAhead (vaP_l (vaP_perm (pm_n _ _ _ _ _ _) hP)) hK hN 0 rfl rfl rfl hl.1 rfl (Nat.le_of_ble_eq_true rfl) ⟨Nat.le_of_ble_eq_true rfl, Nat.le_of_ble_eq_true rfl⟩ (dg ddX4_ranked 13 rfl) ?_
        refine lv_iload_n hx hb (dg ddX4_ranked 14 rfl) rfl (lv_at hl 1 rfl) ?_
        refine lv_icmp_ne (tgt := 33) hx hb (dg ddX4_ranked 15 rfl) (by decide) (fun h7 => ?_) (fun h7 => ?_)
        · have hf := it_f h7 hf
          refine lv_iinc (v := x2 + 1) (lv' := [(2, .int (x2 + 1)), (0, .ref (q 0 0)), (1, .int a1)]) hx hb (dg ddX4_ranked 18 rfl) hl (k := 2) rfl (congrArg (HAdd.hAdd x2) (by decide)) (by decide) rfl (fun ls hl => ?_)
          refine lv_goto (tgt := 2) hx hb (dg ddX4_ranked 19 rfl) (by decide) ?_
          exact ih (x2 + 1) _ _ hP hD hS _ (lv_sub hl [1, 2, 0] rfl) hf
        · have hf := it_t h7 hf
          refine lv_iload_n hx hb (dg ddX4_ranked 16 rfl) rfl (lv_at hl 2 rfl) ?_
          cases hf
          refine W.widen (k := 1) (n := 6) (Nat.le_of_ble_eq_true rfl) (Nat.le_of_ble_eq_true rfl) ?_
          exact x_wi CX hr hlk rfl hP hD hS (dg ddX4_ranked 17 rfl)
  refine lv_iconst (v := 0) hx hb (dg ddX4_ranked 0 rfl) (by decide) ?_
  refine lv_istore_n (lv' := [(2, .int 0), (0, .ref (q 0 0)), (1, .int a1)]) hx hb (dg ddX4_ranked 1 rfl) rfl hl (by decide) rfl (fun ls hl => ?_)
  exact K2 4096 0 _ _ hP hD hS _ (lv_sub hl [1, 2, 0] rfl) hf
def f_X4_pass (x_now : SV) (x_nxt : Int32) (x_cnt : Int32) (x_rng : Nat → SV) (a1 : Int32) : Option ((Nat × SV × Int32 × Int32 × (Nat → SV)) ⊕ (Int32 × SV × Int32 × Int32 × (Nat → SV))) := ob (f_X4_hindranceOfPass a1) fun r2 => (ob (f_X4_throwFor r2) fun r4 => (os r4 (fun t => some (.inl (t, x_now, x_nxt, x_cnt, x_rng))) fun _ => (ob (f_X1_keep x_nxt x_cnt x_rng x_now) fun r6 => (ob (f_X3_passHours (g_hour x_now) (g_crowd x_now) (g_lim x_now) (g_cmp x_now) (g_sof x_now) (g_kin x_now) (g_lou x_now) (g_pit x_now) (g_hrs x_now) (g_hat x_now) (g_wea x_now) (g_row x_now) a1) fun r8 => (some (.inr (r8.1, (s_row (s_wea (s_hat (s_hrs (s_pit (s_sof (s_cmp (s_hour x_now r8.2.1) r8.2.2.1) r8.2.2.2.1) r8.2.2.2.2.1) r8.2.2.2.2.2.1) r8.2.2.2.2.2.2.1) r8.2.2.2.2.2.2.2.1) r8.2.2.2.2.2.2.2.2), r6.1, r6.2.1, r6.2.2)))))))
set_option maxHeartbeats 4000000 in
set_option maxRecDepth 100000 in
theorem c_X4_pass (l : Launch) (D : va_G) (cy : Nat → ClassId) (q : Nat → Nat → Nat) (x_isv : Int32) (x_te : Int32) (x_re : Int32) (x_de : Int32) (x_now : SV) (x_spa : SV) (x_sna : SV) (x_len : Int32) (x_sig : Nat → Int32) (x_nxt : Int32) (x_cnt : Int32) (x_rng : Nat → SV) (a1 : Int32) (sz : Nat) (hst : l.stackTraces = false) {res : (Nat × SV × Int32 × Int32 × (Nat → SV)) ⊕ (Int32 × SV × Int32 × Int32 × (Nat → SV))} (hf : f_X4_pass x_now x_nxt x_cnt x_rng a1 = some res) : vx_Met l yX4_pass (.code yX4_pass cX4_pass 2 (some .int) :: lw_all) { frames := 7, cells := 1, slots := 6, locals := 102 } (va_Pc [.ref (q 0 0), .int a1] (sX D cy (wX4 q cy x_isv x_te x_re x_de x_now x_spa x_sna x_len x_sig x_nxt x_cnt x_rng) sz)) (xI (α := Nat × SV × Int32 × Int32 × (Nat → SV)) D (fun x : Int32 × SV × Int32 × Int32 × (Nat → SV) => (wX4 q cy x_isv x_te x_re x_de x.2.1 x_spa x_sna x_len x_sig x.2.2.1 x.2.2.2.1 x.2.2.2.2)) (fun x : Int32 × SV × Int32 × Int32 × (Nat → SV) => x.1) res (va_A (wX4 q cy x_isv x_te x_re x_de x_now x_spa x_sna x_len x_sig x_nxt x_cnt x_rng) sz)) (xX (β := Int32 × SV × Int32 × Int32 × (Nat → SV)) D (fun x : Nat × SV × Int32 × Int32 × (Nat → SV) => (wX4 q cy x_isv x_te x_re x_de x.2.1 x_spa x_sna x_len x_sig x.2.2.1 x.2.2.2.1 x.2.2.2.2)) (fun x : Nat × SV × Int32 × Int32 × (Nat → SV) => x.1) res (va_A (wX4 q cy x_isv x_te x_re x_de x_now x_spa x_sna x_len x_sig x_nxt x_cnt x_rng) sz)) 1 6 (va_A (wX4 q cy x_isv x_te x_re x_de x_now x_spa x_sna x_len x_sig x_nxt x_cnt x_rng) sz) := by
  refine mk_x (Qc := fun A => (xI (α := Nat × SV × Int32 × Int32 × (Nat → SV)) D (fun x : Int32 × SV × Int32 × Int32 × (Nat → SV) => (wX4 q cy x_isv x_te x_re x_de x.2.1 x_spa x_sna x_len x_sig x.2.2.1 x.2.2.2.1 x.2.2.2.2)) (fun x : Int32 × SV × Int32 × Int32 × (Nat → SV) => x.1) res A)) (XC := fun A => (xX (β := Int32 × SV × Int32 × Int32 × (Nat → SV)) D (fun x : Nat × SV × Int32 × Int32 × (Nat → SV) => (wX4 q cy x_isv x_te x_re x_de x.2.1 x_spa x_sna x_len x_sig x.2.2.1 x.2.2.2.1 x.2.2.2.2)) (fun x : Nat × SV × Int32 × Int32 × (Nat → SV) => x.1) res A)) (Rc := RX4) (by decide +kernel) rfl (Nat.le_of_ble_eq_true rfl) ?_
  intro p e s m args below meth c ls A CX hml hr hlk hK hN hP hD hS hA hl hout hX
  have hx := CX.1
  have hb := CX.2.1
  have hRMX1_keep : (⟨2, 0, 0, 61⟩ : Room).frames + 1 ≤ (⟨7, 1, 6, 102⟩ : Room).frames ∧ 8 + (3 + 11) + (⟨2, 0, 0, 61⟩ : Room).locals ≤ (⟨7, 1, 6, 102⟩ : Room).locals := ⟨Nat.le_of_ble_eq_true rfl, Nat.le_of_ble_eq_true rfl⟩
  have hRMX3_passHours : (⟨3, 0, 0, 58⟩ : Room).frames + 1 ≤ (⟨7, 1, 6, 102⟩ : Room).frames ∧ 8 + (6 + 11) + (⟨3, 0, 0, 58⟩ : Room).locals ≤ (⟨7, 1, 6, 102⟩ : Room).locals := ⟨Nat.le_of_ble_eq_true rfl, Nat.le_of_ble_eq_true rfl⟩
  have hRMX4_hindranceOfPass : (⟨2, 0, 0, 34⟩ : Room).frames + 1 ≤ (⟨7, 1, 6, 102⟩ : Room).frames ∧ 8 + (1 + 11) + (⟨2, 0, 0, 34⟩ : Room).locals ≤ (⟨7, 1, 6, 102⟩ : Room).locals := ⟨Nat.le_of_ble_eq_true rfl, Nat.le_of_ble_eq_true rfl⟩
  have hRMX4_throwFor : (⟨6, 1, 6, 82⟩ : Room).frames + 1 ≤ (⟨7, 1, 6, 102⟩ : Room).frames ∧ 8 + (1 + 11) + (⟨6, 1, 6, 82⟩ : Room).locals ≤ (⟨7, 1, 6, 102⟩ : Room).locals := ⟨Nat.le_of_ble_eq_true rfl, Nat.le_of_ble_eq_true rfl⟩
  refine lv_iload_n hx hb (dg ddX4_pass 0 rfl) rfl (lv_at hl 1 rfl) ?_
  obtain ⟨r2, e1, hf⟩ := ob_some hf
  refine cro_si CX hml (As := [.int a1]) (rest := []) (c_X4_hindranceOfPass l D cy a1 e1) lk_RX4_233 rfl rfl hRMX4_hindranceOfPass vaP_nil hK hN rfl hl.1 rfl (Nat.le_of_ble_eq_true rfl) ⟨Nat.le_of_ble_eq_true rfl, Nat.le_of_ble_eq_true rfl⟩ (dg ddX4_pass 1 rfl) ?_
  obtain ⟨r4, e3, hf⟩ := ob_some hf
  rcases r4 with t9 | t9
  · cases os_l hf
    exact crx_t CX hml (As := [.int r2]) (rest := []) (c_X4_throwFor l D cy r2 _ hst e3) lk_RX4_54 rfl rfl hRMX4_throwFor hP hD hS hA hK hN hX hout hlk rfl rfl rfl hl.1 rfl (Nat.le_of_ble_eq_true rfl) ⟨(Nat.le_of_ble_eq_true rfl), (Nat.le_of_ble_eq_true rfl)⟩ (Nat.le_of_ble_eq_true rfl) (Nat.le_of_ble_eq_true rfl) (dg ddX4_pass 2 rfl)
  have hf := os_r hf
  refine crx_r CX hml (As := [.int r2]) (rest := []) (c_X4_throwFor l D cy r2 _ hst e3) lk_RX4_54 rfl rfl hRMX4_throwFor hP hD hS hA hK hN hX rfl hl.1 rfl (Nat.le_of_ble_eq_true rfl) ⟨(Nat.le_of_ble_eq_true rfl), (Nat.le_of_ble_eq_true rfl)⟩ (dg ddX4_pass 2 rfl) (fun H locs hP hS => ?_)
  refine lv_aload_n hx hb (dg ddX4_pass 3 rfl) rfl (lv_at hl 0 rfl) ?_
  refine gf_RX4_29 CX hK hP 0 rfl rfl (dg ddX4_pass 4 rfl) ?_
  refine lv_aload_n hx hb (dg ddX4_pass 5 rfl) rfl (lv_at hl 0 rfl) ?_
  refine gf_RX4_10 CX hK hP 0 rfl rfl (dg ddX4_pass 6 rfl) ?_
  obtain ⟨r6, e5, hf⟩ := ob_some hf
  refine crf_vv CX hml (As := [.ref (q 1 0)]) (rest := []) (ws := (wX4 q cy x_isv x_te x_re x_de x_now x_spa x_sna x_len x_sig x_nxt x_cnt x_rng)) (wsn := (wX4 q cy x_isv x_te x_re x_de x_now x_spa x_sna x_len x_sig r6.1 r6.2.1 r6.2.2)) (c_X1_keep l D cy q (q 1) x_nxt x_cnt x_rng x_now _ e5) lk_RX4_58 rfl rfl hRMX1_keep hP hD hS hA hK hN (pm_hn _ _ _ _ _ _) ((pm_hn _ _ _ _ _ _).symm) 0 rfl rfl rfl hl.1 rfl (Nat.le_of_ble_eq_true rfl) ⟨Nat.le_of_ble_eq_true rfl, Nat.le_of_ble_eq_true rfl⟩ (dg ddX4_pass 7 rfl) (fun H locs hP hD hS => ?_)
  refine lv_aload_n hx hb (dg ddX4_pass 8 rfl) rfl (lv_at hl 0 rfl) ?_
  refine gf_RX4_10 CX hK hP 0 rfl rfl (dg ddX4_pass 9 rfl) ?_
  refine lv_iload_n hx hb (dg ddX4_pass 10 rfl) rfl (lv_at hl 1 rfl) ?_
  obtain ⟨r8, e7, hf⟩ := ob_some hf
  refine crf_vi CX hml (As := [.int a1]) (rest := []) (ws := (wX4 q cy x_isv x_te x_re x_de x_now x_spa x_sna x_len x_sig r6.1 r6.2.1 r6.2.2)) (wsn := (wX4 q cy x_isv x_te x_re x_de (s_row (s_wea (s_hat (s_hrs (s_pit (s_sof (s_cmp (s_hour x_now r8.2.1) r8.2.2.1) r8.2.2.2.1) r8.2.2.2.2.1) r8.2.2.2.2.2.1) r8.2.2.2.2.2.2.1) r8.2.2.2.2.2.2.2.1) r8.2.2.2.2.2.2.2.2) x_spa x_sna x_len x_sig r6.1 r6.2.1 r6.2.2)) (c_X3_passHours l D cy (q 1) (g_hour x_now) (g_crowd x_now) (g_buskers x_now) (g_answered x_now) (g_draws x_now) (g_lim x_now) (g_cmp x_now) (g_sof x_now) (g_kin x_now) (g_lou x_now) (g_pit x_now) (g_pla x_now) (g_cas x_now) (g_hrs x_now) (g_nws x_now) (g_hat x_now) (g_wea x_now) (g_row x_now) a1 _ e7) lk_RX4_236 rfl rfl hRMX3_passHours hP hD hS hA hK hN (pm_n _ _ _ _ _ _) ((pm_n _ _ _ _ _ _).symm) 0 rfl rfl rfl hl.1 rfl (Nat.le_of_ble_eq_true rfl) ⟨Nat.le_of_ble_eq_true rfl, Nat.le_of_ble_eq_true rfl⟩ (dg ddX4_pass 11 rfl) (fun H locs hP hD hS => ?_)
  cases hf
  exact x_wi CX hr hlk rfl hP hD hS (dg ddX4_pass 12 rfl)
def f_X4_hatIn (x_now : SV) (x_spa : SV) (a1 : Int32) (a2 : Int32) : Option ((Nat × SV) ⊕ (Int32 × SV)) := ob (f_X4_hindranceOfBuskerNumber x_now a1) fun r2 => (ob (f_X4_throwFor r2) fun r4 => (os r4 (fun t => some (.inl (t, x_spa))) fun _ => (ob (f_X4_hindranceOfLookAhead a2) fun r6 => (ob (f_X4_throwFor r6) fun r8 => (os r8 (fun t => some (.inl (t, x_spa))) fun _ => (ob (f_X3_copyFrom (g_hour x_spa) (g_crowd x_spa) (g_buskers x_spa) (g_answered x_spa) (g_draws x_spa) (g_lim x_spa) (g_cmp x_spa) (g_sof x_spa) (g_kin x_spa) (g_lou x_spa) (g_pit x_spa) (g_pla x_spa) (g_cas x_spa) (g_hrs x_spa) (g_nws x_spa) (g_hat x_spa) (g_wea x_spa) (g_hour x_now) (g_crowd x_now) (g_buskers x_now) (g_answered x_now) (g_draws x_now) (g_lim x_now) (g_cmp x_now) (g_sof x_now) (g_kin x_now) (g_lou x_now) (g_pit x_now) (g_pla x_now) (g_cas x_now) (g_hrs x_now) (g_nws x_now) (g_hat x_now) (g_wea x_now)) fun r10 => (ob (f_X3_passHours (g_hour (sv_cp x_spa r10)) (g_crowd (sv_cp x_spa r10)) (g_lim (sv_cp x_spa r10)) (g_cmp (sv_cp x_spa r10)) (g_sof (sv_cp x_spa r10)) (g_kin (sv_cp x_spa r10)) (g_lou (sv_cp x_spa r10)) (g_pit (sv_cp x_spa r10)) (g_hrs (sv_cp x_spa r10)) (g_hat (sv_cp x_spa r10)) (g_wea (sv_cp x_spa r10)) (g_row (sv_cp x_spa r10)) a2) fun r12 => (og (inb a1 8) (ob (f_X0_ofFloat (r12.2.2.2.2.2.2.1 a1.toNatClampNeg)) fun r15 => (some (.inr (r15, (s_row (s_wea (s_hat (s_hrs (s_pit (s_sof (s_cmp (s_hour (sv_cp x_spa r10) r12.2.1) r12.2.2.1) r12.2.2.2.1) r12.2.2.2.2.1) r12.2.2.2.2.2.1) r12.2.2.2.2.2.2.1) r12.2.2.2.2.2.2.2.1) r12.2.2.2.2.2.2.2.2)))))))))))))
set_option maxHeartbeats 4000000 in
set_option maxRecDepth 100000 in
theorem c_X4_hatIn (l : Launch) (D : va_G) (cy : Nat → ClassId) (q : Nat → Nat → Nat) (x_isv : Int32) (x_te : Int32) (x_re : Int32) (x_de : Int32) (x_now : SV) (x_spa : SV) (x_sna : SV) (x_len : Int32) (x_sig : Nat → Int32) (x_nxt : Int32) (x_cnt : Int32) (x_rng : Nat → SV) (a1 : Int32) (a2 : Int32) (sz : Nat) (hst : l.stackTraces = false) {res : (Nat × SV) ⊕ (Int32 × SV)} (hf : f_X4_hatIn x_now x_spa a1 a2 = some res) : vx_Met l yX4_hatIn (.code yX4_hatIn cX4_hatIn 3 (some .int) :: lw_all) { frames := 7, cells := 2, slots := 12, locals := 102 } (va_Pc [.ref (q 0 0), .int a1, .int a2] (sX D cy (wX4 q cy x_isv x_te x_re x_de x_now x_spa x_sna x_len x_sig x_nxt x_cnt x_rng) sz)) (xI (α := Nat × SV) D (fun x : Int32 × SV => (wX4 q cy x_isv x_te x_re x_de x_now x.2 x_sna x_len x_sig x_nxt x_cnt x_rng)) (fun x : Int32 × SV => x.1) res (va_A (wX4 q cy x_isv x_te x_re x_de x_now x_spa x_sna x_len x_sig x_nxt x_cnt x_rng) sz)) (xX (β := Int32 × SV) D (fun x : Nat × SV => (wX4 q cy x_isv x_te x_re x_de x_now x.2 x_sna x_len x_sig x_nxt x_cnt x_rng)) (fun x : Nat × SV => x.1) res (va_A (wX4 q cy x_isv x_te x_re x_de x_now x_spa x_sna x_len x_sig x_nxt x_cnt x_rng) sz)) 2 12 (va_A (wX4 q cy x_isv x_te x_re x_de x_now x_spa x_sna x_len x_sig x_nxt x_cnt x_rng) sz) := by
  refine mk_x (Qc := fun A => (xI (α := Nat × SV) D (fun x : Int32 × SV => (wX4 q cy x_isv x_te x_re x_de x_now x.2 x_sna x_len x_sig x_nxt x_cnt x_rng)) (fun x : Int32 × SV => x.1) res A)) (XC := fun A => (xX (β := Int32 × SV) D (fun x : Nat × SV => (wX4 q cy x_isv x_te x_re x_de x_now x.2 x_sna x_len x_sig x_nxt x_cnt x_rng)) (fun x : Nat × SV => x.1) res A)) (Rc := RX4) (by decide +kernel) rfl (Nat.le_of_ble_eq_true rfl) ?_
  intro p e s m args below meth c ls A CX hml hr hlk hK hN hP hD hS hA hl hout hX
  have hx := CX.1
  have hb := CX.2.1
  have hRMX0_ofFloat : (⟨1, 0, 0, 12⟩ : Room).frames + 1 ≤ (⟨7, 2, 12, 102⟩ : Room).frames ∧ 8 + (3 + 11) + (⟨1, 0, 0, 12⟩ : Room).locals ≤ (⟨7, 2, 12, 102⟩ : Room).locals := ⟨Nat.le_of_ble_eq_true rfl, Nat.le_of_ble_eq_true rfl⟩
  have hRMX3_copyFrom : (⟨1, 0, 0, 40⟩ : Room).frames + 1 ≤ (⟨7, 2, 12, 102⟩ : Room).frames ∧ 8 + (2 + 11) + (⟨1, 0, 0, 40⟩ : Room).locals ≤ (⟨7, 2, 12, 102⟩ : Room).locals := ⟨Nat.le_of_ble_eq_true rfl, Nat.le_of_ble_eq_true rfl⟩
  have hRMX3_passHours : (⟨3, 0, 0, 58⟩ : Room).frames + 1 ≤ (⟨7, 2, 12, 102⟩ : Room).frames ∧ 8 + (6 + 11) + (⟨3, 0, 0, 58⟩ : Room).locals ≤ (⟨7, 2, 12, 102⟩ : Room).locals := ⟨Nat.le_of_ble_eq_true rfl, Nat.le_of_ble_eq_true rfl⟩
  have hRMX4_hindranceOfBuskerNumber : (⟨2, 0, 0, 33⟩ : Room).frames + 1 ≤ (⟨7, 2, 12, 102⟩ : Room).frames ∧ 8 + (2 + 11) + (⟨2, 0, 0, 33⟩ : Room).locals ≤ (⟨7, 2, 12, 102⟩ : Room).locals := ⟨Nat.le_of_ble_eq_true rfl, Nat.le_of_ble_eq_true rfl⟩
  have hRMX4_hindranceOfLookAhead : (⟨2, 0, 0, 34⟩ : Room).frames + 1 ≤ (⟨7, 2, 12, 102⟩ : Room).frames ∧ 8 + (1 + 11) + (⟨2, 0, 0, 34⟩ : Room).locals ≤ (⟨7, 2, 12, 102⟩ : Room).locals := ⟨Nat.le_of_ble_eq_true rfl, Nat.le_of_ble_eq_true rfl⟩
  have hRMX4_throwFor : (⟨6, 1, 6, 82⟩ : Room).frames + 1 ≤ (⟨7, 2, 12, 102⟩ : Room).frames ∧ 8 + (1 + 11) + (⟨6, 1, 6, 82⟩ : Room).locals ≤ (⟨7, 2, 12, 102⟩ : Room).locals := ⟨Nat.le_of_ble_eq_true rfl, Nat.le_of_ble_eq_true rfl⟩
  refine lv_aload_n hx hb (dg ddX4_hatIn 0 rfl) rfl (lv_at hl 0 rfl) ?_
  refine lv_iload_n hx hb (dg ddX4_hatIn 1 rfl) rfl (lv_at hl 1 rfl) ?_
  obtain ⟨r2, e1, hf⟩ := ob_some hf
  refine cro_vi CX hml (As := [.int a1]) (rest := []) (c_X4_hindranceOfBuskerNumber l D cy q x_isv x_te x_re x_de x_now x_spa x_sna x_len x_sig x_nxt x_cnt x_rng a1 e1) lk_RX4_85 rfl rfl hRMX4_hindranceOfBuskerNumber hP hK hN 0 rfl rfl rfl hl.1 rfl (Nat.le_of_ble_eq_true rfl) ⟨Nat.le_of_ble_eq_true rfl, Nat.le_of_ble_eq_true rfl⟩ (dg ddX4_hatIn 2 rfl) ?_
  obtain ⟨r4, e3, hf⟩ := ob_some hf
  rcases r4 with t9 | t9
  · cases os_l hf
    exact crx_t CX hml (As := [.int r2]) (rest := []) (c_X4_throwFor l D cy r2 _ hst e3) lk_RX4_54 rfl rfl hRMX4_throwFor hP hD hS hA hK hN hX hout hlk rfl rfl rfl hl.1 rfl (Nat.le_of_ble_eq_true rfl) ⟨(Nat.le_of_ble_eq_true rfl), (Nat.le_of_ble_eq_true rfl)⟩ (Nat.le_of_ble_eq_true rfl) (Nat.le_of_ble_eq_true rfl) (dg ddX4_hatIn 3 rfl)
  have hf := os_r hf
  refine crx_r CX hml (As := [.int r2]) (rest := []) (c_X4_throwFor l D cy r2 _ hst e3) lk_RX4_54 rfl rfl hRMX4_throwFor hP hD hS hA hK hN hX rfl hl.1 rfl (Nat.le_of_ble_eq_true rfl) ⟨(Nat.le_of_ble_eq_true rfl), (Nat.le_of_ble_eq_true rfl)⟩ (dg ddX4_hatIn 3 rfl) (fun H locs hP hS => ?_)
  refine lv_iload_n hx hb (dg ddX4_hatIn 4 rfl) rfl (lv_at hl 2 rfl) ?_
  obtain ⟨r6, e5, hf⟩ := ob_some hf
  refine cro_si CX hml (As := [.int a2]) (rest := []) (c_X4_hindranceOfLookAhead l D cy a2 e5) lk_RX4_239 rfl rfl hRMX4_hindranceOfLookAhead vaP_nil hK hN rfl hl.1 rfl (Nat.le_of_ble_eq_true rfl) ⟨Nat.le_of_ble_eq_true rfl, Nat.le_of_ble_eq_true rfl⟩ (dg ddX4_hatIn 5 rfl) ?_
  obtain ⟨r8, e7, hf⟩ := ob_some hf
  rcases r8 with t9 | t9
  · cases os_l hf
    exact crx_t CX hml (As := [.int r6]) (rest := []) (c_X4_throwFor l D cy r6 _ hst e7) lk_RX4_54 rfl rfl hRMX4_throwFor hP hD hS hA hK hN hX hout hlk rfl rfl rfl hl.1 rfl (Nat.le_of_ble_eq_true rfl) ⟨(Nat.le_of_ble_eq_true rfl), (Nat.le_of_ble_eq_true rfl)⟩ (Nat.le_of_ble_eq_true rfl) (Nat.le_of_ble_eq_true rfl) (dg ddX4_hatIn 6 rfl)
  have hf := os_r hf
  refine crx_r CX hml (As := [.int r6]) (rest := []) (c_X4_throwFor l D cy r6 _ hst e7) lk_RX4_54 rfl rfl hRMX4_throwFor hP hD hS hA hK hN hX rfl hl.1 rfl (Nat.le_of_ble_eq_true rfl) ⟨(Nat.le_of_ble_eq_true rfl), (Nat.le_of_ble_eq_true rfl)⟩ (dg ddX4_hatIn 6 rfl) (fun H locs hP hS => ?_)
  refine lv_aload_n hx hb (dg ddX4_hatIn 7 rfl) rfl (lv_at hl 0 rfl) ?_
  refine gf_RX4_16 CX hK hP 0 rfl rfl (dg ddX4_hatIn 8 rfl) ?_
  refine lv_aload_n hx hb (dg ddX4_hatIn 9 rfl) rfl (lv_at hl 0 rfl) ?_
  refine gf_RX4_10 CX hK hP 0 rfl rfl (dg ddX4_hatIn 10 rfl) ?_
  obtain ⟨r10, e9, hf⟩ := ob_some hf
  refine crf_vv CX hml (As := [.ref (q 1 0)]) (rest := []) (ws := (wX4 q cy x_isv x_te x_re x_de x_now x_spa x_sna x_len x_sig x_nxt x_cnt x_rng)) (wsn := (wX4 q cy x_isv x_te x_re x_de x_now (sv_cp x_spa r10) x_sna x_len x_sig x_nxt x_cnt x_rng)) (c_X3_copyFrom l D cy (q 2) (q 1) (g_hour x_spa) (g_crowd x_spa) (g_buskers x_spa) (g_answered x_spa) (g_draws x_spa) (g_lim x_spa) (g_cmp x_spa) (g_sof x_spa) (g_kin x_spa) (g_lou x_spa) (g_pit x_spa) (g_pla x_spa) (g_cas x_spa) (g_hrs x_spa) (g_nws x_spa) (g_hat x_spa) (g_wea x_spa) (g_row x_spa) (g_hour x_now) (g_crowd x_now) (g_buskers x_now) (g_answered x_now) (g_draws x_now) (g_lim x_now) (g_cmp x_now) (g_sof x_now) (g_kin x_now) (g_lou x_now) (g_pit x_now) (g_pla x_now) (g_cas x_now) (g_hrs x_now) (g_nws x_now) (g_hat x_now) (g_wea x_now) (g_row x_now) _ e9) lk_RX4_242 rfl rfl hRMX3_copyFrom hP hD hS hA hK hN (pm_sn _ _ _ _ _ _) ((pm_sn _ _ _ _ _ _).symm) 0 rfl rfl rfl hl.1 rfl (Nat.le_of_ble_eq_true rfl) ⟨Nat.le_of_ble_eq_true rfl, Nat.le_of_ble_eq_true rfl⟩ (dg ddX4_hatIn 11 rfl) (fun H locs hP hD hS => ?_)
  refine lv_aload_n hx hb (dg ddX4_hatIn 12 rfl) rfl (lv_at hl 0 rfl) ?_
  refine gf_RX4_16 CX hK hP 0 rfl rfl (dg ddX4_hatIn 13 rfl) ?_
  refine lv_iload_n hx hb (dg ddX4_hatIn 14 rfl) rfl (lv_at hl 2 rfl) ?_
  obtain ⟨r12, e11, hf⟩ := ob_some hf
  refine crf_vi CX hml (As := [.int a2]) (rest := []) (ws := (wX4 q cy x_isv x_te x_re x_de x_now (sv_cp x_spa r10) x_sna x_len x_sig x_nxt x_cnt x_rng)) (wsn := (wX4 q cy x_isv x_te x_re x_de x_now (s_row (s_wea (s_hat (s_hrs (s_pit (s_sof (s_cmp (s_hour (sv_cp x_spa r10) r12.2.1) r12.2.2.1) r12.2.2.2.1) r12.2.2.2.2.1) r12.2.2.2.2.2.1) r12.2.2.2.2.2.2.1) r12.2.2.2.2.2.2.2.1) r12.2.2.2.2.2.2.2.2) x_sna x_len x_sig x_nxt x_cnt x_rng)) (c_X3_passHours l D cy (q 2) (g_hour (sv_cp x_spa r10)) (g_crowd (sv_cp x_spa r10)) (g_buskers (sv_cp x_spa r10)) (g_answered (sv_cp x_spa r10)) (g_draws (sv_cp x_spa r10)) (g_lim (sv_cp x_spa r10)) (g_cmp (sv_cp x_spa r10)) (g_sof (sv_cp x_spa r10)) (g_kin (sv_cp x_spa r10)) (g_lou (sv_cp x_spa r10)) (g_pit (sv_cp x_spa r10)) (g_pla (sv_cp x_spa r10)) (g_cas (sv_cp x_spa r10)) (g_hrs (sv_cp x_spa r10)) (g_nws (sv_cp x_spa r10)) (g_hat (sv_cp x_spa r10)) (g_wea (sv_cp x_spa r10)) (g_row (sv_cp x_spa r10)) a2 _ e11) lk_RX4_236 rfl rfl hRMX3_passHours hP hD hS hA hK hN (pm_s _ _ _ _ _ _) ((pm_s _ _ _ _ _ _).symm) 0 rfl rfl rfl hl.1 rfl (Nat.le_of_ble_eq_true rfl) ⟨Nat.le_of_ble_eq_true rfl, Nat.le_of_ble_eq_true rfl⟩ (dg ddX4_hatIn 15 rfl) (fun H locs hP hD hS => ?_)
  refine lv_pop hx hb (dg ddX4_hatIn 16 rfl) rfl ?_
  refine lv_aload_n hx hb (dg ddX4_hatIn 17 rfl) rfl (lv_at hl 0 rfl) ?_
  refine gf_RX4_16 CX hK hP 0 rfl rfl (dg ddX4_hatIn 18 rfl) ?_
  refine gf_RX4_117 CX hK hP 15 rfl rfl (dg ddX4_hatIn 19 rfl) ?_
  refine lv_iload_n hx hb (dg ddX4_hatIn 20 rfl) rfl (lv_at hl 1 rfl) ?_
  obtain ⟨h13, hf⟩ := og_some hf
  refine va_fald hx hb hK hP 26 1 rfl rfl (inb_in h13) (dg ddX4_hatIn 21 rfl) ?_
  obtain ⟨r15, e14, hf⟩ := ob_some hf
  refine cro_si CX hml (As := [.float (r12.2.2.2.2.2.2.1 a1.toNatClampNeg)]) (rest := []) (c_X0_ofFloat l D cy (r12.2.2.2.2.2.2.1 a1.toNatClampNeg) e14) lk_RX4_73 rfl rfl hRMX0_ofFloat vaP_nil hK hN rfl hl.1 rfl (Nat.le_of_ble_eq_true rfl) ⟨Nat.le_of_ble_eq_true rfl, Nat.le_of_ble_eq_true rfl⟩ (dg ddX4_hatIn 22 rfl) ?_
  cases hf
  exact x_wi CX hr hlk rfl hP hD hS (dg ddX4_hatIn 23 rfl)
def f_X4_playingIn (x_now : SV) (x_spa : SV) (a1 : Int32) : Option ((Nat × SV) ⊕ (Int32 × SV)) := ob (f_X4_hindranceOfLookAhead a1) fun r2 => (ob (f_X4_throwFor r2) fun r4 => (os r4 (fun t => some (.inl (t, x_spa))) fun _ => (ob (f_X3_copyFrom (g_hour x_spa) (g_crowd x_spa) (g_buskers x_spa) (g_answered x_spa) (g_draws x_spa) (g_lim x_spa) (g_cmp x_spa) (g_sof x_spa) (g_kin x_spa) (g_lou x_spa) (g_pit x_spa) (g_pla x_spa) (g_cas x_spa) (g_hrs x_spa) (g_nws x_spa) (g_hat x_spa) (g_wea x_spa) (g_hour x_now) (g_crowd x_now) (g_buskers x_now) (g_answered x_now) (g_draws x_now) (g_lim x_now) (g_cmp x_now) (g_sof x_now) (g_kin x_now) (g_lou x_now) (g_pit x_now) (g_pla x_now) (g_cas x_now) (g_hrs x_now) (g_nws x_now) (g_hat x_now) (g_wea x_now)) fun r6 => (ob (f_X3_passHours (g_hour (sv_cp x_spa r6)) (g_crowd (sv_cp x_spa r6)) (g_lim (sv_cp x_spa r6)) (g_cmp (sv_cp x_spa r6)) (g_sof (sv_cp x_spa r6)) (g_kin (sv_cp x_spa r6)) (g_lou (sv_cp x_spa r6)) (g_pit (sv_cp x_spa r6)) (g_hrs (sv_cp x_spa r6)) (g_hat (sv_cp x_spa r6)) (g_wea (sv_cp x_spa r6)) (g_row (sv_cp x_spa r6)) a1) fun r8 => (ob (f_X3_countPlaying r8.2.2.2.2.1) fun r10 => (some (.inr (r10, (s_row (s_wea (s_hat (s_hrs (s_pit (s_sof (s_cmp (s_hour (sv_cp x_spa r6) r8.2.1) r8.2.2.1) r8.2.2.2.1) r8.2.2.2.2.1) r8.2.2.2.2.2.1) r8.2.2.2.2.2.2.1) r8.2.2.2.2.2.2.2.1) r8.2.2.2.2.2.2.2.2)))))))))
set_option maxHeartbeats 4000000 in
set_option maxRecDepth 100000 in
theorem c_X4_playingIn (l : Launch) (D : va_G) (cy : Nat → ClassId) (q : Nat → Nat → Nat) (x_isv : Int32) (x_te : Int32) (x_re : Int32) (x_de : Int32) (x_now : SV) (x_spa : SV) (x_sna : SV) (x_len : Int32) (x_sig : Nat → Int32) (x_nxt : Int32) (x_cnt : Int32) (x_rng : Nat → SV) (a1 : Int32) (sz : Nat) (hst : l.stackTraces = false) {res : (Nat × SV) ⊕ (Int32 × SV)} (hf : f_X4_playingIn x_now x_spa a1 = some res) : vx_Met l yX4_playingIn (.code yX4_playingIn cX4_playingIn 2 (some .int) :: lw_all) { frames := 7, cells := 1, slots := 6, locals := 102 } (va_Pc [.ref (q 0 0), .int a1] (sX D cy (wX4 q cy x_isv x_te x_re x_de x_now x_spa x_sna x_len x_sig x_nxt x_cnt x_rng) sz)) (xI (α := Nat × SV) D (fun x : Int32 × SV => (wX4 q cy x_isv x_te x_re x_de x_now x.2 x_sna x_len x_sig x_nxt x_cnt x_rng)) (fun x : Int32 × SV => x.1) res (va_A (wX4 q cy x_isv x_te x_re x_de x_now x_spa x_sna x_len x_sig x_nxt x_cnt x_rng) sz)) (xX (β := Int32 × SV) D (fun x : Nat × SV => (wX4 q cy x_isv x_te x_re x_de x_now x.2 x_sna x_len x_sig x_nxt x_cnt x_rng)) (fun x : Nat × SV => x.1) res (va_A (wX4 q cy x_isv x_te x_re x_de x_now x_spa x_sna x_len x_sig x_nxt x_cnt x_rng) sz)) 1 6 (va_A (wX4 q cy x_isv x_te x_re x_de x_now x_spa x_sna x_len x_sig x_nxt x_cnt x_rng) sz) := by
  refine mk_x (Qc := fun A => (xI (α := Nat × SV) D (fun x : Int32 × SV => (wX4 q cy x_isv x_te x_re x_de x_now x.2 x_sna x_len x_sig x_nxt x_cnt x_rng)) (fun x : Int32 × SV => x.1) res A)) (XC := fun A => (xX (β := Int32 × SV) D (fun x : Nat × SV => (wX4 q cy x_isv x_te x_re x_de x_now x.2 x_sna x_len x_sig x_nxt x_cnt x_rng)) (fun x : Nat × SV => x.1) res A)) (Rc := RX4) (by decide +kernel) rfl (Nat.le_of_ble_eq_true rfl) ?_
  intro p e s m args below meth c ls A CX hml hr hlk hK hN hP hD hS hA hl hout hX
  have hx := CX.1
  have hb := CX.2.1
  have hRMX3_copyFrom : (⟨1, 0, 0, 40⟩ : Room).frames + 1 ≤ (⟨7, 1, 6, 102⟩ : Room).frames ∧ 8 + (2 + 11) + (⟨1, 0, 0, 40⟩ : Room).locals ≤ (⟨7, 1, 6, 102⟩ : Room).locals := ⟨Nat.le_of_ble_eq_true rfl, Nat.le_of_ble_eq_true rfl⟩
  have hRMX3_countPlaying : (⟨1, 0, 0, 12⟩ : Room).frames + 1 ≤ (⟨7, 1, 6, 102⟩ : Room).frames ∧ 8 + (6 + 11) + (⟨1, 0, 0, 12⟩ : Room).locals ≤ (⟨7, 1, 6, 102⟩ : Room).locals := ⟨Nat.le_of_ble_eq_true rfl, Nat.le_of_ble_eq_true rfl⟩
  have hRMX3_passHours : (⟨3, 0, 0, 58⟩ : Room).frames + 1 ≤ (⟨7, 1, 6, 102⟩ : Room).frames ∧ 8 + (6 + 11) + (⟨3, 0, 0, 58⟩ : Room).locals ≤ (⟨7, 1, 6, 102⟩ : Room).locals := ⟨Nat.le_of_ble_eq_true rfl, Nat.le_of_ble_eq_true rfl⟩
  have hRMX4_hindranceOfLookAhead : (⟨2, 0, 0, 34⟩ : Room).frames + 1 ≤ (⟨7, 1, 6, 102⟩ : Room).frames ∧ 8 + (1 + 11) + (⟨2, 0, 0, 34⟩ : Room).locals ≤ (⟨7, 1, 6, 102⟩ : Room).locals := ⟨Nat.le_of_ble_eq_true rfl, Nat.le_of_ble_eq_true rfl⟩
  have hRMX4_throwFor : (⟨6, 1, 6, 82⟩ : Room).frames + 1 ≤ (⟨7, 1, 6, 102⟩ : Room).frames ∧ 8 + (1 + 11) + (⟨6, 1, 6, 82⟩ : Room).locals ≤ (⟨7, 1, 6, 102⟩ : Room).locals := ⟨Nat.le_of_ble_eq_true rfl, Nat.le_of_ble_eq_true rfl⟩
  refine lv_iload_n hx hb (dg ddX4_playingIn 0 rfl) rfl (lv_at hl 1 rfl) ?_
  obtain ⟨r2, e1, hf⟩ := ob_some hf
  refine cro_si CX hml (As := [.int a1]) (rest := []) (c_X4_hindranceOfLookAhead l D cy a1 e1) lk_RX4_239 rfl rfl hRMX4_hindranceOfLookAhead vaP_nil hK hN rfl hl.1 rfl (Nat.le_of_ble_eq_true rfl) ⟨Nat.le_of_ble_eq_true rfl, Nat.le_of_ble_eq_true rfl⟩ (dg ddX4_playingIn 1 rfl) ?_
  obtain ⟨r4, e3, hf⟩ := ob_some hf
  rcases r4 with t9 | t9
  · cases os_l hf
    exact crx_t CX hml (As := [.int r2]) (rest := []) (c_X4_throwFor l D cy r2 _ hst e3) lk_RX4_54 rfl rfl hRMX4_throwFor hP hD hS hA hK hN hX hout hlk rfl rfl rfl hl.1 rfl (Nat.le_of_ble_eq_true rfl) ⟨(Nat.le_of_ble_eq_true rfl), (Nat.le_of_ble_eq_true rfl)⟩ (Nat.le_of_ble_eq_true rfl) (Nat.le_of_ble_eq_true rfl) (dg ddX4_playingIn 2 rfl)
  have hf := os_r hf
  refine crx_r CX hml (As := [.int r2]) (rest := []) (c_X4_throwFor l D cy r2 _ hst e3) lk_RX4_54 rfl rfl hRMX4_throwFor hP hD hS hA hK hN hX rfl hl.1 rfl (Nat.le_of_ble_eq_true rfl) ⟨(Nat.le_of_ble_eq_true rfl), (Nat.le_of_ble_eq_true rfl)⟩ (dg ddX4_playingIn 2 rfl) (fun H locs hP hS => ?_)
  refine lv_aload_n hx hb (dg ddX4_playingIn 3 rfl) rfl (lv_at hl 0 rfl) ?_
  refine gf_RX4_16 CX hK hP 0 rfl rfl (dg ddX4_playingIn 4 rfl) ?_
  refine lv_aload_n hx hb (dg ddX4_playingIn 5 rfl) rfl (lv_at hl 0 rfl) ?_
  refine gf_RX4_10 CX hK hP 0 rfl rfl (dg ddX4_playingIn 6 rfl) ?_
  obtain ⟨r6, e5, hf⟩ := ob_some hf
  refine crf_vv CX hml (As := [.ref (q 1 0)]) (rest := []) (ws := (wX4 q cy x_isv x_te x_re x_de x_now x_spa x_sna x_len x_sig x_nxt x_cnt x_rng)) (wsn := (wX4 q cy x_isv x_te x_re x_de x_now (sv_cp x_spa r6) x_sna x_len x_sig x_nxt x_cnt x_rng)) (c_X3_copyFrom l D cy (q 2) (q 1) (g_hour x_spa) (g_crowd x_spa) (g_buskers x_spa) (g_answered x_spa) (g_draws x_spa) (g_lim x_spa) (g_cmp x_spa) (g_sof x_spa) (g_kin x_spa) (g_lou x_spa) (g_pit x_spa) (g_pla x_spa) (g_cas x_spa) (g_hrs x_spa) (g_nws x_spa) (g_hat x_spa) (g_wea x_spa) (g_row x_spa) (g_hour x_now) (g_crowd x_now) (g_buskers x_now) (g_answered x_now) (g_draws x_now) (g_lim x_now) (g_cmp x_now) (g_sof x_now) (g_kin x_now) (g_lou x_now) (g_pit x_now) (g_pla x_now) (g_cas x_now) (g_hrs x_now) (g_nws x_now) (g_hat x_now) (g_wea x_now) (g_row x_now) _ e5) lk_RX4_242 rfl rfl hRMX3_copyFrom hP hD hS hA hK hN (pm_sn _ _ _ _ _ _) ((pm_sn _ _ _ _ _ _).symm) 0 rfl rfl rfl hl.1 rfl (Nat.le_of_ble_eq_true rfl) ⟨Nat.le_of_ble_eq_true rfl, Nat.le_of_ble_eq_true rfl⟩ (dg ddX4_playingIn 7 rfl) (fun H locs hP hD hS => ?_)
  refine lv_aload_n hx hb (dg ddX4_playingIn 8 rfl) rfl (lv_at hl 0 rfl) ?_
  refine gf_RX4_16 CX hK hP 0 rfl rfl (dg ddX4_playingIn 9 rfl) ?_
  refine lv_iload_n hx hb (dg ddX4_playingIn 10 rfl) rfl (lv_at hl 1 rfl) ?_
  obtain ⟨r8, e7, hf⟩ := ob_some hf
  refine crf_vi CX hml (As := [.int a1]) (rest := []) (ws := (wX4 q cy x_isv x_te x_re x_de x_now (sv_cp x_spa r6) x_sna x_len x_sig x_nxt x_cnt x_rng)) (wsn := (wX4 q cy x_isv x_te x_re x_de x_now (s_row (s_wea (s_hat (s_hrs (s_pit (s_sof (s_cmp (s_hour (sv_cp x_spa r6) r8.2.1) r8.2.2.1) r8.2.2.2.1) r8.2.2.2.2.1) r8.2.2.2.2.2.1) r8.2.2.2.2.2.2.1) r8.2.2.2.2.2.2.2.1) r8.2.2.2.2.2.2.2.2) x_sna x_len x_sig x_nxt x_cnt x_rng)) (c_X3_passHours l D cy (q 2) (g_hour (sv_cp x_spa r6)) (g_crowd (sv_cp x_spa r6)) (g_buskers (sv_cp x_spa r6)) (g_answered (sv_cp x_spa r6)) (g_draws (sv_cp x_spa r6)) (g_lim (sv_cp x_spa r6)) (g_cmp (sv_cp x_spa r6)) (g_sof (sv_cp x_spa r6)) (g_kin (sv_cp x_spa r6)) (g_lou (sv_cp x_spa r6)) (g_pit (sv_cp x_spa r6)) (g_pla (sv_cp x_spa r6)) (g_cas (sv_cp x_spa r6)) (g_hrs (sv_cp x_spa r6)) (g_nws (sv_cp x_spa r6)) (g_hat (sv_cp x_spa r6)) (g_wea (sv_cp x_spa r6)) (g_row (sv_cp x_spa r6)) a1 _ e7) lk_RX4_236 rfl rfl hRMX3_passHours hP hD hS hA hK hN (pm_s _ _ _ _ _ _) ((pm_s _ _ _ _ _ _).symm) 0 rfl rfl rfl hl.1 rfl (Nat.le_of_ble_eq_true rfl) ⟨Nat.le_of_ble_eq_true rfl, Nat.le_of_ble_eq_true rfl⟩ (dg ddX4_playingIn 11 rfl) (fun H locs hP hD hS => ?_)
  refine lv_pop hx hb (dg ddX4_playingIn 12 rfl) rfl ?_
  refine lv_aload_n hx hb (dg ddX4_playingIn 13 rfl) rfl (lv_at hl 0 rfl) ?_
  refine gf_RX4_16 CX hK hP 0 rfl rfl (dg ddX4_playingIn 14 rfl) ?_
  obtain ⟨r10, e9, hf⟩ := ob_some hf
  refine cro_vi CX hml (As := []) (rest := []) (c_X3_countPlaying l D cy (q 2) r8.2.1 (g_crowd (sv_cp x_spa r6)) (g_buskers (sv_cp x_spa r6)) (g_answered (sv_cp x_spa r6)) (g_draws (sv_cp x_spa r6)) (g_lim (sv_cp x_spa r6)) r8.2.2.1 r8.2.2.2.1 (g_kin (sv_cp x_spa r6)) (g_lou (sv_cp x_spa r6)) r8.2.2.2.2.1 (g_pla (sv_cp x_spa r6)) (g_cas (sv_cp x_spa r6)) r8.2.2.2.2.2.1 (g_nws (sv_cp x_spa r6)) r8.2.2.2.2.2.2.1 r8.2.2.2.2.2.2.2.1 r8.2.2.2.2.2.2.2.2  e9) lk_RX4_245 rfl rfl hRMX3_countPlaying (vaP_l (vaP_perm (pm_s _ _ _ _ _ _) hP)) hK hN 0 rfl rfl rfl hl.1 rfl (Nat.le_of_ble_eq_true rfl) ⟨Nat.le_of_ble_eq_true rfl, Nat.le_of_ble_eq_true rfl⟩ (dg ddX4_playingIn 15 rfl) ?_
  cases hf
  exact x_wi CX hr hlk rfl hP hD hS (dg ddX4_playingIn 16 rfl)
def f_X4_sign_c33  (x_now : SV) (a1 : Int32) (t0 : Int32) : Option ((Nat) ⊕ (Int32)) := ob (f_X3_playerOn (g_pit x_now) a1) fun r2 => (if r2 = (-1) then (if t0 = 0 then (some (.inr 46)) else (some (.inr 33))) else (og (inb r2 8) (if ((g_kin x_now) r2.toNatClampNeg) = 0 then (if t0 = 0 then (some (.inr 102)) else (some (.inr 70))) else (if t0 = 0 then (some (.inr 97)) else (some (.inr 65))))))
def f_X4_sign (x_now : SV) (a1 : Int32) : Option ((Nat) ⊕ (Int32)) := ob (f_X4_hindranceOfPitchNumber a1) fun r2 => (ob (f_X4_throwFor r2) fun r4 => (os r4 (fun t => some (.inl t)) fun _ => (ob (f_X3_noiseOn (g_kin x_now) (g_lou x_now) (g_pit x_now) a1) fun r6 => (og (inb a1 8) (if (Op.cmpValue (FP.fcmp r6 ((g_lim x_now) a1.toNatClampNeg)) .l) ≤ 0 then (f_X4_sign_c33 x_now a1 0) else (f_X4_sign_c33 x_now a1 1))))))
set_option maxHeartbeats 4000000 in
set_option maxRecDepth 100000 in
theorem c_X4_sign (l : Launch) (D : va_G) (cy : Nat → ClassId) (q : Nat → Nat → Nat) (x_isv : Int32) (x_te : Int32) (x_re : Int32) (x_de : Int32) (x_now : SV) (x_spa : SV) (x_sna : SV) (x_len : Int32) (x_sig : Nat → Int32) (x_nxt : Int32) (x_cnt : Int32) (x_rng : Nat → SV) (a1 : Int32) (sz : Nat) (hst : l.stackTraces = false) {res : (Nat) ⊕ (Int32)} (hf : f_X4_sign x_now a1 = some res) : vx_Met l yX4_sign (.code yX4_sign cX4_sign 4 (some .char) :: lw_all) { frames := 7, cells := 1, slots := 6, locals := 119 } (va_Pc [.ref (q 0 0), .int a1] (sX D cy (wX4 q cy x_isv x_te x_re x_de x_now x_spa x_sna x_len x_sig x_nxt x_cnt x_rng) sz)) (xI (α := Nat) D (fun x : Int32 => (wX4 q cy x_isv x_te x_re x_de x_now x_spa x_sna x_len x_sig x_nxt x_cnt x_rng)) (fun x : Int32 => x) res (va_A (wX4 q cy x_isv x_te x_re x_de x_now x_spa x_sna x_len x_sig x_nxt x_cnt x_rng) sz)) (xX (β := Int32) D (fun x : Nat => (wX4 q cy x_isv x_te x_re x_de x_now x_spa x_sna x_len x_sig x_nxt x_cnt x_rng)) (fun x : Nat => x) res (va_A (wX4 q cy x_isv x_te x_re x_de x_now x_spa x_sna x_len x_sig x_nxt x_cnt x_rng) sz)) 1 6 (va_A (wX4 q cy x_isv x_te x_re x_de x_now x_spa x_sna x_len x_sig x_nxt x_cnt x_rng) sz) := by
  refine mk_x (Qc := fun A => (xI (α := Nat) D (fun x : Int32 => (wX4 q cy x_isv x_te x_re x_de x_now x_spa x_sna x_len x_sig x_nxt x_cnt x_rng)) (fun x : Int32 => x) res A)) (XC := fun A => (xX (β := Int32) D (fun x : Nat => (wX4 q cy x_isv x_te x_re x_de x_now x_spa x_sna x_len x_sig x_nxt x_cnt x_rng)) (fun x : Nat => x) res A)) (Rc := RX4) (by decide +kernel) rfl (Nat.le_of_ble_eq_true rfl) ?_
  intro p e s m args below meth c ls A CX hml hr hlk hK hN hP hD hS hA hl hout hX
  have hx := CX.1
  have hb := CX.2.1
  have hRMX3_noiseOn : (⟨5, 0, 0, 98⟩ : Room).frames + 1 ≤ (⟨7, 1, 6, 119⟩ : Room).frames ∧ 8 + (2 + 11) + (⟨5, 0, 0, 98⟩ : Room).locals ≤ (⟨7, 1, 6, 119⟩ : Room).locals := ⟨Nat.le_of_ble_eq_true rfl, Nat.le_of_ble_eq_true rfl⟩
  have hRMX3_playerOn : (⟨2, 0, 0, 32⟩ : Room).frames + 1 ≤ (⟨7, 1, 6, 119⟩ : Room).frames ∧ 8 + (3 + 11) + (⟨2, 0, 0, 32⟩ : Room).locals ≤ (⟨7, 1, 6, 119⟩ : Room).locals := ⟨Nat.le_of_ble_eq_true rfl, Nat.le_of_ble_eq_true rfl⟩
  have hRMX4_hindranceOfPitchNumber : (⟨2, 0, 0, 32⟩ : Room).frames + 1 ≤ (⟨7, 1, 6, 119⟩ : Room).frames ∧ 8 + (1 + 11) + (⟨2, 0, 0, 32⟩ : Room).locals ≤ (⟨7, 1, 6, 119⟩ : Room).locals := ⟨Nat.le_of_ble_eq_true rfl, Nat.le_of_ble_eq_true rfl⟩
  have hRMX4_throwFor : (⟨6, 1, 6, 82⟩ : Room).frames + 1 ≤ (⟨7, 1, 6, 119⟩ : Room).frames ∧ 8 + (1 + 11) + (⟨6, 1, 6, 82⟩ : Room).locals ≤ (⟨7, 1, 6, 119⟩ : Room).locals := ⟨Nat.le_of_ble_eq_true rfl, Nat.le_of_ble_eq_true rfl⟩
  have hl0 := hl
  have K33 : ∀ (t0 : Int32) (H : Heap) (locs : List Loc) (hP : va_P D vwCl (wX4 q cy x_isv x_te x_re x_de x_now x_spa x_sna x_len x_sig x_nxt x_cnt x_rng) H) (hD : va_D A (wX4 q cy x_isv x_te x_re x_de x_now x_spa x_sna x_len x_sig x_nxt x_cnt x_rng)) (hS : va_S A s.heap H locs) (ls : Array Slot) (hl : lv_has ls 4 [(0, .ref (q 0 0)), (1, .int a1)]) (hf : f_X4_sign_c33 x_now a1 t0 = some res), W p l e ⟨7, 1, 6, 119⟩ s m args below meth c H locs 1 6 (vx_MQ below (xI (α := Nat) D (fun x : Int32 => (wX4 q cy x_isv x_te x_re x_de x_now x_spa x_sna x_len x_sig x_nxt x_cnt x_rng)) (fun x : Int32 => x) res A) (xX (β := Int32) D (fun x : Nat => (wX4 q cy x_isv x_te x_re x_de x_now x_spa x_sna x_len x_sig x_nxt x_cnt x_rng)) (fun x : Nat => x) res A) args s 1 6 A) (F0 m 33 ls [.int t0]) := by
    intro t0 H locs hP hD hS ls hl hf
    refine lv_istore_n (lv' := [(2, .int t0), (0, .ref (q 0 0)), (1, .int a1)]) hx hb (dg ddX4_sign 17 rfl) rfl hl (by decide) rfl (fun ls hl => ?_)
    refine lv_aload_n hx hb (dg ddX4_sign 18 rfl) rfl (lv_at hl 1 rfl) ?_
    refine gf_RX4_10 CX hK hP 0 rfl rfl (dg ddX4_sign 19 rfl) ?_
    refine lv_iload_n hx hb (dg ddX4_sign 20 rfl) rfl (lv_at hl 2 rfl) ?_
    obtain ⟨r2, e1, hf⟩ := ob_some hf
    refine cro_vi CX hml (As := [.int a1]) (rest := []) (c_X3_playerOn l D cy (q 1) (g_hour x_now) (g_crowd x_now) (g_buskers x_now) (g_answered x_now) (g_draws x_now) (g_lim x_now) (g_cmp x_now) (g_sof x_now) (g_kin x_now) (g_lou x_now) (g_pit x_now) (g_pla x_now) (g_cas x_now) (g_hrs x_now) (g_nws x_now) (g_hat x_now) (g_wea x_now) (g_row x_now) a1 e1) lk_RX4_126 rfl rfl hRMX3_playerOn (vaP_l (vaP_perm (pm_n _ _ _ _ _ _) hP)) hK hN 0 rfl rfl rfl hl.1 rfl (Nat.le_of_ble_eq_true rfl) ⟨Nat.le_of_ble_eq_true rfl, Nat.le_of_ble_eq_true rfl⟩ (dg ddX4_sign 21 rfl) ?_
    refine lv_istore_n (lv' := [(3, .int r2), (2, .int t0), (0, .ref (q 0 0)), (1, .int a1)]) hx hb (dg ddX4_sign 22 rfl) rfl hl (by decide) rfl (fun ls hl => ?_)
    refine lv_iload_n hx hb (dg ddX4_sign 23 rfl) rfl (lv_at hl 0 rfl) ?_
    refine lv_iconst (v := (-1)) hx hb (dg ddX4_sign 24 rfl) (by decide) ?_
    refine lv_icmp_ne (tgt := 60) hx hb (dg ddX4_sign 25 rfl) (by decide) (fun h3 => ?_) (fun h3 => ?_)
    · have hf := it_f h3 hf
      refine lv_aload_n hx hb (dg ddX4_sign 32 rfl) rfl (lv_at hl 2 rfl) ?_
      refine gf_RX4_10 CX hK hP 0 rfl rfl (dg ddX4_sign 33 rfl) ?_
      refine gf_RX4_88 CX hK hP 1 rfl rfl (dg ddX4_sign 34 rfl) ?_
      refine lv_iload_n hx hb (dg ddX4_sign 35 rfl) rfl (lv_at hl 0 rfl) ?_
      obtain ⟨h4, hf⟩ := og_some hf
      refine va_iald hx hb hK hP 5 0 rfl rfl (inb_in h4) (dg ddX4_sign 36 rfl) ?_
      refine lv_if_ne (tgt := 84) hx hb (dg ddX4_sign 37 rfl) (by decide) (fun h5 => ?_) (fun h5 => ?_)
      · have hf := it_f h5 hf
        refine lv_iload_n hx hb (dg ddX4_sign 44 rfl) rfl (lv_at hl 1 rfl) ?_
        refine lv_if_eq (tgt := 93) hx hb (dg ddX4_sign 45 rfl) (by decide) (fun h6 => ?_) (fun h6 => ?_)
        · have hf := it_t h6 hf
          refine lv_bipush (v := 97) hx hb (dg ddX4_sign 48 rfl) (by decide) ?_
          cases hf
          exact x_wz CX hr hlk (by decide) rfl hP hD hS (dg ddX4_sign 49 rfl)
        · have hf := it_f h6 hf
          refine lv_bipush (v := 65) hx hb (dg ddX4_sign 46 rfl) (by decide) ?_
          refine lv_goto (tgt := 95) hx hb (dg ddX4_sign 47 rfl) (by decide) ?_
          cases hf
          exact x_wz CX hr hlk (by decide) rfl hP hD hS (dg ddX4_sign 49 rfl)
      · have hf := it_t h5 hf
        refine lv_iload_n hx hb (dg ddX4_sign 38 rfl) rfl (lv_at hl 1 rfl) ?_
        refine lv_if_eq (tgt := 81) hx hb (dg ddX4_sign 39 rfl) (by decide) (fun h7 => ?_) (fun h7 => ?_)
        · have hf := it_t h7 hf
          refine lv_bipush (v := 102) hx hb (dg ddX4_sign 42 rfl) (by decide) ?_
          cases hf
          exact x_wz CX hr hlk (by decide) rfl hP hD hS (dg ddX4_sign 43 rfl)
        · have hf := it_f h7 hf
          refine lv_bipush (v := 70) hx hb (dg ddX4_sign 40 rfl) (by decide) ?_
          refine lv_goto (tgt := 83) hx hb (dg ddX4_sign 41 rfl) (by decide) ?_
          cases hf
          exact x_wz CX hr hlk (by decide) rfl hP hD hS (dg ddX4_sign 43 rfl)
    · have hf := it_t h3 hf
      refine lv_iload_n hx hb (dg ddX4_sign 26 rfl) rfl (lv_at hl 1 rfl) ?_
      refine lv_if_eq (tgt := 57) hx hb (dg ddX4_sign 27 rfl) (by decide) (fun h8 => ?_) (fun h8 => ?_)
      · have hf := it_t h8 hf
        refine lv_bipush (v := 46) hx hb (dg ddX4_sign 30 rfl) (by decide) ?_
        cases hf
        exact x_wz CX hr hlk (by decide) rfl hP hD hS (dg ddX4_sign 31 rfl)
      · have hf := it_f h8 hf
        refine lv_bipush (v := 33) hx hb (dg ddX4_sign 28 rfl) (by decide) ?_
        refine lv_goto (tgt := 59) hx hb (dg ddX4_sign 29 rfl) (by decide) ?_
        cases hf
        exact x_wz CX hr hlk (by decide) rfl hP hD hS (dg ddX4_sign 31 rfl)
  refine lv_iload_n hx hb (dg ddX4_sign 0 rfl) rfl (lv_at hl 1 rfl) ?_
  obtain ⟨r2, e1, hf⟩ := ob_some hf
  refine cro_si CX hml (As := [.int a1]) (rest := []) (c_X4_hindranceOfPitchNumber l D cy a1 e1) lk_RX4_123 rfl rfl hRMX4_hindranceOfPitchNumber vaP_nil hK hN rfl hl.1 rfl (Nat.le_of_ble_eq_true rfl) ⟨Nat.le_of_ble_eq_true rfl, Nat.le_of_ble_eq_true rfl⟩ (dg ddX4_sign 1 rfl) ?_
  obtain ⟨r4, e3, hf⟩ := ob_some hf
  rcases r4 with t9 | t9
  · cases os_l hf
    exact crx_t CX hml (As := [.int r2]) (rest := []) (c_X4_throwFor l D cy r2 _ hst e3) lk_RX4_54 rfl rfl hRMX4_throwFor hP hD hS hA hK hN hX hout hlk rfl rfl rfl hl.1 rfl (Nat.le_of_ble_eq_true rfl) ⟨(Nat.le_of_ble_eq_true rfl), (Nat.le_of_ble_eq_true rfl)⟩ (Nat.le_of_ble_eq_true rfl) (Nat.le_of_ble_eq_true rfl) (dg ddX4_sign 2 rfl)
  have hf := os_r hf
  refine crx_r CX hml (As := [.int r2]) (rest := []) (c_X4_throwFor l D cy r2 _ hst e3) lk_RX4_54 rfl rfl hRMX4_throwFor hP hD hS hA hK hN hX rfl hl.1 rfl (Nat.le_of_ble_eq_true rfl) ⟨(Nat.le_of_ble_eq_true rfl), (Nat.le_of_ble_eq_true rfl)⟩ (dg ddX4_sign 2 rfl) (fun H locs hP hS => ?_)
  refine lv_aload_n hx hb (dg ddX4_sign 3 rfl) rfl (lv_at hl 0 rfl) ?_
  refine gf_RX4_10 CX hK hP 0 rfl rfl (dg ddX4_sign 4 rfl) ?_
  refine lv_iload_n hx hb (dg ddX4_sign 5 rfl) rfl (lv_at hl 1 rfl) ?_
  obtain ⟨r6, e5, hf⟩ := ob_some hf
  refine cro_vf CX hml (As := [.int a1]) (rest := []) (c_X3_noiseOn l D cy (q 1) (g_hour x_now) (g_crowd x_now) (g_buskers x_now) (g_answered x_now) (g_draws x_now) (g_lim x_now) (g_cmp x_now) (g_sof x_now) (g_kin x_now) (g_lou x_now) (g_pit x_now) (g_pla x_now) (g_cas x_now) (g_hrs x_now) (g_nws x_now) (g_hat x_now) (g_wea x_now) (g_row x_now) a1 e5) lk_RX4_169 rfl rfl hRMX3_noiseOn (vaP_l (vaP_perm (pm_n _ _ _ _ _ _) hP)) hK hN 0 rfl rfl rfl hl.1 rfl (Nat.le_of_ble_eq_true rfl) ⟨Nat.le_of_ble_eq_true rfl, Nat.le_of_ble_eq_true rfl⟩ (dg ddX4_sign 6 rfl) ?_
  refine lv_aload_n hx hb (dg ddX4_sign 7 rfl) rfl (lv_at hl 0 rfl) ?_
  refine gf_RX4_10 CX hK hP 0 rfl rfl (dg ddX4_sign 8 rfl) ?_
  refine gf_RX4_69 CX hK hP 1 rfl rfl (dg ddX4_sign 9 rfl) ?_
  refine lv_iload_n hx hb (dg ddX4_sign 10 rfl) rfl (lv_at hl 1 rfl) ?_
  obtain ⟨h7, hf⟩ := og_some hf
  refine va_fald hx hb hK hP 2 1 rfl rfl (inb_in h7) (dg ddX4_sign 11 rfl) ?_
  refine lv_fcmp hx hb (dg ddX4_sign 12 rfl) ?_
  refine lv_if_le (tgt := 32) hx hb (dg ddX4_sign 13 rfl) (by decide) (fun h8 => ?_) (fun h8 => ?_)
  · have hf := it_t h8 hf
    refine lv_iconst (v := 0) hx hb (dg ddX4_sign 16 rfl) (by decide) ?_
    exact K33  0 _ _ hP hD hS _ (lv_sub hl [0, 1] rfl) hf
  · have hf := it_f h8 hf
    refine lv_iconst (v := 1) hx hb (dg ddX4_sign 14 rfl) (by decide) ?_
    refine lv_goto (tgt := 33) hx hb (dg ddX4_sign 15 rfl) (by decide) ?_
    exact K33  1 _ _ hP hD hS _ (lv_sub hl [0, 1] rfl) hf
def f_X4_append (x_len : Int32) (x_sig : Nat → Int32) (a1 : Int32) : Option ((Nat × Int32 × (Nat → Int32)) ⊕ (Int32 × Int32 × (Nat → Int32))) := if x_len < 60 then (ob (f_X2_put x_len x_sig a1) fun r3 => (some (.inr (r3.1, r3.1, r3.2)))) else (some (.inl (5, x_len, x_sig)))
set_option maxHeartbeats 4000000 in
set_option maxRecDepth 100000 in
theorem c_X4_append (l : Launch) (D : va_G) (cy : Nat → ClassId) (q : Nat → Nat → Nat) (x_isv : Int32) (x_te : Int32) (x_re : Int32) (x_de : Int32) (x_now : SV) (x_spa : SV) (x_sna : SV) (x_len : Int32) (x_sig : Nat → Int32) (x_nxt : Int32) (x_cnt : Int32) (x_rng : Nat → SV) (a1 : Int32) (sz : Nat) (hst : l.stackTraces = false) {res : (Nat × Int32 × (Nat → Int32)) ⊕ (Int32 × Int32 × (Nat → Int32))} (hf : f_X4_append x_len x_sig a1 = some res) : vx_Met l yX4_append (.code yX4_append cX4_append 2 (some .int) :: lw_all) { frames := 6, cells := 1, slots := 6, locals := 82 } (va_Pc [.ref (q 0 0), .int a1] (sX D cy (wX4 q cy x_isv x_te x_re x_de x_now x_spa x_sna x_len x_sig x_nxt x_cnt x_rng) sz)) (xI (α := Nat × Int32 × (Nat → Int32)) D (fun x : Int32 × Int32 × (Nat → Int32) => (wX4 q cy x_isv x_te x_re x_de x_now x_spa x_sna x.2.1 x.2.2 x_nxt x_cnt x_rng)) (fun x : Int32 × Int32 × (Nat → Int32) => x.1) res (va_A (wX4 q cy x_isv x_te x_re x_de x_now x_spa x_sna x_len x_sig x_nxt x_cnt x_rng) sz)) (xX (β := Int32 × Int32 × (Nat → Int32)) D (fun x : Nat × Int32 × (Nat → Int32) => (wX4 q cy x_isv x_te x_re x_de x_now x_spa x_sna x.2.1 x.2.2 x_nxt x_cnt x_rng)) (fun x : Nat × Int32 × (Nat → Int32) => x.1) res (va_A (wX4 q cy x_isv x_te x_re x_de x_now x_spa x_sna x_len x_sig x_nxt x_cnt x_rng) sz)) 1 6 (va_A (wX4 q cy x_isv x_te x_re x_de x_now x_spa x_sna x_len x_sig x_nxt x_cnt x_rng) sz) := by
  refine mk_x (Qc := fun A => (xI (α := Nat × Int32 × (Nat → Int32)) D (fun x : Int32 × Int32 × (Nat → Int32) => (wX4 q cy x_isv x_te x_re x_de x_now x_spa x_sna x.2.1 x.2.2 x_nxt x_cnt x_rng)) (fun x : Int32 × Int32 × (Nat → Int32) => x.1) res A)) (XC := fun A => (xX (β := Int32 × Int32 × (Nat → Int32)) D (fun x : Nat × Int32 × (Nat → Int32) => (wX4 q cy x_isv x_te x_re x_de x_now x_spa x_sna x.2.1 x.2.2 x_nxt x_cnt x_rng)) (fun x : Nat × Int32 × (Nat → Int32) => x.1) res A)) (Rc := RX4) (by decide +kernel) rfl (Nat.le_of_ble_eq_true rfl) ?_
  intro p e s m args below meth c ls A CX hml hr hlk hK hN hP hD hS hA hl hout hX
  have hx := CX.1
  have hb := CX.2.1
  have hRMX2_put : (⟨1, 0, 0, 12⟩ : Room).frames + 1 ≤ (⟨6, 1, 6, 82⟩ : Room).frames ∧ 8 + (2 + 11) + (⟨1, 0, 0, 12⟩ : Room).locals ≤ (⟨6, 1, 6, 82⟩ : Room).locals := ⟨Nat.le_of_ble_eq_true rfl, Nat.le_of_ble_eq_true rfl⟩
  refine lv_aload_n hx hb (dg ddX4_append 0 rfl) rfl (lv_at hl 0 rfl) ?_
  refine gf_RX4_36 CX hK hP 0 rfl rfl (dg ddX4_append 1 rfl) ?_
  refine gf_RX4_249 CX hK hP 43 rfl rfl (dg ddX4_append 2 rfl) ?_
  refine lv_bipush (v := 60) hx hb (dg ddX4_append 3 rfl) (by decide) ?_
  refine lv_icmp_lt (tgt := 22) hx hb (dg ddX4_append 4 rfl) (by decide) (fun h1 => ?_) (fun h1 => ?_)
  · have hf := it_t h1 hf
    refine lv_aload_n hx hb (dg ddX4_append 10 rfl) rfl (lv_at hl 0 rfl) ?_
    refine gf_RX4_36 CX hK hP 0 rfl rfl (dg ddX4_append 11 rfl) ?_
    refine lv_iload_n hx hb (dg ddX4_append 12 rfl) rfl (lv_at hl 1 rfl) ?_
    obtain ⟨r3, e2, hf⟩ := ob_some hf
    refine crf_vv CX hml (As := [.int a1]) (rest := []) (ws := (wX4 q cy x_isv x_te x_re x_de x_now x_spa x_sna x_len x_sig x_nxt x_cnt x_rng)) (wsn := (wX4 q cy x_isv x_te x_re x_de x_now x_spa x_sna r3.1 r3.2 x_nxt x_cnt x_rng)) (c_X2_put l D cy (q 5) x_len x_sig a1 _ e2) lk_RX4_257 rfl rfl hRMX2_put hP hD hS hA hK hN (pm_i _ _ _ _ _ _) ((pm_i _ _ _ _ _ _).symm) 0 rfl rfl rfl hl.1 rfl (Nat.le_of_ble_eq_true rfl) ⟨Nat.le_of_ble_eq_true rfl, Nat.le_of_ble_eq_true rfl⟩ (dg ddX4_append 13 rfl) (fun H locs hP hD hS => ?_)
    refine lv_aload_n hx hb (dg ddX4_append 14 rfl) rfl (lv_at hl 0 rfl) ?_
    refine gf_RX4_36 CX hK hP 0 rfl rfl (dg ddX4_append 15 rfl) ?_
    refine gf_RX4_249 CX hK hP 43 rfl rfl (dg ddX4_append 16 rfl) ?_
    cases hf
    refine W.widen (k := 1) (n := 6) (Nat.le_of_ble_eq_true rfl) (Nat.le_of_ble_eq_true rfl) ?_
    exact x_wi CX hr hlk rfl hP hD hS (dg ddX4_append 17 rfl)
  · have hf := it_f h1 hf
    cases hf
    exact xt_5_S (is := 254) (tx := "the input is full") (by decide +kernel) CX (hml.trans hl.1.symm) hst hX hout hlk rfl hP hD hS (Nat.le_of_ble_eq_true rfl) (Nat.le_of_ble_eq_true rfl) (Nat.le_of_ble_eq_true rfl) (Nat.le_of_ble_eq_true rfl) (Nat.le_of_ble_eq_true rfl) (Nat.le_of_ble_eq_true rfl) (dg ddX4_append 5 rfl) (dg ddX4_append 6 rfl) (dg ddX4_append 7 rfl) (dg ddX4_append 8 rfl) (dg ddX4_append 9 rfl)
def f_X4_read_c39  (x_sig : Nat → Int32) (t0 : Int32) (x_te : Int32) (x_re : Int32) (x_de : Int32) (x_now : SV) (x_spa : SV) (x_len : Int32) (x_nxt : Int32) (x_cnt : Int32) (x_rng : Nat → SV) : Option ((Nat × Int32 × Int32 × Int32 × SV × SV × Int32 × Int32 × Int32 × (Nat → SV)) ⊕ (Int32 × Int32 × Int32 × Int32 × SV × SV × Int32 × Int32 × Int32 × (Nat → SV))) := if t0 < 0 then (ob (f_X3_copyFrom (g_hour x_now) (g_crowd x_now) (g_buskers x_now) (g_answered x_now) (g_draws x_now) (g_lim x_now) (g_cmp x_now) (g_sof x_now) (g_kin x_now) (g_lou x_now) (g_pit x_now) (g_pla x_now) (g_cas x_now) (g_hrs x_now) (g_nws x_now) (g_hat x_now) (g_wea x_now) (g_hour x_spa) (g_crowd x_spa) (g_buskers x_spa) (g_answered x_spa) (g_draws x_spa) (g_lim x_spa) (g_cmp x_spa) (g_sof x_spa) (g_kin x_spa) (g_lou x_spa) (g_pit x_spa) (g_pla x_spa) (g_cas x_spa) (g_hrs x_spa) (g_nws x_spa) (g_hat x_spa) (g_wea x_spa)) fun r3 => (if t0 = (-3) then (some (.inl (3, x_te, x_re, x_de, (sv_cp x_now r3), x_spa, 0, x_nxt, x_cnt, x_rng))) else (some (.inl (2, x_te, x_re, x_de, (sv_cp x_now r3), x_spa, 0, x_nxt, x_cnt, x_rng))))) else (ob (f_X1_keep x_nxt x_cnt x_rng x_spa) fun r6 => (some (.inr (t0, x_te, x_re, x_de, x_now, x_spa, 0, r6.1, r6.2.1, r6.2.2))))
def f_X4_read (x_te : Int32) (x_re : Int32) (x_de : Int32) (x_now : SV) (x_spa : SV) (x_len : Int32) (x_sig : Nat → Int32) (x_nxt : Int32) (x_cnt : Int32) (x_rng : Nat → SV) : Option ((Nat × Int32 × Int32 × Int32 × SV × SV × Int32 × Int32 × Int32 × (Nat → SV)) ⊕ (Int32 × Int32 × Int32 × Int32 × SV × SV × Int32 × Int32 × Int32 × (Nat → SV))) := ob (f_X2_findError x_len x_sig) fun r2 => (ob (f_X3_copyFrom (g_hour x_spa) (g_crowd x_spa) (g_buskers x_spa) (g_answered x_spa) (g_draws x_spa) (g_lim x_spa) (g_cmp x_spa) (g_sof x_spa) (g_kin x_spa) (g_lou x_spa) (g_pit x_spa) (g_pla x_spa) (g_cas x_spa) (g_hrs x_spa) (g_nws x_spa) (g_hat x_spa) (g_wea x_spa) (g_hour x_now) (g_crowd x_now) (g_buskers x_now) (g_answered x_now) (g_draws x_now) (g_lim x_now) (g_cmp x_now) (g_sof x_now) (g_kin x_now) (g_lou x_now) (g_pit x_now) (g_pla x_now) (g_cas x_now) (g_hrs x_now) (g_nws x_now) (g_hat x_now) (g_wea x_now)) fun r4 => (if r2 = (-1) then (ob (f_X4_carryOut x_re x_de x_now x_len x_sig) fun r7 => (f_X4_read_c39 x_sig r7.1 r2 r7.2.1 r7.2.2.1 r7.2.2.2 (sv_cp x_spa r4) x_len x_nxt x_cnt x_rng)) else (f_X4_read_c39 x_sig (-2) r2 x_re x_de x_now (sv_cp x_spa r4) x_len x_nxt x_cnt x_rng)))
set_option maxHeartbeats 4000000 in
set_option maxRecDepth 100000 in
theorem c_X4_read (l : Launch) (D : va_G) (cy : Nat → ClassId) (q : Nat → Nat → Nat) (x_isv : Int32) (x_te : Int32) (x_re : Int32) (x_de : Int32) (x_now : SV) (x_spa : SV) (x_sna : SV) (x_len : Int32) (x_sig : Nat → Int32) (x_nxt : Int32) (x_cnt : Int32) (x_rng : Nat → SV) (sz : Nat) (hst : l.stackTraces = false) {res : (Nat × Int32 × Int32 × Int32 × SV × SV × Int32 × Int32 × Int32 × (Nat → SV)) ⊕ (Int32 × Int32 × Int32 × Int32 × SV × SV × Int32 × Int32 × Int32 × (Nat → SV))} (hf : f_X4_read x_te x_re x_de x_now x_spa x_len x_sig x_nxt x_cnt x_rng = some res) : vx_Met l yX4_read (.code yX4_read cX4_read 2 (some .int) :: lw_all) { frames := 7, cells := 1, slots := 6, locals := 154 } (va_Pc [.ref (q 0 0)] (sX D cy (wX4 q cy x_isv x_te x_re x_de x_now x_spa x_sna x_len x_sig x_nxt x_cnt x_rng) sz)) (xI (α := Nat × Int32 × Int32 × Int32 × SV × SV × Int32 × Int32 × Int32 × (Nat → SV)) D (fun x : Int32 × Int32 × Int32 × Int32 × SV × SV × Int32 × Int32 × Int32 × (Nat → SV) => (wX4 q cy x_isv x.2.1 x.2.2.1 x.2.2.2.1 x.2.2.2.2.1 x.2.2.2.2.2.1 x_sna x.2.2.2.2.2.2.1 x_sig x.2.2.2.2.2.2.2.1 x.2.2.2.2.2.2.2.2.1 x.2.2.2.2.2.2.2.2.2)) (fun x : Int32 × Int32 × Int32 × Int32 × SV × SV × Int32 × Int32 × Int32 × (Nat → SV) => x.1) res (va_A (wX4 q cy x_isv x_te x_re x_de x_now x_spa x_sna x_len x_sig x_nxt x_cnt x_rng) sz)) (xX (β := Int32 × Int32 × Int32 × Int32 × SV × SV × Int32 × Int32 × Int32 × (Nat → SV)) D (fun x : Nat × Int32 × Int32 × Int32 × SV × SV × Int32 × Int32 × Int32 × (Nat → SV) => (wX4 q cy x_isv x.2.1 x.2.2.1 x.2.2.2.1 x.2.2.2.2.1 x.2.2.2.2.2.1 x_sna x.2.2.2.2.2.2.1 x_sig x.2.2.2.2.2.2.2.1 x.2.2.2.2.2.2.2.2.1 x.2.2.2.2.2.2.2.2.2)) (fun x : Nat × Int32 × Int32 × Int32 × SV × SV × Int32 × Int32 × Int32 × (Nat → SV) => x.1) res (va_A (wX4 q cy x_isv x_te x_re x_de x_now x_spa x_sna x_len x_sig x_nxt x_cnt x_rng) sz)) 1 6 (va_A (wX4 q cy x_isv x_te x_re x_de x_now x_spa x_sna x_len x_sig x_nxt x_cnt x_rng) sz) := by
  refine mk_x (Qc := fun A => (xI (α := Nat × Int32 × Int32 × Int32 × SV × SV × Int32 × Int32 × Int32 × (Nat → SV)) D (fun x : Int32 × Int32 × Int32 × Int32 × SV × SV × Int32 × Int32 × Int32 × (Nat → SV) => (wX4 q cy x_isv x.2.1 x.2.2.1 x.2.2.2.1 x.2.2.2.2.1 x.2.2.2.2.2.1 x_sna x.2.2.2.2.2.2.1 x_sig x.2.2.2.2.2.2.2.1 x.2.2.2.2.2.2.2.2.1 x.2.2.2.2.2.2.2.2.2)) (fun x : Int32 × Int32 × Int32 × Int32 × SV × SV × Int32 × Int32 × Int32 × (Nat → SV) => x.1) res A)) (XC := fun A => (xX (β := Int32 × Int32 × Int32 × Int32 × SV × SV × Int32 × Int32 × Int32 × (Nat → SV)) D (fun x : Nat × Int32 × Int32 × Int32 × SV × SV × Int32 × Int32 × Int32 × (Nat → SV) => (wX4 q cy x_isv x.2.1 x.2.2.1 x.2.2.2.1 x.2.2.2.2.1 x.2.2.2.2.2.1 x_sna x.2.2.2.2.2.2.1 x_sig x.2.2.2.2.2.2.2.1 x.2.2.2.2.2.2.2.2.1 x.2.2.2.2.2.2.2.2.2)) (fun x : Nat × Int32 × Int32 × Int32 × SV × SV × Int32 × Int32 × Int32 × (Nat → SV) => x.1) res A)) (Rc := RX4) (by decide +kernel) rfl (Nat.le_of_ble_eq_true rfl) ?_
  intro p e s m args below meth c ls A CX hml hr hlk hK hN hP hD hS hA hl hout hX
  have hx := CX.1
  have hb := CX.2.1
  have hRMX1_keep : (⟨2, 0, 0, 61⟩ : Room).frames + 1 ≤ (⟨7, 1, 6, 154⟩ : Room).frames ∧ 8 + (3 + 11) + (⟨2, 0, 0, 61⟩ : Room).locals ≤ (⟨7, 1, 6, 154⟩ : Room).locals := ⟨Nat.le_of_ble_eq_true rfl, Nat.le_of_ble_eq_true rfl⟩
  have hRMX2_findError : (⟨3, 0, 0, 54⟩ : Room).frames + 1 ≤ (⟨7, 1, 6, 154⟩ : Room).frames ∧ 8 + (3 + 11) + (⟨3, 0, 0, 54⟩ : Room).locals ≤ (⟨7, 1, 6, 154⟩ : Room).locals := ⟨Nat.le_of_ble_eq_true rfl, Nat.le_of_ble_eq_true rfl⟩
  have hRMX3_copyFrom : (⟨1, 0, 0, 40⟩ : Room).frames + 1 ≤ (⟨7, 1, 6, 154⟩ : Room).frames ∧ 8 + (2 + 11) + (⟨1, 0, 0, 40⟩ : Room).locals ≤ (⟨7, 1, 6, 154⟩ : Room).locals := ⟨Nat.le_of_ble_eq_true rfl, Nat.le_of_ble_eq_true rfl⟩
  have hRMX4_carryOut : (⟨6, 0, 0, 130⟩ : Room).frames + 1 ≤ (⟨7, 1, 6, 154⟩ : Room).frames ∧ 8 + (5 + 11) + (⟨6, 0, 0, 130⟩ : Room).locals ≤ (⟨7, 1, 6, 154⟩ : Room).locals := ⟨Nat.le_of_ble_eq_true rfl, Nat.le_of_ble_eq_true rfl⟩
  have hl0 := hl
  have K39 : ∀ (t0 : Int32) (x_te : Int32) (x_re : Int32) (x_de : Int32) (x_now : SV) (x_spa : SV) (x_len : Int32) (x_nxt : Int32) (x_cnt : Int32) (x_rng : Nat → SV) (H : Heap) (locs : List Loc) (hP : va_P D vwCl (wX4 q cy x_isv x_te x_re x_de x_now x_spa x_sna x_len x_sig x_nxt x_cnt x_rng) H) (hD : va_D A (wX4 q cy x_isv x_te x_re x_de x_now x_spa x_sna x_len x_sig x_nxt x_cnt x_rng)) (hS : va_S A s.heap H locs) (ls : Array Slot) (hl : lv_has ls 2 [(0, .ref (q 0 0))]) (hf : f_X4_read_c39 x_sig t0 x_te x_re x_de x_now x_spa x_len x_nxt x_cnt x_rng = some res), W p l e ⟨7, 1, 6, 154⟩ s m args below meth c H locs 0 0 (vx_MQ below (xI (α := Nat × Int32 × Int32 × Int32 × SV × SV × Int32 × Int32 × Int32 × (Nat → SV)) D (fun x : Int32 × Int32 × Int32 × Int32 × SV × SV × Int32 × Int32 × Int32 × (Nat → SV) => (wX4 q cy x_isv x.2.1 x.2.2.1 x.2.2.2.1 x.2.2.2.2.1 x.2.2.2.2.2.1 x_sna x.2.2.2.2.2.2.1 x_sig x.2.2.2.2.2.2.2.1 x.2.2.2.2.2.2.2.2.1 x.2.2.2.2.2.2.2.2.2)) (fun x : Int32 × Int32 × Int32 × Int32 × SV × SV × Int32 × Int32 × Int32 × (Nat → SV) => x.1) res A) (xX (β := Int32 × Int32 × Int32 × Int32 × SV × SV × Int32 × Int32 × Int32 × (Nat → SV)) D (fun x : Nat × Int32 × Int32 × Int32 × SV × SV × Int32 × Int32 × Int32 × (Nat → SV) => (wX4 q cy x_isv x.2.1 x.2.2.1 x.2.2.2.1 x.2.2.2.2.1 x.2.2.2.2.2.1 x_sna x.2.2.2.2.2.2.1 x_sig x.2.2.2.2.2.2.2.1 x.2.2.2.2.2.2.2.2.1 x.2.2.2.2.2.2.2.2.2)) (fun x : Nat × Int32 × Int32 × Int32 × SV × SV × Int32 × Int32 × Int32 × (Nat → SV) => x.1) res A) args s 1 6 A) (F0 m 39 ls [.int t0]) := by
    intro t0 x_te x_re x_de x_now x_spa x_len x_nxt x_cnt x_rng H locs hP hD hS ls hl hf
    refine lv_istore_n (lv' := [(1, .int t0), (0, .ref (q 0 0))]) hx hb (dg ddX4_read 18 rfl) rfl hl (by decide) rfl (fun ls hl => ?_)
    refine lv_aload_n hx hb (dg ddX4_read 19 rfl) rfl (lv_at hl 1 rfl) ?_
    refine gf_RX4_36 CX hK hP 0 rfl rfl (dg ddX4_read 20 rfl) ?_
    refine lv_iconst (v := 0) hx hb (dg ddX4_read 21 rfl) (by decide) ?_
    refine pf_RX4_249 CX hK hP hD hS 43 rfl (dg ddX4_read 22 rfl) (Nat.le_of_ble_eq_true rfl) (fun H locs hP hD hS => ?_)
    have hP : va_P D vwCl (wX4 q cy x_isv x_te x_re x_de x_now x_spa x_sna 0 x_sig x_nxt x_cnt x_rng) H := hP
    have hD : va_D A (wX4 q cy x_isv x_te x_re x_de x_now x_spa x_sna 0 x_sig x_nxt x_cnt x_rng) := hD
    refine lv_iload_n hx hb (dg ddX4_read 23 rfl) rfl (lv_at hl 0 rfl) ?_
    refine lv_if_lt (tgt := 65) hx hb (dg ddX4_read 24 rfl) (by decide) (fun h1 => ?_) (fun h1 => ?_)
    · have hf := it_t h1 hf
      refine lv_aload_n hx hb (dg ddX4_read 32 rfl) rfl (lv_at hl 1 rfl) ?_
      refine gf_RX4_10 CX hK hP 0 rfl rfl (dg ddX4_read 33 rfl) ?_
      refine lv_aload_n hx hb (dg ddX4_read 34 rfl) rfl (lv_at hl 1 rfl) ?_
      refine gf_RX4_16 CX hK hP 0 rfl rfl (dg ddX4_read 35 rfl) ?_
      obtain ⟨r3, e2, hf⟩ := ob_some hf
      refine crf_vv CX hml (As := [.ref (q 2 0)]) (rest := []) (ws := (wX4 q cy x_isv x_te x_re x_de x_now x_spa x_sna 0 x_sig x_nxt x_cnt x_rng)) (wsn := (wX4 q cy x_isv x_te x_re x_de (sv_cp x_now r3) x_spa x_sna 0 x_sig x_nxt x_cnt x_rng)) (c_X3_copyFrom l D cy (q 1) (q 2) (g_hour x_now) (g_crowd x_now) (g_buskers x_now) (g_answered x_now) (g_draws x_now) (g_lim x_now) (g_cmp x_now) (g_sof x_now) (g_kin x_now) (g_lou x_now) (g_pit x_now) (g_pla x_now) (g_cas x_now) (g_hrs x_now) (g_nws x_now) (g_hat x_now) (g_wea x_now) (g_row x_now) (g_hour x_spa) (g_crowd x_spa) (g_buskers x_spa) (g_answered x_spa) (g_draws x_spa) (g_lim x_spa) (g_cmp x_spa) (g_sof x_spa) (g_kin x_spa) (g_lou x_spa) (g_pit x_spa) (g_pla x_spa) (g_cas x_spa) (g_hrs x_spa) (g_nws x_spa) (g_hat x_spa) (g_wea x_spa) (g_row x_spa) _ e2) lk_RX4_242 rfl rfl hRMX3_copyFrom hP hD hS hA hK hN (pm_ns _ _ _ _ _ _) ((pm_ns _ _ _ _ _ _).symm) 0 rfl rfl rfl hl.1 rfl (Nat.le_of_ble_eq_true rfl) ⟨Nat.le_of_ble_eq_true rfl, Nat.le_of_ble_eq_true rfl⟩ (dg ddX4_read 36 rfl) (fun H locs hP hD hS => ?_)
      refine lv_iload_n hx hb (dg ddX4_read 37 rfl) rfl (lv_at hl 0 rfl) ?_
      refine lv_bipush (v := (-3)) hx hb (dg ddX4_read 38 rfl) (by decide) ?_
      refine lv_icmp_ne (tgt := 93) hx hb (dg ddX4_read 39 rfl) (by decide) (fun h4 => ?_) (fun h4 => ?_)
      · have hf := it_f h4 hf
        cases hf
        exact xt_2_W (is := 272) (tx := "the text cannot be carried out") (by decide +kernel) CX (hml.trans hl.1.symm) hst hX hout hlk rfl hP hD hS (Nat.le_of_ble_eq_true rfl) (Nat.le_of_ble_eq_true rfl) (Nat.le_of_ble_eq_true rfl) (Nat.le_of_ble_eq_true rfl) (Nat.le_of_ble_eq_true rfl) (Nat.le_of_ble_eq_true rfl) (dg ddX4_read 45 rfl) (dg ddX4_read 46 rfl) (dg ddX4_read 47 rfl) (dg ddX4_read 48 rfl) (dg ddX4_read 49 rfl)
      · have hf := it_t h4 hf
        cases hf
        exact xt_3_W (is := 269) (tx := "an order is refused") (by decide +kernel) CX (hml.trans hl.1.symm) hst hX hout hlk rfl hP hD hS (Nat.le_of_ble_eq_true rfl) (Nat.le_of_ble_eq_true rfl) (Nat.le_of_ble_eq_true rfl) (Nat.le_of_ble_eq_true rfl) (Nat.le_of_ble_eq_true rfl) (Nat.le_of_ble_eq_true rfl) (dg ddX4_read 40 rfl) (dg ddX4_read 41 rfl) (dg ddX4_read 42 rfl) (dg ddX4_read 43 rfl) (dg ddX4_read 44 rfl)
    · have hf := it_f h1 hf
      refine lv_aload_n hx hb (dg ddX4_read 25 rfl) rfl (lv_at hl 1 rfl) ?_
      refine gf_RX4_29 CX hK hP 0 rfl rfl (dg ddX4_read 26 rfl) ?_
      refine lv_aload_n hx hb (dg ddX4_read 27 rfl) rfl (lv_at hl 1 rfl) ?_
      refine gf_RX4_16 CX hK hP 0 rfl rfl (dg ddX4_read 28 rfl) ?_
      obtain ⟨r6, e5, hf⟩ := ob_some hf
      refine crf_vv CX hml (As := [.ref (q 2 0)]) (rest := []) (ws := (wX4 q cy x_isv x_te x_re x_de x_now x_spa x_sna 0 x_sig x_nxt x_cnt x_rng)) (wsn := (wX4 q cy x_isv x_te x_re x_de x_now x_spa x_sna 0 x_sig r6.1 r6.2.1 r6.2.2)) (c_X1_keep l D cy q (q 2) x_nxt x_cnt x_rng x_spa _ e5) lk_RX4_58 rfl rfl hRMX1_keep hP hD hS hA hK hN (pm_hs _ _ _ _ _ _) ((pm_hs _ _ _ _ _ _).symm) 0 rfl rfl rfl hl.1 rfl (Nat.le_of_ble_eq_true rfl) ⟨Nat.le_of_ble_eq_true rfl, Nat.le_of_ble_eq_true rfl⟩ (dg ddX4_read 29 rfl) (fun H locs hP hD hS => ?_)
      refine lv_iload_n hx hb (dg ddX4_read 30 rfl) rfl (lv_at hl 0 rfl) ?_
      cases hf
      refine W.widen (k := 1) (n := 6) (Nat.le_of_ble_eq_true rfl) (Nat.le_of_ble_eq_true rfl) ?_
      exact x_wi CX hr hlk rfl hP hD hS (dg ddX4_read 31 rfl)
  refine lv_aload_n hx hb (dg ddX4_read 0 rfl) rfl (lv_at hl 0 rfl) ?_
  refine lv_aload_n hx hb (dg ddX4_read 1 rfl) rfl (lv_at hl 0 rfl) ?_
  refine gf_RX4_36 CX hK hP 0 rfl rfl (dg ddX4_read 2 rfl) ?_
  obtain ⟨r2, e1, hf⟩ := ob_some hf
  refine cro_vi CX hml (As := []) (rest := [.ref (q 0 0)]) (c_X2_findError l D cy (q 5) x_len x_sig  e1) lk_RX4_261 rfl rfl hRMX2_findError (vaP_l (vaP_perm (pm_i _ _ _ _ _ _) hP)) hK hN 0 rfl rfl rfl hl.1 rfl (Nat.le_of_ble_eq_true rfl) ⟨Nat.le_of_ble_eq_true rfl, Nat.le_of_ble_eq_true rfl⟩ (dg ddX4_read 3 rfl) ?_
  refine pf_RX4_40 CX hK hP hD hS 0 rfl (dg ddX4_read 4 rfl) (Nat.le_of_ble_eq_true rfl) (fun H locs hP hD hS => ?_)
  have hP : va_P D vwCl (wX4 q cy x_isv r2 x_re x_de x_now x_spa x_sna x_len x_sig x_nxt x_cnt x_rng) H := hP
  have hD : va_D A (wX4 q cy x_isv r2 x_re x_de x_now x_spa x_sna x_len x_sig x_nxt x_cnt x_rng) := hD
  refine lv_aload_n hx hb (dg ddX4_read 5 rfl) rfl (lv_at hl 0 rfl) ?_
  refine gf_RX4_16 CX hK hP 0 rfl rfl (dg ddX4_read 6 rfl) ?_
  refine lv_aload_n hx hb (dg ddX4_read 7 rfl) rfl (lv_at hl 0 rfl) ?_
  refine gf_RX4_10 CX hK hP 0 rfl rfl (dg ddX4_read 8 rfl) ?_
  obtain ⟨r4, e3, hf⟩ := ob_some hf
  refine crf_vv CX hml (As := [.ref (q 1 0)]) (rest := []) (ws := (wX4 q cy x_isv r2 x_re x_de x_now x_spa x_sna x_len x_sig x_nxt x_cnt x_rng)) (wsn := (wX4 q cy x_isv r2 x_re x_de x_now (sv_cp x_spa r4) x_sna x_len x_sig x_nxt x_cnt x_rng)) (c_X3_copyFrom l D cy (q 2) (q 1) (g_hour x_spa) (g_crowd x_spa) (g_buskers x_spa) (g_answered x_spa) (g_draws x_spa) (g_lim x_spa) (g_cmp x_spa) (g_sof x_spa) (g_kin x_spa) (g_lou x_spa) (g_pit x_spa) (g_pla x_spa) (g_cas x_spa) (g_hrs x_spa) (g_nws x_spa) (g_hat x_spa) (g_wea x_spa) (g_row x_spa) (g_hour x_now) (g_crowd x_now) (g_buskers x_now) (g_answered x_now) (g_draws x_now) (g_lim x_now) (g_cmp x_now) (g_sof x_now) (g_kin x_now) (g_lou x_now) (g_pit x_now) (g_pla x_now) (g_cas x_now) (g_hrs x_now) (g_nws x_now) (g_hat x_now) (g_wea x_now) (g_row x_now) _ e3) lk_RX4_242 rfl rfl hRMX3_copyFrom hP hD hS hA hK hN (pm_sn _ _ _ _ _ _) ((pm_sn _ _ _ _ _ _).symm) 0 rfl rfl rfl hl.1 rfl (Nat.le_of_ble_eq_true rfl) ⟨Nat.le_of_ble_eq_true rfl, Nat.le_of_ble_eq_true rfl⟩ (dg ddX4_read 9 rfl) (fun H locs hP hD hS => ?_)
  refine lv_aload_n hx hb (dg ddX4_read 10 rfl) rfl (lv_at hl 0 rfl) ?_
  refine gf_RX4_40 CX hK hP 0 rfl rfl (dg ddX4_read 11 rfl) ?_
  refine lv_iconst (v := (-1)) hx hb (dg ddX4_read 12 rfl) (by decide) ?_
  refine lv_icmp_ne (tgt := 37) hx hb (dg ddX4_read 13 rfl) (by decide) (fun h5 => ?_) (fun h5 => ?_)
  · have hf := it_f h5 hf
    refine lv_bipush (v := (-2)) hx hb (dg ddX4_read 17 rfl) (by decide) ?_
    exact K39  (-2) r2 x_re x_de x_now (sv_cp x_spa r4) x_len x_nxt x_cnt x_rng _ _ hP hD hS _ (lv_sub hl [0] rfl) hf
  · have hf := it_t h5 hf
    refine lv_aload_n hx hb (dg ddX4_read 14 rfl) rfl (lv_at hl 0 rfl) ?_
    obtain ⟨r7, e6, hf⟩ := ob_some hf
    refine crw_vi CX hml (As := []) (rest := []) (c_X4_carryOut l D cy q x_isv r2 x_re x_de x_now (sv_cp x_spa r4) x_sna x_len x_sig x_nxt x_cnt x_rng _ e6) lk_RX4_264 rfl rfl hRMX4_carryOut hP hD hS hA hK hN 0 rfl rfl rfl hl.1 rfl (Nat.le_of_ble_eq_true rfl) ⟨Nat.le_of_ble_eq_true rfl, Nat.le_of_ble_eq_true rfl⟩ (dg ddX4_read 15 rfl) (fun H locs hP hD hS => ?_)
    refine lv_goto (tgt := 39) hx hb (dg ddX4_read 16 rfl) (by decide) ?_
    exact K39  r7.1 r2 r7.2.1 r7.2.2.1 r7.2.2.2 (sv_cp x_spa r4) x_len x_nxt x_cnt x_rng _ _ hP hD hS _ (lv_sub hl [0] rfl) hf
def f_X4_account (x_now : SV) (x_len : Int32) (x_cnt : Int32) (a1 : Int32) : Option ((Nat) ⊕ (Int32)) := if a1 = 0 then (some (.inr (g_hour x_now))) else (if a1 = 1 then (some (.inr (g_crowd x_now))) else (if a1 = 2 then (some (.inr (g_buskers x_now))) else (if a1 = 3 then (ob (f_X3_countAtHome (g_buskers x_now) (g_pit x_now) (g_pla x_now)) fun r6 => (some (.inr r6))) else (if a1 = 4 then (ob (f_X3_countWaiting (g_pla x_now)) fun r9 => (some (.inr r9))) else (if a1 = 5 then (ob (f_X3_countPlaying (g_pit x_now)) fun r12 => (some (.inr r12))) else (if a1 = 6 then (ob (f_X3_countSnapped (g_wea x_now)) fun r15 => (some (.inr r15))) else (if a1 = 7 then (ob (f_X4_sum (g_cmp x_now)) fun r18 => (some (.inr r18))) else (if a1 = 8 then (some (.inr (g_answered x_now))) else (if a1 = 9 then (ob (f_X4_sum (g_sof x_now)) fun r22 => (some (.inr r22))) else (if a1 = 10 then (ob (f_X3_countCases (g_cas x_now)) fun r25 => (some (.inr r25))) else (if a1 = 11 then (ob (f_X4_sum (g_nws x_now)) fun r28 => (some (.inr r28))) else (if a1 = 12 then (some (.inr (g_draws x_now))) else (if a1 = 13 then (some (.inr x_len)) else (if a1 = 14 then (some (.inr x_cnt)) else (some (.inl 2))))))))))))))))
set_option maxHeartbeats 4000000 in
set_option maxRecDepth 100000 in
theorem c_X4_account (l : Launch) (D : va_G) (cy : Nat → ClassId) (q : Nat → Nat → Nat) (x_isv : Int32) (x_te : Int32) (x_re : Int32) (x_de : Int32) (x_now : SV) (x_spa : SV) (x_sna : SV) (x_len : Int32) (x_sig : Nat → Int32) (x_nxt : Int32) (x_cnt : Int32) (x_rng : Nat → SV) (a1 : Int32) (sz : Nat) (hst : l.stackTraces = false) {res : (Nat) ⊕ (Int32)} (hf : f_X4_account x_now x_len x_cnt a1 = some res) : vx_Met l yX4_account (.code yX4_account cX4_account 2 (some .int) :: lw_all) { frames := 6, cells := 1, slots := 6, locals := 82 } (va_Pc [.ref (q 0 0), .int a1] (sX D cy (wX4 q cy x_isv x_te x_re x_de x_now x_spa x_sna x_len x_sig x_nxt x_cnt x_rng) sz)) (xI (α := Nat) D (fun x : Int32 => (wX4 q cy x_isv x_te x_re x_de x_now x_spa x_sna x_len x_sig x_nxt x_cnt x_rng)) (fun x : Int32 => x) res (va_A (wX4 q cy x_isv x_te x_re x_de x_now x_spa x_sna x_len x_sig x_nxt x_cnt x_rng) sz)) (xX (β := Int32) D (fun x : Nat => (wX4 q cy x_isv x_te x_re x_de x_now x_spa x_sna x_len x_sig x_nxt x_cnt x_rng)) (fun x : Nat => x) res (va_A (wX4 q cy x_isv x_te x_re x_de x_now x_spa x_sna x_len x_sig x_nxt x_cnt x_rng) sz)) 1 6 (va_A (wX4 q cy x_isv x_te x_re x_de x_now x_spa x_sna x_len x_sig x_nxt x_cnt x_rng) sz) := by
  refine mk_x (Qc := fun A => (xI (α := Nat) D (fun x : Int32 => (wX4 q cy x_isv x_te x_re x_de x_now x_spa x_sna x_len x_sig x_nxt x_cnt x_rng)) (fun x : Int32 => x) res A)) (XC := fun A => (xX (β := Int32) D (fun x : Nat => (wX4 q cy x_isv x_te x_re x_de x_now x_spa x_sna x_len x_sig x_nxt x_cnt x_rng)) (fun x : Nat => x) res A)) (Rc := RX4) (by decide +kernel) rfl (Nat.le_of_ble_eq_true rfl) ?_
  intro p e s m args below meth c ls A CX hml hr hlk hK hN hP hD hS hA hl hout hX
  have hx := CX.1
  have hb := CX.2.1
  have hRMX3_countAtHome : (⟨2, 0, 0, 33⟩ : Room).frames + 1 ≤ (⟨6, 1, 6, 82⟩ : Room).frames ∧ 8 + (3 + 11) + (⟨2, 0, 0, 33⟩ : Room).locals ≤ (⟨6, 1, 6, 82⟩ : Room).locals := ⟨Nat.le_of_ble_eq_true rfl, Nat.le_of_ble_eq_true rfl⟩
  have hRMX3_countCases : (⟨1, 0, 0, 12⟩ : Room).frames + 1 ≤ (⟨6, 1, 6, 82⟩ : Room).frames ∧ 8 + (6 + 11) + (⟨1, 0, 0, 12⟩ : Room).locals ≤ (⟨6, 1, 6, 82⟩ : Room).locals := ⟨Nat.le_of_ble_eq_true rfl, Nat.le_of_ble_eq_true rfl⟩
  have hRMX3_countPlaying : (⟨1, 0, 0, 12⟩ : Room).frames + 1 ≤ (⟨6, 1, 6, 82⟩ : Room).frames ∧ 8 + (6 + 11) + (⟨1, 0, 0, 12⟩ : Room).locals ≤ (⟨6, 1, 6, 82⟩ : Room).locals := ⟨Nat.le_of_ble_eq_true rfl, Nat.le_of_ble_eq_true rfl⟩
  have hRMX3_countSnapped : (⟨2, 0, 0, 33⟩ : Room).frames + 1 ≤ (⟨6, 1, 6, 82⟩ : Room).frames ∧ 8 + (3 + 11) + (⟨2, 0, 0, 33⟩ : Room).locals ≤ (⟨6, 1, 6, 82⟩ : Room).locals := ⟨Nat.le_of_ble_eq_true rfl, Nat.le_of_ble_eq_true rfl⟩
  have hRMX3_countWaiting : (⟨1, 0, 0, 12⟩ : Room).frames + 1 ≤ (⟨6, 1, 6, 82⟩ : Room).frames ∧ 8 + (6 + 11) + (⟨1, 0, 0, 12⟩ : Room).locals ≤ (⟨6, 1, 6, 82⟩ : Room).locals := ⟨Nat.le_of_ble_eq_true rfl, Nat.le_of_ble_eq_true rfl⟩
  have hRMX4_sum : (⟨1, 0, 0, 12⟩ : Room).frames + 1 ≤ (⟨6, 1, 6, 82⟩ : Room).frames ∧ 8 + (6 + 11) + (⟨1, 0, 0, 12⟩ : Room).locals ≤ (⟨6, 1, 6, 82⟩ : Room).locals := ⟨Nat.le_of_ble_eq_true rfl, Nat.le_of_ble_eq_true rfl⟩
  refine lv_iload_n hx hb (dg ddX4_account 0 rfl) rfl (lv_at hl 1 rfl) ?_
  by_cases h1 : a1 = 0
  · have hf := it_t h1 hf
    refine lv_tableIn (off := 75) (tgt := 76) hx hb (dg ddX4_account 1 rfl) (by rw [h1]; decide) (by rw [h1]; decide) (by rw [h1]; rfl) (by decide) ?_
    refine lv_aload_n hx hb (dg ddX4_account 2 rfl) rfl (lv_at hl 0 rfl) ?_
    refine gf_RX4_10 CX hK hP 0 rfl rfl (dg ddX4_account 3 rfl) ?_
    refine gf_RX4_276 CX hK hP 1 rfl rfl (dg ddX4_account 4 rfl) ?_
    cases hf
    refine W.widen (k := 1) (n := 6) (Nat.le_of_ble_eq_true rfl) (Nat.le_of_ble_eq_true rfl) ?_
    exact x_wi CX hr hlk rfl hP hD hS (dg ddX4_account 5 rfl)
  have hf := it_f h1 hf
  by_cases h2 : a1 = 1
  · have hf := it_t h2 hf
    refine lv_tableIn (off := 83) (tgt := 84) hx hb (dg ddX4_account 1 rfl) (by rw [h2]; decide) (by rw [h2]; decide) (by rw [h2]; rfl) (by decide) ?_
    refine lv_aload_n hx hb (dg ddX4_account 6 rfl) rfl (lv_at hl 0 rfl) ?_
    refine gf_RX4_10 CX hK hP 0 rfl rfl (dg ddX4_account 7 rfl) ?_
    refine gf_RX4_62 CX hK hP 1 rfl rfl (dg ddX4_account 8 rfl) ?_
    cases hf
    refine W.widen (k := 1) (n := 6) (Nat.le_of_ble_eq_true rfl) (Nat.le_of_ble_eq_true rfl) ?_
    exact x_wi CX hr hlk rfl hP hD hS (dg ddX4_account 9 rfl)
  have hf := it_f h2 hf
  by_cases h3 : a1 = 2
  · have hf := it_t h3 hf
    refine lv_tableIn (off := 91) (tgt := 92) hx hb (dg ddX4_account 1 rfl) (by rw [h3]; decide) (by rw [h3]; decide) (by rw [h3]; rfl) (by decide) ?_
    refine lv_aload_n hx hb (dg ddX4_account 10 rfl) rfl (lv_at hl 0 rfl) ?_
    refine gf_RX4_10 CX hK hP 0 rfl rfl (dg ddX4_account 11 rfl) ?_
    refine gf_RX4_279 CX hK hP 1 rfl rfl (dg ddX4_account 12 rfl) ?_
    cases hf
    refine W.widen (k := 1) (n := 6) (Nat.le_of_ble_eq_true rfl) (Nat.le_of_ble_eq_true rfl) ?_
    exact x_wi CX hr hlk rfl hP hD hS (dg ddX4_account 13 rfl)
  have hf := it_f h3 hf
  by_cases h4 : a1 = 3
  · have hf := it_t h4 hf
    refine lv_tableIn (off := 99) (tgt := 100) hx hb (dg ddX4_account 1 rfl) (by rw [h4]; decide) (by rw [h4]; decide) (by rw [h4]; rfl) (by decide) ?_
    refine lv_aload_n hx hb (dg ddX4_account 14 rfl) rfl (lv_at hl 0 rfl) ?_
    refine gf_RX4_10 CX hK hP 0 rfl rfl (dg ddX4_account 15 rfl) ?_
    obtain ⟨r6, e5, hf⟩ := ob_some hf
    refine cro_vi CX hml (As := []) (rest := []) (c_X3_countAtHome l D cy (q 1) (g_hour x_now) (g_crowd x_now) (g_buskers x_now) (g_answered x_now) (g_draws x_now) (g_lim x_now) (g_cmp x_now) (g_sof x_now) (g_kin x_now) (g_lou x_now) (g_pit x_now) (g_pla x_now) (g_cas x_now) (g_hrs x_now) (g_nws x_now) (g_hat x_now) (g_wea x_now) (g_row x_now)  e5) lk_RX4_282 rfl rfl hRMX3_countAtHome (vaP_l (vaP_perm (pm_n _ _ _ _ _ _) hP)) hK hN 0 rfl rfl rfl hl.1 rfl (Nat.le_of_ble_eq_true rfl) ⟨Nat.le_of_ble_eq_true rfl, Nat.le_of_ble_eq_true rfl⟩ (dg ddX4_account 16 rfl) ?_
    cases hf
    refine W.widen (k := 1) (n := 6) (Nat.le_of_ble_eq_true rfl) (Nat.le_of_ble_eq_true rfl) ?_
    exact x_wi CX hr hlk rfl hP hD hS (dg ddX4_account 17 rfl)
  have hf := it_f h4 hf
  by_cases h7 : a1 = 4
  · have hf := it_t h7 hf
    refine lv_tableIn (off := 107) (tgt := 108) hx hb (dg ddX4_account 1 rfl) (by rw [h7]; decide) (by rw [h7]; decide) (by rw [h7]; rfl) (by decide) ?_
    refine lv_aload_n hx hb (dg ddX4_account 18 rfl) rfl (lv_at hl 0 rfl) ?_
    refine gf_RX4_10 CX hK hP 0 rfl rfl (dg ddX4_account 19 rfl) ?_
    obtain ⟨r9, e8, hf⟩ := ob_some hf
    refine cro_vi CX hml (As := []) (rest := []) (c_X3_countWaiting l D cy (q 1) (g_hour x_now) (g_crowd x_now) (g_buskers x_now) (g_answered x_now) (g_draws x_now) (g_lim x_now) (g_cmp x_now) (g_sof x_now) (g_kin x_now) (g_lou x_now) (g_pit x_now) (g_pla x_now) (g_cas x_now) (g_hrs x_now) (g_nws x_now) (g_hat x_now) (g_wea x_now) (g_row x_now)  e8) lk_RX4_285 rfl rfl hRMX3_countWaiting (vaP_l (vaP_perm (pm_n _ _ _ _ _ _) hP)) hK hN 0 rfl rfl rfl hl.1 rfl (Nat.le_of_ble_eq_true rfl) ⟨Nat.le_of_ble_eq_true rfl, Nat.le_of_ble_eq_true rfl⟩ (dg ddX4_account 20 rfl) ?_
    cases hf
    refine W.widen (k := 1) (n := 6) (Nat.le_of_ble_eq_true rfl) (Nat.le_of_ble_eq_true rfl) ?_
    exact x_wi CX hr hlk rfl hP hD hS (dg ddX4_account 21 rfl)
  have hf := it_f h7 hf
  by_cases h10 : a1 = 5
  · have hf := it_t h10 hf
    refine lv_tableIn (off := 115) (tgt := 116) hx hb (dg ddX4_account 1 rfl) (by rw [h10]; decide) (by rw [h10]; decide) (by rw [h10]; rfl) (by decide) ?_
    refine lv_aload_n hx hb (dg ddX4_account 22 rfl) rfl (lv_at hl 0 rfl) ?_
    refine gf_RX4_10 CX hK hP 0 rfl rfl (dg ddX4_account 23 rfl) ?_
    obtain ⟨r12, e11, hf⟩ := ob_some hf
    refine cro_vi CX hml (As := []) (rest := []) (c_X3_countPlaying l D cy (q 1) (g_hour x_now) (g_crowd x_now) (g_buskers x_now) (g_answered x_now) (g_draws x_now) (g_lim x_now) (g_cmp x_now) (g_sof x_now) (g_kin x_now) (g_lou x_now) (g_pit x_now) (g_pla x_now) (g_cas x_now) (g_hrs x_now) (g_nws x_now) (g_hat x_now) (g_wea x_now) (g_row x_now)  e11) lk_RX4_245 rfl rfl hRMX3_countPlaying (vaP_l (vaP_perm (pm_n _ _ _ _ _ _) hP)) hK hN 0 rfl rfl rfl hl.1 rfl (Nat.le_of_ble_eq_true rfl) ⟨Nat.le_of_ble_eq_true rfl, Nat.le_of_ble_eq_true rfl⟩ (dg ddX4_account 24 rfl) ?_
    cases hf
    refine W.widen (k := 1) (n := 6) (Nat.le_of_ble_eq_true rfl) (Nat.le_of_ble_eq_true rfl) ?_
    exact x_wi CX hr hlk rfl hP hD hS (dg ddX4_account 25 rfl)
  have hf := it_f h10 hf
  by_cases h13 : a1 = 6
  · have hf := it_t h13 hf
    refine lv_tableIn (off := 123) (tgt := 124) hx hb (dg ddX4_account 1 rfl) (by rw [h13]; decide) (by rw [h13]; decide) (by rw [h13]; rfl) (by decide) ?_
    refine lv_aload_n hx hb (dg ddX4_account 26 rfl) rfl (lv_at hl 0 rfl) ?_
    refine gf_RX4_10 CX hK hP 0 rfl rfl (dg ddX4_account 27 rfl) ?_
    obtain ⟨r15, e14, hf⟩ := ob_some hf
    refine cro_vi CX hml (As := []) (rest := []) (c_X3_countSnapped l D cy (q 1) (g_hour x_now) (g_crowd x_now) (g_buskers x_now) (g_answered x_now) (g_draws x_now) (g_lim x_now) (g_cmp x_now) (g_sof x_now) (g_kin x_now) (g_lou x_now) (g_pit x_now) (g_pla x_now) (g_cas x_now) (g_hrs x_now) (g_nws x_now) (g_hat x_now) (g_wea x_now) (g_row x_now)  e14) lk_RX4_288 rfl rfl hRMX3_countSnapped (vaP_l (vaP_perm (pm_n _ _ _ _ _ _) hP)) hK hN 0 rfl rfl rfl hl.1 rfl (Nat.le_of_ble_eq_true rfl) ⟨Nat.le_of_ble_eq_true rfl, Nat.le_of_ble_eq_true rfl⟩ (dg ddX4_account 28 rfl) ?_
    cases hf
    refine W.widen (k := 1) (n := 6) (Nat.le_of_ble_eq_true rfl) (Nat.le_of_ble_eq_true rfl) ?_
    exact x_wi CX hr hlk rfl hP hD hS (dg ddX4_account 29 rfl)
  have hf := it_f h13 hf
  by_cases h16 : a1 = 7
  · have hf := it_t h16 hf
    refine lv_tableIn (off := 131) (tgt := 132) hx hb (dg ddX4_account 1 rfl) (by rw [h16]; decide) (by rw [h16]; decide) (by rw [h16]; rfl) (by decide) ?_
    refine lv_aload_n hx hb (dg ddX4_account 30 rfl) rfl (lv_at hl 0 rfl) ?_
    refine gf_RX4_10 CX hK hP 0 rfl rfl (dg ddX4_account 31 rfl) ?_
    refine gf_RX4_129 CX hK hP 1 rfl rfl (dg ddX4_account 32 rfl) ?_
    obtain ⟨r18, e17, hf⟩ := ob_some hf
    refine cro_si CX hml (As := [.ref (q 1 2)]) (rest := []) (c_X4_sum l D cy (q 1 2) (g_cmp x_now) e17) lk_RX4_291 rfl rfl hRMX4_sum (vaP_1 hP 3 rfl) hK hN rfl hl.1 rfl (Nat.le_of_ble_eq_true rfl) ⟨Nat.le_of_ble_eq_true rfl, Nat.le_of_ble_eq_true rfl⟩ (dg ddX4_account 33 rfl) ?_
    cases hf
    refine W.widen (k := 1) (n := 6) (Nat.le_of_ble_eq_true rfl) (Nat.le_of_ble_eq_true rfl) ?_
    exact x_wi CX hr hlk rfl hP hD hS (dg ddX4_account 34 rfl)
  have hf := it_f h16 hf
  by_cases h19 : a1 = 8
  · have hf := it_t h19 hf
    refine lv_tableIn (off := 142) (tgt := 143) hx hb (dg ddX4_account 1 rfl) (by rw [h19]; decide) (by rw [h19]; decide) (by rw [h19]; rfl) (by decide) ?_
    refine lv_aload_n hx hb (dg ddX4_account 35 rfl) rfl (lv_at hl 0 rfl) ?_
    refine gf_RX4_10 CX hK hP 0 rfl rfl (dg ddX4_account 36 rfl) ?_
    refine gf_RX4_295 CX hK hP 1 rfl rfl (dg ddX4_account 37 rfl) ?_
    cases hf
    refine W.widen (k := 1) (n := 6) (Nat.le_of_ble_eq_true rfl) (Nat.le_of_ble_eq_true rfl) ?_
    exact x_wi CX hr hlk rfl hP hD hS (dg ddX4_account 38 rfl)
  have hf := it_f h19 hf
  by_cases h20 : a1 = 9
  · have hf := it_t h20 hf
    refine lv_tableIn (off := 150) (tgt := 151) hx hb (dg ddX4_account 1 rfl) (by rw [h20]; decide) (by rw [h20]; decide) (by rw [h20]; rfl) (by decide) ?_
    refine lv_aload_n hx hb (dg ddX4_account 39 rfl) rfl (lv_at hl 0 rfl) ?_
    refine gf_RX4_10 CX hK hP 0 rfl rfl (dg ddX4_account 40 rfl) ?_
    refine gf_RX4_132 CX hK hP 1 rfl rfl (dg ddX4_account 41 rfl) ?_
    obtain ⟨r22, e21, hf⟩ := ob_some hf
    refine cro_si CX hml (As := [.ref (q 1 3)]) (rest := []) (c_X4_sum l D cy (q 1 3) (g_sof x_now) e21) lk_RX4_291 rfl rfl hRMX4_sum (vaP_1 hP 4 rfl) hK hN rfl hl.1 rfl (Nat.le_of_ble_eq_true rfl) ⟨Nat.le_of_ble_eq_true rfl, Nat.le_of_ble_eq_true rfl⟩ (dg ddX4_account 42 rfl) ?_
    cases hf
    refine W.widen (k := 1) (n := 6) (Nat.le_of_ble_eq_true rfl) (Nat.le_of_ble_eq_true rfl) ?_
    exact x_wi CX hr hlk rfl hP hD hS (dg ddX4_account 43 rfl)
  have hf := it_f h20 hf
  by_cases h23 : a1 = 10
  · have hf := it_t h23 hf
    refine lv_tableIn (off := 161) (tgt := 162) hx hb (dg ddX4_account 1 rfl) (by rw [h23]; decide) (by rw [h23]; decide) (by rw [h23]; rfl) (by decide) ?_
    refine lv_aload_n hx hb (dg ddX4_account 44 rfl) rfl (lv_at hl 0 rfl) ?_
    refine gf_RX4_10 CX hK hP 0 rfl rfl (dg ddX4_account 45 rfl) ?_
    obtain ⟨r25, e24, hf⟩ := ob_some hf
    refine cro_vi CX hml (As := []) (rest := []) (c_X3_countCases l D cy (q 1) (g_hour x_now) (g_crowd x_now) (g_buskers x_now) (g_answered x_now) (g_draws x_now) (g_lim x_now) (g_cmp x_now) (g_sof x_now) (g_kin x_now) (g_lou x_now) (g_pit x_now) (g_pla x_now) (g_cas x_now) (g_hrs x_now) (g_nws x_now) (g_hat x_now) (g_wea x_now) (g_row x_now)  e24) lk_RX4_298 rfl rfl hRMX3_countCases (vaP_l (vaP_perm (pm_n _ _ _ _ _ _) hP)) hK hN 0 rfl rfl rfl hl.1 rfl (Nat.le_of_ble_eq_true rfl) ⟨Nat.le_of_ble_eq_true rfl, Nat.le_of_ble_eq_true rfl⟩ (dg ddX4_account 46 rfl) ?_
    cases hf
    refine W.widen (k := 1) (n := 6) (Nat.le_of_ble_eq_true rfl) (Nat.le_of_ble_eq_true rfl) ?_
    exact x_wi CX hr hlk rfl hP hD hS (dg ddX4_account 47 rfl)
  have hf := it_f h23 hf
  by_cases h26 : a1 = 11
  · have hf := it_t h26 hf
    refine lv_tableIn (off := 169) (tgt := 170) hx hb (dg ddX4_account 1 rfl) (by rw [h26]; decide) (by rw [h26]; decide) (by rw [h26]; rfl) (by decide) ?_
    refine lv_aload_n hx hb (dg ddX4_account 48 rfl) rfl (lv_at hl 0 rfl) ?_
    refine gf_RX4_10 CX hK hP 0 rfl rfl (dg ddX4_account 49 rfl) ?_
    refine gf_RX4_107 CX hK hP 1 rfl rfl (dg ddX4_account 50 rfl) ?_
    obtain ⟨r28, e27, hf⟩ := ob_some hf
    refine cro_si CX hml (As := [.ref (q 1 10)]) (rest := []) (c_X4_sum l D cy (q 1 10) (g_nws x_now) e27) lk_RX4_291 rfl rfl hRMX4_sum (vaP_1 hP 11 rfl) hK hN rfl hl.1 rfl (Nat.le_of_ble_eq_true rfl) ⟨Nat.le_of_ble_eq_true rfl, Nat.le_of_ble_eq_true rfl⟩ (dg ddX4_account 51 rfl) ?_
    cases hf
    refine W.widen (k := 1) (n := 6) (Nat.le_of_ble_eq_true rfl) (Nat.le_of_ble_eq_true rfl) ?_
    exact x_wi CX hr hlk rfl hP hD hS (dg ddX4_account 52 rfl)
  have hf := it_f h26 hf
  by_cases h29 : a1 = 12
  · have hf := it_t h29 hf
    refine lv_tableIn (off := 180) (tgt := 181) hx hb (dg ddX4_account 1 rfl) (by rw [h29]; decide) (by rw [h29]; decide) (by rw [h29]; rfl) (by decide) ?_
    refine lv_aload_n hx hb (dg ddX4_account 53 rfl) rfl (lv_at hl 0 rfl) ?_
    refine gf_RX4_10 CX hK hP 0 rfl rfl (dg ddX4_account 54 rfl) ?_
    refine gf_RX4_301 CX hK hP 1 rfl rfl (dg ddX4_account 55 rfl) ?_
    cases hf
    refine W.widen (k := 1) (n := 6) (Nat.le_of_ble_eq_true rfl) (Nat.le_of_ble_eq_true rfl) ?_
    exact x_wi CX hr hlk rfl hP hD hS (dg ddX4_account 56 rfl)
  have hf := it_f h29 hf
  by_cases h30 : a1 = 13
  · have hf := it_t h30 hf
    refine lv_tableIn (off := 188) (tgt := 189) hx hb (dg ddX4_account 1 rfl) (by rw [h30]; decide) (by rw [h30]; decide) (by rw [h30]; rfl) (by decide) ?_
    refine lv_aload_n hx hb (dg ddX4_account 57 rfl) rfl (lv_at hl 0 rfl) ?_
    refine gf_RX4_36 CX hK hP 0 rfl rfl (dg ddX4_account 58 rfl) ?_
    refine gf_RX4_249 CX hK hP 43 rfl rfl (dg ddX4_account 59 rfl) ?_
    cases hf
    refine W.widen (k := 1) (n := 6) (Nat.le_of_ble_eq_true rfl) (Nat.le_of_ble_eq_true rfl) ?_
    exact x_wi CX hr hlk rfl hP hD hS (dg ddX4_account 60 rfl)
  have hf := it_f h30 hf
  by_cases h31 : a1 = 14
  · have hf := it_t h31 hf
    refine lv_tableIn (off := 196) (tgt := 197) hx hb (dg ddX4_account 1 rfl) (by rw [h31]; decide) (by rw [h31]; decide) (by rw [h31]; rfl) (by decide) ?_
    refine lv_aload_n hx hb (dg ddX4_account 61 rfl) rfl (lv_at hl 0 rfl) ?_
    refine gf_RX4_29 CX hK hP 0 rfl rfl (dg ddX4_account 62 rfl) ?_
    refine gf_RX4_304 CX hK hP 45 rfl rfl (dg ddX4_account 63 rfl) ?_
    cases hf
    refine W.widen (k := 1) (n := 6) (Nat.le_of_ble_eq_true rfl) (Nat.le_of_ble_eq_true rfl) ?_
    exact x_wi CX hr hlk rfl hP hD hS (dg ddX4_account 64 rfl)
  have hf := it_f h31 hf
  refine lv_tabD (off := 204) (tgt := 205) hx hb (dg ddX4_account 1 rfl) (by have g0 : (a1).toInt ≠ 0 := ne_ti h1 (by decide); have g1 : (a1).toInt ≠ 1 := ne_ti h2 (by decide); have g2 : (a1).toInt ≠ 2 := ne_ti h3 (by decide); have g3 : (a1).toInt ≠ 3 := ne_ti h4 (by decide); have g4 : (a1).toInt ≠ 4 := ne_ti h7 (by decide); have g5 : (a1).toInt ≠ 5 := ne_ti h10 (by decide); have g6 : (a1).toInt ≠ 6 := ne_ti h13 (by decide); have g7 : (a1).toInt ≠ 7 := ne_ti h16 (by decide); have g8 : (a1).toInt ≠ 8 := ne_ti h19 (by decide); have g9 : (a1).toInt ≠ 9 := ne_ti h20 (by decide); have g10 : (a1).toInt ≠ 10 := ne_ti h23 (by decide); have g11 : (a1).toInt ≠ 11 := ne_ti h26 (by decide); have g12 : (a1).toInt ≠ 12 := ne_ti h29 (by decide); have g13 : (a1).toInt ≠ 13 := ne_ti h30 (by decide); have g14 : (a1).toInt ≠ 14 := ne_ti h31 (by decide); exact Or.inl ⟨by omega, rfl⟩) (by decide) ?_
  cases hf
  exact xt_2_W (is := 307) (tx := "no such account") (by decide +kernel) CX (hml.trans hl.1.symm) hst hX hout hlk rfl hP hD hS (Nat.le_of_ble_eq_true rfl) (Nat.le_of_ble_eq_true rfl) (Nat.le_of_ble_eq_true rfl) (Nat.le_of_ble_eq_true rfl) (Nat.le_of_ble_eq_true rfl) (Nat.le_of_ble_eq_true rfl) (dg ddX4_account 65 rfl) (dg ddX4_account 66 rfl) (dg ddX4_account 67 rfl) (dg ddX4_account 68 rfl) (dg ddX4_account 69 rfl)
def f_X4_meanBits_c25  (x_now : SV) : Nat → UInt64 → Int32 → Option ((Nat) ⊕ (Int64))
  | 0, _, _ => none
  | n + 1, x1, x3 => if 8 ≤ x3 then (og (n64 (FP.ddiv x1 (FP.i2d (g_buskers x_now)))) (ob (f_X0_ofDouble (FP.ddiv x1 (FP.i2d (g_buskers x_now)))) fun r4 => (some (.inr r4)))) else (ob (f_X3_hasBusker (g_buskers x_now) x3) fun r6 => (if r6 = 0 then (f_X4_meanBits_c25 x_now n x1 (x3 + 1)) else (og (inb x3 8) (og (n64 (FP.f2d ((g_hat x_now) x3.toNatClampNeg))) (og (n64 (FP.dadd x1 (FP.f2d ((g_hat x_now) x3.toNatClampNeg)))) (f_X4_meanBits_c25 x_now n (FP.dadd x1 (FP.f2d ((g_hat x_now) x3.toNatClampNeg))) (x3 + 1)))))))
def f_X4_meanBits (x_now : SV) : Option ((Nat) ⊕ (Int64)) := if 0 < (g_buskers x_now) then (f_X4_meanBits_c25 x_now 4096 FP.dconst0 0) else (some (.inl 6))
set_option maxHeartbeats 4000000 in
set_option maxRecDepth 100000 in
theorem c_X4_meanBits (l : Launch) (D : va_G) (cy : Nat → ClassId) (q : Nat → Nat → Nat) (x_isv : Int32) (x_te : Int32) (x_re : Int32) (x_de : Int32) (x_now : SV) (x_spa : SV) (x_sna : SV) (x_len : Int32) (x_sig : Nat → Int32) (x_nxt : Int32) (x_cnt : Int32) (x_rng : Nat → SV) (sz : Nat) (hst : l.stackTraces = false) {res : (Nat) ⊕ (Int64)} (hf : f_X4_meanBits x_now = some res) : vx_Met l yX4_meanBits (.code yX4_meanBits cX4_meanBits 4 (some .long) :: lw_all) { frames := 6, cells := 1, slots := 6, locals := 82 } (va_Pc [.ref (q 0 0)] (sX D cy (wX4 q cy x_isv x_te x_re x_de x_now x_spa x_sna x_len x_sig x_nxt x_cnt x_rng) sz)) (xL (α := Nat) D (fun x : Int64 => (wX4 q cy x_isv x_te x_re x_de x_now x_spa x_sna x_len x_sig x_nxt x_cnt x_rng)) (fun x : Int64 => x) res (va_A (wX4 q cy x_isv x_te x_re x_de x_now x_spa x_sna x_len x_sig x_nxt x_cnt x_rng) sz)) (xX (β := Int64) D (fun x : Nat => (wX4 q cy x_isv x_te x_re x_de x_now x_spa x_sna x_len x_sig x_nxt x_cnt x_rng)) (fun x : Nat => x) res (va_A (wX4 q cy x_isv x_te x_re x_de x_now x_spa x_sna x_len x_sig x_nxt x_cnt x_rng) sz)) 1 6 (va_A (wX4 q cy x_isv x_te x_re x_de x_now x_spa x_sna x_len x_sig x_nxt x_cnt x_rng) sz) := by
  refine mk_x (Qc := fun A => (xL (α := Nat) D (fun x : Int64 => (wX4 q cy x_isv x_te x_re x_de x_now x_spa x_sna x_len x_sig x_nxt x_cnt x_rng)) (fun x : Int64 => x) res A)) (XC := fun A => (xX (β := Int64) D (fun x : Nat => (wX4 q cy x_isv x_te x_re x_de x_now x_spa x_sna x_len x_sig x_nxt x_cnt x_rng)) (fun x : Nat => x) res A)) (Rc := RX4) (by decide +kernel) rfl (Nat.le_of_ble_eq_true rfl) ?_
  intro p e s m args below meth c ls A CX hml hr hlk hK hN hP hD hS hA hl hout hX
  have hx := CX.1
  have hb := CX.2.1
  have hRMX0_ofDouble : (⟨1, 0, 0, 12⟩ : Room).frames + 1 ≤ (⟨6, 1, 6, 82⟩ : Room).frames ∧ 8 + (6 + 11) + (⟨1, 0, 0, 12⟩ : Room).locals ≤ (⟨6, 1, 6, 82⟩ : Room).locals := ⟨Nat.le_of_ble_eq_true rfl, Nat.le_of_ble_eq_true rfl⟩
  have hRMX3_hasBusker : (⟨1, 0, 0, 12⟩ : Room).frames + 1 ≤ (⟨6, 1, 6, 82⟩ : Room).frames ∧ 8 + (2 + 11) + (⟨1, 0, 0, 12⟩ : Room).locals ≤ (⟨6, 1, 6, 82⟩ : Room).locals := ⟨Nat.le_of_ble_eq_true rfl, Nat.le_of_ble_eq_true rfl⟩
  have hl0 := hl
  have K25 : ∀ (n : Nat), ∀ (x1 : UInt64) (x3 : Int32) (H : Heap) (locs : List Loc) (hP : va_P D vwCl (wX4 q cy x_isv x_te x_re x_de x_now x_spa x_sna x_len x_sig x_nxt x_cnt x_rng) H) (hD : va_D A (wX4 q cy x_isv x_te x_re x_de x_now x_spa x_sna x_len x_sig x_nxt x_cnt x_rng)) (hS : va_S A s.heap H locs) (ls : Array Slot) (hl : lv_has ls 4 [(0, .ref (q 0 0)), (1, .double x1), (3, .int x3)]) (hf : f_X4_meanBits_c25 x_now n x1 x3 = some res), W p l e ⟨6, 1, 6, 82⟩ s m args below meth c H locs 0 0 (vx_MQ below (xL (α := Nat) D (fun x : Int64 => (wX4 q cy x_isv x_te x_re x_de x_now x_spa x_sna x_len x_sig x_nxt x_cnt x_rng)) (fun x : Int64 => x) res A) (xX (β := Int64) D (fun x : Nat => (wX4 q cy x_isv x_te x_re x_de x_now x_spa x_sna x_len x_sig x_nxt x_cnt x_rng)) (fun x : Nat => x) res A) args s 1 6 A) (F0 m 25 ls []) := by
    intro n
    induction n with
    | zero => intro x1 x3 H locs hP hD hS ls hl hf; cases (show none = some res from hf)
    | succ n ih =>
    intro x1 x3 H locs hP hD hS ls hl hf
    refine lv_iload_n hx hb (dg ddX4_meanBits 13 rfl) rfl (lv_at hl 2 rfl) ?_
    refine lv_bipush (v := 8) hx hb (dg ddX4_meanBits 14 rfl) (by decide) ?_
    refine lv_icmp_ge (tgt := 61) hx hb (dg ddX4_meanBits 15 rfl) (by decide) (fun h1 => ?_) (fun h1 => ?_)
    · have hf := it_t h1 hf
      refine lv_dload_n hx hb (dg ddX4_meanBits 32 rfl) rfl (lv_at hl 1 rfl) ?_
      refine lv_aload_n hx hb (dg ddX4_meanBits 33 rfl) rfl (lv_at hl 0 rfl) ?_
      refine gf_RX4_10 CX hK hP 0 rfl rfl (dg ddX4_meanBits 34 rfl) ?_
      refine gf_RX4_279 CX hK hP 1 rfl rfl (dg ddX4_meanBits 35 rfl) ?_
      refine lv_i2d hx hb (dg ddX4_meanBits 36 rfl) ?_
      obtain ⟨h2, hf⟩ := og_some hf
      refine lv_ddiv hx hb (dg ddX4_meanBits 37 rfl) (n64_in h2) ?_
      obtain ⟨r4, e3, hf⟩ := ob_some hf
      refine cro_sl CX hml (As := [.double (FP.ddiv x1 (FP.i2d (g_buskers x_now)))]) (rest := []) (c_X0_ofDouble l D cy (FP.ddiv x1 (FP.i2d (g_buskers x_now))) e3) lk_RX4_321 rfl rfl hRMX0_ofDouble vaP_nil hK hN rfl hl.1 rfl (Nat.le_of_ble_eq_true rfl) ⟨Nat.le_of_ble_eq_true rfl, Nat.le_of_ble_eq_true rfl⟩ (dg ddX4_meanBits 38 rfl) ?_
      cases hf
      refine W.widen (k := 1) (n := 6) (Nat.le_of_ble_eq_true rfl) (Nat.le_of_ble_eq_true rfl) ?_
      exact x_wl CX hr hlk rfl hP hD hS (dg ddX4_meanBits 39 rfl)
    · have hf := it_f h1 hf
      refine lv_aload_n hx hb (dg ddX4_meanBits 16 rfl) rfl (lv_at hl 0 rfl) ?_
      refine gf_RX4_10 CX hK hP 0 rfl rfl (dg ddX4_meanBits 17 rfl) ?_
      refine lv_iload_n hx hb (dg ddX4_meanBits 18 rfl) rfl (lv_at hl 2 rfl) ?_
      obtain ⟨r6, e5, hf⟩ := ob_some hf
      refine cro_vi CX hml (As := [.int x3]) (rest := []) (c_X3_hasBusker l D cy (q 1) (g_hour x_now) (g_crowd x_now) (g_buskers x_now) (g_answered x_now) (g_draws x_now) (g_lim x_now) (g_cmp x_now) (g_sof x_now) (g_kin x_now) (g_lou x_now) (g_pit x_now) (g_pla x_now) (g_cas x_now) (g_hrs x_now) (g_nws x_now) (g_hat x_now) (g_wea x_now) (g_row x_now) x3 e5) lk_RX4_224 rfl rfl hRMX3_hasBusker (vaP_l (vaP_perm (pm_n _ _ _ _ _ _) hP)) hK hN 0 rfl rfl rfl hl.1 rfl (Nat.le_of_ble_eq_true rfl) ⟨Nat.le_of_ble_eq_true rfl, Nat.le_of_ble_eq_true rfl⟩ (dg ddX4_meanBits 19 rfl) ?_
      refine lv_if_eq (tgt := 55) hx hb (dg ddX4_meanBits 20 rfl) (by decide) (fun h7 => ?_) (fun h7 => ?_)
      · have hf := it_t h7 hf
        refine lv_iinc (v := x3 + 1) (lv' := [(3, .int (x3 + 1)), (0, .ref (q 0 0)), (1, .double x1)]) hx hb (dg ddX4_meanBits 30 rfl) hl (k := 2) rfl (congrArg (HAdd.hAdd x3) (by decide)) (by decide) rfl (fun ls hl => ?_)
        refine lv_goto (tgt := 25) hx hb (dg ddX4_meanBits 31 rfl) (by decide) ?_
        exact ih x1 (x3 + 1) _ _ hP hD hS _ (lv_sub hl [1, 2, 0] rfl) hf
      · have hf := it_f h7 hf
        refine lv_dload_n hx hb (dg ddX4_meanBits 21 rfl) rfl (lv_at hl 1 rfl) ?_
        refine lv_aload_n hx hb (dg ddX4_meanBits 22 rfl) rfl (lv_at hl 0 rfl) ?_
        refine gf_RX4_10 CX hK hP 0 rfl rfl (dg ddX4_meanBits 23 rfl) ?_
        refine gf_RX4_117 CX hK hP 1 rfl rfl (dg ddX4_meanBits 24 rfl) ?_
        refine lv_iload_n hx hb (dg ddX4_meanBits 25 rfl) rfl (lv_at hl 2 rfl) ?_
        obtain ⟨h8, hf⟩ := og_some hf
        refine va_fald hx hb hK hP 12 1 rfl rfl (inb_in h8) (dg ddX4_meanBits 26 rfl) ?_
        obtain ⟨h9, hf⟩ := og_some hf
        refine lv_f2d hx hb (dg ddX4_meanBits 27 rfl) (n64_in h9) ?_
        obtain ⟨h10, hf⟩ := og_some hf
        refine lv_dadd hx hb (dg ddX4_meanBits 28 rfl) (n64_in h10) ?_
        refine lv_dstore_n (lv' := [(1, .double (FP.dadd x1 (FP.f2d ((g_hat x_now) x3.toNatClampNeg)))), (0, .ref (q 0 0)), (3, .int x3)]) hx hb (dg ddX4_meanBits 29 rfl) rfl hl (by decide) rfl (fun ls hl => ?_)
        refine lv_iinc (v := x3 + 1) (lv' := [(3, .int (x3 + 1)), (1, .double (FP.dadd x1 (FP.f2d ((g_hat x_now) x3.toNatClampNeg)))), (0, .ref (q 0 0))]) hx hb (dg ddX4_meanBits 30 rfl) hl (k := 2) rfl (congrArg (HAdd.hAdd x3) (by decide)) (by decide) rfl (fun ls hl => ?_)
        refine lv_goto (tgt := 25) hx hb (dg ddX4_meanBits 31 rfl) (by decide) ?_
        exact ih (FP.dadd x1 (FP.f2d ((g_hat x_now) x3.toNatClampNeg))) (x3 + 1) _ _ hP hD hS _ (lv_sub hl [2, 1, 0] rfl) hf
  refine lv_aload_n hx hb (dg ddX4_meanBits 0 rfl) rfl (lv_at hl 0 rfl) ?_
  refine gf_RX4_10 CX hK hP 0 rfl rfl (dg ddX4_meanBits 1 rfl) ?_
  refine gf_RX4_279 CX hK hP 1 rfl rfl (dg ddX4_meanBits 2 rfl) ?_
  refine lv_if_gt (tgt := 21) hx hb (dg ddX4_meanBits 3 rfl) (by decide) (fun h1 => ?_) (fun h1 => ?_)
  · have hf := it_t h1 hf
    refine lv_dconst0 hx hb (dg ddX4_meanBits 9 rfl) ?_
    refine lv_dstore_n (lv' := [(1, .double FP.dconst0), (0, .ref (q 0 0))]) hx hb (dg ddX4_meanBits 10 rfl) rfl hl (by decide) rfl (fun ls hl => ?_)
    refine lv_iconst (v := 0) hx hb (dg ddX4_meanBits 11 rfl) (by decide) ?_
    refine lv_istore_n (lv' := [(3, .int 0), (1, .double FP.dconst0), (0, .ref (q 0 0))]) hx hb (dg ddX4_meanBits 12 rfl) rfl hl (by decide) rfl (fun ls hl => ?_)
    exact K25 4096 FP.dconst0 0 _ _ hP hD hS _ (lv_sub hl [2, 1, 0] rfl) hf
  · have hf := it_f h1 hf
    cases hf
    exact xt_6_W (is := 318) (tx := "there are no buskers") (by decide +kernel) CX (hml.trans hl.1.symm) hst hX hout hlk rfl hP hD hS (Nat.le_of_ble_eq_true rfl) (Nat.le_of_ble_eq_true rfl) (Nat.le_of_ble_eq_true rfl) (Nat.le_of_ble_eq_true rfl) (Nat.le_of_ble_eq_true rfl) (Nat.le_of_ble_eq_true rfl) (dg ddX4_meanBits 4 rfl) (dg ddX4_meanBits 5 rfl) (dg ddX4_meanBits 6 rfl) (dg ddX4_meanBits 7 rfl) (dg ddX4_meanBits 8 rfl)
def f_X4_undo (x_now : SV) (x_nxt : Int32) (x_cnt : Int32) (x_rng : Nat → SV) : Option ((Nat × SV × Int32 × Int32) ⊕ (Int32 × SV × Int32 × Int32)) := if 0 < x_cnt then (ob (f_X1_giveBack x_nxt x_cnt x_rng x_now) fun r3 => (some (.inr (r3.2.1, r3.2.2, r3.1, r3.2.1)))) else (some (.inl (5, x_now, x_nxt, x_cnt)))
set_option maxHeartbeats 4000000 in
set_option maxRecDepth 100000 in
theorem c_X4_undo (l : Launch) (D : va_G) (cy : Nat → ClassId) (q : Nat → Nat → Nat) (x_isv : Int32) (x_te : Int32) (x_re : Int32) (x_de : Int32) (x_now : SV) (x_spa : SV) (x_sna : SV) (x_len : Int32) (x_sig : Nat → Int32) (x_nxt : Int32) (x_cnt : Int32) (x_rng : Nat → SV) (sz : Nat) (hst : l.stackTraces = false) {res : (Nat × SV × Int32 × Int32) ⊕ (Int32 × SV × Int32 × Int32)} (hf : f_X4_undo x_now x_nxt x_cnt x_rng = some res) : vx_Met l yX4_undo (.code yX4_undo cX4_undo 1 (some .int) :: lw_all) { frames := 6, cells := 1, slots := 6, locals := 83 } (va_Pc [.ref (q 0 0)] (sX D cy (wX4 q cy x_isv x_te x_re x_de x_now x_spa x_sna x_len x_sig x_nxt x_cnt x_rng) sz)) (xI (α := Nat × SV × Int32 × Int32) D (fun x : Int32 × SV × Int32 × Int32 => (wX4 q cy x_isv x_te x_re x_de x.2.1 x_spa x_sna x_len x_sig x.2.2.1 x.2.2.2 x_rng)) (fun x : Int32 × SV × Int32 × Int32 => x.1) res (va_A (wX4 q cy x_isv x_te x_re x_de x_now x_spa x_sna x_len x_sig x_nxt x_cnt x_rng) sz)) (xX (β := Int32 × SV × Int32 × Int32) D (fun x : Nat × SV × Int32 × Int32 => (wX4 q cy x_isv x_te x_re x_de x.2.1 x_spa x_sna x_len x_sig x.2.2.1 x.2.2.2 x_rng)) (fun x : Nat × SV × Int32 × Int32 => x.1) res (va_A (wX4 q cy x_isv x_te x_re x_de x_now x_spa x_sna x_len x_sig x_nxt x_cnt x_rng) sz)) 1 6 (va_A (wX4 q cy x_isv x_te x_re x_de x_now x_spa x_sna x_len x_sig x_nxt x_cnt x_rng) sz) := by
  refine mk_x (Qc := fun A => (xI (α := Nat × SV × Int32 × Int32) D (fun x : Int32 × SV × Int32 × Int32 => (wX4 q cy x_isv x_te x_re x_de x.2.1 x_spa x_sna x_len x_sig x.2.2.1 x.2.2.2 x_rng)) (fun x : Int32 × SV × Int32 × Int32 => x.1) res A)) (XC := fun A => (xX (β := Int32 × SV × Int32 × Int32) D (fun x : Nat × SV × Int32 × Int32 => (wX4 q cy x_isv x_te x_re x_de x.2.1 x_spa x_sna x_len x_sig x.2.2.1 x.2.2.2 x_rng)) (fun x : Nat × SV × Int32 × Int32 => x.1) res A)) (Rc := RX4) (by decide +kernel) rfl (Nat.le_of_ble_eq_true rfl) ?_
  intro p e s m args below meth c ls A CX hml hr hlk hK hN hP hD hS hA hl hout hX
  have hx := CX.1
  have hb := CX.2.1
  have hRMX1_giveBack : (⟨2, 0, 0, 61⟩ : Room).frames + 1 ≤ (⟨6, 1, 6, 83⟩ : Room).frames ∧ 8 + (3 + 11) + (⟨2, 0, 0, 61⟩ : Room).locals ≤ (⟨6, 1, 6, 83⟩ : Room).locals := ⟨Nat.le_of_ble_eq_true rfl, Nat.le_of_ble_eq_true rfl⟩
  refine lv_aload_n hx hb (dg ddX4_undo 0 rfl) rfl (lv_at hl 0 rfl) ?_
  refine gf_RX4_29 CX hK hP 0 rfl rfl (dg ddX4_undo 1 rfl) ?_
  refine gf_RX4_304 CX hK hP 45 rfl rfl (dg ddX4_undo 2 rfl) ?_
  refine lv_if_gt (tgt := 21) hx hb (dg ddX4_undo 3 rfl) (by decide) (fun h1 => ?_) (fun h1 => ?_)
  · have hf := it_t h1 hf
    refine lv_aload_n hx hb (dg ddX4_undo 9 rfl) rfl (lv_at hl 0 rfl) ?_
    refine gf_RX4_29 CX hK hP 0 rfl rfl (dg ddX4_undo 10 rfl) ?_
    refine lv_aload_n hx hb (dg ddX4_undo 11 rfl) rfl (lv_at hl 0 rfl) ?_
    refine gf_RX4_10 CX hK hP 0 rfl rfl (dg ddX4_undo 12 rfl) ?_
    obtain ⟨r3, e2, hf⟩ := ob_some hf
    refine crf_vv CX hml (As := [.ref (q 1 0)]) (rest := []) (ws := (wX4 q cy x_isv x_te x_re x_de x_now x_spa x_sna x_len x_sig x_nxt x_cnt x_rng)) (wsn := (wX4 q cy x_isv x_te x_re x_de r3.2.2 x_spa x_sna x_len x_sig r3.1 r3.2.1 x_rng)) (c_X1_giveBack l D cy q (q 1) x_nxt x_cnt x_rng x_now _ e2) lk_RX4_327 rfl rfl hRMX1_giveBack hP hD hS hA hK hN (pm_hn _ _ _ _ _ _) ((pm_hn _ _ _ _ _ _).symm) 0 rfl rfl rfl hl.1 rfl (Nat.le_of_ble_eq_true rfl) ⟨Nat.le_of_ble_eq_true rfl, Nat.le_of_ble_eq_true rfl⟩ (dg ddX4_undo 13 rfl) (fun H locs hP hD hS => ?_)
    refine lv_aload_n hx hb (dg ddX4_undo 14 rfl) rfl (lv_at hl 0 rfl) ?_
    refine gf_RX4_29 CX hK hP 0 rfl rfl (dg ddX4_undo 15 rfl) ?_
    refine gf_RX4_304 CX hK hP 45 rfl rfl (dg ddX4_undo 16 rfl) ?_
    cases hf
    refine W.widen (k := 1) (n := 6) (Nat.le_of_ble_eq_true rfl) (Nat.le_of_ble_eq_true rfl) ?_
    exact x_wi CX hr hlk rfl hP hD hS (dg ddX4_undo 17 rfl)
  · have hf := it_f h1 hf
    cases hf
    exact xt_5_W (is := 325) (tx := "no change can be undone") (by decide +kernel) CX (hml.trans hl.1.symm) hst hX hout hlk rfl hP hD hS (Nat.le_of_ble_eq_true rfl) (Nat.le_of_ble_eq_true rfl) (Nat.le_of_ble_eq_true rfl) (Nat.le_of_ble_eq_true rfl) (Nat.le_of_ble_eq_true rfl) (Nat.le_of_ble_eq_true rfl) (dg ddX4_undo 4 rfl) (dg ddX4_undo 5 rfl) (dg ddX4_undo 6 rfl) (dg ddX4_undo 7 rfl) (dg ddX4_undo 8 rfl)
def f_X4_restore (x_isv : Int32) (x_now : SV) (x_sna : SV) (x_cnt : Int32) : Option ((Nat × SV × Int32) ⊕ (Int32 × SV × Int32)) := if x_isv = 0 then (some (.inl (5, x_now, x_cnt))) else (ob (f_X3_copyFrom (g_hour x_now) (g_crowd x_now) (g_buskers x_now) (g_answered x_now) (g_draws x_now) (g_lim x_now) (g_cmp x_now) (g_sof x_now) (g_kin x_now) (g_lou x_now) (g_pit x_now) (g_pla x_now) (g_cas x_now) (g_hrs x_now) (g_nws x_now) (g_hat x_now) (g_wea x_now) (g_hour x_sna) (g_crowd x_sna) (g_buskers x_sna) (g_answered x_sna) (g_draws x_sna) (g_lim x_sna) (g_cmp x_sna) (g_sof x_sna) (g_kin x_sna) (g_lou x_sna) (g_pit x_sna) (g_pla x_sna) (g_cas x_sna) (g_hrs x_sna) (g_nws x_sna) (g_hat x_sna) (g_wea x_sna)) fun r3 => (some (.inr ((g_buskers (sv_cp x_now r3)), (sv_cp x_now r3), 0))))
set_option maxHeartbeats 4000000 in
set_option maxRecDepth 100000 in
theorem c_X4_restore (l : Launch) (D : va_G) (cy : Nat → ClassId) (q : Nat → Nat → Nat) (x_isv : Int32) (x_te : Int32) (x_re : Int32) (x_de : Int32) (x_now : SV) (x_spa : SV) (x_sna : SV) (x_len : Int32) (x_sig : Nat → Int32) (x_nxt : Int32) (x_cnt : Int32) (x_rng : Nat → SV) (sz : Nat) (hst : l.stackTraces = false) {res : (Nat × SV × Int32) ⊕ (Int32 × SV × Int32)} (hf : f_X4_restore x_isv x_now x_sna x_cnt = some res) : vx_Met l yX4_restore (.code yX4_restore cX4_restore 1 (some .int) :: lw_all) { frames := 6, cells := 1, slots := 6, locals := 82 } (va_Pc [.ref (q 0 0)] (sX D cy (wX4 q cy x_isv x_te x_re x_de x_now x_spa x_sna x_len x_sig x_nxt x_cnt x_rng) sz)) (xI (α := Nat × SV × Int32) D (fun x : Int32 × SV × Int32 => (wX4 q cy x_isv x_te x_re x_de x.2.1 x_spa x_sna x_len x_sig x_nxt x.2.2 x_rng)) (fun x : Int32 × SV × Int32 => x.1) res (va_A (wX4 q cy x_isv x_te x_re x_de x_now x_spa x_sna x_len x_sig x_nxt x_cnt x_rng) sz)) (xX (β := Int32 × SV × Int32) D (fun x : Nat × SV × Int32 => (wX4 q cy x_isv x_te x_re x_de x.2.1 x_spa x_sna x_len x_sig x_nxt x.2.2 x_rng)) (fun x : Nat × SV × Int32 => x.1) res (va_A (wX4 q cy x_isv x_te x_re x_de x_now x_spa x_sna x_len x_sig x_nxt x_cnt x_rng) sz)) 1 6 (va_A (wX4 q cy x_isv x_te x_re x_de x_now x_spa x_sna x_len x_sig x_nxt x_cnt x_rng) sz) := by
  refine mk_x (Qc := fun A => (xI (α := Nat × SV × Int32) D (fun x : Int32 × SV × Int32 => (wX4 q cy x_isv x_te x_re x_de x.2.1 x_spa x_sna x_len x_sig x_nxt x.2.2 x_rng)) (fun x : Int32 × SV × Int32 => x.1) res A)) (XC := fun A => (xX (β := Int32 × SV × Int32) D (fun x : Nat × SV × Int32 => (wX4 q cy x_isv x_te x_re x_de x.2.1 x_spa x_sna x_len x_sig x_nxt x.2.2 x_rng)) (fun x : Nat × SV × Int32 => x.1) res A)) (Rc := RX4) (by decide +kernel) rfl (Nat.le_of_ble_eq_true rfl) ?_
  intro p e s m args below meth c ls A CX hml hr hlk hK hN hP hD hS hA hl hout hX
  have hx := CX.1
  have hb := CX.2.1
  have hRMX3_copyFrom : (⟨1, 0, 0, 40⟩ : Room).frames + 1 ≤ (⟨6, 1, 6, 82⟩ : Room).frames ∧ 8 + (2 + 11) + (⟨1, 0, 0, 40⟩ : Room).locals ≤ (⟨6, 1, 6, 82⟩ : Room).locals := ⟨Nat.le_of_ble_eq_true rfl, Nat.le_of_ble_eq_true rfl⟩
  refine lv_aload_n hx hb (dg ddX4_restore 0 rfl) rfl (lv_at hl 0 rfl) ?_
  refine gf_RX4_22 CX hK hP 0 rfl rfl (dg ddX4_restore 1 rfl) ?_
  refine lv_if_ne (tgt := 18) hx hb (dg ddX4_restore 2 rfl) (by decide) (fun h1 => ?_) (fun h1 => ?_)
  · have hf := it_f h1 hf
    refine lv_aload_n hx hb (dg ddX4_restore 8 rfl) rfl (lv_at hl 0 rfl) ?_
    refine gf_RX4_10 CX hK hP 0 rfl rfl (dg ddX4_restore 9 rfl) ?_
    refine lv_aload_n hx hb (dg ddX4_restore 10 rfl) rfl (lv_at hl 0 rfl) ?_
    refine gf_RX4_19 CX hK hP 0 rfl rfl (dg ddX4_restore 11 rfl) ?_
    obtain ⟨r3, e2, hf⟩ := ob_some hf
    refine crf_vv CX hml (As := [.ref (q 3 0)]) (rest := []) (ws := (wX4 q cy x_isv x_te x_re x_de x_now x_spa x_sna x_len x_sig x_nxt x_cnt x_rng)) (wsn := (wX4 q cy x_isv x_te x_re x_de (sv_cp x_now r3) x_spa x_sna x_len x_sig x_nxt x_cnt x_rng)) (c_X3_copyFrom l D cy (q 1) (q 3) (g_hour x_now) (g_crowd x_now) (g_buskers x_now) (g_answered x_now) (g_draws x_now) (g_lim x_now) (g_cmp x_now) (g_sof x_now) (g_kin x_now) (g_lou x_now) (g_pit x_now) (g_pla x_now) (g_cas x_now) (g_hrs x_now) (g_nws x_now) (g_hat x_now) (g_wea x_now) (g_row x_now) (g_hour x_sna) (g_crowd x_sna) (g_buskers x_sna) (g_answered x_sna) (g_draws x_sna) (g_lim x_sna) (g_cmp x_sna) (g_sof x_sna) (g_kin x_sna) (g_lou x_sna) (g_pit x_sna) (g_pla x_sna) (g_cas x_sna) (g_hrs x_sna) (g_nws x_sna) (g_hat x_sna) (g_wea x_sna) (g_row x_sna) _ e2) lk_RX4_242 rfl rfl hRMX3_copyFrom hP hD hS hA hK hN (pm_np _ _ _ _ _ _) ((pm_np _ _ _ _ _ _).symm) 0 rfl rfl rfl hl.1 rfl (Nat.le_of_ble_eq_true rfl) ⟨Nat.le_of_ble_eq_true rfl, Nat.le_of_ble_eq_true rfl⟩ (dg ddX4_restore 12 rfl) (fun H locs hP hD hS => ?_)
    refine lv_aload_n hx hb (dg ddX4_restore 13 rfl) rfl (lv_at hl 0 rfl) ?_
    refine gf_RX4_29 CX hK hP 0 rfl rfl (dg ddX4_restore 14 rfl) ?_
    refine lv_iconst (v := 0) hx hb (dg ddX4_restore 15 rfl) (by decide) ?_
    refine pf_RX4_304 CX hK hP hD hS 45 rfl (dg ddX4_restore 16 rfl) (Nat.le_of_ble_eq_true rfl) (fun H locs hP hD hS => ?_)
    have hP : va_P D vwCl (wX4 q cy x_isv x_te x_re x_de (sv_cp x_now r3) x_spa x_sna x_len x_sig x_nxt 0 x_rng) H := hP
    have hD : va_D A (wX4 q cy x_isv x_te x_re x_de (sv_cp x_now r3) x_spa x_sna x_len x_sig x_nxt 0 x_rng) := hD
    refine lv_aload_n hx hb (dg ddX4_restore 17 rfl) rfl (lv_at hl 0 rfl) ?_
    refine gf_RX4_10 CX hK hP 0 rfl rfl (dg ddX4_restore 18 rfl) ?_
    refine gf_RX4_279 CX hK hP 1 rfl rfl (dg ddX4_restore 19 rfl) ?_
    cases hf
    refine W.widen (k := 1) (n := 6) (Nat.le_of_ble_eq_true rfl) (Nat.le_of_ble_eq_true rfl) ?_
    exact x_wi CX hr hlk rfl hP hD hS (dg ddX4_restore 20 rfl)
  · have hf := it_t h1 hf
    cases hf
    exact xt_5_W (is := 330) (tx := "there is no snapshot") (by decide +kernel) CX (hml.trans hl.1.symm) hst hX hout hlk rfl hP hD hS (Nat.le_of_ble_eq_true rfl) (Nat.le_of_ble_eq_true rfl) (Nat.le_of_ble_eq_true rfl) (Nat.le_of_ble_eq_true rfl) (Nat.le_of_ble_eq_true rfl) (Nat.le_of_ble_eq_true rfl) (dg ddX4_restore 3 rfl) (dg ddX4_restore 4 rfl) (dg ddX4_restore 5 rfl) (dg ddX4_restore 6 rfl) (dg ddX4_restore 7 rfl)
