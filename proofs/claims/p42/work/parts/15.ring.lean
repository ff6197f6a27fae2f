/-! by program: History -/
def f_X1_keep (h_nxt : Int32) (h_cnt : Int32) (h_rng : Nat → SV) (h_sv : SV) : Option (Int32 × Int32 × (Nat → SV)) := og (inb h_nxt 8) (ob (f_X3_copyFrom (g_hour (h_rng h_nxt.toNatClampNeg)) (g_crowd (h_rng h_nxt.toNatClampNeg)) (g_buskers (h_rng h_nxt.toNatClampNeg)) (g_answered (h_rng h_nxt.toNatClampNeg)) (g_draws (h_rng h_nxt.toNatClampNeg)) (g_lim (h_rng h_nxt.toNatClampNeg)) (g_cmp (h_rng h_nxt.toNatClampNeg)) (g_sof (h_rng h_nxt.toNatClampNeg)) (g_kin (h_rng h_nxt.toNatClampNeg)) (g_lou (h_rng h_nxt.toNatClampNeg)) (g_pit (h_rng h_nxt.toNatClampNeg)) (g_pla (h_rng h_nxt.toNatClampNeg)) (g_cas (h_rng h_nxt.toNatClampNeg)) (g_hrs (h_rng h_nxt.toNatClampNeg)) (g_nws (h_rng h_nxt.toNatClampNeg)) (g_hat (h_rng h_nxt.toNatClampNeg)) (g_wea (h_rng h_nxt.toNatClampNeg)) (g_hour h_sv) (g_crowd h_sv) (g_buskers h_sv) (g_answered h_sv) (g_draws h_sv) (g_lim h_sv) (g_cmp h_sv) (g_sof h_sv) (g_kin h_sv) (g_lou h_sv) (g_pit h_sv) (g_pla h_sv) (g_cas h_sv) (g_hrs h_sv) (g_nws h_sv) (g_hat h_sv) (g_wea h_sv)) fun r3 => (og (nz 8) (if 8 ≤ h_cnt then (some (((h_nxt + 1) - (h_nxt + 1) / 8 * 8), 8, (vf_upd h_rng h_nxt.toNatClampNeg (sv_cp (h_rng h_nxt.toNatClampNeg) r3)))) else (some (((h_nxt + 1) - (h_nxt + 1) / 8 * 8), (h_cnt + 1), (vf_upd h_rng h_nxt.toNatClampNeg (sv_cp (h_rng h_nxt.toNatClampNeg) r3)))))))
set_option maxHeartbeats 4000000 in
set_option maxRecDepth 100000 in
theorem c_X1_keep (l : Launch) (D : va_G) (cy : Nat → ClassId) (q : Nat → Nat → Nat) (qs : Nat → Nat) (h_nxt : Int32) (h_cnt : Int32) (h_rng : Nat → SV) (h_sv : SV) (sz : Nat) {res : Int32 × Int32 × (Nat → SV)} (hf : f_X1_keep h_nxt h_cnt h_rng h_sv = some res) : Met l yX1_keep (.code yX1_keep cX1_keep 3 none :: lw_all) { frames := 2, cells := 0, slots := 0, locals := 61 } (va_Pc [.ref (q 4 0), .ref (qs 0)] (sW D cy (wX1 q cy h_nxt h_cnt h_rng ++ wSV qs cy h_sv) sz)) (qV D (wX1 q cy res.1 res.2.1 res.2.2 ++ wSV qs cy h_sv) (va_A (wX1 q cy h_nxt h_cnt h_rng ++ wSV qs cy h_sv) sz)) 0 0 (va_A (wX1 q cy h_nxt h_cnt h_rng ++ wSV qs cy h_sv) sz) := by
  refine mk_rw (Qc := qV D (wX1 q cy res.1 res.2.1 res.2.2 ++ wSV qs cy h_sv) ) (Rc := RX1) (by decide +kernel) rfl (Nat.le_of_ble_eq_true rfl) ?_
  intro p e s m args below meth c ls A CX hml hr hlk hK hN hP hD hS hA hl
  have hx := CX.1
  have hb := CX.2.1
  have hRMX3_copyFrom : (⟨1, 0, 0, 40⟩ : Room).frames + 1 ≤ (⟨2, 0, 0, 61⟩ : Room).frames ∧ 8 + (2 + 11) + (⟨1, 0, 0, 40⟩ : Room).locals ≤ (⟨2, 0, 0, 61⟩ : Room).locals := ⟨Nat.le_of_ble_eq_true rfl, Nat.le_of_ble_eq_true rfl⟩
  refine lv_aload_n hx hb (dg ddX1_keep 0 rfl) rfl (lv_at hl 0 rfl) ?_
  refine gf_RX1_11 CX hK hP 0 rfl rfl (dg ddX1_keep 1 rfl) ?_
  refine lv_aload_n hx hb (dg ddX1_keep 2 rfl) rfl (lv_at hl 0 rfl) ?_
  refine gf_RX1_17 CX hK hP 0 rfl rfl (dg ddX1_keep 3 rfl) ?_
  obtain ⟨h1, hf⟩ := og_some hf
  refine va_aldq hx hb hK hP 1 3 rfl rfl (inb_in h1) (dg ddX1_keep 4 rfl) ?_
  show W p l e _ s m args below meth c _ _ 0 0 _ (F0 m 9 ls (.ref (q (6 + h_nxt.toNatClampNeg) 0) :: _))
  refine lv_astore_n (lv' := [(2, .ref (q (6 + h_nxt.toNatClampNeg) 0)), (0, .ref (q 4 0)), (1, .ref (qs 0))]) hx hb (dg ddX1_keep 5 rfl) rfl hl (by decide) rfl (fun ls hl => ?_)
  refine lv_aload_n hx hb (dg ddX1_keep 6 rfl) rfl (lv_at hl 0 rfl) ?_
  refine lv_ifnull hx hb (dg ddX1_keep 7 rfl) ?_
  refine lv_aload_n hx hb (dg ddX1_keep 8 rfl) rfl (lv_at hl 0 rfl) ?_
  refine lv_aload_n hx hb (dg ddX1_keep 9 rfl) rfl (lv_at hl 2 rfl) ?_
  obtain ⟨r3, e2, hf⟩ := ob_some hf
  refine crf_vv CX hml (As := [.ref (qs 0)]) (rest := []) (ws := (wX1 q cy h_nxt h_cnt h_rng ++ wSV qs cy h_sv)) (wsn := (wX1 q cy h_nxt h_cnt (vf_upd h_rng h_nxt.toNatClampNeg (sv_cp (h_rng h_nxt.toNatClampNeg) r3)) ++ wSV qs cy h_sv)) (c_X3_copyFrom l D cy (q (6 + h_nxt.toNatClampNeg)) qs (g_hour (h_rng h_nxt.toNatClampNeg)) (g_crowd (h_rng h_nxt.toNatClampNeg)) (g_buskers (h_rng h_nxt.toNatClampNeg)) (g_answered (h_rng h_nxt.toNatClampNeg)) (g_draws (h_rng h_nxt.toNatClampNeg)) (g_lim (h_rng h_nxt.toNatClampNeg)) (g_cmp (h_rng h_nxt.toNatClampNeg)) (g_sof (h_rng h_nxt.toNatClampNeg)) (g_kin (h_rng h_nxt.toNatClampNeg)) (g_lou (h_rng h_nxt.toNatClampNeg)) (g_pit (h_rng h_nxt.toNatClampNeg)) (g_pla (h_rng h_nxt.toNatClampNeg)) (g_cas (h_rng h_nxt.toNatClampNeg)) (g_hrs (h_rng h_nxt.toNatClampNeg)) (g_nws (h_rng h_nxt.toNatClampNeg)) (g_hat (h_rng h_nxt.toNatClampNeg)) (g_wea (h_rng h_nxt.toNatClampNeg)) (g_row (h_rng h_nxt.toNatClampNeg)) (g_hour h_sv) (g_crowd h_sv) (g_buskers h_sv) (g_answered h_sv) (g_draws h_sv) (g_lim h_sv) (g_cmp h_sv) (g_sof h_sv) (g_kin h_sv) (g_lou h_sv) (g_pit h_sv) (g_pla h_sv) (g_cas h_sv) (g_hrs h_sv) (g_nws h_sv) (g_hat h_sv) (g_wea h_sv) (g_row h_sv) _ e2) lk_RX1_25 rfl rfl hRMX3_copyFrom hP hD hS hA hK hN (pk_1 (inb_lt h1)) (pk_2 (v := (sv_cp (h_rng h_nxt.toNatClampNeg) r3)) (inb_lt h1)) 0 rfl rfl rfl hl.1 rfl (Nat.le_of_ble_eq_true rfl) ⟨Nat.le_of_ble_eq_true rfl, Nat.le_of_ble_eq_true rfl⟩ (dg ddX1_keep 10 rfl) (fun H locs hP hD hS => ?_)
  refine lv_aload_n hx hb (dg ddX1_keep 11 rfl) rfl (lv_at hl 1 rfl) ?_
  refine lv_aload_n hx hb (dg ddX1_keep 12 rfl) rfl (lv_at hl 1 rfl) ?_
  refine gf_RX1_17 CX hK hP 0 rfl rfl (dg ddX1_keep 13 rfl) ?_
  refine lv_iconst (v := 1) hx hb (dg ddX1_keep 14 rfl) (by decide) ?_
  refine lv_iadd hx hb (dg ddX1_keep 15 rfl) ?_
  refine lv_bipush (v := 8) hx hb (dg ddX1_keep 16 rfl) (by decide) ?_
  obtain ⟨h4, hf⟩ := og_some hf
  refine lv_irem hx hb (dg ddX1_keep 17 rfl) (nz_in h4) ?_
  refine pf_RX1_17 CX hK hP hD hS 0 rfl (dg ddX1_keep 18 rfl) (Nat.le_of_ble_eq_true rfl) (fun H locs hP hD hS => ?_)
  have hP : va_P D vwCl (wX1 q cy ((h_nxt + 1) - (h_nxt + 1) / 8 * 8) h_cnt (vf_upd h_rng h_nxt.toNatClampNeg (sv_cp (h_rng h_nxt.toNatClampNeg) r3)) ++ wSV qs cy h_sv) H := hP
  have hD : va_D A (wX1 q cy ((h_nxt + 1) - (h_nxt + 1) / 8 * 8) h_cnt (vf_upd h_rng h_nxt.toNatClampNeg (sv_cp (h_rng h_nxt.toNatClampNeg) r3)) ++ wSV qs cy h_sv) := hD
  refine lv_aload_n hx hb (dg ddX1_keep 19 rfl) rfl (lv_at hl 1 rfl) ?_
  refine lv_aload_n hx hb (dg ddX1_keep 20 rfl) rfl (lv_at hl 1 rfl) ?_
  refine gf_RX1_21 CX hK hP 0 rfl rfl (dg ddX1_keep 21 rfl) ?_
  refine lv_bipush (v := 8) hx hb (dg ddX1_keep 22 rfl) (by decide) ?_
  refine lv_icmp_ge (tgt := 51) hx hb (dg ddX1_keep 23 rfl) (by decide) (fun h5 => ?_) (fun h5 => ?_)
  · have hf := it_t h5 hf
    refine lv_bipush (v := 8) hx hb (dg ddX1_keep 29 rfl) (by decide) ?_
    refine pf_RX1_21 CX hK hP hD hS 0 rfl (dg ddX1_keep 30 rfl) (Nat.le_of_ble_eq_true rfl) (fun H locs hP hD hS => ?_)
    have hP : va_P D vwCl (wX1 q cy ((h_nxt + 1) - (h_nxt + 1) / 8 * 8) 8 (vf_upd h_rng h_nxt.toNatClampNeg (sv_cp (h_rng h_nxt.toNatClampNeg) r3)) ++ wSV qs cy h_sv) H := hP
    have hD : va_D A (wX1 q cy ((h_nxt + 1) - (h_nxt + 1) / 8 * 8) 8 (vf_upd h_rng h_nxt.toNatClampNeg (sv_cp (h_rng h_nxt.toNatClampNeg) r3)) ++ wSV qs cy h_sv) := hD
    cases hf
    exact e_wv CX hr hlk hP hD hS (dg ddX1_keep 31 rfl)
  · have hf := it_f h5 hf
    refine lv_aload_n hx hb (dg ddX1_keep 24 rfl) rfl (lv_at hl 1 rfl) ?_
    refine gf_RX1_21 CX hK hP 0 rfl rfl (dg ddX1_keep 25 rfl) ?_
    refine lv_iconst (v := 1) hx hb (dg ddX1_keep 26 rfl) (by decide) ?_
    refine lv_iadd hx hb (dg ddX1_keep 27 rfl) ?_
    refine lv_goto (tgt := 53) hx hb (dg ddX1_keep 28 rfl) (by decide) ?_
    refine pf_RX1_21 CX hK hP hD hS 0 rfl (dg ddX1_keep 30 rfl) (Nat.le_of_ble_eq_true rfl) (fun H locs hP hD hS => ?_)
    have hP : va_P D vwCl (wX1 q cy ((h_nxt + 1) - (h_nxt + 1) / 8 * 8) (h_cnt + 1) (vf_upd h_rng h_nxt.toNatClampNeg (sv_cp (h_rng h_nxt.toNatClampNeg) r3)) ++ wSV qs cy h_sv) H := hP
    have hD : va_D A (wX1 q cy ((h_nxt + 1) - (h_nxt + 1) / 8 * 8) (h_cnt + 1) (vf_upd h_rng h_nxt.toNatClampNeg (sv_cp (h_rng h_nxt.toNatClampNeg) r3)) ++ wSV qs cy h_sv) := hD
    cases hf
    exact e_wv CX hr hlk hP hD hS (dg ddX1_keep 31 rfl)
def f_X1_giveBack (h_nxt : Int32) (h_cnt : Int32) (h_rng : Nat → SV) (h_sv : SV) : Option (Int32 × Int32 × SV) := og (nz 8) (og (inb (((h_nxt + 8) - 1) - ((h_nxt + 8) - 1) / 8 * 8) 8) (ob (f_X3_copyFrom (g_hour h_sv) (g_crowd h_sv) (g_buskers h_sv) (g_answered h_sv) (g_draws h_sv) (g_lim h_sv) (g_cmp h_sv) (g_sof h_sv) (g_kin h_sv) (g_lou h_sv) (g_pit h_sv) (g_pla h_sv) (g_cas h_sv) (g_hrs h_sv) (g_nws h_sv) (g_hat h_sv) (g_wea h_sv) (g_hour (h_rng ((((h_nxt + 8) - 1) - ((h_nxt + 8) - 1) / 8 * 8).toNatClampNeg))) (g_crowd (h_rng ((((h_nxt + 8) - 1) - ((h_nxt + 8) - 1) / 8 * 8).toNatClampNeg))) (g_buskers (h_rng ((((h_nxt + 8) - 1) - ((h_nxt + 8) - 1) / 8 * 8).toNatClampNeg))) (g_answered (h_rng ((((h_nxt + 8) - 1) - ((h_nxt + 8) - 1) / 8 * 8).toNatClampNeg))) (g_draws (h_rng ((((h_nxt + 8) - 1) - ((h_nxt + 8) - 1) / 8 * 8).toNatClampNeg))) (g_lim (h_rng ((((h_nxt + 8) - 1) - ((h_nxt + 8) - 1) / 8 * 8).toNatClampNeg))) (g_cmp (h_rng ((((h_nxt + 8) - 1) - ((h_nxt + 8) - 1) / 8 * 8).toNatClampNeg))) (g_sof (h_rng ((((h_nxt + 8) - 1) - ((h_nxt + 8) - 1) / 8 * 8).toNatClampNeg))) (g_kin (h_rng ((((h_nxt + 8) - 1) - ((h_nxt + 8) - 1) / 8 * 8).toNatClampNeg))) (g_lou (h_rng ((((h_nxt + 8) - 1) - ((h_nxt + 8) - 1) / 8 * 8).toNatClampNeg))) (g_pit (h_rng ((((h_nxt + 8) - 1) - ((h_nxt + 8) - 1) / 8 * 8).toNatClampNeg))) (g_pla (h_rng ((((h_nxt + 8) - 1) - ((h_nxt + 8) - 1) / 8 * 8).toNatClampNeg))) (g_cas (h_rng ((((h_nxt + 8) - 1) - ((h_nxt + 8) - 1) / 8 * 8).toNatClampNeg))) (g_hrs (h_rng ((((h_nxt + 8) - 1) - ((h_nxt + 8) - 1) / 8 * 8).toNatClampNeg))) (g_nws (h_rng ((((h_nxt + 8) - 1) - ((h_nxt + 8) - 1) / 8 * 8).toNatClampNeg))) (g_hat (h_rng ((((h_nxt + 8) - 1) - ((h_nxt + 8) - 1) / 8 * 8).toNatClampNeg))) (g_wea (h_rng ((((h_nxt + 8) - 1) - ((h_nxt + 8) - 1) / 8 * 8).toNatClampNeg)))) fun r4 => (some ((((h_nxt + 8) - 1) - ((h_nxt + 8) - 1) / 8 * 8), (h_cnt - 1), (sv_cp h_sv r4)))))
set_option maxHeartbeats 4000000 in
set_option maxRecDepth 100000 in
theorem c_X1_giveBack (l : Launch) (D : va_G) (cy : Nat → ClassId) (q : Nat → Nat → Nat) (qs : Nat → Nat) (h_nxt : Int32) (h_cnt : Int32) (h_rng : Nat → SV) (h_sv : SV) (sz : Nat) {res : Int32 × Int32 × SV} (hf : f_X1_giveBack h_nxt h_cnt h_rng h_sv = some res) : Met l yX1_giveBack (.code yX1_giveBack cX1_giveBack 3 none :: lw_all) { frames := 2, cells := 0, slots := 0, locals := 61 } (va_Pc [.ref (q 4 0), .ref (qs 0)] (sW D cy (wX1 q cy h_nxt h_cnt h_rng ++ wSV qs cy h_sv) sz)) (qV D (wX1 q cy res.1 res.2.1 h_rng ++ wSV qs cy res.2.2) (va_A (wX1 q cy h_nxt h_cnt h_rng ++ wSV qs cy h_sv) sz)) 0 0 (va_A (wX1 q cy h_nxt h_cnt h_rng ++ wSV qs cy h_sv) sz) := by
  refine mk_rw (Qc := qV D (wX1 q cy res.1 res.2.1 h_rng ++ wSV qs cy res.2.2) ) (Rc := RX1) (by decide +kernel) rfl (Nat.le_of_ble_eq_true rfl) ?_
  intro p e s m args below meth c ls A CX hml hr hlk hK hN hP hD hS hA hl
  have hx := CX.1
  have hb := CX.2.1
  have hRMX3_copyFrom : (⟨1, 0, 0, 40⟩ : Room).frames + 1 ≤ (⟨2, 0, 0, 61⟩ : Room).frames ∧ 8 + (2 + 11) + (⟨1, 0, 0, 40⟩ : Room).locals ≤ (⟨2, 0, 0, 61⟩ : Room).locals := ⟨Nat.le_of_ble_eq_true rfl, Nat.le_of_ble_eq_true rfl⟩
  refine lv_aload_n hx hb (dg ddX1_giveBack 0 rfl) rfl (lv_at hl 0 rfl) ?_
  refine lv_aload_n hx hb (dg ddX1_giveBack 1 rfl) rfl (lv_at hl 0 rfl) ?_
  refine gf_RX1_17 CX hK hP 0 rfl rfl (dg ddX1_giveBack 2 rfl) ?_
  refine lv_bipush (v := 8) hx hb (dg ddX1_giveBack 3 rfl) (by decide) ?_
  refine lv_iadd hx hb (dg ddX1_giveBack 4 rfl) ?_
  refine lv_iconst (v := 1) hx hb (dg ddX1_giveBack 5 rfl) (by decide) ?_
  refine lv_isub hx hb (dg ddX1_giveBack 6 rfl) ?_
  refine lv_bipush (v := 8) hx hb (dg ddX1_giveBack 7 rfl) (by decide) ?_
  obtain ⟨h1, hf⟩ := og_some hf
  refine lv_irem hx hb (dg ddX1_giveBack 8 rfl) (nz_in h1) ?_
  refine pf_RX1_17 CX hK hP hD hS 0 rfl (dg ddX1_giveBack 9 rfl) (Nat.le_of_ble_eq_true rfl) (fun H locs hP hD hS => ?_)
  have hP : va_P D vwCl (wX1 q cy (((h_nxt + 8) - 1) - ((h_nxt + 8) - 1) / 8 * 8) h_cnt h_rng ++ wSV qs cy h_sv) H := hP
  have hD : va_D A (wX1 q cy (((h_nxt + 8) - 1) - ((h_nxt + 8) - 1) / 8 * 8) h_cnt h_rng ++ wSV qs cy h_sv) := hD
  refine lv_aload_n hx hb (dg ddX1_giveBack 10 rfl) rfl (lv_at hl 0 rfl) ?_
  refine gf_RX1_11 CX hK hP 0 rfl rfl (dg ddX1_giveBack 11 rfl) ?_
  refine lv_aload_n hx hb (dg ddX1_giveBack 12 rfl) rfl (lv_at hl 0 rfl) ?_
  refine gf_RX1_17 CX hK hP 0 rfl rfl (dg ddX1_giveBack 13 rfl) ?_
  obtain ⟨h2, hf⟩ := og_some hf
  refine va_aldq hx hb hK hP 1 3 rfl rfl (inb_in h2) (dg ddX1_giveBack 14 rfl) ?_
  show W p l e _ s m args below meth c _ _ 0 0 _ (F0 m 25 ls (.ref (q (6 + (((h_nxt + 8) - 1) - ((h_nxt + 8) - 1) / 8 * 8).toNatClampNeg) 0) :: _))
  refine lv_astore_n (lv' := [(2, .ref (q (6 + (((h_nxt + 8) - 1) - ((h_nxt + 8) - 1) / 8 * 8).toNatClampNeg) 0)), (0, .ref (q 4 0)), (1, .ref (qs 0))]) hx hb (dg ddX1_giveBack 15 rfl) rfl hl (by decide) rfl (fun ls hl => ?_)
  refine lv_aload_n hx hb (dg ddX1_giveBack 16 rfl) rfl (lv_at hl 0 rfl) ?_
  refine lv_ifnull hx hb (dg ddX1_giveBack 17 rfl) ?_
  refine lv_aload_n hx hb (dg ddX1_giveBack 18 rfl) rfl (lv_at hl 2 rfl) ?_
  refine lv_aload_n hx hb (dg ddX1_giveBack 19 rfl) rfl (lv_at hl 0 rfl) ?_
  obtain ⟨r4, e3, hf⟩ := ob_some hf
  refine crf_vv CX hml (As := [.ref (q (6 + (((h_nxt + 8) - 1) - ((h_nxt + 8) - 1) / 8 * 8).toNatClampNeg) 0)]) (rest := []) (ws := (wX1 q cy (((h_nxt + 8) - 1) - ((h_nxt + 8) - 1) / 8 * 8) h_cnt h_rng ++ wSV qs cy h_sv)) (wsn := (wX1 q cy (((h_nxt + 8) - 1) - ((h_nxt + 8) - 1) / 8 * 8) h_cnt h_rng ++ wSV qs cy (sv_cp h_sv r4))) (c_X3_copyFrom l D cy qs (q (6 + (((h_nxt + 8) - 1) - ((h_nxt + 8) - 1) / 8 * 8).toNatClampNeg)) (g_hour h_sv) (g_crowd h_sv) (g_buskers h_sv) (g_answered h_sv) (g_draws h_sv) (g_lim h_sv) (g_cmp h_sv) (g_sof h_sv) (g_kin h_sv) (g_lou h_sv) (g_pit h_sv) (g_pla h_sv) (g_cas h_sv) (g_hrs h_sv) (g_nws h_sv) (g_hat h_sv) (g_wea h_sv) (g_row h_sv) (g_hour (h_rng ((((h_nxt + 8) - 1) - ((h_nxt + 8) - 1) / 8 * 8).toNatClampNeg))) (g_crowd (h_rng ((((h_nxt + 8) - 1) - ((h_nxt + 8) - 1) / 8 * 8).toNatClampNeg))) (g_buskers (h_rng ((((h_nxt + 8) - 1) - ((h_nxt + 8) - 1) / 8 * 8).toNatClampNeg))) (g_answered (h_rng ((((h_nxt + 8) - 1) - ((h_nxt + 8) - 1) / 8 * 8).toNatClampNeg))) (g_draws (h_rng ((((h_nxt + 8) - 1) - ((h_nxt + 8) - 1) / 8 * 8).toNatClampNeg))) (g_lim (h_rng ((((h_nxt + 8) - 1) - ((h_nxt + 8) - 1) / 8 * 8).toNatClampNeg))) (g_cmp (h_rng ((((h_nxt + 8) - 1) - ((h_nxt + 8) - 1) / 8 * 8).toNatClampNeg))) (g_sof (h_rng ((((h_nxt + 8) - 1) - ((h_nxt + 8) - 1) / 8 * 8).toNatClampNeg))) (g_kin (h_rng ((((h_nxt + 8) - 1) - ((h_nxt + 8) - 1) / 8 * 8).toNatClampNeg))) (g_lou (h_rng ((((h_nxt + 8) - 1) - ((h_nxt + 8) - 1) / 8 * 8).toNatClampNeg))) (g_pit (h_rng ((((h_nxt + 8) - 1) - ((h_nxt + 8) - 1) / 8 * 8).toNatClampNeg))) (g_pla (h_rng ((((h_nxt + 8) - 1) - ((h_nxt + 8) - 1) / 8 * 8).toNatClampNeg))) (g_cas (h_rng ((((h_nxt + 8) - 1) - ((h_nxt + 8) - 1) / 8 * 8).toNatClampNeg))) (g_hrs (h_rng ((((h_nxt + 8) - 1) - ((h_nxt + 8) - 1) / 8 * 8).toNatClampNeg))) (g_nws (h_rng ((((h_nxt + 8) - 1) - ((h_nxt + 8) - 1) / 8 * 8).toNatClampNeg))) (g_hat (h_rng ((((h_nxt + 8) - 1) - ((h_nxt + 8) - 1) / 8 * 8).toNatClampNeg))) (g_wea (h_rng ((((h_nxt + 8) - 1) - ((h_nxt + 8) - 1) / 8 * 8).toNatClampNeg))) (g_row (h_rng ((((h_nxt + 8) - 1) - ((h_nxt + 8) - 1) / 8 * 8).toNatClampNeg))) _ e3) lk_RX1_25 rfl rfl hRMX3_copyFrom hP hD hS hA hK hN (pk_3 (inb_lt h2)) (pk_3 (σ := (sv_cp h_sv r4)) (inb_lt h2)).symm 0 rfl rfl rfl hl.1 rfl (Nat.le_of_ble_eq_true rfl) ⟨Nat.le_of_ble_eq_true rfl, Nat.le_of_ble_eq_true rfl⟩ (dg ddX1_giveBack 20 rfl) (fun H locs hP hD hS => ?_)
  refine lv_aload_n hx hb (dg ddX1_giveBack 21 rfl) rfl (lv_at hl 1 rfl) ?_
  refine lv_dup hx hb (dg ddX1_giveBack 22 rfl) rfl ?_
  refine gf_RX1_21 CX hK hP 0 rfl rfl (dg ddX1_giveBack 23 rfl) ?_
  refine lv_iconst (v := 1) hx hb (dg ddX1_giveBack 24 rfl) (by decide) ?_
  refine lv_isub hx hb (dg ddX1_giveBack 25 rfl) ?_
  refine pf_RX1_21 CX hK hP hD hS 0 rfl (dg ddX1_giveBack 26 rfl) (Nat.le_of_ble_eq_true rfl) (fun H locs hP hD hS => ?_)
  have hP : va_P D vwCl (wX1 q cy (((h_nxt + 8) - 1) - ((h_nxt + 8) - 1) / 8 * 8) (h_cnt - 1) h_rng ++ wSV qs cy (sv_cp h_sv r4)) H := hP
  have hD : va_D A (wX1 q cy (((h_nxt + 8) - 1) - ((h_nxt + 8) - 1) / 8 * 8) (h_cnt - 1) h_rng ++ wSV qs cy (sv_cp h_sv r4)) := hD
  cases hf
  exact e_wv CX hr hlk hP hD hS (dg ddX1_giveBack 27 rfl)
