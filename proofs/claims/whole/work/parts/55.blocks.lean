/-! the law: one theorem a case (by program) -/
section BLOCKS
variable {p : Program} {l : Launch} {e : Env} {s : State} {m : MethodId} {args : Array Value} {below : List Frame} {meth : Method} {c : Code} {H : Heap} {locs : List Loc} {cells slots : Nat} {Q : State → Prop}
variable {ls : Array Slot} {D : va_G} {A : Nat → Prop} {cy : Nat → ClassId} {q : Nat → Nat → Nat} {qm : Nat → Nat} {ro rd sb L : Nat} {xs : Nat → Int32} {i5 : Int32} {out : Nat → Int64} {outD : Nat → UInt64}
variable {isv : Int32} {te : Int32} {re : Int32} {de : Int32} {now : SV} {spa : SV} {sna : SV} {len : Int32} {sig : (Nat → Int32)} {nxt : Int32} {cnt : Int32} {rng : (Nat → SV)}
variable {thr : Int32} {kept : Int32} {rea : Int32} {det : Int32} {misv : Int32} {iit : Int32} {mlen : Int32} {at_ : Int32} {merr : Int32} {wro : Int32} {cmd : Int32} {to1 : Int32} {to2 : Int32} {mnow : (Nat → Int32)} {msav : (Nat → Int32)} {ahe : (Nat → Int32)} {bef : (Nat → Int32)} {hst : (Nat → Nat → Int32)} {noi : (Nat → UInt32)} {own : (Nat → UInt32)} {inp : (Nat → Int32)}
set_option maxHeartbeats 4000000 in
set_option maxRecDepth 100000 in
theorem b_crowd (CX : Cx p s m c args cL_law RL) (hml : c.maxLocals = 9) (hK : va_K D vwCl (tyA cy) s) (hN : nst s) (hA : ∀ q, s.heap.size ≤ q → A q) (hX : exF A s s.heap) (hC : ncF s) (hst0 : l.stackTraces = false) (hXs : va_X sb L xs s s.heap) (hbl : sb < s.heap.size) (hbA : ¬ A sb) (hi1 : vp_in (i5 + 1) L) (hi2 : vp_in (i5 + 2) L) (G : GG isv te re de now sna len sig nxt cnt rng kept rea det misv iit mlen merr mnow msav hst inp) (hl : lv_has ls 9 [(0, .ref sb), (1, .ref (q 0 0)), (2, .ref (qm 0)), (3, .ref ro), (4, .ref rd), (5, .int i5)]) (hP : va_P D vwCl (WL cy q qm ro rd out outD isv te re de now spa sna len sig nxt cnt rng thr kept rea det misv iit mlen at_ merr wro cmd to1 to2 mnow msav ahe bef hst noi own inp) H) (hD : va_D A (WL cy q qm ro rd out outD isv te re de now spa sna len sig nxt cnt rng thr kept rea det misv iit mlen at_ merr wro cmd to1 to2 mnow msav ahe bef hst noi own inp)) (hS : va_S A s.heap H locs) (hcs : cells + 2 ≤ 3000 ∧ slots + 12 ≤ 12000) (kk : Go p l e s m args below meth c Q D A cy q qm ro rd sb i5 cells slots) : W p l e room_1 s m args below meth c H locs cells slots Q (F0 m 216 ls []) := by
  have hx := CX.1
  have hb := CX.2.1
  obtain ⟨k, now', nxt', cnt', rng', out', b, kept', mnow', hst', e1, e2, e3, G⟩ := S_crowd G out thr (xs (i5 + 1).toNatClampNeg)
  refine lv_aload_n hx hb (dg ddL_law0 28 rfl) rfl (lv_at hl 1 rfl) ?_
  refine lv_aload_n hx hb (dg ddL_law0 29 rfl) rfl (lv_at hl 0 rfl) ?_
  refine lv_iload hx hb (dg ddL_law0 30 rfl) (lv_at hl 5 rfl) ?_
  refine lv_iconst (v := 1) hx hb (dg ddL_law0 31 rfl) (by decide) ?_
  refine lv_iadd hx hb (dg ddL_law1 0 rfl) ?_
  refine va_sld hx hb hXs hbl hbA hS hi1 (dg ddL_law1 1 rfl) ?_
  refine lv_aload_n hx hb (dg ddL_law1 2 rfl) rfl (lv_at hl 3 rfl) ?_
  refine crl_i CX hml (As := [.ref (q 0 0), .int (xs (i5 + 1).toNatClampNeg), .ref ro]) (rest := []) (c_L_crowd l D cy q isv te re de now spa sna len sig nxt cnt rng ro out (xs (i5 + 1).toNatClampNeg) _ hst0 e1) lk_RL_138 rfl rfl ⟨(Nat.le_of_ble_eq_true rfl), (Nat.le_of_ble_eq_true rfl)⟩ hP hD hS hA hK hN hX hC pL1 pL1.symm rfl hl.1 rfl (Nat.le_of_ble_eq_true rfl) ⟨rmC (show cells + 1 ≤ 3000 by omega), rmS (show slots + 6 ≤ 12000 by omega)⟩ (dg ddL_law1 3 rfl) (fun H locs hP hD hS => ?_)
  have hP : va_P D vwCl (WL cy q qm ro rd out' outD isv te re de now' spa sna len sig nxt' cnt' rng' thr kept rea det misv iit mlen at_ merr wro cmd to1 to2 mnow msav ahe bef hst noi own inp) H := hP
  have hD : va_D A (WL cy q qm ro rd out' outD isv te re de now' spa sna len sig nxt' cnt' rng' thr kept rea det misv iit mlen at_ merr wro cmd to1 to2 mnow msav ahe bef hst noi own inp) := hD
  refine lv_istore (lv' := [(6, .int k), (0, .ref sb), (1, .ref (q 0 0)), (2, .ref (qm 0)), (3, .ref ro), (4, .ref rd), (5, .int i5)]) hx hb (dg ddL_law1 4 rfl) hl (by decide) rfl (fun ls hl => ?_)
  refine lv_aload_n hx hb (dg ddL_law1 5 rfl) rfl (lv_at hl 3 rfl) ?_
  refine lv_aload_n hx hb (dg ddL_law1 6 rfl) rfl (lv_at hl 1 rfl) ?_
  refine lv_iload hx hb (dg ddL_law1 7 rfl) (lv_at hl 6 rfl) ?_
  refine lv_iconst (v := 1) hx hb (dg ddL_law1 8 rfl) (by decide) ?_
  refine lv_iadd hx hb (dg ddL_law1 9 rfl) ?_
  refine va_sld hx hb hXs hbl hbA hS hi1 (dg ddL_law1 10 rfl) ?_
  refine crf_vi CX hml (As := [.int (xs (i5 + 1).toNatClampNeg)]) (rest := []) (c_X5_crowd l D cy qm thr kept rea det misv iit mlen at_ merr wro cmd to1 to2 mnow msav ahe bef hst noi own inp (xs (i5 + 1).toNatClampNeg) _ e2) lk_RL_143 rfl rfl ⟨(Nat.le_of_ble_eq_true rfl), (Nat.le_of_ble_eq_true rfl)⟩ hP hD hS hA hK hN pL3 pL3.symm 0 rfl rfl rfl hl.1 rfl (Nat.le_of_ble_eq_true rfl) ⟨rmC (show cells + 1 ≤ 3000 by omega), rmS (show slots + 6 ≤ 12000 by omega)⟩ (dg ddL_law1 11 rfl) (fun H locs hP hD hS => ?_)
  have hP : va_P D vwCl (WL cy q qm ro rd out' outD isv te re de now' spa sna len sig nxt' cnt' rng' k kept' rea det misv iit mlen at_ merr wro cmd to1 to2 mnow' msav ahe bef hst' noi own inp) H := hP
  have hD : va_D A (WL cy q qm ro rd out' outD isv te re de now' spa sna len sig nxt' cnt' rng' k kept' rea det misv iit mlen at_ merr wro cmd to1 to2 mnow' msav ahe bef hst' noi own inp) := hD
  refine lv_istore (lv' := [(7, .int b), (6, .int k), (0, .ref sb), (1, .ref (q 0 0)), (2, .ref (qm 0)), (3, .ref ro), (4, .ref rd), (5, .int i5)]) hx hb (dg ddL_law1 12 rfl) hl (by decide) rfl (fun ls hl => ?_)
  refine lv_aload_n hx hb (dg ddL_law1 13 rfl) rfl (lv_at hl 4 rfl) ?_
  refine cro_vi CX hml (As := []) (rest := []) (c_X5_thrown l D cy qm k kept' rea det misv iit mlen at_ merr wro cmd to1 to2 mnow' msav ahe bef hst' noi own inp rfl) lk_RL_144 rfl rfl ⟨(Nat.le_of_ble_eq_true rfl), (Nat.le_of_ble_eq_true rfl)⟩ (vaP_l (vaP_perm pL3 hP)) hK hN 0 rfl rfl rfl hl.1 rfl (Nat.le_of_ble_eq_true rfl) ⟨rmC (show cells + 1 ≤ 3000 by omega), rmS (show slots + 6 ≤ 12000 by omega)⟩ (dg ddL_law1 14 rfl) ?_
  refine lv_iload hx hb (dg ddL_law1 15 rfl) (lv_at hl 1 rfl) ?_
  refine lv_icmp_eq (tgt := 252) hx hb (dg ddL_law1 16 rfl) (by decide) (fun _ => ?_) (fun h => absurd rfl h)
  refine lv_iload hx hb (dg ddL_law1 19 rfl) (lv_at hl 1 rfl) ?_
  refine lv_if_ne (tgt := 269) hx hb (dg ddL_law1 20 rfl) (by decide) (fun hk => ?_) (fun hk => ?_)
  ·
    refine lv_goto (tgt := 2361) hx hb (dg ddL_law1 30 rfl) (by decide) ?_
    refine W.widen (k := cells + 2) (n := slots + 12) (by omega) (by omega) ?_
    exact kk out' outD isv te re de now' spa sna len sig nxt' cnt' rng' k kept' rea det misv iit mlen at_ merr wro cmd to1 to2 mnow' msav ahe bef hst' noi own inp H locs ls G (lv_sub hl [2, 3, 4, 5, 6, 7] rfl) hP hD hS
  ·
    refine lv_aload_n hx hb (dg ddL_law1 21 rfl) rfl (lv_at hl 5 rfl) ?_
    refine lv_iconst (v := 0) hx hb (dg ddL_law1 22 rfl) (by decide) ?_
    refine va_lald hx hb hK hP 0 5 rfl rfl (i := 0) (inb_in (show inb 0 1 = true by decide)) (dg ddL_law1 23 rfl) ?_
    rw [show out' (0 : Int32).toNatClampNeg = b.toInt64 from e3 hk]
    refine lv_iload hx hb (dg ddL_law1 24 rfl) (lv_at hl 0 rfl) ?_
    refine lv_i2l (v := b.toInt64) hx hb (dg ddL_law1 25 rfl) rfl ?_
    refine W.lcmp hx hb (dg ddL_law1 26 rfl) ?_
    refine lv_if_eq (tgt := 269) hx hb (dg ddL_law1 27 rfl) (by decide) (fun _ => ?_) (fun h => absurd (lgc0 _) h)
    refine lv_goto (tgt := 2361) hx hb (dg ddL_law1 30 rfl) (by decide) ?_
    refine W.widen (k := cells + 2) (n := slots + 12) (by omega) (by omega) ?_
    exact kk out' outD isv te re de now' spa sna len sig nxt' cnt' rng' k kept' rea det misv iit mlen at_ merr wro cmd to1 to2 mnow' msav ahe bef hst' noi own inp H locs ls G (lv_sub hl [2, 3, 4, 5, 6, 7] rfl) hP hD hS
set_option maxHeartbeats 4000000 in
set_option maxRecDepth 100000 in
theorem b_limit (CX : Cx p s m c args cL_law RL) (hml : c.maxLocals = 9) (hK : va_K D vwCl (tyA cy) s) (hN : nst s) (hA : ∀ q, s.heap.size ≤ q → A q) (hX : exF A s s.heap) (hC : ncF s) (hst0 : l.stackTraces = false) (hXs : va_X sb L xs s s.heap) (hbl : sb < s.heap.size) (hbA : ¬ A sb) (hi1 : vp_in (i5 + 1) L) (hi2 : vp_in (i5 + 2) L) (G : GG isv te re de now sna len sig nxt cnt rng kept rea det misv iit mlen merr mnow msav hst inp) (hl : lv_has ls 9 [(0, .ref sb), (1, .ref (q 0 0)), (2, .ref (qm 0)), (3, .ref ro), (4, .ref rd), (5, .int i5)]) (hP : va_P D vwCl (WL cy q qm ro rd out outD isv te re de now spa sna len sig nxt cnt rng thr kept rea det misv iit mlen at_ merr wro cmd to1 to2 mnow msav ahe bef hst noi own inp) H) (hD : va_D A (WL cy q qm ro rd out outD isv te re de now spa sna len sig nxt cnt rng thr kept rea det misv iit mlen at_ merr wro cmd to1 to2 mnow msav ahe bef hst noi own inp)) (hS : va_S A s.heap H locs) (hcs : cells + 2 ≤ 3000 ∧ slots + 12 ≤ 12000) (kk : Go p l e s m args below meth c Q D A cy q qm ro rd sb i5 cells slots) : W p l e room_1 s m args below meth c H locs cells slots Q (F0 m 272 ls []) := by
  have hx := CX.1
  have hb := CX.2.1
  obtain ⟨k, now', nxt', cnt', rng', out', b, kept', mnow', hst', e1, e2, e3, G⟩ := S_limit G out thr (xs (i5 + 1).toNatClampNeg) (xs (i5 + 2).toNatClampNeg)
  refine lv_aload_n hx hb (dg ddL_law1 31 rfl) rfl (lv_at hl 1 rfl) ?_
  refine lv_aload_n hx hb (dg ddL_law2 0 rfl) rfl (lv_at hl 0 rfl) ?_
  refine lv_iload hx hb (dg ddL_law2 1 rfl) (lv_at hl 5 rfl) ?_
  refine lv_iconst (v := 1) hx hb (dg ddL_law2 2 rfl) (by decide) ?_
  refine lv_iadd hx hb (dg ddL_law2 3 rfl) ?_
  refine va_sld hx hb hXs hbl hbA hS hi1 (dg ddL_law2 4 rfl) ?_
  refine lv_aload_n hx hb (dg ddL_law2 5 rfl) rfl (lv_at hl 0 rfl) ?_
  refine lv_iload hx hb (dg ddL_law2 6 rfl) (lv_at hl 5 rfl) ?_
  refine lv_iconst (v := 2) hx hb (dg ddL_law2 7 rfl) (by decide) ?_
  refine lv_iadd hx hb (dg ddL_law2 8 rfl) ?_
  refine va_sld hx hb hXs hbl hbA hS hi2 (dg ddL_law2 9 rfl) ?_
  refine lv_aload_n hx hb (dg ddL_law2 10 rfl) rfl (lv_at hl 3 rfl) ?_
  refine crl_i CX hml (As := [.ref (q 0 0), .int (xs (i5 + 1).toNatClampNeg), .int (xs (i5 + 2).toNatClampNeg), .ref ro]) (rest := []) (c_L_limit l D cy q isv te re de now spa sna len sig nxt cnt rng ro out (xs (i5 + 1).toNatClampNeg) (xs (i5 + 2).toNatClampNeg) _ hst0 e1) lk_RL_147 rfl rfl ⟨(Nat.le_of_ble_eq_true rfl), (Nat.le_of_ble_eq_true rfl)⟩ hP hD hS hA hK hN hX hC pL1 pL1.symm rfl hl.1 rfl (Nat.le_of_ble_eq_true rfl) ⟨rmC (show cells + 1 ≤ 3000 by omega), rmS (show slots + 6 ≤ 12000 by omega)⟩ (dg ddL_law2 11 rfl) (fun H locs hP hD hS => ?_)
  have hP : va_P D vwCl (WL cy q qm ro rd out' outD isv te re de now' spa sna len sig nxt' cnt' rng' thr kept rea det misv iit mlen at_ merr wro cmd to1 to2 mnow msav ahe bef hst noi own inp) H := hP
  have hD : va_D A (WL cy q qm ro rd out' outD isv te re de now' spa sna len sig nxt' cnt' rng' thr kept rea det misv iit mlen at_ merr wro cmd to1 to2 mnow msav ahe bef hst noi own inp) := hD
  refine lv_istore (lv' := [(6, .int k), (0, .ref sb), (1, .ref (q 0 0)), (2, .ref (qm 0)), (3, .ref ro), (4, .ref rd), (5, .int i5)]) hx hb (dg ddL_law2 12 rfl) hl (by decide) rfl (fun ls hl => ?_)
  refine lv_aload_n hx hb (dg ddL_law2 13 rfl) rfl (lv_at hl 3 rfl) ?_
  refine lv_aload_n hx hb (dg ddL_law2 14 rfl) rfl (lv_at hl 1 rfl) ?_
  refine lv_iload hx hb (dg ddL_law2 15 rfl) (lv_at hl 6 rfl) ?_
  refine lv_iconst (v := 1) hx hb (dg ddL_law2 16 rfl) (by decide) ?_
  refine lv_iadd hx hb (dg ddL_law2 17 rfl) ?_
  refine va_sld hx hb hXs hbl hbA hS hi1 (dg ddL_law2 18 rfl) ?_
  refine lv_aload_n hx hb (dg ddL_law2 19 rfl) rfl (lv_at hl 1 rfl) ?_
  refine lv_iload hx hb (dg ddL_law2 20 rfl) (lv_at hl 6 rfl) ?_
  refine lv_iconst (v := 2) hx hb (dg ddL_law2 21 rfl) (by decide) ?_
  refine lv_iadd hx hb (dg ddL_law2 22 rfl) ?_
  refine va_sld hx hb hXs hbl hbA hS hi2 (dg ddL_law2 23 rfl) ?_
  refine crf_vi CX hml (As := [.int (xs (i5 + 1).toNatClampNeg), .int (xs (i5 + 2).toNatClampNeg)]) (rest := []) (c_X5_limit l D cy qm thr kept rea det misv iit mlen at_ merr wro cmd to1 to2 mnow msav ahe bef hst noi own inp (xs (i5 + 1).toNatClampNeg) (xs (i5 + 2).toNatClampNeg) _ e2) lk_RL_150 rfl rfl ⟨(Nat.le_of_ble_eq_true rfl), (Nat.le_of_ble_eq_true rfl)⟩ hP hD hS hA hK hN pL3 pL3.symm 0 rfl rfl rfl hl.1 rfl (Nat.le_of_ble_eq_true rfl) ⟨rmC (show cells + 1 ≤ 3000 by omega), rmS (show slots + 6 ≤ 12000 by omega)⟩ (dg ddL_law2 24 rfl) (fun H locs hP hD hS => ?_)
  have hP : va_P D vwCl (WL cy q qm ro rd out' outD isv te re de now' spa sna len sig nxt' cnt' rng' k kept' rea det misv iit mlen at_ merr wro cmd to1 to2 mnow' msav ahe bef hst' noi own inp) H := hP
  have hD : va_D A (WL cy q qm ro rd out' outD isv te re de now' spa sna len sig nxt' cnt' rng' k kept' rea det misv iit mlen at_ merr wro cmd to1 to2 mnow' msav ahe bef hst' noi own inp) := hD
  refine lv_istore (lv' := [(7, .int b), (6, .int k), (0, .ref sb), (1, .ref (q 0 0)), (2, .ref (qm 0)), (3, .ref ro), (4, .ref rd), (5, .int i5)]) hx hb (dg ddL_law2 25 rfl) hl (by decide) rfl (fun ls hl => ?_)
  refine lv_aload_n hx hb (dg ddL_law2 26 rfl) rfl (lv_at hl 4 rfl) ?_
  refine cro_vi CX hml (As := []) (rest := []) (c_X5_thrown l D cy qm k kept' rea det misv iit mlen at_ merr wro cmd to1 to2 mnow' msav ahe bef hst' noi own inp rfl) lk_RL_144 rfl rfl ⟨(Nat.le_of_ble_eq_true rfl), (Nat.le_of_ble_eq_true rfl)⟩ (vaP_l (vaP_perm pL3 hP)) hK hN 0 rfl rfl rfl hl.1 rfl (Nat.le_of_ble_eq_true rfl) ⟨rmC (show cells + 1 ≤ 3000 by omega), rmS (show slots + 6 ≤ 12000 by omega)⟩ (dg ddL_law2 27 rfl) ?_
  refine lv_iload hx hb (dg ddL_law2 28 rfl) (lv_at hl 1 rfl) ?_
  refine lv_icmp_eq (tgt := 320) hx hb (dg ddL_law2 29 rfl) (by decide) (fun _ => ?_) (fun h => absurd rfl h)
  refine lv_iload hx hb (dg ddL_law3 0 rfl) (lv_at hl 1 rfl) ?_
  refine lv_if_ne (tgt := 337) hx hb (dg ddL_law3 1 rfl) (by decide) (fun hk => ?_) (fun hk => ?_)
  ·
    refine lv_goto (tgt := 2361) hx hb (dg ddL_law3 11 rfl) (by decide) ?_
    refine W.widen (k := cells + 2) (n := slots + 12) (by omega) (by omega) ?_
    exact kk out' outD isv te re de now' spa sna len sig nxt' cnt' rng' k kept' rea det misv iit mlen at_ merr wro cmd to1 to2 mnow' msav ahe bef hst' noi own inp H locs ls G (lv_sub hl [2, 3, 4, 5, 6, 7] rfl) hP hD hS
  ·
    refine lv_aload_n hx hb (dg ddL_law3 2 rfl) rfl (lv_at hl 5 rfl) ?_
    refine lv_iconst (v := 0) hx hb (dg ddL_law3 3 rfl) (by decide) ?_
    refine va_lald hx hb hK hP 0 5 rfl rfl (i := 0) (inb_in (show inb 0 1 = true by decide)) (dg ddL_law3 4 rfl) ?_
    rw [show out' (0 : Int32).toNatClampNeg = b.toInt64 from e3 hk]
    refine lv_iload hx hb (dg ddL_law3 5 rfl) (lv_at hl 0 rfl) ?_
    refine lv_i2l (v := b.toInt64) hx hb (dg ddL_law3 6 rfl) rfl ?_
    refine W.lcmp hx hb (dg ddL_law3 7 rfl) ?_
    refine lv_if_eq (tgt := 337) hx hb (dg ddL_law3 8 rfl) (by decide) (fun _ => ?_) (fun h => absurd (lgc0 _) h)
    refine lv_goto (tgt := 2361) hx hb (dg ddL_law3 11 rfl) (by decide) ?_
    refine W.widen (k := cells + 2) (n := slots + 12) (by omega) (by omega) ?_
    exact kk out' outD isv te re de now' spa sna len sig nxt' cnt' rng' k kept' rea det misv iit mlen at_ merr wro cmd to1 to2 mnow' msav ahe bef hst' noi own inp H locs ls G (lv_sub hl [2, 3, 4, 5, 6, 7] rfl) hP hD hS
set_option maxHeartbeats 4000000 in
set_option maxRecDepth 100000 in
theorem b_busker (CX : Cx p s m c args cL_law RL) (hml : c.maxLocals = 9) (hK : va_K D vwCl (tyA cy) s) (hN : nst s) (hA : ∀ q, s.heap.size ≤ q → A q) (hX : exF A s s.heap) (hC : ncF s) (hst0 : l.stackTraces = false) (hXs : va_X sb L xs s s.heap) (hbl : sb < s.heap.size) (hbA : ¬ A sb) (hi1 : vp_in (i5 + 1) L) (hi2 : vp_in (i5 + 2) L) (G : GG isv te re de now sna len sig nxt cnt rng kept rea det misv iit mlen merr mnow msav hst inp) (hl : lv_has ls 9 [(0, .ref sb), (1, .ref (q 0 0)), (2, .ref (qm 0)), (3, .ref ro), (4, .ref rd), (5, .int i5)]) (hP : va_P D vwCl (WL cy q qm ro rd out outD isv te re de now spa sna len sig nxt cnt rng thr kept rea det misv iit mlen at_ merr wro cmd to1 to2 mnow msav ahe bef hst noi own inp) H) (hD : va_D A (WL cy q qm ro rd out outD isv te re de now spa sna len sig nxt cnt rng thr kept rea det misv iit mlen at_ merr wro cmd to1 to2 mnow msav ahe bef hst noi own inp)) (hS : va_S A s.heap H locs) (hcs : cells + 2 ≤ 3000 ∧ slots + 12 ≤ 12000) (kk : Go p l e s m args below meth c Q D A cy q qm ro rd sb i5 cells slots) : W p l e room_1 s m args below meth c H locs cells slots Q (F0 m 340 ls []) := by
  have hx := CX.1
  have hb := CX.2.1
  obtain ⟨k, re', de', now', nxt', cnt', rng', out', b, kept', mnow', hst', e1, e2, e3, G⟩ := S_busker G out thr (xs (i5 + 1).toNatClampNeg) (xs (i5 + 2).toNatClampNeg)
  refine lv_aload_n hx hb (dg ddL_law3 12 rfl) rfl (lv_at hl 1 rfl) ?_
  refine lv_aload_n hx hb (dg ddL_law3 13 rfl) rfl (lv_at hl 0 rfl) ?_
  refine lv_iload hx hb (dg ddL_law3 14 rfl) (lv_at hl 5 rfl) ?_
  refine lv_iconst (v := 1) hx hb (dg ddL_law3 15 rfl) (by decide) ?_
  refine lv_iadd hx hb (dg ddL_law3 16 rfl) ?_
  refine va_sld hx hb hXs hbl hbA hS hi1 (dg ddL_law3 17 rfl) ?_
  refine lv_aload_n hx hb (dg ddL_law3 18 rfl) rfl (lv_at hl 0 rfl) ?_
  refine lv_iload hx hb (dg ddL_law3 19 rfl) (lv_at hl 5 rfl) ?_
  refine lv_iconst (v := 2) hx hb (dg ddL_law3 20 rfl) (by decide) ?_
  refine lv_iadd hx hb (dg ddL_law3 21 rfl) ?_
  refine va_sld hx hb hXs hbl hbA hS hi2 (dg ddL_law3 22 rfl) ?_
  refine lv_aload_n hx hb (dg ddL_law3 23 rfl) rfl (lv_at hl 3 rfl) ?_
  refine crl_i CX hml (As := [.ref (q 0 0), .int (xs (i5 + 1).toNatClampNeg), .int (xs (i5 + 2).toNatClampNeg), .ref ro]) (rest := []) (c_L_busker l D cy q isv te re de now spa sna len sig nxt cnt rng ro out (xs (i5 + 1).toNatClampNeg) (xs (i5 + 2).toNatClampNeg) _ hst0 e1) lk_RL_151 rfl rfl ⟨(Nat.le_of_ble_eq_true rfl), (Nat.le_of_ble_eq_true rfl)⟩ hP hD hS hA hK hN hX hC pL1 pL1.symm rfl hl.1 rfl (Nat.le_of_ble_eq_true rfl) ⟨rmC (show cells + 1 ≤ 3000 by omega), rmS (show slots + 6 ≤ 12000 by omega)⟩ (dg ddL_law3 24 rfl) (fun H locs hP hD hS => ?_)
  have hP : va_P D vwCl (WL cy q qm ro rd out' outD isv te re' de' now' spa sna len sig nxt' cnt' rng' thr kept rea det misv iit mlen at_ merr wro cmd to1 to2 mnow msav ahe bef hst noi own inp) H := hP
  have hD : va_D A (WL cy q qm ro rd out' outD isv te re' de' now' spa sna len sig nxt' cnt' rng' thr kept rea det misv iit mlen at_ merr wro cmd to1 to2 mnow msav ahe bef hst noi own inp) := hD
  refine lv_istore (lv' := [(6, .int k), (0, .ref sb), (1, .ref (q 0 0)), (2, .ref (qm 0)), (3, .ref ro), (4, .ref rd), (5, .int i5)]) hx hb (dg ddL_law3 25 rfl) hl (by decide) rfl (fun ls hl => ?_)
  refine lv_aload_n hx hb (dg ddL_law3 26 rfl) rfl (lv_at hl 3 rfl) ?_
  refine lv_aload_n hx hb (dg ddL_law3 27 rfl) rfl (lv_at hl 1 rfl) ?_
  refine lv_iload hx hb (dg ddL_law3 28 rfl) (lv_at hl 6 rfl) ?_
  refine lv_iconst (v := 1) hx hb (dg ddL_law3 29 rfl) (by decide) ?_
  refine lv_iadd hx hb (dg ddL_law3 30 rfl) ?_
  refine va_sld hx hb hXs hbl hbA hS hi1 (dg ddL_law3 31 rfl) ?_
  refine lv_aload_n hx hb (dg ddL_law4 0 rfl) rfl (lv_at hl 1 rfl) ?_
  refine lv_iload hx hb (dg ddL_law4 1 rfl) (lv_at hl 6 rfl) ?_
  refine lv_iconst (v := 2) hx hb (dg ddL_law4 2 rfl) (by decide) ?_
  refine lv_iadd hx hb (dg ddL_law4 3 rfl) ?_
  refine va_sld hx hb hXs hbl hbA hS hi2 (dg ddL_law4 4 rfl) ?_
  refine crf_vi CX hml (As := [.int (xs (i5 + 1).toNatClampNeg), .int (xs (i5 + 2).toNatClampNeg)]) (rest := []) (c_X5_busker l D cy qm thr kept rea det misv iit mlen at_ merr wro cmd to1 to2 mnow msav ahe bef hst noi own inp (xs (i5 + 1).toNatClampNeg) (xs (i5 + 2).toNatClampNeg) _ e2) lk_RL_153 rfl rfl ⟨(Nat.le_of_ble_eq_true rfl), (Nat.le_of_ble_eq_true rfl)⟩ hP hD hS hA hK hN pL3 pL3.symm 0 rfl rfl rfl hl.1 rfl (Nat.le_of_ble_eq_true rfl) ⟨rmC (show cells + 1 ≤ 3000 by omega), rmS (show slots + 6 ≤ 12000 by omega)⟩ (dg ddL_law4 5 rfl) (fun H locs hP hD hS => ?_)
  have hP : va_P D vwCl (WL cy q qm ro rd out' outD isv te re' de' now' spa sna len sig nxt' cnt' rng' k kept' re' de' misv iit mlen at_ merr wro cmd to1 to2 mnow' msav ahe bef hst' noi own inp) H := hP
  have hD : va_D A (WL cy q qm ro rd out' outD isv te re' de' now' spa sna len sig nxt' cnt' rng' k kept' re' de' misv iit mlen at_ merr wro cmd to1 to2 mnow' msav ahe bef hst' noi own inp) := hD
  refine lv_istore (lv' := [(7, .int b), (6, .int k), (0, .ref sb), (1, .ref (q 0 0)), (2, .ref (qm 0)), (3, .ref ro), (4, .ref rd), (5, .int i5)]) hx hb (dg ddL_law4 6 rfl) hl (by decide) rfl (fun ls hl => ?_)
  refine lv_aload_n hx hb (dg ddL_law4 7 rfl) rfl (lv_at hl 4 rfl) ?_
  refine cro_vi CX hml (As := []) (rest := []) (c_X5_thrown l D cy qm k kept' re' de' misv iit mlen at_ merr wro cmd to1 to2 mnow' msav ahe bef hst' noi own inp rfl) lk_RL_144 rfl rfl ⟨(Nat.le_of_ble_eq_true rfl), (Nat.le_of_ble_eq_true rfl)⟩ (vaP_l (vaP_perm pL3 hP)) hK hN 0 rfl rfl rfl hl.1 rfl (Nat.le_of_ble_eq_true rfl) ⟨rmC (show cells + 1 ≤ 3000 by omega), rmS (show slots + 6 ≤ 12000 by omega)⟩ (dg ddL_law4 8 rfl) ?_
  refine lv_iload hx hb (dg ddL_law4 9 rfl) (lv_at hl 1 rfl) ?_
  refine lv_icmp_eq (tgt := 388) hx hb (dg ddL_law4 10 rfl) (by decide) (fun _ => ?_) (fun h => absurd rfl h)
  refine lv_iload hx hb (dg ddL_law4 13 rfl) (lv_at hl 1 rfl) ?_
  refine lv_if_ne (tgt := 405) hx hb (dg ddL_law4 14 rfl) (by decide) (fun hk => ?_) (fun hk => ?_)
  ·
    refine lv_goto (tgt := 2361) hx hb (dg ddL_law4 24 rfl) (by decide) ?_
    refine W.widen (k := cells + 2) (n := slots + 12) (by omega) (by omega) ?_
    exact kk out' outD isv te re' de' now' spa sna len sig nxt' cnt' rng' k kept' re' de' misv iit mlen at_ merr wro cmd to1 to2 mnow' msav ahe bef hst' noi own inp H locs ls G (lv_sub hl [2, 3, 4, 5, 6, 7] rfl) hP hD hS
  ·
    refine lv_aload_n hx hb (dg ddL_law4 15 rfl) rfl (lv_at hl 5 rfl) ?_
    refine lv_iconst (v := 0) hx hb (dg ddL_law4 16 rfl) (by decide) ?_
    refine va_lald hx hb hK hP 0 5 rfl rfl (i := 0) (inb_in (show inb 0 1 = true by decide)) (dg ddL_law4 17 rfl) ?_
    rw [show out' (0 : Int32).toNatClampNeg = b.toInt64 from e3 hk]
    refine lv_iload hx hb (dg ddL_law4 18 rfl) (lv_at hl 0 rfl) ?_
    refine lv_i2l (v := b.toInt64) hx hb (dg ddL_law4 19 rfl) rfl ?_
    refine W.lcmp hx hb (dg ddL_law4 20 rfl) ?_
    refine lv_if_eq (tgt := 405) hx hb (dg ddL_law4 21 rfl) (by decide) (fun _ => ?_) (fun h => absurd (lgc0 _) h)
    refine lv_goto (tgt := 2361) hx hb (dg ddL_law4 24 rfl) (by decide) ?_
    refine W.widen (k := cells + 2) (n := slots + 12) (by omega) (by omega) ?_
    exact kk out' outD isv te re' de' now' spa sna len sig nxt' cnt' rng' k kept' re' de' misv iit mlen at_ merr wro cmd to1 to2 mnow' msav ahe bef hst' noi own inp H locs ls G (lv_sub hl [2, 3, 4, 5, 6, 7] rfl) hP hD hS
set_option maxHeartbeats 4000000 in
set_option maxRecDepth 100000 in
theorem b_buskerOf (CX : Cx p s m c args cL_law RL) (hml : c.maxLocals = 9) (hK : va_K D vwCl (tyA cy) s) (hN : nst s) (hA : ∀ q, s.heap.size ≤ q → A q) (hX : exF A s s.heap) (hC : ncF s) (hst0 : l.stackTraces = false) (hXs : va_X sb L xs s s.heap) (hbl : sb < s.heap.size) (hbA : ¬ A sb) (hi1 : vp_in (i5 + 1) L) (hi2 : vp_in (i5 + 2) L) (G : GG isv te re de now sna len sig nxt cnt rng kept rea det misv iit mlen merr mnow msav hst inp) (hl : lv_has ls 9 [(0, .ref sb), (1, .ref (q 0 0)), (2, .ref (qm 0)), (3, .ref ro), (4, .ref rd), (5, .int i5)]) (hP : va_P D vwCl (WL cy q qm ro rd out outD isv te re de now spa sna len sig nxt cnt rng thr kept rea det misv iit mlen at_ merr wro cmd to1 to2 mnow msav ahe bef hst noi own inp) H) (hD : va_D A (WL cy q qm ro rd out outD isv te re de now spa sna len sig nxt cnt rng thr kept rea det misv iit mlen at_ merr wro cmd to1 to2 mnow msav ahe bef hst noi own inp)) (hS : va_S A s.heap H locs) (hcs : cells + 2 ≤ 3000 ∧ slots + 12 ≤ 12000) (kk : Go p l e s m args below meth c Q D A cy q qm ro rd sb i5 cells slots) : W p l e room_1 s m args below meth c H locs cells slots Q (F0 m 408 ls []) := by
  have hx := CX.1
  have hb := CX.2.1
  obtain ⟨k, out', b, e1, e2, e3⟩ := S_buskerOf G out thr (xs (i5 + 1).toNatClampNeg) (xs (i5 + 2).toNatClampNeg)
  refine lv_aload_n hx hb (dg ddL_law4 25 rfl) rfl (lv_at hl 1 rfl) ?_
  refine lv_aload_n hx hb (dg ddL_law4 26 rfl) rfl (lv_at hl 0 rfl) ?_
  refine lv_iload hx hb (dg ddL_law4 27 rfl) (lv_at hl 5 rfl) ?_
  refine lv_iconst (v := 1) hx hb (dg ddL_law4 28 rfl) (by decide) ?_
  refine lv_iadd hx hb (dg ddL_law4 29 rfl) ?_
  refine va_sld hx hb hXs hbl hbA hS hi1 (dg ddL_law4 30 rfl) ?_
  refine lv_aload_n hx hb (dg ddL_law4 31 rfl) rfl (lv_at hl 0 rfl) ?_
  refine lv_iload hx hb (dg ddL_law5 0 rfl) (lv_at hl 5 rfl) ?_
  refine lv_iconst (v := 2) hx hb (dg ddL_law5 1 rfl) (by decide) ?_
  refine lv_iadd hx hb (dg ddL_law5 2 rfl) ?_
  refine va_sld hx hb hXs hbl hbA hS hi2 (dg ddL_law5 3 rfl) ?_
  refine lv_aload_n hx hb (dg ddL_law5 4 rfl) rfl (lv_at hl 3 rfl) ?_
  refine crl_i CX hml (As := [.ref (q 0 0), .int (xs (i5 + 1).toNatClampNeg), .int (xs (i5 + 2).toNatClampNeg), .ref ro]) (rest := []) (c_L_buskerOf l D cy q isv te re de now spa sna len sig nxt cnt rng ro out (xs (i5 + 1).toNatClampNeg) (xs (i5 + 2).toNatClampNeg) _ hst0 e1) lk_RL_154 rfl rfl ⟨(Nat.le_of_ble_eq_true rfl), (Nat.le_of_ble_eq_true rfl)⟩ hP hD hS hA hK hN hX hC pL1 pL1.symm rfl hl.1 rfl (Nat.le_of_ble_eq_true rfl) ⟨rmC (show cells + 2 ≤ 3000 by omega), rmS (show slots + 12 ≤ 12000 by omega)⟩ (dg ddL_law5 5 rfl) (fun H locs hP hD hS => ?_)
  have hP : va_P D vwCl (WL cy q qm ro rd out' outD isv te re de now spa sna len sig nxt cnt rng thr kept rea det misv iit mlen at_ merr wro cmd to1 to2 mnow msav ahe bef hst noi own inp) H := hP
  have hD : va_D A (WL cy q qm ro rd out' outD isv te re de now spa sna len sig nxt cnt rng thr kept rea det misv iit mlen at_ merr wro cmd to1 to2 mnow msav ahe bef hst noi own inp) := hD
  refine lv_istore (lv' := [(6, .int k), (0, .ref sb), (1, .ref (q 0 0)), (2, .ref (qm 0)), (3, .ref ro), (4, .ref rd), (5, .int i5)]) hx hb (dg ddL_law5 6 rfl) hl (by decide) rfl (fun ls hl => ?_)
  refine lv_aload_n hx hb (dg ddL_law5 7 rfl) rfl (lv_at hl 3 rfl) ?_
  refine lv_aload_n hx hb (dg ddL_law5 8 rfl) rfl (lv_at hl 1 rfl) ?_
  refine lv_iload hx hb (dg ddL_law5 9 rfl) (lv_at hl 6 rfl) ?_
  refine lv_iconst (v := 1) hx hb (dg ddL_law5 10 rfl) (by decide) ?_
  refine lv_iadd hx hb (dg ddL_law5 11 rfl) ?_
  refine va_sld hx hb hXs hbl hbA hS hi1 (dg ddL_law5 12 rfl) ?_
  refine lv_aload_n hx hb (dg ddL_law5 13 rfl) rfl (lv_at hl 1 rfl) ?_
  refine lv_iload hx hb (dg ddL_law5 14 rfl) (lv_at hl 6 rfl) ?_
  refine lv_iconst (v := 2) hx hb (dg ddL_law5 15 rfl) (by decide) ?_
  refine lv_iadd hx hb (dg ddL_law5 16 rfl) ?_
  refine va_sld hx hb hXs hbl hbA hS hi2 (dg ddL_law5 17 rfl) ?_
  refine crf_vi CX hml (As := [.int (xs (i5 + 1).toNatClampNeg), .int (xs (i5 + 2).toNatClampNeg)]) (rest := []) (c_X5_buskerOf l D cy qm thr kept rea det misv iit mlen at_ merr wro cmd to1 to2 mnow msav ahe bef hst noi own inp (xs (i5 + 1).toNatClampNeg) (xs (i5 + 2).toNatClampNeg) _ e2) lk_RL_156 rfl rfl ⟨(Nat.le_of_ble_eq_true rfl), (Nat.le_of_ble_eq_true rfl)⟩ hP hD hS hA hK hN pL3 pL3.symm 0 rfl rfl rfl hl.1 rfl (Nat.le_of_ble_eq_true rfl) ⟨rmC (show cells + 2 ≤ 3000 by omega), rmS (show slots + 12 ≤ 12000 by omega)⟩ (dg ddL_law5 18 rfl) (fun H locs hP hD hS => ?_)
  have hP : va_P D vwCl (WL cy q qm ro rd out' outD isv te re de now spa sna len sig nxt cnt rng k kept rea det misv iit mlen at_ merr wro cmd to1 to2 mnow msav ahe bef hst noi own inp) H := hP
  have hD : va_D A (WL cy q qm ro rd out' outD isv te re de now spa sna len sig nxt cnt rng k kept rea det misv iit mlen at_ merr wro cmd to1 to2 mnow msav ahe bef hst noi own inp) := hD
  refine lv_istore (lv' := [(7, .int b), (6, .int k), (0, .ref sb), (1, .ref (q 0 0)), (2, .ref (qm 0)), (3, .ref ro), (4, .ref rd), (5, .int i5)]) hx hb (dg ddL_law5 19 rfl) hl (by decide) rfl (fun ls hl => ?_)
  refine lv_aload_n hx hb (dg ddL_law5 20 rfl) rfl (lv_at hl 4 rfl) ?_
  refine cro_vi CX hml (As := []) (rest := []) (c_X5_thrown l D cy qm k kept rea det misv iit mlen at_ merr wro cmd to1 to2 mnow msav ahe bef hst noi own inp rfl) lk_RL_144 rfl rfl ⟨(Nat.le_of_ble_eq_true rfl), (Nat.le_of_ble_eq_true rfl)⟩ (vaP_l (vaP_perm pL3 hP)) hK hN 0 rfl rfl rfl hl.1 rfl (Nat.le_of_ble_eq_true rfl) ⟨rmC (show cells + 2 ≤ 3000 by omega), rmS (show slots + 12 ≤ 12000 by omega)⟩ (dg ddL_law5 21 rfl) ?_
  refine lv_iload hx hb (dg ddL_law5 22 rfl) (lv_at hl 1 rfl) ?_
  refine lv_icmp_eq (tgt := 456) hx hb (dg ddL_law5 23 rfl) (by decide) (fun _ => ?_) (fun h => absurd rfl h)
  refine lv_iload hx hb (dg ddL_law5 26 rfl) (lv_at hl 1 rfl) ?_
  refine lv_if_ne (tgt := 473) hx hb (dg ddL_law5 27 rfl) (by decide) (fun hk => ?_) (fun hk => ?_)
  ·
    refine lv_goto (tgt := 2361) hx hb (dg ddL_law6 5 rfl) (by decide) ?_
    refine W.widen (k := cells + 2) (n := slots + 12) (by omega) (by omega) ?_
    exact kk out' outD isv te re de now spa sna len sig nxt cnt rng k kept rea det misv iit mlen at_ merr wro cmd to1 to2 mnow msav ahe bef hst noi own inp H locs ls G (lv_sub hl [2, 3, 4, 5, 6, 7] rfl) hP hD hS
  ·
    refine lv_aload_n hx hb (dg ddL_law5 28 rfl) rfl (lv_at hl 5 rfl) ?_
    refine lv_iconst (v := 0) hx hb (dg ddL_law5 29 rfl) (by decide) ?_
    refine va_lald hx hb hK hP 0 5 rfl rfl (i := 0) (inb_in (show inb 0 1 = true by decide)) (dg ddL_law5 30 rfl) ?_
    rw [show out' (0 : Int32).toNatClampNeg = b.toInt64 from e3 hk]
    refine lv_iload hx hb (dg ddL_law5 31 rfl) (lv_at hl 0 rfl) ?_
    refine lv_i2l (v := b.toInt64) hx hb (dg ddL_law6 0 rfl) rfl ?_
    refine W.lcmp hx hb (dg ddL_law6 1 rfl) ?_
    refine lv_if_eq (tgt := 473) hx hb (dg ddL_law6 2 rfl) (by decide) (fun _ => ?_) (fun h => absurd (lgc0 _) h)
    refine lv_goto (tgt := 2361) hx hb (dg ddL_law6 5 rfl) (by decide) ?_
    refine W.widen (k := cells + 2) (n := slots + 12) (by omega) (by omega) ?_
    exact kk out' outD isv te re de now spa sna len sig nxt cnt rng k kept rea det misv iit mlen at_ merr wro cmd to1 to2 mnow msav ahe bef hst noi own inp H locs ls G (lv_sub hl [2, 3, 4, 5, 6, 7] rfl) hP hD hS
set_option maxHeartbeats 4000000 in
set_option maxRecDepth 100000 in
theorem b_hat (CX : Cx p s m c args cL_law RL) (hml : c.maxLocals = 9) (hK : va_K D vwCl (tyA cy) s) (hN : nst s) (hA : ∀ q, s.heap.size ≤ q → A q) (hX : exF A s s.heap) (hC : ncF s) (hst0 : l.stackTraces = false) (hXs : va_X sb L xs s s.heap) (hbl : sb < s.heap.size) (hbA : ¬ A sb) (hi1 : vp_in (i5 + 1) L) (hi2 : vp_in (i5 + 2) L) (G : GG isv te re de now sna len sig nxt cnt rng kept rea det misv iit mlen merr mnow msav hst inp) (hl : lv_has ls 9 [(0, .ref sb), (1, .ref (q 0 0)), (2, .ref (qm 0)), (3, .ref ro), (4, .ref rd), (5, .int i5)]) (hP : va_P D vwCl (WL cy q qm ro rd out outD isv te re de now spa sna len sig nxt cnt rng thr kept rea det misv iit mlen at_ merr wro cmd to1 to2 mnow msav ahe bef hst noi own inp) H) (hD : va_D A (WL cy q qm ro rd out outD isv te re de now spa sna len sig nxt cnt rng thr kept rea det misv iit mlen at_ merr wro cmd to1 to2 mnow msav ahe bef hst noi own inp)) (hS : va_S A s.heap H locs) (hcs : cells + 2 ≤ 3000 ∧ slots + 12 ≤ 12000) (kk : Go p l e s m args below meth c Q D A cy q qm ro rd sb i5 cells slots) : W p l e room_1 s m args below meth c H locs cells slots Q (F0 m 476 ls []) := by
  have hx := CX.1
  have hb := CX.2.1
  obtain ⟨k, out', b, e1, e2, e3⟩ := S_hat G outD thr (xs (i5 + 1).toNatClampNeg)
  refine lv_aload_n hx hb (dg ddL_law6 6 rfl) rfl (lv_at hl 1 rfl) ?_
  refine lv_aload_n hx hb (dg ddL_law6 7 rfl) rfl (lv_at hl 0 rfl) ?_
  refine lv_iload hx hb (dg ddL_law6 8 rfl) (lv_at hl 5 rfl) ?_
  refine lv_iconst (v := 1) hx hb (dg ddL_law6 9 rfl) (by decide) ?_
  refine lv_iadd hx hb (dg ddL_law6 10 rfl) ?_
  refine va_sld hx hb hXs hbl hbA hS hi1 (dg ddL_law6 11 rfl) ?_
  refine lv_aload hx hb (dg ddL_law6 12 rfl) (lv_at hl 4 rfl) ?_
  refine crl_i CX hml (As := [.ref (q 0 0), .int (xs (i5 + 1).toNatClampNeg), .ref rd]) (rest := []) (c_L_hat l D cy q isv te re de now spa sna len sig nxt cnt rng rd outD (xs (i5 + 1).toNatClampNeg) _ hst0 e1) lk_RL_157 rfl rfl ⟨(Nat.le_of_ble_eq_true rfl), (Nat.le_of_ble_eq_true rfl)⟩ hP hD hS hA hK hN hX hC pL2 pL2.symm rfl hl.1 rfl (Nat.le_of_ble_eq_true rfl) ⟨rmC (show cells + 1 ≤ 3000 by omega), rmS (show slots + 6 ≤ 12000 by omega)⟩ (dg ddL_law6 13 rfl) (fun H locs hP hD hS => ?_)
  have hP : va_P D vwCl (WL cy q qm ro rd out out' isv te re de now spa sna len sig nxt cnt rng thr kept rea det misv iit mlen at_ merr wro cmd to1 to2 mnow msav ahe bef hst noi own inp) H := hP
  have hD : va_D A (WL cy q qm ro rd out out' isv te re de now spa sna len sig nxt cnt rng thr kept rea det misv iit mlen at_ merr wro cmd to1 to2 mnow msav ahe bef hst noi own inp) := hD
  refine lv_istore (lv' := [(6, .int k), (0, .ref sb), (1, .ref (q 0 0)), (2, .ref (qm 0)), (3, .ref ro), (4, .ref rd), (5, .int i5)]) hx hb (dg ddL_law6 14 rfl) hl (by decide) rfl (fun ls hl => ?_)
  refine lv_aload_n hx hb (dg ddL_law6 15 rfl) rfl (lv_at hl 3 rfl) ?_
  refine lv_aload_n hx hb (dg ddL_law6 16 rfl) rfl (lv_at hl 1 rfl) ?_
  refine lv_iload hx hb (dg ddL_law6 17 rfl) (lv_at hl 6 rfl) ?_
  refine lv_iconst (v := 1) hx hb (dg ddL_law6 18 rfl) (by decide) ?_
  refine lv_iadd hx hb (dg ddL_law6 19 rfl) ?_
  refine va_sld hx hb hXs hbl hbA hS hi1 (dg ddL_law6 20 rfl) ?_
  refine crf_vf CX hml (As := [.int (xs (i5 + 1).toNatClampNeg)]) (rest := []) (c_X5_hat l D cy qm thr kept rea det misv iit mlen at_ merr wro cmd to1 to2 mnow msav ahe bef hst noi own inp (xs (i5 + 1).toNatClampNeg) _ e2) lk_RL_160 rfl rfl ⟨(Nat.le_of_ble_eq_true rfl), (Nat.le_of_ble_eq_true rfl)⟩ hP hD hS hA hK hN pL3 pL3.symm 0 rfl rfl rfl hl.1 rfl (Nat.le_of_ble_eq_true rfl) ⟨rmC (show cells + 1 ≤ 3000 by omega), rmS (show slots + 6 ≤ 12000 by omega)⟩ (dg ddL_law6 21 rfl) (fun H locs hP hD hS => ?_)
  have hP : va_P D vwCl (WL cy q qm ro rd out out' isv te re de now spa sna len sig nxt cnt rng k kept rea det misv iit mlen at_ merr wro cmd to1 to2 mnow msav ahe bef hst noi own inp) H := hP
  have hD : va_D A (WL cy q qm ro rd out out' isv te re de now spa sna len sig nxt cnt rng k kept rea det misv iit mlen at_ merr wro cmd to1 to2 mnow msav ahe bef hst noi own inp) := hD
  refine lv_fstore (lv' := [(7, .float b), (6, .int k), (0, .ref sb), (1, .ref (q 0 0)), (2, .ref (qm 0)), (3, .ref ro), (4, .ref rd), (5, .int i5)]) hx hb (dg ddL_law6 22 rfl) hl (by decide) rfl (fun ls hl => ?_)
  refine lv_aload_n hx hb (dg ddL_law6 23 rfl) rfl (lv_at hl 4 rfl) ?_
  refine cro_vi CX hml (As := []) (rest := []) (c_X5_thrown l D cy qm k kept rea det misv iit mlen at_ merr wro cmd to1 to2 mnow msav ahe bef hst noi own inp rfl) lk_RL_144 rfl rfl ⟨(Nat.le_of_ble_eq_true rfl), (Nat.le_of_ble_eq_true rfl)⟩ (vaP_l (vaP_perm pL3 hP)) hK hN 0 rfl rfl rfl hl.1 rfl (Nat.le_of_ble_eq_true rfl) ⟨rmC (show cells + 1 ≤ 3000 by omega), rmS (show slots + 6 ≤ 12000 by omega)⟩ (dg ddL_law6 24 rfl) ?_
  refine lv_iload hx hb (dg ddL_law6 25 rfl) (lv_at hl 1 rfl) ?_
  refine lv_icmp_eq (tgt := 513) hx hb (dg ddL_law6 26 rfl) (by decide) (fun _ => ?_) (fun h => absurd rfl h)
  refine lv_iload hx hb (dg ddL_law6 29 rfl) (lv_at hl 1 rfl) ?_
  refine lv_if_ne (tgt := 551) hx hb (dg ddL_law6 30 rfl) (by decide) (fun hk => ?_) (fun hk => ?_)
  ·
    refine lv_goto (tgt := 2361) hx hb (dg ddL_law7 20 rfl) (by decide) ?_
    refine W.widen (k := cells + 2) (n := slots + 12) (by omega) (by omega) ?_
    exact kk out out' isv te re de now spa sna len sig nxt cnt rng k kept rea det misv iit mlen at_ merr wro cmd to1 to2 mnow msav ahe bef hst noi own inp H locs ls G (lv_sub hl [2, 3, 4, 5, 6, 7] rfl) hP hD hS
  ·
    refine lv_aload hx hb (dg ddL_law6 31 rfl) (lv_at hl 6 rfl) ?_
    refine lv_iconst (v := 0) hx hb (dg ddL_law7 0 rfl) (by decide) ?_
    refine va_dald hx hb hK hP 1 6 rfl rfl (i := 0) (inb_in (show inb 0 1 = true by decide)) (dg ddL_law7 1 rfl) ?_
    refine lv_fload hx hb (dg ddL_law7 2 rfl) (lv_at hl 0 rfl) ?_
    refine lv_f2d hx hb (dg ddL_law7 3 rfl) (n64_in (e3 hk).1) ?_
    refine lv_dcmp hx hb (dg ddL_law7 4 rfl) ?_
    refine lv_if_eq (tgt := 551) hx hb (dg ddL_law7 5 rfl) (by decide) (fun _ => ?_) (fun h => absurd (e3 hk).2 h)
    refine lv_goto (tgt := 2361) hx hb (dg ddL_law7 20 rfl) (by decide) ?_
    refine W.widen (k := cells + 2) (n := slots + 12) (by omega) (by omega) ?_
    exact kk out out' isv te re de now spa sna len sig nxt cnt rng k kept rea det misv iit mlen at_ merr wro cmd to1 to2 mnow msav ahe bef hst noi own inp H locs ls G (lv_sub hl [2, 3, 4, 5, 6, 7] rfl) hP hD hS
set_option maxHeartbeats 4000000 in
set_option maxRecDepth 100000 in
theorem b_wear (CX : Cx p s m c args cL_law RL) (hml : c.maxLocals = 9) (hK : va_K D vwCl (tyA cy) s) (hN : nst s) (hA : ∀ q, s.heap.size ≤ q → A q) (hX : exF A s s.heap) (hC : ncF s) (hst0 : l.stackTraces = false) (hXs : va_X sb L xs s s.heap) (hbl : sb < s.heap.size) (hbA : ¬ A sb) (hi1 : vp_in (i5 + 1) L) (hi2 : vp_in (i5 + 2) L) (G : GG isv te re de now sna len sig nxt cnt rng kept rea det misv iit mlen merr mnow msav hst inp) (hl : lv_has ls 9 [(0, .ref sb), (1, .ref (q 0 0)), (2, .ref (qm 0)), (3, .ref ro), (4, .ref rd), (5, .int i5)]) (hP : va_P D vwCl (WL cy q qm ro rd out outD isv te re de now spa sna len sig nxt cnt rng thr kept rea det misv iit mlen at_ merr wro cmd to1 to2 mnow msav ahe bef hst noi own inp) H) (hD : va_D A (WL cy q qm ro rd out outD isv te re de now spa sna len sig nxt cnt rng thr kept rea det misv iit mlen at_ merr wro cmd to1 to2 mnow msav ahe bef hst noi own inp)) (hS : va_S A s.heap H locs) (hcs : cells + 2 ≤ 3000 ∧ slots + 12 ≤ 12000) (kk : Go p l e s m args below meth c Q D A cy q qm ro rd sb i5 cells slots) : W p l e room_1 s m args below meth c H locs cells slots Q (F0 m 554 ls []) := by
  have hx := CX.1
  have hb := CX.2.1
  obtain ⟨k, out', b, e1, e2, e3⟩ := S_wear G out thr (xs (i5 + 1).toNatClampNeg)
  refine lv_aload_n hx hb (dg ddL_law7 21 rfl) rfl (lv_at hl 1 rfl) ?_
  refine lv_aload_n hx hb (dg ddL_law7 22 rfl) rfl (lv_at hl 0 rfl) ?_
  refine lv_iload hx hb (dg ddL_law7 23 rfl) (lv_at hl 5 rfl) ?_
  refine lv_iconst (v := 1) hx hb (dg ddL_law7 24 rfl) (by decide) ?_
  refine lv_iadd hx hb (dg ddL_law7 25 rfl) ?_
  refine va_sld hx hb hXs hbl hbA hS hi1 (dg ddL_law7 26 rfl) ?_
  refine lv_aload_n hx hb (dg ddL_law7 27 rfl) rfl (lv_at hl 3 rfl) ?_
  refine crl_i CX hml (As := [.ref (q 0 0), .int (xs (i5 + 1).toNatClampNeg), .ref ro]) (rest := []) (c_L_wear l D cy q isv te re de now spa sna len sig nxt cnt rng ro out (xs (i5 + 1).toNatClampNeg) _ hst0 e1) lk_RL_161 rfl rfl ⟨(Nat.le_of_ble_eq_true rfl), (Nat.le_of_ble_eq_true rfl)⟩ hP hD hS hA hK hN hX hC pL1 pL1.symm rfl hl.1 rfl (Nat.le_of_ble_eq_true rfl) ⟨rmC (show cells + 1 ≤ 3000 by omega), rmS (show slots + 6 ≤ 12000 by omega)⟩ (dg ddL_law7 28 rfl) (fun H locs hP hD hS => ?_)
  have hP : va_P D vwCl (WL cy q qm ro rd out' outD isv te re de now spa sna len sig nxt cnt rng thr kept rea det misv iit mlen at_ merr wro cmd to1 to2 mnow msav ahe bef hst noi own inp) H := hP
  have hD : va_D A (WL cy q qm ro rd out' outD isv te re de now spa sna len sig nxt cnt rng thr kept rea det misv iit mlen at_ merr wro cmd to1 to2 mnow msav ahe bef hst noi own inp) := hD
  refine lv_istore (lv' := [(6, .int k), (0, .ref sb), (1, .ref (q 0 0)), (2, .ref (qm 0)), (3, .ref ro), (4, .ref rd), (5, .int i5)]) hx hb (dg ddL_law7 29 rfl) hl (by decide) rfl (fun ls hl => ?_)
  refine lv_aload_n hx hb (dg ddL_law7 30 rfl) rfl (lv_at hl 3 rfl) ?_
  refine lv_aload_n hx hb (dg ddL_law7 31 rfl) rfl (lv_at hl 1 rfl) ?_
  refine lv_iload hx hb (dg ddL_law8 0 rfl) (lv_at hl 6 rfl) ?_
  refine lv_iconst (v := 1) hx hb (dg ddL_law8 1 rfl) (by decide) ?_
  refine lv_iadd hx hb (dg ddL_law8 2 rfl) ?_
  refine va_sld hx hb hXs hbl hbA hS hi1 (dg ddL_law8 3 rfl) ?_
  refine crf_vi CX hml (As := [.int (xs (i5 + 1).toNatClampNeg)]) (rest := []) (c_X5_wear l D cy qm thr kept rea det misv iit mlen at_ merr wro cmd to1 to2 mnow msav ahe bef hst noi own inp (xs (i5 + 1).toNatClampNeg) _ e2) lk_RL_163 rfl rfl ⟨(Nat.le_of_ble_eq_true rfl), (Nat.le_of_ble_eq_true rfl)⟩ hP hD hS hA hK hN pL3 pL3.symm 0 rfl rfl rfl hl.1 rfl (Nat.le_of_ble_eq_true rfl) ⟨rmC (show cells + 1 ≤ 3000 by omega), rmS (show slots + 6 ≤ 12000 by omega)⟩ (dg ddL_law8 4 rfl) (fun H locs hP hD hS => ?_)
  have hP : va_P D vwCl (WL cy q qm ro rd out' outD isv te re de now spa sna len sig nxt cnt rng k kept rea det misv iit mlen at_ merr wro cmd to1 to2 mnow msav ahe bef hst noi own inp) H := hP
  have hD : va_D A (WL cy q qm ro rd out' outD isv te re de now spa sna len sig nxt cnt rng k kept rea det misv iit mlen at_ merr wro cmd to1 to2 mnow msav ahe bef hst noi own inp) := hD
  refine lv_istore (lv' := [(7, .int b), (6, .int k), (0, .ref sb), (1, .ref (q 0 0)), (2, .ref (qm 0)), (3, .ref ro), (4, .ref rd), (5, .int i5)]) hx hb (dg ddL_law8 5 rfl) hl (by decide) rfl (fun ls hl => ?_)
  refine lv_aload_n hx hb (dg ddL_law8 6 rfl) rfl (lv_at hl 4 rfl) ?_
  refine cro_vi CX hml (As := []) (rest := []) (c_X5_thrown l D cy qm k kept rea det misv iit mlen at_ merr wro cmd to1 to2 mnow msav ahe bef hst noi own inp rfl) lk_RL_144 rfl rfl ⟨(Nat.le_of_ble_eq_true rfl), (Nat.le_of_ble_eq_true rfl)⟩ (vaP_l (vaP_perm pL3 hP)) hK hN 0 rfl rfl rfl hl.1 rfl (Nat.le_of_ble_eq_true rfl) ⟨rmC (show cells + 1 ≤ 3000 by omega), rmS (show slots + 6 ≤ 12000 by omega)⟩ (dg ddL_law8 7 rfl) ?_
  refine lv_iload hx hb (dg ddL_law8 8 rfl) (lv_at hl 1 rfl) ?_
  refine lv_icmp_eq (tgt := 590) hx hb (dg ddL_law8 9 rfl) (by decide) (fun _ => ?_) (fun h => absurd rfl h)
  refine lv_iload hx hb (dg ddL_law8 12 rfl) (lv_at hl 1 rfl) ?_
  refine lv_if_ne (tgt := 607) hx hb (dg ddL_law8 13 rfl) (by decide) (fun hk => ?_) (fun hk => ?_)
  ·
    refine lv_goto (tgt := 2361) hx hb (dg ddL_law8 23 rfl) (by decide) ?_
    refine W.widen (k := cells + 2) (n := slots + 12) (by omega) (by omega) ?_
    exact kk out' outD isv te re de now spa sna len sig nxt cnt rng k kept rea det misv iit mlen at_ merr wro cmd to1 to2 mnow msav ahe bef hst noi own inp H locs ls G (lv_sub hl [2, 3, 4, 5, 6, 7] rfl) hP hD hS
  ·
    refine lv_aload_n hx hb (dg ddL_law8 14 rfl) rfl (lv_at hl 5 rfl) ?_
    refine lv_iconst (v := 0) hx hb (dg ddL_law8 15 rfl) (by decide) ?_
    refine va_lald hx hb hK hP 0 5 rfl rfl (i := 0) (inb_in (show inb 0 1 = true by decide)) (dg ddL_law8 16 rfl) ?_
    rw [show out' (0 : Int32).toNatClampNeg = b.toInt64 from e3 hk]
    refine lv_iload hx hb (dg ddL_law8 17 rfl) (lv_at hl 0 rfl) ?_
    refine lv_i2l (v := b.toInt64) hx hb (dg ddL_law8 18 rfl) rfl ?_
    refine W.lcmp hx hb (dg ddL_law8 19 rfl) ?_
    refine lv_if_eq (tgt := 607) hx hb (dg ddL_law8 20 rfl) (by decide) (fun _ => ?_) (fun h => absurd (lgc0 _) h)
    refine lv_goto (tgt := 2361) hx hb (dg ddL_law8 23 rfl) (by decide) ?_
    refine W.widen (k := cells + 2) (n := slots + 12) (by omega) (by omega) ?_
    exact kk out' outD isv te re de now spa sna len sig nxt cnt rng k kept rea det misv iit mlen at_ merr wro cmd to1 to2 mnow msav ahe bef hst noi own inp H locs ls G (lv_sub hl [2, 3, 4, 5, 6, 7] rfl) hP hD hS
set_option maxHeartbeats 4000000 in
set_option maxRecDepth 100000 in
theorem b_pitchOf (CX : Cx p s m c args cL_law RL) (hml : c.maxLocals = 9) (hK : va_K D vwCl (tyA cy) s) (hN : nst s) (hA : ∀ q, s.heap.size ≤ q → A q) (hX : exF A s s.heap) (hC : ncF s) (hst0 : l.stackTraces = false) (hXs : va_X sb L xs s s.heap) (hbl : sb < s.heap.size) (hbA : ¬ A sb) (hi1 : vp_in (i5 + 1) L) (hi2 : vp_in (i5 + 2) L) (G : GG isv te re de now sna len sig nxt cnt rng kept rea det misv iit mlen merr mnow msav hst inp) (hl : lv_has ls 9 [(0, .ref sb), (1, .ref (q 0 0)), (2, .ref (qm 0)), (3, .ref ro), (4, .ref rd), (5, .int i5)]) (hP : va_P D vwCl (WL cy q qm ro rd out outD isv te re de now spa sna len sig nxt cnt rng thr kept rea det misv iit mlen at_ merr wro cmd to1 to2 mnow msav ahe bef hst noi own inp) H) (hD : va_D A (WL cy q qm ro rd out outD isv te re de now spa sna len sig nxt cnt rng thr kept rea det misv iit mlen at_ merr wro cmd to1 to2 mnow msav ahe bef hst noi own inp)) (hS : va_S A s.heap H locs) (hcs : cells + 2 ≤ 3000 ∧ slots + 12 ≤ 12000) (kk : Go p l e s m args below meth c Q D A cy q qm ro rd sb i5 cells slots) : W p l e room_1 s m args below meth c H locs cells slots Q (F0 m 610 ls []) := by
  have hx := CX.1
  have hb := CX.2.1
  obtain ⟨k, out', b, e1, e2, e3⟩ := S_pitchOf G out thr (xs (i5 + 1).toNatClampNeg) (xs (i5 + 2).toNatClampNeg)
  refine lv_aload_n hx hb (dg ddL_law8 24 rfl) rfl (lv_at hl 1 rfl) ?_
  refine lv_aload_n hx hb (dg ddL_law8 25 rfl) rfl (lv_at hl 0 rfl) ?_
  refine lv_iload hx hb (dg ddL_law8 26 rfl) (lv_at hl 5 rfl) ?_
  refine lv_iconst (v := 1) hx hb (dg ddL_law8 27 rfl) (by decide) ?_
  refine lv_iadd hx hb (dg ddL_law8 28 rfl) ?_
  refine va_sld hx hb hXs hbl hbA hS hi1 (dg ddL_law8 29 rfl) ?_
  refine lv_aload_n hx hb (dg ddL_law8 30 rfl) rfl (lv_at hl 0 rfl) ?_
  refine lv_iload hx hb (dg ddL_law8 31 rfl) (lv_at hl 5 rfl) ?_
  refine lv_iconst (v := 2) hx hb (dg ddL_law9 0 rfl) (by decide) ?_
  refine lv_iadd hx hb (dg ddL_law9 1 rfl) ?_
  refine va_sld hx hb hXs hbl hbA hS hi2 (dg ddL_law9 2 rfl) ?_
  refine lv_aload_n hx hb (dg ddL_law9 3 rfl) rfl (lv_at hl 3 rfl) ?_
  refine crl_i CX hml (As := [.ref (q 0 0), .int (xs (i5 + 1).toNatClampNeg), .int (xs (i5 + 2).toNatClampNeg), .ref ro]) (rest := []) (c_L_pitchOf l D cy q isv te re de now spa sna len sig nxt cnt rng ro out (xs (i5 + 1).toNatClampNeg) (xs (i5 + 2).toNatClampNeg) _ hst0 e1) lk_RL_164 rfl rfl ⟨(Nat.le_of_ble_eq_true rfl), (Nat.le_of_ble_eq_true rfl)⟩ hP hD hS hA hK hN hX hC pL1 pL1.symm rfl hl.1 rfl (Nat.le_of_ble_eq_true rfl) ⟨rmC (show cells + 2 ≤ 3000 by omega), rmS (show slots + 12 ≤ 12000 by omega)⟩ (dg ddL_law9 4 rfl) (fun H locs hP hD hS => ?_)
  have hP : va_P D vwCl (WL cy q qm ro rd out' outD isv te re de now spa sna len sig nxt cnt rng thr kept rea det misv iit mlen at_ merr wro cmd to1 to2 mnow msav ahe bef hst noi own inp) H := hP
  have hD : va_D A (WL cy q qm ro rd out' outD isv te re de now spa sna len sig nxt cnt rng thr kept rea det misv iit mlen at_ merr wro cmd to1 to2 mnow msav ahe bef hst noi own inp) := hD
  refine lv_istore (lv' := [(6, .int k), (0, .ref sb), (1, .ref (q 0 0)), (2, .ref (qm 0)), (3, .ref ro), (4, .ref rd), (5, .int i5)]) hx hb (dg ddL_law9 5 rfl) hl (by decide) rfl (fun ls hl => ?_)
  refine lv_aload_n hx hb (dg ddL_law9 6 rfl) rfl (lv_at hl 3 rfl) ?_
  refine lv_aload_n hx hb (dg ddL_law9 7 rfl) rfl (lv_at hl 1 rfl) ?_
  refine lv_iload hx hb (dg ddL_law9 8 rfl) (lv_at hl 6 rfl) ?_
  refine lv_iconst (v := 1) hx hb (dg ddL_law9 9 rfl) (by decide) ?_
  refine lv_iadd hx hb (dg ddL_law9 10 rfl) ?_
  refine va_sld hx hb hXs hbl hbA hS hi1 (dg ddL_law9 11 rfl) ?_
  refine lv_aload_n hx hb (dg ddL_law9 12 rfl) rfl (lv_at hl 1 rfl) ?_
  refine lv_iload hx hb (dg ddL_law9 13 rfl) (lv_at hl 6 rfl) ?_
  refine lv_iconst (v := 2) hx hb (dg ddL_law9 14 rfl) (by decide) ?_
  refine lv_iadd hx hb (dg ddL_law9 15 rfl) ?_
  refine va_sld hx hb hXs hbl hbA hS hi2 (dg ddL_law9 16 rfl) ?_
  refine crf_vi CX hml (As := [.int (xs (i5 + 1).toNatClampNeg), .int (xs (i5 + 2).toNatClampNeg)]) (rest := []) (c_X5_pitchOf l D cy qm thr kept rea det misv iit mlen at_ merr wro cmd to1 to2 mnow msav ahe bef hst noi own inp (xs (i5 + 1).toNatClampNeg) (xs (i5 + 2).toNatClampNeg) _ e2) lk_RL_166 rfl rfl ⟨(Nat.le_of_ble_eq_true rfl), (Nat.le_of_ble_eq_true rfl)⟩ hP hD hS hA hK hN pL3 pL3.symm 0 rfl rfl rfl hl.1 rfl (Nat.le_of_ble_eq_true rfl) ⟨rmC (show cells + 2 ≤ 3000 by omega), rmS (show slots + 12 ≤ 12000 by omega)⟩ (dg ddL_law9 17 rfl) (fun H locs hP hD hS => ?_)
  have hP : va_P D vwCl (WL cy q qm ro rd out' outD isv te re de now spa sna len sig nxt cnt rng k kept rea det misv iit mlen at_ merr wro cmd to1 to2 mnow msav ahe bef hst noi own inp) H := hP
  have hD : va_D A (WL cy q qm ro rd out' outD isv te re de now spa sna len sig nxt cnt rng k kept rea det misv iit mlen at_ merr wro cmd to1 to2 mnow msav ahe bef hst noi own inp) := hD
  refine lv_istore (lv' := [(7, .int b), (6, .int k), (0, .ref sb), (1, .ref (q 0 0)), (2, .ref (qm 0)), (3, .ref ro), (4, .ref rd), (5, .int i5)]) hx hb (dg ddL_law9 18 rfl) hl (by decide) rfl (fun ls hl => ?_)
  refine lv_aload_n hx hb (dg ddL_law9 19 rfl) rfl (lv_at hl 4 rfl) ?_
  refine cro_vi CX hml (As := []) (rest := []) (c_X5_thrown l D cy qm k kept rea det misv iit mlen at_ merr wro cmd to1 to2 mnow msav ahe bef hst noi own inp rfl) lk_RL_144 rfl rfl ⟨(Nat.le_of_ble_eq_true rfl), (Nat.le_of_ble_eq_true rfl)⟩ (vaP_l (vaP_perm pL3 hP)) hK hN 0 rfl rfl rfl hl.1 rfl (Nat.le_of_ble_eq_true rfl) ⟨rmC (show cells + 2 ≤ 3000 by omega), rmS (show slots + 12 ≤ 12000 by omega)⟩ (dg ddL_law9 20 rfl) ?_
  refine lv_iload hx hb (dg ddL_law9 21 rfl) (lv_at hl 1 rfl) ?_
  refine lv_icmp_eq (tgt := 658) hx hb (dg ddL_law9 22 rfl) (by decide) (fun _ => ?_) (fun h => absurd rfl h)
  refine lv_iload hx hb (dg ddL_law9 25 rfl) (lv_at hl 1 rfl) ?_
  refine lv_if_ne (tgt := 675) hx hb (dg ddL_law9 26 rfl) (by decide) (fun hk => ?_) (fun hk => ?_)
  ·
    refine lv_goto (tgt := 2361) hx hb (dg ddL_law10 4 rfl) (by decide) ?_
    refine W.widen (k := cells + 2) (n := slots + 12) (by omega) (by omega) ?_
    exact kk out' outD isv te re de now spa sna len sig nxt cnt rng k kept rea det misv iit mlen at_ merr wro cmd to1 to2 mnow msav ahe bef hst noi own inp H locs ls G (lv_sub hl [2, 3, 4, 5, 6, 7] rfl) hP hD hS
  ·
    refine lv_aload_n hx hb (dg ddL_law9 27 rfl) rfl (lv_at hl 5 rfl) ?_
    refine lv_iconst (v := 0) hx hb (dg ddL_law9 28 rfl) (by decide) ?_
    refine va_lald hx hb hK hP 0 5 rfl rfl (i := 0) (inb_in (show inb 0 1 = true by decide)) (dg ddL_law9 29 rfl) ?_
    rw [show out' (0 : Int32).toNatClampNeg = b.toInt64 from e3 hk]
    refine lv_iload hx hb (dg ddL_law9 30 rfl) (lv_at hl 0 rfl) ?_
    refine lv_i2l (v := b.toInt64) hx hb (dg ddL_law9 31 rfl) rfl ?_
    refine W.lcmp hx hb (dg ddL_law10 0 rfl) ?_
    refine lv_if_eq (tgt := 675) hx hb (dg ddL_law10 1 rfl) (by decide) (fun _ => ?_) (fun h => absurd (lgc0 _) h)
    refine lv_goto (tgt := 2361) hx hb (dg ddL_law10 4 rfl) (by decide) ?_
    refine W.widen (k := cells + 2) (n := slots + 12) (by omega) (by omega) ?_
    exact kk out' outD isv te re de now spa sna len sig nxt cnt rng k kept rea det misv iit mlen at_ merr wro cmd to1 to2 mnow msav ahe bef hst noi own inp H locs ls G (lv_sub hl [2, 3, 4, 5, 6, 7] rfl) hP hD hS
set_option maxHeartbeats 4000000 in
set_option maxRecDepth 100000 in
theorem b_join (CX : Cx p s m c args cL_law RL) (hml : c.maxLocals = 9) (hK : va_K D vwCl (tyA cy) s) (hN : nst s) (hA : ∀ q, s.heap.size ≤ q → A q) (hX : exF A s s.heap) (hC : ncF s) (hst0 : l.stackTraces = false) (hXs : va_X sb L xs s s.heap) (hbl : sb < s.heap.size) (hbA : ¬ A sb) (hi1 : vp_in (i5 + 1) L) (hi2 : vp_in (i5 + 2) L) (G : GG isv te re de now sna len sig nxt cnt rng kept rea det misv iit mlen merr mnow msav hst inp) (hl : lv_has ls 9 [(0, .ref sb), (1, .ref (q 0 0)), (2, .ref (qm 0)), (3, .ref ro), (4, .ref rd), (5, .int i5)]) (hP : va_P D vwCl (WL cy q qm ro rd out outD isv te re de now spa sna len sig nxt cnt rng thr kept rea det misv iit mlen at_ merr wro cmd to1 to2 mnow msav ahe bef hst noi own inp) H) (hD : va_D A (WL cy q qm ro rd out outD isv te re de now spa sna len sig nxt cnt rng thr kept rea det misv iit mlen at_ merr wro cmd to1 to2 mnow msav ahe bef hst noi own inp)) (hS : va_S A s.heap H locs) (hcs : cells + 2 ≤ 3000 ∧ slots + 12 ≤ 12000) (kk : Go p l e s m args below meth c Q D A cy q qm ro rd sb i5 cells slots) : W p l e room_1 s m args below meth c H locs cells slots Q (F0 m 678 ls []) := by
  have hx := CX.1
  have hb := CX.2.1
  obtain ⟨k, re', de', now', nxt', cnt', rng', out', b, kept', mnow', hst', e1, e2, e3, G⟩ := S_join G out thr (xs (i5 + 1).toNatClampNeg)
  refine lv_aload_n hx hb (dg ddL_law10 5 rfl) rfl (lv_at hl 1 rfl) ?_
  refine lv_aload_n hx hb (dg ddL_law10 6 rfl) rfl (lv_at hl 0 rfl) ?_
  refine lv_iload hx hb (dg ddL_law10 7 rfl) (lv_at hl 5 rfl) ?_
  refine lv_iconst (v := 1) hx hb (dg ddL_law10 8 rfl) (by decide) ?_
  refine lv_iadd hx hb (dg ddL_law10 9 rfl) ?_
  refine va_sld hx hb hXs hbl hbA hS hi1 (dg ddL_law10 10 rfl) ?_
  refine lv_aload_n hx hb (dg ddL_law10 11 rfl) rfl (lv_at hl 3 rfl) ?_
  refine crl_i CX hml (As := [.ref (q 0 0), .int (xs (i5 + 1).toNatClampNeg), .ref ro]) (rest := []) (c_L_join l D cy q isv te re de now spa sna len sig nxt cnt rng ro out (xs (i5 + 1).toNatClampNeg) _ hst0 e1) lk_RL_167 rfl rfl ⟨(Nat.le_of_ble_eq_true rfl), (Nat.le_of_ble_eq_true rfl)⟩ hP hD hS hA hK hN hX hC pL1 pL1.symm rfl hl.1 rfl (Nat.le_of_ble_eq_true rfl) ⟨rmC (show cells + 1 ≤ 3000 by omega), rmS (show slots + 6 ≤ 12000 by omega)⟩ (dg ddL_law10 12 rfl) (fun H locs hP hD hS => ?_)
  have hP : va_P D vwCl (WL cy q qm ro rd out' outD isv te re' de' now' spa sna len sig nxt' cnt' rng' thr kept rea det misv iit mlen at_ merr wro cmd to1 to2 mnow msav ahe bef hst noi own inp) H := hP
  have hD : va_D A (WL cy q qm ro rd out' outD isv te re' de' now' spa sna len sig nxt' cnt' rng' thr kept rea det misv iit mlen at_ merr wro cmd to1 to2 mnow msav ahe bef hst noi own inp) := hD
  refine lv_istore (lv' := [(6, .int k), (0, .ref sb), (1, .ref (q 0 0)), (2, .ref (qm 0)), (3, .ref ro), (4, .ref rd), (5, .int i5)]) hx hb (dg ddL_law10 13 rfl) hl (by decide) rfl (fun ls hl => ?_)
  refine lv_aload_n hx hb (dg ddL_law10 14 rfl) rfl (lv_at hl 3 rfl) ?_
  refine lv_aload_n hx hb (dg ddL_law10 15 rfl) rfl (lv_at hl 1 rfl) ?_
  refine lv_iload hx hb (dg ddL_law10 16 rfl) (lv_at hl 6 rfl) ?_
  refine lv_iconst (v := 1) hx hb (dg ddL_law10 17 rfl) (by decide) ?_
  refine lv_iadd hx hb (dg ddL_law10 18 rfl) ?_
  refine va_sld hx hb hXs hbl hbA hS hi1 (dg ddL_law10 19 rfl) ?_
  refine crf_vi CX hml (As := [.int (xs (i5 + 1).toNatClampNeg)]) (rest := []) (c_X5_join l D cy qm thr kept rea det misv iit mlen at_ merr wro cmd to1 to2 mnow msav ahe bef hst noi own inp (xs (i5 + 1).toNatClampNeg) _ e2) lk_RL_169 rfl rfl ⟨(Nat.le_of_ble_eq_true rfl), (Nat.le_of_ble_eq_true rfl)⟩ hP hD hS hA hK hN pL3 pL3.symm 0 rfl rfl rfl hl.1 rfl (Nat.le_of_ble_eq_true rfl) ⟨rmC (show cells + 1 ≤ 3000 by omega), rmS (show slots + 6 ≤ 12000 by omega)⟩ (dg ddL_law10 20 rfl) (fun H locs hP hD hS => ?_)
  have hP : va_P D vwCl (WL cy q qm ro rd out' outD isv te re' de' now' spa sna len sig nxt' cnt' rng' k kept' re' de' misv iit mlen at_ merr wro cmd to1 to2 mnow' msav ahe bef hst' noi own inp) H := hP
  have hD : va_D A (WL cy q qm ro rd out' outD isv te re' de' now' spa sna len sig nxt' cnt' rng' k kept' re' de' misv iit mlen at_ merr wro cmd to1 to2 mnow' msav ahe bef hst' noi own inp) := hD
  refine lv_istore (lv' := [(7, .int b), (6, .int k), (0, .ref sb), (1, .ref (q 0 0)), (2, .ref (qm 0)), (3, .ref ro), (4, .ref rd), (5, .int i5)]) hx hb (dg ddL_law10 21 rfl) hl (by decide) rfl (fun ls hl => ?_)
  refine lv_aload_n hx hb (dg ddL_law10 22 rfl) rfl (lv_at hl 4 rfl) ?_
  refine cro_vi CX hml (As := []) (rest := []) (c_X5_thrown l D cy qm k kept' re' de' misv iit mlen at_ merr wro cmd to1 to2 mnow' msav ahe bef hst' noi own inp rfl) lk_RL_144 rfl rfl ⟨(Nat.le_of_ble_eq_true rfl), (Nat.le_of_ble_eq_true rfl)⟩ (vaP_l (vaP_perm pL3 hP)) hK hN 0 rfl rfl rfl hl.1 rfl (Nat.le_of_ble_eq_true rfl) ⟨rmC (show cells + 1 ≤ 3000 by omega), rmS (show slots + 6 ≤ 12000 by omega)⟩ (dg ddL_law10 23 rfl) ?_
  refine lv_iload hx hb (dg ddL_law10 24 rfl) (lv_at hl 1 rfl) ?_
  refine lv_icmp_eq (tgt := 714) hx hb (dg ddL_law10 25 rfl) (by decide) (fun _ => ?_) (fun h => absurd rfl h)
  refine lv_iload hx hb (dg ddL_law10 28 rfl) (lv_at hl 1 rfl) ?_
  refine lv_if_ne (tgt := 731) hx hb (dg ddL_law10 29 rfl) (by decide) (fun hk => ?_) (fun hk => ?_)
  ·
    refine lv_goto (tgt := 2361) hx hb (dg ddL_law11 7 rfl) (by decide) ?_
    refine W.widen (k := cells + 2) (n := slots + 12) (by omega) (by omega) ?_
    exact kk out' outD isv te re' de' now' spa sna len sig nxt' cnt' rng' k kept' re' de' misv iit mlen at_ merr wro cmd to1 to2 mnow' msav ahe bef hst' noi own inp H locs ls G (lv_sub hl [2, 3, 4, 5, 6, 7] rfl) hP hD hS
  ·
    refine lv_aload_n hx hb (dg ddL_law10 30 rfl) rfl (lv_at hl 5 rfl) ?_
    refine lv_iconst (v := 0) hx hb (dg ddL_law10 31 rfl) (by decide) ?_
    refine va_lald hx hb hK hP 0 5 rfl rfl (i := 0) (inb_in (show inb 0 1 = true by decide)) (dg ddL_law11 0 rfl) ?_
    rw [show out' (0 : Int32).toNatClampNeg = b.toInt64 from e3 hk]
    refine lv_iload hx hb (dg ddL_law11 1 rfl) (lv_at hl 0 rfl) ?_
    refine lv_i2l (v := b.toInt64) hx hb (dg ddL_law11 2 rfl) rfl ?_
    refine W.lcmp hx hb (dg ddL_law11 3 rfl) ?_
    refine lv_if_eq (tgt := 731) hx hb (dg ddL_law11 4 rfl) (by decide) (fun _ => ?_) (fun h => absurd (lgc0 _) h)
    refine lv_goto (tgt := 2361) hx hb (dg ddL_law11 7 rfl) (by decide) ?_
    refine W.widen (k := cells + 2) (n := slots + 12) (by omega) (by omega) ?_
    exact kk out' outD isv te re' de' now' spa sna len sig nxt' cnt' rng' k kept' re' de' misv iit mlen at_ merr wro cmd to1 to2 mnow' msav ahe bef hst' noi own inp H locs ls G (lv_sub hl [2, 3, 4, 5, 6, 7] rfl) hP hD hS
set_option maxHeartbeats 4000000 in
set_option maxRecDepth 100000 in
theorem b_draw (CX : Cx p s m c args cL_law RL) (hml : c.maxLocals = 9) (hK : va_K D vwCl (tyA cy) s) (hN : nst s) (hA : ∀ q, s.heap.size ≤ q → A q) (hX : exF A s s.heap) (hC : ncF s) (hst0 : l.stackTraces = false) (hXs : va_X sb L xs s s.heap) (hbl : sb < s.heap.size) (hbA : ¬ A sb) (hi1 : vp_in (i5 + 1) L) (hi2 : vp_in (i5 + 2) L) (G : GG isv te re de now sna len sig nxt cnt rng kept rea det misv iit mlen merr mnow msav hst inp) (hl : lv_has ls 9 [(0, .ref sb), (1, .ref (q 0 0)), (2, .ref (qm 0)), (3, .ref ro), (4, .ref rd), (5, .int i5)]) (hP : va_P D vwCl (WL cy q qm ro rd out outD isv te re de now spa sna len sig nxt cnt rng thr kept rea det misv iit mlen at_ merr wro cmd to1 to2 mnow msav ahe bef hst noi own inp) H) (hD : va_D A (WL cy q qm ro rd out outD isv te re de now spa sna len sig nxt cnt rng thr kept rea det misv iit mlen at_ merr wro cmd to1 to2 mnow msav ahe bef hst noi own inp)) (hS : va_S A s.heap H locs) (hcs : cells + 2 ≤ 3000 ∧ slots + 12 ≤ 12000) (kk : Go p l e s m args below meth c Q D A cy q qm ro rd sb i5 cells slots) : W p l e room_1 s m args below meth c H locs cells slots Q (F0 m 734 ls []) := by
  have hx := CX.1
  have hb := CX.2.1
  obtain ⟨k, re', de', now', nxt', cnt', rng', out', b, kept', mnow', hst', e1, e2, e3, G⟩ := S_draw G out thr (xs (i5 + 1).toNatClampNeg) (xs (i5 + 2).toNatClampNeg)
  refine lv_aload_n hx hb (dg ddL_law11 8 rfl) rfl (lv_at hl 1 rfl) ?_
  refine lv_aload_n hx hb (dg ddL_law11 9 rfl) rfl (lv_at hl 0 rfl) ?_
  refine lv_iload hx hb (dg ddL_law11 10 rfl) (lv_at hl 5 rfl) ?_
  refine lv_iconst (v := 1) hx hb (dg ddL_law11 11 rfl) (by decide) ?_
  refine lv_iadd hx hb (dg ddL_law11 12 rfl) ?_
  refine va_sld hx hb hXs hbl hbA hS hi1 (dg ddL_law11 13 rfl) ?_
  refine lv_aload_n hx hb (dg ddL_law11 14 rfl) rfl (lv_at hl 0 rfl) ?_
  refine lv_iload hx hb (dg ddL_law11 15 rfl) (lv_at hl 5 rfl) ?_
  refine lv_iconst (v := 2) hx hb (dg ddL_law11 16 rfl) (by decide) ?_
  refine lv_iadd hx hb (dg ddL_law11 17 rfl) ?_
  refine va_sld hx hb hXs hbl hbA hS hi2 (dg ddL_law11 18 rfl) ?_
  refine lv_aload_n hx hb (dg ddL_law11 19 rfl) rfl (lv_at hl 3 rfl) ?_
  refine crl_i CX hml (As := [.ref (q 0 0), .int (xs (i5 + 1).toNatClampNeg), .int (xs (i5 + 2).toNatClampNeg), .ref ro]) (rest := []) (c_L_draw l D cy q isv te re de now spa sna len sig nxt cnt rng ro out (xs (i5 + 1).toNatClampNeg) (xs (i5 + 2).toNatClampNeg) _ hst0 e1) lk_RL_170 rfl rfl ⟨(Nat.le_of_ble_eq_true rfl), (Nat.le_of_ble_eq_true rfl)⟩ hP hD hS hA hK hN hX hC pL1 pL1.symm rfl hl.1 rfl (Nat.le_of_ble_eq_true rfl) ⟨rmC (show cells + 1 ≤ 3000 by omega), rmS (show slots + 6 ≤ 12000 by omega)⟩ (dg ddL_law11 20 rfl) (fun H locs hP hD hS => ?_)
  have hP : va_P D vwCl (WL cy q qm ro rd out' outD isv te re' de' now' spa sna len sig nxt' cnt' rng' thr kept rea det misv iit mlen at_ merr wro cmd to1 to2 mnow msav ahe bef hst noi own inp) H := hP
  have hD : va_D A (WL cy q qm ro rd out' outD isv te re' de' now' spa sna len sig nxt' cnt' rng' thr kept rea det misv iit mlen at_ merr wro cmd to1 to2 mnow msav ahe bef hst noi own inp) := hD
  refine lv_istore (lv' := [(6, .int k), (0, .ref sb), (1, .ref (q 0 0)), (2, .ref (qm 0)), (3, .ref ro), (4, .ref rd), (5, .int i5)]) hx hb (dg ddL_law11 21 rfl) hl (by decide) rfl (fun ls hl => ?_)
  refine lv_aload_n hx hb (dg ddL_law11 22 rfl) rfl (lv_at hl 3 rfl) ?_
  refine lv_aload_n hx hb (dg ddL_law11 23 rfl) rfl (lv_at hl 1 rfl) ?_
  refine lv_iload hx hb (dg ddL_law11 24 rfl) (lv_at hl 6 rfl) ?_
  refine lv_iconst (v := 1) hx hb (dg ddL_law11 25 rfl) (by decide) ?_
  refine lv_iadd hx hb (dg ddL_law11 26 rfl) ?_
  refine va_sld hx hb hXs hbl hbA hS hi1 (dg ddL_law11 27 rfl) ?_
  refine lv_aload_n hx hb (dg ddL_law11 28 rfl) rfl (lv_at hl 1 rfl) ?_
  refine lv_iload hx hb (dg ddL_law11 29 rfl) (lv_at hl 6 rfl) ?_
  refine lv_iconst (v := 2) hx hb (dg ddL_law11 30 rfl) (by decide) ?_
  refine lv_iadd hx hb (dg ddL_law11 31 rfl) ?_
  refine va_sld hx hb hXs hbl hbA hS hi2 (dg ddL_law12 0 rfl) ?_
  refine crf_vi CX hml (As := [.int (xs (i5 + 1).toNatClampNeg), .int (xs (i5 + 2).toNatClampNeg)]) (rest := []) (c_X5_draw l D cy qm thr kept rea det misv iit mlen at_ merr wro cmd to1 to2 mnow msav ahe bef hst noi own inp (xs (i5 + 1).toNatClampNeg) (xs (i5 + 2).toNatClampNeg) _ e2) lk_RL_172 rfl rfl ⟨(Nat.le_of_ble_eq_true rfl), (Nat.le_of_ble_eq_true rfl)⟩ hP hD hS hA hK hN pL3 pL3.symm 0 rfl rfl rfl hl.1 rfl (Nat.le_of_ble_eq_true rfl) ⟨rmC (show cells + 1 ≤ 3000 by omega), rmS (show slots + 6 ≤ 12000 by omega)⟩ (dg ddL_law12 1 rfl) (fun H locs hP hD hS => ?_)
  have hP : va_P D vwCl (WL cy q qm ro rd out' outD isv te re' de' now' spa sna len sig nxt' cnt' rng' k kept' re' de' misv iit mlen at_ merr wro cmd to1 to2 mnow' msav ahe bef hst' noi own inp) H := hP
  have hD : va_D A (WL cy q qm ro rd out' outD isv te re' de' now' spa sna len sig nxt' cnt' rng' k kept' re' de' misv iit mlen at_ merr wro cmd to1 to2 mnow' msav ahe bef hst' noi own inp) := hD
  refine lv_istore (lv' := [(7, .int b), (6, .int k), (0, .ref sb), (1, .ref (q 0 0)), (2, .ref (qm 0)), (3, .ref ro), (4, .ref rd), (5, .int i5)]) hx hb (dg ddL_law12 2 rfl) hl (by decide) rfl (fun ls hl => ?_)
  refine lv_aload_n hx hb (dg ddL_law12 3 rfl) rfl (lv_at hl 4 rfl) ?_
  refine cro_vi CX hml (As := []) (rest := []) (c_X5_thrown l D cy qm k kept' re' de' misv iit mlen at_ merr wro cmd to1 to2 mnow' msav ahe bef hst' noi own inp rfl) lk_RL_144 rfl rfl ⟨(Nat.le_of_ble_eq_true rfl), (Nat.le_of_ble_eq_true rfl)⟩ (vaP_l (vaP_perm pL3 hP)) hK hN 0 rfl rfl rfl hl.1 rfl (Nat.le_of_ble_eq_true rfl) ⟨rmC (show cells + 1 ≤ 3000 by omega), rmS (show slots + 6 ≤ 12000 by omega)⟩ (dg ddL_law12 4 rfl) ?_
  refine lv_iload hx hb (dg ddL_law12 5 rfl) (lv_at hl 1 rfl) ?_
  refine lv_icmp_eq (tgt := 782) hx hb (dg ddL_law12 6 rfl) (by decide) (fun _ => ?_) (fun h => absurd rfl h)
  refine lv_iload hx hb (dg ddL_law12 9 rfl) (lv_at hl 1 rfl) ?_
  refine lv_if_ne (tgt := 799) hx hb (dg ddL_law12 10 rfl) (by decide) (fun hk => ?_) (fun hk => ?_)
  ·
    refine lv_goto (tgt := 2361) hx hb (dg ddL_law12 20 rfl) (by decide) ?_
    refine W.widen (k := cells + 2) (n := slots + 12) (by omega) (by omega) ?_
    exact kk out' outD isv te re' de' now' spa sna len sig nxt' cnt' rng' k kept' re' de' misv iit mlen at_ merr wro cmd to1 to2 mnow' msav ahe bef hst' noi own inp H locs ls G (lv_sub hl [2, 3, 4, 5, 6, 7] rfl) hP hD hS
  ·
    refine lv_aload_n hx hb (dg ddL_law12 11 rfl) rfl (lv_at hl 5 rfl) ?_
    refine lv_iconst (v := 0) hx hb (dg ddL_law12 12 rfl) (by decide) ?_
    refine va_lald hx hb hK hP 0 5 rfl rfl (i := 0) (inb_in (show inb 0 1 = true by decide)) (dg ddL_law12 13 rfl) ?_
    rw [show out' (0 : Int32).toNatClampNeg = b.toInt64 from e3 hk]
    refine lv_iload hx hb (dg ddL_law12 14 rfl) (lv_at hl 0 rfl) ?_
    refine lv_i2l (v := b.toInt64) hx hb (dg ddL_law12 15 rfl) rfl ?_
    refine W.lcmp hx hb (dg ddL_law12 16 rfl) ?_
    refine lv_if_eq (tgt := 799) hx hb (dg ddL_law12 17 rfl) (by decide) (fun _ => ?_) (fun h => absurd (lgc0 _) h)
    refine lv_goto (tgt := 2361) hx hb (dg ddL_law12 20 rfl) (by decide) ?_
    refine W.widen (k := cells + 2) (n := slots + 12) (by omega) (by omega) ?_
    exact kk out' outD isv te re' de' now' spa sna len sig nxt' cnt' rng' k kept' re' de' misv iit mlen at_ merr wro cmd to1 to2 mnow' msav ahe bef hst' noi own inp H locs ls G (lv_sub hl [2, 3, 4, 5, 6, 7] rfl) hP hD hS
set_option maxHeartbeats 4000000 in
set_option maxRecDepth 100000 in
theorem b_waiting (CX : Cx p s m c args cL_law RL) (hml : c.maxLocals = 9) (hK : va_K D vwCl (tyA cy) s) (hN : nst s) (hA : ∀ q, s.heap.size ≤ q → A q) (hX : exF A s s.heap) (hC : ncF s) (hst0 : l.stackTraces = false) (hXs : va_X sb L xs s s.heap) (hbl : sb < s.heap.size) (hbA : ¬ A sb) (hi1 : vp_in (i5 + 1) L) (hi2 : vp_in (i5 + 2) L) (G : GG isv te re de now sna len sig nxt cnt rng kept rea det misv iit mlen merr mnow msav hst inp) (hl : lv_has ls 9 [(0, .ref sb), (1, .ref (q 0 0)), (2, .ref (qm 0)), (3, .ref ro), (4, .ref rd), (5, .int i5)]) (hP : va_P D vwCl (WL cy q qm ro rd out outD isv te re de now spa sna len sig nxt cnt rng thr kept rea det misv iit mlen at_ merr wro cmd to1 to2 mnow msav ahe bef hst noi own inp) H) (hD : va_D A (WL cy q qm ro rd out outD isv te re de now spa sna len sig nxt cnt rng thr kept rea det misv iit mlen at_ merr wro cmd to1 to2 mnow msav ahe bef hst noi own inp)) (hS : va_S A s.heap H locs) (hcs : cells + 2 ≤ 3000 ∧ slots + 12 ≤ 12000) (kk : Go p l e s m args below meth c Q D A cy q qm ro rd sb i5 cells slots) : W p l e room_1 s m args below meth c H locs cells slots Q (F0 m 802 ls []) := by
  have hx := CX.1
  have hb := CX.2.1
  obtain ⟨k, out', b, e1, e2, e3⟩ := S_waiting G out thr (xs (i5 + 1).toNatClampNeg)
  refine lv_aload_n hx hb (dg ddL_law12 21 rfl) rfl (lv_at hl 1 rfl) ?_
  refine lv_aload_n hx hb (dg ddL_law12 22 rfl) rfl (lv_at hl 0 rfl) ?_
  refine lv_iload hx hb (dg ddL_law12 23 rfl) (lv_at hl 5 rfl) ?_
  refine lv_iconst (v := 1) hx hb (dg ddL_law12 24 rfl) (by decide) ?_
  refine lv_iadd hx hb (dg ddL_law12 25 rfl) ?_
  refine va_sld hx hb hXs hbl hbA hS hi1 (dg ddL_law12 26 rfl) ?_
  refine lv_aload_n hx hb (dg ddL_law12 27 rfl) rfl (lv_at hl 3 rfl) ?_
  refine crl_i CX hml (As := [.ref (q 0 0), .int (xs (i5 + 1).toNatClampNeg), .ref ro]) (rest := []) (c_L_waiting l D cy q isv te re de now spa sna len sig nxt cnt rng ro out (xs (i5 + 1).toNatClampNeg) _ hst0 e1) lk_RL_173 rfl rfl ⟨(Nat.le_of_ble_eq_true rfl), (Nat.le_of_ble_eq_true rfl)⟩ hP hD hS hA hK hN hX hC pL1 pL1.symm rfl hl.1 rfl (Nat.le_of_ble_eq_true rfl) ⟨rmC (show cells + 1 ≤ 3000 by omega), rmS (show slots + 6 ≤ 12000 by omega)⟩ (dg ddL_law12 28 rfl) (fun H locs hP hD hS => ?_)
  have hP : va_P D vwCl (WL cy q qm ro rd out' outD isv te re de now spa sna len sig nxt cnt rng thr kept rea det misv iit mlen at_ merr wro cmd to1 to2 mnow msav ahe bef hst noi own inp) H := hP
  have hD : va_D A (WL cy q qm ro rd out' outD isv te re de now spa sna len sig nxt cnt rng thr kept rea det misv iit mlen at_ merr wro cmd to1 to2 mnow msav ahe bef hst noi own inp) := hD
  refine lv_istore (lv' := [(6, .int k), (0, .ref sb), (1, .ref (q 0 0)), (2, .ref (qm 0)), (3, .ref ro), (4, .ref rd), (5, .int i5)]) hx hb (dg ddL_law12 29 rfl) hl (by decide) rfl (fun ls hl => ?_)
  refine lv_aload_n hx hb (dg ddL_law12 30 rfl) rfl (lv_at hl 3 rfl) ?_
  refine lv_aload_n hx hb (dg ddL_law12 31 rfl) rfl (lv_at hl 1 rfl) ?_
  refine lv_iload hx hb (dg ddL_law13 0 rfl) (lv_at hl 6 rfl) ?_
  refine lv_iconst (v := 1) hx hb (dg ddL_law13 1 rfl) (by decide) ?_
  refine lv_iadd hx hb (dg ddL_law13 2 rfl) ?_
  refine va_sld hx hb hXs hbl hbA hS hi1 (dg ddL_law13 3 rfl) ?_
  refine crf_vi CX hml (As := [.int (xs (i5 + 1).toNatClampNeg)]) (rest := []) (c_X5_waiting l D cy qm thr kept rea det misv iit mlen at_ merr wro cmd to1 to2 mnow msav ahe bef hst noi own inp (xs (i5 + 1).toNatClampNeg) _ e2) lk_RL_175 rfl rfl ⟨(Nat.le_of_ble_eq_true rfl), (Nat.le_of_ble_eq_true rfl)⟩ hP hD hS hA hK hN pL3 pL3.symm 0 rfl rfl rfl hl.1 rfl (Nat.le_of_ble_eq_true rfl) ⟨rmC (show cells + 1 ≤ 3000 by omega), rmS (show slots + 6 ≤ 12000 by omega)⟩ (dg ddL_law13 4 rfl) (fun H locs hP hD hS => ?_)
  have hP : va_P D vwCl (WL cy q qm ro rd out' outD isv te re de now spa sna len sig nxt cnt rng k kept rea det misv iit mlen at_ merr wro cmd to1 to2 mnow msav ahe bef hst noi own inp) H := hP
  have hD : va_D A (WL cy q qm ro rd out' outD isv te re de now spa sna len sig nxt cnt rng k kept rea det misv iit mlen at_ merr wro cmd to1 to2 mnow msav ahe bef hst noi own inp) := hD
  refine lv_istore (lv' := [(7, .int b), (6, .int k), (0, .ref sb), (1, .ref (q 0 0)), (2, .ref (qm 0)), (3, .ref ro), (4, .ref rd), (5, .int i5)]) hx hb (dg ddL_law13 5 rfl) hl (by decide) rfl (fun ls hl => ?_)
  refine lv_aload_n hx hb (dg ddL_law13 6 rfl) rfl (lv_at hl 4 rfl) ?_
  refine cro_vi CX hml (As := []) (rest := []) (c_X5_thrown l D cy qm k kept rea det misv iit mlen at_ merr wro cmd to1 to2 mnow msav ahe bef hst noi own inp rfl) lk_RL_144 rfl rfl ⟨(Nat.le_of_ble_eq_true rfl), (Nat.le_of_ble_eq_true rfl)⟩ (vaP_l (vaP_perm pL3 hP)) hK hN 0 rfl rfl rfl hl.1 rfl (Nat.le_of_ble_eq_true rfl) ⟨rmC (show cells + 1 ≤ 3000 by omega), rmS (show slots + 6 ≤ 12000 by omega)⟩ (dg ddL_law13 7 rfl) ?_
  refine lv_iload hx hb (dg ddL_law13 8 rfl) (lv_at hl 1 rfl) ?_
  refine lv_icmp_eq (tgt := 838) hx hb (dg ddL_law13 9 rfl) (by decide) (fun _ => ?_) (fun h => absurd rfl h)
  refine lv_iload hx hb (dg ddL_law13 12 rfl) (lv_at hl 1 rfl) ?_
  refine lv_if_ne (tgt := 855) hx hb (dg ddL_law13 13 rfl) (by decide) (fun hk => ?_) (fun hk => ?_)
  ·
    refine lv_goto (tgt := 2361) hx hb (dg ddL_law13 23 rfl) (by decide) ?_
    refine W.widen (k := cells + 2) (n := slots + 12) (by omega) (by omega) ?_
    exact kk out' outD isv te re de now spa sna len sig nxt cnt rng k kept rea det misv iit mlen at_ merr wro cmd to1 to2 mnow msav ahe bef hst noi own inp H locs ls G (lv_sub hl [2, 3, 4, 5, 6, 7] rfl) hP hD hS
  ·
    refine lv_aload_n hx hb (dg ddL_law13 14 rfl) rfl (lv_at hl 5 rfl) ?_
    refine lv_iconst (v := 0) hx hb (dg ddL_law13 15 rfl) (by decide) ?_
    refine va_lald hx hb hK hP 0 5 rfl rfl (i := 0) (inb_in (show inb 0 1 = true by decide)) (dg ddL_law13 16 rfl) ?_
    rw [show out' (0 : Int32).toNatClampNeg = b.toInt64 from e3 hk]
    refine lv_iload hx hb (dg ddL_law13 17 rfl) (lv_at hl 0 rfl) ?_
    refine lv_i2l (v := b.toInt64) hx hb (dg ddL_law13 18 rfl) rfl ?_
    refine W.lcmp hx hb (dg ddL_law13 19 rfl) ?_
    refine lv_if_eq (tgt := 855) hx hb (dg ddL_law13 20 rfl) (by decide) (fun _ => ?_) (fun h => absurd (lgc0 _) h)
    refine lv_goto (tgt := 2361) hx hb (dg ddL_law13 23 rfl) (by decide) ?_
    refine W.widen (k := cells + 2) (n := slots + 12) (by omega) (by omega) ?_
    exact kk out' outD isv te re de now spa sna len sig nxt cnt rng k kept rea det misv iit mlen at_ merr wro cmd to1 to2 mnow msav ahe bef hst noi own inp H locs ls G (lv_sub hl [2, 3, 4, 5, 6, 7] rfl) hP hD hS
set_option maxHeartbeats 4000000 in
set_option maxRecDepth 100000 in
theorem b_leave (CX : Cx p s m c args cL_law RL) (hml : c.maxLocals = 9) (hK : va_K D vwCl (tyA cy) s) (hN : nst s) (hA : ∀ q, s.heap.size ≤ q → A q) (hX : exF A s s.heap) (hC : ncF s) (hst0 : l.stackTraces = false) (hXs : va_X sb L xs s s.heap) (hbl : sb < s.heap.size) (hbA : ¬ A sb) (hi1 : vp_in (i5 + 1) L) (hi2 : vp_in (i5 + 2) L) (G : GG isv te re de now sna len sig nxt cnt rng kept rea det misv iit mlen merr mnow msav hst inp) (hl : lv_has ls 9 [(0, .ref sb), (1, .ref (q 0 0)), (2, .ref (qm 0)), (3, .ref ro), (4, .ref rd), (5, .int i5)]) (hP : va_P D vwCl (WL cy q qm ro rd out outD isv te re de now spa sna len sig nxt cnt rng thr kept rea det misv iit mlen at_ merr wro cmd to1 to2 mnow msav ahe bef hst noi own inp) H) (hD : va_D A (WL cy q qm ro rd out outD isv te re de now spa sna len sig nxt cnt rng thr kept rea det misv iit mlen at_ merr wro cmd to1 to2 mnow msav ahe bef hst noi own inp)) (hS : va_S A s.heap H locs) (hcs : cells + 2 ≤ 3000 ∧ slots + 12 ≤ 12000) (kk : Go p l e s m args below meth c Q D A cy q qm ro rd sb i5 cells slots) : W p l e room_1 s m args below meth c H locs cells slots Q (F0 m 858 ls []) := by
  have hx := CX.1
  have hb := CX.2.1
  obtain ⟨k, re', de', now', nxt', cnt', rng', out', b, kept', mnow', hst', e1, e2, e3, G⟩ := S_leave G out thr (xs (i5 + 1).toNatClampNeg)
  refine lv_aload_n hx hb (dg ddL_law13 24 rfl) rfl (lv_at hl 1 rfl) ?_
  refine lv_aload_n hx hb (dg ddL_law13 25 rfl) rfl (lv_at hl 0 rfl) ?_
  refine lv_iload hx hb (dg ddL_law13 26 rfl) (lv_at hl 5 rfl) ?_
  refine lv_iconst (v := 1) hx hb (dg ddL_law13 27 rfl) (by decide) ?_
  refine lv_iadd hx hb (dg ddL_law13 28 rfl) ?_
  refine va_sld hx hb hXs hbl hbA hS hi1 (dg ddL_law13 29 rfl) ?_
  refine lv_aload_n hx hb (dg ddL_law13 30 rfl) rfl (lv_at hl 3 rfl) ?_
  refine crl_i CX hml (As := [.ref (q 0 0), .int (xs (i5 + 1).toNatClampNeg), .ref ro]) (rest := []) (c_L_leave l D cy q isv te re de now spa sna len sig nxt cnt rng ro out (xs (i5 + 1).toNatClampNeg) _ hst0 e1) lk_RL_176 rfl rfl ⟨(Nat.le_of_ble_eq_true rfl), (Nat.le_of_ble_eq_true rfl)⟩ hP hD hS hA hK hN hX hC pL1 pL1.symm rfl hl.1 rfl (Nat.le_of_ble_eq_true rfl) ⟨rmC (show cells + 1 ≤ 3000 by omega), rmS (show slots + 6 ≤ 12000 by omega)⟩ (dg ddL_law13 31 rfl) (fun H locs hP hD hS => ?_)
  have hP : va_P D vwCl (WL cy q qm ro rd out' outD isv te re' de' now' spa sna len sig nxt' cnt' rng' thr kept rea det misv iit mlen at_ merr wro cmd to1 to2 mnow msav ahe bef hst noi own inp) H := hP
  have hD : va_D A (WL cy q qm ro rd out' outD isv te re' de' now' spa sna len sig nxt' cnt' rng' thr kept rea det misv iit mlen at_ merr wro cmd to1 to2 mnow msav ahe bef hst noi own inp) := hD
  refine lv_istore (lv' := [(6, .int k), (0, .ref sb), (1, .ref (q 0 0)), (2, .ref (qm 0)), (3, .ref ro), (4, .ref rd), (5, .int i5)]) hx hb (dg ddL_law14 0 rfl) hl (by decide) rfl (fun ls hl => ?_)
  refine lv_aload_n hx hb (dg ddL_law14 1 rfl) rfl (lv_at hl 3 rfl) ?_
  refine lv_aload_n hx hb (dg ddL_law14 2 rfl) rfl (lv_at hl 1 rfl) ?_
  refine lv_iload hx hb (dg ddL_law14 3 rfl) (lv_at hl 6 rfl) ?_
  refine lv_iconst (v := 1) hx hb (dg ddL_law14 4 rfl) (by decide) ?_
  refine lv_iadd hx hb (dg ddL_law14 5 rfl) ?_
  refine va_sld hx hb hXs hbl hbA hS hi1 (dg ddL_law14 6 rfl) ?_
  refine crf_vi CX hml (As := [.int (xs (i5 + 1).toNatClampNeg)]) (rest := []) (c_X5_leave l D cy qm thr kept rea det misv iit mlen at_ merr wro cmd to1 to2 mnow msav ahe bef hst noi own inp (xs (i5 + 1).toNatClampNeg) _ e2) lk_RL_178 rfl rfl ⟨(Nat.le_of_ble_eq_true rfl), (Nat.le_of_ble_eq_true rfl)⟩ hP hD hS hA hK hN pL3 pL3.symm 0 rfl rfl rfl hl.1 rfl (Nat.le_of_ble_eq_true rfl) ⟨rmC (show cells + 1 ≤ 3000 by omega), rmS (show slots + 6 ≤ 12000 by omega)⟩ (dg ddL_law14 7 rfl) (fun H locs hP hD hS => ?_)
  have hP : va_P D vwCl (WL cy q qm ro rd out' outD isv te re' de' now' spa sna len sig nxt' cnt' rng' k kept' re' de' misv iit mlen at_ merr wro cmd to1 to2 mnow' msav ahe bef hst' noi own inp) H := hP
  have hD : va_D A (WL cy q qm ro rd out' outD isv te re' de' now' spa sna len sig nxt' cnt' rng' k kept' re' de' misv iit mlen at_ merr wro cmd to1 to2 mnow' msav ahe bef hst' noi own inp) := hD
  refine lv_istore (lv' := [(7, .int b), (6, .int k), (0, .ref sb), (1, .ref (q 0 0)), (2, .ref (qm 0)), (3, .ref ro), (4, .ref rd), (5, .int i5)]) hx hb (dg ddL_law14 8 rfl) hl (by decide) rfl (fun ls hl => ?_)
  refine lv_aload_n hx hb (dg ddL_law14 9 rfl) rfl (lv_at hl 4 rfl) ?_
  refine cro_vi CX hml (As := []) (rest := []) (c_X5_thrown l D cy qm k kept' re' de' misv iit mlen at_ merr wro cmd to1 to2 mnow' msav ahe bef hst' noi own inp rfl) lk_RL_144 rfl rfl ⟨(Nat.le_of_ble_eq_true rfl), (Nat.le_of_ble_eq_true rfl)⟩ (vaP_l (vaP_perm pL3 hP)) hK hN 0 rfl rfl rfl hl.1 rfl (Nat.le_of_ble_eq_true rfl) ⟨rmC (show cells + 1 ≤ 3000 by omega), rmS (show slots + 6 ≤ 12000 by omega)⟩ (dg ddL_law14 10 rfl) ?_
  refine lv_iload hx hb (dg ddL_law14 11 rfl) (lv_at hl 1 rfl) ?_
  refine lv_icmp_eq (tgt := 894) hx hb (dg ddL_law14 12 rfl) (by decide) (fun _ => ?_) (fun h => absurd rfl h)
  refine lv_iload hx hb (dg ddL_law14 15 rfl) (lv_at hl 1 rfl) ?_
  refine lv_if_ne (tgt := 911) hx hb (dg ddL_law14 16 rfl) (by decide) (fun hk => ?_) (fun hk => ?_)
  ·
    refine lv_goto (tgt := 2361) hx hb (dg ddL_law14 26 rfl) (by decide) ?_
    refine W.widen (k := cells + 2) (n := slots + 12) (by omega) (by omega) ?_
    exact kk out' outD isv te re' de' now' spa sna len sig nxt' cnt' rng' k kept' re' de' misv iit mlen at_ merr wro cmd to1 to2 mnow' msav ahe bef hst' noi own inp H locs ls G (lv_sub hl [2, 3, 4, 5, 6, 7] rfl) hP hD hS
  ·
    refine lv_aload_n hx hb (dg ddL_law14 17 rfl) rfl (lv_at hl 5 rfl) ?_
    refine lv_iconst (v := 0) hx hb (dg ddL_law14 18 rfl) (by decide) ?_
    refine va_lald hx hb hK hP 0 5 rfl rfl (i := 0) (inb_in (show inb 0 1 = true by decide)) (dg ddL_law14 19 rfl) ?_
    rw [show out' (0 : Int32).toNatClampNeg = b.toInt64 from e3 hk]
    refine lv_iload hx hb (dg ddL_law14 20 rfl) (lv_at hl 0 rfl) ?_
    refine lv_i2l (v := b.toInt64) hx hb (dg ddL_law14 21 rfl) rfl ?_
    refine W.lcmp hx hb (dg ddL_law14 22 rfl) ?_
    refine lv_if_eq (tgt := 911) hx hb (dg ddL_law14 23 rfl) (by decide) (fun _ => ?_) (fun h => absurd (lgc0 _) h)
    refine lv_goto (tgt := 2361) hx hb (dg ddL_law14 26 rfl) (by decide) ?_
    refine W.widen (k := cells + 2) (n := slots + 12) (by omega) (by omega) ?_
    exact kk out' outD isv te re' de' now' spa sna len sig nxt' cnt' rng' k kept' re' de' misv iit mlen at_ merr wro cmd to1 to2 mnow' msav ahe bef hst' noi own inp H locs ls G (lv_sub hl [2, 3, 4, 5, 6, 7] rfl) hP hD hS
set_option maxHeartbeats 4000000 in
set_option maxRecDepth 100000 in
theorem b_swap (CX : Cx p s m c args cL_law RL) (hml : c.maxLocals = 9) (hK : va_K D vwCl (tyA cy) s) (hN : nst s) (hA : ∀ q, s.heap.size ≤ q → A q) (hX : exF A s s.heap) (hC : ncF s) (hst0 : l.stackTraces = false) (hXs : va_X sb L xs s s.heap) (hbl : sb < s.heap.size) (hbA : ¬ A sb) (hi1 : vp_in (i5 + 1) L) (hi2 : vp_in (i5 + 2) L) (G : GG isv te re de now sna len sig nxt cnt rng kept rea det misv iit mlen merr mnow msav hst inp) (hl : lv_has ls 9 [(0, .ref sb), (1, .ref (q 0 0)), (2, .ref (qm 0)), (3, .ref ro), (4, .ref rd), (5, .int i5)]) (hP : va_P D vwCl (WL cy q qm ro rd out outD isv te re de now spa sna len sig nxt cnt rng thr kept rea det misv iit mlen at_ merr wro cmd to1 to2 mnow msav ahe bef hst noi own inp) H) (hD : va_D A (WL cy q qm ro rd out outD isv te re de now spa sna len sig nxt cnt rng thr kept rea det misv iit mlen at_ merr wro cmd to1 to2 mnow msav ahe bef hst noi own inp)) (hS : va_S A s.heap H locs) (hcs : cells + 2 ≤ 3000 ∧ slots + 12 ≤ 12000) (kk : Go p l e s m args below meth c Q D A cy q qm ro rd sb i5 cells slots) : W p l e room_1 s m args below meth c H locs cells slots Q (F0 m 914 ls []) := by
  have hx := CX.1
  have hb := CX.2.1
  obtain ⟨k, re', de', now', nxt', cnt', rng', out', b, kept', mnow', hst', e1, e2, e3, G⟩ := S_swap G out thr (xs (i5 + 1).toNatClampNeg) (xs (i5 + 2).toNatClampNeg)
  refine lv_aload_n hx hb (dg ddL_law14 27 rfl) rfl (lv_at hl 1 rfl) ?_
  refine lv_aload_n hx hb (dg ddL_law14 28 rfl) rfl (lv_at hl 0 rfl) ?_
  refine lv_iload hx hb (dg ddL_law14 29 rfl) (lv_at hl 5 rfl) ?_
  refine lv_iconst (v := 1) hx hb (dg ddL_law14 30 rfl) (by decide) ?_
  refine lv_iadd hx hb (dg ddL_law14 31 rfl) ?_
  refine va_sld hx hb hXs hbl hbA hS hi1 (dg ddL_law15 0 rfl) ?_
  refine lv_aload_n hx hb (dg ddL_law15 1 rfl) rfl (lv_at hl 0 rfl) ?_
  refine lv_iload hx hb (dg ddL_law15 2 rfl) (lv_at hl 5 rfl) ?_
  refine lv_iconst (v := 2) hx hb (dg ddL_law15 3 rfl) (by decide) ?_
  refine lv_iadd hx hb (dg ddL_law15 4 rfl) ?_
  refine va_sld hx hb hXs hbl hbA hS hi2 (dg ddL_law15 5 rfl) ?_
  refine lv_aload_n hx hb (dg ddL_law15 6 rfl) rfl (lv_at hl 3 rfl) ?_
  refine crl_i CX hml (As := [.ref (q 0 0), .int (xs (i5 + 1).toNatClampNeg), .int (xs (i5 + 2).toNatClampNeg), .ref ro]) (rest := []) (c_L_swap l D cy q isv te re de now spa sna len sig nxt cnt rng ro out (xs (i5 + 1).toNatClampNeg) (xs (i5 + 2).toNatClampNeg) _ hst0 e1) lk_RL_179 rfl rfl ⟨(Nat.le_of_ble_eq_true rfl), (Nat.le_of_ble_eq_true rfl)⟩ hP hD hS hA hK hN hX hC pL1 pL1.symm rfl hl.1 rfl (Nat.le_of_ble_eq_true rfl) ⟨rmC (show cells + 1 ≤ 3000 by omega), rmS (show slots + 6 ≤ 12000 by omega)⟩ (dg ddL_law15 7 rfl) (fun H locs hP hD hS => ?_)
  have hP : va_P D vwCl (WL cy q qm ro rd out' outD isv te re' de' now' spa sna len sig nxt' cnt' rng' thr kept rea det misv iit mlen at_ merr wro cmd to1 to2 mnow msav ahe bef hst noi own inp) H := hP
  have hD : va_D A (WL cy q qm ro rd out' outD isv te re' de' now' spa sna len sig nxt' cnt' rng' thr kept rea det misv iit mlen at_ merr wro cmd to1 to2 mnow msav ahe bef hst noi own inp) := hD
  refine lv_istore (lv' := [(6, .int k), (0, .ref sb), (1, .ref (q 0 0)), (2, .ref (qm 0)), (3, .ref ro), (4, .ref rd), (5, .int i5)]) hx hb (dg ddL_law15 8 rfl) hl (by decide) rfl (fun ls hl => ?_)
  refine lv_aload_n hx hb (dg ddL_law15 9 rfl) rfl (lv_at hl 3 rfl) ?_
  refine lv_aload_n hx hb (dg ddL_law15 10 rfl) rfl (lv_at hl 1 rfl) ?_
  refine lv_iload hx hb (dg ddL_law15 11 rfl) (lv_at hl 6 rfl) ?_
  refine lv_iconst (v := 1) hx hb (dg ddL_law15 12 rfl) (by decide) ?_
  refine lv_iadd hx hb (dg ddL_law15 13 rfl) ?_
  refine va_sld hx hb hXs hbl hbA hS hi1 (dg ddL_law15 14 rfl) ?_
  refine lv_aload_n hx hb (dg ddL_law15 15 rfl) rfl (lv_at hl 1 rfl) ?_
  refine lv_iload hx hb (dg ddL_law15 16 rfl) (lv_at hl 6 rfl) ?_
  refine lv_iconst (v := 2) hx hb (dg ddL_law15 17 rfl) (by decide) ?_
  refine lv_iadd hx hb (dg ddL_law15 18 rfl) ?_
  refine va_sld hx hb hXs hbl hbA hS hi2 (dg ddL_law15 19 rfl) ?_
  refine crf_vi CX hml (As := [.int (xs (i5 + 1).toNatClampNeg), .int (xs (i5 + 2).toNatClampNeg)]) (rest := []) (c_X5_swap l D cy qm thr kept rea det misv iit mlen at_ merr wro cmd to1 to2 mnow msav ahe bef hst noi own inp (xs (i5 + 1).toNatClampNeg) (xs (i5 + 2).toNatClampNeg) _ e2) lk_RL_181 rfl rfl ⟨(Nat.le_of_ble_eq_true rfl), (Nat.le_of_ble_eq_true rfl)⟩ hP hD hS hA hK hN pL3 pL3.symm 0 rfl rfl rfl hl.1 rfl (Nat.le_of_ble_eq_true rfl) ⟨rmC (show cells + 1 ≤ 3000 by omega), rmS (show slots + 6 ≤ 12000 by omega)⟩ (dg ddL_law15 20 rfl) (fun H locs hP hD hS => ?_)
  have hP : va_P D vwCl (WL cy q qm ro rd out' outD isv te re' de' now' spa sna len sig nxt' cnt' rng' k kept' re' de' misv iit mlen at_ merr wro cmd to1 to2 mnow' msav ahe bef hst' noi own inp) H := hP
  have hD : va_D A (WL cy q qm ro rd out' outD isv te re' de' now' spa sna len sig nxt' cnt' rng' k kept' re' de' misv iit mlen at_ merr wro cmd to1 to2 mnow' msav ahe bef hst' noi own inp) := hD
  refine lv_istore (lv' := [(7, .int b), (6, .int k), (0, .ref sb), (1, .ref (q 0 0)), (2, .ref (qm 0)), (3, .ref ro), (4, .ref rd), (5, .int i5)]) hx hb (dg ddL_law15 21 rfl) hl (by decide) rfl (fun ls hl => ?_)
  refine lv_aload_n hx hb (dg ddL_law15 22 rfl) rfl (lv_at hl 4 rfl) ?_
  refine cro_vi CX hml (As := []) (rest := []) (c_X5_thrown l D cy qm k kept' re' de' misv iit mlen at_ merr wro cmd to1 to2 mnow' msav ahe bef hst' noi own inp rfl) lk_RL_144 rfl rfl ⟨(Nat.le_of_ble_eq_true rfl), (Nat.le_of_ble_eq_true rfl)⟩ (vaP_l (vaP_perm pL3 hP)) hK hN 0 rfl rfl rfl hl.1 rfl (Nat.le_of_ble_eq_true rfl) ⟨rmC (show cells + 1 ≤ 3000 by omega), rmS (show slots + 6 ≤ 12000 by omega)⟩ (dg ddL_law15 23 rfl) ?_
  refine lv_iload hx hb (dg ddL_law15 24 rfl) (lv_at hl 1 rfl) ?_
  refine lv_icmp_eq (tgt := 962) hx hb (dg ddL_law15 25 rfl) (by decide) (fun _ => ?_) (fun h => absurd rfl h)
  refine lv_iload hx hb (dg ddL_law15 28 rfl) (lv_at hl 1 rfl) ?_
  refine lv_if_ne (tgt := 979) hx hb (dg ddL_law15 29 rfl) (by decide) (fun hk => ?_) (fun hk => ?_)
  ·
    refine lv_goto (tgt := 2361) hx hb (dg ddL_law16 7 rfl) (by decide) ?_
    refine W.widen (k := cells + 2) (n := slots + 12) (by omega) (by omega) ?_
    exact kk out' outD isv te re' de' now' spa sna len sig nxt' cnt' rng' k kept' re' de' misv iit mlen at_ merr wro cmd to1 to2 mnow' msav ahe bef hst' noi own inp H locs ls G (lv_sub hl [2, 3, 4, 5, 6, 7] rfl) hP hD hS
  ·
    refine lv_aload_n hx hb (dg ddL_law15 30 rfl) rfl (lv_at hl 5 rfl) ?_
    refine lv_iconst (v := 0) hx hb (dg ddL_law15 31 rfl) (by decide) ?_
    refine va_lald hx hb hK hP 0 5 rfl rfl (i := 0) (inb_in (show inb 0 1 = true by decide)) (dg ddL_law16 0 rfl) ?_
    rw [show out' (0 : Int32).toNatClampNeg = b.toInt64 from e3 hk]
    refine lv_iload hx hb (dg ddL_law16 1 rfl) (lv_at hl 0 rfl) ?_
    refine lv_i2l (v := b.toInt64) hx hb (dg ddL_law16 2 rfl) rfl ?_
    refine W.lcmp hx hb (dg ddL_law16 3 rfl) ?_
    refine lv_if_eq (tgt := 979) hx hb (dg ddL_law16 4 rfl) (by decide) (fun _ => ?_) (fun h => absurd (lgc0 _) h)
    refine lv_goto (tgt := 2361) hx hb (dg ddL_law16 7 rfl) (by decide) ?_
    refine W.widen (k := cells + 2) (n := slots + 12) (by omega) (by omega) ?_
    exact kk out' outD isv te re' de' now' spa sna len sig nxt' cnt' rng' k kept' re' de' misv iit mlen at_ merr wro cmd to1 to2 mnow' msav ahe bef hst' noi own inp H locs ls G (lv_sub hl [2, 3, 4, 5, 6, 7] rfl) hP hD hS
set_option maxHeartbeats 4000000 in
set_option maxRecDepth 100000 in
theorem b_noise (CX : Cx p s m c args cL_law RL) (hml : c.maxLocals = 9) (hK : va_K D vwCl (tyA cy) s) (hN : nst s) (hA : ∀ q, s.heap.size ≤ q → A q) (hX : exF A s s.heap) (hC : ncF s) (hst0 : l.stackTraces = false) (hXs : va_X sb L xs s s.heap) (hbl : sb < s.heap.size) (hbA : ¬ A sb) (hi1 : vp_in (i5 + 1) L) (hi2 : vp_in (i5 + 2) L) (G : GG isv te re de now sna len sig nxt cnt rng kept rea det misv iit mlen merr mnow msav hst inp) (hl : lv_has ls 9 [(0, .ref sb), (1, .ref (q 0 0)), (2, .ref (qm 0)), (3, .ref ro), (4, .ref rd), (5, .int i5)]) (hP : va_P D vwCl (WL cy q qm ro rd out outD isv te re de now spa sna len sig nxt cnt rng thr kept rea det misv iit mlen at_ merr wro cmd to1 to2 mnow msav ahe bef hst noi own inp) H) (hD : va_D A (WL cy q qm ro rd out outD isv te re de now spa sna len sig nxt cnt rng thr kept rea det misv iit mlen at_ merr wro cmd to1 to2 mnow msav ahe bef hst noi own inp)) (hS : va_S A s.heap H locs) (hcs : cells + 2 ≤ 3000 ∧ slots + 12 ≤ 12000) (kk : Go p l e s m args below meth c Q D A cy q qm ro rd sb i5 cells slots) : W p l e room_1 s m args below meth c H locs cells slots Q (F0 m 982 ls []) := by
  have hx := CX.1
  have hb := CX.2.1
  obtain ⟨k, out', b, e1, e2, e3⟩ := S_noise G out thr (xs (i5 + 1).toNatClampNeg)
  refine lv_aload_n hx hb (dg ddL_law16 8 rfl) rfl (lv_at hl 1 rfl) ?_
  refine lv_aload_n hx hb (dg ddL_law16 9 rfl) rfl (lv_at hl 0 rfl) ?_
  refine lv_iload hx hb (dg ddL_law16 10 rfl) (lv_at hl 5 rfl) ?_
  refine lv_iconst (v := 1) hx hb (dg ddL_law16 11 rfl) (by decide) ?_
  refine lv_iadd hx hb (dg ddL_law16 12 rfl) ?_
  refine va_sld hx hb hXs hbl hbA hS hi1 (dg ddL_law16 13 rfl) ?_
  refine lv_aload_n hx hb (dg ddL_law16 14 rfl) rfl (lv_at hl 3 rfl) ?_
  refine crl_i CX hml (As := [.ref (q 0 0), .int (xs (i5 + 1).toNatClampNeg), .ref ro]) (rest := []) (c_L_noise l D cy q isv te re de now spa sna len sig nxt cnt rng ro out (xs (i5 + 1).toNatClampNeg) _ hst0 e1) lk_RL_182 rfl rfl ⟨(Nat.le_of_ble_eq_true rfl), (Nat.le_of_ble_eq_true rfl)⟩ hP hD hS hA hK hN hX hC pL1 pL1.symm rfl hl.1 rfl (Nat.le_of_ble_eq_true rfl) ⟨rmC (show cells + 1 ≤ 3000 by omega), rmS (show slots + 6 ≤ 12000 by omega)⟩ (dg ddL_law16 15 rfl) (fun H locs hP hD hS => ?_)
  have hP : va_P D vwCl (WL cy q qm ro rd out' outD isv te re de now spa sna len sig nxt cnt rng thr kept rea det misv iit mlen at_ merr wro cmd to1 to2 mnow msav ahe bef hst noi own inp) H := hP
  have hD : va_D A (WL cy q qm ro rd out' outD isv te re de now spa sna len sig nxt cnt rng thr kept rea det misv iit mlen at_ merr wro cmd to1 to2 mnow msav ahe bef hst noi own inp) := hD
  refine lv_istore (lv' := [(6, .int k), (0, .ref sb), (1, .ref (q 0 0)), (2, .ref (qm 0)), (3, .ref ro), (4, .ref rd), (5, .int i5)]) hx hb (dg ddL_law16 16 rfl) hl (by decide) rfl (fun ls hl => ?_)
  refine lv_aload_n hx hb (dg ddL_law16 17 rfl) rfl (lv_at hl 3 rfl) ?_
  refine lv_aload_n hx hb (dg ddL_law16 18 rfl) rfl (lv_at hl 1 rfl) ?_
  refine lv_iload hx hb (dg ddL_law16 19 rfl) (lv_at hl 6 rfl) ?_
  refine lv_iconst (v := 1) hx hb (dg ddL_law16 20 rfl) (by decide) ?_
  refine lv_iadd hx hb (dg ddL_law16 21 rfl) ?_
  refine va_sld hx hb hXs hbl hbA hS hi1 (dg ddL_law16 22 rfl) ?_
  refine crf_vi CX hml (As := [.int (xs (i5 + 1).toNatClampNeg)]) (rest := []) (c_X5_noise l D cy qm thr kept rea det misv iit mlen at_ merr wro cmd to1 to2 mnow msav ahe bef hst noi own inp (xs (i5 + 1).toNatClampNeg) _ e2) lk_RL_184 rfl rfl ⟨(Nat.le_of_ble_eq_true rfl), (Nat.le_of_ble_eq_true rfl)⟩ hP hD hS hA hK hN pL3 pL3.symm 0 rfl rfl rfl hl.1 rfl (Nat.le_of_ble_eq_true rfl) ⟨rmC (show cells + 1 ≤ 3000 by omega), rmS (show slots + 6 ≤ 12000 by omega)⟩ (dg ddL_law16 23 rfl) (fun H locs hP hD hS => ?_)
  have hP : va_P D vwCl (WL cy q qm ro rd out' outD isv te re de now spa sna len sig nxt cnt rng k kept rea det misv iit mlen at_ merr wro cmd to1 to2 mnow msav ahe bef hst noi own inp) H := hP
  have hD : va_D A (WL cy q qm ro rd out' outD isv te re de now spa sna len sig nxt cnt rng k kept rea det misv iit mlen at_ merr wro cmd to1 to2 mnow msav ahe bef hst noi own inp) := hD
  refine lv_istore (lv' := [(7, .int b), (6, .int k), (0, .ref sb), (1, .ref (q 0 0)), (2, .ref (qm 0)), (3, .ref ro), (4, .ref rd), (5, .int i5)]) hx hb (dg ddL_law16 24 rfl) hl (by decide) rfl (fun ls hl => ?_)
  refine lv_aload_n hx hb (dg ddL_law16 25 rfl) rfl (lv_at hl 4 rfl) ?_
  refine cro_vi CX hml (As := []) (rest := []) (c_X5_thrown l D cy qm k kept rea det misv iit mlen at_ merr wro cmd to1 to2 mnow msav ahe bef hst noi own inp rfl) lk_RL_144 rfl rfl ⟨(Nat.le_of_ble_eq_true rfl), (Nat.le_of_ble_eq_true rfl)⟩ (vaP_l (vaP_perm pL3 hP)) hK hN 0 rfl rfl rfl hl.1 rfl (Nat.le_of_ble_eq_true rfl) ⟨rmC (show cells + 1 ≤ 3000 by omega), rmS (show slots + 6 ≤ 12000 by omega)⟩ (dg ddL_law16 26 rfl) ?_
  refine lv_iload hx hb (dg ddL_law16 27 rfl) (lv_at hl 1 rfl) ?_
  refine lv_icmp_eq (tgt := 1018) hx hb (dg ddL_law16 28 rfl) (by decide) (fun _ => ?_) (fun h => absurd rfl h)
  refine lv_iload hx hb (dg ddL_law16 31 rfl) (lv_at hl 1 rfl) ?_
  refine lv_if_ne (tgt := 1035) hx hb (dg ddL_law17 0 rfl) (by decide) (fun hk => ?_) (fun hk => ?_)
  ·
    refine lv_goto (tgt := 2361) hx hb (dg ddL_law17 10 rfl) (by decide) ?_
    refine W.widen (k := cells + 2) (n := slots + 12) (by omega) (by omega) ?_
    exact kk out' outD isv te re de now spa sna len sig nxt cnt rng k kept rea det misv iit mlen at_ merr wro cmd to1 to2 mnow msav ahe bef hst noi own inp H locs ls G (lv_sub hl [2, 3, 4, 5, 6, 7] rfl) hP hD hS
  ·
    refine lv_aload_n hx hb (dg ddL_law17 1 rfl) rfl (lv_at hl 5 rfl) ?_
    refine lv_iconst (v := 0) hx hb (dg ddL_law17 2 rfl) (by decide) ?_
    refine va_lald hx hb hK hP 0 5 rfl rfl (i := 0) (inb_in (show inb 0 1 = true by decide)) (dg ddL_law17 3 rfl) ?_
    rw [show out' (0 : Int32).toNatClampNeg = b.toInt64 from e3 hk]
    refine lv_iload hx hb (dg ddL_law17 4 rfl) (lv_at hl 0 rfl) ?_
    refine lv_i2l (v := b.toInt64) hx hb (dg ddL_law17 5 rfl) rfl ?_
    refine W.lcmp hx hb (dg ddL_law17 6 rfl) ?_
    refine lv_if_eq (tgt := 1035) hx hb (dg ddL_law17 7 rfl) (by decide) (fun _ => ?_) (fun h => absurd (lgc0 _) h)
    refine lv_goto (tgt := 2361) hx hb (dg ddL_law17 10 rfl) (by decide) ?_
    refine W.widen (k := cells + 2) (n := slots + 12) (by omega) (by omega) ?_
    exact kk out' outD isv te re de now spa sna len sig nxt cnt rng k kept rea det misv iit mlen at_ merr wro cmd to1 to2 mnow msav ahe bef hst noi own inp H locs ls G (lv_sub hl [2, 3, 4, 5, 6, 7] rfl) hP hD hS
set_option maxHeartbeats 4000000 in
set_option maxRecDepth 100000 in
theorem b_noiseAgain (CX : Cx p s m c args cL_law RL) (hml : c.maxLocals = 9) (hK : va_K D vwCl (tyA cy) s) (hN : nst s) (hA : ∀ q, s.heap.size ≤ q → A q) (hX : exF A s s.heap) (hC : ncF s) (hst0 : l.stackTraces = false) (hXs : va_X sb L xs s s.heap) (hbl : sb < s.heap.size) (hbA : ¬ A sb) (hi1 : vp_in (i5 + 1) L) (hi2 : vp_in (i5 + 2) L) (G : GG isv te re de now sna len sig nxt cnt rng kept rea det misv iit mlen merr mnow msav hst inp) (hl : lv_has ls 9 [(0, .ref sb), (1, .ref (q 0 0)), (2, .ref (qm 0)), (3, .ref ro), (4, .ref rd), (5, .int i5)]) (hP : va_P D vwCl (WL cy q qm ro rd out outD isv te re de now spa sna len sig nxt cnt rng thr kept rea det misv iit mlen at_ merr wro cmd to1 to2 mnow msav ahe bef hst noi own inp) H) (hD : va_D A (WL cy q qm ro rd out outD isv te re de now spa sna len sig nxt cnt rng thr kept rea det misv iit mlen at_ merr wro cmd to1 to2 mnow msav ahe bef hst noi own inp)) (hS : va_S A s.heap H locs) (hcs : cells + 2 ≤ 3000 ∧ slots + 12 ≤ 12000) (kk : Go p l e s m args below meth c Q D A cy q qm ro rd sb i5 cells slots) : W p l e room_1 s m args below meth c H locs cells slots Q (F0 m 1038 ls []) := by
  have hx := CX.1
  have hb := CX.2.1
  obtain ⟨k, now', out', b, own', e1, e2, e3, G⟩ := S_noiseAgain G out thr own (xs (i5 + 1).toNatClampNeg)
  refine lv_aload_n hx hb (dg ddL_law17 11 rfl) rfl (lv_at hl 1 rfl) ?_
  refine lv_aload_n hx hb (dg ddL_law17 12 rfl) rfl (lv_at hl 0 rfl) ?_
  refine lv_iload hx hb (dg ddL_law17 13 rfl) (lv_at hl 5 rfl) ?_
  refine lv_iconst (v := 1) hx hb (dg ddL_law17 14 rfl) (by decide) ?_
  refine lv_iadd hx hb (dg ddL_law17 15 rfl) ?_
  refine va_sld hx hb hXs hbl hbA hS hi1 (dg ddL_law17 16 rfl) ?_
  refine lv_aload_n hx hb (dg ddL_law17 17 rfl) rfl (lv_at hl 3 rfl) ?_
  refine crl_i CX hml (As := [.ref (q 0 0), .int (xs (i5 + 1).toNatClampNeg), .ref ro]) (rest := []) (c_L_noiseAgain l D cy q isv te re de now spa sna len sig nxt cnt rng ro out (xs (i5 + 1).toNatClampNeg) _ hst0 e1) lk_RL_185 rfl rfl ⟨(Nat.le_of_ble_eq_true rfl), (Nat.le_of_ble_eq_true rfl)⟩ hP hD hS hA hK hN hX hC pL1 pL1.symm rfl hl.1 rfl (Nat.le_of_ble_eq_true rfl) ⟨rmC (show cells + 1 ≤ 3000 by omega), rmS (show slots + 6 ≤ 12000 by omega)⟩ (dg ddL_law17 18 rfl) (fun H locs hP hD hS => ?_)
  have hP : va_P D vwCl (WL cy q qm ro rd out' outD isv te re de now' spa sna len sig nxt cnt rng thr kept rea det misv iit mlen at_ merr wro cmd to1 to2 mnow msav ahe bef hst noi own inp) H := hP
  have hD : va_D A (WL cy q qm ro rd out' outD isv te re de now' spa sna len sig nxt cnt rng thr kept rea det misv iit mlen at_ merr wro cmd to1 to2 mnow msav ahe bef hst noi own inp) := hD
  refine lv_istore (lv' := [(6, .int k), (0, .ref sb), (1, .ref (q 0 0)), (2, .ref (qm 0)), (3, .ref ro), (4, .ref rd), (5, .int i5)]) hx hb (dg ddL_law17 19 rfl) hl (by decide) rfl (fun ls hl => ?_)
  refine lv_aload_n hx hb (dg ddL_law17 20 rfl) rfl (lv_at hl 3 rfl) ?_
  refine lv_aload_n hx hb (dg ddL_law17 21 rfl) rfl (lv_at hl 1 rfl) ?_
  refine lv_iload hx hb (dg ddL_law17 22 rfl) (lv_at hl 6 rfl) ?_
  refine lv_iconst (v := 1) hx hb (dg ddL_law17 23 rfl) (by decide) ?_
  refine lv_iadd hx hb (dg ddL_law17 24 rfl) ?_
  refine va_sld hx hb hXs hbl hbA hS hi1 (dg ddL_law17 25 rfl) ?_
  refine crf_vi CX hml (As := [.int (xs (i5 + 1).toNatClampNeg)]) (rest := []) (c_X5_noiseAgain l D cy qm thr kept rea det misv iit mlen at_ merr wro cmd to1 to2 mnow msav ahe bef hst noi own inp (xs (i5 + 1).toNatClampNeg) _ e2) lk_RL_187 rfl rfl ⟨(Nat.le_of_ble_eq_true rfl), (Nat.le_of_ble_eq_true rfl)⟩ hP hD hS hA hK hN pL3 pL3.symm 0 rfl rfl rfl hl.1 rfl (Nat.le_of_ble_eq_true rfl) ⟨rmC (show cells + 1 ≤ 3000 by omega), rmS (show slots + 6 ≤ 12000 by omega)⟩ (dg ddL_law17 26 rfl) (fun H locs hP hD hS => ?_)
  have hP : va_P D vwCl (WL cy q qm ro rd out' outD isv te re de now' spa sna len sig nxt cnt rng k kept rea det misv iit mlen at_ merr wro cmd to1 to2 mnow msav ahe bef hst noi own' inp) H := hP
  have hD : va_D A (WL cy q qm ro rd out' outD isv te re de now' spa sna len sig nxt cnt rng k kept rea det misv iit mlen at_ merr wro cmd to1 to2 mnow msav ahe bef hst noi own' inp) := hD
  refine lv_istore (lv' := [(7, .int b), (6, .int k), (0, .ref sb), (1, .ref (q 0 0)), (2, .ref (qm 0)), (3, .ref ro), (4, .ref rd), (5, .int i5)]) hx hb (dg ddL_law17 27 rfl) hl (by decide) rfl (fun ls hl => ?_)
  refine lv_aload_n hx hb (dg ddL_law17 28 rfl) rfl (lv_at hl 4 rfl) ?_
  refine cro_vi CX hml (As := []) (rest := []) (c_X5_thrown l D cy qm k kept rea det misv iit mlen at_ merr wro cmd to1 to2 mnow msav ahe bef hst noi own' inp rfl) lk_RL_144 rfl rfl ⟨(Nat.le_of_ble_eq_true rfl), (Nat.le_of_ble_eq_true rfl)⟩ (vaP_l (vaP_perm pL3 hP)) hK hN 0 rfl rfl rfl hl.1 rfl (Nat.le_of_ble_eq_true rfl) ⟨rmC (show cells + 1 ≤ 3000 by omega), rmS (show slots + 6 ≤ 12000 by omega)⟩ (dg ddL_law17 29 rfl) ?_
  refine lv_iload hx hb (dg ddL_law17 30 rfl) (lv_at hl 1 rfl) ?_
  refine lv_icmp_eq (tgt := 1074) hx hb (dg ddL_law17 31 rfl) (by decide) (fun _ => ?_) (fun h => absurd rfl h)
  refine lv_iload hx hb (dg ddL_law18 2 rfl) (lv_at hl 1 rfl) ?_
  refine lv_if_ne (tgt := 1091) hx hb (dg ddL_law18 3 rfl) (by decide) (fun hk => ?_) (fun hk => ?_)
  ·
    refine lv_goto (tgt := 2361) hx hb (dg ddL_law18 13 rfl) (by decide) ?_
    refine W.widen (k := cells + 2) (n := slots + 12) (by omega) (by omega) ?_
    exact kk out' outD isv te re de now' spa sna len sig nxt cnt rng k kept rea det misv iit mlen at_ merr wro cmd to1 to2 mnow msav ahe bef hst noi own' inp H locs ls G (lv_sub hl [2, 3, 4, 5, 6, 7] rfl) hP hD hS
  ·
    refine lv_aload_n hx hb (dg ddL_law18 4 rfl) rfl (lv_at hl 5 rfl) ?_
    refine lv_iconst (v := 0) hx hb (dg ddL_law18 5 rfl) (by decide) ?_
    refine va_lald hx hb hK hP 0 5 rfl rfl (i := 0) (inb_in (show inb 0 1 = true by decide)) (dg ddL_law18 6 rfl) ?_
    rw [show out' (0 : Int32).toNatClampNeg = b.toInt64 from e3 hk]
    refine lv_iload hx hb (dg ddL_law18 7 rfl) (lv_at hl 0 rfl) ?_
    refine lv_i2l (v := b.toInt64) hx hb (dg ddL_law18 8 rfl) rfl ?_
    refine W.lcmp hx hb (dg ddL_law18 9 rfl) ?_
    refine lv_if_eq (tgt := 1091) hx hb (dg ddL_law18 10 rfl) (by decide) (fun _ => ?_) (fun h => absurd (lgc0 _) h)
    refine lv_goto (tgt := 2361) hx hb (dg ddL_law18 13 rfl) (by decide) ?_
    refine W.widen (k := cells + 2) (n := slots + 12) (by omega) (by omega) ?_
    exact kk out' outD isv te re de now' spa sna len sig nxt cnt rng k kept rea det misv iit mlen at_ merr wro cmd to1 to2 mnow msav ahe bef hst noi own' inp H locs ls G (lv_sub hl [2, 3, 4, 5, 6, 7] rfl) hP hD hS
set_option maxHeartbeats 4000000 in
set_option maxRecDepth 100000 in
theorem b_below (CX : Cx p s m c args cL_law RL) (hml : c.maxLocals = 9) (hK : va_K D vwCl (tyA cy) s) (hN : nst s) (hA : ∀ q, s.heap.size ≤ q → A q) (hX : exF A s s.heap) (hC : ncF s) (hst0 : l.stackTraces = false) (hXs : va_X sb L xs s s.heap) (hbl : sb < s.heap.size) (hbA : ¬ A sb) (hi1 : vp_in (i5 + 1) L) (hi2 : vp_in (i5 + 2) L) (G : GG isv te re de now sna len sig nxt cnt rng kept rea det misv iit mlen merr mnow msav hst inp) (hl : lv_has ls 9 [(0, .ref sb), (1, .ref (q 0 0)), (2, .ref (qm 0)), (3, .ref ro), (4, .ref rd), (5, .int i5)]) (hP : va_P D vwCl (WL cy q qm ro rd out outD isv te re de now spa sna len sig nxt cnt rng thr kept rea det misv iit mlen at_ merr wro cmd to1 to2 mnow msav ahe bef hst noi own inp) H) (hD : va_D A (WL cy q qm ro rd out outD isv te re de now spa sna len sig nxt cnt rng thr kept rea det misv iit mlen at_ merr wro cmd to1 to2 mnow msav ahe bef hst noi own inp)) (hS : va_S A s.heap H locs) (hcs : cells + 2 ≤ 3000 ∧ slots + 12 ≤ 12000) (kk : Go p l e s m args below meth c Q D A cy q qm ro rd sb i5 cells slots) : W p l e room_1 s m args below meth c H locs cells slots Q (F0 m 1094 ls []) := by
  have hx := CX.1
  have hb := CX.2.1
  obtain ⟨k, out', b, e1, e2, e3⟩ := S_below G outD thr (xs (i5 + 1).toNatClampNeg)
  refine lv_aload_n hx hb (dg ddL_law18 14 rfl) rfl (lv_at hl 1 rfl) ?_
  refine lv_aload_n hx hb (dg ddL_law18 15 rfl) rfl (lv_at hl 0 rfl) ?_
  refine lv_iload hx hb (dg ddL_law18 16 rfl) (lv_at hl 5 rfl) ?_
  refine lv_iconst (v := 1) hx hb (dg ddL_law18 17 rfl) (by decide) ?_
  refine lv_iadd hx hb (dg ddL_law18 18 rfl) ?_
  refine va_sld hx hb hXs hbl hbA hS hi1 (dg ddL_law18 19 rfl) ?_
  refine lv_aload hx hb (dg ddL_law18 20 rfl) (lv_at hl 4 rfl) ?_
  refine crl_i CX hml (As := [.ref (q 0 0), .int (xs (i5 + 1).toNatClampNeg), .ref rd]) (rest := []) (c_L_below l D cy q isv te re de now spa sna len sig nxt cnt rng rd outD (xs (i5 + 1).toNatClampNeg) _ hst0 e1) lk_RL_188 rfl rfl ⟨(Nat.le_of_ble_eq_true rfl), (Nat.le_of_ble_eq_true rfl)⟩ hP hD hS hA hK hN hX hC pL2 pL2.symm rfl hl.1 rfl (Nat.le_of_ble_eq_true rfl) ⟨rmC (show cells + 1 ≤ 3000 by omega), rmS (show slots + 6 ≤ 12000 by omega)⟩ (dg ddL_law18 21 rfl) (fun H locs hP hD hS => ?_)
  have hP : va_P D vwCl (WL cy q qm ro rd out out' isv te re de now spa sna len sig nxt cnt rng thr kept rea det misv iit mlen at_ merr wro cmd to1 to2 mnow msav ahe bef hst noi own inp) H := hP
  have hD : va_D A (WL cy q qm ro rd out out' isv te re de now spa sna len sig nxt cnt rng thr kept rea det misv iit mlen at_ merr wro cmd to1 to2 mnow msav ahe bef hst noi own inp) := hD
  refine lv_istore (lv' := [(6, .int k), (0, .ref sb), (1, .ref (q 0 0)), (2, .ref (qm 0)), (3, .ref ro), (4, .ref rd), (5, .int i5)]) hx hb (dg ddL_law18 22 rfl) hl (by decide) rfl (fun ls hl => ?_)
  refine lv_aload_n hx hb (dg ddL_law18 23 rfl) rfl (lv_at hl 3 rfl) ?_
  refine lv_aload_n hx hb (dg ddL_law18 24 rfl) rfl (lv_at hl 1 rfl) ?_
  refine lv_iload hx hb (dg ddL_law18 25 rfl) (lv_at hl 6 rfl) ?_
  refine lv_iconst (v := 1) hx hb (dg ddL_law18 26 rfl) (by decide) ?_
  refine lv_iadd hx hb (dg ddL_law18 27 rfl) ?_
  refine va_sld hx hb hXs hbl hbA hS hi1 (dg ddL_law18 28 rfl) ?_
  refine crf_vf CX hml (As := [.int (xs (i5 + 1).toNatClampNeg)]) (rest := []) (c_X5_below l D cy qm thr kept rea det misv iit mlen at_ merr wro cmd to1 to2 mnow msav ahe bef hst noi own inp (xs (i5 + 1).toNatClampNeg) _ e2) lk_RL_190 rfl rfl ⟨(Nat.le_of_ble_eq_true rfl), (Nat.le_of_ble_eq_true rfl)⟩ hP hD hS hA hK hN pL3 pL3.symm 0 rfl rfl rfl hl.1 rfl (Nat.le_of_ble_eq_true rfl) ⟨rmC (show cells + 1 ≤ 3000 by omega), rmS (show slots + 6 ≤ 12000 by omega)⟩ (dg ddL_law18 29 rfl) (fun H locs hP hD hS => ?_)
  have hP : va_P D vwCl (WL cy q qm ro rd out out' isv te re de now spa sna len sig nxt cnt rng k kept rea det misv iit mlen at_ merr wro cmd to1 to2 mnow msav ahe bef hst noi own inp) H := hP
  have hD : va_D A (WL cy q qm ro rd out out' isv te re de now spa sna len sig nxt cnt rng k kept rea det misv iit mlen at_ merr wro cmd to1 to2 mnow msav ahe bef hst noi own inp) := hD
  refine lv_fstore (lv' := [(7, .float b), (6, .int k), (0, .ref sb), (1, .ref (q 0 0)), (2, .ref (qm 0)), (3, .ref ro), (4, .ref rd), (5, .int i5)]) hx hb (dg ddL_law18 30 rfl) hl (by decide) rfl (fun ls hl => ?_)
  refine lv_aload_n hx hb (dg ddL_law18 31 rfl) rfl (lv_at hl 4 rfl) ?_
  refine cro_vi CX hml (As := []) (rest := []) (c_X5_thrown l D cy qm k kept rea det misv iit mlen at_ merr wro cmd to1 to2 mnow msav ahe bef hst noi own inp rfl) lk_RL_144 rfl rfl ⟨(Nat.le_of_ble_eq_true rfl), (Nat.le_of_ble_eq_true rfl)⟩ (vaP_l (vaP_perm pL3 hP)) hK hN 0 rfl rfl rfl hl.1 rfl (Nat.le_of_ble_eq_true rfl) ⟨rmC (show cells + 1 ≤ 3000 by omega), rmS (show slots + 6 ≤ 12000 by omega)⟩ (dg ddL_law19 0 rfl) ?_
  refine lv_iload hx hb (dg ddL_law19 1 rfl) (lv_at hl 1 rfl) ?_
  refine lv_icmp_eq (tgt := 1131) hx hb (dg ddL_law19 2 rfl) (by decide) (fun _ => ?_) (fun h => absurd rfl h)
  refine lv_iload hx hb (dg ddL_law19 5 rfl) (lv_at hl 1 rfl) ?_
  refine lv_if_ne (tgt := 1169) hx hb (dg ddL_law19 6 rfl) (by decide) (fun hk => ?_) (fun hk => ?_)
  ·
    refine lv_goto (tgt := 2361) hx hb (dg ddL_law19 28 rfl) (by decide) ?_
    refine W.widen (k := cells + 2) (n := slots + 12) (by omega) (by omega) ?_
    exact kk out out' isv te re de now spa sna len sig nxt cnt rng k kept rea det misv iit mlen at_ merr wro cmd to1 to2 mnow msav ahe bef hst noi own inp H locs ls G (lv_sub hl [2, 3, 4, 5, 6, 7] rfl) hP hD hS
  ·
    refine lv_aload hx hb (dg ddL_law19 7 rfl) (lv_at hl 6 rfl) ?_
    refine lv_iconst (v := 0) hx hb (dg ddL_law19 8 rfl) (by decide) ?_
    refine va_dald hx hb hK hP 1 6 rfl rfl (i := 0) (inb_in (show inb 0 1 = true by decide)) (dg ddL_law19 9 rfl) ?_
    refine lv_fload hx hb (dg ddL_law19 10 rfl) (lv_at hl 0 rfl) ?_
    refine lv_f2d hx hb (dg ddL_law19 11 rfl) (n64_in (e3 hk).1) ?_
    refine lv_dcmp hx hb (dg ddL_law19 12 rfl) ?_
    refine lv_if_eq (tgt := 1169) hx hb (dg ddL_law19 13 rfl) (by decide) (fun _ => ?_) (fun h => absurd (e3 hk).2 h)
    refine lv_goto (tgt := 2361) hx hb (dg ddL_law19 28 rfl) (by decide) ?_
    refine W.widen (k := cells + 2) (n := slots + 12) (by omega) (by omega) ?_
    exact kk out out' isv te re de now spa sna len sig nxt cnt rng k kept rea det misv iit mlen at_ merr wro cmd to1 to2 mnow msav ahe bef hst noi own inp H locs ls G (lv_sub hl [2, 3, 4, 5, 6, 7] rfl) hP hD hS
set_option maxHeartbeats 4000000 in
set_option maxRecDepth 100000 in
theorem b_noiseWith (CX : Cx p s m c args cL_law RL) (hml : c.maxLocals = 9) (hK : va_K D vwCl (tyA cy) s) (hN : nst s) (hA : ∀ q, s.heap.size ≤ q → A q) (hX : exF A s s.heap) (hC : ncF s) (hst0 : l.stackTraces = false) (hXs : va_X sb L xs s s.heap) (hbl : sb < s.heap.size) (hbA : ¬ A sb) (hi1 : vp_in (i5 + 1) L) (hi2 : vp_in (i5 + 2) L) (G : GG isv te re de now sna len sig nxt cnt rng kept rea det misv iit mlen merr mnow msav hst inp) (hl : lv_has ls 9 [(0, .ref sb), (1, .ref (q 0 0)), (2, .ref (qm 0)), (3, .ref ro), (4, .ref rd), (5, .int i5)]) (hP : va_P D vwCl (WL cy q qm ro rd out outD isv te re de now spa sna len sig nxt cnt rng thr kept rea det misv iit mlen at_ merr wro cmd to1 to2 mnow msav ahe bef hst noi own inp) H) (hD : va_D A (WL cy q qm ro rd out outD isv te re de now spa sna len sig nxt cnt rng thr kept rea det misv iit mlen at_ merr wro cmd to1 to2 mnow msav ahe bef hst noi own inp)) (hS : va_S A s.heap H locs) (hcs : cells + 2 ≤ 3000 ∧ slots + 12 ≤ 12000) (kk : Go p l e s m args below meth c Q D A cy q qm ro rd sb i5 cells slots) : W p l e room_1 s m args below meth c H locs cells slots Q (F0 m 1172 ls []) := by
  have hx := CX.1
  have hb := CX.2.1
  obtain ⟨k, out', b, e1, e2, e3⟩ := S_noiseWith G out thr (xs (i5 + 1).toNatClampNeg) (xs (i5 + 2).toNatClampNeg)
  refine lv_aload_n hx hb (dg ddL_law19 29 rfl) rfl (lv_at hl 1 rfl) ?_
  refine lv_aload_n hx hb (dg ddL_law19 30 rfl) rfl (lv_at hl 0 rfl) ?_
  refine lv_iload hx hb (dg ddL_law19 31 rfl) (lv_at hl 5 rfl) ?_
  refine lv_iconst (v := 1) hx hb (dg ddL_law20 0 rfl) (by decide) ?_
  refine lv_iadd hx hb (dg ddL_law20 1 rfl) ?_
  refine va_sld hx hb hXs hbl hbA hS hi1 (dg ddL_law20 2 rfl) ?_
  refine lv_aload_n hx hb (dg ddL_law20 3 rfl) rfl (lv_at hl 0 rfl) ?_
  refine lv_iload hx hb (dg ddL_law20 4 rfl) (lv_at hl 5 rfl) ?_
  refine lv_iconst (v := 2) hx hb (dg ddL_law20 5 rfl) (by decide) ?_
  refine lv_iadd hx hb (dg ddL_law20 6 rfl) ?_
  refine va_sld hx hb hXs hbl hbA hS hi2 (dg ddL_law20 7 rfl) ?_
  refine lv_aload_n hx hb (dg ddL_law20 8 rfl) rfl (lv_at hl 3 rfl) ?_
  refine crl_i CX hml (As := [.ref (q 0 0), .int (xs (i5 + 1).toNatClampNeg), .int (xs (i5 + 2).toNatClampNeg), .ref ro]) (rest := []) (c_L_noiseWith l D cy q isv te re de now spa sna len sig nxt cnt rng ro out (xs (i5 + 1).toNatClampNeg) (xs (i5 + 2).toNatClampNeg) _ hst0 e1) lk_RL_191 rfl rfl ⟨(Nat.le_of_ble_eq_true rfl), (Nat.le_of_ble_eq_true rfl)⟩ hP hD hS hA hK hN hX hC pL1 pL1.symm rfl hl.1 rfl (Nat.le_of_ble_eq_true rfl) ⟨rmC (show cells + 2 ≤ 3000 by omega), rmS (show slots + 12 ≤ 12000 by omega)⟩ (dg ddL_law20 9 rfl) (fun H locs hP hD hS => ?_)
  have hP : va_P D vwCl (WL cy q qm ro rd out' outD isv te re de now spa sna len sig nxt cnt rng thr kept rea det misv iit mlen at_ merr wro cmd to1 to2 mnow msav ahe bef hst noi own inp) H := hP
  have hD : va_D A (WL cy q qm ro rd out' outD isv te re de now spa sna len sig nxt cnt rng thr kept rea det misv iit mlen at_ merr wro cmd to1 to2 mnow msav ahe bef hst noi own inp) := hD
  refine lv_istore (lv' := [(6, .int k), (0, .ref sb), (1, .ref (q 0 0)), (2, .ref (qm 0)), (3, .ref ro), (4, .ref rd), (5, .int i5)]) hx hb (dg ddL_law20 10 rfl) hl (by decide) rfl (fun ls hl => ?_)
  refine lv_aload_n hx hb (dg ddL_law20 11 rfl) rfl (lv_at hl 3 rfl) ?_
  refine lv_aload_n hx hb (dg ddL_law20 12 rfl) rfl (lv_at hl 1 rfl) ?_
  refine lv_iload hx hb (dg ddL_law20 13 rfl) (lv_at hl 6 rfl) ?_
  refine lv_iconst (v := 1) hx hb (dg ddL_law20 14 rfl) (by decide) ?_
  refine lv_iadd hx hb (dg ddL_law20 15 rfl) ?_
  refine va_sld hx hb hXs hbl hbA hS hi1 (dg ddL_law20 16 rfl) ?_
  refine lv_aload_n hx hb (dg ddL_law20 17 rfl) rfl (lv_at hl 1 rfl) ?_
  refine lv_iload hx hb (dg ddL_law20 18 rfl) (lv_at hl 6 rfl) ?_
  refine lv_iconst (v := 2) hx hb (dg ddL_law20 19 rfl) (by decide) ?_
  refine lv_iadd hx hb (dg ddL_law20 20 rfl) ?_
  refine va_sld hx hb hXs hbl hbA hS hi2 (dg ddL_law20 21 rfl) ?_
  refine crf_vi CX hml (As := [.int (xs (i5 + 1).toNatClampNeg), .int (xs (i5 + 2).toNatClampNeg)]) (rest := []) (c_X5_noiseWith l D cy qm thr kept rea det misv iit mlen at_ merr wro cmd to1 to2 mnow msav ahe bef hst noi own inp (xs (i5 + 1).toNatClampNeg) (xs (i5 + 2).toNatClampNeg) _ e2) lk_RL_193 rfl rfl ⟨(Nat.le_of_ble_eq_true rfl), (Nat.le_of_ble_eq_true rfl)⟩ hP hD hS hA hK hN pL3 pL3.symm 0 rfl rfl rfl hl.1 rfl (Nat.le_of_ble_eq_true rfl) ⟨rmC (show cells + 2 ≤ 3000 by omega), rmS (show slots + 12 ≤ 12000 by omega)⟩ (dg ddL_law20 22 rfl) (fun H locs hP hD hS => ?_)
  have hP : va_P D vwCl (WL cy q qm ro rd out' outD isv te re de now spa sna len sig nxt cnt rng k kept rea det misv iit mlen at_ merr wro cmd to1 to2 mnow msav ahe bef hst noi own inp) H := hP
  have hD : va_D A (WL cy q qm ro rd out' outD isv te re de now spa sna len sig nxt cnt rng k kept rea det misv iit mlen at_ merr wro cmd to1 to2 mnow msav ahe bef hst noi own inp) := hD
  refine lv_istore (lv' := [(7, .int b), (6, .int k), (0, .ref sb), (1, .ref (q 0 0)), (2, .ref (qm 0)), (3, .ref ro), (4, .ref rd), (5, .int i5)]) hx hb (dg ddL_law20 23 rfl) hl (by decide) rfl (fun ls hl => ?_)
  refine lv_aload_n hx hb (dg ddL_law20 24 rfl) rfl (lv_at hl 4 rfl) ?_
  refine cro_vi CX hml (As := []) (rest := []) (c_X5_thrown l D cy qm k kept rea det misv iit mlen at_ merr wro cmd to1 to2 mnow msav ahe bef hst noi own inp rfl) lk_RL_144 rfl rfl ⟨(Nat.le_of_ble_eq_true rfl), (Nat.le_of_ble_eq_true rfl)⟩ (vaP_l (vaP_perm pL3 hP)) hK hN 0 rfl rfl rfl hl.1 rfl (Nat.le_of_ble_eq_true rfl) ⟨rmC (show cells + 2 ≤ 3000 by omega), rmS (show slots + 12 ≤ 12000 by omega)⟩ (dg ddL_law20 25 rfl) ?_
  refine lv_iload hx hb (dg ddL_law20 26 rfl) (lv_at hl 1 rfl) ?_
  refine lv_icmp_eq (tgt := 1220) hx hb (dg ddL_law20 27 rfl) (by decide) (fun _ => ?_) (fun h => absurd rfl h)
  refine lv_iload hx hb (dg ddL_law20 30 rfl) (lv_at hl 1 rfl) ?_
  refine lv_if_ne (tgt := 1237) hx hb (dg ddL_law20 31 rfl) (by decide) (fun hk => ?_) (fun hk => ?_)
  ·
    refine lv_goto (tgt := 2361) hx hb (dg ddL_law21 9 rfl) (by decide) ?_
    refine W.widen (k := cells + 2) (n := slots + 12) (by omega) (by omega) ?_
    exact kk out' outD isv te re de now spa sna len sig nxt cnt rng k kept rea det misv iit mlen at_ merr wro cmd to1 to2 mnow msav ahe bef hst noi own inp H locs ls G (lv_sub hl [2, 3, 4, 5, 6, 7] rfl) hP hD hS
  ·
    refine lv_aload_n hx hb (dg ddL_law21 0 rfl) rfl (lv_at hl 5 rfl) ?_
    refine lv_iconst (v := 0) hx hb (dg ddL_law21 1 rfl) (by decide) ?_
    refine va_lald hx hb hK hP 0 5 rfl rfl (i := 0) (inb_in (show inb 0 1 = true by decide)) (dg ddL_law21 2 rfl) ?_
    rw [show out' (0 : Int32).toNatClampNeg = b.toInt64 from e3 hk]
    refine lv_iload hx hb (dg ddL_law21 3 rfl) (lv_at hl 0 rfl) ?_
    refine lv_i2l (v := b.toInt64) hx hb (dg ddL_law21 4 rfl) rfl ?_
    refine W.lcmp hx hb (dg ddL_law21 5 rfl) ?_
    refine lv_if_eq (tgt := 1237) hx hb (dg ddL_law21 6 rfl) (by decide) (fun _ => ?_) (fun h => absurd (lgc0 _) h)
    refine lv_goto (tgt := 2361) hx hb (dg ddL_law21 9 rfl) (by decide) ?_
    refine W.widen (k := cells + 2) (n := slots + 12) (by omega) (by omega) ?_
    exact kk out' outD isv te re de now spa sna len sig nxt cnt rng k kept rea det misv iit mlen at_ merr wro cmd to1 to2 mnow msav ahe bef hst noi own inp H locs ls G (lv_sub hl [2, 3, 4, 5, 6, 7] rfl) hP hD hS
set_option maxHeartbeats 4000000 in
set_option maxRecDepth 100000 in
theorem b_quietest (CX : Cx p s m c args cL_law RL) (hml : c.maxLocals = 9) (hK : va_K D vwCl (tyA cy) s) (hN : nst s) (hA : ∀ q, s.heap.size ≤ q → A q) (hX : exF A s s.heap) (hC : ncF s) (hst0 : l.stackTraces = false) (hXs : va_X sb L xs s s.heap) (hbl : sb < s.heap.size) (hbA : ¬ A sb) (hi1 : vp_in (i5 + 1) L) (hi2 : vp_in (i5 + 2) L) (G : GG isv te re de now sna len sig nxt cnt rng kept rea det misv iit mlen merr mnow msav hst inp) (hl : lv_has ls 9 [(0, .ref sb), (1, .ref (q 0 0)), (2, .ref (qm 0)), (3, .ref ro), (4, .ref rd), (5, .int i5)]) (hP : va_P D vwCl (WL cy q qm ro rd out outD isv te re de now spa sna len sig nxt cnt rng thr kept rea det misv iit mlen at_ merr wro cmd to1 to2 mnow msav ahe bef hst noi own inp) H) (hD : va_D A (WL cy q qm ro rd out outD isv te re de now spa sna len sig nxt cnt rng thr kept rea det misv iit mlen at_ merr wro cmd to1 to2 mnow msav ahe bef hst noi own inp)) (hS : va_S A s.heap H locs) (hcs : cells + 2 ≤ 3000 ∧ slots + 12 ≤ 12000) (kk : Go p l e s m args below meth c Q D A cy q qm ro rd sb i5 cells slots) : W p l e room_1 s m args below meth c H locs cells slots Q (F0 m 1240 ls []) := by
  have hx := CX.1
  have hb := CX.2.1
  obtain ⟨k, out', b, e1, e2, e3⟩ := S_quietest G out thr (xs (i5 + 1).toNatClampNeg)
  refine lv_aload_n hx hb (dg ddL_law21 10 rfl) rfl (lv_at hl 1 rfl) ?_
  refine lv_aload_n hx hb (dg ddL_law21 11 rfl) rfl (lv_at hl 0 rfl) ?_
  refine lv_iload hx hb (dg ddL_law21 12 rfl) (lv_at hl 5 rfl) ?_
  refine lv_iconst (v := 1) hx hb (dg ddL_law21 13 rfl) (by decide) ?_
  refine lv_iadd hx hb (dg ddL_law21 14 rfl) ?_
  refine va_sld hx hb hXs hbl hbA hS hi1 (dg ddL_law21 15 rfl) ?_
  refine lv_aload_n hx hb (dg ddL_law21 16 rfl) rfl (lv_at hl 3 rfl) ?_
  refine crl_i CX hml (As := [.ref (q 0 0), .int (xs (i5 + 1).toNatClampNeg), .ref ro]) (rest := []) (c_L_quietest l D cy q isv te re de now spa sna len sig nxt cnt rng ro out (xs (i5 + 1).toNatClampNeg) _ hst0 e1) lk_RL_194 rfl rfl ⟨(Nat.le_of_ble_eq_true rfl), (Nat.le_of_ble_eq_true rfl)⟩ hP hD hS hA hK hN hX hC pL1 pL1.symm rfl hl.1 rfl (Nat.le_of_ble_eq_true rfl) ⟨rmC (show cells + 2 ≤ 3000 by omega), rmS (show slots + 12 ≤ 12000 by omega)⟩ (dg ddL_law21 17 rfl) (fun H locs hP hD hS => ?_)
  have hP : va_P D vwCl (WL cy q qm ro rd out' outD isv te re de now spa sna len sig nxt cnt rng thr kept rea det misv iit mlen at_ merr wro cmd to1 to2 mnow msav ahe bef hst noi own inp) H := hP
  have hD : va_D A (WL cy q qm ro rd out' outD isv te re de now spa sna len sig nxt cnt rng thr kept rea det misv iit mlen at_ merr wro cmd to1 to2 mnow msav ahe bef hst noi own inp) := hD
  refine lv_istore (lv' := [(6, .int k), (0, .ref sb), (1, .ref (q 0 0)), (2, .ref (qm 0)), (3, .ref ro), (4, .ref rd), (5, .int i5)]) hx hb (dg ddL_law21 18 rfl) hl (by decide) rfl (fun ls hl => ?_)
  refine lv_aload_n hx hb (dg ddL_law21 19 rfl) rfl (lv_at hl 3 rfl) ?_
  refine lv_aload_n hx hb (dg ddL_law21 20 rfl) rfl (lv_at hl 1 rfl) ?_
  refine lv_iload hx hb (dg ddL_law21 21 rfl) (lv_at hl 6 rfl) ?_
  refine lv_iconst (v := 1) hx hb (dg ddL_law21 22 rfl) (by decide) ?_
  refine lv_iadd hx hb (dg ddL_law21 23 rfl) ?_
  refine va_sld hx hb hXs hbl hbA hS hi1 (dg ddL_law21 24 rfl) ?_
  refine crf_vi CX hml (As := [.int (xs (i5 + 1).toNatClampNeg)]) (rest := []) (c_X5_quietest l D cy qm thr kept rea det misv iit mlen at_ merr wro cmd to1 to2 mnow msav ahe bef hst noi own inp (xs (i5 + 1).toNatClampNeg) _ e2) lk_RL_196 rfl rfl ⟨(Nat.le_of_ble_eq_true rfl), (Nat.le_of_ble_eq_true rfl)⟩ hP hD hS hA hK hN pL3 pL3.symm 0 rfl rfl rfl hl.1 rfl (Nat.le_of_ble_eq_true rfl) ⟨rmC (show cells + 2 ≤ 3000 by omega), rmS (show slots + 12 ≤ 12000 by omega)⟩ (dg ddL_law21 25 rfl) (fun H locs hP hD hS => ?_)
  have hP : va_P D vwCl (WL cy q qm ro rd out' outD isv te re de now spa sna len sig nxt cnt rng k kept rea det misv iit mlen at_ merr wro cmd to1 to2 mnow msav ahe bef hst noi own inp) H := hP
  have hD : va_D A (WL cy q qm ro rd out' outD isv te re de now spa sna len sig nxt cnt rng k kept rea det misv iit mlen at_ merr wro cmd to1 to2 mnow msav ahe bef hst noi own inp) := hD
  refine lv_istore (lv' := [(7, .int b), (6, .int k), (0, .ref sb), (1, .ref (q 0 0)), (2, .ref (qm 0)), (3, .ref ro), (4, .ref rd), (5, .int i5)]) hx hb (dg ddL_law21 26 rfl) hl (by decide) rfl (fun ls hl => ?_)
  refine lv_aload_n hx hb (dg ddL_law21 27 rfl) rfl (lv_at hl 4 rfl) ?_
  refine cro_vi CX hml (As := []) (rest := []) (c_X5_thrown l D cy qm k kept rea det misv iit mlen at_ merr wro cmd to1 to2 mnow msav ahe bef hst noi own inp rfl) lk_RL_144 rfl rfl ⟨(Nat.le_of_ble_eq_true rfl), (Nat.le_of_ble_eq_true rfl)⟩ (vaP_l (vaP_perm pL3 hP)) hK hN 0 rfl rfl rfl hl.1 rfl (Nat.le_of_ble_eq_true rfl) ⟨rmC (show cells + 2 ≤ 3000 by omega), rmS (show slots + 12 ≤ 12000 by omega)⟩ (dg ddL_law21 28 rfl) ?_
  refine lv_iload hx hb (dg ddL_law21 29 rfl) (lv_at hl 1 rfl) ?_
  refine lv_icmp_eq (tgt := 1276) hx hb (dg ddL_law21 30 rfl) (by decide) (fun _ => ?_) (fun h => absurd rfl h)
  refine lv_iload hx hb (dg ddL_law22 1 rfl) (lv_at hl 1 rfl) ?_
  refine lv_if_ne (tgt := 1293) hx hb (dg ddL_law22 2 rfl) (by decide) (fun hk => ?_) (fun hk => ?_)
  ·
    refine lv_goto (tgt := 2361) hx hb (dg ddL_law22 12 rfl) (by decide) ?_
    refine W.widen (k := cells + 2) (n := slots + 12) (by omega) (by omega) ?_
    exact kk out' outD isv te re de now spa sna len sig nxt cnt rng k kept rea det misv iit mlen at_ merr wro cmd to1 to2 mnow msav ahe bef hst noi own inp H locs ls G (lv_sub hl [2, 3, 4, 5, 6, 7] rfl) hP hD hS
  ·
    refine lv_aload_n hx hb (dg ddL_law22 3 rfl) rfl (lv_at hl 5 rfl) ?_
    refine lv_iconst (v := 0) hx hb (dg ddL_law22 4 rfl) (by decide) ?_
    refine va_lald hx hb hK hP 0 5 rfl rfl (i := 0) (inb_in (show inb 0 1 = true by decide)) (dg ddL_law22 5 rfl) ?_
    rw [show out' (0 : Int32).toNatClampNeg = b.toInt64 from e3 hk]
    refine lv_iload hx hb (dg ddL_law22 6 rfl) (lv_at hl 0 rfl) ?_
    refine lv_i2l (v := b.toInt64) hx hb (dg ddL_law22 7 rfl) rfl ?_
    refine W.lcmp hx hb (dg ddL_law22 8 rfl) ?_
    refine lv_if_eq (tgt := 1293) hx hb (dg ddL_law22 9 rfl) (by decide) (fun _ => ?_) (fun h => absurd (lgc0 _) h)
    refine lv_goto (tgt := 2361) hx hb (dg ddL_law22 12 rfl) (by decide) ?_
    refine W.widen (k := cells + 2) (n := slots + 12) (by omega) (by omega) ?_
    exact kk out' outD isv te re de now spa sna len sig nxt cnt rng k kept rea det misv iit mlen at_ merr wro cmd to1 to2 mnow msav ahe bef hst noi own inp H locs ls G (lv_sub hl [2, 3, 4, 5, 6, 7] rfl) hP hD hS
set_option maxHeartbeats 4000000 in
set_option maxRecDepth 100000 in
theorem b_loudest (CX : Cx p s m c args cL_law RL) (hml : c.maxLocals = 9) (hK : va_K D vwCl (tyA cy) s) (hN : nst s) (hA : ∀ q, s.heap.size ≤ q → A q) (hX : exF A s s.heap) (hC : ncF s) (hst0 : l.stackTraces = false) (hXs : va_X sb L xs s s.heap) (hbl : sb < s.heap.size) (hbA : ¬ A sb) (hi1 : vp_in (i5 + 1) L) (hi2 : vp_in (i5 + 2) L) (G : GG isv te re de now sna len sig nxt cnt rng kept rea det misv iit mlen merr mnow msav hst inp) (hl : lv_has ls 9 [(0, .ref sb), (1, .ref (q 0 0)), (2, .ref (qm 0)), (3, .ref ro), (4, .ref rd), (5, .int i5)]) (hP : va_P D vwCl (WL cy q qm ro rd out outD isv te re de now spa sna len sig nxt cnt rng thr kept rea det misv iit mlen at_ merr wro cmd to1 to2 mnow msav ahe bef hst noi own inp) H) (hD : va_D A (WL cy q qm ro rd out outD isv te re de now spa sna len sig nxt cnt rng thr kept rea det misv iit mlen at_ merr wro cmd to1 to2 mnow msav ahe bef hst noi own inp)) (hS : va_S A s.heap H locs) (hcs : cells + 2 ≤ 3000 ∧ slots + 12 ≤ 12000) (kk : Go p l e s m args below meth c Q D A cy q qm ro rd sb i5 cells slots) : W p l e room_1 s m args below meth c H locs cells slots Q (F0 m 1296 ls []) := by
  have hx := CX.1
  have hb := CX.2.1
  obtain ⟨v, e1, e2⟩ := S_loudest G thr
  refine lv_aload_n hx hb (dg ddL_law22 13 rfl) rfl (lv_at hl 1 rfl) ?_
  refine cro_vi CX hml (As := []) (rest := []) (c_X4_loudest l D cy q isv te re de now spa sna len sig nxt cnt rng e1) lk_RL_197 rfl rfl ⟨(Nat.le_of_ble_eq_true rfl), (Nat.le_of_ble_eq_true rfl)⟩ (vaP_l (vaP_perm pL4 hP)) hK hN 0 rfl rfl rfl hl.1 rfl (Nat.le_of_ble_eq_true rfl) ⟨rmC (show cells ≤ 3000 by omega), rmS (show slots ≤ 12000 by omega)⟩ (dg ddL_law22 14 rfl) ?_
  refine lv_aload_n hx hb (dg ddL_law22 15 rfl) rfl (lv_at hl 2 rfl) ?_
  refine crf_vi CX hml (As := []) (rest := [.int v]) (c_X5_loudest l D cy qm thr kept rea det misv iit mlen at_ merr wro cmd to1 to2 mnow msav ahe bef hst noi own inp  _ e2) lk_RL_200 rfl rfl ⟨(Nat.le_of_ble_eq_true rfl), (Nat.le_of_ble_eq_true rfl)⟩ hP hD hS hA hK hN pL3 pL3.symm 0 rfl rfl rfl hl.1 rfl (Nat.le_of_ble_eq_true rfl) ⟨rmC (show cells ≤ 3000 by omega), rmS (show slots ≤ 12000 by omega)⟩ (dg ddL_law22 16 rfl) (fun H locs hP hD hS => ?_)
  have hP : va_P D vwCl (WL cy q qm ro rd out outD isv te re de now spa sna len sig nxt cnt rng 0 kept rea det misv iit mlen at_ merr wro cmd to1 to2 mnow msav ahe bef hst noi own inp) H := hP
  have hD : va_D A (WL cy q qm ro rd out outD isv te re de now spa sna len sig nxt cnt rng 0 kept rea det misv iit mlen at_ merr wro cmd to1 to2 mnow msav ahe bef hst noi own inp) := hD
  refine lv_icmp_eq (tgt := 2361) hx hb (dg ddL_law22 17 rfl) (by decide) (fun _ => ?_) (fun h => absurd rfl h)
  refine W.widen (k := cells + 2) (n := slots + 12) (by omega) (by omega) ?_
  exact kk out outD isv te re de now spa sna len sig nxt cnt rng 0 kept rea det misv iit mlen at_ merr wro cmd to1 to2 mnow msav ahe bef hst noi own inp H locs ls G (lv_sub hl [0, 1, 2, 3, 4, 5] rfl) hP hD hS
set_option maxHeartbeats 4000000 in
set_option maxRecDepth 100000 in
theorem b_strings (CX : Cx p s m c args cL_law RL) (hml : c.maxLocals = 9) (hK : va_K D vwCl (tyA cy) s) (hN : nst s) (hA : ∀ q, s.heap.size ≤ q → A q) (hX : exF A s s.heap) (hC : ncF s) (hst0 : l.stackTraces = false) (hXs : va_X sb L xs s s.heap) (hbl : sb < s.heap.size) (hbA : ¬ A sb) (hi1 : vp_in (i5 + 1) L) (hi2 : vp_in (i5 + 2) L) (G : GG isv te re de now sna len sig nxt cnt rng kept rea det misv iit mlen merr mnow msav hst inp) (hl : lv_has ls 9 [(0, .ref sb), (1, .ref (q 0 0)), (2, .ref (qm 0)), (3, .ref ro), (4, .ref rd), (5, .int i5)]) (hP : va_P D vwCl (WL cy q qm ro rd out outD isv te re de now spa sna len sig nxt cnt rng thr kept rea det misv iit mlen at_ merr wro cmd to1 to2 mnow msav ahe bef hst noi own inp) H) (hD : va_D A (WL cy q qm ro rd out outD isv te re de now spa sna len sig nxt cnt rng thr kept rea det misv iit mlen at_ merr wro cmd to1 to2 mnow msav ahe bef hst noi own inp)) (hS : va_S A s.heap H locs) (hcs : cells + 2 ≤ 3000 ∧ slots + 12 ≤ 12000) (kk : Go p l e s m args below meth c Q D A cy q qm ro rd sb i5 cells slots) : W p l e room_1 s m args below meth c H locs cells slots Q (F0 m 1309 ls []) := by
  have hx := CX.1
  have hb := CX.2.1
  obtain ⟨k, re', de', now', nxt', cnt', rng', out', b, kept', mnow', hst', e1, e2, e3, G⟩ := S_strings G out thr (xs (i5 + 1).toNatClampNeg)
  refine lv_aload_n hx hb (dg ddL_law22 20 rfl) rfl (lv_at hl 1 rfl) ?_
  refine lv_aload_n hx hb (dg ddL_law22 21 rfl) rfl (lv_at hl 0 rfl) ?_
  refine lv_iload hx hb (dg ddL_law22 22 rfl) (lv_at hl 5 rfl) ?_
  refine lv_iconst (v := 1) hx hb (dg ddL_law22 23 rfl) (by decide) ?_
  refine lv_iadd hx hb (dg ddL_law22 24 rfl) ?_
  refine va_sld hx hb hXs hbl hbA hS hi1 (dg ddL_law22 25 rfl) ?_
  refine lv_aload_n hx hb (dg ddL_law22 26 rfl) rfl (lv_at hl 3 rfl) ?_
  refine crl_i CX hml (As := [.ref (q 0 0), .int (xs (i5 + 1).toNatClampNeg), .ref ro]) (rest := []) (c_L_strings l D cy q isv te re de now spa sna len sig nxt cnt rng ro out (xs (i5 + 1).toNatClampNeg) _ hst0 e1) lk_RL_201 rfl rfl ⟨(Nat.le_of_ble_eq_true rfl), (Nat.le_of_ble_eq_true rfl)⟩ hP hD hS hA hK hN hX hC pL1 pL1.symm rfl hl.1 rfl (Nat.le_of_ble_eq_true rfl) ⟨rmC (show cells + 1 ≤ 3000 by omega), rmS (show slots + 6 ≤ 12000 by omega)⟩ (dg ddL_law22 27 rfl) (fun H locs hP hD hS => ?_)
  have hP : va_P D vwCl (WL cy q qm ro rd out' outD isv te re' de' now' spa sna len sig nxt' cnt' rng' thr kept rea det misv iit mlen at_ merr wro cmd to1 to2 mnow msav ahe bef hst noi own inp) H := hP
  have hD : va_D A (WL cy q qm ro rd out' outD isv te re' de' now' spa sna len sig nxt' cnt' rng' thr kept rea det misv iit mlen at_ merr wro cmd to1 to2 mnow msav ahe bef hst noi own inp) := hD
  refine lv_istore (lv' := [(6, .int k), (0, .ref sb), (1, .ref (q 0 0)), (2, .ref (qm 0)), (3, .ref ro), (4, .ref rd), (5, .int i5)]) hx hb (dg ddL_law22 28 rfl) hl (by decide) rfl (fun ls hl => ?_)
  refine lv_aload_n hx hb (dg ddL_law22 29 rfl) rfl (lv_at hl 3 rfl) ?_
  refine lv_aload_n hx hb (dg ddL_law22 30 rfl) rfl (lv_at hl 1 rfl) ?_
  refine lv_iload hx hb (dg ddL_law22 31 rfl) (lv_at hl 6 rfl) ?_
  refine lv_iconst (v := 1) hx hb (dg ddL_law23 0 rfl) (by decide) ?_
  refine lv_iadd hx hb (dg ddL_law23 1 rfl) ?_
  refine va_sld hx hb hXs hbl hbA hS hi1 (dg ddL_law23 2 rfl) ?_
  refine crf_vi CX hml (As := [.int (xs (i5 + 1).toNatClampNeg)]) (rest := []) (c_X5_strings l D cy qm thr kept rea det misv iit mlen at_ merr wro cmd to1 to2 mnow msav ahe bef hst noi own inp (xs (i5 + 1).toNatClampNeg) _ e2) lk_RL_203 rfl rfl ⟨(Nat.le_of_ble_eq_true rfl), (Nat.le_of_ble_eq_true rfl)⟩ hP hD hS hA hK hN pL3 pL3.symm 0 rfl rfl rfl hl.1 rfl (Nat.le_of_ble_eq_true rfl) ⟨rmC (show cells + 1 ≤ 3000 by omega), rmS (show slots + 6 ≤ 12000 by omega)⟩ (dg ddL_law23 3 rfl) (fun H locs hP hD hS => ?_)
  have hP : va_P D vwCl (WL cy q qm ro rd out' outD isv te re' de' now' spa sna len sig nxt' cnt' rng' k kept' re' de' misv iit mlen at_ merr wro cmd to1 to2 mnow' msav ahe bef hst' noi own inp) H := hP
  have hD : va_D A (WL cy q qm ro rd out' outD isv te re' de' now' spa sna len sig nxt' cnt' rng' k kept' re' de' misv iit mlen at_ merr wro cmd to1 to2 mnow' msav ahe bef hst' noi own inp) := hD
  refine lv_istore (lv' := [(7, .int b), (6, .int k), (0, .ref sb), (1, .ref (q 0 0)), (2, .ref (qm 0)), (3, .ref ro), (4, .ref rd), (5, .int i5)]) hx hb (dg ddL_law23 4 rfl) hl (by decide) rfl (fun ls hl => ?_)
  refine lv_aload_n hx hb (dg ddL_law23 5 rfl) rfl (lv_at hl 4 rfl) ?_
  refine cro_vi CX hml (As := []) (rest := []) (c_X5_thrown l D cy qm k kept' re' de' misv iit mlen at_ merr wro cmd to1 to2 mnow' msav ahe bef hst' noi own inp rfl) lk_RL_144 rfl rfl ⟨(Nat.le_of_ble_eq_true rfl), (Nat.le_of_ble_eq_true rfl)⟩ (vaP_l (vaP_perm pL3 hP)) hK hN 0 rfl rfl rfl hl.1 rfl (Nat.le_of_ble_eq_true rfl) ⟨rmC (show cells + 1 ≤ 3000 by omega), rmS (show slots + 6 ≤ 12000 by omega)⟩ (dg ddL_law23 6 rfl) ?_
  refine lv_iload hx hb (dg ddL_law23 7 rfl) (lv_at hl 1 rfl) ?_
  refine lv_icmp_eq (tgt := 1345) hx hb (dg ddL_law23 8 rfl) (by decide) (fun _ => ?_) (fun h => absurd rfl h)
  refine lv_iload hx hb (dg ddL_law23 11 rfl) (lv_at hl 1 rfl) ?_
  refine lv_if_ne (tgt := 1362) hx hb (dg ddL_law23 12 rfl) (by decide) (fun hk => ?_) (fun hk => ?_)
  ·
    refine lv_goto (tgt := 2361) hx hb (dg ddL_law23 22 rfl) (by decide) ?_
    refine W.widen (k := cells + 2) (n := slots + 12) (by omega) (by omega) ?_
    exact kk out' outD isv te re' de' now' spa sna len sig nxt' cnt' rng' k kept' re' de' misv iit mlen at_ merr wro cmd to1 to2 mnow' msav ahe bef hst' noi own inp H locs ls G (lv_sub hl [2, 3, 4, 5, 6, 7] rfl) hP hD hS
  ·
    refine lv_aload_n hx hb (dg ddL_law23 13 rfl) rfl (lv_at hl 5 rfl) ?_
    refine lv_iconst (v := 0) hx hb (dg ddL_law23 14 rfl) (by decide) ?_
    refine va_lald hx hb hK hP 0 5 rfl rfl (i := 0) (inb_in (show inb 0 1 = true by decide)) (dg ddL_law23 15 rfl) ?_
    rw [show out' (0 : Int32).toNatClampNeg = b.toInt64 from e3 hk]
    refine lv_iload hx hb (dg ddL_law23 16 rfl) (lv_at hl 0 rfl) ?_
    refine lv_i2l (v := b.toInt64) hx hb (dg ddL_law23 17 rfl) rfl ?_
    refine W.lcmp hx hb (dg ddL_law23 18 rfl) ?_
    refine lv_if_eq (tgt := 1362) hx hb (dg ddL_law23 19 rfl) (by decide) (fun _ => ?_) (fun h => absurd (lgc0 _) h)
    refine lv_goto (tgt := 2361) hx hb (dg ddL_law23 22 rfl) (by decide) ?_
    refine W.widen (k := cells + 2) (n := slots + 12) (by omega) (by omega) ?_
    exact kk out' outD isv te re' de' now' spa sna len sig nxt' cnt' rng' k kept' re' de' misv iit mlen at_ merr wro cmd to1 to2 mnow' msav ahe bef hst' noi own inp H locs ls G (lv_sub hl [2, 3, 4, 5, 6, 7] rfl) hP hD hS
set_option maxHeartbeats 4000000 in
set_option maxRecDepth 100000 in
theorem b_snapsIn (CX : Cx p s m c args cL_law RL) (hml : c.maxLocals = 9) (hK : va_K D vwCl (tyA cy) s) (hN : nst s) (hA : ∀ q, s.heap.size ≤ q → A q) (hX : exF A s s.heap) (hC : ncF s) (hst0 : l.stackTraces = false) (hXs : va_X sb L xs s s.heap) (hbl : sb < s.heap.size) (hbA : ¬ A sb) (hi1 : vp_in (i5 + 1) L) (hi2 : vp_in (i5 + 2) L) (G : GG isv te re de now sna len sig nxt cnt rng kept rea det misv iit mlen merr mnow msav hst inp) (hl : lv_has ls 9 [(0, .ref sb), (1, .ref (q 0 0)), (2, .ref (qm 0)), (3, .ref ro), (4, .ref rd), (5, .int i5)]) (hP : va_P D vwCl (WL cy q qm ro rd out outD isv te re de now spa sna len sig nxt cnt rng thr kept rea det misv iit mlen at_ merr wro cmd to1 to2 mnow msav ahe bef hst noi own inp) H) (hD : va_D A (WL cy q qm ro rd out outD isv te re de now spa sna len sig nxt cnt rng thr kept rea det misv iit mlen at_ merr wro cmd to1 to2 mnow msav ahe bef hst noi own inp)) (hS : va_S A s.heap H locs) (hcs : cells + 2 ≤ 3000 ∧ slots + 12 ≤ 12000) (kk : Go p l e s m args below meth c Q D A cy q qm ro rd sb i5 cells slots) : W p l e room_1 s m args below meth c H locs cells slots Q (F0 m 1365 ls []) := by
  have hx := CX.1
  have hb := CX.2.1
  obtain ⟨k, out', b, e1, e2, e3⟩ := S_snapsIn G out thr (xs (i5 + 1).toNatClampNeg)
  refine lv_aload_n hx hb (dg ddL_law23 23 rfl) rfl (lv_at hl 1 rfl) ?_
  refine lv_aload_n hx hb (dg ddL_law23 24 rfl) rfl (lv_at hl 0 rfl) ?_
  refine lv_iload hx hb (dg ddL_law23 25 rfl) (lv_at hl 5 rfl) ?_
  refine lv_iconst (v := 1) hx hb (dg ddL_law23 26 rfl) (by decide) ?_
  refine lv_iadd hx hb (dg ddL_law23 27 rfl) ?_
  refine va_sld hx hb hXs hbl hbA hS hi1 (dg ddL_law23 28 rfl) ?_
  refine lv_aload_n hx hb (dg ddL_law23 29 rfl) rfl (lv_at hl 3 rfl) ?_
  refine crl_i CX hml (As := [.ref (q 0 0), .int (xs (i5 + 1).toNatClampNeg), .ref ro]) (rest := []) (c_L_snapsIn l D cy q isv te re de now spa sna len sig nxt cnt rng ro out (xs (i5 + 1).toNatClampNeg) _ hst0 e1) lk_RL_204 rfl rfl ⟨(Nat.le_of_ble_eq_true rfl), (Nat.le_of_ble_eq_true rfl)⟩ hP hD hS hA hK hN hX hC pL1 pL1.symm rfl hl.1 rfl (Nat.le_of_ble_eq_true rfl) ⟨rmC (show cells + 2 ≤ 3000 by omega), rmS (show slots + 12 ≤ 12000 by omega)⟩ (dg ddL_law23 30 rfl) (fun H locs hP hD hS => ?_)
  have hP : va_P D vwCl (WL cy q qm ro rd out' outD isv te re de now spa sna len sig nxt cnt rng thr kept rea det misv iit mlen at_ merr wro cmd to1 to2 mnow msav ahe bef hst noi own inp) H := hP
  have hD : va_D A (WL cy q qm ro rd out' outD isv te re de now spa sna len sig nxt cnt rng thr kept rea det misv iit mlen at_ merr wro cmd to1 to2 mnow msav ahe bef hst noi own inp) := hD
  refine lv_istore (lv' := [(6, .int k), (0, .ref sb), (1, .ref (q 0 0)), (2, .ref (qm 0)), (3, .ref ro), (4, .ref rd), (5, .int i5)]) hx hb (dg ddL_law23 31 rfl) hl (by decide) rfl (fun ls hl => ?_)
  refine lv_aload_n hx hb (dg ddL_law24 0 rfl) rfl (lv_at hl 3 rfl) ?_
  refine lv_aload_n hx hb (dg ddL_law24 1 rfl) rfl (lv_at hl 1 rfl) ?_
  refine lv_iload hx hb (dg ddL_law24 2 rfl) (lv_at hl 6 rfl) ?_
  refine lv_iconst (v := 1) hx hb (dg ddL_law24 3 rfl) (by decide) ?_
  refine lv_iadd hx hb (dg ddL_law24 4 rfl) ?_
  refine va_sld hx hb hXs hbl hbA hS hi1 (dg ddL_law24 5 rfl) ?_
  refine crf_vi CX hml (As := [.int (xs (i5 + 1).toNatClampNeg)]) (rest := []) (c_X5_snapsIn l D cy qm thr kept rea det misv iit mlen at_ merr wro cmd to1 to2 mnow msav ahe bef hst noi own inp (xs (i5 + 1).toNatClampNeg) _ e2) lk_RL_206 rfl rfl ⟨(Nat.le_of_ble_eq_true rfl), (Nat.le_of_ble_eq_true rfl)⟩ hP hD hS hA hK hN pL3 pL3.symm 0 rfl rfl rfl hl.1 rfl (Nat.le_of_ble_eq_true rfl) ⟨rmC (show cells + 2 ≤ 3000 by omega), rmS (show slots + 12 ≤ 12000 by omega)⟩ (dg ddL_law24 6 rfl) (fun H locs hP hD hS => ?_)
  have hP : va_P D vwCl (WL cy q qm ro rd out' outD isv te re de now spa sna len sig nxt cnt rng k kept rea det misv iit mlen at_ merr wro cmd to1 to2 mnow msav ahe bef hst noi own inp) H := hP
  have hD : va_D A (WL cy q qm ro rd out' outD isv te re de now spa sna len sig nxt cnt rng k kept rea det misv iit mlen at_ merr wro cmd to1 to2 mnow msav ahe bef hst noi own inp) := hD
  refine lv_istore (lv' := [(7, .int b), (6, .int k), (0, .ref sb), (1, .ref (q 0 0)), (2, .ref (qm 0)), (3, .ref ro), (4, .ref rd), (5, .int i5)]) hx hb (dg ddL_law24 7 rfl) hl (by decide) rfl (fun ls hl => ?_)
  refine lv_aload_n hx hb (dg ddL_law24 8 rfl) rfl (lv_at hl 4 rfl) ?_
  refine cro_vi CX hml (As := []) (rest := []) (c_X5_thrown l D cy qm k kept rea det misv iit mlen at_ merr wro cmd to1 to2 mnow msav ahe bef hst noi own inp rfl) lk_RL_144 rfl rfl ⟨(Nat.le_of_ble_eq_true rfl), (Nat.le_of_ble_eq_true rfl)⟩ (vaP_l (vaP_perm pL3 hP)) hK hN 0 rfl rfl rfl hl.1 rfl (Nat.le_of_ble_eq_true rfl) ⟨rmC (show cells + 2 ≤ 3000 by omega), rmS (show slots + 12 ≤ 12000 by omega)⟩ (dg ddL_law24 9 rfl) ?_
  refine lv_iload hx hb (dg ddL_law24 10 rfl) (lv_at hl 1 rfl) ?_
  refine lv_icmp_eq (tgt := 1401) hx hb (dg ddL_law24 11 rfl) (by decide) (fun _ => ?_) (fun h => absurd rfl h)
  refine lv_iload hx hb (dg ddL_law24 14 rfl) (lv_at hl 1 rfl) ?_
  refine lv_if_ne (tgt := 1418) hx hb (dg ddL_law24 15 rfl) (by decide) (fun hk => ?_) (fun hk => ?_)
  ·
    refine lv_goto (tgt := 2361) hx hb (dg ddL_law24 25 rfl) (by decide) ?_
    refine W.widen (k := cells + 2) (n := slots + 12) (by omega) (by omega) ?_
    exact kk out' outD isv te re de now spa sna len sig nxt cnt rng k kept rea det misv iit mlen at_ merr wro cmd to1 to2 mnow msav ahe bef hst noi own inp H locs ls G (lv_sub hl [2, 3, 4, 5, 6, 7] rfl) hP hD hS
  ·
    refine lv_aload_n hx hb (dg ddL_law24 16 rfl) rfl (lv_at hl 5 rfl) ?_
    refine lv_iconst (v := 0) hx hb (dg ddL_law24 17 rfl) (by decide) ?_
    refine va_lald hx hb hK hP 0 5 rfl rfl (i := 0) (inb_in (show inb 0 1 = true by decide)) (dg ddL_law24 18 rfl) ?_
    rw [show out' (0 : Int32).toNatClampNeg = b.toInt64 from e3 hk]
    refine lv_iload hx hb (dg ddL_law24 19 rfl) (lv_at hl 0 rfl) ?_
    refine lv_i2l (v := b.toInt64) hx hb (dg ddL_law24 20 rfl) rfl ?_
    refine W.lcmp hx hb (dg ddL_law24 21 rfl) ?_
    refine lv_if_eq (tgt := 1418) hx hb (dg ddL_law24 22 rfl) (by decide) (fun _ => ?_) (fun h => absurd (lgc0 _) h)
    refine lv_goto (tgt := 2361) hx hb (dg ddL_law24 25 rfl) (by decide) ?_
    refine W.widen (k := cells + 2) (n := slots + 12) (by omega) (by omega) ?_
    exact kk out' outD isv te re de now spa sna len sig nxt cnt rng k kept rea det misv iit mlen at_ merr wro cmd to1 to2 mnow msav ahe bef hst noi own inp H locs ls G (lv_sub hl [2, 3, 4, 5, 6, 7] rfl) hP hD hS
set_option maxHeartbeats 4000000 in
set_option maxRecDepth 100000 in
theorem b_answer (CX : Cx p s m c args cL_law RL) (hml : c.maxLocals = 9) (hK : va_K D vwCl (tyA cy) s) (hN : nst s) (hA : ∀ q, s.heap.size ≤ q → A q) (hX : exF A s s.heap) (hC : ncF s) (hst0 : l.stackTraces = false) (hXs : va_X sb L xs s s.heap) (hbl : sb < s.heap.size) (hbA : ¬ A sb) (hi1 : vp_in (i5 + 1) L) (hi2 : vp_in (i5 + 2) L) (G : GG isv te re de now sna len sig nxt cnt rng kept rea det misv iit mlen merr mnow msav hst inp) (hl : lv_has ls 9 [(0, .ref sb), (1, .ref (q 0 0)), (2, .ref (qm 0)), (3, .ref ro), (4, .ref rd), (5, .int i5)]) (hP : va_P D vwCl (WL cy q qm ro rd out outD isv te re de now spa sna len sig nxt cnt rng thr kept rea det misv iit mlen at_ merr wro cmd to1 to2 mnow msav ahe bef hst noi own inp) H) (hD : va_D A (WL cy q qm ro rd out outD isv te re de now spa sna len sig nxt cnt rng thr kept rea det misv iit mlen at_ merr wro cmd to1 to2 mnow msav ahe bef hst noi own inp)) (hS : va_S A s.heap H locs) (hcs : cells + 2 ≤ 3000 ∧ slots + 12 ≤ 12000) (kk : Go p l e s m args below meth c Q D A cy q qm ro rd sb i5 cells slots) : W p l e room_1 s m args below meth c H locs cells slots Q (F0 m 1421 ls []) := by
  have hx := CX.1
  have hb := CX.2.1
  obtain ⟨k, re', de', now', nxt', cnt', rng', out', b, kept', mnow', hst', e1, e2, e3, G⟩ := S_answer G out thr (xs (i5 + 1).toNatClampNeg)
  refine lv_aload_n hx hb (dg ddL_law24 26 rfl) rfl (lv_at hl 1 rfl) ?_
  refine lv_aload_n hx hb (dg ddL_law24 27 rfl) rfl (lv_at hl 0 rfl) ?_
  refine lv_iload hx hb (dg ddL_law24 28 rfl) (lv_at hl 5 rfl) ?_
  refine lv_iconst (v := 1) hx hb (dg ddL_law24 29 rfl) (by decide) ?_
  refine lv_iadd hx hb (dg ddL_law24 30 rfl) ?_
  refine va_sld hx hb hXs hbl hbA hS hi1 (dg ddL_law24 31 rfl) ?_
  refine lv_aload_n hx hb (dg ddL_law25 0 rfl) rfl (lv_at hl 3 rfl) ?_
  refine crl_i CX hml (As := [.ref (q 0 0), .int (xs (i5 + 1).toNatClampNeg), .ref ro]) (rest := []) (c_L_answer l D cy q isv te re de now spa sna len sig nxt cnt rng ro out (xs (i5 + 1).toNatClampNeg) _ hst0 e1) lk_RL_207 rfl rfl ⟨(Nat.le_of_ble_eq_true rfl), (Nat.le_of_ble_eq_true rfl)⟩ hP hD hS hA hK hN hX hC pL1 pL1.symm rfl hl.1 rfl (Nat.le_of_ble_eq_true rfl) ⟨rmC (show cells + 1 ≤ 3000 by omega), rmS (show slots + 6 ≤ 12000 by omega)⟩ (dg ddL_law25 1 rfl) (fun H locs hP hD hS => ?_)
  have hP : va_P D vwCl (WL cy q qm ro rd out' outD isv te re' de' now' spa sna len sig nxt' cnt' rng' thr kept rea det misv iit mlen at_ merr wro cmd to1 to2 mnow msav ahe bef hst noi own inp) H := hP
  have hD : va_D A (WL cy q qm ro rd out' outD isv te re' de' now' spa sna len sig nxt' cnt' rng' thr kept rea det misv iit mlen at_ merr wro cmd to1 to2 mnow msav ahe bef hst noi own inp) := hD
  refine lv_istore (lv' := [(6, .int k), (0, .ref sb), (1, .ref (q 0 0)), (2, .ref (qm 0)), (3, .ref ro), (4, .ref rd), (5, .int i5)]) hx hb (dg ddL_law25 2 rfl) hl (by decide) rfl (fun ls hl => ?_)
  refine lv_aload_n hx hb (dg ddL_law25 3 rfl) rfl (lv_at hl 3 rfl) ?_
  refine lv_aload_n hx hb (dg ddL_law25 4 rfl) rfl (lv_at hl 1 rfl) ?_
  refine lv_iload hx hb (dg ddL_law25 5 rfl) (lv_at hl 6 rfl) ?_
  refine lv_iconst (v := 1) hx hb (dg ddL_law25 6 rfl) (by decide) ?_
  refine lv_iadd hx hb (dg ddL_law25 7 rfl) ?_
  refine va_sld hx hb hXs hbl hbA hS hi1 (dg ddL_law25 8 rfl) ?_
  refine crf_vi CX hml (As := [.int (xs (i5 + 1).toNatClampNeg)]) (rest := []) (c_X5_answer l D cy qm thr kept rea det misv iit mlen at_ merr wro cmd to1 to2 mnow msav ahe bef hst noi own inp (xs (i5 + 1).toNatClampNeg) _ e2) lk_RL_209 rfl rfl ⟨(Nat.le_of_ble_eq_true rfl), (Nat.le_of_ble_eq_true rfl)⟩ hP hD hS hA hK hN pL3 pL3.symm 0 rfl rfl rfl hl.1 rfl (Nat.le_of_ble_eq_true rfl) ⟨rmC (show cells + 1 ≤ 3000 by omega), rmS (show slots + 6 ≤ 12000 by omega)⟩ (dg ddL_law25 9 rfl) (fun H locs hP hD hS => ?_)
  have hP : va_P D vwCl (WL cy q qm ro rd out' outD isv te re' de' now' spa sna len sig nxt' cnt' rng' k kept' re' de' misv iit mlen at_ merr wro cmd to1 to2 mnow' msav ahe bef hst' noi own inp) H := hP
  have hD : va_D A (WL cy q qm ro rd out' outD isv te re' de' now' spa sna len sig nxt' cnt' rng' k kept' re' de' misv iit mlen at_ merr wro cmd to1 to2 mnow' msav ahe bef hst' noi own inp) := hD
  refine lv_istore (lv' := [(7, .int b), (6, .int k), (0, .ref sb), (1, .ref (q 0 0)), (2, .ref (qm 0)), (3, .ref ro), (4, .ref rd), (5, .int i5)]) hx hb (dg ddL_law25 10 rfl) hl (by decide) rfl (fun ls hl => ?_)
  refine lv_aload_n hx hb (dg ddL_law25 11 rfl) rfl (lv_at hl 4 rfl) ?_
  refine cro_vi CX hml (As := []) (rest := []) (c_X5_thrown l D cy qm k kept' re' de' misv iit mlen at_ merr wro cmd to1 to2 mnow' msav ahe bef hst' noi own inp rfl) lk_RL_144 rfl rfl ⟨(Nat.le_of_ble_eq_true rfl), (Nat.le_of_ble_eq_true rfl)⟩ (vaP_l (vaP_perm pL3 hP)) hK hN 0 rfl rfl rfl hl.1 rfl (Nat.le_of_ble_eq_true rfl) ⟨rmC (show cells + 1 ≤ 3000 by omega), rmS (show slots + 6 ≤ 12000 by omega)⟩ (dg ddL_law25 12 rfl) ?_
  refine lv_iload hx hb (dg ddL_law25 13 rfl) (lv_at hl 1 rfl) ?_
  refine lv_icmp_eq (tgt := 1457) hx hb (dg ddL_law25 14 rfl) (by decide) (fun _ => ?_) (fun h => absurd rfl h)
  refine lv_iload hx hb (dg ddL_law25 17 rfl) (lv_at hl 1 rfl) ?_
  refine lv_if_ne (tgt := 1474) hx hb (dg ddL_law25 18 rfl) (by decide) (fun hk => ?_) (fun hk => ?_)
  ·
    refine lv_goto (tgt := 2361) hx hb (dg ddL_law25 28 rfl) (by decide) ?_
    refine W.widen (k := cells + 2) (n := slots + 12) (by omega) (by omega) ?_
    exact kk out' outD isv te re' de' now' spa sna len sig nxt' cnt' rng' k kept' re' de' misv iit mlen at_ merr wro cmd to1 to2 mnow' msav ahe bef hst' noi own inp H locs ls G (lv_sub hl [2, 3, 4, 5, 6, 7] rfl) hP hD hS
  ·
    refine lv_aload_n hx hb (dg ddL_law25 19 rfl) rfl (lv_at hl 5 rfl) ?_
    refine lv_iconst (v := 0) hx hb (dg ddL_law25 20 rfl) (by decide) ?_
    refine va_lald hx hb hK hP 0 5 rfl rfl (i := 0) (inb_in (show inb 0 1 = true by decide)) (dg ddL_law25 21 rfl) ?_
    rw [show out' (0 : Int32).toNatClampNeg = b.toInt64 from e3 hk]
    refine lv_iload hx hb (dg ddL_law25 22 rfl) (lv_at hl 0 rfl) ?_
    refine lv_i2l (v := b.toInt64) hx hb (dg ddL_law25 23 rfl) rfl ?_
    refine W.lcmp hx hb (dg ddL_law25 24 rfl) ?_
    refine lv_if_eq (tgt := 1474) hx hb (dg ddL_law25 25 rfl) (by decide) (fun _ => ?_) (fun h => absurd (lgc0 _) h)
    refine lv_goto (tgt := 2361) hx hb (dg ddL_law25 28 rfl) (by decide) ?_
    refine W.widen (k := cells + 2) (n := slots + 12) (by omega) (by omega) ?_
    exact kk out' outD isv te re' de' now' spa sna len sig nxt' cnt' rng' k kept' re' de' misv iit mlen at_ merr wro cmd to1 to2 mnow' msav ahe bef hst' noi own inp H locs ls G (lv_sub hl [2, 3, 4, 5, 6, 7] rfl) hP hD hS
set_option maxHeartbeats 4000000 in
set_option maxRecDepth 100000 in
theorem b_rack (CX : Cx p s m c args cL_law RL) (hml : c.maxLocals = 9) (hK : va_K D vwCl (tyA cy) s) (hN : nst s) (hA : ∀ q, s.heap.size ≤ q → A q) (hX : exF A s s.heap) (hC : ncF s) (hst0 : l.stackTraces = false) (hXs : va_X sb L xs s s.heap) (hbl : sb < s.heap.size) (hbA : ¬ A sb) (hi1 : vp_in (i5 + 1) L) (hi2 : vp_in (i5 + 2) L) (G : GG isv te re de now sna len sig nxt cnt rng kept rea det misv iit mlen merr mnow msav hst inp) (hl : lv_has ls 9 [(0, .ref sb), (1, .ref (q 0 0)), (2, .ref (qm 0)), (3, .ref ro), (4, .ref rd), (5, .int i5)]) (hP : va_P D vwCl (WL cy q qm ro rd out outD isv te re de now spa sna len sig nxt cnt rng thr kept rea det misv iit mlen at_ merr wro cmd to1 to2 mnow msav ahe bef hst noi own inp) H) (hD : va_D A (WL cy q qm ro rd out outD isv te re de now spa sna len sig nxt cnt rng thr kept rea det misv iit mlen at_ merr wro cmd to1 to2 mnow msav ahe bef hst noi own inp)) (hS : va_S A s.heap H locs) (hcs : cells + 2 ≤ 3000 ∧ slots + 12 ≤ 12000) (kk : Go p l e s m args below meth c Q D A cy q qm ro rd sb i5 cells slots) : W p l e room_1 s m args below meth c H locs cells slots Q (F0 m 1477 ls []) := by
  have hx := CX.1
  have hb := CX.2.1
  obtain ⟨k, re', de', now', nxt', cnt', rng', out', b, kept', mnow', hst', e1, e2, e3, G⟩ := S_rack G out thr (xs (i5 + 1).toNatClampNeg) (xs (i5 + 2).toNatClampNeg)
  refine lv_aload_n hx hb (dg ddL_law25 29 rfl) rfl (lv_at hl 1 rfl) ?_
  refine lv_aload_n hx hb (dg ddL_law25 30 rfl) rfl (lv_at hl 0 rfl) ?_
  refine lv_iload hx hb (dg ddL_law25 31 rfl) (lv_at hl 5 rfl) ?_
  refine lv_iconst (v := 1) hx hb (dg ddL_law26 0 rfl) (by decide) ?_
  refine lv_iadd hx hb (dg ddL_law26 1 rfl) ?_
  refine va_sld hx hb hXs hbl hbA hS hi1 (dg ddL_law26 2 rfl) ?_
  refine lv_aload_n hx hb (dg ddL_law26 3 rfl) rfl (lv_at hl 0 rfl) ?_
  refine lv_iload hx hb (dg ddL_law26 4 rfl) (lv_at hl 5 rfl) ?_
  refine lv_iconst (v := 2) hx hb (dg ddL_law26 5 rfl) (by decide) ?_
  refine lv_iadd hx hb (dg ddL_law26 6 rfl) ?_
  refine va_sld hx hb hXs hbl hbA hS hi2 (dg ddL_law26 7 rfl) ?_
  refine lv_aload_n hx hb (dg ddL_law26 8 rfl) rfl (lv_at hl 3 rfl) ?_
  refine crl_i CX hml (As := [.ref (q 0 0), .int (xs (i5 + 1).toNatClampNeg), .int (xs (i5 + 2).toNatClampNeg), .ref ro]) (rest := []) (c_L_rack l D cy q isv te re de now spa sna len sig nxt cnt rng ro out (xs (i5 + 1).toNatClampNeg) (xs (i5 + 2).toNatClampNeg) _ hst0 e1) lk_RL_210 rfl rfl ⟨(Nat.le_of_ble_eq_true rfl), (Nat.le_of_ble_eq_true rfl)⟩ hP hD hS hA hK hN hX hC pL1 pL1.symm rfl hl.1 rfl (Nat.le_of_ble_eq_true rfl) ⟨rmC (show cells + 1 ≤ 3000 by omega), rmS (show slots + 6 ≤ 12000 by omega)⟩ (dg ddL_law26 9 rfl) (fun H locs hP hD hS => ?_)
  have hP : va_P D vwCl (WL cy q qm ro rd out' outD isv te re' de' now' spa sna len sig nxt' cnt' rng' thr kept rea det misv iit mlen at_ merr wro cmd to1 to2 mnow msav ahe bef hst noi own inp) H := hP
  have hD : va_D A (WL cy q qm ro rd out' outD isv te re' de' now' spa sna len sig nxt' cnt' rng' thr kept rea det misv iit mlen at_ merr wro cmd to1 to2 mnow msav ahe bef hst noi own inp) := hD
  refine lv_istore (lv' := [(6, .int k), (0, .ref sb), (1, .ref (q 0 0)), (2, .ref (qm 0)), (3, .ref ro), (4, .ref rd), (5, .int i5)]) hx hb (dg ddL_law26 10 rfl) hl (by decide) rfl (fun ls hl => ?_)
  refine lv_aload_n hx hb (dg ddL_law26 11 rfl) rfl (lv_at hl 3 rfl) ?_
  refine lv_aload_n hx hb (dg ddL_law26 12 rfl) rfl (lv_at hl 1 rfl) ?_
  refine lv_iload hx hb (dg ddL_law26 13 rfl) (lv_at hl 6 rfl) ?_
  refine lv_iconst (v := 1) hx hb (dg ddL_law26 14 rfl) (by decide) ?_
  refine lv_iadd hx hb (dg ddL_law26 15 rfl) ?_
  refine va_sld hx hb hXs hbl hbA hS hi1 (dg ddL_law26 16 rfl) ?_
  refine lv_aload_n hx hb (dg ddL_law26 17 rfl) rfl (lv_at hl 1 rfl) ?_
  refine lv_iload hx hb (dg ddL_law26 18 rfl) (lv_at hl 6 rfl) ?_
  refine lv_iconst (v := 2) hx hb (dg ddL_law26 19 rfl) (by decide) ?_
  refine lv_iadd hx hb (dg ddL_law26 20 rfl) ?_
  refine va_sld hx hb hXs hbl hbA hS hi2 (dg ddL_law26 21 rfl) ?_
  refine crf_vi CX hml (As := [.int (xs (i5 + 1).toNatClampNeg), .int (xs (i5 + 2).toNatClampNeg)]) (rest := []) (c_X5_rack l D cy qm thr kept rea det misv iit mlen at_ merr wro cmd to1 to2 mnow msav ahe bef hst noi own inp (xs (i5 + 1).toNatClampNeg) (xs (i5 + 2).toNatClampNeg) _ e2) lk_RL_212 rfl rfl ⟨(Nat.le_of_ble_eq_true rfl), (Nat.le_of_ble_eq_true rfl)⟩ hP hD hS hA hK hN pL3 pL3.symm 0 rfl rfl rfl hl.1 rfl (Nat.le_of_ble_eq_true rfl) ⟨rmC (show cells + 1 ≤ 3000 by omega), rmS (show slots + 6 ≤ 12000 by omega)⟩ (dg ddL_law26 22 rfl) (fun H locs hP hD hS => ?_)
  have hP : va_P D vwCl (WL cy q qm ro rd out' outD isv te re' de' now' spa sna len sig nxt' cnt' rng' k kept' re' de' misv iit mlen at_ merr wro cmd to1 to2 mnow' msav ahe bef hst' noi own inp) H := hP
  have hD : va_D A (WL cy q qm ro rd out' outD isv te re' de' now' spa sna len sig nxt' cnt' rng' k kept' re' de' misv iit mlen at_ merr wro cmd to1 to2 mnow' msav ahe bef hst' noi own inp) := hD
  refine lv_istore (lv' := [(7, .int b), (6, .int k), (0, .ref sb), (1, .ref (q 0 0)), (2, .ref (qm 0)), (3, .ref ro), (4, .ref rd), (5, .int i5)]) hx hb (dg ddL_law26 23 rfl) hl (by decide) rfl (fun ls hl => ?_)
  refine lv_aload_n hx hb (dg ddL_law26 24 rfl) rfl (lv_at hl 4 rfl) ?_
  refine cro_vi CX hml (As := []) (rest := []) (c_X5_thrown l D cy qm k kept' re' de' misv iit mlen at_ merr wro cmd to1 to2 mnow' msav ahe bef hst' noi own inp rfl) lk_RL_144 rfl rfl ⟨(Nat.le_of_ble_eq_true rfl), (Nat.le_of_ble_eq_true rfl)⟩ (vaP_l (vaP_perm pL3 hP)) hK hN 0 rfl rfl rfl hl.1 rfl (Nat.le_of_ble_eq_true rfl) ⟨rmC (show cells + 1 ≤ 3000 by omega), rmS (show slots + 6 ≤ 12000 by omega)⟩ (dg ddL_law26 25 rfl) ?_
  refine lv_iload hx hb (dg ddL_law26 26 rfl) (lv_at hl 1 rfl) ?_
  refine lv_icmp_eq (tgt := 1525) hx hb (dg ddL_law26 27 rfl) (by decide) (fun _ => ?_) (fun h => absurd rfl h)
  refine lv_iload hx hb (dg ddL_law26 30 rfl) (lv_at hl 1 rfl) ?_
  refine lv_if_ne (tgt := 1542) hx hb (dg ddL_law26 31 rfl) (by decide) (fun hk => ?_) (fun hk => ?_)
  ·
    refine lv_goto (tgt := 2361) hx hb (dg ddL_law27 9 rfl) (by decide) ?_
    refine W.widen (k := cells + 2) (n := slots + 12) (by omega) (by omega) ?_
    exact kk out' outD isv te re' de' now' spa sna len sig nxt' cnt' rng' k kept' re' de' misv iit mlen at_ merr wro cmd to1 to2 mnow' msav ahe bef hst' noi own inp H locs ls G (lv_sub hl [2, 3, 4, 5, 6, 7] rfl) hP hD hS
  ·
    refine lv_aload_n hx hb (dg ddL_law27 0 rfl) rfl (lv_at hl 5 rfl) ?_
    refine lv_iconst (v := 0) hx hb (dg ddL_law27 1 rfl) (by decide) ?_
    refine va_lald hx hb hK hP 0 5 rfl rfl (i := 0) (inb_in (show inb 0 1 = true by decide)) (dg ddL_law27 2 rfl) ?_
    rw [show out' (0 : Int32).toNatClampNeg = b.toInt64 from e3 hk]
    refine lv_iload hx hb (dg ddL_law27 3 rfl) (lv_at hl 0 rfl) ?_
    refine lv_i2l (v := b.toInt64) hx hb (dg ddL_law27 4 rfl) rfl ?_
    refine W.lcmp hx hb (dg ddL_law27 5 rfl) ?_
    refine lv_if_eq (tgt := 1542) hx hb (dg ddL_law27 6 rfl) (by decide) (fun _ => ?_) (fun h => absurd (lgc0 _) h)
    refine lv_goto (tgt := 2361) hx hb (dg ddL_law27 9 rfl) (by decide) ?_
    refine W.widen (k := cells + 2) (n := slots + 12) (by omega) (by omega) ?_
    exact kk out' outD isv te re' de' now' spa sna len sig nxt' cnt' rng' k kept' re' de' misv iit mlen at_ merr wro cmd to1 to2 mnow' msav ahe bef hst' noi own inp H locs ls G (lv_sub hl [2, 3, 4, 5, 6, 7] rfl) hP hD hS
set_option maxHeartbeats 4000000 in
set_option maxRecDepth 100000 in
theorem b_unrack (CX : Cx p s m c args cL_law RL) (hml : c.maxLocals = 9) (hK : va_K D vwCl (tyA cy) s) (hN : nst s) (hA : ∀ q, s.heap.size ≤ q → A q) (hX : exF A s s.heap) (hC : ncF s) (hst0 : l.stackTraces = false) (hXs : va_X sb L xs s s.heap) (hbl : sb < s.heap.size) (hbA : ¬ A sb) (hi1 : vp_in (i5 + 1) L) (hi2 : vp_in (i5 + 2) L) (G : GG isv te re de now sna len sig nxt cnt rng kept rea det misv iit mlen merr mnow msav hst inp) (hl : lv_has ls 9 [(0, .ref sb), (1, .ref (q 0 0)), (2, .ref (qm 0)), (3, .ref ro), (4, .ref rd), (5, .int i5)]) (hP : va_P D vwCl (WL cy q qm ro rd out outD isv te re de now spa sna len sig nxt cnt rng thr kept rea det misv iit mlen at_ merr wro cmd to1 to2 mnow msav ahe bef hst noi own inp) H) (hD : va_D A (WL cy q qm ro rd out outD isv te re de now spa sna len sig nxt cnt rng thr kept rea det misv iit mlen at_ merr wro cmd to1 to2 mnow msav ahe bef hst noi own inp)) (hS : va_S A s.heap H locs) (hcs : cells + 2 ≤ 3000 ∧ slots + 12 ≤ 12000) (kk : Go p l e s m args below meth c Q D A cy q qm ro rd sb i5 cells slots) : W p l e room_1 s m args below meth c H locs cells slots Q (F0 m 1545 ls []) := by
  have hx := CX.1
  have hb := CX.2.1
  obtain ⟨k, re', de', now', nxt', cnt', rng', out', b, kept', mnow', hst', e1, e2, e3, G⟩ := S_unrack G out thr (xs (i5 + 1).toNatClampNeg)
  refine lv_aload_n hx hb (dg ddL_law27 10 rfl) rfl (lv_at hl 1 rfl) ?_
  refine lv_aload_n hx hb (dg ddL_law27 11 rfl) rfl (lv_at hl 0 rfl) ?_
  refine lv_iload hx hb (dg ddL_law27 12 rfl) (lv_at hl 5 rfl) ?_
  refine lv_iconst (v := 1) hx hb (dg ddL_law27 13 rfl) (by decide) ?_
  refine lv_iadd hx hb (dg ddL_law27 14 rfl) ?_
  refine va_sld hx hb hXs hbl hbA hS hi1 (dg ddL_law27 15 rfl) ?_
  refine lv_aload_n hx hb (dg ddL_law27 16 rfl) rfl (lv_at hl 3 rfl) ?_
  refine crl_i CX hml (As := [.ref (q 0 0), .int (xs (i5 + 1).toNatClampNeg), .ref ro]) (rest := []) (c_L_unrack l D cy q isv te re de now spa sna len sig nxt cnt rng ro out (xs (i5 + 1).toNatClampNeg) _ hst0 e1) lk_RL_213 rfl rfl ⟨(Nat.le_of_ble_eq_true rfl), (Nat.le_of_ble_eq_true rfl)⟩ hP hD hS hA hK hN hX hC pL1 pL1.symm rfl hl.1 rfl (Nat.le_of_ble_eq_true rfl) ⟨rmC (show cells + 1 ≤ 3000 by omega), rmS (show slots + 6 ≤ 12000 by omega)⟩ (dg ddL_law27 17 rfl) (fun H locs hP hD hS => ?_)
  have hP : va_P D vwCl (WL cy q qm ro rd out' outD isv te re' de' now' spa sna len sig nxt' cnt' rng' thr kept rea det misv iit mlen at_ merr wro cmd to1 to2 mnow msav ahe bef hst noi own inp) H := hP
  have hD : va_D A (WL cy q qm ro rd out' outD isv te re' de' now' spa sna len sig nxt' cnt' rng' thr kept rea det misv iit mlen at_ merr wro cmd to1 to2 mnow msav ahe bef hst noi own inp) := hD
  refine lv_istore (lv' := [(6, .int k), (0, .ref sb), (1, .ref (q 0 0)), (2, .ref (qm 0)), (3, .ref ro), (4, .ref rd), (5, .int i5)]) hx hb (dg ddL_law27 18 rfl) hl (by decide) rfl (fun ls hl => ?_)
  refine lv_aload_n hx hb (dg ddL_law27 19 rfl) rfl (lv_at hl 3 rfl) ?_
  refine lv_aload_n hx hb (dg ddL_law27 20 rfl) rfl (lv_at hl 1 rfl) ?_
  refine lv_iload hx hb (dg ddL_law27 21 rfl) (lv_at hl 6 rfl) ?_
  refine lv_iconst (v := 1) hx hb (dg ddL_law27 22 rfl) (by decide) ?_
  refine lv_iadd hx hb (dg ddL_law27 23 rfl) ?_
  refine va_sld hx hb hXs hbl hbA hS hi1 (dg ddL_law27 24 rfl) ?_
  refine crf_vi CX hml (As := [.int (xs (i5 + 1).toNatClampNeg)]) (rest := []) (c_X5_unrack l D cy qm thr kept rea det misv iit mlen at_ merr wro cmd to1 to2 mnow msav ahe bef hst noi own inp (xs (i5 + 1).toNatClampNeg) _ e2) lk_RL_215 rfl rfl ⟨(Nat.le_of_ble_eq_true rfl), (Nat.le_of_ble_eq_true rfl)⟩ hP hD hS hA hK hN pL3 pL3.symm 0 rfl rfl rfl hl.1 rfl (Nat.le_of_ble_eq_true rfl) ⟨rmC (show cells + 1 ≤ 3000 by omega), rmS (show slots + 6 ≤ 12000 by omega)⟩ (dg ddL_law27 25 rfl) (fun H locs hP hD hS => ?_)
  have hP : va_P D vwCl (WL cy q qm ro rd out' outD isv te re' de' now' spa sna len sig nxt' cnt' rng' k kept' re' de' misv iit mlen at_ merr wro cmd to1 to2 mnow' msav ahe bef hst' noi own inp) H := hP
  have hD : va_D A (WL cy q qm ro rd out' outD isv te re' de' now' spa sna len sig nxt' cnt' rng' k kept' re' de' misv iit mlen at_ merr wro cmd to1 to2 mnow' msav ahe bef hst' noi own inp) := hD
  refine lv_istore (lv' := [(7, .int b), (6, .int k), (0, .ref sb), (1, .ref (q 0 0)), (2, .ref (qm 0)), (3, .ref ro), (4, .ref rd), (5, .int i5)]) hx hb (dg ddL_law27 26 rfl) hl (by decide) rfl (fun ls hl => ?_)
  refine lv_aload_n hx hb (dg ddL_law27 27 rfl) rfl (lv_at hl 4 rfl) ?_
  refine cro_vi CX hml (As := []) (rest := []) (c_X5_thrown l D cy qm k kept' re' de' misv iit mlen at_ merr wro cmd to1 to2 mnow' msav ahe bef hst' noi own inp rfl) lk_RL_144 rfl rfl ⟨(Nat.le_of_ble_eq_true rfl), (Nat.le_of_ble_eq_true rfl)⟩ (vaP_l (vaP_perm pL3 hP)) hK hN 0 rfl rfl rfl hl.1 rfl (Nat.le_of_ble_eq_true rfl) ⟨rmC (show cells + 1 ≤ 3000 by omega), rmS (show slots + 6 ≤ 12000 by omega)⟩ (dg ddL_law27 28 rfl) ?_
  refine lv_iload hx hb (dg ddL_law27 29 rfl) (lv_at hl 1 rfl) ?_
  refine lv_icmp_eq (tgt := 1581) hx hb (dg ddL_law27 30 rfl) (by decide) (fun _ => ?_) (fun h => absurd rfl h)
  refine lv_iload hx hb (dg ddL_law28 1 rfl) (lv_at hl 1 rfl) ?_
  refine lv_if_ne (tgt := 1598) hx hb (dg ddL_law28 2 rfl) (by decide) (fun hk => ?_) (fun hk => ?_)
  ·
    refine lv_goto (tgt := 2361) hx hb (dg ddL_law28 12 rfl) (by decide) ?_
    refine W.widen (k := cells + 2) (n := slots + 12) (by omega) (by omega) ?_
    exact kk out' outD isv te re' de' now' spa sna len sig nxt' cnt' rng' k kept' re' de' misv iit mlen at_ merr wro cmd to1 to2 mnow' msav ahe bef hst' noi own inp H locs ls G (lv_sub hl [2, 3, 4, 5, 6, 7] rfl) hP hD hS
  ·
    refine lv_aload_n hx hb (dg ddL_law28 3 rfl) rfl (lv_at hl 5 rfl) ?_
    refine lv_iconst (v := 0) hx hb (dg ddL_law28 4 rfl) (by decide) ?_
    refine va_lald hx hb hK hP 0 5 rfl rfl (i := 0) (inb_in (show inb 0 1 = true by decide)) (dg ddL_law28 5 rfl) ?_
    rw [show out' (0 : Int32).toNatClampNeg = b.toInt64 from e3 hk]
    refine lv_iload hx hb (dg ddL_law28 6 rfl) (lv_at hl 0 rfl) ?_
    refine lv_i2l (v := b.toInt64) hx hb (dg ddL_law28 7 rfl) rfl ?_
    refine W.lcmp hx hb (dg ddL_law28 8 rfl) ?_
    refine lv_if_eq (tgt := 1598) hx hb (dg ddL_law28 9 rfl) (by decide) (fun _ => ?_) (fun h => absurd (lgc0 _) h)
    refine lv_goto (tgt := 2361) hx hb (dg ddL_law28 12 rfl) (by decide) ?_
    refine W.widen (k := cells + 2) (n := slots + 12) (by omega) (by omega) ?_
    exact kk out' outD isv te re' de' now' spa sna len sig nxt' cnt' rng' k kept' re' de' misv iit mlen at_ merr wro cmd to1 to2 mnow' msav ahe bef hst' noi own inp H locs ls G (lv_sub hl [2, 3, 4, 5, 6, 7] rfl) hP hD hS
set_option maxHeartbeats 4000000 in
set_option maxRecDepth 100000 in
theorem b_onRack (CX : Cx p s m c args cL_law RL) (hml : c.maxLocals = 9) (hK : va_K D vwCl (tyA cy) s) (hN : nst s) (hA : ∀ q, s.heap.size ≤ q → A q) (hX : exF A s s.heap) (hC : ncF s) (hst0 : l.stackTraces = false) (hXs : va_X sb L xs s s.heap) (hbl : sb < s.heap.size) (hbA : ¬ A sb) (hi1 : vp_in (i5 + 1) L) (hi2 : vp_in (i5 + 2) L) (G : GG isv te re de now sna len sig nxt cnt rng kept rea det misv iit mlen merr mnow msav hst inp) (hl : lv_has ls 9 [(0, .ref sb), (1, .ref (q 0 0)), (2, .ref (qm 0)), (3, .ref ro), (4, .ref rd), (5, .int i5)]) (hP : va_P D vwCl (WL cy q qm ro rd out outD isv te re de now spa sna len sig nxt cnt rng thr kept rea det misv iit mlen at_ merr wro cmd to1 to2 mnow msav ahe bef hst noi own inp) H) (hD : va_D A (WL cy q qm ro rd out outD isv te re de now spa sna len sig nxt cnt rng thr kept rea det misv iit mlen at_ merr wro cmd to1 to2 mnow msav ahe bef hst noi own inp)) (hS : va_S A s.heap H locs) (hcs : cells + 2 ≤ 3000 ∧ slots + 12 ≤ 12000) (kk : Go p l e s m args below meth c Q D A cy q qm ro rd sb i5 cells slots) : W p l e room_1 s m args below meth c H locs cells slots Q (F0 m 1601 ls []) := by
  have hx := CX.1
  have hb := CX.2.1
  obtain ⟨k, out', b, e1, e2, e3⟩ := S_onRack G out thr (xs (i5 + 1).toNatClampNeg) (xs (i5 + 2).toNatClampNeg)
  refine lv_aload_n hx hb (dg ddL_law28 13 rfl) rfl (lv_at hl 1 rfl) ?_
  refine lv_aload_n hx hb (dg ddL_law28 14 rfl) rfl (lv_at hl 0 rfl) ?_
  refine lv_iload hx hb (dg ddL_law28 15 rfl) (lv_at hl 5 rfl) ?_
  refine lv_iconst (v := 1) hx hb (dg ddL_law28 16 rfl) (by decide) ?_
  refine lv_iadd hx hb (dg ddL_law28 17 rfl) ?_
  refine va_sld hx hb hXs hbl hbA hS hi1 (dg ddL_law28 18 rfl) ?_
  refine lv_aload_n hx hb (dg ddL_law28 19 rfl) rfl (lv_at hl 0 rfl) ?_
  refine lv_iload hx hb (dg ddL_law28 20 rfl) (lv_at hl 5 rfl) ?_
  refine lv_iconst (v := 2) hx hb (dg ddL_law28 21 rfl) (by decide) ?_
  refine lv_iadd hx hb (dg ddL_law28 22 rfl) ?_
  refine va_sld hx hb hXs hbl hbA hS hi2 (dg ddL_law28 23 rfl) ?_
  refine lv_aload_n hx hb (dg ddL_law28 24 rfl) rfl (lv_at hl 3 rfl) ?_
  refine crl_i CX hml (As := [.ref (q 0 0), .int (xs (i5 + 1).toNatClampNeg), .int (xs (i5 + 2).toNatClampNeg), .ref ro]) (rest := []) (c_L_onRack l D cy q isv te re de now spa sna len sig nxt cnt rng ro out (xs (i5 + 1).toNatClampNeg) (xs (i5 + 2).toNatClampNeg) _ hst0 e1) lk_RL_216 rfl rfl ⟨(Nat.le_of_ble_eq_true rfl), (Nat.le_of_ble_eq_true rfl)⟩ hP hD hS hA hK hN hX hC pL1 pL1.symm rfl hl.1 rfl (Nat.le_of_ble_eq_true rfl) ⟨rmC (show cells + 1 ≤ 3000 by omega), rmS (show slots + 6 ≤ 12000 by omega)⟩ (dg ddL_law28 25 rfl) (fun H locs hP hD hS => ?_)
  have hP : va_P D vwCl (WL cy q qm ro rd out' outD isv te re de now spa sna len sig nxt cnt rng thr kept rea det misv iit mlen at_ merr wro cmd to1 to2 mnow msav ahe bef hst noi own inp) H := hP
  have hD : va_D A (WL cy q qm ro rd out' outD isv te re de now spa sna len sig nxt cnt rng thr kept rea det misv iit mlen at_ merr wro cmd to1 to2 mnow msav ahe bef hst noi own inp) := hD
  refine lv_istore (lv' := [(6, .int k), (0, .ref sb), (1, .ref (q 0 0)), (2, .ref (qm 0)), (3, .ref ro), (4, .ref rd), (5, .int i5)]) hx hb (dg ddL_law28 26 rfl) hl (by decide) rfl (fun ls hl => ?_)
  refine lv_aload_n hx hb (dg ddL_law28 27 rfl) rfl (lv_at hl 3 rfl) ?_
  refine lv_aload_n hx hb (dg ddL_law28 28 rfl) rfl (lv_at hl 1 rfl) ?_
  refine lv_iload hx hb (dg ddL_law28 29 rfl) (lv_at hl 6 rfl) ?_
  refine lv_iconst (v := 1) hx hb (dg ddL_law28 30 rfl) (by decide) ?_
  refine lv_iadd hx hb (dg ddL_law28 31 rfl) ?_
  refine va_sld hx hb hXs hbl hbA hS hi1 (dg ddL_law29 0 rfl) ?_
  refine lv_aload_n hx hb (dg ddL_law29 1 rfl) rfl (lv_at hl 1 rfl) ?_
  refine lv_iload hx hb (dg ddL_law29 2 rfl) (lv_at hl 6 rfl) ?_
  refine lv_iconst (v := 2) hx hb (dg ddL_law29 3 rfl) (by decide) ?_
  refine lv_iadd hx hb (dg ddL_law29 4 rfl) ?_
  refine va_sld hx hb hXs hbl hbA hS hi2 (dg ddL_law29 5 rfl) ?_
  refine crf_vi CX hml (As := [.int (xs (i5 + 1).toNatClampNeg), .int (xs (i5 + 2).toNatClampNeg)]) (rest := []) (c_X5_onRack l D cy qm thr kept rea det misv iit mlen at_ merr wro cmd to1 to2 mnow msav ahe bef hst noi own inp (xs (i5 + 1).toNatClampNeg) (xs (i5 + 2).toNatClampNeg) _ e2) lk_RL_218 rfl rfl ⟨(Nat.le_of_ble_eq_true rfl), (Nat.le_of_ble_eq_true rfl)⟩ hP hD hS hA hK hN pL3 pL3.symm 0 rfl rfl rfl hl.1 rfl (Nat.le_of_ble_eq_true rfl) ⟨rmC (show cells + 1 ≤ 3000 by omega), rmS (show slots + 6 ≤ 12000 by omega)⟩ (dg ddL_law29 6 rfl) (fun H locs hP hD hS => ?_)
  have hP : va_P D vwCl (WL cy q qm ro rd out' outD isv te re de now spa sna len sig nxt cnt rng k kept rea det misv iit mlen at_ merr wro cmd to1 to2 mnow msav ahe bef hst noi own inp) H := hP
  have hD : va_D A (WL cy q qm ro rd out' outD isv te re de now spa sna len sig nxt cnt rng k kept rea det misv iit mlen at_ merr wro cmd to1 to2 mnow msav ahe bef hst noi own inp) := hD
  refine lv_istore (lv' := [(7, .int b), (6, .int k), (0, .ref sb), (1, .ref (q 0 0)), (2, .ref (qm 0)), (3, .ref ro), (4, .ref rd), (5, .int i5)]) hx hb (dg ddL_law29 7 rfl) hl (by decide) rfl (fun ls hl => ?_)
  refine lv_aload_n hx hb (dg ddL_law29 8 rfl) rfl (lv_at hl 4 rfl) ?_
  refine cro_vi CX hml (As := []) (rest := []) (c_X5_thrown l D cy qm k kept rea det misv iit mlen at_ merr wro cmd to1 to2 mnow msav ahe bef hst noi own inp rfl) lk_RL_144 rfl rfl ⟨(Nat.le_of_ble_eq_true rfl), (Nat.le_of_ble_eq_true rfl)⟩ (vaP_l (vaP_perm pL3 hP)) hK hN 0 rfl rfl rfl hl.1 rfl (Nat.le_of_ble_eq_true rfl) ⟨rmC (show cells + 1 ≤ 3000 by omega), rmS (show slots + 6 ≤ 12000 by omega)⟩ (dg ddL_law29 9 rfl) ?_
  refine lv_iload hx hb (dg ddL_law29 10 rfl) (lv_at hl 1 rfl) ?_
  refine lv_icmp_eq (tgt := 1649) hx hb (dg ddL_law29 11 rfl) (by decide) (fun _ => ?_) (fun h => absurd rfl h)
  refine lv_iload hx hb (dg ddL_law29 14 rfl) (lv_at hl 1 rfl) ?_
  refine lv_if_ne (tgt := 1666) hx hb (dg ddL_law29 15 rfl) (by decide) (fun hk => ?_) (fun hk => ?_)
  ·
    refine lv_goto (tgt := 2361) hx hb (dg ddL_law29 25 rfl) (by decide) ?_
    refine W.widen (k := cells + 2) (n := slots + 12) (by omega) (by omega) ?_
    exact kk out' outD isv te re de now spa sna len sig nxt cnt rng k kept rea det misv iit mlen at_ merr wro cmd to1 to2 mnow msav ahe bef hst noi own inp H locs ls G (lv_sub hl [2, 3, 4, 5, 6, 7] rfl) hP hD hS
  ·
    refine lv_aload_n hx hb (dg ddL_law29 16 rfl) rfl (lv_at hl 5 rfl) ?_
    refine lv_iconst (v := 0) hx hb (dg ddL_law29 17 rfl) (by decide) ?_
    refine va_lald hx hb hK hP 0 5 rfl rfl (i := 0) (inb_in (show inb 0 1 = true by decide)) (dg ddL_law29 18 rfl) ?_
    rw [show out' (0 : Int32).toNatClampNeg = b.toInt64 from e3 hk]
    refine lv_iload hx hb (dg ddL_law29 19 rfl) (lv_at hl 0 rfl) ?_
    refine lv_i2l (v := b.toInt64) hx hb (dg ddL_law29 20 rfl) rfl ?_
    refine W.lcmp hx hb (dg ddL_law29 21 rfl) ?_
    refine lv_if_eq (tgt := 1666) hx hb (dg ddL_law29 22 rfl) (by decide) (fun _ => ?_) (fun h => absurd (lgc0 _) h)
    refine lv_goto (tgt := 2361) hx hb (dg ddL_law29 25 rfl) (by decide) ?_
    refine W.widen (k := cells + 2) (n := slots + 12) (by omega) (by omega) ?_
    exact kk out' outD isv te re de now spa sna len sig nxt cnt rng k kept rea det misv iit mlen at_ merr wro cmd to1 to2 mnow msav ahe bef hst noi own inp H locs ls G (lv_sub hl [2, 3, 4, 5, 6, 7] rfl) hP hD hS
set_option maxHeartbeats 4000000 in
set_option maxRecDepth 100000 in
theorem b_ranked (CX : Cx p s m c args cL_law RL) (hml : c.maxLocals = 9) (hK : va_K D vwCl (tyA cy) s) (hN : nst s) (hA : ∀ q, s.heap.size ≤ q → A q) (hX : exF A s s.heap) (hC : ncF s) (hst0 : l.stackTraces = false) (hXs : va_X sb L xs s s.heap) (hbl : sb < s.heap.size) (hbA : ¬ A sb) (hi1 : vp_in (i5 + 1) L) (hi2 : vp_in (i5 + 2) L) (G : GG isv te re de now sna len sig nxt cnt rng kept rea det misv iit mlen merr mnow msav hst inp) (hl : lv_has ls 9 [(0, .ref sb), (1, .ref (q 0 0)), (2, .ref (qm 0)), (3, .ref ro), (4, .ref rd), (5, .int i5)]) (hP : va_P D vwCl (WL cy q qm ro rd out outD isv te re de now spa sna len sig nxt cnt rng thr kept rea det misv iit mlen at_ merr wro cmd to1 to2 mnow msav ahe bef hst noi own inp) H) (hD : va_D A (WL cy q qm ro rd out outD isv te re de now spa sna len sig nxt cnt rng thr kept rea det misv iit mlen at_ merr wro cmd to1 to2 mnow msav ahe bef hst noi own inp)) (hS : va_S A s.heap H locs) (hcs : cells + 2 ≤ 3000 ∧ slots + 12 ≤ 12000) (kk : Go p l e s m args below meth c Q D A cy q qm ro rd sb i5 cells slots) : W p l e room_1 s m args below meth c H locs cells slots Q (F0 m 1669 ls []) := by
  have hx := CX.1
  have hb := CX.2.1
  obtain ⟨k, out', b, e1, e2, e3⟩ := S_ranked G out thr (xs (i5 + 1).toNatClampNeg)
  refine lv_aload_n hx hb (dg ddL_law29 26 rfl) rfl (lv_at hl 1 rfl) ?_
  refine lv_aload_n hx hb (dg ddL_law29 27 rfl) rfl (lv_at hl 0 rfl) ?_
  refine lv_iload hx hb (dg ddL_law29 28 rfl) (lv_at hl 5 rfl) ?_
  refine lv_iconst (v := 1) hx hb (dg ddL_law29 29 rfl) (by decide) ?_
  refine lv_iadd hx hb (dg ddL_law29 30 rfl) ?_
  refine va_sld hx hb hXs hbl hbA hS hi1 (dg ddL_law29 31 rfl) ?_
  refine lv_aload_n hx hb (dg ddL_law30 0 rfl) rfl (lv_at hl 3 rfl) ?_
  refine crl_i CX hml (As := [.ref (q 0 0), .int (xs (i5 + 1).toNatClampNeg), .ref ro]) (rest := []) (c_L_ranked l D cy q isv te re de now spa sna len sig nxt cnt rng ro out (xs (i5 + 1).toNatClampNeg) _ hst0 e1) lk_RL_219 rfl rfl ⟨(Nat.le_of_ble_eq_true rfl), (Nat.le_of_ble_eq_true rfl)⟩ hP hD hS hA hK hN hX hC pL1 pL1.symm rfl hl.1 rfl (Nat.le_of_ble_eq_true rfl) ⟨rmC (show cells + 1 ≤ 3000 by omega), rmS (show slots + 6 ≤ 12000 by omega)⟩ (dg ddL_law30 1 rfl) (fun H locs hP hD hS => ?_)
  have hP : va_P D vwCl (WL cy q qm ro rd out' outD isv te re de now spa sna len sig nxt cnt rng thr kept rea det misv iit mlen at_ merr wro cmd to1 to2 mnow msav ahe bef hst noi own inp) H := hP
  have hD : va_D A (WL cy q qm ro rd out' outD isv te re de now spa sna len sig nxt cnt rng thr kept rea det misv iit mlen at_ merr wro cmd to1 to2 mnow msav ahe bef hst noi own inp) := hD
  refine lv_istore (lv' := [(6, .int k), (0, .ref sb), (1, .ref (q 0 0)), (2, .ref (qm 0)), (3, .ref ro), (4, .ref rd), (5, .int i5)]) hx hb (dg ddL_law30 2 rfl) hl (by decide) rfl (fun ls hl => ?_)
  refine lv_aload_n hx hb (dg ddL_law30 3 rfl) rfl (lv_at hl 3 rfl) ?_
  refine lv_aload_n hx hb (dg ddL_law30 4 rfl) rfl (lv_at hl 1 rfl) ?_
  refine lv_iload hx hb (dg ddL_law30 5 rfl) (lv_at hl 6 rfl) ?_
  refine lv_iconst (v := 1) hx hb (dg ddL_law30 6 rfl) (by decide) ?_
  refine lv_iadd hx hb (dg ddL_law30 7 rfl) ?_
  refine va_sld hx hb hXs hbl hbA hS hi1 (dg ddL_law30 8 rfl) ?_
  refine crf_vi CX hml (As := [.int (xs (i5 + 1).toNatClampNeg)]) (rest := []) (c_X5_ranked l D cy qm thr kept rea det misv iit mlen at_ merr wro cmd to1 to2 mnow msav ahe bef hst noi own inp (xs (i5 + 1).toNatClampNeg) _ e2) lk_RL_221 rfl rfl ⟨(Nat.le_of_ble_eq_true rfl), (Nat.le_of_ble_eq_true rfl)⟩ hP hD hS hA hK hN pL3 pL3.symm 0 rfl rfl rfl hl.1 rfl (Nat.le_of_ble_eq_true rfl) ⟨rmC (show cells + 1 ≤ 3000 by omega), rmS (show slots + 6 ≤ 12000 by omega)⟩ (dg ddL_law30 9 rfl) (fun H locs hP hD hS => ?_)
  have hP : va_P D vwCl (WL cy q qm ro rd out' outD isv te re de now spa sna len sig nxt cnt rng k kept rea det misv iit mlen at_ merr wro cmd to1 to2 mnow msav ahe bef hst noi own inp) H := hP
  have hD : va_D A (WL cy q qm ro rd out' outD isv te re de now spa sna len sig nxt cnt rng k kept rea det misv iit mlen at_ merr wro cmd to1 to2 mnow msav ahe bef hst noi own inp) := hD
  refine lv_istore (lv' := [(7, .int b), (6, .int k), (0, .ref sb), (1, .ref (q 0 0)), (2, .ref (qm 0)), (3, .ref ro), (4, .ref rd), (5, .int i5)]) hx hb (dg ddL_law30 10 rfl) hl (by decide) rfl (fun ls hl => ?_)
  refine lv_aload_n hx hb (dg ddL_law30 11 rfl) rfl (lv_at hl 4 rfl) ?_
  refine cro_vi CX hml (As := []) (rest := []) (c_X5_thrown l D cy qm k kept rea det misv iit mlen at_ merr wro cmd to1 to2 mnow msav ahe bef hst noi own inp rfl) lk_RL_144 rfl rfl ⟨(Nat.le_of_ble_eq_true rfl), (Nat.le_of_ble_eq_true rfl)⟩ (vaP_l (vaP_perm pL3 hP)) hK hN 0 rfl rfl rfl hl.1 rfl (Nat.le_of_ble_eq_true rfl) ⟨rmC (show cells + 1 ≤ 3000 by omega), rmS (show slots + 6 ≤ 12000 by omega)⟩ (dg ddL_law30 12 rfl) ?_
  refine lv_iload hx hb (dg ddL_law30 13 rfl) (lv_at hl 1 rfl) ?_
  refine lv_icmp_eq (tgt := 1705) hx hb (dg ddL_law30 14 rfl) (by decide) (fun _ => ?_) (fun h => absurd rfl h)
  refine lv_iload hx hb (dg ddL_law30 17 rfl) (lv_at hl 1 rfl) ?_
  refine lv_if_ne (tgt := 1722) hx hb (dg ddL_law30 18 rfl) (by decide) (fun hk => ?_) (fun hk => ?_)
  ·
    refine lv_goto (tgt := 2361) hx hb (dg ddL_law30 28 rfl) (by decide) ?_
    refine W.widen (k := cells + 2) (n := slots + 12) (by omega) (by omega) ?_
    exact kk out' outD isv te re de now spa sna len sig nxt cnt rng k kept rea det misv iit mlen at_ merr wro cmd to1 to2 mnow msav ahe bef hst noi own inp H locs ls G (lv_sub hl [2, 3, 4, 5, 6, 7] rfl) hP hD hS
  ·
    refine lv_aload_n hx hb (dg ddL_law30 19 rfl) rfl (lv_at hl 5 rfl) ?_
    refine lv_iconst (v := 0) hx hb (dg ddL_law30 20 rfl) (by decide) ?_
    refine va_lald hx hb hK hP 0 5 rfl rfl (i := 0) (inb_in (show inb 0 1 = true by decide)) (dg ddL_law30 21 rfl) ?_
    rw [show out' (0 : Int32).toNatClampNeg = b.toInt64 from e3 hk]
    refine lv_iload hx hb (dg ddL_law30 22 rfl) (lv_at hl 0 rfl) ?_
    refine lv_i2l (v := b.toInt64) hx hb (dg ddL_law30 23 rfl) rfl ?_
    refine W.lcmp hx hb (dg ddL_law30 24 rfl) ?_
    refine lv_if_eq (tgt := 1722) hx hb (dg ddL_law30 25 rfl) (by decide) (fun _ => ?_) (fun h => absurd (lgc0 _) h)
    refine lv_goto (tgt := 2361) hx hb (dg ddL_law30 28 rfl) (by decide) ?_
    refine W.widen (k := cells + 2) (n := slots + 12) (by omega) (by omega) ?_
    exact kk out' outD isv te re de now spa sna len sig nxt cnt rng k kept rea det misv iit mlen at_ merr wro cmd to1 to2 mnow msav ahe bef hst noi own inp H locs ls G (lv_sub hl [2, 3, 4, 5, 6, 7] rfl) hP hD hS
set_option maxHeartbeats 4000000 in
set_option maxRecDepth 100000 in
theorem b_pass (CX : Cx p s m c args cL_law RL) (hml : c.maxLocals = 9) (hK : va_K D vwCl (tyA cy) s) (hN : nst s) (hA : ∀ q, s.heap.size ≤ q → A q) (hX : exF A s s.heap) (hC : ncF s) (hst0 : l.stackTraces = false) (hXs : va_X sb L xs s s.heap) (hbl : sb < s.heap.size) (hbA : ¬ A sb) (hi1 : vp_in (i5 + 1) L) (hi2 : vp_in (i5 + 2) L) (G : GG isv te re de now sna len sig nxt cnt rng kept rea det misv iit mlen merr mnow msav hst inp) (hl : lv_has ls 9 [(0, .ref sb), (1, .ref (q 0 0)), (2, .ref (qm 0)), (3, .ref ro), (4, .ref rd), (5, .int i5)]) (hP : va_P D vwCl (WL cy q qm ro rd out outD isv te re de now spa sna len sig nxt cnt rng thr kept rea det misv iit mlen at_ merr wro cmd to1 to2 mnow msav ahe bef hst noi own inp) H) (hD : va_D A (WL cy q qm ro rd out outD isv te re de now spa sna len sig nxt cnt rng thr kept rea det misv iit mlen at_ merr wro cmd to1 to2 mnow msav ahe bef hst noi own inp)) (hS : va_S A s.heap H locs) (hcs : cells + 2 ≤ 3000 ∧ slots + 12 ≤ 12000) (kk : Go p l e s m args below meth c Q D A cy q qm ro rd sb i5 cells slots) : W p l e room_1 s m args below meth c H locs cells slots Q (F0 m 1725 ls []) := by
  have hx := CX.1
  have hb := CX.2.1
  obtain ⟨k, now', nxt', cnt', rng', out', b, kept', mnow', hst', noi', e1, e2, e3, G⟩ := S_pass G out thr noi (xs (i5 + 1).toNatClampNeg)
  refine lv_aload_n hx hb (dg ddL_law30 29 rfl) rfl (lv_at hl 1 rfl) ?_
  refine lv_aload_n hx hb (dg ddL_law30 30 rfl) rfl (lv_at hl 0 rfl) ?_
  refine lv_iload hx hb (dg ddL_law30 31 rfl) (lv_at hl 5 rfl) ?_
  refine lv_iconst (v := 1) hx hb (dg ddL_law31 0 rfl) (by decide) ?_
  refine lv_iadd hx hb (dg ddL_law31 1 rfl) ?_
  refine va_sld hx hb hXs hbl hbA hS hi1 (dg ddL_law31 2 rfl) ?_
  refine lv_aload_n hx hb (dg ddL_law31 3 rfl) rfl (lv_at hl 3 rfl) ?_
  refine crl_i CX hml (As := [.ref (q 0 0), .int (xs (i5 + 1).toNatClampNeg), .ref ro]) (rest := []) (c_L_pass l D cy q isv te re de now spa sna len sig nxt cnt rng ro out (xs (i5 + 1).toNatClampNeg) _ hst0 e1) lk_RL_222 rfl rfl ⟨(Nat.le_of_ble_eq_true rfl), (Nat.le_of_ble_eq_true rfl)⟩ hP hD hS hA hK hN hX hC pL1 pL1.symm rfl hl.1 rfl (Nat.le_of_ble_eq_true rfl) ⟨rmC (show cells + 1 ≤ 3000 by omega), rmS (show slots + 6 ≤ 12000 by omega)⟩ (dg ddL_law31 4 rfl) (fun H locs hP hD hS => ?_)
  have hP : va_P D vwCl (WL cy q qm ro rd out' outD isv te re de now' spa sna len sig nxt' cnt' rng' thr kept rea det misv iit mlen at_ merr wro cmd to1 to2 mnow msav ahe bef hst noi own inp) H := hP
  have hD : va_D A (WL cy q qm ro rd out' outD isv te re de now' spa sna len sig nxt' cnt' rng' thr kept rea det misv iit mlen at_ merr wro cmd to1 to2 mnow msav ahe bef hst noi own inp) := hD
  refine lv_istore (lv' := [(6, .int k), (0, .ref sb), (1, .ref (q 0 0)), (2, .ref (qm 0)), (3, .ref ro), (4, .ref rd), (5, .int i5)]) hx hb (dg ddL_law31 5 rfl) hl (by decide) rfl (fun ls hl => ?_)
  refine lv_aload_n hx hb (dg ddL_law31 6 rfl) rfl (lv_at hl 3 rfl) ?_
  refine lv_aload_n hx hb (dg ddL_law31 7 rfl) rfl (lv_at hl 1 rfl) ?_
  refine lv_iload hx hb (dg ddL_law31 8 rfl) (lv_at hl 6 rfl) ?_
  refine lv_iconst (v := 1) hx hb (dg ddL_law31 9 rfl) (by decide) ?_
  refine lv_iadd hx hb (dg ddL_law31 10 rfl) ?_
  refine va_sld hx hb hXs hbl hbA hS hi1 (dg ddL_law31 11 rfl) ?_
  refine crf_vi CX hml (As := [.int (xs (i5 + 1).toNatClampNeg)]) (rest := []) (c_X5_pass l D cy qm thr kept rea det misv iit mlen at_ merr wro cmd to1 to2 mnow msav ahe bef hst noi own inp (xs (i5 + 1).toNatClampNeg) _ e2) lk_RL_224 rfl rfl ⟨(Nat.le_of_ble_eq_true rfl), (Nat.le_of_ble_eq_true rfl)⟩ hP hD hS hA hK hN pL3 pL3.symm 0 rfl rfl rfl hl.1 rfl (Nat.le_of_ble_eq_true rfl) ⟨rmC (show cells + 1 ≤ 3000 by omega), rmS (show slots + 6 ≤ 12000 by omega)⟩ (dg ddL_law31 12 rfl) (fun H locs hP hD hS => ?_)
  have hP : va_P D vwCl (WL cy q qm ro rd out' outD isv te re de now' spa sna len sig nxt' cnt' rng' k kept' rea det misv iit mlen at_ merr wro cmd to1 to2 mnow' msav ahe bef hst' noi' own inp) H := hP
  have hD : va_D A (WL cy q qm ro rd out' outD isv te re de now' spa sna len sig nxt' cnt' rng' k kept' rea det misv iit mlen at_ merr wro cmd to1 to2 mnow' msav ahe bef hst' noi' own inp) := hD
  refine lv_istore (lv' := [(7, .int b), (6, .int k), (0, .ref sb), (1, .ref (q 0 0)), (2, .ref (qm 0)), (3, .ref ro), (4, .ref rd), (5, .int i5)]) hx hb (dg ddL_law31 13 rfl) hl (by decide) rfl (fun ls hl => ?_)
  refine lv_aload_n hx hb (dg ddL_law31 14 rfl) rfl (lv_at hl 4 rfl) ?_
  refine cro_vi CX hml (As := []) (rest := []) (c_X5_thrown l D cy qm k kept' rea det misv iit mlen at_ merr wro cmd to1 to2 mnow' msav ahe bef hst' noi' own inp rfl) lk_RL_144 rfl rfl ⟨(Nat.le_of_ble_eq_true rfl), (Nat.le_of_ble_eq_true rfl)⟩ (vaP_l (vaP_perm pL3 hP)) hK hN 0 rfl rfl rfl hl.1 rfl (Nat.le_of_ble_eq_true rfl) ⟨rmC (show cells + 1 ≤ 3000 by omega), rmS (show slots + 6 ≤ 12000 by omega)⟩ (dg ddL_law31 15 rfl) ?_
  refine lv_iload hx hb (dg ddL_law31 16 rfl) (lv_at hl 1 rfl) ?_
  refine lv_icmp_eq (tgt := 1761) hx hb (dg ddL_law31 17 rfl) (by decide) (fun _ => ?_) (fun h => absurd rfl h)
  refine lv_iload hx hb (dg ddL_law31 20 rfl) (lv_at hl 1 rfl) ?_
  refine lv_if_ne (tgt := 1778) hx hb (dg ddL_law31 21 rfl) (by decide) (fun hk => ?_) (fun hk => ?_)
  ·
    refine lv_goto (tgt := 2361) hx hb (dg ddL_law31 31 rfl) (by decide) ?_
    refine W.widen (k := cells + 2) (n := slots + 12) (by omega) (by omega) ?_
    exact kk out' outD isv te re de now' spa sna len sig nxt' cnt' rng' k kept' rea det misv iit mlen at_ merr wro cmd to1 to2 mnow' msav ahe bef hst' noi' own inp H locs ls G (lv_sub hl [2, 3, 4, 5, 6, 7] rfl) hP hD hS
  ·
    refine lv_aload_n hx hb (dg ddL_law31 22 rfl) rfl (lv_at hl 5 rfl) ?_
    refine lv_iconst (v := 0) hx hb (dg ddL_law31 23 rfl) (by decide) ?_
    refine va_lald hx hb hK hP 0 5 rfl rfl (i := 0) (inb_in (show inb 0 1 = true by decide)) (dg ddL_law31 24 rfl) ?_
    rw [show out' (0 : Int32).toNatClampNeg = b.toInt64 from e3 hk]
    refine lv_iload hx hb (dg ddL_law31 25 rfl) (lv_at hl 0 rfl) ?_
    refine lv_i2l (v := b.toInt64) hx hb (dg ddL_law31 26 rfl) rfl ?_
    refine W.lcmp hx hb (dg ddL_law31 27 rfl) ?_
    refine lv_if_eq (tgt := 1778) hx hb (dg ddL_law31 28 rfl) (by decide) (fun _ => ?_) (fun h => absurd (lgc0 _) h)
    refine lv_goto (tgt := 2361) hx hb (dg ddL_law31 31 rfl) (by decide) ?_
    refine W.widen (k := cells + 2) (n := slots + 12) (by omega) (by omega) ?_
    exact kk out' outD isv te re de now' spa sna len sig nxt' cnt' rng' k kept' rea det misv iit mlen at_ merr wro cmd to1 to2 mnow' msav ahe bef hst' noi' own inp H locs ls G (lv_sub hl [2, 3, 4, 5, 6, 7] rfl) hP hD hS
set_option maxHeartbeats 4000000 in
set_option maxRecDepth 100000 in
theorem b_hatIn (CX : Cx p s m c args cL_law RL) (hml : c.maxLocals = 9) (hK : va_K D vwCl (tyA cy) s) (hN : nst s) (hA : ∀ q, s.heap.size ≤ q → A q) (hX : exF A s s.heap) (hC : ncF s) (hst0 : l.stackTraces = false) (hXs : va_X sb L xs s s.heap) (hbl : sb < s.heap.size) (hbA : ¬ A sb) (hi1 : vp_in (i5 + 1) L) (hi2 : vp_in (i5 + 2) L) (G : GG isv te re de now sna len sig nxt cnt rng kept rea det misv iit mlen merr mnow msav hst inp) (hl : lv_has ls 9 [(0, .ref sb), (1, .ref (q 0 0)), (2, .ref (qm 0)), (3, .ref ro), (4, .ref rd), (5, .int i5)]) (hP : va_P D vwCl (WL cy q qm ro rd out outD isv te re de now spa sna len sig nxt cnt rng thr kept rea det misv iit mlen at_ merr wro cmd to1 to2 mnow msav ahe bef hst noi own inp) H) (hD : va_D A (WL cy q qm ro rd out outD isv te re de now spa sna len sig nxt cnt rng thr kept rea det misv iit mlen at_ merr wro cmd to1 to2 mnow msav ahe bef hst noi own inp)) (hS : va_S A s.heap H locs) (hcs : cells + 2 ≤ 3000 ∧ slots + 12 ≤ 12000) (kk : Go p l e s m args below meth c Q D A cy q qm ro rd sb i5 cells slots) : W p l e room_1 s m args below meth c H locs cells slots Q (F0 m 1781 ls []) := by
  have hx := CX.1
  have hb := CX.2.1
  obtain ⟨k, spa', out', b, mnow', ahe', noi', e1, e2, e3, G⟩ := S_hatIn G spa out thr ahe noi (xs (i5 + 1).toNatClampNeg) (xs (i5 + 2).toNatClampNeg)
  refine lv_aload_n hx hb (dg ddL_law32 0 rfl) rfl (lv_at hl 1 rfl) ?_
  refine lv_aload_n hx hb (dg ddL_law32 1 rfl) rfl (lv_at hl 0 rfl) ?_
  refine lv_iload hx hb (dg ddL_law32 2 rfl) (lv_at hl 5 rfl) ?_
  refine lv_iconst (v := 1) hx hb (dg ddL_law32 3 rfl) (by decide) ?_
  refine lv_iadd hx hb (dg ddL_law32 4 rfl) ?_
  refine va_sld hx hb hXs hbl hbA hS hi1 (dg ddL_law32 5 rfl) ?_
  refine lv_aload_n hx hb (dg ddL_law32 6 rfl) rfl (lv_at hl 0 rfl) ?_
  refine lv_iload hx hb (dg ddL_law32 7 rfl) (lv_at hl 5 rfl) ?_
  refine lv_iconst (v := 2) hx hb (dg ddL_law32 8 rfl) (by decide) ?_
  refine lv_iadd hx hb (dg ddL_law32 9 rfl) ?_
  refine va_sld hx hb hXs hbl hbA hS hi2 (dg ddL_law32 10 rfl) ?_
  refine lv_aload_n hx hb (dg ddL_law32 11 rfl) rfl (lv_at hl 3 rfl) ?_
  refine crl_i CX hml (As := [.ref (q 0 0), .int (xs (i5 + 1).toNatClampNeg), .int (xs (i5 + 2).toNatClampNeg), .ref ro]) (rest := []) (c_L_hatIn l D cy q isv te re de now spa sna len sig nxt cnt rng ro out (xs (i5 + 1).toNatClampNeg) (xs (i5 + 2).toNatClampNeg) _ hst0 e1) lk_RL_225 rfl rfl ⟨(Nat.le_of_ble_eq_true rfl), (Nat.le_of_ble_eq_true rfl)⟩ hP hD hS hA hK hN hX hC pL1 pL1.symm rfl hl.1 rfl (Nat.le_of_ble_eq_true rfl) ⟨rmC (show cells + 2 ≤ 3000 by omega), rmS (show slots + 12 ≤ 12000 by omega)⟩ (dg ddL_law32 12 rfl) (fun H locs hP hD hS => ?_)
  have hP : va_P D vwCl (WL cy q qm ro rd out' outD isv te re de now spa' sna len sig nxt cnt rng thr kept rea det misv iit mlen at_ merr wro cmd to1 to2 mnow msav ahe bef hst noi own inp) H := hP
  have hD : va_D A (WL cy q qm ro rd out' outD isv te re de now spa' sna len sig nxt cnt rng thr kept rea det misv iit mlen at_ merr wro cmd to1 to2 mnow msav ahe bef hst noi own inp) := hD
  refine lv_istore (lv' := [(6, .int k), (0, .ref sb), (1, .ref (q 0 0)), (2, .ref (qm 0)), (3, .ref ro), (4, .ref rd), (5, .int i5)]) hx hb (dg ddL_law32 13 rfl) hl (by decide) rfl (fun ls hl => ?_)
  refine lv_aload_n hx hb (dg ddL_law32 14 rfl) rfl (lv_at hl 3 rfl) ?_
  refine lv_aload_n hx hb (dg ddL_law32 15 rfl) rfl (lv_at hl 1 rfl) ?_
  refine lv_iload hx hb (dg ddL_law32 16 rfl) (lv_at hl 6 rfl) ?_
  refine lv_iconst (v := 1) hx hb (dg ddL_law32 17 rfl) (by decide) ?_
  refine lv_iadd hx hb (dg ddL_law32 18 rfl) ?_
  refine va_sld hx hb hXs hbl hbA hS hi1 (dg ddL_law32 19 rfl) ?_
  refine lv_aload_n hx hb (dg ddL_law32 20 rfl) rfl (lv_at hl 1 rfl) ?_
  refine lv_iload hx hb (dg ddL_law32 21 rfl) (lv_at hl 6 rfl) ?_
  refine lv_iconst (v := 2) hx hb (dg ddL_law32 22 rfl) (by decide) ?_
  refine lv_iadd hx hb (dg ddL_law32 23 rfl) ?_
  refine va_sld hx hb hXs hbl hbA hS hi2 (dg ddL_law32 24 rfl) ?_
  refine crf_vi CX hml (As := [.int (xs (i5 + 1).toNatClampNeg), .int (xs (i5 + 2).toNatClampNeg)]) (rest := []) (c_X5_hatIn l D cy qm thr kept rea det misv iit mlen at_ merr wro cmd to1 to2 mnow msav ahe bef hst noi own inp (xs (i5 + 1).toNatClampNeg) (xs (i5 + 2).toNatClampNeg) _ e2) lk_RL_227 rfl rfl ⟨(Nat.le_of_ble_eq_true rfl), (Nat.le_of_ble_eq_true rfl)⟩ hP hD hS hA hK hN pL3 pL3.symm 0 rfl rfl rfl hl.1 rfl (Nat.le_of_ble_eq_true rfl) ⟨rmC (show cells + 2 ≤ 3000 by omega), rmS (show slots + 12 ≤ 12000 by omega)⟩ (dg ddL_law32 25 rfl) (fun H locs hP hD hS => ?_)
  have hP : va_P D vwCl (WL cy q qm ro rd out' outD isv te re de now spa' sna len sig nxt cnt rng k kept rea det misv iit mlen at_ merr wro cmd to1 to2 mnow' msav ahe' bef hst noi' own inp) H := hP
  have hD : va_D A (WL cy q qm ro rd out' outD isv te re de now spa' sna len sig nxt cnt rng k kept rea det misv iit mlen at_ merr wro cmd to1 to2 mnow' msav ahe' bef hst noi' own inp) := hD
  refine lv_istore (lv' := [(7, .int b), (6, .int k), (0, .ref sb), (1, .ref (q 0 0)), (2, .ref (qm 0)), (3, .ref ro), (4, .ref rd), (5, .int i5)]) hx hb (dg ddL_law32 26 rfl) hl (by decide) rfl (fun ls hl => ?_)
  refine lv_aload_n hx hb (dg ddL_law32 27 rfl) rfl (lv_at hl 4 rfl) ?_
  refine cro_vi CX hml (As := []) (rest := []) (c_X5_thrown l D cy qm k kept rea det misv iit mlen at_ merr wro cmd to1 to2 mnow' msav ahe' bef hst noi' own inp rfl) lk_RL_144 rfl rfl ⟨(Nat.le_of_ble_eq_true rfl), (Nat.le_of_ble_eq_true rfl)⟩ (vaP_l (vaP_perm pL3 hP)) hK hN 0 rfl rfl rfl hl.1 rfl (Nat.le_of_ble_eq_true rfl) ⟨rmC (show cells + 2 ≤ 3000 by omega), rmS (show slots + 12 ≤ 12000 by omega)⟩ (dg ddL_law32 28 rfl) ?_
  refine lv_iload hx hb (dg ddL_law32 29 rfl) (lv_at hl 1 rfl) ?_
  refine lv_icmp_eq (tgt := 1829) hx hb (dg ddL_law32 30 rfl) (by decide) (fun _ => ?_) (fun h => absurd rfl h)
  refine lv_iload hx hb (dg ddL_law33 1 rfl) (lv_at hl 1 rfl) ?_
  refine lv_if_ne (tgt := 1846) hx hb (dg ddL_law33 2 rfl) (by decide) (fun hk => ?_) (fun hk => ?_)
  ·
    refine lv_goto (tgt := 2361) hx hb (dg ddL_law33 12 rfl) (by decide) ?_
    refine W.widen (k := cells + 2) (n := slots + 12) (by omega) (by omega) ?_
    exact kk out' outD isv te re de now spa' sna len sig nxt cnt rng k kept rea det misv iit mlen at_ merr wro cmd to1 to2 mnow' msav ahe' bef hst noi' own inp H locs ls G (lv_sub hl [2, 3, 4, 5, 6, 7] rfl) hP hD hS
  ·
    refine lv_aload_n hx hb (dg ddL_law33 3 rfl) rfl (lv_at hl 5 rfl) ?_
    refine lv_iconst (v := 0) hx hb (dg ddL_law33 4 rfl) (by decide) ?_
    refine va_lald hx hb hK hP 0 5 rfl rfl (i := 0) (inb_in (show inb 0 1 = true by decide)) (dg ddL_law33 5 rfl) ?_
    rw [show out' (0 : Int32).toNatClampNeg = b.toInt64 from e3 hk]
    refine lv_iload hx hb (dg ddL_law33 6 rfl) (lv_at hl 0 rfl) ?_
    refine lv_i2l (v := b.toInt64) hx hb (dg ddL_law33 7 rfl) rfl ?_
    refine W.lcmp hx hb (dg ddL_law33 8 rfl) ?_
    refine lv_if_eq (tgt := 1846) hx hb (dg ddL_law33 9 rfl) (by decide) (fun _ => ?_) (fun h => absurd (lgc0 _) h)
    refine lv_goto (tgt := 2361) hx hb (dg ddL_law33 12 rfl) (by decide) ?_
    refine W.widen (k := cells + 2) (n := slots + 12) (by omega) (by omega) ?_
    exact kk out' outD isv te re de now spa' sna len sig nxt cnt rng k kept rea det misv iit mlen at_ merr wro cmd to1 to2 mnow' msav ahe' bef hst noi' own inp H locs ls G (lv_sub hl [2, 3, 4, 5, 6, 7] rfl) hP hD hS
set_option maxHeartbeats 4000000 in
set_option maxRecDepth 100000 in
theorem b_playingIn (CX : Cx p s m c args cL_law RL) (hml : c.maxLocals = 9) (hK : va_K D vwCl (tyA cy) s) (hN : nst s) (hA : ∀ q, s.heap.size ≤ q → A q) (hX : exF A s s.heap) (hC : ncF s) (hst0 : l.stackTraces = false) (hXs : va_X sb L xs s s.heap) (hbl : sb < s.heap.size) (hbA : ¬ A sb) (hi1 : vp_in (i5 + 1) L) (hi2 : vp_in (i5 + 2) L) (G : GG isv te re de now sna len sig nxt cnt rng kept rea det misv iit mlen merr mnow msav hst inp) (hl : lv_has ls 9 [(0, .ref sb), (1, .ref (q 0 0)), (2, .ref (qm 0)), (3, .ref ro), (4, .ref rd), (5, .int i5)]) (hP : va_P D vwCl (WL cy q qm ro rd out outD isv te re de now spa sna len sig nxt cnt rng thr kept rea det misv iit mlen at_ merr wro cmd to1 to2 mnow msav ahe bef hst noi own inp) H) (hD : va_D A (WL cy q qm ro rd out outD isv te re de now spa sna len sig nxt cnt rng thr kept rea det misv iit mlen at_ merr wro cmd to1 to2 mnow msav ahe bef hst noi own inp)) (hS : va_S A s.heap H locs) (hcs : cells + 2 ≤ 3000 ∧ slots + 12 ≤ 12000) (kk : Go p l e s m args below meth c Q D A cy q qm ro rd sb i5 cells slots) : W p l e room_1 s m args below meth c H locs cells slots Q (F0 m 1849 ls []) := by
  have hx := CX.1
  have hb := CX.2.1
  obtain ⟨k, spa', out', b, mnow', ahe', noi', e1, e2, e3, G⟩ := S_playingIn G spa out thr ahe noi (xs (i5 + 1).toNatClampNeg)
  refine lv_aload_n hx hb (dg ddL_law33 13 rfl) rfl (lv_at hl 1 rfl) ?_
  refine lv_aload_n hx hb (dg ddL_law33 14 rfl) rfl (lv_at hl 0 rfl) ?_
  refine lv_iload hx hb (dg ddL_law33 15 rfl) (lv_at hl 5 rfl) ?_
  refine lv_iconst (v := 1) hx hb (dg ddL_law33 16 rfl) (by decide) ?_
  refine lv_iadd hx hb (dg ddL_law33 17 rfl) ?_
  refine va_sld hx hb hXs hbl hbA hS hi1 (dg ddL_law33 18 rfl) ?_
  refine lv_aload_n hx hb (dg ddL_law33 19 rfl) rfl (lv_at hl 3 rfl) ?_
  refine crl_i CX hml (As := [.ref (q 0 0), .int (xs (i5 + 1).toNatClampNeg), .ref ro]) (rest := []) (c_L_playingIn l D cy q isv te re de now spa sna len sig nxt cnt rng ro out (xs (i5 + 1).toNatClampNeg) _ hst0 e1) lk_RL_228 rfl rfl ⟨(Nat.le_of_ble_eq_true rfl), (Nat.le_of_ble_eq_true rfl)⟩ hP hD hS hA hK hN hX hC pL1 pL1.symm rfl hl.1 rfl (Nat.le_of_ble_eq_true rfl) ⟨rmC (show cells + 1 ≤ 3000 by omega), rmS (show slots + 6 ≤ 12000 by omega)⟩ (dg ddL_law33 20 rfl) (fun H locs hP hD hS => ?_)
  have hP : va_P D vwCl (WL cy q qm ro rd out' outD isv te re de now spa' sna len sig nxt cnt rng thr kept rea det misv iit mlen at_ merr wro cmd to1 to2 mnow msav ahe bef hst noi own inp) H := hP
  have hD : va_D A (WL cy q qm ro rd out' outD isv te re de now spa' sna len sig nxt cnt rng thr kept rea det misv iit mlen at_ merr wro cmd to1 to2 mnow msav ahe bef hst noi own inp) := hD
  refine lv_istore (lv' := [(6, .int k), (0, .ref sb), (1, .ref (q 0 0)), (2, .ref (qm 0)), (3, .ref ro), (4, .ref rd), (5, .int i5)]) hx hb (dg ddL_law33 21 rfl) hl (by decide) rfl (fun ls hl => ?_)
  refine lv_aload_n hx hb (dg ddL_law33 22 rfl) rfl (lv_at hl 3 rfl) ?_
  refine lv_aload_n hx hb (dg ddL_law33 23 rfl) rfl (lv_at hl 1 rfl) ?_
  refine lv_iload hx hb (dg ddL_law33 24 rfl) (lv_at hl 6 rfl) ?_
  refine lv_iconst (v := 1) hx hb (dg ddL_law33 25 rfl) (by decide) ?_
  refine lv_iadd hx hb (dg ddL_law33 26 rfl) ?_
  refine va_sld hx hb hXs hbl hbA hS hi1 (dg ddL_law33 27 rfl) ?_
  refine crf_vi CX hml (As := [.int (xs (i5 + 1).toNatClampNeg)]) (rest := []) (c_X5_playingIn l D cy qm thr kept rea det misv iit mlen at_ merr wro cmd to1 to2 mnow msav ahe bef hst noi own inp (xs (i5 + 1).toNatClampNeg) _ e2) lk_RL_230 rfl rfl ⟨(Nat.le_of_ble_eq_true rfl), (Nat.le_of_ble_eq_true rfl)⟩ hP hD hS hA hK hN pL3 pL3.symm 0 rfl rfl rfl hl.1 rfl (Nat.le_of_ble_eq_true rfl) ⟨rmC (show cells + 1 ≤ 3000 by omega), rmS (show slots + 6 ≤ 12000 by omega)⟩ (dg ddL_law33 28 rfl) (fun H locs hP hD hS => ?_)
  have hP : va_P D vwCl (WL cy q qm ro rd out' outD isv te re de now spa' sna len sig nxt cnt rng k kept rea det misv iit mlen at_ merr wro cmd to1 to2 mnow' msav ahe' bef hst noi' own inp) H := hP
  have hD : va_D A (WL cy q qm ro rd out' outD isv te re de now spa' sna len sig nxt cnt rng k kept rea det misv iit mlen at_ merr wro cmd to1 to2 mnow' msav ahe' bef hst noi' own inp) := hD
  refine lv_istore (lv' := [(7, .int b), (6, .int k), (0, .ref sb), (1, .ref (q 0 0)), (2, .ref (qm 0)), (3, .ref ro), (4, .ref rd), (5, .int i5)]) hx hb (dg ddL_law33 29 rfl) hl (by decide) rfl (fun ls hl => ?_)
  refine lv_aload_n hx hb (dg ddL_law33 30 rfl) rfl (lv_at hl 4 rfl) ?_
  refine cro_vi CX hml (As := []) (rest := []) (c_X5_thrown l D cy qm k kept rea det misv iit mlen at_ merr wro cmd to1 to2 mnow' msav ahe' bef hst noi' own inp rfl) lk_RL_144 rfl rfl ⟨(Nat.le_of_ble_eq_true rfl), (Nat.le_of_ble_eq_true rfl)⟩ (vaP_l (vaP_perm pL3 hP)) hK hN 0 rfl rfl rfl hl.1 rfl (Nat.le_of_ble_eq_true rfl) ⟨rmC (show cells + 1 ≤ 3000 by omega), rmS (show slots + 6 ≤ 12000 by omega)⟩ (dg ddL_law33 31 rfl) ?_
  refine lv_iload hx hb (dg ddL_law34 0 rfl) (lv_at hl 1 rfl) ?_
  refine lv_icmp_eq (tgt := 1885) hx hb (dg ddL_law34 1 rfl) (by decide) (fun _ => ?_) (fun h => absurd rfl h)
  refine lv_iload hx hb (dg ddL_law34 4 rfl) (lv_at hl 1 rfl) ?_
  refine lv_if_ne (tgt := 1902) hx hb (dg ddL_law34 5 rfl) (by decide) (fun hk => ?_) (fun hk => ?_)
  ·
    refine lv_goto (tgt := 2361) hx hb (dg ddL_law34 15 rfl) (by decide) ?_
    refine W.widen (k := cells + 2) (n := slots + 12) (by omega) (by omega) ?_
    exact kk out' outD isv te re de now spa' sna len sig nxt cnt rng k kept rea det misv iit mlen at_ merr wro cmd to1 to2 mnow' msav ahe' bef hst noi' own inp H locs ls G (lv_sub hl [2, 3, 4, 5, 6, 7] rfl) hP hD hS
  ·
    refine lv_aload_n hx hb (dg ddL_law34 6 rfl) rfl (lv_at hl 5 rfl) ?_
    refine lv_iconst (v := 0) hx hb (dg ddL_law34 7 rfl) (by decide) ?_
    refine va_lald hx hb hK hP 0 5 rfl rfl (i := 0) (inb_in (show inb 0 1 = true by decide)) (dg ddL_law34 8 rfl) ?_
    rw [show out' (0 : Int32).toNatClampNeg = b.toInt64 from e3 hk]
    refine lv_iload hx hb (dg ddL_law34 9 rfl) (lv_at hl 0 rfl) ?_
    refine lv_i2l (v := b.toInt64) hx hb (dg ddL_law34 10 rfl) rfl ?_
    refine W.lcmp hx hb (dg ddL_law34 11 rfl) ?_
    refine lv_if_eq (tgt := 1902) hx hb (dg ddL_law34 12 rfl) (by decide) (fun _ => ?_) (fun h => absurd (lgc0 _) h)
    refine lv_goto (tgt := 2361) hx hb (dg ddL_law34 15 rfl) (by decide) ?_
    refine W.widen (k := cells + 2) (n := slots + 12) (by omega) (by omega) ?_
    exact kk out' outD isv te re de now spa' sna len sig nxt cnt rng k kept rea det misv iit mlen at_ merr wro cmd to1 to2 mnow' msav ahe' bef hst noi' own inp H locs ls G (lv_sub hl [2, 3, 4, 5, 6, 7] rfl) hP hD hS
set_option maxHeartbeats 4000000 in
set_option maxRecDepth 100000 in
theorem b_sign (CX : Cx p s m c args cL_law RL) (hml : c.maxLocals = 9) (hK : va_K D vwCl (tyA cy) s) (hN : nst s) (hA : ∀ q, s.heap.size ≤ q → A q) (hX : exF A s s.heap) (hC : ncF s) (hst0 : l.stackTraces = false) (hXs : va_X sb L xs s s.heap) (hbl : sb < s.heap.size) (hbA : ¬ A sb) (hi1 : vp_in (i5 + 1) L) (hi2 : vp_in (i5 + 2) L) (G : GG isv te re de now sna len sig nxt cnt rng kept rea det misv iit mlen merr mnow msav hst inp) (hl : lv_has ls 9 [(0, .ref sb), (1, .ref (q 0 0)), (2, .ref (qm 0)), (3, .ref ro), (4, .ref rd), (5, .int i5)]) (hP : va_P D vwCl (WL cy q qm ro rd out outD isv te re de now spa sna len sig nxt cnt rng thr kept rea det misv iit mlen at_ merr wro cmd to1 to2 mnow msav ahe bef hst noi own inp) H) (hD : va_D A (WL cy q qm ro rd out outD isv te re de now spa sna len sig nxt cnt rng thr kept rea det misv iit mlen at_ merr wro cmd to1 to2 mnow msav ahe bef hst noi own inp)) (hS : va_S A s.heap H locs) (hcs : cells + 2 ≤ 3000 ∧ slots + 12 ≤ 12000) (kk : Go p l e s m args below meth c Q D A cy q qm ro rd sb i5 cells slots) : W p l e room_1 s m args below meth c H locs cells slots Q (F0 m 1905 ls []) := by
  have hx := CX.1
  have hb := CX.2.1
  obtain ⟨k, out', b, e1, e2, e3⟩ := S_sign G out thr (xs (i5 + 1).toNatClampNeg)
  refine lv_aload_n hx hb (dg ddL_law34 16 rfl) rfl (lv_at hl 1 rfl) ?_
  refine lv_aload_n hx hb (dg ddL_law34 17 rfl) rfl (lv_at hl 0 rfl) ?_
  refine lv_iload hx hb (dg ddL_law34 18 rfl) (lv_at hl 5 rfl) ?_
  refine lv_iconst (v := 1) hx hb (dg ddL_law34 19 rfl) (by decide) ?_
  refine lv_iadd hx hb (dg ddL_law34 20 rfl) ?_
  refine va_sld hx hb hXs hbl hbA hS hi1 (dg ddL_law34 21 rfl) ?_
  refine lv_aload_n hx hb (dg ddL_law34 22 rfl) rfl (lv_at hl 3 rfl) ?_
  refine crl_i CX hml (As := [.ref (q 0 0), .int (xs (i5 + 1).toNatClampNeg), .ref ro]) (rest := []) (c_L_sign l D cy q isv te re de now spa sna len sig nxt cnt rng ro out (xs (i5 + 1).toNatClampNeg) _ hst0 e1) lk_RL_231 rfl rfl ⟨(Nat.le_of_ble_eq_true rfl), (Nat.le_of_ble_eq_true rfl)⟩ hP hD hS hA hK hN hX hC pL1 pL1.symm rfl hl.1 rfl (Nat.le_of_ble_eq_true rfl) ⟨rmC (show cells + 1 ≤ 3000 by omega), rmS (show slots + 6 ≤ 12000 by omega)⟩ (dg ddL_law34 23 rfl) (fun H locs hP hD hS => ?_)
  have hP : va_P D vwCl (WL cy q qm ro rd out' outD isv te re de now spa sna len sig nxt cnt rng thr kept rea det misv iit mlen at_ merr wro cmd to1 to2 mnow msav ahe bef hst noi own inp) H := hP
  have hD : va_D A (WL cy q qm ro rd out' outD isv te re de now spa sna len sig nxt cnt rng thr kept rea det misv iit mlen at_ merr wro cmd to1 to2 mnow msav ahe bef hst noi own inp) := hD
  refine lv_istore (lv' := [(6, .int k), (0, .ref sb), (1, .ref (q 0 0)), (2, .ref (qm 0)), (3, .ref ro), (4, .ref rd), (5, .int i5)]) hx hb (dg ddL_law34 24 rfl) hl (by decide) rfl (fun ls hl => ?_)
  refine lv_aload_n hx hb (dg ddL_law34 25 rfl) rfl (lv_at hl 3 rfl) ?_
  refine lv_aload_n hx hb (dg ddL_law34 26 rfl) rfl (lv_at hl 1 rfl) ?_
  refine lv_iload hx hb (dg ddL_law34 27 rfl) (lv_at hl 6 rfl) ?_
  refine lv_iconst (v := 1) hx hb (dg ddL_law34 28 rfl) (by decide) ?_
  refine lv_iadd hx hb (dg ddL_law34 29 rfl) ?_
  refine va_sld hx hb hXs hbl hbA hS hi1 (dg ddL_law34 30 rfl) ?_
  refine crf_vi CX hml (As := [.int (xs (i5 + 1).toNatClampNeg)]) (rest := []) (c_X5_sign l D cy qm thr kept rea det misv iit mlen at_ merr wro cmd to1 to2 mnow msav ahe bef hst noi own inp (xs (i5 + 1).toNatClampNeg) _ e2) lk_RL_233 rfl rfl ⟨(Nat.le_of_ble_eq_true rfl), (Nat.le_of_ble_eq_true rfl)⟩ hP hD hS hA hK hN pL3 pL3.symm 0 rfl rfl rfl hl.1 rfl (Nat.le_of_ble_eq_true rfl) ⟨rmC (show cells + 1 ≤ 3000 by omega), rmS (show slots + 6 ≤ 12000 by omega)⟩ (dg ddL_law34 31 rfl) (fun H locs hP hD hS => ?_)
  have hP : va_P D vwCl (WL cy q qm ro rd out' outD isv te re de now spa sna len sig nxt cnt rng k kept rea det misv iit mlen at_ merr wro cmd to1 to2 mnow msav ahe bef hst noi own inp) H := hP
  have hD : va_D A (WL cy q qm ro rd out' outD isv te re de now spa sna len sig nxt cnt rng k kept rea det misv iit mlen at_ merr wro cmd to1 to2 mnow msav ahe bef hst noi own inp) := hD
  refine lv_istore (lv' := [(7, .int b), (6, .int k), (0, .ref sb), (1, .ref (q 0 0)), (2, .ref (qm 0)), (3, .ref ro), (4, .ref rd), (5, .int i5)]) hx hb (dg ddL_law35 0 rfl) hl (by decide) rfl (fun ls hl => ?_)
  refine lv_aload_n hx hb (dg ddL_law35 1 rfl) rfl (lv_at hl 4 rfl) ?_
  refine cro_vi CX hml (As := []) (rest := []) (c_X5_thrown l D cy qm k kept rea det misv iit mlen at_ merr wro cmd to1 to2 mnow msav ahe bef hst noi own inp rfl) lk_RL_144 rfl rfl ⟨(Nat.le_of_ble_eq_true rfl), (Nat.le_of_ble_eq_true rfl)⟩ (vaP_l (vaP_perm pL3 hP)) hK hN 0 rfl rfl rfl hl.1 rfl (Nat.le_of_ble_eq_true rfl) ⟨rmC (show cells + 1 ≤ 3000 by omega), rmS (show slots + 6 ≤ 12000 by omega)⟩ (dg ddL_law35 2 rfl) ?_
  refine lv_iload hx hb (dg ddL_law35 3 rfl) (lv_at hl 1 rfl) ?_
  refine lv_icmp_eq (tgt := 1941) hx hb (dg ddL_law35 4 rfl) (by decide) (fun _ => ?_) (fun h => absurd rfl h)
  refine lv_iload hx hb (dg ddL_law35 7 rfl) (lv_at hl 1 rfl) ?_
  refine lv_if_ne (tgt := 1958) hx hb (dg ddL_law35 8 rfl) (by decide) (fun hk => ?_) (fun hk => ?_)
  ·
    refine lv_goto (tgt := 2361) hx hb (dg ddL_law35 18 rfl) (by decide) ?_
    refine W.widen (k := cells + 2) (n := slots + 12) (by omega) (by omega) ?_
    exact kk out' outD isv te re de now spa sna len sig nxt cnt rng k kept rea det misv iit mlen at_ merr wro cmd to1 to2 mnow msav ahe bef hst noi own inp H locs ls G (lv_sub hl [2, 3, 4, 5, 6, 7] rfl) hP hD hS
  ·
    refine lv_aload_n hx hb (dg ddL_law35 9 rfl) rfl (lv_at hl 5 rfl) ?_
    refine lv_iconst (v := 0) hx hb (dg ddL_law35 10 rfl) (by decide) ?_
    refine va_lald hx hb hK hP 0 5 rfl rfl (i := 0) (inb_in (show inb 0 1 = true by decide)) (dg ddL_law35 11 rfl) ?_
    rw [show out' (0 : Int32).toNatClampNeg = b.toInt64 from e3 hk]
    refine lv_iload hx hb (dg ddL_law35 12 rfl) (lv_at hl 0 rfl) ?_
    refine lv_i2l (v := b.toInt64) hx hb (dg ddL_law35 13 rfl) rfl ?_
    refine W.lcmp hx hb (dg ddL_law35 14 rfl) ?_
    refine lv_if_eq (tgt := 1958) hx hb (dg ddL_law35 15 rfl) (by decide) (fun _ => ?_) (fun h => absurd (lgc0 _) h)
    refine lv_goto (tgt := 2361) hx hb (dg ddL_law35 18 rfl) (by decide) ?_
    refine W.widen (k := cells + 2) (n := slots + 12) (by omega) (by omega) ?_
    exact kk out' outD isv te re de now spa sna len sig nxt cnt rng k kept rea det misv iit mlen at_ merr wro cmd to1 to2 mnow msav ahe bef hst noi own inp H locs ls G (lv_sub hl [2, 3, 4, 5, 6, 7] rfl) hP hD hS
set_option maxHeartbeats 4000000 in
set_option maxRecDepth 100000 in
theorem b_append (CX : Cx p s m c args cL_law RL) (hml : c.maxLocals = 9) (hK : va_K D vwCl (tyA cy) s) (hN : nst s) (hA : ∀ q, s.heap.size ≤ q → A q) (hX : exF A s s.heap) (hC : ncF s) (hst0 : l.stackTraces = false) (hXs : va_X sb L xs s s.heap) (hbl : sb < s.heap.size) (hbA : ¬ A sb) (hi1 : vp_in (i5 + 1) L) (hi2 : vp_in (i5 + 2) L) (G : GG isv te re de now sna len sig nxt cnt rng kept rea det misv iit mlen merr mnow msav hst inp) (hl : lv_has ls 9 [(0, .ref sb), (1, .ref (q 0 0)), (2, .ref (qm 0)), (3, .ref ro), (4, .ref rd), (5, .int i5)]) (hP : va_P D vwCl (WL cy q qm ro rd out outD isv te re de now spa sna len sig nxt cnt rng thr kept rea det misv iit mlen at_ merr wro cmd to1 to2 mnow msav ahe bef hst noi own inp) H) (hD : va_D A (WL cy q qm ro rd out outD isv te re de now spa sna len sig nxt cnt rng thr kept rea det misv iit mlen at_ merr wro cmd to1 to2 mnow msav ahe bef hst noi own inp)) (hS : va_S A s.heap H locs) (hcs : cells + 2 ≤ 3000 ∧ slots + 12 ≤ 12000) (kk : Go p l e s m args below meth c Q D A cy q qm ro rd sb i5 cells slots) : W p l e room_1 s m args below meth c H locs cells slots Q (F0 m 1961 ls []) := by
  have hx := CX.1
  have hb := CX.2.1
  obtain ⟨k, len', sig', out', b, mlen', inp', e1, e2, e3, G⟩ := S_append G out thr ((xs (i5 + 1).toNatClampNeg).toUInt32 % 65536).toInt32
  refine lv_aload_n hx hb (dg ddL_law35 19 rfl) rfl (lv_at hl 1 rfl) ?_
  refine lv_aload_n hx hb (dg ddL_law35 20 rfl) rfl (lv_at hl 0 rfl) ?_
  refine lv_iload hx hb (dg ddL_law35 21 rfl) (lv_at hl 5 rfl) ?_
  refine lv_iconst (v := 1) hx hb (dg ddL_law35 22 rfl) (by decide) ?_
  refine lv_iadd hx hb (dg ddL_law35 23 rfl) ?_
  refine va_sld hx hb hXs hbl hbA hS hi1 (dg ddL_law35 24 rfl) ?_
  refine lv_i2c (v := ((xs (i5 + 1).toNatClampNeg).toUInt32 % 65536).toInt32) hx hb (dg ddL_law35 25 rfl) rfl ?_
  refine lv_aload_n hx hb (dg ddL_law35 26 rfl) rfl (lv_at hl 3 rfl) ?_
  refine crl_i CX hml (As := [.ref (q 0 0), .int ((xs (i5 + 1).toNatClampNeg).toUInt32 % 65536).toInt32, .ref ro]) (rest := []) (c_L_append l D cy q isv te re de now spa sna len sig nxt cnt rng ro out ((xs (i5 + 1).toNatClampNeg).toUInt32 % 65536).toInt32 _ hst0 e1) lk_RL_234 rfl rfl ⟨(Nat.le_of_ble_eq_true rfl), (Nat.le_of_ble_eq_true rfl)⟩ hP hD hS hA hK hN hX hC pL1 pL1.symm rfl hl.1 rfl (Nat.le_of_ble_eq_true rfl) ⟨rmC (show cells + 1 ≤ 3000 by omega), rmS (show slots + 6 ≤ 12000 by omega)⟩ (dg ddL_law35 27 rfl) (fun H locs hP hD hS => ?_)
  have hP : va_P D vwCl (WL cy q qm ro rd out' outD isv te re de now spa sna len' sig' nxt cnt rng thr kept rea det misv iit mlen at_ merr wro cmd to1 to2 mnow msav ahe bef hst noi own inp) H := hP
  have hD : va_D A (WL cy q qm ro rd out' outD isv te re de now spa sna len' sig' nxt cnt rng thr kept rea det misv iit mlen at_ merr wro cmd to1 to2 mnow msav ahe bef hst noi own inp) := hD
  refine lv_istore (lv' := [(6, .int k), (0, .ref sb), (1, .ref (q 0 0)), (2, .ref (qm 0)), (3, .ref ro), (4, .ref rd), (5, .int i5)]) hx hb (dg ddL_law35 28 rfl) hl (by decide) rfl (fun ls hl => ?_)
  refine lv_aload_n hx hb (dg ddL_law35 29 rfl) rfl (lv_at hl 3 rfl) ?_
  refine lv_aload_n hx hb (dg ddL_law35 30 rfl) rfl (lv_at hl 1 rfl) ?_
  refine lv_iload hx hb (dg ddL_law35 31 rfl) (lv_at hl 6 rfl) ?_
  refine lv_iconst (v := 1) hx hb (dg ddL_law36 0 rfl) (by decide) ?_
  refine lv_iadd hx hb (dg ddL_law36 1 rfl) ?_
  refine va_sld hx hb hXs hbl hbA hS hi1 (dg ddL_law36 2 rfl) ?_
  refine lv_i2c (v := ((xs (i5 + 1).toNatClampNeg).toUInt32 % 65536).toInt32) hx hb (dg ddL_law36 3 rfl) rfl ?_
  refine crf_vi CX hml (As := [.int ((xs (i5 + 1).toNatClampNeg).toUInt32 % 65536).toInt32]) (rest := []) (c_X5_append l D cy qm thr kept rea det misv iit mlen at_ merr wro cmd to1 to2 mnow msav ahe bef hst noi own inp ((xs (i5 + 1).toNatClampNeg).toUInt32 % 65536).toInt32 _ e2) lk_RL_237 rfl rfl ⟨(Nat.le_of_ble_eq_true rfl), (Nat.le_of_ble_eq_true rfl)⟩ hP hD hS hA hK hN pL3 pL3.symm 0 rfl rfl rfl hl.1 rfl (Nat.le_of_ble_eq_true rfl) ⟨rmC (show cells + 1 ≤ 3000 by omega), rmS (show slots + 6 ≤ 12000 by omega)⟩ (dg ddL_law36 4 rfl) (fun H locs hP hD hS => ?_)
  have hP : va_P D vwCl (WL cy q qm ro rd out' outD isv te re de now spa sna len' sig' nxt cnt rng k kept rea det misv iit mlen' at_ merr wro cmd to1 to2 mnow msav ahe bef hst noi own inp') H := hP
  have hD : va_D A (WL cy q qm ro rd out' outD isv te re de now spa sna len' sig' nxt cnt rng k kept rea det misv iit mlen' at_ merr wro cmd to1 to2 mnow msav ahe bef hst noi own inp') := hD
  refine lv_istore (lv' := [(7, .int b), (6, .int k), (0, .ref sb), (1, .ref (q 0 0)), (2, .ref (qm 0)), (3, .ref ro), (4, .ref rd), (5, .int i5)]) hx hb (dg ddL_law36 5 rfl) hl (by decide) rfl (fun ls hl => ?_)
  refine lv_aload_n hx hb (dg ddL_law36 6 rfl) rfl (lv_at hl 4 rfl) ?_
  refine cro_vi CX hml (As := []) (rest := []) (c_X5_thrown l D cy qm k kept rea det misv iit mlen' at_ merr wro cmd to1 to2 mnow msav ahe bef hst noi own inp' rfl) lk_RL_144 rfl rfl ⟨(Nat.le_of_ble_eq_true rfl), (Nat.le_of_ble_eq_true rfl)⟩ (vaP_l (vaP_perm pL3 hP)) hK hN 0 rfl rfl rfl hl.1 rfl (Nat.le_of_ble_eq_true rfl) ⟨rmC (show cells + 1 ≤ 3000 by omega), rmS (show slots + 6 ≤ 12000 by omega)⟩ (dg ddL_law36 7 rfl) ?_
  refine lv_iload hx hb (dg ddL_law36 8 rfl) (lv_at hl 1 rfl) ?_
  refine lv_icmp_eq (tgt := 1999) hx hb (dg ddL_law36 9 rfl) (by decide) (fun _ => ?_) (fun h => absurd rfl h)
  refine lv_iload hx hb (dg ddL_law36 12 rfl) (lv_at hl 1 rfl) ?_
  refine lv_if_ne (tgt := 2016) hx hb (dg ddL_law36 13 rfl) (by decide) (fun hk => ?_) (fun hk => ?_)
  ·
    refine lv_goto (tgt := 2361) hx hb (dg ddL_law36 23 rfl) (by decide) ?_
    refine W.widen (k := cells + 2) (n := slots + 12) (by omega) (by omega) ?_
    exact kk out' outD isv te re de now spa sna len' sig' nxt cnt rng k kept rea det misv iit mlen' at_ merr wro cmd to1 to2 mnow msav ahe bef hst noi own inp' H locs ls G (lv_sub hl [2, 3, 4, 5, 6, 7] rfl) hP hD hS
  ·
    refine lv_aload_n hx hb (dg ddL_law36 14 rfl) rfl (lv_at hl 5 rfl) ?_
    refine lv_iconst (v := 0) hx hb (dg ddL_law36 15 rfl) (by decide) ?_
    refine va_lald hx hb hK hP 0 5 rfl rfl (i := 0) (inb_in (show inb 0 1 = true by decide)) (dg ddL_law36 16 rfl) ?_
    rw [show out' (0 : Int32).toNatClampNeg = b.toInt64 from e3 hk]
    refine lv_iload hx hb (dg ddL_law36 17 rfl) (lv_at hl 0 rfl) ?_
    refine lv_i2l (v := b.toInt64) hx hb (dg ddL_law36 18 rfl) rfl ?_
    refine W.lcmp hx hb (dg ddL_law36 19 rfl) ?_
    refine lv_if_eq (tgt := 2016) hx hb (dg ddL_law36 20 rfl) (by decide) (fun _ => ?_) (fun h => absurd (lgc0 _) h)
    refine lv_goto (tgt := 2361) hx hb (dg ddL_law36 23 rfl) (by decide) ?_
    refine W.widen (k := cells + 2) (n := slots + 12) (by omega) (by omega) ?_
    exact kk out' outD isv te re de now spa sna len' sig' nxt cnt rng k kept rea det misv iit mlen' at_ merr wro cmd to1 to2 mnow msav ahe bef hst noi own inp' H locs ls G (lv_sub hl [2, 3, 4, 5, 6, 7] rfl) hP hD hS
set_option maxHeartbeats 4000000 in
set_option maxRecDepth 100000 in
theorem b_read (CX : Cx p s m c args cL_law RL) (hml : c.maxLocals = 9) (hK : va_K D vwCl (tyA cy) s) (hN : nst s) (hA : ∀ q, s.heap.size ≤ q → A q) (hX : exF A s s.heap) (hC : ncF s) (hst0 : l.stackTraces = false) (hXs : va_X sb L xs s s.heap) (hbl : sb < s.heap.size) (hbA : ¬ A sb) (hi1 : vp_in (i5 + 1) L) (hi2 : vp_in (i5 + 2) L) (G : GG isv te re de now sna len sig nxt cnt rng kept rea det misv iit mlen merr mnow msav hst inp) (hl : lv_has ls 9 [(0, .ref sb), (1, .ref (q 0 0)), (2, .ref (qm 0)), (3, .ref ro), (4, .ref rd), (5, .int i5)]) (hP : va_P D vwCl (WL cy q qm ro rd out outD isv te re de now spa sna len sig nxt cnt rng thr kept rea det misv iit mlen at_ merr wro cmd to1 to2 mnow msav ahe bef hst noi own inp) H) (hD : va_D A (WL cy q qm ro rd out outD isv te re de now spa sna len sig nxt cnt rng thr kept rea det misv iit mlen at_ merr wro cmd to1 to2 mnow msav ahe bef hst noi own inp)) (hS : va_S A s.heap H locs) (hcs : cells + 2 ≤ 3000 ∧ slots + 12 ≤ 12000) (kk : Go p l e s m args below meth c Q D A cy q qm ro rd sb i5 cells slots) : W p l e room_1 s m args below meth c H locs cells slots Q (F0 m 2019 ls []) := by
  have hx := CX.1
  have hb := CX.2.1
  obtain ⟨k, te', re', de', now', spa', len', nxt', cnt', rng', out', b, kept', iit', mlen', at', wro', cmd', to1', to2', mnow', bef', hst', noi', e1, e2, e3, G⟩ := S_read G spa out thr at_ wro cmd to1 to2 bef noi
  refine lv_aload_n hx hb (dg ddL_law36 24 rfl) rfl (lv_at hl 1 rfl) ?_
  refine lv_aload_n hx hb (dg ddL_law36 25 rfl) rfl (lv_at hl 3 rfl) ?_
  refine crl_i CX hml (As := [.ref (q 0 0), .ref ro]) (rest := []) (c_L_read l D cy q isv te re de now spa sna len sig nxt cnt rng ro out  _ hst0 e1) lk_RL_238 rfl rfl ⟨(Nat.le_of_ble_eq_true rfl), (Nat.le_of_ble_eq_true rfl)⟩ hP hD hS hA hK hN hX hC pL1 pL1.symm rfl hl.1 rfl (Nat.le_of_ble_eq_true rfl) ⟨rmC (show cells + 1 ≤ 3000 by omega), rmS (show slots + 6 ≤ 12000 by omega)⟩ (dg ddL_law36 26 rfl) (fun H locs hP hD hS => ?_)
  have hP : va_P D vwCl (WL cy q qm ro rd out' outD isv te' re' de' now' spa' sna len' sig nxt' cnt' rng' thr kept rea det misv iit mlen at_ merr wro cmd to1 to2 mnow msav ahe bef hst noi own inp) H := hP
  have hD : va_D A (WL cy q qm ro rd out' outD isv te' re' de' now' spa' sna len' sig nxt' cnt' rng' thr kept rea det misv iit mlen at_ merr wro cmd to1 to2 mnow msav ahe bef hst noi own inp) := hD
  refine lv_istore (lv' := [(6, .int k), (0, .ref sb), (1, .ref (q 0 0)), (2, .ref (qm 0)), (3, .ref ro), (4, .ref rd), (5, .int i5)]) hx hb (dg ddL_law36 27 rfl) hl (by decide) rfl (fun ls hl => ?_)
  refine lv_aload_n hx hb (dg ddL_law36 28 rfl) rfl (lv_at hl 3 rfl) ?_
  refine crf_vi CX hml (As := []) (rest := []) (c_X5_read l D cy qm thr kept rea det misv iit mlen at_ merr wro cmd to1 to2 mnow msav ahe bef hst noi own inp  _ e2) lk_RL_241 rfl rfl ⟨(Nat.le_of_ble_eq_true rfl), (Nat.le_of_ble_eq_true rfl)⟩ hP hD hS hA hK hN pL3 pL3.symm 0 rfl rfl rfl hl.1 rfl (Nat.le_of_ble_eq_true rfl) ⟨rmC (show cells + 1 ≤ 3000 by omega), rmS (show slots + 6 ≤ 12000 by omega)⟩ (dg ddL_law36 29 rfl) (fun H locs hP hD hS => ?_)
  have hP : va_P D vwCl (WL cy q qm ro rd out' outD isv te' re' de' now' spa' sna len' sig nxt' cnt' rng' k kept' re' de' misv iit' mlen' at' te' wro' cmd' to1' to2' mnow' msav ahe bef' hst' noi' own inp) H := hP
  have hD : va_D A (WL cy q qm ro rd out' outD isv te' re' de' now' spa' sna len' sig nxt' cnt' rng' k kept' re' de' misv iit' mlen' at' te' wro' cmd' to1' to2' mnow' msav ahe bef' hst' noi' own inp) := hD
  refine lv_istore (lv' := [(7, .int b), (6, .int k), (0, .ref sb), (1, .ref (q 0 0)), (2, .ref (qm 0)), (3, .ref ro), (4, .ref rd), (5, .int i5)]) hx hb (dg ddL_law36 30 rfl) hl (by decide) rfl (fun ls hl => ?_)
  refine lv_aload_n hx hb (dg ddL_law36 31 rfl) rfl (lv_at hl 4 rfl) ?_
  refine cro_vi CX hml (As := []) (rest := []) (c_X5_thrown l D cy qm k kept' re' de' misv iit' mlen' at' te' wro' cmd' to1' to2' mnow' msav ahe bef' hst' noi' own inp rfl) lk_RL_144 rfl rfl ⟨(Nat.le_of_ble_eq_true rfl), (Nat.le_of_ble_eq_true rfl)⟩ (vaP_l (vaP_perm pL3 hP)) hK hN 0 rfl rfl rfl hl.1 rfl (Nat.le_of_ble_eq_true rfl) ⟨rmC (show cells + 1 ≤ 3000 by omega), rmS (show slots + 6 ≤ 12000 by omega)⟩ (dg ddL_law37 0 rfl) ?_
  refine lv_iload hx hb (dg ddL_law37 1 rfl) (lv_at hl 1 rfl) ?_
  refine lv_icmp_eq (tgt := 2043) hx hb (dg ddL_law37 2 rfl) (by decide) (fun _ => ?_) (fun h => absurd rfl h)
  refine lv_iload hx hb (dg ddL_law37 5 rfl) (lv_at hl 1 rfl) ?_
  refine lv_if_ne (tgt := 2060) hx hb (dg ddL_law37 6 rfl) (by decide) (fun hk => ?_) (fun hk => ?_)
  ·
    refine lv_goto (tgt := 2361) hx hb (dg ddL_law37 16 rfl) (by decide) ?_
    refine W.widen (k := cells + 2) (n := slots + 12) (by omega) (by omega) ?_
    exact kk out' outD isv te' re' de' now' spa' sna len' sig nxt' cnt' rng' k kept' re' de' misv iit' mlen' at' te' wro' cmd' to1' to2' mnow' msav ahe bef' hst' noi' own inp H locs ls G (lv_sub hl [2, 3, 4, 5, 6, 7] rfl) hP hD hS
  ·
    refine lv_aload_n hx hb (dg ddL_law37 7 rfl) rfl (lv_at hl 5 rfl) ?_
    refine lv_iconst (v := 0) hx hb (dg ddL_law37 8 rfl) (by decide) ?_
    refine va_lald hx hb hK hP 0 5 rfl rfl (i := 0) (inb_in (show inb 0 1 = true by decide)) (dg ddL_law37 9 rfl) ?_
    rw [show out' (0 : Int32).toNatClampNeg = b.toInt64 from e3 hk]
    refine lv_iload hx hb (dg ddL_law37 10 rfl) (lv_at hl 0 rfl) ?_
    refine lv_i2l (v := b.toInt64) hx hb (dg ddL_law37 11 rfl) rfl ?_
    refine W.lcmp hx hb (dg ddL_law37 12 rfl) ?_
    refine lv_if_eq (tgt := 2060) hx hb (dg ddL_law37 13 rfl) (by decide) (fun _ => ?_) (fun h => absurd (lgc0 _) h)
    refine lv_goto (tgt := 2361) hx hb (dg ddL_law37 16 rfl) (by decide) ?_
    refine W.widen (k := cells + 2) (n := slots + 12) (by omega) (by omega) ?_
    exact kk out' outD isv te' re' de' now' spa' sna len' sig nxt' cnt' rng' k kept' re' de' misv iit' mlen' at' te' wro' cmd' to1' to2' mnow' msav ahe bef' hst' noi' own inp H locs ls G (lv_sub hl [2, 3, 4, 5, 6, 7] rfl) hP hD hS
set_option maxHeartbeats 4000000 in
set_option maxRecDepth 100000 in
theorem b_errorPosition (CX : Cx p s m c args cL_law RL) (hml : c.maxLocals = 9) (hK : va_K D vwCl (tyA cy) s) (hN : nst s) (hA : ∀ q, s.heap.size ≤ q → A q) (hX : exF A s s.heap) (hC : ncF s) (hst0 : l.stackTraces = false) (hXs : va_X sb L xs s s.heap) (hbl : sb < s.heap.size) (hbA : ¬ A sb) (hi1 : vp_in (i5 + 1) L) (hi2 : vp_in (i5 + 2) L) (G : GG isv te re de now sna len sig nxt cnt rng kept rea det misv iit mlen merr mnow msav hst inp) (hl : lv_has ls 9 [(0, .ref sb), (1, .ref (q 0 0)), (2, .ref (qm 0)), (3, .ref ro), (4, .ref rd), (5, .int i5)]) (hP : va_P D vwCl (WL cy q qm ro rd out outD isv te re de now spa sna len sig nxt cnt rng thr kept rea det misv iit mlen at_ merr wro cmd to1 to2 mnow msav ahe bef hst noi own inp) H) (hD : va_D A (WL cy q qm ro rd out outD isv te re de now spa sna len sig nxt cnt rng thr kept rea det misv iit mlen at_ merr wro cmd to1 to2 mnow msav ahe bef hst noi own inp)) (hS : va_S A s.heap H locs) (hcs : cells + 2 ≤ 3000 ∧ slots + 12 ≤ 12000) (kk : Go p l e s m args below meth c Q D A cy q qm ro rd sb i5 cells slots) : W p l e room_1 s m args below meth c H locs cells slots Q (F0 m 2063 ls []) := by
  have hx := CX.1
  have hb := CX.2.1
  obtain ⟨v, e1, e2⟩ := S_errorPosition G thr
  refine lv_aload_n hx hb (dg ddL_law37 17 rfl) rfl (lv_at hl 1 rfl) ?_
  refine cro_vi CX hml (As := []) (rest := []) (c_X4_errorPosition l D cy q isv te re de now spa sna len sig nxt cnt rng e1) lk_RL_242 rfl rfl ⟨(Nat.le_of_ble_eq_true rfl), (Nat.le_of_ble_eq_true rfl)⟩ (vaP_l (vaP_perm pL4 hP)) hK hN 0 rfl rfl rfl hl.1 rfl (Nat.le_of_ble_eq_true rfl) ⟨rmC (show cells ≤ 3000 by omega), rmS (show slots ≤ 12000 by omega)⟩ (dg ddL_law37 18 rfl) ?_
  refine lv_aload_n hx hb (dg ddL_law37 19 rfl) rfl (lv_at hl 2 rfl) ?_
  refine crf_vi CX hml (As := []) (rest := [.int v]) (c_X5_errorPosition l D cy qm thr kept rea det misv iit mlen at_ merr wro cmd to1 to2 mnow msav ahe bef hst noi own inp  _ e2) lk_RL_245 rfl rfl ⟨(Nat.le_of_ble_eq_true rfl), (Nat.le_of_ble_eq_true rfl)⟩ hP hD hS hA hK hN pL3 pL3.symm 0 rfl rfl rfl hl.1 rfl (Nat.le_of_ble_eq_true rfl) ⟨rmC (show cells ≤ 3000 by omega), rmS (show slots ≤ 12000 by omega)⟩ (dg ddL_law37 20 rfl) (fun H locs hP hD hS => ?_)
  have hP : va_P D vwCl (WL cy q qm ro rd out outD isv te re de now spa sna len sig nxt cnt rng 0 kept rea det misv iit mlen at_ merr wro cmd to1 to2 mnow msav ahe bef hst noi own inp) H := hP
  have hD : va_D A (WL cy q qm ro rd out outD isv te re de now spa sna len sig nxt cnt rng 0 kept rea det misv iit mlen at_ merr wro cmd to1 to2 mnow msav ahe bef hst noi own inp) := hD
  refine lv_icmp_eq (tgt := 2361) hx hb (dg ddL_law37 21 rfl) (by decide) (fun _ => ?_) (fun h => absurd rfl h)
  refine W.widen (k := cells + 2) (n := slots + 12) (by omega) (by omega) ?_
  exact kk out outD isv te re de now spa sna len sig nxt cnt rng 0 kept rea det misv iit mlen at_ merr wro cmd to1 to2 mnow msav ahe bef hst noi own inp H locs ls G (lv_sub hl [0, 1, 2, 3, 4, 5] rfl) hP hD hS
set_option maxHeartbeats 4000000 in
set_option maxRecDepth 100000 in
theorem b_refusal (CX : Cx p s m c args cL_law RL) (hml : c.maxLocals = 9) (hK : va_K D vwCl (tyA cy) s) (hN : nst s) (hA : ∀ q, s.heap.size ≤ q → A q) (hX : exF A s s.heap) (hC : ncF s) (hst0 : l.stackTraces = false) (hXs : va_X sb L xs s s.heap) (hbl : sb < s.heap.size) (hbA : ¬ A sb) (hi1 : vp_in (i5 + 1) L) (hi2 : vp_in (i5 + 2) L) (G : GG isv te re de now sna len sig nxt cnt rng kept rea det misv iit mlen merr mnow msav hst inp) (hl : lv_has ls 9 [(0, .ref sb), (1, .ref (q 0 0)), (2, .ref (qm 0)), (3, .ref ro), (4, .ref rd), (5, .int i5)]) (hP : va_P D vwCl (WL cy q qm ro rd out outD isv te re de now spa sna len sig nxt cnt rng thr kept rea det misv iit mlen at_ merr wro cmd to1 to2 mnow msav ahe bef hst noi own inp) H) (hD : va_D A (WL cy q qm ro rd out outD isv te re de now spa sna len sig nxt cnt rng thr kept rea det misv iit mlen at_ merr wro cmd to1 to2 mnow msav ahe bef hst noi own inp)) (hS : va_S A s.heap H locs) (hcs : cells + 2 ≤ 3000 ∧ slots + 12 ≤ 12000) (kk : Go p l e s m args below meth c Q D A cy q qm ro rd sb i5 cells slots) : W p l e room_1 s m args below meth c H locs cells slots Q (F0 m 2076 ls []) := by
  have hx := CX.1
  have hb := CX.2.1
  refine lv_aload_n hx hb (dg ddL_law37 24 rfl) rfl (lv_at hl 1 rfl) ?_
  refine lv_aload_n hx hb (dg ddL_law37 25 rfl) rfl (lv_at hl 0 rfl) ?_
  refine lv_iload hx hb (dg ddL_law37 26 rfl) (lv_at hl 5 rfl) ?_
  refine lv_iconst (v := 1) hx hb (dg ddL_law37 27 rfl) (by decide) ?_
  refine lv_iadd hx hb (dg ddL_law37 28 rfl) ?_
  refine va_sld hx hb hXs hbl hbA hS hi1 (dg ddL_law37 29 rfl) ?_
  refine lv_if_eq (tgt := 2090) hx hb (dg ddL_law37 30 rfl) (by decide) (fun h0 => ?_) (fun h0 => ?_)
  · obtain ⟨k, out', b, e1, e2, e3⟩ := S_refusal G out thr 0
    refine lv_iconst (v := 0) hx hb (dg ddL_law38 1 rfl) (by decide) ?_
    refine lv_aload_n hx hb (dg ddL_law38 2 rfl) rfl (lv_at hl 3 rfl) ?_
    refine crl_i CX hml (As := [.ref (q 0 0), .int 0, .ref ro]) (rest := []) (c_L_refusal l D cy q isv te re de now spa sna len sig nxt cnt rng ro out 0 _ hst0 e1) lk_RL_246 rfl rfl ⟨(Nat.le_of_ble_eq_true rfl), (Nat.le_of_ble_eq_true rfl)⟩ hP hD hS hA hK hN hX hC pL1 pL1.symm rfl hl.1 rfl (Nat.le_of_ble_eq_true rfl) ⟨rmC (show cells + 1 ≤ 3000 by omega), rmS (show slots + 6 ≤ 12000 by omega)⟩ (dg ddL_law38 3 rfl) (fun H locs hP hD hS => ?_)
    have hP : va_P D vwCl (WL cy q qm ro rd out' outD isv te re de now spa sna len sig nxt cnt rng thr kept rea det misv iit mlen at_ merr wro cmd to1 to2 mnow msav ahe bef hst noi own inp) H := hP
    have hD : va_D A (WL cy q qm ro rd out' outD isv te re de now spa sna len sig nxt cnt rng thr kept rea det misv iit mlen at_ merr wro cmd to1 to2 mnow msav ahe bef hst noi own inp) := hD
    refine lv_istore (lv' := [(6, .int k), (0, .ref sb), (1, .ref (q 0 0)), (2, .ref (qm 0)), (3, .ref ro), (4, .ref rd), (5, .int i5)]) hx hb (dg ddL_law38 4 rfl) hl (by decide) rfl (fun ls hl => ?_)
    refine lv_aload_n hx hb (dg ddL_law38 5 rfl) rfl (lv_at hl 3 rfl) ?_
    refine lv_aload_n hx hb (dg ddL_law38 6 rfl) rfl (lv_at hl 1 rfl) ?_
    refine lv_iload hx hb (dg ddL_law38 7 rfl) (lv_at hl 6 rfl) ?_
    refine lv_iconst (v := 1) hx hb (dg ddL_law38 8 rfl) (by decide) ?_
    refine lv_iadd hx hb (dg ddL_law38 9 rfl) ?_
    refine va_sld hx hb hXs hbl hbA hS hi1 (dg ddL_law38 10 rfl) ?_
    refine lv_if_eq (tgt := 2111) hx hb (dg ddL_law38 11 rfl) (by decide) (fun h0 => ?_) (fun h9 => absurd h0 h9)
    refine lv_iconst (v := 0) hx hb (dg ddL_law38 14 rfl) (by decide) ?_
    refine crf_vi CX hml (As := [.int 0]) (rest := []) (c_X5_refusal l D cy qm thr kept rea det misv iit mlen at_ merr wro cmd to1 to2 mnow msav ahe bef hst noi own inp 0 _ e2) lk_RL_249 rfl rfl ⟨(Nat.le_of_ble_eq_true rfl), (Nat.le_of_ble_eq_true rfl)⟩ hP hD hS hA hK hN pL3 pL3.symm 0 rfl rfl rfl hl.1 rfl (Nat.le_of_ble_eq_true rfl) ⟨rmC (show cells + 1 ≤ 3000 by omega), rmS (show slots + 6 ≤ 12000 by omega)⟩ (dg ddL_law38 15 rfl) (fun H locs hP hD hS => ?_)
    have hP : va_P D vwCl (WL cy q qm ro rd out' outD isv te re de now spa sna len sig nxt cnt rng k kept rea det misv iit mlen at_ merr wro cmd to1 to2 mnow msav ahe bef hst noi own inp) H := hP
    have hD : va_D A (WL cy q qm ro rd out' outD isv te re de now spa sna len sig nxt cnt rng k kept rea det misv iit mlen at_ merr wro cmd to1 to2 mnow msav ahe bef hst noi own inp) := hD
    refine lv_istore (lv' := [(7, .int b), (6, .int k), (0, .ref sb), (1, .ref (q 0 0)), (2, .ref (qm 0)), (3, .ref ro), (4, .ref rd), (5, .int i5)]) hx hb (dg ddL_law38 16 rfl) hl (by decide) rfl (fun ls hl => ?_)
    refine lv_aload_n hx hb (dg ddL_law38 17 rfl) rfl (lv_at hl 4 rfl) ?_
    refine cro_vi CX hml (As := []) (rest := []) (c_X5_thrown l D cy qm k kept rea det misv iit mlen at_ merr wro cmd to1 to2 mnow msav ahe bef hst noi own inp rfl) lk_RL_144 rfl rfl ⟨(Nat.le_of_ble_eq_true rfl), (Nat.le_of_ble_eq_true rfl)⟩ (vaP_l (vaP_perm pL3 hP)) hK hN 0 rfl rfl rfl hl.1 rfl (Nat.le_of_ble_eq_true rfl) ⟨rmC (show cells + 1 ≤ 3000 by omega), rmS (show slots + 6 ≤ 12000 by omega)⟩ (dg ddL_law38 18 rfl) ?_
    refine lv_iload hx hb (dg ddL_law38 19 rfl) (lv_at hl 1 rfl) ?_
    refine lv_icmp_eq (tgt := 2128) hx hb (dg ddL_law38 20 rfl) (by decide) (fun _ => ?_) (fun h => absurd rfl h)
    refine lv_iload hx hb (dg ddL_law38 23 rfl) (lv_at hl 1 rfl) ?_
    refine lv_if_ne (tgt := 2145) hx hb (dg ddL_law38 24 rfl) (by decide) (fun hk => ?_) (fun hk => ?_)
    ·
      refine lv_goto (tgt := 2361) hx hb (dg ddL_law39 2 rfl) (by decide) ?_
      refine W.widen (k := cells + 2) (n := slots + 12) (by omega) (by omega) ?_
      exact kk out' outD isv te re de now spa sna len sig nxt cnt rng k kept rea det misv iit mlen at_ merr wro cmd to1 to2 mnow msav ahe bef hst noi own inp H locs ls G (lv_sub hl [2, 3, 4, 5, 6, 7] rfl) hP hD hS
    ·
      refine lv_aload_n hx hb (dg ddL_law38 25 rfl) rfl (lv_at hl 5 rfl) ?_
      refine lv_iconst (v := 0) hx hb (dg ddL_law38 26 rfl) (by decide) ?_
      refine va_lald hx hb hK hP 0 5 rfl rfl (i := 0) (inb_in (show inb 0 1 = true by decide)) (dg ddL_law38 27 rfl) ?_
      rw [show out' (0 : Int32).toNatClampNeg = b.toInt64 from e3 hk]
      refine lv_iload hx hb (dg ddL_law38 28 rfl) (lv_at hl 0 rfl) ?_
      refine lv_i2l (v := b.toInt64) hx hb (dg ddL_law38 29 rfl) rfl ?_
      refine W.lcmp hx hb (dg ddL_law38 30 rfl) ?_
      refine lv_if_eq (tgt := 2145) hx hb (dg ddL_law38 31 rfl) (by decide) (fun _ => ?_) (fun h => absurd (lgc0 _) h)
      refine lv_goto (tgt := 2361) hx hb (dg ddL_law39 2 rfl) (by decide) ?_
      refine W.widen (k := cells + 2) (n := slots + 12) (by omega) (by omega) ?_
      exact kk out' outD isv te re de now spa sna len sig nxt cnt rng k kept rea det misv iit mlen at_ merr wro cmd to1 to2 mnow msav ahe bef hst noi own inp H locs ls G (lv_sub hl [2, 3, 4, 5, 6, 7] rfl) hP hD hS
  · obtain ⟨k, out', b, e1, e2, e3⟩ := S_refusal G out thr 1
    refine lv_iconst (v := 1) hx hb (dg ddL_law37 31 rfl) (by decide) ?_
    refine lv_goto (tgt := 2091) hx hb (dg ddL_law38 0 rfl) (by decide) ?_
    refine lv_aload_n hx hb (dg ddL_law38 2 rfl) rfl (lv_at hl 3 rfl) ?_
    refine crl_i CX hml (As := [.ref (q 0 0), .int 1, .ref ro]) (rest := []) (c_L_refusal l D cy q isv te re de now spa sna len sig nxt cnt rng ro out 1 _ hst0 e1) lk_RL_246 rfl rfl ⟨(Nat.le_of_ble_eq_true rfl), (Nat.le_of_ble_eq_true rfl)⟩ hP hD hS hA hK hN hX hC pL1 pL1.symm rfl hl.1 rfl (Nat.le_of_ble_eq_true rfl) ⟨rmC (show cells + 1 ≤ 3000 by omega), rmS (show slots + 6 ≤ 12000 by omega)⟩ (dg ddL_law38 3 rfl) (fun H locs hP hD hS => ?_)
    have hP : va_P D vwCl (WL cy q qm ro rd out' outD isv te re de now spa sna len sig nxt cnt rng thr kept rea det misv iit mlen at_ merr wro cmd to1 to2 mnow msav ahe bef hst noi own inp) H := hP
    have hD : va_D A (WL cy q qm ro rd out' outD isv te re de now spa sna len sig nxt cnt rng thr kept rea det misv iit mlen at_ merr wro cmd to1 to2 mnow msav ahe bef hst noi own inp) := hD
    refine lv_istore (lv' := [(6, .int k), (0, .ref sb), (1, .ref (q 0 0)), (2, .ref (qm 0)), (3, .ref ro), (4, .ref rd), (5, .int i5)]) hx hb (dg ddL_law38 4 rfl) hl (by decide) rfl (fun ls hl => ?_)
    refine lv_aload_n hx hb (dg ddL_law38 5 rfl) rfl (lv_at hl 3 rfl) ?_
    refine lv_aload_n hx hb (dg ddL_law38 6 rfl) rfl (lv_at hl 1 rfl) ?_
    refine lv_iload hx hb (dg ddL_law38 7 rfl) (lv_at hl 6 rfl) ?_
    refine lv_iconst (v := 1) hx hb (dg ddL_law38 8 rfl) (by decide) ?_
    refine lv_iadd hx hb (dg ddL_law38 9 rfl) ?_
    refine va_sld hx hb hXs hbl hbA hS hi1 (dg ddL_law38 10 rfl) ?_
    refine lv_if_eq (tgt := 2111) hx hb (dg ddL_law38 11 rfl) (by decide) (fun h9 => absurd h9 h0) (fun _ => ?_)
    refine lv_iconst (v := 1) hx hb (dg ddL_law38 12 rfl) (by decide) ?_
    refine lv_goto (tgt := 2112) hx hb (dg ddL_law38 13 rfl) (by decide) ?_
    refine crf_vi CX hml (As := [.int 1]) (rest := []) (c_X5_refusal l D cy qm thr kept rea det misv iit mlen at_ merr wro cmd to1 to2 mnow msav ahe bef hst noi own inp 1 _ e2) lk_RL_249 rfl rfl ⟨(Nat.le_of_ble_eq_true rfl), (Nat.le_of_ble_eq_true rfl)⟩ hP hD hS hA hK hN pL3 pL3.symm 0 rfl rfl rfl hl.1 rfl (Nat.le_of_ble_eq_true rfl) ⟨rmC (show cells + 1 ≤ 3000 by omega), rmS (show slots + 6 ≤ 12000 by omega)⟩ (dg ddL_law38 15 rfl) (fun H locs hP hD hS => ?_)
    have hP : va_P D vwCl (WL cy q qm ro rd out' outD isv te re de now spa sna len sig nxt cnt rng k kept rea det misv iit mlen at_ merr wro cmd to1 to2 mnow msav ahe bef hst noi own inp) H := hP
    have hD : va_D A (WL cy q qm ro rd out' outD isv te re de now spa sna len sig nxt cnt rng k kept rea det misv iit mlen at_ merr wro cmd to1 to2 mnow msav ahe bef hst noi own inp) := hD
    refine lv_istore (lv' := [(7, .int b), (6, .int k), (0, .ref sb), (1, .ref (q 0 0)), (2, .ref (qm 0)), (3, .ref ro), (4, .ref rd), (5, .int i5)]) hx hb (dg ddL_law38 16 rfl) hl (by decide) rfl (fun ls hl => ?_)
    refine lv_aload_n hx hb (dg ddL_law38 17 rfl) rfl (lv_at hl 4 rfl) ?_
    refine cro_vi CX hml (As := []) (rest := []) (c_X5_thrown l D cy qm k kept rea det misv iit mlen at_ merr wro cmd to1 to2 mnow msav ahe bef hst noi own inp rfl) lk_RL_144 rfl rfl ⟨(Nat.le_of_ble_eq_true rfl), (Nat.le_of_ble_eq_true rfl)⟩ (vaP_l (vaP_perm pL3 hP)) hK hN 0 rfl rfl rfl hl.1 rfl (Nat.le_of_ble_eq_true rfl) ⟨rmC (show cells + 1 ≤ 3000 by omega), rmS (show slots + 6 ≤ 12000 by omega)⟩ (dg ddL_law38 18 rfl) ?_
    refine lv_iload hx hb (dg ddL_law38 19 rfl) (lv_at hl 1 rfl) ?_
    refine lv_icmp_eq (tgt := 2128) hx hb (dg ddL_law38 20 rfl) (by decide) (fun _ => ?_) (fun h => absurd rfl h)
    refine lv_iload hx hb (dg ddL_law38 23 rfl) (lv_at hl 1 rfl) ?_
    refine lv_if_ne (tgt := 2145) hx hb (dg ddL_law38 24 rfl) (by decide) (fun hk => ?_) (fun hk => ?_)
    ·
      refine lv_goto (tgt := 2361) hx hb (dg ddL_law39 2 rfl) (by decide) ?_
      refine W.widen (k := cells + 2) (n := slots + 12) (by omega) (by omega) ?_
      exact kk out' outD isv te re de now spa sna len sig nxt cnt rng k kept rea det misv iit mlen at_ merr wro cmd to1 to2 mnow msav ahe bef hst noi own inp H locs ls G (lv_sub hl [2, 3, 4, 5, 6, 7] rfl) hP hD hS
    ·
      refine lv_aload_n hx hb (dg ddL_law38 25 rfl) rfl (lv_at hl 5 rfl) ?_
      refine lv_iconst (v := 0) hx hb (dg ddL_law38 26 rfl) (by decide) ?_
      refine va_lald hx hb hK hP 0 5 rfl rfl (i := 0) (inb_in (show inb 0 1 = true by decide)) (dg ddL_law38 27 rfl) ?_
      rw [show out' (0 : Int32).toNatClampNeg = b.toInt64 from e3 hk]
      refine lv_iload hx hb (dg ddL_law38 28 rfl) (lv_at hl 0 rfl) ?_
      refine lv_i2l (v := b.toInt64) hx hb (dg ddL_law38 29 rfl) rfl ?_
      refine W.lcmp hx hb (dg ddL_law38 30 rfl) ?_
      refine lv_if_eq (tgt := 2145) hx hb (dg ddL_law38 31 rfl) (by decide) (fun _ => ?_) (fun h => absurd (lgc0 _) h)
      refine lv_goto (tgt := 2361) hx hb (dg ddL_law39 2 rfl) (by decide) ?_
      refine W.widen (k := cells + 2) (n := slots + 12) (by omega) (by omega) ?_
      exact kk out' outD isv te re de now spa sna len sig nxt cnt rng k kept rea det misv iit mlen at_ merr wro cmd to1 to2 mnow msav ahe bef hst noi own inp H locs ls G (lv_sub hl [2, 3, 4, 5, 6, 7] rfl) hP hD hS
set_option maxHeartbeats 4000000 in
set_option maxRecDepth 100000 in
theorem b_account (CX : Cx p s m c args cL_law RL) (hml : c.maxLocals = 9) (hK : va_K D vwCl (tyA cy) s) (hN : nst s) (hA : ∀ q, s.heap.size ≤ q → A q) (hX : exF A s s.heap) (hC : ncF s) (hst0 : l.stackTraces = false) (hXs : va_X sb L xs s s.heap) (hbl : sb < s.heap.size) (hbA : ¬ A sb) (hi1 : vp_in (i5 + 1) L) (hi2 : vp_in (i5 + 2) L) (G : GG isv te re de now sna len sig nxt cnt rng kept rea det misv iit mlen merr mnow msav hst inp) (hl : lv_has ls 9 [(0, .ref sb), (1, .ref (q 0 0)), (2, .ref (qm 0)), (3, .ref ro), (4, .ref rd), (5, .int i5)]) (hP : va_P D vwCl (WL cy q qm ro rd out outD isv te re de now spa sna len sig nxt cnt rng thr kept rea det misv iit mlen at_ merr wro cmd to1 to2 mnow msav ahe bef hst noi own inp) H) (hD : va_D A (WL cy q qm ro rd out outD isv te re de now spa sna len sig nxt cnt rng thr kept rea det misv iit mlen at_ merr wro cmd to1 to2 mnow msav ahe bef hst noi own inp)) (hS : va_S A s.heap H locs) (hcs : cells + 2 ≤ 3000 ∧ slots + 12 ≤ 12000) (kk : Go p l e s m args below meth c Q D A cy q qm ro rd sb i5 cells slots) : W p l e room_1 s m args below meth c H locs cells slots Q (F0 m 2148 ls []) := by
  have hx := CX.1
  have hb := CX.2.1
  obtain ⟨k, out', b, e1, e2, e3⟩ := S_account G out thr (xs (i5 + 1).toNatClampNeg)
  refine lv_aload_n hx hb (dg ddL_law39 3 rfl) rfl (lv_at hl 1 rfl) ?_
  refine lv_aload_n hx hb (dg ddL_law39 4 rfl) rfl (lv_at hl 0 rfl) ?_
  refine lv_iload hx hb (dg ddL_law39 5 rfl) (lv_at hl 5 rfl) ?_
  refine lv_iconst (v := 1) hx hb (dg ddL_law39 6 rfl) (by decide) ?_
  refine lv_iadd hx hb (dg ddL_law39 7 rfl) ?_
  refine va_sld hx hb hXs hbl hbA hS hi1 (dg ddL_law39 8 rfl) ?_
  refine lv_aload_n hx hb (dg ddL_law39 9 rfl) rfl (lv_at hl 3 rfl) ?_
  refine crl_i CX hml (As := [.ref (q 0 0), .int (xs (i5 + 1).toNatClampNeg), .ref ro]) (rest := []) (c_L_account l D cy q isv te re de now spa sna len sig nxt cnt rng ro out (xs (i5 + 1).toNatClampNeg) _ hst0 e1) lk_RL_250 rfl rfl ⟨(Nat.le_of_ble_eq_true rfl), (Nat.le_of_ble_eq_true rfl)⟩ hP hD hS hA hK hN hX hC pL1 pL1.symm rfl hl.1 rfl (Nat.le_of_ble_eq_true rfl) ⟨rmC (show cells + 1 ≤ 3000 by omega), rmS (show slots + 6 ≤ 12000 by omega)⟩ (dg ddL_law39 10 rfl) (fun H locs hP hD hS => ?_)
  have hP : va_P D vwCl (WL cy q qm ro rd out' outD isv te re de now spa sna len sig nxt cnt rng thr kept rea det misv iit mlen at_ merr wro cmd to1 to2 mnow msav ahe bef hst noi own inp) H := hP
  have hD : va_D A (WL cy q qm ro rd out' outD isv te re de now spa sna len sig nxt cnt rng thr kept rea det misv iit mlen at_ merr wro cmd to1 to2 mnow msav ahe bef hst noi own inp) := hD
  refine lv_istore (lv' := [(6, .int k), (0, .ref sb), (1, .ref (q 0 0)), (2, .ref (qm 0)), (3, .ref ro), (4, .ref rd), (5, .int i5)]) hx hb (dg ddL_law39 11 rfl) hl (by decide) rfl (fun ls hl => ?_)
  refine lv_aload_n hx hb (dg ddL_law39 12 rfl) rfl (lv_at hl 3 rfl) ?_
  refine lv_aload_n hx hb (dg ddL_law39 13 rfl) rfl (lv_at hl 1 rfl) ?_
  refine lv_iload hx hb (dg ddL_law39 14 rfl) (lv_at hl 6 rfl) ?_
  refine lv_iconst (v := 1) hx hb (dg ddL_law39 15 rfl) (by decide) ?_
  refine lv_iadd hx hb (dg ddL_law39 16 rfl) ?_
  refine va_sld hx hb hXs hbl hbA hS hi1 (dg ddL_law39 17 rfl) ?_
  refine crf_vi CX hml (As := [.int (xs (i5 + 1).toNatClampNeg)]) (rest := []) (c_X5_account l D cy qm thr kept rea det misv iit mlen at_ merr wro cmd to1 to2 mnow msav ahe bef hst noi own inp (xs (i5 + 1).toNatClampNeg) _ e2) lk_RL_252 rfl rfl ⟨(Nat.le_of_ble_eq_true rfl), (Nat.le_of_ble_eq_true rfl)⟩ hP hD hS hA hK hN pL3 pL3.symm 0 rfl rfl rfl hl.1 rfl (Nat.le_of_ble_eq_true rfl) ⟨rmC (show cells + 1 ≤ 3000 by omega), rmS (show slots + 6 ≤ 12000 by omega)⟩ (dg ddL_law39 18 rfl) (fun H locs hP hD hS => ?_)
  have hP : va_P D vwCl (WL cy q qm ro rd out' outD isv te re de now spa sna len sig nxt cnt rng k kept rea det misv iit mlen at_ merr wro cmd to1 to2 mnow msav ahe bef hst noi own inp) H := hP
  have hD : va_D A (WL cy q qm ro rd out' outD isv te re de now spa sna len sig nxt cnt rng k kept rea det misv iit mlen at_ merr wro cmd to1 to2 mnow msav ahe bef hst noi own inp) := hD
  refine lv_istore (lv' := [(7, .int b), (6, .int k), (0, .ref sb), (1, .ref (q 0 0)), (2, .ref (qm 0)), (3, .ref ro), (4, .ref rd), (5, .int i5)]) hx hb (dg ddL_law39 19 rfl) hl (by decide) rfl (fun ls hl => ?_)
  refine lv_aload_n hx hb (dg ddL_law39 20 rfl) rfl (lv_at hl 4 rfl) ?_
  refine cro_vi CX hml (As := []) (rest := []) (c_X5_thrown l D cy qm k kept rea det misv iit mlen at_ merr wro cmd to1 to2 mnow msav ahe bef hst noi own inp rfl) lk_RL_144 rfl rfl ⟨(Nat.le_of_ble_eq_true rfl), (Nat.le_of_ble_eq_true rfl)⟩ (vaP_l (vaP_perm pL3 hP)) hK hN 0 rfl rfl rfl hl.1 rfl (Nat.le_of_ble_eq_true rfl) ⟨rmC (show cells + 1 ≤ 3000 by omega), rmS (show slots + 6 ≤ 12000 by omega)⟩ (dg ddL_law39 21 rfl) ?_
  refine lv_iload hx hb (dg ddL_law39 22 rfl) (lv_at hl 1 rfl) ?_
  refine lv_icmp_eq (tgt := 2184) hx hb (dg ddL_law39 23 rfl) (by decide) (fun _ => ?_) (fun h => absurd rfl h)
  refine lv_iload hx hb (dg ddL_law39 26 rfl) (lv_at hl 1 rfl) ?_
  refine lv_if_ne (tgt := 2201) hx hb (dg ddL_law39 27 rfl) (by decide) (fun hk => ?_) (fun hk => ?_)
  ·
    refine lv_goto (tgt := 2361) hx hb (dg ddL_law40 5 rfl) (by decide) ?_
    refine W.widen (k := cells + 2) (n := slots + 12) (by omega) (by omega) ?_
    exact kk out' outD isv te re de now spa sna len sig nxt cnt rng k kept rea det misv iit mlen at_ merr wro cmd to1 to2 mnow msav ahe bef hst noi own inp H locs ls G (lv_sub hl [2, 3, 4, 5, 6, 7] rfl) hP hD hS
  ·
    refine lv_aload_n hx hb (dg ddL_law39 28 rfl) rfl (lv_at hl 5 rfl) ?_
    refine lv_iconst (v := 0) hx hb (dg ddL_law39 29 rfl) (by decide) ?_
    refine va_lald hx hb hK hP 0 5 rfl rfl (i := 0) (inb_in (show inb 0 1 = true by decide)) (dg ddL_law39 30 rfl) ?_
    rw [show out' (0 : Int32).toNatClampNeg = b.toInt64 from e3 hk]
    refine lv_iload hx hb (dg ddL_law39 31 rfl) (lv_at hl 0 rfl) ?_
    refine lv_i2l (v := b.toInt64) hx hb (dg ddL_law40 0 rfl) rfl ?_
    refine W.lcmp hx hb (dg ddL_law40 1 rfl) ?_
    refine lv_if_eq (tgt := 2201) hx hb (dg ddL_law40 2 rfl) (by decide) (fun _ => ?_) (fun h => absurd (lgc0 _) h)
    refine lv_goto (tgt := 2361) hx hb (dg ddL_law40 5 rfl) (by decide) ?_
    refine W.widen (k := cells + 2) (n := slots + 12) (by omega) (by omega) ?_
    exact kk out' outD isv te re de now spa sna len sig nxt cnt rng k kept rea det misv iit mlen at_ merr wro cmd to1 to2 mnow msav ahe bef hst noi own inp H locs ls G (lv_sub hl [2, 3, 4, 5, 6, 7] rfl) hP hD hS
set_option maxHeartbeats 4000000 in
set_option maxRecDepth 100000 in
theorem b_isWell (CX : Cx p s m c args cL_law RL) (hml : c.maxLocals = 9) (hK : va_K D vwCl (tyA cy) s) (hN : nst s) (hA : ∀ q, s.heap.size ≤ q → A q) (hX : exF A s s.heap) (hC : ncF s) (hst0 : l.stackTraces = false) (hXs : va_X sb L xs s s.heap) (hbl : sb < s.heap.size) (hbA : ¬ A sb) (hi1 : vp_in (i5 + 1) L) (hi2 : vp_in (i5 + 2) L) (G : GG isv te re de now sna len sig nxt cnt rng kept rea det misv iit mlen merr mnow msav hst inp) (hl : lv_has ls 9 [(0, .ref sb), (1, .ref (q 0 0)), (2, .ref (qm 0)), (3, .ref ro), (4, .ref rd), (5, .int i5)]) (hP : va_P D vwCl (WL cy q qm ro rd out outD isv te re de now spa sna len sig nxt cnt rng thr kept rea det misv iit mlen at_ merr wro cmd to1 to2 mnow msav ahe bef hst noi own inp) H) (hD : va_D A (WL cy q qm ro rd out outD isv te re de now spa sna len sig nxt cnt rng thr kept rea det misv iit mlen at_ merr wro cmd to1 to2 mnow msav ahe bef hst noi own inp)) (hS : va_S A s.heap H locs) (hcs : cells + 2 ≤ 3000 ∧ slots + 12 ≤ 12000) (kk : Go p l e s m args below meth c Q D A cy q qm ro rd sb i5 cells slots) : W p l e room_1 s m args below meth c H locs cells slots Q (F0 m 2204 ls []) := by
  have hx := CX.1
  have hb := CX.2.1
  obtain ⟨v, now', e1, e2, G⟩ := S_isWell G thr
  refine lv_aload_n hx hb (dg ddL_law40 6 rfl) rfl (lv_at hl 1 rfl) ?_
  refine crf_vi CX hml (As := []) (rest := []) (c_X4_isWell l D cy q isv te re de now spa sna len sig nxt cnt rng _ e1) lk_RL_253 rfl rfl ⟨(Nat.le_of_ble_eq_true rfl), (Nat.le_of_ble_eq_true rfl)⟩ hP hD hS hA hK hN pL4 pL4.symm 0 rfl rfl rfl hl.1 rfl (Nat.le_of_ble_eq_true rfl) ⟨rmC (show cells ≤ 3000 by omega), rmS (show slots ≤ 12000 by omega)⟩ (dg ddL_law40 7 rfl) (fun H locs hP hD hS => ?_)
  have hP : va_P D vwCl (WL cy q qm ro rd out outD isv te re de now' spa sna len sig nxt cnt rng thr kept rea det misv iit mlen at_ merr wro cmd to1 to2 mnow msav ahe bef hst noi own inp) H := hP
  have hD : va_D A (WL cy q qm ro rd out outD isv te re de now' spa sna len sig nxt cnt rng thr kept rea det misv iit mlen at_ merr wro cmd to1 to2 mnow msav ahe bef hst noi own inp) := hD
  refine lv_aload_n hx hb (dg ddL_law40 8 rfl) rfl (lv_at hl 2 rfl) ?_
  refine crf_vi CX hml (As := []) (rest := [.int v]) (c_X5_isWell l D cy qm thr kept rea det misv iit mlen at_ merr wro cmd to1 to2 mnow msav ahe bef hst noi own inp  _ e2) lk_RL_257 rfl rfl ⟨(Nat.le_of_ble_eq_true rfl), (Nat.le_of_ble_eq_true rfl)⟩ hP hD hS hA hK hN pL3 pL3.symm 0 rfl rfl rfl hl.1 rfl (Nat.le_of_ble_eq_true rfl) ⟨rmC (show cells ≤ 3000 by omega), rmS (show slots ≤ 12000 by omega)⟩ (dg ddL_law40 9 rfl) (fun H locs hP hD hS => ?_)
  have hP : va_P D vwCl (WL cy q qm ro rd out outD isv te re de now' spa sna len sig nxt cnt rng 0 kept rea det misv iit mlen at_ merr wro cmd to1 to2 mnow msav ahe bef hst noi own inp) H := hP
  have hD : va_D A (WL cy q qm ro rd out outD isv te re de now' spa sna len sig nxt cnt rng 0 kept rea det misv iit mlen at_ merr wro cmd to1 to2 mnow msav ahe bef hst noi own inp) := hD
  refine lv_icmp_eq (tgt := 2361) hx hb (dg ddL_law40 10 rfl) (by decide) (fun _ => ?_) (fun h => absurd rfl h)
  refine W.widen (k := cells + 2) (n := slots + 12) (by omega) (by omega) ?_
  exact kk out outD isv te re de now' spa sna len sig nxt cnt rng 0 kept rea det misv iit mlen at_ merr wro cmd to1 to2 mnow msav ahe bef hst noi own inp H locs ls G (lv_sub hl [0, 1, 2, 3, 4, 5] rfl) hP hD hS
set_option maxHeartbeats 4000000 in
set_option maxRecDepth 100000 in
theorem b_meanBits (CX : Cx p s m c args cL_law RL) (hml : c.maxLocals = 9) (hK : va_K D vwCl (tyA cy) s) (hN : nst s) (hA : ∀ q, s.heap.size ≤ q → A q) (hX : exF A s s.heap) (hC : ncF s) (hst0 : l.stackTraces = false) (hXs : va_X sb L xs s s.heap) (hbl : sb < s.heap.size) (hbA : ¬ A sb) (hi1 : vp_in (i5 + 1) L) (hi2 : vp_in (i5 + 2) L) (G : GG isv te re de now sna len sig nxt cnt rng kept rea det misv iit mlen merr mnow msav hst inp) (hl : lv_has ls 9 [(0, .ref sb), (1, .ref (q 0 0)), (2, .ref (qm 0)), (3, .ref ro), (4, .ref rd), (5, .int i5)]) (hP : va_P D vwCl (WL cy q qm ro rd out outD isv te re de now spa sna len sig nxt cnt rng thr kept rea det misv iit mlen at_ merr wro cmd to1 to2 mnow msav ahe bef hst noi own inp) H) (hD : va_D A (WL cy q qm ro rd out outD isv te re de now spa sna len sig nxt cnt rng thr kept rea det misv iit mlen at_ merr wro cmd to1 to2 mnow msav ahe bef hst noi own inp)) (hS : va_S A s.heap H locs) (hcs : cells + 2 ≤ 3000 ∧ slots + 12 ≤ 12000) (kk : Go p l e s m args below meth c Q D A cy q qm ro rd sb i5 cells slots) : W p l e room_1 s m args below meth c H locs cells slots Q (F0 m 2217 ls []) := by
  have hx := CX.1
  have hb := CX.2.1
  obtain ⟨k, out', b, e1, e2, e3⟩ := S_meanBits G out thr
  refine lv_aload_n hx hb (dg ddL_law40 13 rfl) rfl (lv_at hl 1 rfl) ?_
  refine lv_aload_n hx hb (dg ddL_law40 14 rfl) rfl (lv_at hl 3 rfl) ?_
  refine crl_i CX hml (As := [.ref (q 0 0), .ref ro]) (rest := []) (c_L_meanBits l D cy q isv te re de now spa sna len sig nxt cnt rng ro out  _ hst0 e1) lk_RL_258 rfl rfl ⟨(Nat.le_of_ble_eq_true rfl), (Nat.le_of_ble_eq_true rfl)⟩ hP hD hS hA hK hN hX hC pL1 pL1.symm rfl hl.1 rfl (Nat.le_of_ble_eq_true rfl) ⟨rmC (show cells + 1 ≤ 3000 by omega), rmS (show slots + 6 ≤ 12000 by omega)⟩ (dg ddL_law40 15 rfl) (fun H locs hP hD hS => ?_)
  have hP : va_P D vwCl (WL cy q qm ro rd out' outD isv te re de now spa sna len sig nxt cnt rng thr kept rea det misv iit mlen at_ merr wro cmd to1 to2 mnow msav ahe bef hst noi own inp) H := hP
  have hD : va_D A (WL cy q qm ro rd out' outD isv te re de now spa sna len sig nxt cnt rng thr kept rea det misv iit mlen at_ merr wro cmd to1 to2 mnow msav ahe bef hst noi own inp) := hD
  refine lv_istore (lv' := [(6, .int k), (0, .ref sb), (1, .ref (q 0 0)), (2, .ref (qm 0)), (3, .ref ro), (4, .ref rd), (5, .int i5)]) hx hb (dg ddL_law40 16 rfl) hl (by decide) rfl (fun ls hl => ?_)
  refine lv_aload_n hx hb (dg ddL_law40 17 rfl) rfl (lv_at hl 3 rfl) ?_
  refine crf_vl CX hml (As := []) (rest := []) (c_X5_meanBits l D cy qm thr kept rea det misv iit mlen at_ merr wro cmd to1 to2 mnow msav ahe bef hst noi own inp  _ e2) lk_RL_260 rfl rfl ⟨(Nat.le_of_ble_eq_true rfl), (Nat.le_of_ble_eq_true rfl)⟩ hP hD hS hA hK hN pL3 pL3.symm 0 rfl rfl rfl hl.1 rfl (Nat.le_of_ble_eq_true rfl) ⟨rmC (show cells + 1 ≤ 3000 by omega), rmS (show slots + 6 ≤ 12000 by omega)⟩ (dg ddL_law40 18 rfl) (fun H locs hP hD hS => ?_)
  have hP : va_P D vwCl (WL cy q qm ro rd out' outD isv te re de now spa sna len sig nxt cnt rng k kept rea det misv iit mlen at_ merr wro cmd to1 to2 mnow msav ahe bef hst noi own inp) H := hP
  have hD : va_D A (WL cy q qm ro rd out' outD isv te re de now spa sna len sig nxt cnt rng k kept rea det misv iit mlen at_ merr wro cmd to1 to2 mnow msav ahe bef hst noi own inp) := hD
  refine lv_lstore (lv' := [(7, .long b), (6, .int k), (0, .ref sb), (1, .ref (q 0 0)), (2, .ref (qm 0)), (3, .ref ro), (4, .ref rd), (5, .int i5)]) hx hb (dg ddL_law40 19 rfl) hl (by decide) rfl (fun ls hl => ?_)
  refine lv_aload_n hx hb (dg ddL_law40 20 rfl) rfl (lv_at hl 4 rfl) ?_
  refine cro_vi CX hml (As := []) (rest := []) (c_X5_thrown l D cy qm k kept rea det misv iit mlen at_ merr wro cmd to1 to2 mnow msav ahe bef hst noi own inp rfl) lk_RL_144 rfl rfl ⟨(Nat.le_of_ble_eq_true rfl), (Nat.le_of_ble_eq_true rfl)⟩ (vaP_l (vaP_perm pL3 hP)) hK hN 0 rfl rfl rfl hl.1 rfl (Nat.le_of_ble_eq_true rfl) ⟨rmC (show cells + 1 ≤ 3000 by omega), rmS (show slots + 6 ≤ 12000 by omega)⟩ (dg ddL_law40 21 rfl) ?_
  refine lv_iload hx hb (dg ddL_law40 22 rfl) (lv_at hl 1 rfl) ?_
  refine lv_icmp_eq (tgt := 2241) hx hb (dg ddL_law40 23 rfl) (by decide) (fun _ => ?_) (fun h => absurd rfl h)
  refine lv_iload hx hb (dg ddL_law40 26 rfl) (lv_at hl 1 rfl) ?_
  refine lv_if_ne (tgt := 2257) hx hb (dg ddL_law40 27 rfl) (by decide) (fun hk => ?_) (fun hk => ?_)
  ·
    refine lv_goto (tgt := 2361) hx hb (dg ddL_law41 4 rfl) (by decide) ?_
    refine W.widen (k := cells + 2) (n := slots + 12) (by omega) (by omega) ?_
    exact kk out' outD isv te re de now spa sna len sig nxt cnt rng k kept rea det misv iit mlen at_ merr wro cmd to1 to2 mnow msav ahe bef hst noi own inp H locs ls G (lv_sub hl [2, 3, 4, 5, 6, 7] rfl) hP hD hS
  ·
    refine lv_aload_n hx hb (dg ddL_law40 28 rfl) rfl (lv_at hl 5 rfl) ?_
    refine lv_iconst (v := 0) hx hb (dg ddL_law40 29 rfl) (by decide) ?_
    refine va_lald hx hb hK hP 0 5 rfl rfl (i := 0) (inb_in (show inb 0 1 = true by decide)) (dg ddL_law40 30 rfl) ?_
    rw [show out' (0 : Int32).toNatClampNeg = b from e3 hk]
    refine lv_lload hx hb (dg ddL_law40 31 rfl) (lv_at hl 0 rfl) ?_
    refine W.lcmp hx hb (dg ddL_law41 0 rfl) ?_
    refine lv_if_eq (tgt := 2257) hx hb (dg ddL_law41 1 rfl) (by decide) (fun _ => ?_) (fun h => absurd (lgc0 _) h)
    refine lv_goto (tgt := 2361) hx hb (dg ddL_law41 4 rfl) (by decide) ?_
    refine W.widen (k := cells + 2) (n := slots + 12) (by omega) (by omega) ?_
    exact kk out' outD isv te re de now spa sna len sig nxt cnt rng k kept rea det misv iit mlen at_ merr wro cmd to1 to2 mnow msav ahe bef hst noi own inp H locs ls G (lv_sub hl [2, 3, 4, 5, 6, 7] rfl) hP hD hS
set_option maxHeartbeats 4000000 in
set_option maxRecDepth 100000 in
theorem b_undo (CX : Cx p s m c args cL_law RL) (hml : c.maxLocals = 9) (hK : va_K D vwCl (tyA cy) s) (hN : nst s) (hA : ∀ q, s.heap.size ≤ q → A q) (hX : exF A s s.heap) (hC : ncF s) (hst0 : l.stackTraces = false) (hXs : va_X sb L xs s s.heap) (hbl : sb < s.heap.size) (hbA : ¬ A sb) (hi1 : vp_in (i5 + 1) L) (hi2 : vp_in (i5 + 2) L) (G : GG isv te re de now sna len sig nxt cnt rng kept rea det misv iit mlen merr mnow msav hst inp) (hl : lv_has ls 9 [(0, .ref sb), (1, .ref (q 0 0)), (2, .ref (qm 0)), (3, .ref ro), (4, .ref rd), (5, .int i5)]) (hP : va_P D vwCl (WL cy q qm ro rd out outD isv te re de now spa sna len sig nxt cnt rng thr kept rea det misv iit mlen at_ merr wro cmd to1 to2 mnow msav ahe bef hst noi own inp) H) (hD : va_D A (WL cy q qm ro rd out outD isv te re de now spa sna len sig nxt cnt rng thr kept rea det misv iit mlen at_ merr wro cmd to1 to2 mnow msav ahe bef hst noi own inp)) (hS : va_S A s.heap H locs) (hcs : cells + 2 ≤ 3000 ∧ slots + 12 ≤ 12000) (kk : Go p l e s m args below meth c Q D A cy q qm ro rd sb i5 cells slots) : W p l e room_1 s m args below meth c H locs cells slots Q (F0 m 2260 ls []) := by
  have hx := CX.1
  have hb := CX.2.1
  obtain ⟨k, now', nxt', cnt', out', b, kept', mnow', e1, e2, e3, G⟩ := S_undo G out thr
  refine lv_aload_n hx hb (dg ddL_law41 5 rfl) rfl (lv_at hl 1 rfl) ?_
  refine lv_aload_n hx hb (dg ddL_law41 6 rfl) rfl (lv_at hl 3 rfl) ?_
  refine crl_i CX hml (As := [.ref (q 0 0), .ref ro]) (rest := []) (c_L_undo l D cy q isv te re de now spa sna len sig nxt cnt rng ro out  _ hst0 e1) lk_RL_261 rfl rfl ⟨(Nat.le_of_ble_eq_true rfl), (Nat.le_of_ble_eq_true rfl)⟩ hP hD hS hA hK hN hX hC pL1 pL1.symm rfl hl.1 rfl (Nat.le_of_ble_eq_true rfl) ⟨rmC (show cells + 1 ≤ 3000 by omega), rmS (show slots + 6 ≤ 12000 by omega)⟩ (dg ddL_law41 7 rfl) (fun H locs hP hD hS => ?_)
  have hP : va_P D vwCl (WL cy q qm ro rd out' outD isv te re de now' spa sna len sig nxt' cnt' rng thr kept rea det misv iit mlen at_ merr wro cmd to1 to2 mnow msav ahe bef hst noi own inp) H := hP
  have hD : va_D A (WL cy q qm ro rd out' outD isv te re de now' spa sna len sig nxt' cnt' rng thr kept rea det misv iit mlen at_ merr wro cmd to1 to2 mnow msav ahe bef hst noi own inp) := hD
  refine lv_istore (lv' := [(6, .int k), (0, .ref sb), (1, .ref (q 0 0)), (2, .ref (qm 0)), (3, .ref ro), (4, .ref rd), (5, .int i5)]) hx hb (dg ddL_law41 8 rfl) hl (by decide) rfl (fun ls hl => ?_)
  refine lv_aload_n hx hb (dg ddL_law41 9 rfl) rfl (lv_at hl 3 rfl) ?_
  refine crf_vi CX hml (As := []) (rest := []) (c_X5_undo l D cy qm thr kept rea det misv iit mlen at_ merr wro cmd to1 to2 mnow msav ahe bef hst noi own inp  _ e2) lk_RL_263 rfl rfl ⟨(Nat.le_of_ble_eq_true rfl), (Nat.le_of_ble_eq_true rfl)⟩ hP hD hS hA hK hN pL3 pL3.symm 0 rfl rfl rfl hl.1 rfl (Nat.le_of_ble_eq_true rfl) ⟨rmC (show cells + 1 ≤ 3000 by omega), rmS (show slots + 6 ≤ 12000 by omega)⟩ (dg ddL_law41 10 rfl) (fun H locs hP hD hS => ?_)
  have hP : va_P D vwCl (WL cy q qm ro rd out' outD isv te re de now' spa sna len sig nxt' cnt' rng k kept' rea det misv iit mlen at_ merr wro cmd to1 to2 mnow' msav ahe bef hst noi own inp) H := hP
  have hD : va_D A (WL cy q qm ro rd out' outD isv te re de now' spa sna len sig nxt' cnt' rng k kept' rea det misv iit mlen at_ merr wro cmd to1 to2 mnow' msav ahe bef hst noi own inp) := hD
  refine lv_istore (lv' := [(7, .int b), (6, .int k), (0, .ref sb), (1, .ref (q 0 0)), (2, .ref (qm 0)), (3, .ref ro), (4, .ref rd), (5, .int i5)]) hx hb (dg ddL_law41 11 rfl) hl (by decide) rfl (fun ls hl => ?_)
  refine lv_aload_n hx hb (dg ddL_law41 12 rfl) rfl (lv_at hl 4 rfl) ?_
  refine cro_vi CX hml (As := []) (rest := []) (c_X5_thrown l D cy qm k kept' rea det misv iit mlen at_ merr wro cmd to1 to2 mnow' msav ahe bef hst noi own inp rfl) lk_RL_144 rfl rfl ⟨(Nat.le_of_ble_eq_true rfl), (Nat.le_of_ble_eq_true rfl)⟩ (vaP_l (vaP_perm pL3 hP)) hK hN 0 rfl rfl rfl hl.1 rfl (Nat.le_of_ble_eq_true rfl) ⟨rmC (show cells + 1 ≤ 3000 by omega), rmS (show slots + 6 ≤ 12000 by omega)⟩ (dg ddL_law41 13 rfl) ?_
  refine lv_iload hx hb (dg ddL_law41 14 rfl) (lv_at hl 1 rfl) ?_
  refine lv_icmp_eq (tgt := 2284) hx hb (dg ddL_law41 15 rfl) (by decide) (fun _ => ?_) (fun h => absurd rfl h)
  refine lv_iload hx hb (dg ddL_law41 18 rfl) (lv_at hl 1 rfl) ?_
  refine lv_if_ne (tgt := 2301) hx hb (dg ddL_law41 19 rfl) (by decide) (fun hk => ?_) (fun hk => ?_)
  ·
    refine lv_goto (tgt := 2361) hx hb (dg ddL_law41 29 rfl) (by decide) ?_
    refine W.widen (k := cells + 2) (n := slots + 12) (by omega) (by omega) ?_
    exact kk out' outD isv te re de now' spa sna len sig nxt' cnt' rng k kept' rea det misv iit mlen at_ merr wro cmd to1 to2 mnow' msav ahe bef hst noi own inp H locs ls G (lv_sub hl [2, 3, 4, 5, 6, 7] rfl) hP hD hS
  ·
    refine lv_aload_n hx hb (dg ddL_law41 20 rfl) rfl (lv_at hl 5 rfl) ?_
    refine lv_iconst (v := 0) hx hb (dg ddL_law41 21 rfl) (by decide) ?_
    refine va_lald hx hb hK hP 0 5 rfl rfl (i := 0) (inb_in (show inb 0 1 = true by decide)) (dg ddL_law41 22 rfl) ?_
    rw [show out' (0 : Int32).toNatClampNeg = b.toInt64 from e3 hk]
    refine lv_iload hx hb (dg ddL_law41 23 rfl) (lv_at hl 0 rfl) ?_
    refine lv_i2l (v := b.toInt64) hx hb (dg ddL_law41 24 rfl) rfl ?_
    refine W.lcmp hx hb (dg ddL_law41 25 rfl) ?_
    refine lv_if_eq (tgt := 2301) hx hb (dg ddL_law41 26 rfl) (by decide) (fun _ => ?_) (fun h => absurd (lgc0 _) h)
    refine lv_goto (tgt := 2361) hx hb (dg ddL_law41 29 rfl) (by decide) ?_
    refine W.widen (k := cells + 2) (n := slots + 12) (by omega) (by omega) ?_
    exact kk out' outD isv te re de now' spa sna len sig nxt' cnt' rng k kept' rea det misv iit mlen at_ merr wro cmd to1 to2 mnow' msav ahe bef hst noi own inp H locs ls G (lv_sub hl [2, 3, 4, 5, 6, 7] rfl) hP hD hS
set_option maxHeartbeats 4000000 in
set_option maxRecDepth 100000 in
theorem b_save (CX : Cx p s m c args cL_law RL) (hml : c.maxLocals = 9) (hK : va_K D vwCl (tyA cy) s) (hN : nst s) (hA : ∀ q, s.heap.size ≤ q → A q) (hX : exF A s s.heap) (hC : ncF s) (hst0 : l.stackTraces = false) (hXs : va_X sb L xs s s.heap) (hbl : sb < s.heap.size) (hbA : ¬ A sb) (hi1 : vp_in (i5 + 1) L) (hi2 : vp_in (i5 + 2) L) (G : GG isv te re de now sna len sig nxt cnt rng kept rea det misv iit mlen merr mnow msav hst inp) (hl : lv_has ls 9 [(0, .ref sb), (1, .ref (q 0 0)), (2, .ref (qm 0)), (3, .ref ro), (4, .ref rd), (5, .int i5)]) (hP : va_P D vwCl (WL cy q qm ro rd out outD isv te re de now spa sna len sig nxt cnt rng thr kept rea det misv iit mlen at_ merr wro cmd to1 to2 mnow msav ahe bef hst noi own inp) H) (hD : va_D A (WL cy q qm ro rd out outD isv te re de now spa sna len sig nxt cnt rng thr kept rea det misv iit mlen at_ merr wro cmd to1 to2 mnow msav ahe bef hst noi own inp)) (hS : va_S A s.heap H locs) (hcs : cells + 2 ≤ 3000 ∧ slots + 12 ≤ 12000) (kk : Go p l e s m args below meth c Q D A cy q qm ro rd sb i5 cells slots) : W p l e room_1 s m args below meth c H locs cells slots Q (F0 m 2304 ls []) := by
  have hx := CX.1
  have hb := CX.2.1
  obtain ⟨v, isv', sna', misv', msav', e1, e2, G⟩ := S_save G thr
  refine lv_aload_n hx hb (dg ddL_law41 30 rfl) rfl (lv_at hl 1 rfl) ?_
  refine crf_vi CX hml (As := []) (rest := []) (c_X4_save l D cy q isv te re de now spa sna len sig nxt cnt rng _ e1) lk_RL_264 rfl rfl ⟨(Nat.le_of_ble_eq_true rfl), (Nat.le_of_ble_eq_true rfl)⟩ hP hD hS hA hK hN pL4 pL4.symm 0 rfl rfl rfl hl.1 rfl (Nat.le_of_ble_eq_true rfl) ⟨rmC (show cells ≤ 3000 by omega), rmS (show slots ≤ 12000 by omega)⟩ (dg ddL_law41 31 rfl) (fun H locs hP hD hS => ?_)
  have hP : va_P D vwCl (WL cy q qm ro rd out outD isv' te re de now spa sna' len sig nxt cnt rng thr kept rea det misv iit mlen at_ merr wro cmd to1 to2 mnow msav ahe bef hst noi own inp) H := hP
  have hD : va_D A (WL cy q qm ro rd out outD isv' te re de now spa sna' len sig nxt cnt rng thr kept rea det misv iit mlen at_ merr wro cmd to1 to2 mnow msav ahe bef hst noi own inp) := hD
  refine lv_aload_n hx hb (dg ddL_law42 0 rfl) rfl (lv_at hl 2 rfl) ?_
  refine crf_vi CX hml (As := []) (rest := [.int v]) (c_X5_save l D cy qm thr kept rea det misv iit mlen at_ merr wro cmd to1 to2 mnow msav ahe bef hst noi own inp  _ e2) lk_RL_267 rfl rfl ⟨(Nat.le_of_ble_eq_true rfl), (Nat.le_of_ble_eq_true rfl)⟩ hP hD hS hA hK hN pL3 pL3.symm 0 rfl rfl rfl hl.1 rfl (Nat.le_of_ble_eq_true rfl) ⟨rmC (show cells ≤ 3000 by omega), rmS (show slots ≤ 12000 by omega)⟩ (dg ddL_law42 1 rfl) (fun H locs hP hD hS => ?_)
  have hP : va_P D vwCl (WL cy q qm ro rd out outD isv' te re de now spa sna' len sig nxt cnt rng 0 kept rea det misv' iit mlen at_ merr wro cmd to1 to2 mnow msav' ahe bef hst noi own inp) H := hP
  have hD : va_D A (WL cy q qm ro rd out outD isv' te re de now spa sna' len sig nxt cnt rng 0 kept rea det misv' iit mlen at_ merr wro cmd to1 to2 mnow msav' ahe bef hst noi own inp) := hD
  refine lv_icmp_eq (tgt := 2361) hx hb (dg ddL_law42 2 rfl) (by decide) (fun _ => ?_) (fun h => absurd rfl h)
  refine W.widen (k := cells + 2) (n := slots + 12) (by omega) (by omega) ?_
  exact kk out outD isv' te re de now spa sna' len sig nxt cnt rng 0 kept rea det misv' iit mlen at_ merr wro cmd to1 to2 mnow msav' ahe bef hst noi own inp H locs ls G (lv_sub hl [0, 1, 2, 3, 4, 5] rfl) hP hD hS
set_option maxHeartbeats 4000000 in
set_option maxRecDepth 100000 in
theorem b_restore (CX : Cx p s m c args cL_law RL) (hml : c.maxLocals = 9) (hK : va_K D vwCl (tyA cy) s) (hN : nst s) (hA : ∀ q, s.heap.size ≤ q → A q) (hX : exF A s s.heap) (hC : ncF s) (hst0 : l.stackTraces = false) (hXs : va_X sb L xs s s.heap) (hbl : sb < s.heap.size) (hbA : ¬ A sb) (hi1 : vp_in (i5 + 1) L) (hi2 : vp_in (i5 + 2) L) (G : GG isv te re de now sna len sig nxt cnt rng kept rea det misv iit mlen merr mnow msav hst inp) (hl : lv_has ls 9 [(0, .ref sb), (1, .ref (q 0 0)), (2, .ref (qm 0)), (3, .ref ro), (4, .ref rd), (5, .int i5)]) (hP : va_P D vwCl (WL cy q qm ro rd out outD isv te re de now spa sna len sig nxt cnt rng thr kept rea det misv iit mlen at_ merr wro cmd to1 to2 mnow msav ahe bef hst noi own inp) H) (hD : va_D A (WL cy q qm ro rd out outD isv te re de now spa sna len sig nxt cnt rng thr kept rea det misv iit mlen at_ merr wro cmd to1 to2 mnow msav ahe bef hst noi own inp)) (hS : va_S A s.heap H locs) (hcs : cells + 2 ≤ 3000 ∧ slots + 12 ≤ 12000) (kk : Go p l e s m args below meth c Q D A cy q qm ro rd sb i5 cells slots) : W p l e room_1 s m args below meth c H locs cells slots Q (F0 m 2317 ls []) := by
  have hx := CX.1
  have hb := CX.2.1
  obtain ⟨k, now', cnt', out', b, kept', mnow', e1, e2, e3, G⟩ := S_restore G out thr
  refine lv_aload_n hx hb (dg ddL_law42 5 rfl) rfl (lv_at hl 1 rfl) ?_
  refine lv_aload_n hx hb (dg ddL_law42 6 rfl) rfl (lv_at hl 3 rfl) ?_
  refine crl_i CX hml (As := [.ref (q 0 0), .ref ro]) (rest := []) (c_L_restore l D cy q isv te re de now spa sna len sig nxt cnt rng ro out  _ hst0 e1) lk_RL_268 rfl rfl ⟨(Nat.le_of_ble_eq_true rfl), (Nat.le_of_ble_eq_true rfl)⟩ hP hD hS hA hK hN hX hC pL1 pL1.symm rfl hl.1 rfl (Nat.le_of_ble_eq_true rfl) ⟨rmC (show cells + 1 ≤ 3000 by omega), rmS (show slots + 6 ≤ 12000 by omega)⟩ (dg ddL_law42 7 rfl) (fun H locs hP hD hS => ?_)
  have hP : va_P D vwCl (WL cy q qm ro rd out' outD isv te re de now' spa sna len sig nxt cnt' rng thr kept rea det misv iit mlen at_ merr wro cmd to1 to2 mnow msav ahe bef hst noi own inp) H := hP
  have hD : va_D A (WL cy q qm ro rd out' outD isv te re de now' spa sna len sig nxt cnt' rng thr kept rea det misv iit mlen at_ merr wro cmd to1 to2 mnow msav ahe bef hst noi own inp) := hD
  refine lv_istore (lv' := [(6, .int k), (0, .ref sb), (1, .ref (q 0 0)), (2, .ref (qm 0)), (3, .ref ro), (4, .ref rd), (5, .int i5)]) hx hb (dg ddL_law42 8 rfl) hl (by decide) rfl (fun ls hl => ?_)
  refine lv_aload_n hx hb (dg ddL_law42 9 rfl) rfl (lv_at hl 3 rfl) ?_
  refine crf_vi CX hml (As := []) (rest := []) (c_X5_restore l D cy qm thr kept rea det misv iit mlen at_ merr wro cmd to1 to2 mnow msav ahe bef hst noi own inp  _ e2) lk_RL_270 rfl rfl ⟨(Nat.le_of_ble_eq_true rfl), (Nat.le_of_ble_eq_true rfl)⟩ hP hD hS hA hK hN pL3 pL3.symm 0 rfl rfl rfl hl.1 rfl (Nat.le_of_ble_eq_true rfl) ⟨rmC (show cells + 1 ≤ 3000 by omega), rmS (show slots + 6 ≤ 12000 by omega)⟩ (dg ddL_law42 10 rfl) (fun H locs hP hD hS => ?_)
  have hP : va_P D vwCl (WL cy q qm ro rd out' outD isv te re de now' spa sna len sig nxt cnt' rng k kept' rea det misv iit mlen at_ merr wro cmd to1 to2 mnow' msav ahe bef hst noi own inp) H := hP
  have hD : va_D A (WL cy q qm ro rd out' outD isv te re de now' spa sna len sig nxt cnt' rng k kept' rea det misv iit mlen at_ merr wro cmd to1 to2 mnow' msav ahe bef hst noi own inp) := hD
  refine lv_istore (lv' := [(7, .int b), (6, .int k), (0, .ref sb), (1, .ref (q 0 0)), (2, .ref (qm 0)), (3, .ref ro), (4, .ref rd), (5, .int i5)]) hx hb (dg ddL_law42 11 rfl) hl (by decide) rfl (fun ls hl => ?_)
  refine lv_aload_n hx hb (dg ddL_law42 12 rfl) rfl (lv_at hl 4 rfl) ?_
  refine cro_vi CX hml (As := []) (rest := []) (c_X5_thrown l D cy qm k kept' rea det misv iit mlen at_ merr wro cmd to1 to2 mnow' msav ahe bef hst noi own inp rfl) lk_RL_144 rfl rfl ⟨(Nat.le_of_ble_eq_true rfl), (Nat.le_of_ble_eq_true rfl)⟩ (vaP_l (vaP_perm pL3 hP)) hK hN 0 rfl rfl rfl hl.1 rfl (Nat.le_of_ble_eq_true rfl) ⟨rmC (show cells + 1 ≤ 3000 by omega), rmS (show slots + 6 ≤ 12000 by omega)⟩ (dg ddL_law42 13 rfl) ?_
  refine lv_iload hx hb (dg ddL_law42 14 rfl) (lv_at hl 1 rfl) ?_
  refine lv_icmp_eq (tgt := 2341) hx hb (dg ddL_law42 15 rfl) (by decide) (fun _ => ?_) (fun h => absurd rfl h)
  refine lv_iload hx hb (dg ddL_law42 18 rfl) (lv_at hl 1 rfl) ?_
  refine lv_if_ne (tgt := 2358) hx hb (dg ddL_law42 19 rfl) (by decide) (fun hk => ?_) (fun hk => ?_)
  ·
    refine lv_goto (tgt := 2361) hx hb (dg ddL_law42 29 rfl) (by decide) ?_
    refine W.widen (k := cells + 2) (n := slots + 12) (by omega) (by omega) ?_
    exact kk out' outD isv te re de now' spa sna len sig nxt cnt' rng k kept' rea det misv iit mlen at_ merr wro cmd to1 to2 mnow' msav ahe bef hst noi own inp H locs ls G (lv_sub hl [2, 3, 4, 5, 6, 7] rfl) hP hD hS
  ·
    refine lv_aload_n hx hb (dg ddL_law42 20 rfl) rfl (lv_at hl 5 rfl) ?_
    refine lv_iconst (v := 0) hx hb (dg ddL_law42 21 rfl) (by decide) ?_
    refine va_lald hx hb hK hP 0 5 rfl rfl (i := 0) (inb_in (show inb 0 1 = true by decide)) (dg ddL_law42 22 rfl) ?_
    rw [show out' (0 : Int32).toNatClampNeg = b.toInt64 from e3 hk]
    refine lv_iload hx hb (dg ddL_law42 23 rfl) (lv_at hl 0 rfl) ?_
    refine lv_i2l (v := b.toInt64) hx hb (dg ddL_law42 24 rfl) rfl ?_
    refine W.lcmp hx hb (dg ddL_law42 25 rfl) ?_
    refine lv_if_eq (tgt := 2358) hx hb (dg ddL_law42 26 rfl) (by decide) (fun _ => ?_) (fun h => absurd (lgc0 _) h)
    refine lv_goto (tgt := 2361) hx hb (dg ddL_law42 29 rfl) (by decide) ?_
    refine W.widen (k := cells + 2) (n := slots + 12) (by omega) (by omega) ?_
    exact kk out' outD isv te re de now' spa sna len sig nxt cnt' rng k kept' rea det misv iit mlen at_ merr wro cmd to1 to2 mnow' msav ahe bef hst noi own inp H locs ls G (lv_sub hl [2, 3, 4, 5, 6, 7] rfl) hP hD hS
end BLOCKS
