/-! the law: its loop -/
section LOOP
variable {p : Program} {l : Launch} {e : Env} {s : State} {m : MethodId} {args : Array Value} {below : List Frame} {meth : Method} {c : Code} {H : Heap} {locs : List Loc} {cells slots : Nat} {Q : State → Prop}
variable {ls : Array Slot} {D : va_G} {A : Nat → Prop} {cy : Nat → ClassId} {q : Nat → Nat → Nat} {qm : Nat → Nat} {ro rd sb L : Nat} {xs : Nat → Int32} {out : Nat → Int64} {outD : Nat → UInt64}
variable {isv : Int32} {te : Int32} {re : Int32} {de : Int32} {now : SV} {spa : SV} {sna : SV} {len : Int32} {sig : (Nat → Int32)} {nxt : Int32} {cnt : Int32} {rng : (Nat → SV)}
variable {thr : Int32} {kept : Int32} {rea : Int32} {det : Int32} {misv : Int32} {iit : Int32} {mlen : Int32} {at_ : Int32} {merr : Int32} {wro : Int32} {cmd : Int32} {to1 : Int32} {to2 : Int32} {mnow : (Nat → Int32)} {msav : (Nat → Int32)} {ahe : (Nat → Int32)} {bef : (Nat → Int32)} {hst : (Nat → Nat → Int32)} {noi : (Nat → UInt32)} {own : (Nat → UInt32)} {inp : (Nat → Int32)}
set_option maxHeartbeats 4000000 in
set_option maxRecDepth 100000 in
theorem law_loop (CX : Cx p s m c args cL_law RL) (hml : c.maxLocals = 9) (hK : va_K D vwCl (tyA cy) s) (hN : nst s) (hA : ∀ q, s.heap.size ≤ q → A q) (hX : exF A s s.heap) (hC : ncF s) (hst0 : l.stackTraces = false) (hXs : va_X sb L xs s s.heap) (hbl : sb < s.heap.size) (hbA : ¬ A sb) (hL : L ≤ 1536)
    (kend : ∀ (H : Heap) (locs : List Loc) (ls : Array Slot) (k n : Nat), k ≤ 3000 → n ≤ 12000 → va_S A s.heap H locs → W p l e room_1 s m args below meth c H locs k n Q (F0 m 2367 ls [])) :
    ∀ (n i : Nat) (out : Nat → Int64) (outD : Nat → UInt64) (isv : Int32) (te : Int32) (re : Int32) (de : Int32) (now : SV) (spa : SV) (sna : SV) (len : Int32) (sig : (Nat → Int32)) (nxt : Int32) (cnt : Int32) (rng : (Nat → SV)) (thr : Int32) (kept : Int32) (rea : Int32) (det : Int32) (misv : Int32) (iit : Int32) (mlen : Int32) (at_ : Int32) (merr : Int32) (wro : Int32) (cmd : Int32) (to1 : Int32) (to2 : Int32) (mnow : (Nat → Int32)) (msav : (Nat → Int32)) (ahe : (Nat → Int32)) (bef : (Nat → Int32)) (hst : (Nat → Nat → Int32)) (noi : (Nat → UInt32)) (own : (Nat → UInt32)) (inp : (Nat → Int32)) (H : Heap) (locs : List Loc) (ls : Array Slot), i ≤ 1539 → L ≤ i + n → GG isv te re de now sna len sig nxt cnt rng kept rea det misv iit mlen merr mnow msav hst inp → lv_has ls 9 [(0, .ref sb), (1, .ref (q 0 0)), (2, .ref (qm 0)), (3, .ref ro), (4, .ref rd), (5, .int (nI i))] → va_P D vwCl (WL cy q qm ro rd out outD isv te re de now spa sna len sig nxt cnt rng thr kept rea det misv iit mlen at_ merr wro cmd to1 to2 mnow msav ahe bef hst noi own inp) H → va_D A (WL cy q qm ro rd out outD isv te re de now spa sna len sig nxt cnt rng thr kept rea det misv iit mlen at_ merr wro cmd to1 to2 mnow msav ahe bef hst noi own inp) → va_S A s.heap H locs → W p l e room_1 s m args below meth c H locs (400 + i) (4000 + 4 * i) Q (F0 m 28 ls []) := by
  have hx := CX.1
  have hb := CX.2.1
  have sub3 : (Int32.ofNat L - 3).toInt = (L : Int) - 3 := pk_sub_toInt (by omega) (by decide)
  intro n
  induction n with
  | zero =>
    intro i out outD isv te re de now spa sna len sig nxt cnt rng thr kept rea det misv iit mlen at_ merr wro cmd to1 to2 mnow msav ahe bef hst noi own inp H locs ls hi hLi G hl hP hD hS
    refine lv_iload hx hb (dg ddL_law0 16 rfl) (lv_at hl 5 rfl) ?_
    refine lv_aload_n hx hb (dg ddL_law0 17 rfl) rfl (lv_at hl 0 rfl) ?_
    refine va_slen hx hb hXs hbl hbA hS (dg ddL_law0 18 rfl) ?_
    refine lv_iconst (v := 3) hx hb (dg ddL_law0 19 rfl) (by decide) ?_
    refine lv_isub hx hb (dg ddL_law0 20 rfl) ?_
    refine lv_icmp_gt (tgt := 2367) hx hb (dg ddL_law0 21 rfl) (by decide) (fun h1 => ?_) (fun h1 => ?_)
    · exact kend H locs ls _ _ (by omega) (by omega) hS
    · exfalso
      rw [Int32.lt_iff_toInt_lt, sub3, nI_toInt (by omega)] at h1
      omega
  | succ n ih =>
    intro i out outD isv te re de now spa sna len sig nxt cnt rng thr kept rea det misv iit mlen at_ merr wro cmd to1 to2 mnow msav ahe bef hst noi own inp H locs ls hi hLi G hl hP hD hS
    refine lv_iload hx hb (dg ddL_law0 16 rfl) (lv_at hl 5 rfl) ?_
    refine lv_aload_n hx hb (dg ddL_law0 17 rfl) rfl (lv_at hl 0 rfl) ?_
    refine va_slen hx hb hXs hbl hbA hS (dg ddL_law0 18 rfl) ?_
    refine lv_iconst (v := 3) hx hb (dg ddL_law0 19 rfl) (by decide) ?_
    refine lv_isub hx hb (dg ddL_law0 20 rfl) ?_
    refine lv_icmp_gt (tgt := 2367) hx hb (dg ddL_law0 21 rfl) (by decide) (fun h1 => ?_) (fun h1 => ?_)
    · exact kend H locs ls _ _ (by omega) (by omega) hS
    rw [Int32.lt_iff_toInt_lt, sub3, nI_toInt (by omega)] at h1
    have hi3 : i + 2 < L := by omega
    have hi0 : vp_in (nI i) L := inb_in (inbN (by omega) (by omega))
    have hi1 : vp_in (nI i + 1) L := by
      rw [show nI i + 1 = nI (i + 1) from nI_add i 1]
      exact inb_in (inbN (by omega) (by omega))
    have hi2 : vp_in (nI i + 2) L := by
      rw [show nI i + 2 = nI (i + 2) from nI_add i 2]
      exact inb_in (inbN (by omega) (by omega))
    have hcs : 400 + i + 2 ≤ 3000 ∧ 4000 + 4 * i + 12 ≤ 12000 := by omega
    have kk : Go p l e s m args below meth c Q D A cy q qm ro rd sb (nI i) (400 + i) (4000 + 4 * i) := by
      intro out outD isv te re de now spa sna len sig nxt cnt rng thr kept rea det misv iit mlen at_ merr wro cmd to1 to2 mnow msav ahe bef hst noi own inp H locs ls G hl hP hD hS
      refine lv_iinc (v := nI (i + 3)) (lv' := [(5, .int (nI (i + 3))), (0, .ref sb), (1, .ref (q 0 0)), (2, .ref (qm 0)), (3, .ref ro), (4, .ref rd)]) hx hb (dg ddL_law42 30 rfl) hl (k := 5) rfl (by rw [← nI_add i 3]; exact congrArg (HAdd.hAdd (nI i)) (by decide)) (by decide) rfl (fun ls hl => ?_)
      refine lv_goto (tgt := 28) hx hb (dg ddL_law42 31 rfl) (by decide) ?_
      refine W.widen (k := 400 + (i + 3)) (n := 4000 + 4 * (i + 3)) (by omega) (by omega) ?_
      exact ih (i + 3) out outD isv te re de now spa sna len sig nxt cnt rng thr kept rea det misv iit mlen at_ merr wro cmd to1 to2 mnow msav ahe bef hst noi own inp H locs ls (by omega) (by omega) G (lv_sub hl [1, 2, 3, 4, 5, 0] rfl) hP hD hS
    refine lv_aload_n hx hb (dg ddL_law0 22 rfl) rfl (lv_at hl 0 rfl) ?_
    refine lv_iload hx hb (dg ddL_law0 23 rfl) (lv_at hl 5 rfl) ?_
    refine va_sld hx hb hXs hbl hbA hS hi0 (dg ddL_law0 24 rfl) ?_
    refine lv_bipush (v := 63) hx hb (dg ddL_law0 25 rfl) (by decide) ?_
    refine lv_iand hx hb (dg ddL_law0 26 rfl) ?_
    generalize xs (nI i).toNatClampNeg &&& 63 = v
    by_cases h0 : v = 0
    · exact lv_tableIn (off := 172) (tgt := 216) hx hb (dg ddL_law0 27 rfl) (by rw [h0]; decide) (by rw [h0]; decide) (by rw [h0]; rfl) (by decide) (b_crowd CX hml hK hN hA hX hC hst0 hXs hbl hbA hi1 hi2 G hl hP hD hS hcs kk)
    by_cases h1 : v = 1
    · exact lv_tableIn (off := 228) (tgt := 272) hx hb (dg ddL_law0 27 rfl) (by rw [h1]; decide) (by rw [h1]; decide) (by rw [h1]; rfl) (by decide) (b_limit CX hml hK hN hA hX hC hst0 hXs hbl hbA hi1 hi2 G hl hP hD hS hcs kk)
    by_cases h2 : v = 2
    · exact lv_tableIn (off := 296) (tgt := 340) hx hb (dg ddL_law0 27 rfl) (by rw [h2]; decide) (by rw [h2]; decide) (by rw [h2]; rfl) (by decide) (b_busker CX hml hK hN hA hX hC hst0 hXs hbl hbA hi1 hi2 G hl hP hD hS hcs kk)
    by_cases h3 : v = 3
    · exact lv_tableIn (off := 364) (tgt := 408) hx hb (dg ddL_law0 27 rfl) (by rw [h3]; decide) (by rw [h3]; decide) (by rw [h3]; rfl) (by decide) (b_buskerOf CX hml hK hN hA hX hC hst0 hXs hbl hbA hi1 hi2 G hl hP hD hS hcs kk)
    by_cases h4 : v = 4
    · exact lv_tableIn (off := 432) (tgt := 476) hx hb (dg ddL_law0 27 rfl) (by rw [h4]; decide) (by rw [h4]; decide) (by rw [h4]; rfl) (by decide) (b_hat CX hml hK hN hA hX hC hst0 hXs hbl hbA hi1 hi2 G hl hP hD hS hcs kk)
    by_cases h5 : v = 5
    · exact lv_tableIn (off := 510) (tgt := 554) hx hb (dg ddL_law0 27 rfl) (by rw [h5]; decide) (by rw [h5]; decide) (by rw [h5]; rfl) (by decide) (b_wear CX hml hK hN hA hX hC hst0 hXs hbl hbA hi1 hi2 G hl hP hD hS hcs kk)
    by_cases h6 : v = 6
    · exact lv_tableIn (off := 566) (tgt := 610) hx hb (dg ddL_law0 27 rfl) (by rw [h6]; decide) (by rw [h6]; decide) (by rw [h6]; rfl) (by decide) (b_pitchOf CX hml hK hN hA hX hC hst0 hXs hbl hbA hi1 hi2 G hl hP hD hS hcs kk)
    by_cases h7 : v = 7
    · exact lv_tableIn (off := 634) (tgt := 678) hx hb (dg ddL_law0 27 rfl) (by rw [h7]; decide) (by rw [h7]; decide) (by rw [h7]; rfl) (by decide) (b_join CX hml hK hN hA hX hC hst0 hXs hbl hbA hi1 hi2 G hl hP hD hS hcs kk)
    by_cases h8 : v = 8
    · exact lv_tableIn (off := 690) (tgt := 734) hx hb (dg ddL_law0 27 rfl) (by rw [h8]; decide) (by rw [h8]; decide) (by rw [h8]; rfl) (by decide) (b_draw CX hml hK hN hA hX hC hst0 hXs hbl hbA hi1 hi2 G hl hP hD hS hcs kk)
    by_cases h9 : v = 9
    · exact lv_tableIn (off := 758) (tgt := 802) hx hb (dg ddL_law0 27 rfl) (by rw [h9]; decide) (by rw [h9]; decide) (by rw [h9]; rfl) (by decide) (b_waiting CX hml hK hN hA hX hC hst0 hXs hbl hbA hi1 hi2 G hl hP hD hS hcs kk)
    by_cases h10 : v = 10
    · exact lv_tableIn (off := 814) (tgt := 858) hx hb (dg ddL_law0 27 rfl) (by rw [h10]; decide) (by rw [h10]; decide) (by rw [h10]; rfl) (by decide) (b_leave CX hml hK hN hA hX hC hst0 hXs hbl hbA hi1 hi2 G hl hP hD hS hcs kk)
    by_cases h11 : v = 11
    · exact lv_tableIn (off := 870) (tgt := 914) hx hb (dg ddL_law0 27 rfl) (by rw [h11]; decide) (by rw [h11]; decide) (by rw [h11]; rfl) (by decide) (b_swap CX hml hK hN hA hX hC hst0 hXs hbl hbA hi1 hi2 G hl hP hD hS hcs kk)
    by_cases h12 : v = 12
    · exact lv_tableIn (off := 938) (tgt := 982) hx hb (dg ddL_law0 27 rfl) (by rw [h12]; decide) (by rw [h12]; decide) (by rw [h12]; rfl) (by decide) (b_noise CX hml hK hN hA hX hC hst0 hXs hbl hbA hi1 hi2 G hl hP hD hS hcs kk)
    by_cases h13 : v = 13
    · exact lv_tableIn (off := 994) (tgt := 1038) hx hb (dg ddL_law0 27 rfl) (by rw [h13]; decide) (by rw [h13]; decide) (by rw [h13]; rfl) (by decide) (b_noiseAgain CX hml hK hN hA hX hC hst0 hXs hbl hbA hi1 hi2 G hl hP hD hS hcs kk)
    by_cases h14 : v = 14
    · exact lv_tableIn (off := 1050) (tgt := 1094) hx hb (dg ddL_law0 27 rfl) (by rw [h14]; decide) (by rw [h14]; decide) (by rw [h14]; rfl) (by decide) (b_below CX hml hK hN hA hX hC hst0 hXs hbl hbA hi1 hi2 G hl hP hD hS hcs kk)
    by_cases h15 : v = 15
    · exact lv_tableIn (off := 1128) (tgt := 1172) hx hb (dg ddL_law0 27 rfl) (by rw [h15]; decide) (by rw [h15]; decide) (by rw [h15]; rfl) (by decide) (b_noiseWith CX hml hK hN hA hX hC hst0 hXs hbl hbA hi1 hi2 G hl hP hD hS hcs kk)
    by_cases h16 : v = 16
    · exact lv_tableIn (off := 1196) (tgt := 1240) hx hb (dg ddL_law0 27 rfl) (by rw [h16]; decide) (by rw [h16]; decide) (by rw [h16]; rfl) (by decide) (b_quietest CX hml hK hN hA hX hC hst0 hXs hbl hbA hi1 hi2 G hl hP hD hS hcs kk)
    by_cases h17 : v = 17
    · exact lv_tableIn (off := 1252) (tgt := 1296) hx hb (dg ddL_law0 27 rfl) (by rw [h17]; decide) (by rw [h17]; decide) (by rw [h17]; rfl) (by decide) (b_loudest CX hml hK hN hA hX hC hst0 hXs hbl hbA hi1 hi2 G hl hP hD hS hcs kk)
    by_cases h18 : v = 18
    · exact lv_tableIn (off := 1265) (tgt := 1309) hx hb (dg ddL_law0 27 rfl) (by rw [h18]; decide) (by rw [h18]; decide) (by rw [h18]; rfl) (by decide) (b_strings CX hml hK hN hA hX hC hst0 hXs hbl hbA hi1 hi2 G hl hP hD hS hcs kk)
    by_cases h19 : v = 19
    · exact lv_tableIn (off := 1321) (tgt := 1365) hx hb (dg ddL_law0 27 rfl) (by rw [h19]; decide) (by rw [h19]; decide) (by rw [h19]; rfl) (by decide) (b_snapsIn CX hml hK hN hA hX hC hst0 hXs hbl hbA hi1 hi2 G hl hP hD hS hcs kk)
    by_cases h20 : v = 20
    · exact lv_tableIn (off := 1377) (tgt := 1421) hx hb (dg ddL_law0 27 rfl) (by rw [h20]; decide) (by rw [h20]; decide) (by rw [h20]; rfl) (by decide) (b_answer CX hml hK hN hA hX hC hst0 hXs hbl hbA hi1 hi2 G hl hP hD hS hcs kk)
    by_cases h21 : v = 21
    · exact lv_tableIn (off := 1433) (tgt := 1477) hx hb (dg ddL_law0 27 rfl) (by rw [h21]; decide) (by rw [h21]; decide) (by rw [h21]; rfl) (by decide) (b_rack CX hml hK hN hA hX hC hst0 hXs hbl hbA hi1 hi2 G hl hP hD hS hcs kk)
    by_cases h22 : v = 22
    · exact lv_tableIn (off := 1501) (tgt := 1545) hx hb (dg ddL_law0 27 rfl) (by rw [h22]; decide) (by rw [h22]; decide) (by rw [h22]; rfl) (by decide) (b_unrack CX hml hK hN hA hX hC hst0 hXs hbl hbA hi1 hi2 G hl hP hD hS hcs kk)
    by_cases h23 : v = 23
    · exact lv_tableIn (off := 1557) (tgt := 1601) hx hb (dg ddL_law0 27 rfl) (by rw [h23]; decide) (by rw [h23]; decide) (by rw [h23]; rfl) (by decide) (b_onRack CX hml hK hN hA hX hC hst0 hXs hbl hbA hi1 hi2 G hl hP hD hS hcs kk)
    by_cases h24 : v = 24
    · exact lv_tableIn (off := 1625) (tgt := 1669) hx hb (dg ddL_law0 27 rfl) (by rw [h24]; decide) (by rw [h24]; decide) (by rw [h24]; rfl) (by decide) (b_ranked CX hml hK hN hA hX hC hst0 hXs hbl hbA hi1 hi2 G hl hP hD hS hcs kk)
    by_cases h25 : v = 25
    · exact lv_tableIn (off := 1681) (tgt := 1725) hx hb (dg ddL_law0 27 rfl) (by rw [h25]; decide) (by rw [h25]; decide) (by rw [h25]; rfl) (by decide) (b_pass CX hml hK hN hA hX hC hst0 hXs hbl hbA hi1 hi2 G hl hP hD hS hcs kk)
    by_cases h26 : v = 26
    · exact lv_tableIn (off := 1737) (tgt := 1781) hx hb (dg ddL_law0 27 rfl) (by rw [h26]; decide) (by rw [h26]; decide) (by rw [h26]; rfl) (by decide) (b_hatIn CX hml hK hN hA hX hC hst0 hXs hbl hbA hi1 hi2 G hl hP hD hS hcs kk)
    by_cases h27 : v = 27
    · exact lv_tableIn (off := 1805) (tgt := 1849) hx hb (dg ddL_law0 27 rfl) (by rw [h27]; decide) (by rw [h27]; decide) (by rw [h27]; rfl) (by decide) (b_playingIn CX hml hK hN hA hX hC hst0 hXs hbl hbA hi1 hi2 G hl hP hD hS hcs kk)
    by_cases h28 : v = 28
    · exact lv_tableIn (off := 1861) (tgt := 1905) hx hb (dg ddL_law0 27 rfl) (by rw [h28]; decide) (by rw [h28]; decide) (by rw [h28]; rfl) (by decide) (b_sign CX hml hK hN hA hX hC hst0 hXs hbl hbA hi1 hi2 G hl hP hD hS hcs kk)
    by_cases h29 : v = 29
    · exact lv_tableIn (off := 1917) (tgt := 1961) hx hb (dg ddL_law0 27 rfl) (by rw [h29]; decide) (by rw [h29]; decide) (by rw [h29]; rfl) (by decide) (b_append CX hml hK hN hA hX hC hst0 hXs hbl hbA hi1 hi2 G hl hP hD hS hcs kk)
    by_cases h30 : v = 30
    · exact lv_tableIn (off := 1975) (tgt := 2019) hx hb (dg ddL_law0 27 rfl) (by rw [h30]; decide) (by rw [h30]; decide) (by rw [h30]; rfl) (by decide) (b_read CX hml hK hN hA hX hC hst0 hXs hbl hbA hi1 hi2 G hl hP hD hS hcs kk)
    by_cases h31 : v = 31
    · exact lv_tableIn (off := 2019) (tgt := 2063) hx hb (dg ddL_law0 27 rfl) (by rw [h31]; decide) (by rw [h31]; decide) (by rw [h31]; rfl) (by decide) (b_errorPosition CX hml hK hN hA hX hC hst0 hXs hbl hbA hi1 hi2 G hl hP hD hS hcs kk)
    by_cases h32 : v = 32
    · exact lv_tableIn (off := 2032) (tgt := 2076) hx hb (dg ddL_law0 27 rfl) (by rw [h32]; decide) (by rw [h32]; decide) (by rw [h32]; rfl) (by decide) (b_refusal CX hml hK hN hA hX hC hst0 hXs hbl hbA hi1 hi2 G hl hP hD hS hcs kk)
    by_cases h33 : v = 33
    · exact lv_tableIn (off := 2104) (tgt := 2148) hx hb (dg ddL_law0 27 rfl) (by rw [h33]; decide) (by rw [h33]; decide) (by rw [h33]; rfl) (by decide) (b_account CX hml hK hN hA hX hC hst0 hXs hbl hbA hi1 hi2 G hl hP hD hS hcs kk)
    by_cases h34 : v = 34
    · exact lv_tableIn (off := 2160) (tgt := 2204) hx hb (dg ddL_law0 27 rfl) (by rw [h34]; decide) (by rw [h34]; decide) (by rw [h34]; rfl) (by decide) (b_isWell CX hml hK hN hA hX hC hst0 hXs hbl hbA hi1 hi2 G hl hP hD hS hcs kk)
    by_cases h35 : v = 35
    · exact lv_tableIn (off := 2173) (tgt := 2217) hx hb (dg ddL_law0 27 rfl) (by rw [h35]; decide) (by rw [h35]; decide) (by rw [h35]; rfl) (by decide) (b_meanBits CX hml hK hN hA hX hC hst0 hXs hbl hbA hi1 hi2 G hl hP hD hS hcs kk)
    by_cases h36 : v = 36
    · exact lv_tableIn (off := 2216) (tgt := 2260) hx hb (dg ddL_law0 27 rfl) (by rw [h36]; decide) (by rw [h36]; decide) (by rw [h36]; rfl) (by decide) (b_undo CX hml hK hN hA hX hC hst0 hXs hbl hbA hi1 hi2 G hl hP hD hS hcs kk)
    by_cases h37 : v = 37
    · exact lv_tableIn (off := 2260) (tgt := 2304) hx hb (dg ddL_law0 27 rfl) (by rw [h37]; decide) (by rw [h37]; decide) (by rw [h37]; rfl) (by decide) (b_save CX hml hK hN hA hX hC hst0 hXs hbl hbA hi1 hi2 G hl hP hD hS hcs kk)
    by_cases h38 : v = 38
    · exact lv_tableIn (off := 2273) (tgt := 2317) hx hb (dg ddL_law0 27 rfl) (by rw [h38]; decide) (by rw [h38]; decide) (by rw [h38]; rfl) (by decide) (b_restore CX hml hK hN hA hX hC hst0 hXs hbl hbA hi1 hi2 G hl hP hD hS hcs kk)
    have ho : v.toInt < 0 ∨ 38 < v.toInt := by
      have e0 := ne_ti h0 (z := 0) (by decide)
      have e1 := ne_ti h1 (z := 1) (by decide)
      have e2 := ne_ti h2 (z := 2) (by decide)
      have e3 := ne_ti h3 (z := 3) (by decide)
      have e4 := ne_ti h4 (z := 4) (by decide)
      have e5 := ne_ti h5 (z := 5) (by decide)
      have e6 := ne_ti h6 (z := 6) (by decide)
      have e7 := ne_ti h7 (z := 7) (by decide)
      have e8 := ne_ti h8 (z := 8) (by decide)
      have e9 := ne_ti h9 (z := 9) (by decide)
      have e10 := ne_ti h10 (z := 10) (by decide)
      have e11 := ne_ti h11 (z := 11) (by decide)
      have e12 := ne_ti h12 (z := 12) (by decide)
      have e13 := ne_ti h13 (z := 13) (by decide)
      have e14 := ne_ti h14 (z := 14) (by decide)
      have e15 := ne_ti h15 (z := 15) (by decide)
      have e16 := ne_ti h16 (z := 16) (by decide)
      have e17 := ne_ti h17 (z := 17) (by decide)
      have e18 := ne_ti h18 (z := 18) (by decide)
      have e19 := ne_ti h19 (z := 19) (by decide)
      have e20 := ne_ti h20 (z := 20) (by decide)
      have e21 := ne_ti h21 (z := 21) (by decide)
      have e22 := ne_ti h22 (z := 22) (by decide)
      have e23 := ne_ti h23 (z := 23) (by decide)
      have e24 := ne_ti h24 (z := 24) (by decide)
      have e25 := ne_ti h25 (z := 25) (by decide)
      have e26 := ne_ti h26 (z := 26) (by decide)
      have e27 := ne_ti h27 (z := 27) (by decide)
      have e28 := ne_ti h28 (z := 28) (by decide)
      have e29 := ne_ti h29 (z := 29) (by decide)
      have e30 := ne_ti h30 (z := 30) (by decide)
      have e31 := ne_ti h31 (z := 31) (by decide)
      have e32 := ne_ti h32 (z := 32) (by decide)
      have e33 := ne_ti h33 (z := 33) (by decide)
      have e34 := ne_ti h34 (z := 34) (by decide)
      have e35 := ne_ti h35 (z := 35) (by decide)
      have e36 := ne_ti h36 (z := 36) (by decide)
      have e37 := ne_ti h37 (z := 37) (by decide)
      have e38 := ne_ti h38 (z := 38) (by decide)
      omega
    refine lv_tableOut (tgt := 2361) hx hb (dg ddL_law0 27 rfl) ho (by decide) ?_
    refine W.widen (k := 400 + i + 2) (n := 4000 + 4 * i + 12) (by omega) (by omega) ?_
    exact kk out outD isv te re de now spa sna len sig nxt cnt rng thr kept rea det misv iit mlen at_ merr wro cmd to1 to2 mnow msav ahe bef hst noi own inp H locs ls G hl hP hD hS
end LOOP
