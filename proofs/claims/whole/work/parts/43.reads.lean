/-! the law's calls that read, on both sides -/
theorem d1_0 : ((1 : Int32) = 0) = False := by decide
theorem d2_0 : ((2 : Int32) = 0) = False := by decide
theorem d2_1 : ((2 : Int32) = 1) = False := by decide
theorem d3_0 : ((3 : Int32) = 0) = False := by decide
theorem d3_1 : ((3 : Int32) = 1) = False := by decide
theorem d3_2 : ((3 : Int32) = 2) = False := by decide
theorem d4_0 : ((4 : Int32) = 0) = False := by decide
theorem d4_1 : ((4 : Int32) = 1) = False := by decide
theorem d4_2 : ((4 : Int32) = 2) = False := by decide
theorem d4_3 : ((4 : Int32) = 3) = False := by decide
theorem d5_0 : ((5 : Int32) = 0) = False := by decide
theorem d5_1 : ((5 : Int32) = 1) = False := by decide
theorem d5_2 : ((5 : Int32) = 2) = False := by decide
theorem d5_3 : ((5 : Int32) = 3) = False := by decide
theorem d5_4 : ((5 : Int32) = 4) = False := by decide
theorem d6_0 : ((6 : Int32) = 0) = False := by decide
theorem d6_1 : ((6 : Int32) = 1) = False := by decide
theorem d6_2 : ((6 : Int32) = 2) = False := by decide
theorem d6_3 : ((6 : Int32) = 3) = False := by decide
theorem d6_4 : ((6 : Int32) = 4) = False := by decide
theorem d6_5 : ((6 : Int32) = 5) = False := by decide
theorem d7_0 : ((7 : Int32) = 0) = False := by decide
theorem d7_1 : ((7 : Int32) = 1) = False := by decide
theorem d7_2 : ((7 : Int32) = 2) = False := by decide
theorem d7_3 : ((7 : Int32) = 3) = False := by decide
theorem d7_4 : ((7 : Int32) = 4) = False := by decide
theorem d7_5 : ((7 : Int32) = 5) = False := by decide
theorem d7_6 : ((7 : Int32) = 6) = False := by decide
theorem d8_0 : ((8 : Int32) = 0) = False := by decide
theorem d8_1 : ((8 : Int32) = 1) = False := by decide
theorem d8_2 : ((8 : Int32) = 2) = False := by decide
theorem d8_3 : ((8 : Int32) = 3) = False := by decide
theorem d8_4 : ((8 : Int32) = 4) = False := by decide
theorem d8_5 : ((8 : Int32) = 5) = False := by decide
theorem d8_6 : ((8 : Int32) = 6) = False := by decide
theorem d8_7 : ((8 : Int32) = 7) = False := by decide
theorem d9_0 : ((9 : Int32) = 0) = False := by decide
theorem d9_1 : ((9 : Int32) = 1) = False := by decide
theorem d9_2 : ((9 : Int32) = 2) = False := by decide
theorem d9_3 : ((9 : Int32) = 3) = False := by decide
theorem d9_4 : ((9 : Int32) = 4) = False := by decide
theorem d9_5 : ((9 : Int32) = 5) = False := by decide
theorem d9_6 : ((9 : Int32) = 6) = False := by decide
theorem d9_7 : ((9 : Int32) = 7) = False := by decide
theorem d9_8 : ((9 : Int32) = 8) = False := by decide
theorem d10_0 : ((10 : Int32) = 0) = False := by decide
theorem d10_1 : ((10 : Int32) = 1) = False := by decide
theorem d10_2 : ((10 : Int32) = 2) = False := by decide
theorem d10_3 : ((10 : Int32) = 3) = False := by decide
theorem d10_4 : ((10 : Int32) = 4) = False := by decide
theorem d10_5 : ((10 : Int32) = 5) = False := by decide
theorem d10_6 : ((10 : Int32) = 6) = False := by decide
theorem d10_7 : ((10 : Int32) = 7) = False := by decide
theorem d10_8 : ((10 : Int32) = 8) = False := by decide
theorem d10_9 : ((10 : Int32) = 9) = False := by decide
theorem d11_0 : ((11 : Int32) = 0) = False := by decide
theorem d11_1 : ((11 : Int32) = 1) = False := by decide
theorem d11_2 : ((11 : Int32) = 2) = False := by decide
theorem d11_3 : ((11 : Int32) = 3) = False := by decide
theorem d11_4 : ((11 : Int32) = 4) = False := by decide
theorem d11_5 : ((11 : Int32) = 5) = False := by decide
theorem d11_6 : ((11 : Int32) = 6) = False := by decide
theorem d11_7 : ((11 : Int32) = 7) = False := by decide
theorem d11_8 : ((11 : Int32) = 8) = False := by decide
theorem d11_9 : ((11 : Int32) = 9) = False := by decide
theorem d11_10 : ((11 : Int32) = 10) = False := by decide
theorem d12_0 : ((12 : Int32) = 0) = False := by decide
theorem d12_1 : ((12 : Int32) = 1) = False := by decide
theorem d12_2 : ((12 : Int32) = 2) = False := by decide
theorem d12_3 : ((12 : Int32) = 3) = False := by decide
theorem d12_4 : ((12 : Int32) = 4) = False := by decide
theorem d12_5 : ((12 : Int32) = 5) = False := by decide
theorem d12_6 : ((12 : Int32) = 6) = False := by decide
theorem d12_7 : ((12 : Int32) = 7) = False := by decide
theorem d12_8 : ((12 : Int32) = 8) = False := by decide
theorem d12_9 : ((12 : Int32) = 9) = False := by decide
theorem d12_10 : ((12 : Int32) = 10) = False := by decide
theorem d12_11 : ((12 : Int32) = 11) = False := by decide
theorem d13_0 : ((13 : Int32) = 0) = False := by decide
theorem d13_1 : ((13 : Int32) = 1) = False := by decide
theorem d13_2 : ((13 : Int32) = 2) = False := by decide
theorem d13_3 : ((13 : Int32) = 3) = False := by decide
theorem d13_4 : ((13 : Int32) = 4) = False := by decide
theorem d13_5 : ((13 : Int32) = 5) = False := by decide
theorem d13_6 : ((13 : Int32) = 6) = False := by decide
theorem d13_7 : ((13 : Int32) = 7) = False := by decide
theorem d13_8 : ((13 : Int32) = 8) = False := by decide
theorem d13_9 : ((13 : Int32) = 9) = False := by decide
theorem d13_10 : ((13 : Int32) = 10) = False := by decide
theorem d13_11 : ((13 : Int32) = 11) = False := by decide
theorem d13_12 : ((13 : Int32) = 12) = False := by decide
theorem d14_0 : ((14 : Int32) = 0) = False := by decide
theorem d14_1 : ((14 : Int32) = 1) = False := by decide
theorem d14_2 : ((14 : Int32) = 2) = False := by decide
theorem d14_3 : ((14 : Int32) = 3) = False := by decide
theorem d14_4 : ((14 : Int32) = 4) = False := by decide
theorem d14_5 : ((14 : Int32) = 5) = False := by decide
theorem d14_6 : ((14 : Int32) = 6) = False := by decide
theorem d14_7 : ((14 : Int32) = 7) = False := by decide
theorem d14_8 : ((14 : Int32) = 8) = False := by decide
theorem d14_9 : ((14 : Int32) = 9) = False := by decide
theorem d14_10 : ((14 : Int32) = 10) = False := by decide
theorem d14_11 : ((14 : Int32) = 11) = False := by decide
theorem d14_12 : ((14 : Int32) = 12) = False := by decide
theorem d14_13 : ((14 : Int32) = 13) = False := by decide
section READS
variable {isv te re de : Int32} {now sna : SV} {len : Int32} {sig : Nat → Int32} {nxt cnt : Int32} {rng : Nat → SV} {kept rea det misv iit mlen merr : Int32} {mnow msav : Nat → Int32} {hst : Nat → Nat → Int32} {inp : Nat → Int32}
theorem S_buskerOf (G : GG isv te re de now sna len sig nxt cnt rng kept rea det misv iit mlen merr mnow msav hst inp) (out : Nat → Int64) (thr : Int32) (a1 a2 : Int32) : ∃ k out' b, f_L_buskerOf now out a1 a2 = some (k, out') ∧ f_X5_buskerOf thr mnow a1 a2 = some (b, k) ∧ (k = 0 → out' 0 = b.toInt64) := by
  obtain ⟨hisv, rfl, rfl, rfl, rfl, ⟨n, w, ln, hR⟩, hsv, hin, hH⟩ := G
  obtain ⟨hA, h0, hc, hP, hL, hC, hS, hB, hK, hF, hW, hI, hG, hE, hN, hD⟩ := id hR
  have hn8 := hA.2.1
  have hbx : g_buskers now = nI n := hA.1
  rcases busk_cases hn8 hA.2.2 a1 with ⟨c1, c2⟩ | ⟨b, hb, rfl, c1, c2⟩
  · refine ⟨1, out, 0, ?_, ?_, fun e => absurd e (by decide)⟩
    · simp only [f_L_buskerOf, f_X4_buskerOf, f_X4_hindranceOfBuskerNumber, hbx, c1, ob_n, og_n, fails0n, fails1n, refuse0n, refuse1n, os_ln, os_rn, tf0, tf1, tf2, tf3, i10, i20, i30, im0, e12, e13, e14, e15, e16, e21, e23, e24, e31, e32, e41, e42, e51, e61, if_true, if_false, eq_self, tc0]
    · simp only [f_X5_buskerOf, f_X5_buskerOf_c15, c2, ob_n, og_n, fails0n, fails1n, refuse0n, refuse1n, os_ln, os_rn, tf0, tf1, tf2, tf3, i10, i20, i30, im0, e12, e13, e14, e15, e16, e21, e23, e24, e31, e32, e41, e42, e51, e61, if_true, if_false, eq_self, tc0]
  · have hb8 : b < 8 := by omega
    have hib := inbN (k := b) (N := 8) hb8 (by decide)
    have hcb := clN (k := b) (by omega)
    have hpl := place_eq hn8 hN hb8
    obtain ⟨a0, a1, a2', a3, a4, a5, a6, a7⟩ := hB b hb
    rcases two_cases 0 6 (l := 0) (m := 6) rfl rfl (by decide) (by decide) a2 with ⟨q1, q2⟩ | ⟨q0, q1, q2⟩ | ⟨c, -, hc1, rfl, -, -, q2⟩
    · have y0 : ¬ a2 = 0 := fun e => by rw [e] at q1; exact absurd q1 (by decide)
      have y1 : ¬ a2 = 1 := fun e => by rw [e] at q1; exact absurd q1 (by decide)
      have y2 : ¬ a2 = 2 := fun e => by rw [e] at q1; exact absurd q1 (by decide)
      have y3 : ¬ a2 = 3 := fun e => by rw [e] at q1; exact absurd q1 (by decide)
      have y4 : ¬ a2 = 4 := fun e => by rw [e] at q1; exact absurd q1 (by decide)
      have y5 : ¬ a2 = 5 := fun e => by rw [e] at q1; exact absurd q1 (by decide)
      have y6 : ¬ a2 = 6 := fun e => by rw [e] at q1; exact absurd q1 (by decide)
      refine ⟨2, out, 0, ?_, ?_, fun e => absurd e (by decide)⟩
      · simp only [f_L_buskerOf, f_X4_buskerOf, f_X4_hindranceOfBuskerNumber, hbx, c1, y0, y1, y2, y3, y4, y5, y6, ob_n, og_n, fails0n, fails1n, refuse0n, refuse1n, os_ln, os_rn, tf0, tf1, tf2, tf3, i10, i20, i30, im0, e12, e13, e14, e15, e16, e21, e23, e24, e31, e32, e41, e42, e51, e61, if_true, if_false, eq_self, tc0]
      · simp only [f_X5_buskerOf, f_X5_buskerOf_c15, f_X5_buskerOf_c38, c2, q2, ob_n, og_n, fails0n, fails1n, refuse0n, refuse1n, os_ln, os_rn, tf0, tf1, tf2, tf3, i10, i20, i30, im0, e12, e13, e14, e15, e16, e21, e23, e24, e31, e32, e41, e42, e51, e61, if_true, if_false, eq_self, tc0]
    · have y0 : ¬ a2 = 0 := fun e => by rw [e] at q1; exact q1 (by decide)
      have y1 : ¬ a2 = 1 := fun e => by rw [e] at q1; exact q1 (by decide)
      have y2 : ¬ a2 = 2 := fun e => by rw [e] at q1; exact q1 (by decide)
      have y3 : ¬ a2 = 3 := fun e => by rw [e] at q1; exact q1 (by decide)
      have y4 : ¬ a2 = 4 := fun e => by rw [e] at q1; exact q1 (by decide)
      have y5 : ¬ a2 = 5 := fun e => by rw [e] at q1; exact q1 (by decide)
      have y6 : ¬ a2 = 6 := fun e => by rw [e] at q1; exact q1 (by decide)
      refine ⟨2, out, 0, ?_, ?_, fun e => absurd e (by decide)⟩
      · simp only [f_L_buskerOf, f_X4_buskerOf, f_X4_hindranceOfBuskerNumber, hbx, c1, y0, y1, y2, y3, y4, y5, y6, ob_n, og_n, fails0n, fails1n, refuse0n, refuse1n, os_ln, os_rn, tf0, tf1, tf2, tf3, i10, i20, i30, im0, e12, e13, e14, e15, e16, e21, e23, e24, e31, e32, e41, e42, e51, e61, if_true, if_false, eq_self, tc0]
      · simp only [f_X5_buskerOf, f_X5_buskerOf_c15, f_X5_buskerOf_c38, c2, q2, ob_n, og_n, fails0n, fails1n, refuse0n, refuse1n, os_ln, os_rn, tf0, tf1, tf2, tf3, i10, i20, i30, im0, e12, e13, e14, e15, e16, e21, e23, e24, e31, e32, e41, e42, e51, e61, if_true, if_false, eq_self, tc0]
    · rcases (show c = 0 ∨ c = 1 ∨ c = 2 ∨ c = 3 ∨ c = 4 ∨ c = 5 ∨ c = 6 by omega) with rfl | rfl | rfl | rfl | rfl | rfl | rfl
      · refine ⟨0, vp_updL out 0 (g_kin now b).toInt64, g_kin now b, ?_, ?_, fun _ => updL0 _ _⟩
        · show f_L_buskerOf now out (nI b) 0 = _
          simp only [f_L_buskerOf, f_X4_buskerOf, f_X4_hindranceOfBuskerNumber, hbx, c1, hib, hcb, ob_n, og_n, fails0n, fails1n, refuse0n, refuse1n, os_ln, os_rn, tf0, tf1, tf2, tf3, i10, i20, i30, im0, e12, e13, e14, e15, e16, e21, e23, e24, e31, e32, e41, e42, e51, e61, if_true, if_false, eq_self, tc0]
        · show f_X5_buskerOf thr mnow (nI b) 0 = _
          have q2 : f_X5_isBetween 0 0 6 = some 1 := q2
          simp only [f_X5_buskerOf, f_X5_buskerOf_c15, f_X5_buskerOf_c38, c2, q2, of0 mnow hb8, a0, ob_n, og_n, fails0n, fails1n, refuse0n, refuse1n, os_ln, os_rn, tf0, tf1, tf2, tf3, i10, i20, i30, im0, e12, e13, e14, e15, e16, e21, e23, e24, e31, e32, e41, e42, e51, e61, if_true, if_false, eq_self, tc0]
      · refine ⟨0, vp_updL out 0 (g_lou now b).toInt64, g_lou now b, ?_, ?_, fun _ => updL0 _ _⟩
        · show f_L_buskerOf now out (nI b) 1 = _
          simp only [f_L_buskerOf, f_X4_buskerOf, f_X4_hindranceOfBuskerNumber, hbx, c1, hib, hcb, d1_0, ob_n, og_n, fails0n, fails1n, refuse0n, refuse1n, os_ln, os_rn, tf0, tf1, tf2, tf3, i10, i20, i30, im0, e12, e13, e14, e15, e16, e21, e23, e24, e31, e32, e41, e42, e51, e61, if_true, if_false, eq_self, tc0]
        · show f_X5_buskerOf thr mnow (nI b) 1 = _
          have q2 : f_X5_isBetween 1 0 6 = some 1 := q2
          simp only [f_X5_buskerOf, f_X5_buskerOf_c15, f_X5_buskerOf_c38, c2, q2, of1 mnow hb8, a1, d1_0, ob_n, og_n, fails0n, fails1n, refuse0n, refuse1n, os_ln, os_rn, tf0, tf1, tf2, tf3, i10, i20, i30, im0, e12, e13, e14, e15, e16, e21, e23, e24, e31, e32, e41, e42, e51, e61, if_true, if_false, eq_self, tc0]
      · refine ⟨0, vp_updL out 0 (g_pit now b).toInt64, g_pit now b, ?_, ?_, fun _ => updL0 _ _⟩
        · show f_L_buskerOf now out (nI b) 2 = _
          simp only [f_L_buskerOf, f_X4_buskerOf, f_X4_hindranceOfBuskerNumber, hbx, c1, hib, hcb, d2_0, d2_1, ob_n, og_n, fails0n, fails1n, refuse0n, refuse1n, os_ln, os_rn, tf0, tf1, tf2, tf3, i10, i20, i30, im0, e12, e13, e14, e15, e16, e21, e23, e24, e31, e32, e41, e42, e51, e61, if_true, if_false, eq_self, tc0]
        · show f_X5_buskerOf thr mnow (nI b) 2 = _
          have q2 : f_X5_isBetween 2 0 6 = some 1 := q2
          simp only [f_X5_buskerOf, f_X5_buskerOf_c15, f_X5_buskerOf_c38, c2, q2, of4 mnow hb8, a4, d2_0, d2_1, ob_n, og_n, fails0n, fails1n, refuse0n, refuse1n, os_ln, os_rn, tf0, tf1, tf2, tf3, i10, i20, i30, im0, e12, e13, e14, e15, e16, e21, e23, e24, e31, e32, e41, e42, e51, e61, if_true, if_false, eq_self, tc0]
      · refine ⟨0, vp_updL out 0 (g_pla now b).toInt64, g_pla now b, ?_, ?_, fun _ => updL0 _ _⟩
        · show f_L_buskerOf now out (nI b) 3 = _
          simp only [f_L_buskerOf, f_X4_buskerOf, f_X4_hindranceOfBuskerNumber, hbx, c1, hib, hcb, d3_0, d3_1, d3_2, ob_n, og_n, fails0n, fails1n, refuse0n, refuse1n, os_ln, os_rn, tf0, tf1, tf2, tf3, i10, i20, i30, im0, e12, e13, e14, e15, e16, e21, e23, e24, e31, e32, e41, e42, e51, e61, if_true, if_false, eq_self, tc0]
        · show f_X5_buskerOf thr mnow (nI b) 3 = _
          have q2 : f_X5_isBetween 3 0 6 = some 1 := q2
          simp only [f_X5_buskerOf, f_X5_buskerOf_c15, f_X5_buskerOf_c38, c2, q2, hpl, d3_0, d3_1, d3_2, ob_n, og_n, fails0n, fails1n, refuse0n, refuse1n, os_ln, os_rn, tf0, tf1, tf2, tf3, i10, i20, i30, im0, e12, e13, e14, e15, e16, e21, e23, e24, e31, e32, e41, e42, e51, e61, if_true, if_false, eq_self, tc0]
      · refine ⟨0, vp_updL out 0 (g_cas now b).toInt64, g_cas now b, ?_, ?_, fun _ => updL0 _ _⟩
        · show f_L_buskerOf now out (nI b) 4 = _
          simp only [f_L_buskerOf, f_X4_buskerOf, f_X4_hindranceOfBuskerNumber, hbx, c1, hib, hcb, d4_0, d4_1, d4_2, d4_3, ob_n, og_n, fails0n, fails1n, refuse0n, refuse1n, os_ln, os_rn, tf0, tf1, tf2, tf3, i10, i20, i30, im0, e12, e13, e14, e15, e16, e21, e23, e24, e31, e32, e41, e42, e51, e61, if_true, if_false, eq_self, tc0]
        · show f_X5_buskerOf thr mnow (nI b) 4 = _
          have q2 : f_X5_isBetween 4 0 6 = some 1 := q2
          simp only [f_X5_buskerOf, f_X5_buskerOf_c15, f_X5_buskerOf_c38, c2, q2, of5 mnow hb8, a5, d4_0, d4_1, d4_2, d4_3, ob_n, og_n, fails0n, fails1n, refuse0n, refuse1n, os_ln, os_rn, tf0, tf1, tf2, tf3, i10, i20, i30, im0, e12, e13, e14, e15, e16, e21, e23, e24, e31, e32, e41, e42, e51, e61, if_true, if_false, eq_self, tc0]
      · refine ⟨0, vp_updL out 0 (g_hrs now b).toInt64, g_hrs now b, ?_, ?_, fun _ => updL0 _ _⟩
        · show f_L_buskerOf now out (nI b) 5 = _
          simp only [f_L_buskerOf, f_X4_buskerOf, f_X4_hindranceOfBuskerNumber, hbx, c1, hib, hcb, d5_0, d5_1, d5_2, d5_3, d5_4, ob_n, og_n, fails0n, fails1n, refuse0n, refuse1n, os_ln, os_rn, tf0, tf1, tf2, tf3, i10, i20, i30, im0, e12, e13, e14, e15, e16, e21, e23, e24, e31, e32, e41, e42, e51, e61, if_true, if_false, eq_self, tc0]
        · show f_X5_buskerOf thr mnow (nI b) 5 = _
          have q2 : f_X5_isBetween 5 0 6 = some 1 := q2
          simp only [f_X5_buskerOf, f_X5_buskerOf_c15, f_X5_buskerOf_c38, c2, q2, of6 mnow hb8, a6, d5_0, d5_1, d5_2, d5_3, d5_4, ob_n, og_n, fails0n, fails1n, refuse0n, refuse1n, os_ln, os_rn, tf0, tf1, tf2, tf3, i10, i20, i30, im0, e12, e13, e14, e15, e16, e21, e23, e24, e31, e32, e41, e42, e51, e61, if_true, if_false, eq_self, tc0]
      · refine ⟨0, vp_updL out 0 (g_nws now b).toInt64, g_nws now b, ?_, ?_, fun _ => updL0 _ _⟩
        · show f_L_buskerOf now out (nI b) 6 = _
          simp only [f_L_buskerOf, f_X4_buskerOf, f_X4_hindranceOfBuskerNumber, hbx, c1, hib, hcb, d6_0, d6_1, d6_2, d6_3, d6_4, d6_5, ob_n, og_n, fails0n, fails1n, refuse0n, refuse1n, os_ln, os_rn, tf0, tf1, tf2, tf3, i10, i20, i30, im0, e12, e13, e14, e15, e16, e21, e23, e24, e31, e32, e41, e42, e51, e61, if_true, if_false, eq_self, tc0]
        · show f_X5_buskerOf thr mnow (nI b) 6 = _
          have q2 : f_X5_isBetween 6 0 6 = some 1 := q2
          simp only [f_X5_buskerOf, f_X5_buskerOf_c15, f_X5_buskerOf_c38, c2, q2, of7 mnow hb8, a7, d6_0, d6_1, d6_2, d6_3, d6_4, d6_5, ob_n, og_n, fails0n, fails1n, refuse0n, refuse1n, os_ln, os_rn, tf0, tf1, tf2, tf3, i10, i20, i30, im0, e12, e13, e14, e15, e16, e21, e23, e24, e31, e32, e41, e42, e51, e61, if_true, if_false, eq_self, tc0]
theorem S_wear (G : GG isv te re de now sna len sig nxt cnt rng kept rea det misv iit mlen merr mnow msav hst inp) (out : Nat → Int64) (thr : Int32) (a1 : Int32) : ∃ k out' b, f_L_wear now out a1 = some (k, out') ∧ f_X5_wear thr mnow a1 = some (b, k) ∧ (k = 0 → out' 0 = b.toInt64) := by
  obtain ⟨hisv, rfl, rfl, rfl, rfl, ⟨n, w, ln, hR⟩, hsv, hin, hH⟩ := G
  obtain ⟨hA, h0, hc, hP, hL, hC, hS, hB, hK, hF, hW, hI, hG, hE, hN, hD⟩ := id hR
  have hn8 := hA.2.1
  have hbx : g_buskers now = nI n := hA.1
  rcases busk_cases hn8 hA.2.2 a1 with ⟨c1, c2⟩ | ⟨b, hb, rfl, c1, c2⟩
  · refine ⟨1, out, 0, ?_, ?_, fun e => absurd e (by decide)⟩
    · simp only [f_L_wear, f_X4_wear, f_X4_hindranceOfBuskerNumber, hbx, c1, ob_n, og_n, fails0n, fails1n, refuse0n, refuse1n, os_ln, os_rn, tf0, tf1, tf2, tf3, i10, i20, i30, im0, e12, e13, e14, e15, e16, e21, e23, e24, e31, e32, e41, e42, e51, e61, if_true, if_false, eq_self, tc0]
    · simp only [f_X5_wear, f_X5_wear_c15, c2, ob_n, og_n, fails0n, fails1n, refuse0n, refuse1n, os_ln, os_rn, tf0, tf1, tf2, tf3, i10, i20, i30, im0, e12, e13, e14, e15, e16, e21, e23, e24, e31, e32, e41, e42, e51, e61, if_true, if_false, eq_self, tc0]
  · have hb8 : b < 8 := by omega
    have hib := inbN (k := b) (N := 8) hb8 (by decide)
    have hcb := clN (k := b) (by omega)
    have hof := ofFloat_n (x := g_wea now b) (by have := (hF b hb8).2; omega)
    refine ⟨0, vp_updL out 0 ((g_wea now b).toInt32).toInt64, (g_wea now b).toInt32, ?_, ?_, fun _ => updL0 _ _⟩
    · simp only [f_L_wear, f_X4_wear, f_X4_hindranceOfBuskerNumber, hbx, c1, hib, hcb, hof, ob_n, og_n, fails0n, fails1n, refuse0n, refuse1n, os_ln, os_rn, tf0, tf1, tf2, tf3, i10, i20, i30, im0, e12, e13, e14, e15, e16, e21, e23, e24, e31, e32, e41, e42, e51, e61, if_true, if_false, eq_self, tc0]
    · simp only [f_X5_wear, f_X5_wear_c15, c2, of3 mnow hb8, (hB b hb).2.2.2.1, ob_n, og_n, fails0n, fails1n, refuse0n, refuse1n, os_ln, os_rn, tf0, tf1, tf2, tf3, i10, i20, i30, im0, e12, e13, e14, e15, e16, e21, e23, e24, e31, e32, e41, e42, e51, e61, if_true, if_false, eq_self, tc0]
theorem S_pitchOf (G : GG isv te re de now sna len sig nxt cnt rng kept rea det misv iit mlen merr mnow msav hst inp) (out : Nat → Int64) (thr : Int32) (a1 a2 : Int32) : ∃ k out' b, f_L_pitchOf now out a1 a2 = some (k, out') ∧ f_X5_pitchOf thr mnow a1 a2 = some (b, k) ∧ (k = 0 → out' 0 = b.toInt64) := by
  obtain ⟨hisv, rfl, rfl, rfl, rfl, ⟨n, w, ln, hR⟩, hsv, hin, hH⟩ := G
  obtain ⟨hA, h0, hc, hP, hL, hC, hS, hB, hK, hF, hW, hI, hG, hE, hN, hD⟩ := id hR
  have hn8 := hA.2.1
  have hbx : g_buskers now = nI n := hA.1
  rcases pitch_cases a1 with ⟨c1, c2⟩ | ⟨k, hk, rfl, c1, c2⟩
  · refine ⟨1, out, 0, ?_, ?_, fun e => absurd e (by decide)⟩
    · simp only [f_L_pitchOf, f_X4_pitchOf, f_X4_hindranceOfPitchNumber, c1, ob_n, og_n, fails0n, fails1n, refuse0n, refuse1n, os_ln, os_rn, tf0, tf1, tf2, tf3, i10, i20, i30, im0, e12, e13, e14, e15, e16, e21, e23, e24, e31, e32, e41, e42, e51, e61, if_true, if_false, eq_self, tc0]
    · simp only [f_X5_pitchOf, f_X5_pitchOf_c14, c2, ob_n, og_n, fails0n, fails1n, refuse0n, refuse1n, os_ln, os_rn, tf0, tf1, tf2, tf3, i10, i20, i30, im0, e12, e13, e14, e15, e16, e21, e23, e24, e31, e32, e41, e42, e51, e61, if_true, if_false, eq_self, tc0]
  · have hik := inbN (k := k) (N := 8) hk (by decide)
    have hck := clN (k := k) (by omega)
    have hpl := player_eq hn8 hW hk
    obtain ⟨p0, p1, p2⟩ := hP k hk
    rcases two_cases 0 2 (l := 0) (m := 2) rfl rfl (by decide) (by decide) a2 with ⟨q1, q2⟩ | ⟨q0, q1, q2⟩ | ⟨c, -, hc1, rfl, -, -, q2⟩
    · have y0 : ¬ a2 = 0 := fun e => by rw [e] at q1; exact absurd q1 (by decide)
      have y1 : ¬ a2 = 1 := fun e => by rw [e] at q1; exact absurd q1 (by decide)
      have y2 : ¬ a2 = 2 := fun e => by rw [e] at q1; exact absurd q1 (by decide)
      refine ⟨2, out, 0, ?_, ?_, fun e => absurd e (by decide)⟩
      · simp only [f_L_pitchOf, f_X4_pitchOf, f_X4_hindranceOfPitchNumber, c1, y0, y1, y2, ob_n, og_n, fails0n, fails1n, refuse0n, refuse1n, os_ln, os_rn, tf0, tf1, tf2, tf3, i10, i20, i30, im0, e12, e13, e14, e15, e16, e21, e23, e24, e31, e32, e41, e42, e51, e61, if_true, if_false, eq_self, tc0]
      · simp only [f_X5_pitchOf, f_X5_pitchOf_c14, f_X5_pitchOf_c36, c2, q2, ob_n, og_n, fails0n, fails1n, refuse0n, refuse1n, os_ln, os_rn, tf0, tf1, tf2, tf3, i10, i20, i30, im0, e12, e13, e14, e15, e16, e21, e23, e24, e31, e32, e41, e42, e51, e61, if_true, if_false, eq_self, tc0]
    · have y0 : ¬ a2 = 0 := fun e => by rw [e] at q1; exact q1 (by decide)
      have y1 : ¬ a2 = 1 := fun e => by rw [e] at q1; exact q1 (by decide)
      have y2 : ¬ a2 = 2 := fun e => by rw [e] at q1; exact q1 (by decide)
      refine ⟨2, out, 0, ?_, ?_, fun e => absurd e (by decide)⟩
      · simp only [f_L_pitchOf, f_X4_pitchOf, f_X4_hindranceOfPitchNumber, c1, y0, y1, y2, ob_n, og_n, fails0n, fails1n, refuse0n, refuse1n, os_ln, os_rn, tf0, tf1, tf2, tf3, i10, i20, i30, im0, e12, e13, e14, e15, e16, e21, e23, e24, e31, e32, e41, e42, e51, e61, if_true, if_false, eq_self, tc0]
      · simp only [f_X5_pitchOf, f_X5_pitchOf_c14, f_X5_pitchOf_c36, c2, q2, ob_n, og_n, fails0n, fails1n, refuse0n, refuse1n, os_ln, os_rn, tf0, tf1, tf2, tf3, i10, i20, i30, im0, e12, e13, e14, e15, e16, e21, e23, e24, e31, e32, e41, e42, e51, e61, if_true, if_false, eq_self, tc0]
    · rcases (show c = 0 ∨ c = 1 ∨ c = 2 by omega) with rfl | rfl | rfl
      · refine ⟨0, vp_updL out 0 (mnow (8 + 4 * k + 3)).toInt64, mnow (8 + 4 * k + 3), ?_, ?_, fun _ => updL0 _ _⟩
        · show f_L_pitchOf now out (nI k) 0 = _
          simp only [f_L_pitchOf, f_X4_pitchOf, f_X4_hindranceOfPitchNumber, c1, hik, hck, hpl, ob_n, og_n, fails0n, fails1n, refuse0n, refuse1n, os_ln, os_rn, tf0, tf1, tf2, tf3, i10, i20, i30, im0, e12, e13, e14, e15, e16, e21, e23, e24, e31, e32, e41, e42, e51, e61, if_true, if_false, eq_self, tc0]
        · show f_X5_pitchOf thr mnow (nI k) 0 = _
          have q2 : f_X5_isBetween 0 0 2 = some 1 := q2
          simp only [f_X5_pitchOf, f_X5_pitchOf_c14, f_X5_pitchOf_c36, c2, q2, ofP3 mnow hk, ob_n, og_n, fails0n, fails1n, refuse0n, refuse1n, os_ln, os_rn, tf0, tf1, tf2, tf3, i10, i20, i30, im0, e12, e13, e14, e15, e16, e21, e23, e24, e31, e32, e41, e42, e51, e61, if_true, if_false, eq_self, tc0]
      · refine ⟨0, vp_updL out 0 (g_cmp now k).toInt64, g_cmp now k, ?_, ?_, fun _ => updL0 _ _⟩
        · show f_L_pitchOf now out (nI k) 1 = _
          simp only [f_L_pitchOf, f_X4_pitchOf, f_X4_hindranceOfPitchNumber, c1, hik, hck, hpl, d1_0, ob_n, og_n, fails0n, fails1n, refuse0n, refuse1n, os_ln, os_rn, tf0, tf1, tf2, tf3, i10, i20, i30, im0, e12, e13, e14, e15, e16, e21, e23, e24, e31, e32, e41, e42, e51, e61, if_true, if_false, eq_self, tc0]
        · show f_X5_pitchOf thr mnow (nI k) 1 = _
          have q2 : f_X5_isBetween 1 0 2 = some 1 := q2
          simp only [f_X5_pitchOf, f_X5_pitchOf_c14, f_X5_pitchOf_c36, c2, q2, ofP1 mnow hk, p1, d1_0, ob_n, og_n, fails0n, fails1n, refuse0n, refuse1n, os_ln, os_rn, tf0, tf1, tf2, tf3, i10, i20, i30, im0, e12, e13, e14, e15, e16, e21, e23, e24, e31, e32, e41, e42, e51, e61, if_true, if_false, eq_self, tc0]
      · refine ⟨0, vp_updL out 0 (g_sof now k).toInt64, g_sof now k, ?_, ?_, fun _ => updL0 _ _⟩
        · show f_L_pitchOf now out (nI k) 2 = _
          simp only [f_L_pitchOf, f_X4_pitchOf, f_X4_hindranceOfPitchNumber, c1, hik, hck, hpl, d2_0, d2_1, ob_n, og_n, fails0n, fails1n, refuse0n, refuse1n, os_ln, os_rn, tf0, tf1, tf2, tf3, i10, i20, i30, im0, e12, e13, e14, e15, e16, e21, e23, e24, e31, e32, e41, e42, e51, e61, if_true, if_false, eq_self, tc0]
        · show f_X5_pitchOf thr mnow (nI k) 2 = _
          have q2 : f_X5_isBetween 2 0 2 = some 1 := q2
          simp only [f_X5_pitchOf, f_X5_pitchOf_c14, f_X5_pitchOf_c36, c2, q2, ofP2 mnow hk, p2, d2_0, d2_1, ob_n, og_n, fails0n, fails1n, refuse0n, refuse1n, os_ln, os_rn, tf0, tf1, tf2, tf3, i10, i20, i30, im0, e12, e13, e14, e15, e16, e21, e23, e24, e31, e32, e41, e42, e51, e61, if_true, if_false, eq_self, tc0]
theorem S_waiting (G : GG isv te re de now sna len sig nxt cnt rng kept rea det misv iit mlen merr mnow msav hst inp) (out : Nat → Int64) (thr : Int32) (a1 : Int32) : ∃ k out' b, f_L_waiting now out a1 = some (k, out') ∧ f_X5_waiting thr mnow a1 = some (b, k) ∧ (k = 0 → out' 0 = b.toInt64) := by
  obtain ⟨hisv, rfl, rfl, rfl, rfl, ⟨n, w, ln, hR⟩, hsv, hin, hH⟩ := G
  obtain ⟨hA, h0, hc, hP, hL, hC, hS, hB, hK, hF, hW, hI, hG, hE, hN, hD⟩ := id hR
  have hn8 := hA.2.1
  have hbx : g_buskers now = nI n := hA.1
  have hw8 := qN_le hN
  have hn3 := hN.1
  rcases pk_ix a1 (n := w) (by omega) with h | h | ⟨j, hj, rfl⟩
  · have hb : f_X5_isBetween a1 0 (nI w - 1) = some 0 := by unfold f_X5_isBetween; rw [if_pos h]
    refine ⟨1, out, 0, ?_, ?_, fun e => absurd e (by decide)⟩
    · simp only [f_L_waiting, f_X4_waiting, waiter_out hN (Or.inl h), ob_n, og_n, fails0n, fails1n, refuse0n, refuse1n, os_ln, os_rn, tf0, tf1, tf2, tf3, i10, i20, i30, im0, e12, e13, e14, e15, e16, e21, e23, e24, e31, e32, e41, e42, e51, e61, if_true, if_false, eq_self, tc0]
    · simp only [f_X5_waiting, f_X5_waiting_c23, ib3, tc3, hn3, hb, ob_n, og_n, fails0n, fails1n, refuse0n, refuse1n, os_ln, os_rn, tf0, tf1, tf2, tf3, i10, i20, i30, im0, e12, e13, e14, e15, e16, e21, e23, e24, e31, e32, e41, e42, e51, e61, if_true, if_false, eq_self, tc0]
  · have hb : f_X5_isBetween a1 0 (nI w - 1) = some 0 := by
      have e1 := nI_toInt (n := w) (by omega)
      have h' := h
      rw [Int32.le_iff_toInt_le, e1] at h'
      have z0 : (0 : Int32).toInt = 0 := rfl
      have h0 : ¬ a1 < 0 := fun h9 => by
        rw [Int32.lt_iff_toInt_lt] at h9
        omega
      have h7 : nI w - 1 < a1 := by
        rw [Int32.lt_iff_toInt_lt, show nI w - 1 = nI w - nI 1 from rfl, pk_sub_toInt (by omega) (by decide)]
        omega
      unfold f_X5_isBetween
      rw [if_neg h0, if_pos h7]
    refine ⟨1, out, 0, ?_, ?_, fun e => absurd e (by decide)⟩
    · simp only [f_L_waiting, f_X4_waiting, waiter_out hN (Or.inr h), ob_n, og_n, fails0n, fails1n, refuse0n, refuse1n, os_ln, os_rn, tf0, tf1, tf2, tf3, i10, i20, i30, im0, e12, e13, e14, e15, e16, e21, e23, e24, e31, e32, e41, e42, e51, e61, if_true, if_false, eq_self, tc0]
    · simp only [f_X5_waiting, f_X5_waiting_c23, ib3, tc3, hn3, hb, ob_n, og_n, fails0n, fails1n, refuse0n, refuse1n, os_ln, os_rn, tf0, tf1, tf2, tf3, i10, i20, i30, im0, e12, e13, e14, e15, e16, e21, e23, e24, e31, e32, e41, e42, e51, e61, if_true, if_false, eq_self, tc0]
  · obtain ⟨b1, b2, b3⟩ := hN.2.1 j hj
    have hb : f_X5_isBetween (nI j) 0 (nI w - 1) = some 1 := by
      unfold f_X5_isBetween
      rw [if_neg (nI_pos (by omega)), show nI w - 1 = nI (w - 1) from pk_sub (a := w) (b := 1) (by omega), if_neg (nI_nlt (by omega) (by omega))]
    have hm : ¬ nI (ln j) = (-1 : Int32) := nI_ne_m1 (by omega)
    have g1 : (104 : Int32) + nI j = nI (104 + j) := nI_add 104 j
    refine ⟨0, vp_updL out 0 (nI (ln j)).toInt64, nI (ln j), ?_, ?_, fun _ => updL0 _ _⟩
    · simp only [f_L_waiting, f_X4_waiting, waiter_in hn8 hN hj, hm, ob_n, og_n, fails0n, fails1n, refuse0n, refuse1n, os_ln, os_rn, tf0, tf1, tf2, tf3, i10, i20, i30, im0, e12, e13, e14, e15, e16, e21, e23, e24, e31, e32, e41, e42, e51, e61, if_true, if_false, eq_self, tc0]
    · simp only [f_X5_waiting, f_X5_waiting_c23, ib3, tc3, hn3, hb, g1, inbN (k := 104 + j) (N := 112) (by omega) (by decide), clN (k := 104 + j) (by omega), b2, ob_n, og_n, fails0n, fails1n, refuse0n, refuse1n, os_ln, os_rn, tf0, tf1, tf2, tf3, i10, i20, i30, im0, e12, e13, e14, e15, e16, e21, e23, e24, e31, e32, e41, e42, e51, e61, if_true, if_false, eq_self, tc0]
theorem S_noise (G : GG isv te re de now sna len sig nxt cnt rng kept rea det misv iit mlen merr mnow msav hst inp) (out : Nat → Int64) (thr : Int32) (a1 : Int32) : ∃ k out' b, f_L_noise now out a1 = some (k, out') ∧ f_X5_noise thr mnow a1 = some (b, k) ∧ (k = 0 → out' 0 = b.toInt64) := by
  obtain ⟨hisv, rfl, rfl, rfl, rfl, ⟨n, w, ln, hR⟩, hsv, hin, hH⟩ := G
  obtain ⟨hA, h0, hc, hP, hL, hC, hS, hB, hK, hF, hW, hI, hG, hE, hN, hD⟩ := id hR
  have hn8 := hA.2.1
  have hbx : g_buskers now = nI n := hA.1
  rcases pitch_cases a1 with ⟨c1, c2⟩ | ⟨k, hk, rfl, c1, c2⟩
  · refine ⟨1, out, 0, ?_, ?_, fun e => absurd e (by decide)⟩
    · simp only [f_L_noise, f_X4_noise, f_X4_hindranceOfPitchNumber, c1, ob_n, og_n, fails0n, fails1n, refuse0n, refuse1n, os_ln, os_rn, tf0, tf1, tf2, tf3, i10, i20, i30, im0, e12, e13, e14, e15, e16, e21, e23, e24, e31, e32, e41, e42, e51, e61, if_true, if_false, eq_self, tc0]
    · simp only [f_X5_noise, f_X5_noise_c14, c2, ob_n, og_n, fails0n, fails1n, refuse0n, refuse1n, os_ln, os_rn, tf0, tf1, tf2, tf3, i10, i20, i30, im0, e12, e13, e14, e15, e16, e21, e23, e24, e31, e32, e41, e42, e51, e61, if_true, if_false, eq_self, tc0]
  · obtain ⟨n1, n2, n3, -⟩ := noise_eq hn8 hB hK hW (nI k)
    have hof := ofFloat_n (x := noiF (g_kin now) (g_lou now) (g_pit now) (nI k)) (by omega)
    have hto := fToI_n (x := noiF (g_kin now) (g_lou now) (g_pit now) (nI k)) (by omega)
    refine ⟨0, vp_updL out 0 ((noiF (g_kin now) (g_lou now) (g_pit now) (nI k)).toInt32).toInt64, (noiF (g_kin now) (g_lou now) (g_pit now) (nI k)).toInt32, ?_, ?_, fun _ => updL0 _ _⟩
    · simp only [f_L_noise, f_X4_noise, f_X4_hindranceOfPitchNumber, c1, n1, hof, ob_n, og_n, fails0n, fails1n, refuse0n, refuse1n, os_ln, os_rn, tf0, tf1, tf2, tf3, i10, i20, i30, im0, e12, e13, e14, e15, e16, e21, e23, e24, e31, e32, e41, e42, e51, e61, if_true, if_false, eq_self, tc0]
    · simp only [f_X5_noise, f_X5_noise_c14, c2, n2, hto, ob_n, og_n, fails0n, fails1n, refuse0n, refuse1n, os_ln, os_rn, tf0, tf1, tf2, tf3, i10, i20, i30, im0, e12, e13, e14, e15, e16, e21, e23, e24, e31, e32, e41, e42, e51, e61, if_true, if_false, eq_self, tc0]
theorem S_noiseWith (G : GG isv te re de now sna len sig nxt cnt rng kept rea det misv iit mlen merr mnow msav hst inp) (out : Nat → Int64) (thr : Int32) (a1 a2 : Int32) : ∃ k out' b, f_L_noiseWith now out a1 a2 = some (k, out') ∧ f_X5_noiseWith thr mnow a1 a2 = some (b, k) ∧ (k = 0 → out' 0 = b.toInt64) := by
  obtain ⟨hisv, rfl, rfl, rfl, rfl, ⟨n, w, ln, hR⟩, hsv, hin, hH⟩ := G
  obtain ⟨hA, h0, hc, hP, hL, hC, hS, hB, hK, hF, hW, hI, hG, hE, hN, hD⟩ := id hR
  have hn8 := hA.2.1
  have hbx : g_buskers now = nI n := hA.1
  rcases pitch_cases a1 with ⟨c1, c2⟩ | ⟨k, hk, rfl, c1, c2⟩
  · refine ⟨1, out, 0, ?_, ?_, fun e => absurd e (by decide)⟩
    · simp only [f_L_noiseWith, f_X4_noiseWith, f_X4_hindranceOfPitchNumber, c1, ob_n, og_n, fails0n, fails1n, refuse0n, refuse1n, os_ln, os_rn, tf0, tf1, tf2, tf3, i10, i20, i30, im0, e12, e13, e14, e15, e16, e21, e23, e24, e31, e32, e41, e42, e51, e61, if_true, if_false, eq_self, tc0]
    · simp only [f_X5_noiseWith, f_X5_noiseWith_c17, f_X5_noiseWith_c22, c2, ob_n, og_n, fails0n, fails1n, refuse0n, refuse1n, os_ln, os_rn, tf0, tf1, tf2, tf3, i10, i20, i30, im0, e12, e13, e14, e15, e16, e21, e23, e24, e31, e32, e41, e42, e51, e61, if_true, if_false, eq_self, tc0]
  · rcases busk_cases hn8 hA.2.2 a2 with ⟨c3, c4⟩ | ⟨b, hb, rfl, c3, c4⟩
    · refine ⟨1, out, 0, ?_, ?_, fun e => absurd e (by decide)⟩
      · simp only [f_L_noiseWith, f_X4_noiseWith, f_X4_hindranceOfPitchNumber, f_X4_hindranceOfBuskerNumber, hbx, c1, c3, ob_n, og_n, fails0n, fails1n, refuse0n, refuse1n, os_ln, os_rn, tf0, tf1, tf2, tf3, i10, i20, i30, im0, e12, e13, e14, e15, e16, e21, e23, e24, e31, e32, e41, e42, e51, e61, if_true, if_false, eq_self, tc0]
      · simp only [f_X5_noiseWith, f_X5_noiseWith_c17, f_X5_noiseWith_c22, c2, c4, ob_n, og_n, fails0n, fails1n, refuse0n, refuse1n, os_ln, os_rn, tf0, tf1, tf2, tf3, i10, i20, i30, im0, e12, e13, e14, e15, e16, e21, e23, e24, e31, e32, e41, e42, e51, e61, if_true, if_false, eq_self, tc0]
    · obtain ⟨m1, m2, m3⟩ := nob_eq hn8 hB hK hb
      obtain ⟨n1, n2, n3⟩ := around_eq hn8 hB hK hW (nI k) m3
      have hof := ofFloat_n (x := arF (g_kin now) (g_lou now) (g_pit now) (nI k) (nobF (g_kin now) (g_lou now) b)) (by omega)
      have hto := fToI_n (x := arF (g_kin now) (g_lou now) (g_pit now) (nI k) (nobF (g_kin now) (g_lou now) b)) (by omega)
      refine ⟨0, vp_updL out 0 ((arF (g_kin now) (g_lou now) (g_pit now) (nI k) (nobF (g_kin now) (g_lou now) b)).toInt32).toInt64, (arF (g_kin now) (g_lou now) (g_pit now) (nI k) (nobF (g_kin now) (g_lou now) b)).toInt32, ?_, ?_, fun _ => updL0 _ _⟩
      · simp only [f_L_noiseWith, f_X4_noiseWith, f_X3_noiseOf, f_X4_hindranceOfPitchNumber, f_X4_hindranceOfBuskerNumber, hbx, c1, c3, m1, n1, hof, ob_n, og_n, fails0n, fails1n, refuse0n, refuse1n, os_ln, os_rn, tf0, tf1, tf2, tf3, i10, i20, i30, im0, e12, e13, e14, e15, e16, e21, e23, e24, e31, e32, e41, e42, e51, e61, if_true, if_false, eq_self, tc0]
      · simp only [f_X5_noiseWith, f_X5_noiseWith_c22, c2, c4, m2, n2, hto, ob_n, og_n, fails0n, fails1n, refuse0n, refuse1n, os_ln, os_rn, tf0, tf1, tf2, tf3, i10, i20, i30, im0, e12, e13, e14, e15, e16, e21, e23, e24, e31, e32, e41, e42, e51, e61, if_true, if_false, eq_self, tc0]
theorem S_quietest (G : GG isv te re de now sna len sig nxt cnt rng kept rea det misv iit mlen merr mnow msav hst inp) (out : Nat → Int64) (thr : Int32) (a1 : Int32) : ∃ k out' b, f_L_quietest now out a1 = some (k, out') ∧ f_X5_quietest thr mnow a1 = some (b, k) ∧ (k = 0 → out' 0 = b.toInt64) := by
  obtain ⟨hisv, rfl, rfl, rfl, rfl, ⟨n, w, ln, hR⟩, hsv, hin, hH⟩ := G
  obtain ⟨hA, h0, hc, hP, hL, hC, hS, hB, hK, hF, hW, hI, hG, hE, hN, hD⟩ := id hR
  have hn8 := hA.2.1
  have hbx : g_buskers now = nI n := hA.1
  rcases busk_cases hn8 hA.2.2 a1 with ⟨c1, c2⟩ | ⟨b, hb, rfl, c1, c2⟩
  · refine ⟨1, out, 0, ?_, ?_, fun e => absurd e (by decide)⟩
    · simp only [f_L_quietest, f_X4_quietest, f_X4_hindranceOfBuskerNumber, hbx, c1, ob_n, og_n, fails0n, fails1n, refuse0n, refuse1n, os_ln, os_rn, tf0, tf1, tf2, tf3, i10, i20, i30, im0, e12, e13, e14, e15, e16, e21, e23, e24, e31, e32, e41, e42, e51, e61, if_true, if_false, eq_self, tc0]
    · simp only [f_X5_quietest, f_X5_quietest_c15, c2, ob_n, og_n, fails0n, fails1n, refuse0n, refuse1n, os_ln, os_rn, tf0, tf1, tf2, tf3, i10, i20, i30, im0, e12, e13, e14, e15, e16, e21, e23, e24, e31, e32, e41, e42, e51, e61, if_true, if_false, eq_self, tc0]
  · obtain ⟨x, x1, x2⟩ := quiet_eq' hn8 hB hK hW hP hL hb 0 8 4096 0 (-1) FP.fconst0 rfl (by decide)
    have x1 : f_X3_quietestFor (g_lim now) (g_kin now) (g_lou now) (g_pit now) (nI b) = some x := x1
    have x2 : f_X5_quietest_c30 mnow (nI b) 4096 (-1) FP.fconst0 0 0 = some (if x = -1 then (0, 2) else (x, 0)) := x2
    by_cases hx : x = -1
    · refine ⟨2, out, 0, ?_, ?_, fun e => absurd e (by decide)⟩
      · simp only [f_L_quietest, f_X4_quietest, f_X4_hindranceOfBuskerNumber, hbx, c1, x1, hx, ob_n, og_n, fails0n, fails1n, refuse0n, refuse1n, os_ln, os_rn, tf0, tf1, tf2, tf3, i10, i20, i30, im0, e12, e13, e14, e15, e16, e21, e23, e24, e31, e32, e41, e42, e51, e61, if_true, if_false, eq_self, tc0]
      · rw [if_pos hx] at x2
        simp only [f_X5_quietest, f_X5_quietest_c15, c2, ob_n, og_n, fails0n, fails1n, refuse0n, refuse1n, os_ln, os_rn, tf0, tf1, tf2, tf3, i10, i20, i30, im0, e12, e13, e14, e15, e16, e21, e23, e24, e31, e32, e41, e42, e51, e61, if_true, if_false, eq_self, tc0]
        exact x2
    · refine ⟨0, vp_updL out 0 x.toInt64, x, ?_, ?_, fun _ => updL0 _ _⟩
      · simp only [f_L_quietest, f_X4_quietest, f_X4_hindranceOfBuskerNumber, hbx, c1, x1, hx, ob_n, og_n, fails0n, fails1n, refuse0n, refuse1n, os_ln, os_rn, tf0, tf1, tf2, tf3, i10, i20, i30, im0, e12, e13, e14, e15, e16, e21, e23, e24, e31, e32, e41, e42, e51, e61, if_true, if_false, eq_self, tc0]
      · rw [if_neg hx] at x2
        simp only [f_X5_quietest, f_X5_quietest_c15, c2, ob_n, og_n, fails0n, fails1n, refuse0n, refuse1n, os_ln, os_rn, tf0, tf1, tf2, tf3, i10, i20, i30, im0, e12, e13, e14, e15, e16, e21, e23, e24, e31, e32, e41, e42, e51, e61, if_true, if_false, eq_self, tc0]
        exact x2
theorem S_snapsIn (G : GG isv te re de now sna len sig nxt cnt rng kept rea det misv iit mlen merr mnow msav hst inp) (out : Nat → Int64) (thr : Int32) (a1 : Int32) : ∃ k out' b, f_L_snapsIn now out a1 = some (k, out') ∧ f_X5_snapsIn thr mnow a1 = some (b, k) ∧ (k = 0 → out' 0 = b.toInt64) := by
  obtain ⟨hisv, rfl, rfl, rfl, rfl, ⟨n, w, ln, hR⟩, hsv, hin, hH⟩ := G
  obtain ⟨hA, h0, hc, hP, hL, hC, hS, hB, hK, hF, hW, hI, hG, hE, hN, hD⟩ := id hR
  have hn8 := hA.2.1
  have hbx : g_buskers now = nI n := hA.1
  rcases busk_cases hn8 hA.2.2 a1 with ⟨c1, c2⟩ | ⟨b, hb, rfl, c1, c2⟩
  · refine ⟨1, out, 0, ?_, ?_, fun e => absurd e (by decide)⟩
    · simp only [f_L_snapsIn, f_X4_snapsIn, f_X4_hindranceOfBuskerNumber, hbx, c1, ob_n, og_n, fails0n, fails1n, refuse0n, refuse1n, os_ln, os_rn, tf0, tf1, tf2, tf3, i10, i20, i30, im0, e12, e13, e14, e15, e16, e21, e23, e24, e31, e32, e41, e42, e51, e61, if_true, if_false, eq_self, tc0]
    · simp only [f_X5_snapsIn, f_X5_snapsIn_c15, c2, ob_n, og_n, fails0n, fails1n, refuse0n, refuse1n, os_ln, os_rn, tf0, tf1, tf2, tf3, i10, i20, i30, im0, e12, e13, e14, e15, e16, e21, e23, e24, e31, e32, e41, e42, e51, e61, if_true, if_false, eq_self, tc0]
  · have hb8 : b < 8 := by omega
    have hib := inbN (k := b) (N := 8) hb8 (by decide)
    have hcb := clN (k := b) (by omega)
    obtain ⟨a0, -, -, a3, -⟩ := hB b hb
    rcases (hK b hb).1 with h | h
    · have h1 : ¬ g_kin now b = 1 := by rw [h]; decide
      obtain ⟨x, x1, x2⟩ := snaps_eq' (wea := g_wea now) hn8 hB hK hb 0 33 4096 0 (g_wea now b) rfl (by decide) (by unfold lvl; exact Nat.zero_le _) (by have := (hF b hb8).2; omega)
      have x3 : f_X3_hoursUntilSnapped (g_lou now) (g_wea now) (nI b) = some x := by
        unfold f_X3_hoursUntilSnapped
        rw [hib, og_t, hcb]
        exact x1
      refine ⟨0, vp_updL out 0 x.toInt64, x, ?_, ?_, fun _ => updL0 _ _⟩
      · simp only [f_L_snapsIn, f_X4_snapsIn, f_X4_hindranceOfBuskerNumber, hbx, c1, hib, hcb, h1, x3, ob_n, og_n, fails0n, fails1n, refuse0n, refuse1n, os_ln, os_rn, tf0, tf1, tf2, tf3, i10, i20, i30, im0, e12, e13, e14, e15, e16, e21, e23, e24, e31, e32, e41, e42, e51, e61, if_true, if_false, eq_self, tc0]
      · simp only [f_X5_snapsIn, f_X5_snapsIn_c15, f_X5_snapsIn_c37, c2, of0 mnow hb8, a0, h, fo3 mnow hb8 a3 (show (g_wea now b).toNat < 2139095040 by have := (hF b hb8).2; omega), ob_n, og_n, fails0n, fails1n, refuse0n, refuse1n, os_ln, os_rn, tf0, tf1, tf2, tf3, i10, i20, i30, im0, e12, e13, e14, e15, e16, e21, e23, e24, e31, e32, e41, e42, e51, e61, if_true, if_false, eq_self, tc0]
        exact x2
    · refine ⟨2, out, 0, ?_, ?_, fun e => absurd e (by decide)⟩
      · simp only [f_L_snapsIn, f_X4_snapsIn, f_X4_hindranceOfBuskerNumber, hbx, c1, hib, hcb, h, ob_n, og_n, fails0n, fails1n, refuse0n, refuse1n, os_ln, os_rn, tf0, tf1, tf2, tf3, i10, i20, i30, im0, e12, e13, e14, e15, e16, e21, e23, e24, e31, e32, e41, e42, e51, e61, if_true, if_false, eq_self, tc0]
      · simp only [f_X5_snapsIn, f_X5_snapsIn_c15, f_X5_snapsIn_c37, c2, of0 mnow hb8, a0, h, ob_n, og_n, fails0n, fails1n, refuse0n, refuse1n, os_ln, os_rn, tf0, tf1, tf2, tf3, i10, i20, i30, im0, e12, e13, e14, e15, e16, e21, e23, e24, e31, e32, e41, e42, e51, e61, if_true, if_false, eq_self, tc0]
theorem S_onRack (G : GG isv te re de now sna len sig nxt cnt rng kept rea det misv iit mlen merr mnow msav hst inp) (out : Nat → Int64) (thr : Int32) (a1 a2 : Int32) : ∃ k out' b, f_L_onRack now out a1 a2 = some (k, out') ∧ f_X5_onRack thr mnow a1 a2 = some (b, k) ∧ (k = 0 → out' 0 = b.toInt64) := by
  obtain ⟨hisv, rfl, rfl, rfl, rfl, ⟨n, w, ln, hR⟩, hsv, hin, hH⟩ := G
  obtain ⟨hA, h0, hc, hP, hL, hC, hS, hB, hK, hF, hW, hI, hG, hE, hN, hD⟩ := id hR
  have hn8 := hA.2.1
  have hbx : g_buskers now = nI n := hA.1
  have hrk : ∀ v, f_X5_isBetween a1 0 1 = some v → (v = 0 ∨ v = 1) → f_X5_isRack a1 = some v := by
    intro v hv h01
    unfold f_X5_isRack
    rw [hv, ob_s]
    rcases h01 with rfl | rfl <;> rfl
  have hs1 : ¬ a1 < 0 → ((2 : Int32) ≤ a1 ↔ ¬ a1 ≤ 1) := by
    intro _
    rw [Int32.le_iff_toInt_le, Int32.le_iff_toInt_le]
    have z2 : (2 : Int32).toInt = 2 := rfl
    have z1 : (1 : Int32).toInt = 1 := rfl
    omega
  have hs2 : (a2 < 3 ↔ a2 ≤ 2) := by
    rw [Int32.lt_iff_toInt_lt, Int32.le_iff_toInt_le]
    have z2 : (2 : Int32).toInt = 2 := rfl
    have z1 : (3 : Int32).toInt = 3 := rfl
    omega
  rcases two_cases 0 1 (l := 0) (m := 1) rfl rfl (by decide) (by decide) a1 with ⟨q1, q2⟩ | ⟨q0, q1, q2⟩ | ⟨k, -, hk1, rfl, q0, q1, q2⟩
  · refine ⟨1, out, 0, ?_, ?_, fun e => absurd e (by decide)⟩
    · simp only [f_L_onRack, f_X4_onRack, q1, ob_n, og_n, fails0n, fails1n, refuse0n, refuse1n, os_ln, os_rn, tf0, tf1, tf2, tf3, i10, i20, i30, im0, e12, e13, e14, e15, e16, e21, e23, e24, e31, e32, e41, e42, e51, e61, if_true, if_false, eq_self, tc0]
    · simp only [f_X5_onRack, f_X5_onRack_c18, f_X5_onRack_c23, hrk 0 q2 (Or.inl rfl), ob_n, og_n, fails0n, fails1n, refuse0n, refuse1n, os_ln, os_rn, tf0, tf1, tf2, tf3, i10, i20, i30, im0, e12, e13, e14, e15, e16, e21, e23, e24, e31, e32, e41, e42, e51, e61, if_true, if_false, eq_self, tc0]
  · have q1' := (hs1 q0).mpr q1
    refine ⟨1, out, 0, ?_, ?_, fun e => absurd e (by decide)⟩
    · simp only [f_L_onRack, f_X4_onRack, q0, q1', ob_n, og_n, fails0n, fails1n, refuse0n, refuse1n, os_ln, os_rn, tf0, tf1, tf2, tf3, i10, i20, i30, im0, e12, e13, e14, e15, e16, e21, e23, e24, e31, e32, e41, e42, e51, e61, if_true, if_false, eq_self, tc0]
    · simp only [f_X5_onRack, f_X5_onRack_c18, f_X5_onRack_c23, hrk 0 q2 (Or.inl rfl), ob_n, og_n, fails0n, fails1n, refuse0n, refuse1n, os_ln, os_rn, tf0, tf1, tf2, tf3, i10, i20, i30, im0, e12, e13, e14, e15, e16, e21, e23, e24, e31, e32, e41, e42, e51, e61, if_true, if_false, eq_self, tc0]
  · have q1' : ¬ (2 : Int32) ≤ nI k := fun e => (hs1 q0).mp e q1
    have hr1 := hrk 1 q2 (Or.inr rfl)
    rcases two_cases 0 2 (l := 0) (m := 2) rfl rfl (by decide) (by decide) a2 with ⟨s1, s2⟩ | ⟨s0, s1, s2⟩ | ⟨p, -, hp1, rfl, s0, s1, s2⟩
    · refine ⟨1, out, 0, ?_, ?_, fun e => absurd e (by decide)⟩
      · simp only [f_L_onRack, f_X4_onRack, q0, q1', s1, ob_n, og_n, fails0n, fails1n, refuse0n, refuse1n, os_ln, os_rn, tf0, tf1, tf2, tf3, i10, i20, i30, im0, e12, e13, e14, e15, e16, e21, e23, e24, e31, e32, e41, e42, e51, e61, if_true, if_false, eq_self, tc0]
      · simp only [f_X5_onRack, f_X5_onRack_c18, f_X5_onRack_c23, hr1, s2, ob_n, og_n, fails0n, fails1n, refuse0n, refuse1n, os_ln, os_rn, tf0, tf1, tf2, tf3, i10, i20, i30, im0, e12, e13, e14, e15, e16, e21, e23, e24, e31, e32, e41, e42, e51, e61, if_true, if_false, eq_self, tc0]
    · have s1' : ¬ a2 < 3 := fun e => s1 (hs2.mp e)
      refine ⟨1, out, 0, ?_, ?_, fun e => absurd e (by decide)⟩
      · simp only [f_L_onRack, f_X4_onRack, q0, q1', s0, s1', ob_n, og_n, fails0n, fails1n, refuse0n, refuse1n, os_ln, os_rn, tf0, tf1, tf2, tf3, i10, i20, i30, im0, e12, e13, e14, e15, e16, e21, e23, e24, e31, e32, e41, e42, e51, e61, if_true, if_false, eq_self, tc0]
      · simp only [f_X5_onRack, f_X5_onRack_c18, f_X5_onRack_c23, hr1, s2, ob_n, og_n, fails0n, fails1n, refuse0n, refuse1n, os_ln, os_rn, tf0, tf1, tf2, tf3, i10, i20, i30, im0, e12, e13, e14, e15, e16, e21, e23, e24, e31, e32, e41, e42, e51, e61, if_true, if_false, eq_self, tc0]
    · have s1' : nI p < (3 : Int32) := hs2.mpr s1
      obtain ⟨x, x1, x2, -⟩ := case_eq hn8 hA.2.2 hB hE (nI k) (p := p) (by omega)
      by_cases hx : x = -1
      · refine ⟨2, out, 0, ?_, ?_, fun e => absurd e (by decide)⟩
        · simp only [f_L_onRack, f_X4_onRack, q0, q1', s0, s1', x1, hx, ob_n, og_n, fails0n, fails1n, refuse0n, refuse1n, os_ln, os_rn, tf0, tf1, tf2, tf3, i10, i20, i30, im0, e12, e13, e14, e15, e16, e21, e23, e24, e31, e32, e41, e42, e51, e61, if_true, if_false, eq_self, tc0]
        · simp only [f_X5_onRack, f_X5_onRack_c23, f_X5_onRack_c46, hr1, s2, x2, hx, ob_n, og_n, fails0n, fails1n, refuse0n, refuse1n, os_ln, os_rn, tf0, tf1, tf2, tf3, i10, i20, i30, im0, e12, e13, e14, e15, e16, e21, e23, e24, e31, e32, e41, e42, e51, e61, if_true, if_false, eq_self, tc0]
      · refine ⟨0, vp_updL out 0 x.toInt64, x, ?_, ?_, fun _ => updL0 _ _⟩
        · simp only [f_L_onRack, f_X4_onRack, q0, q1', s0, s1', x1, hx, ob_n, og_n, fails0n, fails1n, refuse0n, refuse1n, os_ln, os_rn, tf0, tf1, tf2, tf3, i10, i20, i30, im0, e12, e13, e14, e15, e16, e21, e23, e24, e31, e32, e41, e42, e51, e61, if_true, if_false, eq_self, tc0]
        · simp only [f_X5_onRack, f_X5_onRack_c23, f_X5_onRack_c46, hr1, s2, x2, hx, ob_n, og_n, fails0n, fails1n, refuse0n, refuse1n, os_ln, os_rn, tf0, tf1, tf2, tf3, i10, i20, i30, im0, e12, e13, e14, e15, e16, e21, e23, e24, e31, e32, e41, e42, e51, e61, if_true, if_false, eq_self, tc0]
theorem S_ranked (G : GG isv te re de now sna len sig nxt cnt rng kept rea det misv iit mlen merr mnow msav hst inp) (out : Nat → Int64) (thr : Int32) (a1 : Int32) : ∃ k out' b, f_L_ranked now out a1 = some (k, out') ∧ f_X5_ranked thr mnow a1 = some (b, k) ∧ (k = 0 → out' 0 = b.toInt64) := by
  obtain ⟨hisv, rfl, rfl, rfl, rfl, ⟨n, w, ln, hR⟩, hsv, hin, hH⟩ := G
  obtain ⟨hA, h0, hc, hP, hL, hC, hS, hB, hK, hF, hW, hI, hG, hE, hN, hD⟩ := id hR
  have hn8 := hA.2.1
  have hbx : g_buskers now = nI n := hA.1
  obtain ⟨z, z1, z2⟩ := ranked_eq' hn8 hA.2.2 hB hF (x := now) hbx rfl a1 thr 8 4096 0 rfl (by decide)
  have z1 : f_X4_ranked now a1 = some z := z1
  rcases z2 with ⟨rfl, h2⟩ | ⟨b, -, hb, rfl, h2⟩
  · have h2 : f_X5_ranked thr mnow a1 = some (0, 1) := h2 (by omega)
    refine ⟨1, out, 0, ?_, h2, fun e => absurd e (by decide)⟩
    simp only [f_L_ranked, z1, ob_n, og_n, fails0n, fails1n, refuse0n, refuse1n, os_ln, os_rn, tf0, tf1, tf2, tf3, i10, i20, i30, im0, e12, e13, e14, e15, e16, e21, e23, e24, e31, e32, e41, e42, e51, e61, if_true, if_false, eq_self, tc0]
  · have h2 : f_X5_ranked thr mnow a1 = some (nI b, 0) := h2
    refine ⟨0, vp_updL out 0 (nI b).toInt64, nI b, ?_, h2, fun _ => updL0 _ _⟩
    simp only [f_L_ranked, z1, ob_n, og_n, fails0n, fails1n, refuse0n, refuse1n, os_ln, os_rn, tf0, tf1, tf2, tf3, i10, i20, i30, im0, e12, e13, e14, e15, e16, e21, e23, e24, e31, e32, e41, e42, e51, e61, if_true, if_false, eq_self, tc0]
theorem S_sign (G : GG isv te re de now sna len sig nxt cnt rng kept rea det misv iit mlen merr mnow msav hst inp) (out : Nat → Int64) (thr : Int32) (a1 : Int32) : ∃ k out' b, f_L_sign now out a1 = some (k, out') ∧ f_X5_sign thr mnow a1 = some (b, k) ∧ (k = 0 → out' 0 = b.toInt64) := by
  obtain ⟨hisv, rfl, rfl, rfl, rfl, ⟨n, w, ln, hR⟩, hsv, hin, hH⟩ := G
  obtain ⟨hA, h0, hc, hP, hL, hC, hS, hB, hK, hF, hW, hI, hG, hE, hN, hD⟩ := id hR
  have hn8 := hA.2.1
  have hbx : g_buskers now = nI n := hA.1
  rcases pitch_cases a1 with ⟨c1, c2⟩ | ⟨k, hk, rfl, c1, c2⟩
  · refine ⟨1, out, 32, ?_, ?_, fun e => absurd e (by decide)⟩
    · simp only [f_L_sign, f_X4_sign, f_X4_hindranceOfPitchNumber, c1, ob_n, og_n, fails0n, fails1n, refuse0n, refuse1n, os_ln, os_rn, tf0, tf1, tf2, tf3, i10, i20, i30, im0, e12, e13, e14, e15, e16, e21, e23, e24, e31, e32, e41, e42, e51, e61, if_true, if_false, eq_self, tc0]
    · simp only [f_X5_sign, f_X5_sign_c14, c2, ob_n, og_n, fails0n, fails1n, refuse0n, refuse1n, os_ln, os_rn, tf0, tf1, tf2, tf3, i10, i20, i30, im0, e12, e13, e14, e15, e16, e21, e23, e24, e31, e32, e41, e42, e51, e61, if_true, if_false, eq_self, tc0]
  · obtain ⟨n1, n2, n3, -⟩ := noise_eq hn8 hB hK hW (nI k)
    have hik := inbN (k := k) (N := 8) hk (by decide)
    have hck := clN (k := k) (by omega)
    have hpl := player_eq hn8 hW hk
    have hlim := limitOf_n mnow hk (hP k hk).1 (by have := hL k hk; omega)
    have hstep : ∀ v : Int32, f_L_sign now out (nI k) = some (0, vp_updL out 0 v.toInt64) → f_X5_sign thr mnow (nI k) = some (v, 0) → ∃ k' out' b, f_L_sign now out (nI k) = some (k', out') ∧ f_X5_sign thr mnow (nI k) = some (b, k') ∧ (k' = 0 → out' 0 = b.toInt64) := fun v h1 h2 => ⟨0, _, v, h1, h2, fun _ => updL0 _ _⟩
    have tail : ∀ t : Int32, t = 0 ∨ t = 1 → ∃ v, f_X4_sign_c33 now (nI k) t = some (.inr v) ∧ ∀ th, f_X5_sign_c42 mnow (nI k) t th = some (v, th) := by
      intro t ht
      rcases who_cases hW hk with q | ⟨b, hb, q, hp⟩
      · rcases ht with rfl | rfl
        · exact ⟨46, by simp only [f_X4_sign_c33, hpl, q, ob_n, og_n, fails0n, fails1n, refuse0n, refuse1n, os_ln, os_rn, tf0, tf1, tf2, tf3, i10, i20, i30, im0, e12, e13, e14, e15, e16, e21, e23, e24, e31, e32, e41, e42, e51, e61, if_true, if_false, eq_self, tc0], fun th => by simp only [f_X5_sign_c42, ofP3 mnow hk, q, ob_n, og_n, fails0n, fails1n, refuse0n, refuse1n, os_ln, os_rn, tf0, tf1, tf2, tf3, i10, i20, i30, im0, e12, e13, e14, e15, e16, e21, e23, e24, e31, e32, e41, e42, e51, e61, if_true, if_false, eq_self, tc0]⟩
        · exact ⟨33, by simp only [f_X4_sign_c33, hpl, q, ob_n, og_n, fails0n, fails1n, refuse0n, refuse1n, os_ln, os_rn, tf0, tf1, tf2, tf3, i10, i20, i30, im0, e12, e13, e14, e15, e16, e21, e23, e24, e31, e32, e41, e42, e51, e61, if_true, if_false, eq_self, tc0], fun th => by simp only [f_X5_sign_c42, ofP3 mnow hk, q, ob_n, og_n, fails0n, fails1n, refuse0n, refuse1n, os_ln, os_rn, tf0, tf1, tf2, tf3, i10, i20, i30, im0, e12, e13, e14, e15, e16, e21, e23, e24, e31, e32, e41, e42, e51, e61, if_true, if_false, eq_self, tc0]⟩
      · have hm : ¬ nI b = (-1 : Int32) := nI_ne_m1 (by omega)
        have hib := inbN (k := b) (N := 8) (by omega) (by decide)
        have hcb := clN (k := b) (by omega)
        have ha0 := (hB b hb).1
        have hb8 : b < 8 := by omega
        by_cases h : g_kin now b = 0
        · rcases ht with rfl | rfl
          · exact ⟨102, by simp only [f_X4_sign_c33, hpl, q, hm, hib, hcb, h, ob_n, og_n, fails0n, fails1n, refuse0n, refuse1n, os_ln, os_rn, tf0, tf1, tf2, tf3, i10, i20, i30, im0, e12, e13, e14, e15, e16, e21, e23, e24, e31, e32, e41, e42, e51, e61, if_true, if_false, eq_self, tc0], fun th => by simp only [f_X5_sign_c42, ofP3 mnow hk, q, hm, of0 mnow hb8, ha0, h, ob_n, og_n, fails0n, fails1n, refuse0n, refuse1n, os_ln, os_rn, tf0, tf1, tf2, tf3, i10, i20, i30, im0, e12, e13, e14, e15, e16, e21, e23, e24, e31, e32, e41, e42, e51, e61, if_true, if_false, eq_self, tc0]⟩
          · exact ⟨70, by simp only [f_X4_sign_c33, hpl, q, hm, hib, hcb, h, ob_n, og_n, fails0n, fails1n, refuse0n, refuse1n, os_ln, os_rn, tf0, tf1, tf2, tf3, i10, i20, i30, im0, e12, e13, e14, e15, e16, e21, e23, e24, e31, e32, e41, e42, e51, e61, if_true, if_false, eq_self, tc0], fun th => by simp only [f_X5_sign_c42, ofP3 mnow hk, q, hm, of0 mnow hb8, ha0, h, ob_n, og_n, fails0n, fails1n, refuse0n, refuse1n, os_ln, os_rn, tf0, tf1, tf2, tf3, i10, i20, i30, im0, e12, e13, e14, e15, e16, e21, e23, e24, e31, e32, e41, e42, e51, e61, if_true, if_false, eq_self, tc0]⟩
        · rcases ht with rfl | rfl
          · exact ⟨97, by simp only [f_X4_sign_c33, hpl, q, hm, hib, hcb, h, ob_n, og_n, fails0n, fails1n, refuse0n, refuse1n, os_ln, os_rn, tf0, tf1, tf2, tf3, i10, i20, i30, im0, e12, e13, e14, e15, e16, e21, e23, e24, e31, e32, e41, e42, e51, e61, if_true, if_false, eq_self, tc0], fun th => by simp only [f_X5_sign_c42, ofP3 mnow hk, q, hm, of0 mnow hb8, ha0, h, ob_n, og_n, fails0n, fails1n, refuse0n, refuse1n, os_ln, os_rn, tf0, tf1, tf2, tf3, i10, i20, i30, im0, e12, e13, e14, e15, e16, e21, e23, e24, e31, e32, e41, e42, e51, e61, if_true, if_false, eq_self, tc0]⟩
          · exact ⟨65, by simp only [f_X4_sign_c33, hpl, q, hm, hib, hcb, h, ob_n, og_n, fails0n, fails1n, refuse0n, refuse1n, os_ln, os_rn, tf0, tf1, tf2, tf3, i10, i20, i30, im0, e12, e13, e14, e15, e16, e21, e23, e24, e31, e32, e41, e42, e51, e61, if_true, if_false, eq_self, tc0], fun th => by simp only [f_X5_sign_c42, ofP3 mnow hk, q, hm, of0 mnow hb8, ha0, h, ob_n, og_n, fails0n, fails1n, refuse0n, refuse1n, os_ln, os_rn, tf0, tf1, tf2, tf3, i10, i20, i30, im0, e12, e13, e14, e15, e16, e21, e23, e24, e31, e32, e41, e42, e51, e61, if_true, if_false, eq_self, tc0]⟩
    by_cases hq : Op.cmpValue (FP.fcmp (noiF (g_kin now) (g_lou now) (g_pit now) (nI k)) (g_lim now k)) .l ≤ 0
    · obtain ⟨v, v1, v2⟩ := tail 0 (Or.inl rfl)
      refine hstep v ?_ ?_
      · simp only [f_L_sign, f_X4_sign, f_X4_hindranceOfPitchNumber, c1, n1, hik, hck, hq, v1, ob_n, og_n, fails0n, fails1n, refuse0n, refuse1n, os_ln, os_rn, tf0, tf1, tf2, tf3, i10, i20, i30, im0, e12, e13, e14, e15, e16, e21, e23, e24, e31, e32, e41, e42, e51, e61, if_true, if_false, eq_self, tc0]
      · simp only [f_X5_sign, f_X5_sign_c14, c2, n2, hlim, hq, v2, ob_n, og_n, fails0n, fails1n, refuse0n, refuse1n, os_ln, os_rn, tf0, tf1, tf2, tf3, i10, i20, i30, im0, e12, e13, e14, e15, e16, e21, e23, e24, e31, e32, e41, e42, e51, e61, if_true, if_false, eq_self, tc0]
    · obtain ⟨v, v1, v2⟩ := tail 1 (Or.inr rfl)
      refine hstep v ?_ ?_
      · simp only [f_L_sign, f_X4_sign, f_X4_hindranceOfPitchNumber, c1, n1, hik, hck, hq, v1, ob_n, og_n, fails0n, fails1n, refuse0n, refuse1n, os_ln, os_rn, tf0, tf1, tf2, tf3, i10, i20, i30, im0, e12, e13, e14, e15, e16, e21, e23, e24, e31, e32, e41, e42, e51, e61, if_true, if_false, eq_self, tc0]
      · simp only [f_X5_sign, f_X5_sign_c14, c2, n2, hlim, hq, v2, ob_n, og_n, fails0n, fails1n, refuse0n, refuse1n, os_ln, os_rn, tf0, tf1, tf2, tf3, i10, i20, i30, im0, e12, e13, e14, e15, e16, e21, e23, e24, e31, e32, e41, e42, e51, e61, if_true, if_false, eq_self, tc0]
end READS
