/-! orders: what hinders them, what they make -/
theorem i2f_ok : ∀ c, c ≤ 120 → (FP.i2f (nI c)).toNat ≤ 1123024896 := by decide +kernel
theorem rf1 (re de a b : Int32) : f_X4_refuse re de a b = some (3, a, b) := rfl
/-- a hindrance -/
def hdr (h : Int32) : Prop := h = 1 ∨ h = 2 ∨ h = 3
theorem hdr1 : hdr 1 := Or.inl rfl
theorem hdr2 : hdr 2 := Or.inr (Or.inl rfl)
theorem hdr3 : hdr 3 := Or.inr (Or.inr rfl)
def hdA (h : Int32) : Prop := h = 1 ∨ h = 3
theorem hdA1 : hdA 1 := Or.inl rfl
theorem hdA3 : hdA 3 := Or.inr rfl
def hdB (h : Int32) : Prop := h = 2 ∨ h = 3
theorem hdB2 : hdB 2 := Or.inl rfl
theorem hdB3 : hdB 3 := Or.inr rfl
def hdL (h : Int32) : Prop := h = 1 ∨ h = 2
theorem hdL1 : hdL 1 := Or.inl rfl
theorem hdL2 : hdL 2 := Or.inr rfl
theorem hdA_r {h : Int32} (q : hdA h) : hdr h := q.elim Or.inl (fun q => Or.inr (Or.inr q))
theorem hdr_ne {h : Int32} (q : hdr h) : ¬ h = 0 := by rcases q with rfl | rfl | rfl <;> decide
section ORD
variable {T : Nat} {x : SV} {n w : Nat} {ln : Nat → Nat}
theorem J_crowd (h : JV T x n w ln) (a : Int32) : f_X4_hindranceOfCrowd a = some 2 ∨ ∃ c, c ≤ 50 ∧ a = nI c ∧ f_X4_hindranceOfCrowd a = some 0 ∧ IV T (s_crowd x a) := by
  rcases range_cases (lo := 0) (hi := 50) (by decide) (by decide) a with q | ⟨c, -, h2, rfl, q⟩
  · left; unfold f_X4_hindranceOfCrowd; rw [show f_X4_hindranceOfRange a 0 50 = some 2 from q]; rfl
  · right
    refine ⟨c, h2, rfl, ?_, n, w, ln, T_crowd h h2⟩
    unfold f_X4_hindranceOfCrowd; rw [show f_X4_hindranceOfRange (nI c) 0 50 = some 0 from q]; rfl
theorem J_limit (h : JV T x n w ln) (a1 a2 : Int32) : (∃ hd, f_X4_hindranceOfLimit a1 a2 = some hd ∧ hdL hd) ∨ ∃ k c, k < 8 ∧ 40 ≤ c ∧ c ≤ 120 ∧ a1 = nI k ∧ a2 = nI c ∧ f_X4_hindranceOfLimit a1 a2 = some 0 ∧ IV T (s_lim x (vf_upd (g_lim x) k (FP.i2f a2))) := by
  unfold f_X4_hindranceOfLimit
  rcases pitch_cases a1 with p | ⟨k, hk, rfl, p⟩
  · left; exact ⟨1, by rw [p]; rfl, hdL1⟩
  · rw [p, ob_s, if_neg n10]
    rcases range_cases (lo := 40) (hi := 120) (by decide) (by decide) a2 with q | ⟨c, h1, h2, rfl, q⟩
    · left; exact ⟨2, by rw [show f_X4_hindranceOfRange a2 40 120 = some 2 from q]; rfl, hdL2⟩
    · right
      refine ⟨k, c, hk, h1, h2, rfl, rfl, ?_, n, w, ln, T_limit h hk (i2f_ok c h2)⟩
      rw [show f_X4_hindranceOfRange (nI c) 40 120 = some 0 from q]; rfl
theorem J_busker (h : JV T x n w ln) (re de a1 a2 : Int32) : (∃ hd re' de', f_X4_hindranceOfBusker re de x a1 a2 = some (hd, re', de') ∧ hdB hd) ∨ ∃ l, n < 8 ∧ (a1 = 0 ∨ a1 = 1) ∧ 1 ≤ l ∧ l ≤ 9 ∧ a2 = nI l ∧ f_X4_hindranceOfBusker re de x a1 a2 = some (0, re, de) ∧ f_X3_addBusker (g_buskers x) (g_kin x) (g_lou x) a1 a2 = some (nI n, nI (n + 1), upd (g_kin x) n a1, upd (g_lou x) n a2) ∧ IV T (s_lou (s_kin (s_buskers x (nI (n + 1))) (upd (g_kin x) n a1)) (upd (g_lou x) n a2)) := by
  obtain ⟨⟨hb, hn8⟩, -⟩ := id h
  have c11 : (∃ hd re' de', f_X4_hindranceOfBusker_c11 x a2 re de = some (hd, re', de') ∧ hdB hd) ∨ ∃ l, n < 8 ∧ 1 ≤ l ∧ l ≤ 9 ∧ a2 = nI l ∧ f_X4_hindranceOfBusker_c11 x a2 re de = some (0, re, de) := by
    unfold f_X4_hindranceOfBusker_c11
    rcases pk_ix a2 (n := 10) (by decide) with q | q | ⟨l, hl, rfl⟩
    · left; exact ⟨2, re, de, by rw [if_pos (by
        rw [Int32.lt_iff_toInt_lt] at q ⊢
        have : (1 : Int32).toInt = 1 := rfl
        have : (0 : Int32).toInt = 0 := rfl
        omega)], hdB2⟩
    · left
      refine ⟨2, re, de, ?_, hdB2⟩
      have q1 : ¬ a2 < 1 := by
        rw [Int32.lt_iff_toInt_lt]
        rw [Int32.le_iff_toInt_le] at q
        have : (1 : Int32).toInt = 1 := rfl
        have : (nI 10).toInt = 10 := rfl
        omega
      have q2 : ¬ a2 ≤ 9 := by
        rw [Int32.le_iff_toInt_le]
        rw [Int32.le_iff_toInt_le] at q
        have : (9 : Int32).toInt = 9 := rfl
        have : (nI 10).toInt = 10 := rfl
        omega
      rw [if_neg q1, if_neg q2]
    · by_cases h0 : l = 0
      · left; exact ⟨2, re, de, by rw [h0, if_pos (by decide)], hdB2⟩
      · rw [if_neg (show ¬ nI l < 1 from nI_nlt (b := 1) (by omega) (by omega)), if_pos (show nI l ≤ 9 from nI_le (b := 9) (by omega) (by decide)), hb]
        by_cases h8 : n < 8
        · right
          exact ⟨l, h8, by omega, by omega, rfl, by rw [if_pos (show nI n < 8 from nI_lt (b := 8) h8 (by decide))]⟩
        · left
          exact ⟨3, 1, 8, by rw [if_neg (show ¬ nI n < 8 from nI_nlt (b := 8) (by omega) (by omega)), rf1]; rfl, hdB3⟩
  have hk : a1 = 0 ∨ a1 = 1 ∨ (¬ a1 = 0 ∧ ¬ a1 = 1) := by
    by_cases h0 : a1 = 0
    · exact Or.inl h0
    · by_cases h1 : a1 = 1
      · exact Or.inr (Or.inl h1)
      · exact Or.inr (Or.inr ⟨h0, h1⟩)
  have fin : (a1 = 0 ∨ a1 = 1) → f_X4_hindranceOfBusker re de x a1 a2 = f_X4_hindranceOfBusker_c11 x a2 re de := by
    rintro (rfl | rfl)
    · unfold f_X4_hindranceOfBusker; rw [if_pos rfl]
    · unfold f_X4_hindranceOfBusker; rw [if_neg n10, if_pos rfl]
  have main : (a1 = 0 ∨ a1 = 1) → (∃ hd re' de', f_X4_hindranceOfBusker re de x a1 a2 = some (hd, re', de') ∧ hdB hd) ∨ ∃ l, n < 8 ∧ (a1 = 0 ∨ a1 = 1) ∧ 1 ≤ l ∧ l ≤ 9 ∧ a2 = nI l ∧ f_X4_hindranceOfBusker re de x a1 a2 = some (0, re, de) ∧ f_X3_addBusker (g_buskers x) (g_kin x) (g_lou x) a1 a2 = some (nI n, nI (n + 1), upd (g_kin x) n a1, upd (g_lou x) n a2) ∧ IV T (s_lou (s_kin (s_buskers x (nI (n + 1))) (upd (g_kin x) n a1)) (upd (g_lou x) n a2)) := by
    intro ha
    rw [fin ha]
    rcases c11 with q | ⟨l, q1, q2, q3, q4, q5⟩
    · exact Or.inl q
    · right
      refine ⟨l, q1, ha, q2, q3, q4, q5, ?_, n + 1, w, ln, ?_⟩
      · unfold f_X3_addBusker
        rw [hb, if_neg (nI_pos (by omega)), if_pos (show nI n < 8 from nI_lt (b := 8) q1 (by decide)), inbN q1 (by decide), og_t, og_t, clN (by omega), nI_1, nI_pred]
      · rw [q4]; exact T_busker h q1 ha q2 q3
  rcases hk with q | q | ⟨q1, q2⟩
  · exact main (Or.inl q)
  · exact main (Or.inr q)
  · left; exact ⟨2, re, de, by unfold f_X4_hindranceOfBusker; rw [if_neg q1, if_neg q2], hdB2⟩
theorem J_join (h : JV T x n w ln) (re de a : Int32) : (∃ hd re' de', f_X4_hindranceOfJoin re de x a = some (hd, re', de') ∧ hdA hd) ∨ ∃ b, b < n ∧ a = nI b ∧ f_X4_hindranceOfJoin re de x a = some (0, re, de) ∧ f_X3_putInLine (g_pla x) a = some (nI (w + 1), upd (g_pla x) b (nI w)) ∧ w < 8 ∧ IV T (s_pla x (upd (g_pla x) b (nI w))) := by
  obtain ⟨hA, hc, hL, hO, hS, hK, hF, hI, hJ, hG, hGj, hE, hN, hD, hY, hZ⟩ := id h
  obtain ⟨hb, hn8⟩ := hA
  unfold f_X4_hindranceOfJoin
  rw [hb]
  rcases busk_cases hn8 a with q | ⟨b, hbn, rfl, q⟩
  · left; exact ⟨1, re, de, by rw [q]; rfl, hdA1⟩
  · have hb8 : b < 8 := by omega
    rw [q, ob_s, if_neg n10, inbN hb8 (by decide), og_t, og_t, og_t, og_t, clN (by omega)]
    by_cases h1 : g_pla x b = -1
    · rw [if_pos h1]
      by_cases h2 : g_pit x b = -1
      · rw [if_pos h2]
        have hwe := (hF b hb8).2
        have hlt := fcmp_lt0 (x := g_wea x b) (y := FP.fconst1) (by omega) (by decide) .l
        rw [fc1] at hlt
        unfold f_X3_isSnapped
        rw [inbN hb8 (by decide), og_t, clN (by omega)]
        by_cases h3 : Op.cmpValue (FP.fcmp (g_wea x b) FP.fconst1) .l < 0
        · right
          have hT := T_join h hbn h1 h2 (hlt.mp h3)
          have hw8 := T_room h hb8 h1
          refine ⟨b, hbn, rfl, by rw [if_pos h3]; rfl, ?_, hw8, n, w + 1, _, hT⟩
          unfold f_X3_putInLine
          rw [cntWaiting, hN.2.2, ob_s, inbN hb8 (by decide), og_t, clN (by omega), cntWaiting, hT.2.2.2.2.2.2.2.2.2.2.2.2.1.2.2, ob_s]
        · left; exact ⟨3, 4, nI b, by rw [if_neg h3, ob_s, if_neg n10, rf1]; rfl, hdA3⟩
      · left; exact ⟨3, 3, g_pit x b, by rw [if_neg h2, rf1]; rfl, hdA3⟩
    · left; exact ⟨3, 2, g_pla x b, by rw [if_neg h1, rf1]; rfl, hdA3⟩
theorem J_leave (h : JV T x n w ln) (re de a : Int32) : (∃ hd re' de', f_X4_hindranceOfLeave re de x a = some (hd, re', de') ∧ hdA hd) ∨ ∃ b, b < 8 ∧ f_X4_hindranceOfLeave re de x a = some (0, re, de) ∧ f_X3_sendHomeFrom (g_pit x) a = some (nI b, upd (g_pit x) b (-1)) ∧ IV T (s_pit x (upd (g_pit x) b (-1))) := by
  obtain ⟨hA, hc, hL, hO, hS, hK, hF, hI, hJ, hG, hGj, hE, hN, hD, hY, hZ⟩ := id h
  unfold f_X4_hindranceOfLeave
  rcases pitch_cases a with p | ⟨k, hk, rfl, p⟩
  · left; exact ⟨1, re, de, by rw [p]; rfl, hdA1⟩
  · rw [p, ob_s, if_neg n10]
    rcases pl_cases hE hI hJ hk with ⟨q, -, -⟩ | ⟨b, hb, hb8, hp, q, -⟩
    · left; exact ⟨3, 7, nI k, by rw [q, ob_s, if_pos rfl, rf1]; rfl, hdA3⟩
    · right
      refine ⟨b, hb8, by rw [q, ob_s, if_neg (nI_ne_m1 (by omega))], ?_, n, w, ln, T_home h hb8⟩
      unfold f_X3_sendHomeFrom
      rw [q, ob_s, if_neg (nI_ne_m1 (by omega)), inbN hb8 (by decide), og_t, clN (by omega)]
theorem J_swap (h : JV T x n w ln) (re de a1 a2 : Int32) : (∃ hd re' de', f_X4_hindranceOfSwap re de x a1 a2 = some (hd, re', de') ∧ hdA hd) ∨ ∃ b pit', b < 8 ∧ f_X4_hindranceOfSwap re de x a1 a2 = some (0, re, de) ∧ f_X3_exchange (g_pit x) a1 a2 = some (nI b, pit') ∧ IV T (s_pit x pit') := by
  obtain ⟨hA, hc, hL, hO, hS, hK, hF, hI, hJ, hG, hGj, hE, hN, hD, hY, hZ⟩ := id h
  unfold f_X4_hindranceOfSwap
  rcases pitch_cases a1 with p | ⟨k1, hk1, rfl, p⟩
  · left; exact ⟨1, re, de, by rw [p]; rfl, hdA1⟩
  · rw [p, ob_s, if_neg n10]
    rcases pitch_cases a2 with p2 | ⟨k2, hk2, rfl, p2⟩
    · left; exact ⟨1, re, de, by rw [p2]; rfl, hdA1⟩
    · rw [p2, ob_s, if_neg n10]
      rcases pl_cases hE hI hJ hk1 with ⟨q, -, -⟩ | ⟨b1, hb1, hb18, hp1, q, -⟩
      · left; exact ⟨3, 7, nI k1, by rw [q, ob_s, if_pos rfl, rf1]; rfl, hdA3⟩
      · rw [q, ob_s, if_neg (nI_ne_m1 (by omega))]
        rcases pl_cases hE hI hJ hk2 with ⟨q2, -, -⟩ | ⟨b2, hb2, hb28, hp2, q2, -⟩
        · left; exact ⟨3, 7, nI k2, by rw [q2, ob_s, if_pos rfl, rf1]; rfl, hdA3⟩
        · right
          refine ⟨b2, upd (upd (g_pit x) b1 (nI k2)) b2 (nI k1), hb28, by rw [q2, ob_s, if_neg (nI_ne_m1 (by omega))], ?_, n, w, ln, T_swap h hk1 hk2 hb18 hb28 hp1 hp2⟩
          unfold f_X3_exchange
          rw [q, ob_s, q2, ob_s, if_neg (nI_ne_m1 (by omega)), if_neg (nI_ne_m1 (by omega)), inbN hb18 (by decide), og_t, inbN hb28 (by decide), og_t, clN (by omega), clN (by omega)]
theorem J_answer (h : JV T x n w ln) (re de a : Int32) : (∃ hd re' de', f_X4_hindranceOfAnswer re de x a = some (hd, re', de') ∧ hdA hd) ∨ ∃ c k, c ≤ 99 ∧ k < 8 ∧ f_X4_hindranceOfAnswer re de x a = some (0, re, de) ∧ f_X3_answerComplaints (g_answered x) (g_cmp x) a = some (nI c, g_answered x + g_cmp x k, upd (g_cmp x) k 0) ∧ IV T (s_cmp (s_answered x (g_answered x + g_cmp x k)) (upd (g_cmp x) k 0)) := by
  obtain ⟨hA, hc, hL, hO, hS, hK, hF, hI, hJ, hG, hGj, hE, hN, hD, hY, hZ⟩ := id h
  unfold f_X4_hindranceOfAnswer
  rcases pitch_cases a with p | ⟨k, hk, rfl, p⟩
  · left; exact ⟨1, re, de, by rw [p]; rfl, hdA1⟩
  · rw [p, ob_s, if_neg n10, inbN hk (by decide), og_t, clN (by omega)]
    by_cases q : g_cmp x k = 0
    · left; exact ⟨3, 9, nI k, by rw [if_pos q, rf1]; rfl, hdA3⟩
    · right
      obtain ⟨c, d, h1, -, -, h4, -⟩ := hO k hk
      refine ⟨c, k, h1, hk, by rw [if_neg q], ?_, n, w, ln, T_answer h hk⟩
      unfold f_X3_answerComplaints
      rw [inbN hk (by decide), og_t, og_t, clN (by omega), h4]
theorem J_strings (h : JV T x n w ln) (re de a : Int32) : (∃ hd re' de', f_X4_hindranceOfStrings re de x a = some (hd, re', de') ∧ hdA hd) ∨ ∃ b v, b < n ∧ b < 8 ∧ a = nI b ∧ v.toNat ≤ 1317011456 ∧ f_X4_hindranceOfStrings re de x a = some (0, re, de) ∧ f_X3_buyStrings (g_nws x) (g_hat x) (g_wea x) a = some (upd (g_nws x) b (g_nws x b + 1), vf_upd (g_hat x) b v, vf_upd (g_wea x) b FP.fconst0) ∧ IV T (s_wea (s_hat (s_nws x (upd (g_nws x) b (g_nws x b + 1))) (vf_upd (g_hat x) b v)) (vf_upd (g_wea x) b FP.fconst0)) := by
  obtain ⟨hA, hc, hL, hO, hS, hK, hF, hI, hJ, hG, hGj, hE, hN, hD, hY, hZ⟩ := id h
  obtain ⟨hb, hn8⟩ := hA
  unfold f_X4_hindranceOfStrings
  rw [hb]
  rcases busk_cases hn8 a with q | ⟨b, hbn, rfl, q⟩
  · left; exact ⟨1, re, de, by rw [q]; rfl, hdA1⟩
  · have hb8 : b < 8 := by omega
    rw [q, ob_s, if_neg n10, inbN hb8 (by decide), og_t, og_t, clN (by omega)]
    have hh := (hF b hb8).1
    have hge := fcmp_ge0 (x := g_hat x b) (y := FP.fconst2) (by omega) (by decide) .g
    rw [fc2] at hge
    by_cases h1 : 0 ≤ Op.cmpValue (FP.fcmp (g_hat x b) FP.fconst2) .g
    · right
      have hs := fsub_le (x := g_hat x b) (y := FP.fconst2) (by omega) (by rw [fc2]; exact hge.mp h1)
      refine ⟨b, FP.fsub (g_hat x b) FP.fconst2, hbn, hb8, rfl, by omega, by rw [if_pos h1], ?_, n, w, ln, T_strings h hbn (by omega) _⟩
      unfold f_X3_buyStrings
      rw [inbN hb8 (by decide), clN (by omega), n32_lt (v := FP.fsub (g_hat x b) FP.fconst2) (by omega)]
      simp only [og_t]
    · left; exact ⟨3, 8, FP.f2i (g_hat x b), by rw [if_neg h1, rf1]; rfl, hdA3⟩
theorem J_unrack (h : JV T x n w ln) (re de a : Int32) : (∃ hd re' de', f_X4_hindranceOfUnrack re de x a = some (hd, re', de') ∧ hdA hd) ∨ ∃ b p, b < 8 ∧ p < 3 ∧ a = nI b ∧ f_X4_hindranceOfUnrack re de x a = some (0, re, de) ∧ g_cas x b = nI p ∧ IV T (s_cas x (upd (g_cas x) b (-1))) := by
  obtain ⟨hA, hc, hL, hO, hS, hK, hF, hI, hJ, hG, hGj, hE, hN, hD, hY, hZ⟩ := id h
  obtain ⟨hb, hn8⟩ := hA
  unfold f_X4_hindranceOfUnrack
  rw [hb]
  rcases busk_cases hn8 a with q | ⟨b, hbn, rfl, q⟩
  · left; exact ⟨1, re, de, by rw [q]; rfl, hdA1⟩
  · have hb8 : b < 8 := by omega
    rw [q, ob_s, if_neg n10, inbN hb8 (by decide), og_t, clN (by omega)]
    rcases hG b hb8 with h1 | ⟨p, hp, h1⟩
    · left; exact ⟨3, 13, nI b, by rw [if_pos h1, rf1]; rfl, hdA3⟩
    · right
      exact ⟨b, p, hb8, hp, rfl, by rw [if_neg (by rw [h1]; exact nI_ne_m1 (by omega))], h1, n, w, ln, T_unrack h hb8⟩
theorem J_rack (h : JV T x n w ln) (re de a1 a2 : Int32) : (∃ hd re' de', f_X4_hindranceOfRack re de x a1 a2 = some (hd, re', de') ∧ hdA hd) ∨ ∃ b p, b < 8 ∧ p < 3 ∧ f_X4_hindranceOfRack re de x a1 a2 = some (0, re, de) ∧ f_X3_putCase (g_kin x) (g_cas x) a1 = some (nI p, upd (g_cas x) b (nI p)) ∧ IV T (s_cas x (upd (g_cas x) b (nI p))) := by
  obtain ⟨hA, hc, hL, hO, hS, hK, hF, hI, hJ, hG, hGj, hE, hN, hD, hY, hZ⟩ := id h
  obtain ⟨hb, hn8⟩ := hA
  unfold f_X4_hindranceOfRack
  rw [hb]
  rcases busk_cases hn8 a1 with q | ⟨b, hbn, rfl, q⟩
  · left; exact ⟨1, re, de, by rw [q]; rfl, hdA1⟩
  · have hb8 : b < 8 := by omega
    rw [q, ob_s, if_neg n10, inbN hb8 (by decide), og_t, og_t, og_t, clN (by omega)]
    by_cases h1 : a2 < 0
    · left; exact ⟨1, re, de, by rw [if_pos h1], hdA1⟩
    · rw [if_neg h1]
      by_cases h2 : a2 < 2
      · rw [if_pos h2]
        by_cases h3 : g_cas x b = -1
        · rw [if_pos h3]
          rcases free_cases (g_kin x) (g_cas x) a2 3 4096 0 rfl (by decide) with f | ⟨p, hp, f, hu⟩
          · left; exact ⟨3, 11, a2, by rw [show f_X3_freePlaceOn (g_kin x) (g_cas x) a2 = some (-1) from f, ob_s, if_pos rfl, rf1]; rfl, hdA3⟩
          · have f' : f_X3_freePlaceOn (g_kin x) (g_cas x) a2 = some (nI p) := f
            rw [f', ob_s, if_neg (nI_ne_m1 (by omega))]
            by_cases h4 : g_kin x b = a2
            · right
              refine ⟨b, p, hb8, hp, by rw [if_pos h4], ?_, n, w, ln, T_rack h hbn hp (fun b' hb' => by rw [h4]; exact hu b' hb')⟩
              unfold f_X3_putCase
              rw [inbN hb8 (by decide), og_t, clN (by omega), h4, f', ob_s, og_t, og_t, upd_eq]
            · left; exact ⟨3, 12, a2, by rw [if_neg h4, rf1]; rfl, hdA3⟩
        · left; exact ⟨3, 10, g_cas x b, by rw [if_neg h3, rf1]; rfl, hdA3⟩
      · left; exact ⟨1, re, de, by rw [if_neg h2], hdA1⟩
theorem draw_x {pit : Nat → Int32} {drw a1 : Int32} {b j : Nat} (hb : b < 8) : ∀ (m fuel i : Nat) (pla : Nat → Int32), i + m = 8 → m < fuel → zI pla → ∃ pla1, f_X3_drawFor_c42 a1 fuel (nI b) (nI j) (nI i) drw pit pla = some (nI b, drw + 1, upd pit b a1, upd pla1 b (-1)) ∧ zI pla1 ∧ ∀ b', b' < 8 → pla1 b' = if b' < i then pla b' else if pla b' ≤ nI j then pla b' else pla b' - 1 := by
  intro m
  induction m with
  | zero =>
    intro fuel i pla hi hf hz
    obtain ⟨fuel, rfl⟩ : ∃ z, fuel = z + 1 := ⟨fuel - 1, by omega⟩
    refine ⟨pla, ?_, hz, fun b' hb' => by rw [if_pos (by omega)]⟩
    unfold f_X3_drawFor_c42
    rw [if_pos (show (8 : Int32) ≤ nI i from nI_le (a := 8) (by omega) (by omega)), inbN hb (by decide), og_t, og_t, clN (by omega)]
  | succ m ih =>
    intro fuel i pla hi hf hz
    obtain ⟨fuel, rfl⟩ : ∃ z, fuel = z + 1 := ⟨fuel - 1, by omega⟩
    unfold f_X3_drawFor_c42
    rw [if_neg (show ¬ (8 : Int32) ≤ nI i from nI_ge (b := 8) (by omega) (by decide)), inbN (k := i) (by omega) (by decide), og_t, og_t, og_t, clN (k := i) (by omega), nI_1]
    by_cases h : pla i ≤ nI j
    · rw [if_pos h]
      obtain ⟨pla1, e1, ez, e2⟩ := ih fuel (i + 1) pla (by omega) (by omega) hz
      refine ⟨pla1, e1, ez, fun b' hb' => ?_⟩
      rw [e2 b' hb']
      by_cases e : b' = i
      · rw [e, if_pos (by omega), if_neg (by omega), if_pos h]
      · by_cases e3 : b' < i
        · rw [if_pos (by omega), if_pos e3]
        · rw [if_neg (by omega), if_neg e3]
    · rw [if_neg h]
      obtain ⟨pla1, e1, ez, e2⟩ := ih fuel (i + 1) (upd pla i (pla i - 1)) (by omega) (by omega) (zI_upd hz (by omega) _)
      refine ⟨pla1, e1, ez, fun b' hb' => ?_⟩
      rw [e2 b' hb']
      by_cases e : b' = i
      · rw [e, if_pos (by omega), if_neg (by omega), if_neg h, upd_eq]
      · rw [upd_ne _ _ e]
        by_cases e3 : b' < i
        · rw [if_pos (by omega), if_pos e3]
        · rw [if_neg (by omega), if_neg e3]
theorem J_draw (h : JV T x n w ln) (re de a1 a2 : Int32) : (∃ hd re' de', f_X4_hindranceOfDraw re de x a1 a2 = some (hd, re', de') ∧ hdr hd) ∨ ∃ b pit' pla', b < 8 ∧ f_X4_hindranceOfDraw re de x a1 a2 = some (0, re, de) ∧ f_X3_drawFor (g_draws x) (g_pit x) (g_pla x) a1 a2 = some (nI b, g_draws x + 1, pit', pla') ∧ IV T (s_pla (s_pit (s_draws x (g_draws x + 1)) pit') pla') := by
  obtain ⟨hA, hc, hL, hO, hS, hK, hF, hI, hJ, hG, hGj, hE, hN, hD, hY, hZ⟩ := id h
  have hn8 := hA.2
  have hw8 := qN_le hN
  unfold f_X4_hindranceOfDraw
  rcases pitch_cases a1 with p | ⟨k, hk, rfl, p⟩
  · left; exact ⟨1, re, de, by rw [p]; rfl, hdr1⟩
  · rw [p, ob_s, if_neg n10]
    have hcw : f_X3_countWaiting (g_pla x) = some (nI w) := by rw [cntWaiting, hN.2.2]
    by_cases h1 : a2 < 0
    · left; exact ⟨2, re, de, by rw [if_pos h1], hdr2⟩
    · rw [if_neg h1]
      by_cases h2 : a2 ≤ 99
      · rw [if_pos h2]
        obtain ⟨c, hc9, rfl⟩ := nI_of2 (M := 99) (n := 99) rfl h1 h2
        rcases pl_cases hE hI hJ hk with ⟨q, -, hfree⟩ | ⟨b, hb, hb8, hp, q, -⟩
        · rw [q, ob_s, if_pos rfl, hcw, ob_s]
          by_cases hw0 : w = 0
          · left; exact ⟨3, 6, 0, by rw [if_pos (show nI w = 0 by rw [hw0]; rfl), rf1]; rfl, hdr3⟩
          · right
            have hwp : 0 < w := by omega
            have e0 : ¬ nI w = (0 : Int32) := nI_ne0 hwp (by omega)
            have hrem : nI c - nI c / nI w * nI w = nI (c % w) := pk_rem (by omega) hwp (by omega)
            have hj : c % w < w := Nat.mod_lt _ hwp
            generalize hjd : c % w = j at hrem hj
            obtain ⟨b1, b3⟩ := hN.1 j hj
            have hnz : nz (nI w) = true := decide_eq_true e0
            obtain ⟨pla1, x1, xz, x2⟩ := draw_x (pit := g_pit x) (drw := g_draws x) (a1 := nI k) (b := ln j) (j := j) (by omega) 8 4096 0 (g_pla x) rfl (by decide) hZ.2.2.2.2.2.2.1
            have x1 : f_X3_drawFor_c42 (nI k) 4096 (nI (ln j)) (nI j) 0 (g_draws x) (g_pit x) (g_pla x) = _ := x1
            refine ⟨ln j, upd (g_pit x) (ln j) (nI k), upd pla1 (ln j) (-1), by omega, by rw [if_neg e0], ?_, n, w - 1, fun i => if i < j then ln i else ln (i + 1), T_draw h hj hk hfree (pla1 := pla1) (fun b' hb' => by rw [x2 b' hb', if_neg (by omega)]) xz⟩
            unfold f_X3_drawFor f_X3_drawFor_c20
            rw [hcw, ob_s, if_pos (show (0 : Int32) < nI w from nI_lt (a := 0) hwp (by omega)), hnz, og_t, hrem, waiter_in hn8 hN hj, ob_s, if_neg (nI_ne_m1 (by omega)), inbN (by omega) (by decide), og_t, clN (by omega), b3]
            exact x1
        · left; exact ⟨3, 5, nI b, by rw [q, ob_s, if_neg (nI_ne_m1 (by omega)), ob_s, rf1]; rfl, hdr3⟩
      · left; exact ⟨2, re, de, by rw [if_neg h2], hdr2⟩
/-- hours, of a whole state; the row makes no difference -/
theorem J_hours (h : JV T x n w ln) {H : Nat} (hH : H < 900) : ∃ (g : Nat) (cmp' sof' pit' hrs' : Nat → Int32) (hat' wea' : Nat → UInt32), (∀ (row : Nat → UInt32), ∃ row', f_X3_passHours (g_hour x) (g_crowd x) (g_lim x) (g_cmp x) (g_sof x) (g_kin x) (g_lou x) (g_pit x) (g_hrs x) (g_hat x) (g_wea x) row (nI H) = some (nI g, g_hour x + nI H, cmp', sof', pit', hrs', hat', wea', row')) ∧ (∀ row', JV (T + H) (s_row (s_wea (s_hat (s_hrs (s_pit (s_sof (s_cmp (s_hour x (g_hour x + nI H)) cmp') sof') pit') hrs') hat') wea') row') n w ln) ∧ (∀ b, b < 8 → ∃ m, m ≤ H ∧ hrs' b = g_hrs x b + nI m ∧ (pit' b ≠ -1 → m = H)) ∧ (∀ b, b < 8 → pit' b ≠ -1 → pit' b = g_pit x b) ∧ cP pit' + g = cP (g_pit x) := by
  obtain ⟨g, cmp', sof', pit', hrs', hat', wea', e1, e2, e3, e4, e5⟩ := hours_eq H T 0 4096 (g_cmp x) (g_sof x) (g_pit x) (g_hrs x) (g_hat x) (g_wea x) (by omega) (by omega) h
  refine ⟨g, cmp', sof', pit', hrs', hat', wea', fun row => ?_, fun row' => e2, e3, e4, e5⟩
  obtain ⟨row', q⟩ := e1 row (g_hour x) 0
  refine ⟨row', ?_⟩
  rw [Nat.zero_add, Int32.zero_add] at q
  exact q
theorem J_pass (h : JV T x n w ln) (a : Int32) : f_X4_hindranceOfPass a = some 2 ∨ ∃ H, 1 ≤ H ∧ H ≤ 60 ∧ a = nI H ∧ f_X4_hindranceOfPass a = some 0 := by
  rcases range_cases (lo := 1) (hi := 60) (by decide) (by decide) a with q | ⟨c, h1, h2, rfl, q⟩
  · left; unfold f_X4_hindranceOfPass; rw [show f_X4_hindranceOfRange a 1 60 = some 2 from q]; rfl
  · right
    refine ⟨c, h1, h2, rfl, ?_⟩
    unfold f_X4_hindranceOfPass; rw [show f_X4_hindranceOfRange (nI c) 1 60 = some 0 from q]; rfl
end ORD
