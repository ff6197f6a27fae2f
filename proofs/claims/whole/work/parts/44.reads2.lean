/-! the law's other calls, on both sides -/
theorem f2d_ok {b : UInt32} (h : FP.Core.fIsNaN b = false) : n64 (FP.f2d b) = true ∧ Op.cmpValue (FP.dcmp (FP.f2d b) (FP.f2d b)) .l = 0 := by
  have e : FP.f2d b = FP.Core.f2d b := by
    show (if FP.Core.fIsNaN b then _ else _) = _
    rw [h]; rfl
  have h2 := FP.Core.f2d_out h
  rw [← e] at h2
  have h3 := (FP.Core.notNaN_iff _).mp h2
  refine ⟨n64_of ((FP.Core.ne_nan _).mp h3), ?_⟩
  show Op.cmpValue (FP.Core.dcmp (FP.f2d b) (FP.f2d b)) .l = 0
  rw [FP.Core.dcmp_self h3]; rfl
theorem nn32 {b : UInt32} (h : b.toNat < 2139095040) : FP.Core.fIsNaN b = false := (FP.Core.notNaN_iff32 b).mpr (not_nan32 h)
theorem f2d_le {h : UInt32} (hh : h.toNat ≤ 1317011456) : (FP.f2d h).toNat ≤ 4742290407621132288 := by
  have e : FP.f2d h = FP.Core.f2d h := by
    show (if FP.Core.fIsNaN h then _ else _) = _
    rw [nn32 (by omega)]; rfl
  rw [e]
  have e1 : (FP.Core.f2d h).toNat = FP.Core.convert FP.Core.b32 FP.Core.b64 h.toNat := FP.Core.toNat_of64 (FP.Core.round_fits FP.Core.good_b64 _)
  obtain ⟨c, q, a1, a2, a3⟩ := fl_dec FP.Core.good_b32 (x := h.toNat) (by rw [i32]; omega)
  have hq := a2.2.1
  rw [q32] at hq
  have hd : FP.Core.decode FP.Core.b64 (FP.Core.f2d h).toNat = FP.Core.roundRatio FP.Core.b64 false c 1 q := by
    rw [e1]
    unfold FP.Core.convert
    rw [FP.Core.decode_enc FP.Core.good_b64 (FP.Core.round_fits FP.Core.good_b64 _), a1]
    rfl
  refine fl_le FP.Core.good_b64 hd (FP.Core.lt_full64 _) (by decide) (Int.le_refl _) (by rw [q64]; omega) ?_
  rw [Int.sub_self, Int.toNat_zero, Nat.pow_zero, Nat.mul_one, Nat.mul_one]
  have e2 := FP.Core.inUnits_move c (q := q) (e := FP.Core.b64.qmin) (r := FP.Core.b32.qmin) (by rw [q32, q64]; decide) (by rw [q32]; exact hq)
  rw [e2]
  have e3 : FP.Core.inUnits c q FP.Core.b32.qmin = U32 h.toNat := a3
  rw [e3]
  refine Nat.le_trans (Nat.mul_le_mul_right _ (U32_le.mpr hh)) ?_
  decide +kernel
def blv (i : Nat) : Nat := ([0, 4742290407621132288, 4746794007248502784, 4749045807062188032, 4751297606875873280, 4752423506782715904, 4753549406689558528, 4754675306596401152, 4755801206503243776] : List Nat).getD i 0
theorem blv_ok : ∀ i, i < 8 → U64 (blv i) + U64 4742290407621132288 ≤ U64 (blv (i + 1)) := by decide +kernel
theorem blv_lt : ∀ i, i < 9 → blv i < 4800000000000000000 := by decide +kernel
theorem i2d_ok : ∀ n, n < 9 → n = 0 ∨ (4607182418800017408 ≤ (FP.i2d (nI n)).toNat ∧ (FP.i2d (nI n)).toNat < 9218868437227405312) := by decide +kernel
theorem mean_eq {now : SV} {mnow : Nat → Int32} {n w : Nat} {ln : Nat → Nat} (hR : RV now mnow n w ln) (h0n : 0 < n) (thr : Int32) : ∀ (m fuel i : Nat) (x : UInt64), i + m = 8 → m < fuel → x.toNat ≤ blv i → ∃ v, f_X4_meanBits_c25 now fuel x (nI i) = some (.inr v) ∧ (i ≤ n → f_X5_meanBits_c28 mnow fuel x (nI i) thr = some (v, thr)) := by
  obtain ⟨hA, h0, hc, hP, hL, hC, hS, hB, hK, hF, hW, hI, hG, hE, hN, hD⟩ := id hR
  have hn8 := hA.2.1
  have hbx : g_buskers now = nI n := hA.1
  have hm2 := hA.2.2
  have fin : ∀ (x : UInt64), x.toNat < 4800000000000000000 → n64 (FP.ddiv x (FP.i2d (nI n))) = true ∧ f_X0_ofDouble (FP.ddiv x (FP.i2d (nI n))) = some (FP.ddiv x (FP.i2d (nI n))).toInt64 ∧ f_Jxe99ae_doubleToLongBits_ccdee (FP.ddiv x (FP.i2d (nI n))) = some (FP.ddiv x (FP.i2d (nI n))).toInt64 := by
    intro x hx
    obtain ⟨d1, d2⟩ := (i2d_ok n (by omega)).resolve_left (by omega)
    have hle : (FP.ddiv x (FP.i2d (nI n))).toNat ≤ x.toNat := by
      refine ddiv_le (by omega) d2 (by omega) (Nat.mul_le_mul_left _ ?_)
      have : U64 4607182418800017408 = 2 ^ 1074 := by decide +kernel
      rw [← this]
      exact U64_le.mpr d1
    exact ⟨n64_lt (by omega), ofDouble_n (by omega), dToL_n (by omega)⟩
  intro m
  induction m with
  | zero =>
    intro fuel i x hi hf hx
    obtain ⟨fuel, rfl⟩ : ∃ z, fuel = z + 1 := ⟨fuel - 1, by omega⟩
    have hb := blv_lt i (by omega)
    obtain ⟨f1, f2, f3⟩ := fin x (by omega)
    refine ⟨(FP.ddiv x (FP.i2d (nI n))).toInt64, ?_, fun h => ?_⟩
    · unfold f_X4_meanBits_c25
      rw [if_pos (show (8 : Int32) ≤ nI i from nI_le (a := 8) (by omega) (by omega)), hbx, f1, og_t, f2, ob_s]
    · unfold f_X5_meanBits_c28
      rw [ib2, og_t, tc2, hm2, if_pos (nI_le (by omega) (by omega)), og_t, f1, og_t, f3, ob_s]
  | succ m ih =>
    intro fuel i x hi hf hx
    obtain ⟨fuel, rfl⟩ : ∃ z, fuel = z + 1 := ⟨fuel - 1, by omega⟩
    have h8 : ¬ (8 : Int32) ≤ nI i := nI_ge (b := 8) (by omega) (by decide)
    have hb := blv_lt i (by omega)
    by_cases hin : i < n
    · have hh := (hF i (by omega)).1
      have hfd := f2d_le hh
      have hgn := (f2d_ok (nn32 (b := g_hat now i) (by omega))).1
      have hb1 := blv_lt (i + 1) (by omega)
      have hsum : (FP.dadd x (FP.f2d (g_hat now i))).toNat ≤ blv (i + 1) := by
        refine dadd_le (by omega) (by omega) (Nat.le_trans ?_ (blv_ok i (by omega)))
        exact Nat.add_le_add (U64_le.mpr hx) (U64_le.mpr hfd)
      obtain ⟨v, v1, v2⟩ := ih fuel (i + 1) _ (by omega) (by omega) hsum
      have hs := n64_lt (v := FP.dadd x (FP.f2d (g_hat now i))) (by omega)
      refine ⟨v, ?_, fun h => ?_⟩
      · unfold f_X4_meanBits_c25
        rw [if_neg h8, hbx, has_T hn8 hin, ob_s, if_neg n10, inbN (by omega) (by decide), og_t, clN (by omega), hgn, og_t, hs, og_t, nI_1]
        exact v1
      · unfold f_X5_meanBits_c28
        rw [ib2, og_t, tc2, hm2, if_neg (nI_ge (by omega) (by omega)), fo2 mnow (by omega) (hB i hin).2.2.1 (by omega), ob_s, hgn, og_t, hs, og_t, nI_1]
        exact v2 (by omega)
    · obtain ⟨f1, f2, f3⟩ := fin x (by omega)
      have cls : ∀ (m fuel i : Nat), i + m = 8 → n ≤ i → m < fuel → f_X4_meanBits_c25 now fuel x (nI i) = some (.inr (FP.ddiv x (FP.i2d (nI n))).toInt64) := by
        intro m
        induction m with
        | zero =>
          intro fuel i hi hni hf
          obtain ⟨fuel, rfl⟩ : ∃ z, fuel = z + 1 := ⟨fuel - 1, by omega⟩
          unfold f_X4_meanBits_c25
          rw [if_pos (show (8 : Int32) ≤ nI i from nI_le (a := 8) (by omega) (by omega)), hbx, f1, og_t, f2, ob_s]
        | succ m ih2 =>
          intro fuel i hi hni hf
          obtain ⟨fuel, rfl⟩ : ∃ z, fuel = z + 1 := ⟨fuel - 1, by omega⟩
          unfold f_X4_meanBits_c25
          rw [if_neg (show ¬ (8 : Int32) ≤ nI i from nI_ge (b := 8) (by omega) (by decide)), hbx, has_F hn8 (by omega) hni, ob_s, if_pos rfl, nI_1]
          exact ih2 fuel (i + 1) (by omega) (by omega) (by omega)
      refine ⟨(FP.ddiv x (FP.i2d (nI n))).toInt64, cls (m + 1) (fuel + 1) i (by omega) (by omega) (by omega), fun h => ?_⟩
      unfold f_X5_meanBits_c28
      rw [ib2, og_t, tc2, hm2, if_pos (nI_le (by omega) (by omega)), og_t, f1, og_t, f3, ob_s]
theorem same_eq {now : SV} {mnow : Nat → Int32} {n w : Nat} {ln : Nat → Nat} (hR : RV now mnow n w ln) {x : SV} (hk : g_kin x = g_kin now) (hl : g_lou x = g_lou now) (hp : g_pit x = g_pit now) (hrow : isRow (g_kin now) (g_lou now) (g_pit now) (g_row x)) : ∀ (m fuel i : Nat), i + m = 8 → m < fuel → f_X4_isNoiseTheSameTwice_c9 fuel (nI i) x = some (1, x) := by
  obtain ⟨hA, h0, hc, hP, hL, hC, hS, hB, hK, hF, hW, hI, hG, hE, hN, hD⟩ := id hR
  have hn8 := hA.2.1
  intro m
  induction m with
  | zero =>
    intro fuel i hi hf
    obtain ⟨fuel, rfl⟩ : ∃ z, fuel = z + 1 := ⟨fuel - 1, by omega⟩
    unfold f_X4_isNoiseTheSameTwice_c9
    rw [if_pos (show (8 : Int32) ≤ nI i from nI_le (a := 8) (by omega) (by omega))]
  | succ m ih =>
    intro fuel i hi hf
    obtain ⟨fuel, rfl⟩ : ∃ z, fuel = z + 1 := ⟨fuel - 1, by omega⟩
    obtain ⟨n1, -, n3, -⟩ := noise_eq hn8 hB hK hW (nI i)
    unfold f_X4_isNoiseTheSameTwice_c9
    rw [if_neg (show ¬ (8 : Int32) ≤ nI i from nI_ge (b := 8) (by omega) (by decide)), hk, hl, hp, n1, ob_s, byRow_eq hn8 hB hK hW hrow (by omega), ob_s, if_pos ((fcmp_eq0 (by omega) (by omega) .l).mpr rfl), nI_1]
    exact ih fuel (i + 1) (by omega) (by omega)
theorem nob_share {now : SV} {mnow : Nat → Int32} {n w : Nat} {ln : Nat → Nat} (hR : RV now mnow n w ln) {x : SV} (hp : g_pit x = g_pit now) : ∀ (m fuel i : Nat), i + m = 8 → m < fuel → f_X4_isNobodySharing_c2 x fuel (nI i) = some 1 := by
  obtain ⟨hA, h0, hc, hP, hL, hC, hS, hB, hK, hF, hW, hI, hG, hE, hN, hD⟩ := id hR
  have hn8 := hA.2.1
  intro m
  induction m with
  | zero =>
    intro fuel i hi hf
    obtain ⟨fuel, rfl⟩ : ∃ z, fuel = z + 1 := ⟨fuel - 1, by omega⟩
    unfold f_X4_isNobodySharing_c2
    rw [if_pos (show (8 : Int32) ≤ nI i from nI_le (a := 8) (by omega) (by omega))]
  | succ m ih =>
    intro fuel i hi hf
    obtain ⟨fuel, rfl⟩ : ∃ z, fuel = z + 1 := ⟨fuel - 1, by omega⟩
    unfold f_X4_isNobodySharing_c2
    rw [if_neg (show ¬ (8 : Int32) ≤ nI i from nI_ge (b := 8) (by omega) (by decide)), inbN (by omega) (by decide), og_t, clN (by omega), hp, nI_1]
    have ih := ih fuel (i + 1) (by omega) (by omega)
    rcases hI i (by omega) with q | ⟨k, hk, q⟩
    · rw [if_pos q]; exact ih
    · rw [q, if_neg (nI_ne_m1 (by omega))]
      have : f_X3_playerOn (g_pit now) (nI k) = some (nI i) := by
        rcases hW k hk with ⟨-, z⟩ | ⟨b, z1, z2, z3, z4⟩
        · exact absurd q (z i (by omega))
        · rw [player_eq hn8 hW hk, z2, z4 i (by omega) q]
      rw [this, ob_s, if_pos rfl]; exact ih
theorem well_m2 {now : SV} {mnow : Nat → Int32} {n w : Nat} {ln : Nat → Nat} (hR : RV now mnow n w ln) (thr : Int32) : ∀ (m fuel i : Nat), i + m = 8 → m < fuel → f_X5_isWell_c92 mnow fuel 1 (nI i) thr = some (1, thr) := by
  obtain ⟨hA, h0, hc, hP, hL, hC, hS, hB, hK, hF, hW, hI, hG, hE, hN, hD⟩ := id hR
  have hn8 := hA.2.1
  intro m
  induction m with
  | zero =>
    intro fuel i hi hf
    obtain ⟨fuel, rfl⟩ : ∃ z, fuel = z + 1 := ⟨fuel - 1, by omega⟩
    unfold f_X5_isWell_c92
    rw [if_pos (show (8 : Int32) ≤ nI i from nI_le (a := 8) (by omega) (by omega)), isZ1, og_t]
  | succ m ih =>
    intro fuel i hi hf
    obtain ⟨fuel, rfl⟩ : ∃ z, fuel = z + 1 := ⟨fuel - 1, by omega⟩
    have ih := ih fuel (i + 1) (by omega) (by omega)
    unfold f_X5_isWell_c92
    rw [if_neg (show ¬ (8 : Int32) ≤ nI i from nI_ge (b := 8) (by omega) (by decide)), if_neg n10, ofP3 mnow (by omega), ob_s, nI_1]
    rcases who_cases hW (k := i) (by omega) with q | ⟨b, hb, q, hp⟩
    · rw [if_pos q]; exact ih
    · rw [q, if_neg (nI_ne_m1 (by omega)), of4 mnow (by omega), ob_s, (hB b hb).2.2.2.2.1, hp, if_pos rfl]; exact ih
theorem well_m1 {now : SV} {mnow : Nat → Int32} {n w : Nat} {ln : Nat → Nat} (hR : RV now mnow n w ln) (thr : Int32) : ∀ (m fuel i : Nat), i + m = n → m < fuel → f_X5_isWell_c33 mnow fuel 1 (nI i) thr = some (1, thr) := by
  obtain ⟨hA, h0, hc, hP, hL, hC, hS, hB, hK, hF, hW, hI, hG, hE, hN, hD⟩ := id hR
  have hn8 := hA.2.1
  intro m
  induction m with
  | zero =>
    intro fuel i hi hf
    obtain ⟨fuel, rfl⟩ : ∃ z, fuel = z + 1 := ⟨fuel - 1, by omega⟩
    unfold f_X5_isWell_c33
    rw [ib2, og_t, tc2, hA.2.2, if_pos (nI_le (by omega) (by omega))]
    exact well_m2 hR thr 8 4096 0 rfl (by decide)
  | succ m ih =>
    intro fuel i hi hf
    obtain ⟨fuel, rfl⟩ : ∃ z, fuel = z + 1 := ⟨fuel - 1, by omega⟩
    have ih := ih fuel (i + 1) (by omega) (by omega)
    have hin : i < n := by omega
    unfold f_X5_isWell_c33
    rw [ib2, og_t, tc2, hA.2.2, if_neg (nI_ge (by omega) (by omega)), if_neg n10, of4 mnow (by omega), ob_s, (hB i hin).2.2.2.2.1, nI_1]
    rcases hI i (by omega) with q | ⟨k, hk, q⟩
    · rw [if_pos q]; exact ih
    · have hwho : mnow (8 + 4 * k + 3) = nI i := by
        rcases hW k hk with ⟨-, z⟩ | ⟨b, z1, z2, z3, z4⟩
        · exact absurd q (z i (by omega))
        · rw [z2, z4 i (by omega) q]
      have hpl : g_pla now i = -1 := hD i (by omega) (by rw [q]; exact nI_ne_m1 (by omega))
      rw [q, if_neg (nI_ne_m1 (by omega)), ofP3 mnow hk, ob_s, hwho, if_pos rfl, place_eq hn8 hN (by omega), ob_s, hpl, if_pos rfl]; exact ih
section READS2
variable {isv te re de : Int32} {now sna : SV} {len : Int32} {sig : Nat → Int32} {nxt cnt : Int32} {rng : Nat → SV} {kept rea det misv iit mlen merr : Int32} {mnow msav : Nat → Int32} {hst : Nat → Nat → Int32} {inp : Nat → Int32}
theorem S_hat (G : GG isv te re de now sna len sig nxt cnt rng kept rea det misv iit mlen merr mnow msav hst inp) (out : Nat → UInt64) (thr a1 : Int32) : ∃ k out' b, f_L_hat now out a1 = some (k, out') ∧ f_X5_hat thr mnow a1 = some (b, k) ∧ (k = 0 → n64 (FP.f2d b) = true ∧ Op.cmpValue (FP.dcmp (out' 0) (FP.f2d b)) .l = 0) := by
  obtain ⟨hisv, rfl, rfl, rfl, rfl, ⟨n, w, ln, hR⟩, hsv, hin, hH⟩ := G
  obtain ⟨hA, h0, hc, hP, hL, hC, hS, hB, hK, hF, hW, hI, hG, hE, hN, hD⟩ := id hR
  have hn8 := hA.2.1
  have hbx : g_buskers now = nI n := hA.1
  rcases busk_cases hn8 hA.2.2 a1 with ⟨c1, c2⟩ | ⟨b, hb, rfl, c1, c2⟩
  · refine ⟨1, out, FP.fconst0, ?_, ?_, fun e => absurd e (by decide)⟩
    · simp only [f_L_hat, f_X4_hat, f_X4_hindranceOfBuskerNumber, hbx, c1, ob_n, og_n, fails0n, fails1n, refuse0n, refuse1n, os_ln, os_rn, tf0, tf1, tf2, tf3, i10, i20, i30, im0, e12, e13, e14, e15, e16, e21, e23, e24, e31, e32, e41, e42, e51, e61, if_true, if_false, eq_self, tc0]
    · simp only [f_X5_hat, f_X5_hat_c15, c2, ob_n, og_n, fails0n, fails1n, refuse0n, refuse1n, os_ln, os_rn, tf0, tf1, tf2, tf3, i10, i20, i30, im0, e12, e13, e14, e15, e16, e21, e23, e24, e31, e32, e41, e42, e51, e61, if_true, if_false, eq_self, tc0]
  · have hb8 : b < 8 := by omega
    have hib := inbN (k := b) (N := 8) hb8 (by decide)
    have hcb := clN (k := b) (by omega)
    have hh := (hF b hb8).1
    obtain ⟨g1, g2⟩ := f2d_ok (nn32 (b := g_hat now b) (by omega))
    refine ⟨0, vf_upd out 0 (FP.f2d (g_hat now b)), g_hat now b, ?_, ?_, fun _ => ⟨g1, by rw [vupd_eq]; exact g2⟩⟩
    · simp only [f_L_hat, f_X4_hat, f_X4_hindranceOfBuskerNumber, hbx, c1, hib, hcb, g1, ob_n, og_n, fails0n, fails1n, refuse0n, refuse1n, os_ln, os_rn, tf0, tf1, tf2, tf3, i10, i20, i30, im0, e12, e13, e14, e15, e16, e21, e23, e24, e31, e32, e41, e42, e51, e61, if_true, if_false, eq_self, tc0]
    · simp only [f_X5_hat, f_X5_hat_c15, c2, fo2 mnow hb8 (hB b hb).2.2.1 (show (g_hat now b).toNat < 2139095040 by omega), ob_n, og_n, fails0n, fails1n, refuse0n, refuse1n, os_ln, os_rn, tf0, tf1, tf2, tf3, i10, i20, i30, im0, e12, e13, e14, e15, e16, e21, e23, e24, e31, e32, e41, e42, e51, e61, if_true, if_false, eq_self, tc0]
theorem S_below (G : GG isv te re de now sna len sig nxt cnt rng kept rea det misv iit mlen merr mnow msav hst inp) (out : Nat → UInt64) (thr a1 : Int32) : ∃ k out' b, f_L_below now out a1 = some (k, out') ∧ f_X5_below thr mnow a1 = some (b, k) ∧ (k = 0 → n64 (FP.f2d b) = true ∧ Op.cmpValue (FP.dcmp (out' 0) (FP.f2d b)) .l = 0) := by
  obtain ⟨hisv, rfl, rfl, rfl, rfl, ⟨n, w, ln, hR⟩, hsv, hin, hH⟩ := G
  obtain ⟨hA, h0, hc, hP, hL, hC, hS, hB, hK, hF, hW, hI, hG, hE, hN, hD⟩ := id hR
  have hn8 := hA.2.1
  have hbx : g_buskers now = nI n := hA.1
  rcases pitch_cases a1 with ⟨c1, c2⟩ | ⟨k, hk, rfl, c1, c2⟩
  · refine ⟨1, out, FP.fconst0, ?_, ?_, fun e => absurd e (by decide)⟩
    · simp only [f_L_below, f_X4_below, f_X4_hindranceOfPitchNumber, c1, ob_n, og_n, fails0n, fails1n, refuse0n, refuse1n, os_ln, os_rn, tf0, tf1, tf2, tf3, i10, i20, i30, im0, e12, e13, e14, e15, e16, e21, e23, e24, e31, e32, e41, e42, e51, e61, if_true, if_false, eq_self, tc0]
    · simp only [f_X5_below, f_X5_below_c14, c2, ob_n, og_n, fails0n, fails1n, refuse0n, refuse1n, os_ln, os_rn, tf0, tf1, tf2, tf3, i10, i20, i30, im0, e12, e13, e14, e15, e16, e21, e23, e24, e31, e32, e41, e42, e51, e61, if_true, if_false, eq_self, tc0]
  · have hik := inbN (k := k) (N := 8) hk (by decide)
    have hck := clN (k := k) (by omega)
    obtain ⟨n1, n2, n3, -⟩ := noise_eq hn8 hB hK hW (nI k)
    have hl := hL k hk
    have hlim := limitOf_n mnow hk (hP k hk).1 (by omega)
    have hff : FP.Core.FFin (noiF (g_kin now) (g_lou now) (g_pit now) (nI k)) := (FP.Core.fin_bits32 _).mpr (by omega)
    have hnn := FP.Core.fsub_out (nn32 (b := g_lim now k) (by omega)) hff
    have hg : n32 (FP.fsub (g_lim now k) (noiF (g_kin now) (g_lou now) (g_pit now) (nI k))) = true := n32_of ((FP.Core.ne_nan32 _).mp ((FP.Core.notNaN_iff32 _).mp hnn))
    obtain ⟨g1, g2⟩ := f2d_ok hnn
    refine ⟨0, vf_upd out 0 (FP.f2d (FP.fsub (g_lim now k) (noiF (g_kin now) (g_lou now) (g_pit now) (nI k)))), FP.fsub (g_lim now k) (noiF (g_kin now) (g_lou now) (g_pit now) (nI k)), ?_, ?_, fun _ => ⟨g1, by rw [vupd_eq]; exact g2⟩⟩
    · simp only [f_L_below, f_X4_below, f_X4_hindranceOfPitchNumber, c1, hik, hck, n1, hg, ob_n, og_n, fails0n, fails1n, refuse0n, refuse1n, os_ln, os_rn, tf0, tf1, tf2, tf3, i10, i20, i30, im0, e12, e13, e14, e15, e16, e21, e23, e24, e31, e32, e41, e42, e51, e61, if_true, if_false, eq_self, tc0]
      exact (congrArg (fun b => og b _) g1).trans rfl
    · simp only [f_X5_below, f_X5_below_c14, c2, hlim, n2, hg, ob_n, og_n, fails0n, fails1n, refuse0n, refuse1n, os_ln, os_rn, tf0, tf1, tf2, tf3, i10, i20, i30, im0, e12, e13, e14, e15, e16, e21, e23, e24, e31, e32, e41, e42, e51, e61, if_true, if_false, eq_self, tc0]
theorem S_meanBits (G : GG isv te re de now sna len sig nxt cnt rng kept rea det misv iit mlen merr mnow msav hst inp) (out : Nat → Int64) (thr : Int32) : ∃ k out' b, f_L_meanBits now out = some (k, out') ∧ f_X5_meanBits thr mnow = some (b, k) ∧ (k = 0 → out' 0 = b) := by
  obtain ⟨hisv, rfl, rfl, rfl, rfl, ⟨n, w, ln, hR⟩, hsv, hin, hH⟩ := G
  obtain ⟨hA, h0, hc, hP, hL, hC, hS, hB, hK, hF, hW, hI, hG, hE, hN, hD⟩ := id hR
  have hn8 := hA.2.1
  have hbx : g_buskers now = nI n := hA.1
  have hm2 := hA.2.2
  by_cases h9 : n = 0
  · subst h9
    refine ⟨1, out, 0, ?_, ?_, fun e => absurd e (by decide)⟩
    · simp only [f_L_meanBits, f_X4_meanBits, hbx, show ((0 : Int32) < nI 0) = False by decide, ob_n, og_n, fails0n, fails1n, refuse0n, refuse1n, os_ln, os_rn, tf0, tf1, tf2, tf3, i10, i20, i30, im0, e12, e13, e14, e15, e16, e21, e23, e24, e31, e32, e41, e42, e51, e61, if_true, if_false, eq_self, tc0]
    · simp only [f_X5_meanBits, f_X5_meanBits_c16, ib2, tc2, hm2, show (nI 0 = (0 : Int32)) = True by decide, ob_n, og_n, fails0n, fails1n, refuse0n, refuse1n, os_ln, os_rn, tf0, tf1, tf2, tf3, i10, i20, i30, im0, e12, e13, e14, e15, e16, e21, e23, e24, e31, e32, e41, e42, e51, e61, if_true, if_false, eq_self, tc0]
  · have hp : (0 : Int32) < nI n := nI_lt (a := 0) (by omega) (by omega)
    have hne : ¬ nI n = (0 : Int32) := nI_ne0 (by omega) (by omega)
    obtain ⟨v, v1, v2⟩ := mean_eq hR (by omega) 0 8 4096 0 FP.dconst0 rfl (by decide) (by decide +kernel)
    have v1 : f_X4_meanBits_c25 now 4096 FP.dconst0 0 = some (.inr v) := v1
    have v2 : f_X5_meanBits_c28 mnow 4096 FP.dconst0 0 0 = some (v, 0) := v2 (by omega)
    refine ⟨0, vp_updL out 0 v, v, ?_, ?_, fun _ => updL0 _ _⟩
    · unfold f_L_meanBits f_X4_meanBits
      rw [hbx, if_pos hp, v1, ob_s, os_rn, tc0]
    · unfold f_X5_meanBits f_X5_meanBits_c16
      rw [ib2, og_t, tc2, hm2, if_neg hne, fails0, ob_s, if_pos rfl]
      exact v2
theorem S_isWell (G : GG isv te re de now sna len sig nxt cnt rng kept rea det misv iit mlen merr mnow msav hst inp) (thr : Int32) : ∃ v now', f_X4_isWell now = some (v, now') ∧ f_X5_isWell thr mnow = some (v, 0) ∧ GG isv te re de now' sna len sig nxt cnt rng kept rea det misv iit mlen merr mnow msav hst inp := by
  have G0 := G
  obtain ⟨hisv, rfl, rfl, rfl, rfl, ⟨n, w, ln, hR⟩, hsv, hin, hH⟩ := G
  obtain ⟨hA, h0, hc, hP, hL, hC, hS, hB, hK, hF, hW, hI, hG, hE, hN, hD⟩ := id hR
  have hn8 := hA.2.1
  have hbx : g_buskers now = nI n := hA.1
  obtain ⟨row', l1, l2⟩ := layRow_eq hn8 hB hK hW hI hE (g_row now)
  have hR' : RE (s_row now row') mnow := RE_ag ⟨n, w, ln, hR⟩ (ag_row now row') (rowAg_rf _)
  have hsame := same_eq hR (x := s_row now row') rfl rfl rfl l2 8 4096 0 rfl (by decide)
  have hsame : f_X4_isNoiseTheSameTwice_c9 4096 0 (s_row now row') = some (1, s_row now row') := hsame
  have hns := nob_share hR (x := s_row now row') rfl 8 4096 0 rfl (by decide)
  have hns : f_X4_isNobodySharing (s_row now row') = some 1 := hns
  have hhome := home_sum hn8 hE hD
  have hcw := hN.2.2.2
  have hsumx : (nI (cn (homP n (g_pit now) (g_pla now)) 8) + nI (cn (fun b => decide (¬ g_pla now b = -1)) 8)) + nI (cn (fun b => decide (¬ g_pit now b = -1)) 8) = nI n := by
    rw [nI_add, nI_add, hhome]
  have hcls : f_X4_isWell now = some (if sI (g_cmp now) 8 + g_answered now = sI (g_sof now) 8 then 1 else 0, s_row now row') := by
    unfold f_X4_isWell f_X4_isNoiseTheSameTwice
    rw [l1, ob_s, hsame, ob_s, if_neg n10, hns, ob_s, if_neg n10]
    rw [show g_buskers (s_row now row') = g_buskers now from rfl, hbx, show g_pit (s_row now row') = g_pit now from rfl, show g_pla (s_row now row') = g_pla now from rfl, xhome hn8, ob_s, cntWaiting, ob_s, cntPlaying, ob_s, if_pos hsumx, show g_cmp (s_row now row') = g_cmp now from rfl, show g_sof (s_row now row') = g_sof now from rfl, sum8, ob_s, sum8, ob_s, show g_answered (s_row now row') = g_answered now from rfl]
    split <;> rfl
  have hmod : f_X5_isWell thr mnow = some (if sI (g_cmp now) 8 + g_answered now = sI (g_sof now) 8 then 1 else 0, 0) := by
    unfold f_X5_isWell
    rw [mcomplaints hP, ob_s, ib4, og_t, ib5, og_t, tc4, tc5, h0.2.2.1, hS.1]
    by_cases h : sI (g_cmp now) 8 + g_answered now = sI (g_sof now) 8
    · rw [if_pos h, if_pos h]
      exact well_m1 hR 0 n 4096 0 (by omega) (by omega)
    · rw [if_neg h, if_neg h]
      have e1 : f_X5_isWell_c92 mnow 4096 0 0 0 = some (0, 0) := by
        rw [show (4096 : Nat) = 4095 + 1 from rfl]
        unfold f_X5_isWell_c92
        rw [if_neg (show ¬ (8 : Int32) ≤ 0 by decide), if_pos rfl, isZ0, og_t]
      rw [show (4096 : Nat) = 4095 + 1 from rfl]
      unfold f_X5_isWell_c33
      rw [ib2, og_t, if_pos rfl]
      split <;> exact e1
  exact ⟨_, _, hcls, hmod, hisv, rfl, rfl, rfl, rfl, hR', hsv, hin, hH⟩
end READS2
