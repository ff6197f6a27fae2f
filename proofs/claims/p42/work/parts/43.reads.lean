/-! what is told of an office that keeps the rules -/
theorem fl_subn {f : FP.Core.Fmt} (hf : FP.Core.Good f) {x y : Nat} (hy : y < FP.Core.infBits f) (hx : x < y) :
    ∃ n e, FP.Core.decode f (FP.Core.sub f x y) = FP.Core.roundRatio f true n 1 e ∧ f.qmin ≤ e ∧ FP.Core.inUnits n e f.qmin = FP.Core.unitsOf f y - FP.Core.unitsOf f x := by
  obtain ⟨c, q, a1, a2, a3⟩ := fl_dec hf (Nat.lt_trans hx hy)
  obtain ⟨d, r, b1, b2, b3⟩ := fl_dec hf hy
  have b4 : FP.Core.fits f (.fin true d r) := b2
  obtain ⟨sg, n, e, p1, p2, p3⟩ := FP.Core.sum_units a2 b4
  have hU : FP.Core.unitsOf f x < FP.Core.unitsOf f y := FP.Core.unitsOf_lt_iff.mpr hx
  have z1 : FP.Core.zval f (.fin false c q) = ((FP.Core.unitsOf f x : Nat) : Int) := by rw [← a3]; rfl
  have z2 : FP.Core.zval f (.fin true d r) = -((FP.Core.unitsOf f y : Nat) : Int) := by rw [← b3]; rfl
  rw [z1, z2] at p3
  have hs : sg = true := by
    cases sg with
    | true => rfl
    | false =>
      exfalso
      simp only [FP.Core.signed, Bool.false_eq_true, if_false] at p3
      omega
  subst hs
  refine ⟨n, e, ?_, p2, ?_⟩
  · unfold FP.Core.sub
    rw [FP.Core.decode_enc hf (FP.Core.round_fits hf _), a1, b1]
    show FP.Core.round f (FP.Core.exactSum (.fin false c q) (.fin true d r)) = _
    rw [p1]
    rfl
  · simp only [FP.Core.signed, if_true] at p3
    omega
theorem fsub_neg {x y : UInt32} (hy : y.toNat < 2139095040) (h : x.toNat < y.toNat) : FP.Core.val32 (FP.fsub x y) ≠ .nan ∧ FP.Core.fkey (FP.fsub x y) < 0 := by
  obtain ⟨n, e, p1, p2, p3⟩ := fl_subn FP.Core.good_b32 (x := x.toNat) (y := y.toNat) (by rw [i32]; exact hy) h
  rw [← fsub_n] at p1
  have hl := FP.Core.lt_full32 (FP.fsub x y)
  have h1 : FP.Core.mag FP.Core.b32 (FP.fsub x y).toNat ≤ FP.Core.infBits FP.Core.b32 := Nat.le_of_not_lt fun h1 => FP.Core.roundRatio_ne_nan FP.Core.b32 true n 1 e (p1 ▸ (FP.Core.decode_nan _).mpr h1)
  have h2 := FP.Core.sgn_decode h1 hl
  rw [p1, FP.Core.sgn_roundRatio] at h2
  have h3 := of_decide_eq_true h2.symm
  have hU : U32 x.toNat < U32 y.toNat := U32_lt.mpr h
  have h4 := FP.Core.mag_ge FP.Core.good_b32 p1 (m := 1) (by decide) (Int.le_refl _) p2 (by rw [i32]; decide) (by
    rw [Int.sub_self, Int.toNat_zero, Nat.pow_zero, Nat.mul_one, Nat.mul_one, p3]
    have e1 : U32 1 = 1 := by decide
    show U32 1 ≤ U32 y.toNat - U32 x.toNat
    omega)
  rw [FP.Core.mag_toNat32] at h1 h4
  rw [i32] at h1
  rw [FP.Core.half_b32] at h3
  have h5 := (FP.fsub x y).toNat_lt
  refine ⟨(FP.Core.ne_nan32 _).mpr h1, ?_⟩
  unfold FP.Core.fkey
  rw [if_pos h3]
  omega
theorem nan_sub {x y : UInt32} (hx : x.toNat < 2139095040) (hy : y.toNat < 2139095040) : n32 (FP.fsub x y) = true ∧ FP.Core.val32 (FP.fsub x y) ≠ .nan := by
  have hff : FP.Core.FFin y := (FP.Core.fin_bits32 _).mpr (by omega)
  have hnn := FP.Core.fsub_out (a := x) ((FP.Core.notNaN_iff32 x).mpr (not_nan32 hx)) hff
  have h2 := (FP.Core.notNaN_iff32 _).mp hnn
  exact ⟨n32_of ((FP.Core.ne_nan32 _).mp h2), h2⟩
theorem sub_lt {x y : UInt32} (hx : x.toNat < 2139095040) (hy : y.toNat < 2139095040) (h : x.toNat < y.toNat) (o : CmpOp) : Op.cmpValue (FP.fcmp (FP.fsub x y) FP.fconst0) o = -1 := by
  obtain ⟨h1, h2⟩ := fsub_neg hy h
  have h0 : FP.Core.val32 FP.fconst0 ≠ .nan := not_nan32 (by rw [fc0]; omega)
  have k0 : FP.Core.fkey FP.fconst0 = 0 := by decide
  show Op.cmpValue (FP.Core.fcmp (FP.fsub x y) FP.fconst0) o = -1
  rw [(FP.Core.fcmp_lt_key h1 h0).mpr (by rw [k0]; exact h2)]; rfl
theorem sub_ge {x y : UInt32} (hx : x.toNat < 2139095040) (h : y.toNat ≤ x.toNat) (o : CmpOp) : 0 ≤ Op.cmpValue (FP.fcmp (FP.fsub x y) FP.fconst0) o := by
  have := fsub_le hx h
  exact (fcmp_ge0 (by omega) (by rw [fc0]; omega) o).mpr (by rw [fc0]; omega)
theorem fToI_nn {x : UInt32} (h : FP.Core.val32 x ≠ .nan) : f_Jxf58ca_floatToIntBits_5c35a x = some x.toInt32 := by
  have e : Op.cmpValue (FP.fcmp x x) .l = 0 := by
    show Op.cmpValue (FP.Core.fcmp x x) .l = 0
    rw [FP.Core.fcmp_self h]; rfl
  unfold f_Jxf58ca_floatToIntBits_5c35a f_Jxf58ca_isNaN_12338
  rw [if_pos e, ob_s, if_pos rfl]
theorem n20 : ¬ (2 : Int32) = 0 := by decide
theorem n21 : ¬ (2 : Int32) = 1 := by decide
section READS
variable {T : Nat} {x : SV} {n w : Nat} {ln : Nat → Nat}
theorem hpn {k : Nat} (hk : k < 8) : f_X4_hindranceOfPitchNumber (nI k) = some 0 := by
  unfold f_X4_hindranceOfPitchNumber
  rw [isP_T hk, ob_s, if_neg n10]
theorem hbn (h : JV T x n w ln) {b : Nat} (hb : b < n) : f_X4_hindranceOfBuskerNumber x (nI b) = some 0 := by
  unfold f_X4_hindranceOfBuskerNumber
  rw [show g_buskers x = nI n from h.1.1, has_T h.1.2 hb, ob_s, if_neg n10]
theorem R_p0 (h : JV T x n w ln) {k : Nat} (hk : k < 8) : f_X4_pitchOf x (nI k) 0 = some (.inr (plF (g_pit x) (nI k))) := by
  obtain ⟨hA, hc, hL, hO, hS, hK, hF, hI, hJ, hG, hGj, hE, hN, hD, hY, hZ⟩ := id h
  unfold f_X4_pitchOf
  rw [hpn hk, ob_s, tf0, ob_s, os_rn, if_pos rfl, pl_eq hE hI hJ hk, ob_s]
theorem R_p1 {k : Nat} (hk : k < 8) : f_X4_pitchOf x (nI k) 1 = some (.inr (g_cmp x k)) := by
  unfold f_X4_pitchOf
  rw [hpn hk, ob_s, tf0, ob_s, os_rn, if_neg n10, if_pos rfl, inbN hk (by decide), og_t, clN (by omega)]
theorem R_p2 {k : Nat} (hk : k < 8) : f_X4_pitchOf x (nI k) 2 = some (.inr (g_sof x k)) := by
  unfold f_X4_pitchOf
  rw [hpn hk, ob_s, tf0, ob_s, os_rn, if_neg n20, if_neg n21, if_pos rfl, inbN hk (by decide), og_t, clN (by omega)]
def bF (x : SV) (j : Nat) : Nat → Int32 := if j = 0 then g_kin x else if j = 1 then g_lou x else if j = 2 then g_pit x else if j = 3 then g_pla x else if j = 4 then g_cas x else if j = 5 then g_hrs x else g_nws x
theorem R_b (h : JV T x n w ln) {b : Nat} (hb : b < n) {j : Nat} (hj : j < 7) : f_X4_buskerOf x (nI b) (nI j) = some (.inr (bF x j b)) := by
  have hn8 := h.1.2
  unfold f_X4_buskerOf
  rw [hbn h hb, ob_s, tf0, ob_s, os_rn, inbN (by omega) (by decide), og_t, og_t, og_t, og_t, og_t, og_t, og_t, clN (by omega)]
  rcases (show j = 0 ∨ j = 1 ∨ j = 2 ∨ j = 3 ∨ j = 4 ∨ j = 5 ∨ j = 6 by omega) with rfl | rfl | rfl | rfl | rfl | rfl | rfl <;> rfl
theorem R_hat (h : JV T x n w ln) {b : Nat} (hb : b < n) : f_X4_hat x (nI b) = some (.inr (g_hat x b)) := by
  have hn8 := h.1.2
  unfold f_X4_hat
  rw [hbn h hb, ob_s, tf0, ob_s, os_rn, inbN (by omega) (by decide), og_t, clN (by omega)]
theorem R_wear (h : JV T x n w ln) {b : Nat} (hb : b < n) : f_X4_wear x (nI b) = some (.inr (g_wea x b).toInt32) := by
  obtain ⟨hA, hc, hL, hO, hS, hK, hF, hI, hJ, hG, hGj, hE, hN, hD, hY, hZ⟩ := id h
  have hn8 := h.1.2
  have := (hF b (by omega)).2
  unfold f_X4_wear
  rw [hbn h hb, ob_s, tf0, ob_s, os_rn, inbN (by omega) (by decide), og_t, clN (by omega), ofFloat_n (by omega), ob_s]
def nsF (x : SV) (k : Nat) : UInt32 := noiF (g_kin x) (g_lou x) (g_pit x) (nI k)
theorem ns_le (h : JV T x n w ln) (k : Nat) : (nsF x k).toNat ≤ 1125122048 := by
  obtain ⟨hA, hc, hL, hO, hS, hK, hF, hI, hJ, hG, hGj, hE, hN, hD, hY, hZ⟩ := id h
  exact (noise_eq h.1.2 hK hE hI hJ (nI k)).2.1
theorem ns_eq (h : JV T x n w ln) (k : Nat) : f_X3_noiseOn (g_kin x) (g_lou x) (g_pit x) (nI k) = some (nsF x k) := by
  obtain ⟨hA, hc, hL, hO, hS, hK, hF, hI, hJ, hG, hGj, hE, hN, hD, hY, hZ⟩ := id h
  exact (noise_eq h.1.2 hK hE hI hJ (nI k)).1
theorem lim_le (h : JV T x n w ln) {k : Nat} (hk : k < 8) : (g_lim x k).toNat ≤ 1123024896 := by
  obtain ⟨hA, hc, hL, hO, hS, hK, hF, hI, hJ, hG, hGj, hE, hN, hD, hY, hZ⟩ := id h
  exact hL k hk
theorem R_noise (h : JV T x n w ln) {k : Nat} (hk : k < 8) : f_X4_noise x (nI k) = some (.inr (nsF x k).toInt32) := by
  have := ns_le h k
  unfold f_X4_noise
  rw [hpn hk, ob_s, tf0, ob_s, os_rn, ns_eq h, ob_s, ofFloat_n (by omega), ob_s]
theorem R_noiseOf (h : JV T x n w ln) {k : Nat} (hk : k < 8) : f_L_noiseOf x (nI k) = some (nsF x k) := by
  have := ns_le h k
  unfold f_L_noiseOf
  rw [R_noise h hk, ob_s, os_rn, okI_n (by omega), og_t, toI_toU]
theorem R_again (h : JV T x n w ln) {k : Nat} (hk : k < 8) : ∃ ρ, f_X4_noiseAgain x (nI k) = some (.inr ((nsF x k).toInt32, s_row x ρ)) := by
  obtain ⟨hA, hc, hL, hO, hS, hK, hF, hI, hJ, hG, hGj, hE, hN, hD, hY, hZ⟩ := id h
  have := ns_le h k
  obtain ⟨row', l1, l2⟩ := layRow_eq h.1.2 hK hE hI hJ (g_row x)
  refine ⟨row', ?_⟩
  unfold f_X4_noiseAgain
  rw [hpn hk, ob_s, tf0, ob_s, os_rn, l1, ob_s, byRow_eq h.1.2 hK hE hI hJ l2 hk, ob_s]
  rw [show noiF (g_kin x) (g_lou x) (g_pit x) (nI k) = nsF x k from rfl, ofFloat_n (by omega), ob_s]
theorem R_below (h : JV T x n w ln) {k : Nat} (hk : k < 8) : f_X4_below x (nI k) = some (.inr (FP.fsub (g_lim x k) (nsF x k))) := by
  have h1 := ns_le h k
  have h2 := lim_le h hk
  unfold f_X4_below
  rw [hpn hk, ob_s, tf0, ob_s, os_rn, inbN hk (by decide), og_t, clN (by omega), ns_eq h, ob_s, (nan_sub (by omega) (by omega)).1, og_t]
theorem R_with (h : JV T x n w ln) {k b : Nat} (hk : k < 8) (hb : b < n) : f_X4_noiseWith x (nI k) (nI b) = some (.inr (nwF (g_kin x) (g_lou x) (g_pit x) (nI k) b).toInt32) ∧ f_X3_noiseOf (g_kin x) (g_lou x) (g_pit x) (nI k) (nI b) = some (nwF (g_kin x) (g_lou x) (g_pit x) (nI k) b) ∧ (nwF (g_kin x) (g_lou x) (g_pit x) (nI k) b).toNat ≤ 1125122048 := by
  obtain ⟨hA, hc, hL, hO, hS, hK, hF, hI, hJ, hG, hGj, hE, hN, hD, hY, hZ⟩ := id h
  obtain ⟨w1, w2⟩ := with_eq h.1.2 hK hE hI hJ (nI k) hb
  refine ⟨?_, w1, w2⟩
  unfold f_X4_noiseWith
  rw [hpn hk, ob_s, tf0, ob_s, os_rn, hbn h hb, ob_s, tf0, ob_s, os_rn, w1, ob_s, ofFloat_n (by omega), ob_s]
theorem with_own (h : JV T x n w ln) {k b : Nat} (hk : k < 8) (hb : b < n) (hp : f_X3_playerOn (g_pit x) (nI k) = some (nI b)) : nwF (g_kin x) (g_lou x) (g_pit x) (nI k) b = nsF x k := by
  obtain ⟨hA, hc, hL, hO, hS, hK, hF, hI, hJ, hG, hGj, hE, hN, hD, hY, hZ⟩ := id h
  have e1 := (noise_eq h.1.2 hK hE hI hJ (nI k)).2.2
  have e2 := (ownF_some h.1.2 hK (pit := g_pit x) (a := nI k) hb hp).2
  show nwF (g_kin x) (g_lou x) (g_pit x) (nI k) b = noiF (g_kin x) (g_lou x) (g_pit x) (nI k)
  rw [e1, e2]; rfl
theorem R_loud' (h : JV T x n w ln) : ∀ (m fuel i best : Nat), i + m = 8 → m < fuel → best < 8 → ∃ v, v < 8 ∧ f_X4_loudest_c4 x fuel (nI best) (nI i) = some (nI v) ∧ (nsF x best).toNat ≤ (nsF x v).toNat ∧ ∀ k, i ≤ k → k < 8 → (nsF x k).toNat ≤ (nsF x v).toNat := by
  intro m
  induction m with
  | zero =>
    intro fuel i best hi hf hb
    obtain ⟨fuel, rfl⟩ : ∃ z, fuel = z + 1 := ⟨fuel - 1, by omega⟩
    have h8 : (8 : Int32) ≤ nI i := nI_le (a := 8) (by omega) (by omega)
    refine ⟨best, hb, ?_, Nat.le_refl _, fun k h1 h2 => by omega⟩
    unfold f_X4_loudest_c4; rw [if_pos h8]
  | succ m ih =>
    intro fuel i best hi hf hb
    obtain ⟨fuel, rfl⟩ : ∃ z, fuel = z + 1 := ⟨fuel - 1, by omega⟩
    have h8 : ¬ (8 : Int32) ≤ nI i := nI_ge (b := 8) (by omega) (by decide)
    have l1 := ns_le h i
    have l2 := ns_le h best
    unfold f_X4_loudest_c4
    rw [if_neg h8, ns_eq h, ob_s, ns_eq h, ob_s, nI_1]
    rcases fcmp_cases (x := nsF x i) (y := nsF x best) (by omega) (by omega) .l with ⟨q1, q2⟩ | ⟨q1, q2⟩ | ⟨q1, q2⟩
    · rw [if_pos (by rw [q2]; decide)]
      obtain ⟨v, v1, v2, v3, v4⟩ := ih fuel (i + 1) best (by omega) (by omega) hb
      refine ⟨v, v1, v2, v3, fun k h1 h2 => ?_⟩
      by_cases e : k = i
      · rw [e]; omega
      · exact v4 k (by omega) h2
    · rw [if_pos (by rw [q2]; decide)]
      obtain ⟨v, v1, v2, v3, v4⟩ := ih fuel (i + 1) best (by omega) (by omega) hb
      refine ⟨v, v1, v2, v3, fun k h1 h2 => ?_⟩
      by_cases e : k = i
      · rw [e]; omega
      · exact v4 k (by omega) h2
    · rw [if_neg (by rw [q2]; decide)]
      obtain ⟨v, v1, v2, v3, v4⟩ := ih fuel (i + 1) i (by omega) (by omega) (by omega)
      refine ⟨v, v1, v2, by omega, fun k h1 h2 => ?_⟩
      by_cases e : k = i
      · rw [e]; exact v3
      · exact v4 k (by omega) h2
theorem R_loud (h : JV T x n w ln) : ∃ v, v < 8 ∧ f_X4_loudest x = some (nI v) ∧ ∀ k, k < 8 → (nsF x k).toNat ≤ (nsF x v).toNat := by
  obtain ⟨v, v1, v2, v3, v4⟩ := R_loud' h 7 4096 1 0 rfl (by decide) (by omega)
  refine ⟨v, v1, v2, fun k hk => ?_⟩
  by_cases e : k = 0
  · rw [e]; exact v3
  · exact v4 k (by omega) hk
theorem R_sign (h : JV T x n w ln) {k : Nat} (hk : k < 8) : ∃ s, f_X4_sign x (nI k) = some (.inr s) ∧ s = (if (g_lim x k).toNat < (nsF x k).toNat then (if plF (g_pit x) (nI k) < 0 then 33 else if g_kin x (plF (g_pit x) (nI k)).toNatClampNeg = 0 then 70 else 65) else (if plF (g_pit x) (nI k) < 0 then 46 else if g_kin x (plF (g_pit x) (nI k)).toNatClampNeg = 0 then 102 else 97)) := by
  obtain ⟨hA, hc, hL, hO, hS, hK, hF, hI, hJ, hG, hGj, hE, hN, hD, hY, hZ⟩ := id h
  have l1 := ns_le h k
  have l2 := lim_le h hk
  have core : ∀ t, t = 0 ∨ t = 1 → f_X4_sign_c33 x (nI k) t = some (.inr (if t = 1 then (if plF (g_pit x) (nI k) < 0 then 33 else if g_kin x (plF (g_pit x) (nI k)).toNatClampNeg = 0 then 70 else 65) else (if plF (g_pit x) (nI k) < 0 then 46 else if g_kin x (plF (g_pit x) (nI k)).toNatClampNeg = 0 then 102 else 97))) := by
    intro t ht
    unfold f_X4_sign_c33
    rcases pl_cases hE hI hJ hk with ⟨q1, q2, -⟩ | ⟨b, hb, hb8, hp, q1, q2⟩
    · rw [q1, ob_s, if_pos rfl, q2]
      rcases ht with rfl | rfl <;> rfl
    · have hnn : ¬ nI b < 0 := nI_pos (by omega)
      rw [q1, ob_s, if_neg (nI_ne_m1 (by omega)), inbN (by omega) (by decide), og_t, q2, if_neg hnn, if_neg hnn, clN (by omega)]
      rcases (hK b hb).1 with e | e <;> rw [e] <;> rcases ht with rfl | rfl <;> rfl
  unfold f_X4_sign
  rw [hpn hk, ob_s, tf0, ob_s, os_rn, ns_eq h, ob_s, inbN hk (by decide), og_t, clN (by omega)]
  rcases fcmp_cases (x := nsF x k) (y := g_lim x k) (by omega) (by omega) .l with ⟨q1, q2⟩ | ⟨q1, q2⟩ | ⟨q1, q2⟩
  · rw [if_pos (by rw [q2]; decide), core 0 (Or.inl rfl)]
    refine ⟨_, rfl, ?_⟩
    rw [if_neg (by decide), if_neg (show ¬ (g_lim x k).toNat < (nsF x k).toNat by omega)]
  · rw [if_pos (by rw [q2]; decide), core 0 (Or.inl rfl)]
    refine ⟨_, rfl, ?_⟩
    rw [if_neg (by decide), if_neg (show ¬ (g_lim x k).toNat < (nsF x k).toNat by omega)]
  · rw [if_neg (by rw [q2]; decide), core 1 (Or.inr rfl)]
    refine ⟨_, rfl, ?_⟩
    rw [if_pos rfl, if_pos (show (g_lim x k).toNat < (nsF x k).toNat by omega)]
end READS
