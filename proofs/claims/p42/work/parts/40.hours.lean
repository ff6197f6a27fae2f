/-! hours: the loops -/
/-- plays on a pitch from i on -/
def plyd (i : Nat) (pit : Nat → Int32) (b : Nat) : Prop := ∃ k, i ≤ k ∧ k < 8 ∧ pit b = nI k
/-- how many play -/
def cP (pit : Nat → Int32) : Nat := cn (fun b => decide (¬ pit b = -1)) 8
theorem cP_home {pit : Nat → Int32} {b : Nat} (hb : b < 8) (hp : pit b ≠ -1) : cP (upd pit b (-1)) + 1 = cP pit := by
  have h1 := cn_upd (p := fun i => decide (¬ pit i = -1)) (q := fun i => decide (¬ upd pit b (-1) i = -1)) (k := b) (m := 8) hb (fun i hi e => by simp only [upd_ne pit _ e])
  have h1 : cn (fun i => decide (¬ upd pit b (-1) i = -1)) 8 + (decide (¬ pit b = -1)).toNat = cn (fun i => decide (¬ pit i = -1)) 8 + (decide (¬ upd pit b (-1) b = -1)).toNat := h1
  rw [upd_eq, decide_eq_true hp] at h1
  have g3 : (decide (¬ (-1 : Int32) = -1)).toNat = 0 := rfl
  have g4 : true.toNat = 1 := rfl
  unfold cP
  omega
section HOURS
variable {crowd bus ans : Int32} {lim : Nat → UInt32} {kin lou pla cas nws : Nat → Int32} {n w : Nat} {ln : Nat → Nat}
abbrev RecH : Type := Int32 → Int32 → Int32 → (Nat → Int32) → (Nat → Int32) → (Nat → Int32) → (Nat → Int32) → (Nat → UInt32) → (Nat → UInt32) → (Nat → UInt32) → Option (Int32 × Int32 × (Nat → Int32) × (Nat → Int32) × (Nat → Int32) × (Nat → Int32) × (Nat → UInt32) × (Nat → UInt32) × (Nat → UInt32))
/-- the pitches from i on, in one hour -/
theorem inner_eq {noi : Nat → UInt32} (hnoi : ∀ k, k < 8 → (noi k).toNat ≤ 1125122048) {T : Nat} : ∀ (m fuel i : Nat), i + m = 8 → m < fuel → ∀ (cmp sof pit hrs : Nat → Int32) (hat wea : Nat → UInt32), Jv (fun k => if k < i then T + 1 else T) crowd bus ans lim cmp sof kin lou pit pla cas hrs nws hat wea n w ln → ∃ (g : Nat) (cmp' sof' pit' hrs' : Nat → Int32) (hat' wea' : Nat → UInt32), (∀ (row : Nat → UInt32), (∀ k, k < 8 → f_X3_noiseByRow row (nI k) = some (noi k)) → ∀ (rec4 : RecH) (a1 x2 x3 hour : Int32), f_X3_passHours_c16 rec4 crowd lim kin lou a1 fuel x2 x3 (nI i) hour cmp sof pit hrs hat wea row = rec4 (x2 + nI g) (x3 + 1) (hour + 1) cmp' sof' pit' hrs' hat' wea' row) ∧ Jv (fun _ => T + 1) crowd bus ans lim cmp' sof' kin lou pit' pla cas hrs' nws hat' wea' n w ln ∧ (∀ b, b < 8 → (plyd i pit b → hrs' b = hrs b + 1) ∧ (¬ plyd i pit b → hrs' b = hrs b)) ∧ (∀ b, b < 8 → pit' b ≠ -1 → pit' b = pit b) ∧ cP pit' + g = cP pit := by
  intro m
  induction m with
  | zero =>
    intro fuel i hi hf cmp sof pit hrs hat wea h
    obtain ⟨fuel, rfl⟩ : ∃ z, fuel = z + 1 := ⟨fuel - 1, by omega⟩
    have h8 : (8 : Int32) ≤ nI i := nI_le (a := 8) (by omega) (by omega)
    refine ⟨0, cmp, sof, pit, hrs, hat, wea, fun row _ rec4 a1 x2 x3 hour => ?_, T_B h (fun k hk => by (try dsimp only); split <;> omega), fun b hb => ⟨fun ⟨k, h1, h2, _⟩ => by omega, fun _ => rfl⟩, fun _ _ _ => rfl, rfl⟩
    unfold f_X3_passHours_c16
    rw [if_pos h8, show nI 0 = (0 : Int32) from nI_0, Int32.add_zero]
  | succ m ih =>
    intro fuel i hi hf cmp sof pit hrs hat wea h
    obtain ⟨fuel, rfl⟩ : ∃ z, fuel = z + 1 := ⟨fuel - 1, by omega⟩
    obtain ⟨hA, hc, hL, hO, hS, hK, hF, hI, hJ, hG, hGj, hE, hN, hD, hY, hZ⟩ := id h
    have hn8 := hA.2
    have hi8 : i < 8 := by omega
    have h8 : ¬ (8 : Int32) ≤ nI i := nI_ge (b := 8) hi8 (by decide)
    rcases pl_cases hE hI hJ hi8 with ⟨q, -, hno⟩ | ⟨b, hb, hb8, hp, q, -⟩
    · obtain ⟨g, cmp', sof', pit', hrs', hat', wea', e1, e2, e3, e4, e5⟩ := ih fuel (i + 1) (by omega) (by omega) cmp sof pit hrs hat wea (T_B h (fun k hk => by (try dsimp only); split <;> split <;> omega))
      refine ⟨g, cmp', sof', pit', hrs', hat', wea', fun row hrow rec4 a1 x2 x3 hour => ?_, e2, fun b hb => ⟨fun ⟨k, h1, h2, h3⟩ => (e3 b hb).1 ⟨k, ?_, h2, h3⟩, fun hx => (e3 b hb).2 (fun ⟨k, h1, h2, h3⟩ => hx ⟨k, by omega, h2, h3⟩)⟩, e4, e5⟩
      · unfold f_X3_passHours_c16
        rw [if_neg h8, q, ob_s, if_pos rfl, nI_1]
        exact e1 row hrow rec4 a1 x2 x3 hour
      · by_cases e : k = i
        · rw [e] at h3; exact absurd h3 (hno b hb)
        · omega
    · have hm : ¬ nI b = (-1 : Int32) := nI_ne_m1 (by omega)
      have hpm : pit b ≠ -1 := by rw [hp]; exact nI_ne_m1 (by omega)
      obtain ⟨res, cmp1, sof1, hat1, wea1, p1, p3⟩ := play_eq h hi8 hb hp (hnoi i hi8) (B' := fun k => if k < i + 1 then T + 1 else T) (by (try dsimp only); rw [if_neg (by omega), if_pos (by omega)]; omega) (fun k hk => by (try dsimp only); split <;> split <;> omega)
      by_cases hr : res = 0
      · rw [if_pos hr] at p3
        obtain ⟨g, cmp', sof', pit', hrs', hat', wea', e1, e2, e3, e4, e5⟩ := ih fuel (i + 1) (by omega) (by omega) cmp1 sof1 pit _ hat1 wea1 p3
        refine ⟨g, cmp', sof', pit', hrs', hat', wea', fun row hrow rec4 a1 x2 x3 hour => ?_, e2, fun b' hb' => ⟨fun ⟨k, h1, h2, h3⟩ => ?_, fun hx => ?_⟩, e4, e5⟩
        · unfold f_X3_passHours_c16
          rw [if_neg h8, q, ob_s, if_neg hm, p1 row (hrow i hi8), ob_s]
          simp only []
          rw [if_pos hr, nI_1]
          exact e1 row hrow rec4 a1 x2 x3 hour
        · by_cases e : b' = b
          · subst e
            rw [(e3 b' hb').2 (fun ⟨k', g1, g2, g3⟩ => by
              have := (nI_eq (by omega) (by omega)).mp (hp.symm.trans g3)
              omega), upd_eq]
          · rw [(e3 b' hb').1 ⟨k, by
              by_cases e2 : k = i
              · rw [e2] at h3; exact absurd (qPj_u hJ hb8 hi8 hp b' hb' h3) e
              · omega, h2, h3⟩, upd_ne _ _ e]
        · have e : b' ≠ b := fun e => hx ⟨i, by omega, hi8, by rw [e]; exact hp⟩
          rw [(e3 b' hb').2 (fun ⟨k', g1, g2, g3⟩ => hx ⟨k', by omega, g2, g3⟩), upd_ne _ _ e]
      · rw [if_neg hr] at p3
        obtain ⟨g, cmp', sof', pit', hrs', hat', wea', e1, e2, e3, e4, e5⟩ := ih fuel (i + 1) (by omega) (by omega) cmp1 sof1 _ _ hat1 wea1 p3
        have hch := cP_home hb8 hpm
        refine ⟨1 + g, cmp', sof', pit', hrs', hat', wea', fun row hrow rec4 a1 x2 x3 hour => ?_, e2, fun b' hb' => ⟨fun ⟨k, h1, h2, h3⟩ => ?_, fun hx => ?_⟩, fun b' hb' hx => ?_, by omega⟩
        · unfold f_X3_passHours_c16
          rw [if_neg h8, q, ob_s, if_neg hm, p1 row (hrow i hi8), ob_s]
          simp only []
          rw [if_neg hr, inbN (by omega) (by decide), og_t, clN (by omega), nI_1, show x2 + nI (1 + g) = x2 + 1 + nI g from by rw [← nI_add, ← Int32.add_assoc]; rfl]
          exact e1 row hrow rec4 a1 (x2 + 1) x3 hour
        · by_cases e : b' = b
          · subst e
            rw [(e3 b' hb').2 (fun ⟨k', g1, g2, g3⟩ => by
              rw [upd_eq] at g3
              exact nI_ne_m1 (by omega) g3.symm), upd_eq]
          · rw [(e3 b' hb').1 ⟨k, by
              by_cases e2 : k = i
              · rw [e2] at h3; exact absurd (qPj_u hJ hb8 hi8 hp b' hb' h3) e
              · omega, h2, by rw [upd_ne _ _ e]; exact h3⟩, upd_ne _ _ e]
        · have e : b' ≠ b := fun e => hx ⟨i, by omega, hi8, by rw [e]; exact hp⟩
          rw [(e3 b' hb').2 (fun ⟨k', g1, g2, g3⟩ => hx ⟨k', by omega, g2, by rw [upd_ne _ _ e] at g3; exact g3⟩), upd_ne _ _ e]
        · have e6 := e4 b' hb' hx
          by_cases e : b' = b
          · rw [e, upd_eq] at e6; rw [e] at hx; exact absurd e6 hx
          · rw [upd_ne _ _ e] at e6; exact e6
/-- one hour -/
theorem hour_eq {T : Nat} {cmp sof pit hrs : Nat → Int32} {hat wea : Nat → UInt32} (h : Jv (fun _ => T) crowd bus ans lim cmp sof kin lou pit pla cas hrs nws hat wea n w ln) : ∃ (g : Nat) (cmp' sof' pit' hrs' : Nat → Int32) (hat' wea' : Nat → UInt32), (∀ (row : Nat → UInt32), ∃ row', f_X3_layRow kin lou pit row = some row' ∧ ∀ (rec4 : RecH) (a1 x2 x3 hour : Int32), f_X3_passHours_c16 rec4 crowd lim kin lou a1 4096 x2 x3 0 hour cmp sof pit hrs hat wea row' = rec4 (x2 + nI g) (x3 + 1) (hour + 1) cmp' sof' pit' hrs' hat' wea' row') ∧ Jv (fun _ => T + 1) crowd bus ans lim cmp' sof' kin lou pit' pla cas hrs' nws hat' wea' n w ln ∧ (∀ b, b < 8 → (pit b ≠ -1 → hrs' b = hrs b + 1) ∧ (¬ pit b ≠ -1 → hrs' b = hrs b)) ∧ (∀ b, b < 8 → pit' b ≠ -1 → pit' b = pit b) ∧ cP pit' + g = cP pit := by
  obtain ⟨hA, hc, hL, hO, hS, hK, hF, hI, hJ, hG, hGj, hE, hN, hD, hY, hZ⟩ := id h
  have hn8 := hA.2
  obtain ⟨g, cmp', sof', pit', hrs', hat', wea', e1, e2, e3, e4, e5⟩ := inner_eq (T := T) (noi := fun k => noiF kin lou pit (nI k)) (fun k hk => (noise_eq hn8 hK hE hI hJ (nI k)).2.1) 8 4096 0 rfl (by decide) cmp sof pit hrs hat wea (T_B h (fun k hk => by (try dsimp only); split <;> omega))
  refine ⟨g, cmp', sof', pit', hrs', hat', wea', fun row => ?_, e2, fun b hb => ⟨fun q => (e3 b hb).1 ?_, fun q => (e3 b hb).2 (fun ⟨k, h1, h2, h3⟩ => q (by rw [h3]; exact nI_ne_m1 (by omega)))⟩, e4, e5⟩
  · obtain ⟨row', l1, l2⟩ := layRow_eq hn8 hK hE hI hJ row
    exact ⟨row', l1, fun rec4 a1 x2 x3 hour => e1 row' (fun k hk => byRow_eq hn8 hK hE hI hJ l2 hk) rec4 a1 x2 x3 hour⟩
  · rcases hI b hb with q2 | ⟨k, h1, h2⟩
    · exact absurd q2 q
    · exact ⟨k, by omega, h1, h2⟩
/-- H hours: who plays behind them has played all of them -/
theorem hours_eq : ∀ (H : Nat) (T i fuel : Nat) (cmp sof pit hrs : Nat → Int32) (hat wea : Nat → UInt32), H < fuel → i + H < 1000 → Jv (fun _ => T) crowd bus ans lim cmp sof kin lou pit pla cas hrs nws hat wea n w ln → ∃ (g : Nat) (cmp' sof' pit' hrs' : Nat → Int32) (hat' wea' : Nat → UInt32), (∀ (row : Nat → UInt32) (hour x2 : Int32), ∃ row', f_X3_passHours_c4 crowd lim kin lou (nI (i + H)) fuel x2 (nI i) hour cmp sof pit hrs hat wea row = some (x2 + nI g, hour + nI H, cmp', sof', pit', hrs', hat', wea', row')) ∧ Jv (fun _ => T + H) crowd bus ans lim cmp' sof' kin lou pit' pla cas hrs' nws hat' wea' n w ln ∧ (∀ b, b < 8 → ∃ m, m ≤ H ∧ hrs' b = hrs b + nI m ∧ (pit' b ≠ -1 → m = H)) ∧ (∀ b, b < 8 → pit' b ≠ -1 → pit' b = pit b) ∧ cP pit' + g = cP pit := by
  intro H
  induction H with
  | zero =>
    intro T i fuel cmp sof pit hrs hat wea hf hi h
    obtain ⟨fuel, rfl⟩ : ∃ z, fuel = z + 1 := ⟨fuel - 1, by omega⟩
    refine ⟨0, cmp, sof, pit, hrs, hat, wea, fun row hour x2 => ⟨row, ?_⟩, h, fun b hb => ⟨0, by omega, by rw [nI_0, Int32.add_zero], fun _ => rfl⟩, fun _ _ _ => rfl, rfl⟩
    unfold f_X3_passHours_c4
    rw [if_pos (nI_le (by omega) (by omega)), nI_0, Int32.add_zero, Int32.add_zero]
  | succ H ih =>
    intro T i fuel cmp sof pit hrs hat wea hf hi h
    obtain ⟨fuel, rfl⟩ : ∃ z, fuel = z + 1 := ⟨fuel - 1, by omega⟩
    obtain ⟨g1, cmp1, sof1, pit1, hrs1, hat1, wea1, a1, a2, a3, a4, a5⟩ := hour_eq h
    obtain ⟨g, cmp', sof', pit', hrs', hat', wea', e1, e2, e3, e4, e5⟩ := ih (T + 1) (i + 1) fuel cmp1 sof1 pit1 hrs1 hat1 wea1 (by omega) (by omega) a2
    refine ⟨g1 + g, cmp', sof', pit', hrs', hat', wea', fun row hour x2 => ?_, by rw [show T + (H + 1) = T + 1 + H by omega]; exact e2, fun b hb => ?_, fun b hb q => ?_, by omega⟩
    · obtain ⟨row1, l1, c1⟩ := a1 row
      obtain ⟨row', e1⟩ := e1 row1 (hour + 1) (x2 + nI g1)
      refine ⟨row', ?_⟩
      unfold f_X3_passHours_c4
      rw [if_neg (nI_ge (by omega) (by omega)), l1, ob_s, c1, nI_1, show i + (H + 1) = i + 1 + H by omega, e1, ← nI_add, Int32.add_assoc, Int32.add_assoc, show (1 : Int32) + nI H = nI (H + 1) by rw [Int32.add_comm, nI_1]]
    · obtain ⟨m, m1, m2, m3⟩ := e3 b hb
      by_cases hp : pit b ≠ -1
      · refine ⟨m + 1, by omega, ?_, fun q => by rw [m3 q]⟩
        rw [m2, (a3 b hb).1 hp, Int32.add_assoc, show (1 : Int32) + nI m = nI (m + 1) by rw [Int32.add_comm, nI_1]]
      · refine ⟨m, by omega, ?_, fun q => ?_⟩
        · rw [m2, (a3 b hb).2 hp]
        · have q1 := e4 b hb q
          have q2 := a4 b hb (by rw [← q1]; exact q)
          exact absurd (by rw [← q2, ← q1]; exact q) hp
    · have q1 := e4 b hb q
      have q2 := a4 b hb (by rw [← q1]; exact q)
      rw [q1, q2]
end HOURS
