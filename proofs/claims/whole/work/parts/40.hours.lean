/-! hours: the loops -/
def gh : Nat → (Nat → Int32) → (Nat → UInt32) → Int32 → (Nat → Int32) → (Nat → UInt32) → Prop
  | 0, r, noi, g, r', noi' => g = 0 ∧ r' = r ∧ noi' = noi
  | H + 1, r, noi, g, r', noi' => ∃ g1 r1 noi1 g2, f_X5_goHour r noi = some (g1, r1, noi1) ∧ gh H r1 noi1 g2 r' noi' ∧ g = g1 + g2
section HOURS
variable {hour crowd bus ans drw : Int32} {lim : Nat → UInt32} {cmp sof kin lou pit pla cas hrs nws : Nat → Int32} {hat wea : Nat → UInt32} {r : Nat → Int32} {n w : Nat} {ln : Nat → Nat}
theorem inner_eq {row noi : Nat → UInt32} (hrow : ∀ k, k < 8 → f_X3_noiseByRow row (nI k) = some (noi k)) : ∀ (m fuel i : Nat), i + m = 8 → m < fuel → ∀ (cmp sof pit hrs : Nat → Int32) (hat wea : Nat → UInt32) (r : Nat → Int32), Rl hour crowd bus ans drw lim cmp sof kin lou pit pla cas hrs nws hat wea r n w ln → ∃ (g : Int32) (cmp' sof' pit' hrs' : Nat → Int32) (hat' wea' : Nat → UInt32) (r' : Nat → Int32), (∀ (rec4 : Int32 → Int32 → Int32 → (Nat → Int32) → (Nat → Int32) → (Nat → Int32) → (Nat → Int32) → (Nat → UInt32) → (Nat → UInt32) → (Nat → UInt32) → Option (Int32 × Int32 × (Nat → Int32) × (Nat → Int32) × (Nat → Int32) × (Nat → Int32) × (Nat → UInt32) × (Nat → UInt32) × (Nat → UInt32))) (a1 x2 x3 : Int32), f_X3_passHours_c16 rec4 crowd lim kin lou a1 fuel x2 x3 (nI i) hour cmp sof pit hrs hat wea row = rec4 (x2 + g) (x3 + 1) (hour + 1) cmp' sof' pit' hrs' hat' wea' row) ∧ (∀ x1 : Int32, f_X5_goHour_c29 fuel x1 (nI i) r noi = some (x1 + g, r', noi)) ∧ Rl (hour + 1) crowd bus ans drw lim cmp' sof' kin lou pit' pla cas hrs' nws hat' wea' r' n w ln := by
  intro m
  induction m with
  | zero =>
    intro fuel i hi hf cmp sof pit hrs hat wea r h
    obtain ⟨fuel, rfl⟩ : ∃ z, fuel = z + 1 := ⟨fuel - 1, by omega⟩
    have h8 : (8 : Int32) ≤ nI i := nI_le (a := 8) (by omega) (by omega)
    refine ⟨0, cmp, sof, pit, hrs, hat, wea, _, fun rec4 a1 x2 x3 => ?_, fun x1 => ?_, T_hour h⟩
    · unfold f_X3_passHours_c16
      rw [if_pos h8, Int32.add_zero]
    · unfold f_X5_goHour_c29
      rw [if_pos h8, ib0, og_t, og_t, tc0, h.2.1.1, Int32.add_zero]
  | succ m ih =>
    intro fuel i hi hf cmp sof pit hrs hat wea r h
    obtain ⟨fuel, rfl⟩ : ∃ z, fuel = z + 1 := ⟨fuel - 1, by omega⟩
    obtain ⟨hA, h0, hc, hP, hL, hC, hS, hB, hK, hF, hW, hI, hG, hE, hN, hD⟩ := id h
    have hn8 := hA.2.1
    have hi8 : i < 8 := by omega
    have h8 : ¬ (8 : Int32) ≤ nI i := nI_ge (b := 8) hi8 (by decide)
    have hpl := player_eq hn8 hW hi8
    rcases who_cases hW hi8 with q | ⟨b, hb, q, hp⟩
    · obtain ⟨g, cmp', sof', pit', hrs', hat', wea', r', e1, e2, e3⟩ := ih fuel (i + 1) (by omega) (by omega) cmp sof pit hrs hat wea r h
      refine ⟨g, cmp', sof', pit', hrs', hat', wea', r', fun rec4 a1 x2 x3 => ?_, fun x1 => ?_, e3⟩
      · unfold f_X3_passHours_c16
        rw [if_neg h8, hpl, ob_s, q, if_pos rfl, nI_1]
        exact e1 rec4 a1 x2 x3
      · unfold f_X5_goHour_c29
        rw [if_neg h8, ofP3 r hi8, ob_s, q, if_pos rfl, nI_1]
        exact e2 x1
    · have hm : ¬ nI b = (-1 : Int32) := nI_ne_m1 (by omega)
      obtain ⟨res, cmp1, sof1, hrs1, hat1, wea1, r1, p1, p2, p3⟩ := play_eq h hi8 hb (hrow i hi8)
      by_cases hr : res = 0
      · obtain ⟨g, cmp', sof', pit', hrs', hat', wea', r', e1, e2, e3⟩ := ih fuel (i + 1) (by omega) (by omega) cmp1 sof1 pit hrs1 hat1 wea1 r1 p3
        refine ⟨g, cmp', sof', pit', hrs', hat', wea', r', fun rec4 a1 x2 x3 => ?_, fun x1 => ?_, e3⟩
        · unfold f_X3_passHours_c16
          rw [if_neg h8, hpl, ob_s, q, if_neg hm, p1, ob_s, if_pos hr, nI_1]
          exact e1 rec4 a1 x2 x3
        · unfold f_X5_goHour_c29
          rw [if_neg h8, ofP3 r hi8, ob_s, q, if_neg hm, p2, ob_s, if_pos hr, nI_1]
          exact e2 x1
      · have hT := T_home p3 hi8 hb hp
        have hq1 : r1 (8 + 4 * i + 3) = nI b := by
          rcases p3.2.2.2.2.2.2.2.2.2.2.1 i hi8 with ⟨-, z⟩ | ⟨b2, z1, z2, z3, z4⟩
          · exact absurd hp (z b (by omega))
          · rw [z2, z4 b (by omega) hp]
        have hgo : f_X5_goHome r1 (nI i) = some (upd (upd r1 (40 + 8 * b + 4) (-1)) (8 + 4 * i + 3) (-1)) := by
          unfold f_X5_goHome
          rw [ofP3 r1 hi8, ob_s, hq1, pu4 r1 (by omega), ob_s, puP3 _ hi8, ob_s]
        obtain ⟨g, cmp', sof', pit', hrs', hat', wea', r', e1, e2, e3⟩ := ih fuel (i + 1) (by omega) (by omega) cmp1 sof1 _ hrs1 hat1 wea1 _ hT
        refine ⟨1 + g, cmp', sof', pit', hrs', hat', wea', r', fun rec4 a1 x2 x3 => ?_, fun x1 => ?_, e3⟩
        · unfold f_X3_passHours_c16
          rw [if_neg h8, hpl, ob_s, q, if_neg hm, p1, ob_s, if_neg hr, inbN (by omega) (by decide), og_t, clN (by omega), nI_1, ← Int32.add_assoc]
          exact e1 rec4 a1 (x2 + 1) x3
        · unfold f_X5_goHour_c29
          rw [if_neg h8, ofP3 r hi8, ob_s, q, if_neg hm, p2, ob_s, if_neg hr, hgo, ob_s, nI_1, ← Int32.add_assoc]
          exact e2 (x1 + 1)
theorem goHour_n (h : Rl hour crowd bus ans drw lim cmp sof kin lou pit pla cas hrs nws hat wea r n w ln) : ∀ (m fuel i : Nat) (noi : Nat → UInt32), i + m = 8 → m < fuel → (∀ k, k < i → noi k = noiF kin lou pit (nI k)) → ∃ noi', f_X5_goHour_c2 fuel (nI i) r noi = f_X5_goHour_c29 4096 0 0 r noi' ∧ ∀ k, k < 8 → noi' k = noiF kin lou pit (nI k) := by
  obtain ⟨hA, h0, hc, hP, hL, hC, hS, hB, hK, hF, hW, hI, hG, hE, hN, hD⟩ := id h
  have hn8 := hA.2.1
  intro m
  induction m with
  | zero =>
    intro fuel i noi hi hf hk
    obtain ⟨fuel, rfl⟩ : ∃ z, fuel = z + 1 := ⟨fuel - 1, by omega⟩
    refine ⟨noi, ?_, fun k hk8 => hk k (by omega)⟩
    have h8 : (8 : Int32) ≤ nI i := nI_le (a := 8) (by omega) (by omega)
    unfold f_X5_goHour_c2
    rw [if_pos h8]
  | succ m ih =>
    intro fuel i noi hi hf hk
    obtain ⟨fuel, rfl⟩ : ∃ z, fuel = z + 1 := ⟨fuel - 1, by omega⟩
    have h8 : ¬ (8 : Int32) ≤ nI i := nI_ge (b := 8) (by omega) (by decide)
    obtain ⟨noi', e1, e2⟩ := ih fuel (i + 1) (vf_upd noi i (noiF kin lou pit (nI i))) (by omega) (by omega) (fun k hk2 => by
      by_cases e : k = i
      · rw [e, vupd_eq]
      · rw [vupd_ne _ _ e]; exact hk k (by omega))
    refine ⟨noi', ?_, e2⟩
    unfold f_X5_goHour_c2
    rw [if_neg h8, (noise_eq hn8 hB hK hW (nI i)).2.1, ob_s, inbN (by omega) (by decide), og_t, clN (by omega), nI_1]
    exact e1
theorem hour_eq (h : Rl hour crowd bus ans drw lim cmp sof kin lou pit pla cas hrs nws hat wea r n w ln) (row noi : Nat → UInt32) : ∃ (g : Int32) (cmp' sof' pit' hrs' : Nat → Int32) (hat' wea' row' noi' : Nat → UInt32) (r' : Nat → Int32), f_X3_layRow kin lou pit row = some row' ∧ (∀ (rec4 : Int32 → Int32 → Int32 → (Nat → Int32) → (Nat → Int32) → (Nat → Int32) → (Nat → Int32) → (Nat → UInt32) → (Nat → UInt32) → (Nat → UInt32) → Option (Int32 × Int32 × (Nat → Int32) × (Nat → Int32) × (Nat → Int32) × (Nat → Int32) × (Nat → UInt32) × (Nat → UInt32) × (Nat → UInt32))) (a1 x2 x3 : Int32), f_X3_passHours_c16 rec4 crowd lim kin lou a1 4096 x2 x3 0 hour cmp sof pit hrs hat wea row' = rec4 (x2 + g) (x3 + 1) (hour + 1) cmp' sof' pit' hrs' hat' wea' row') ∧ f_X5_goHour r noi = some (g, r', noi') ∧ Rl (hour + 1) crowd bus ans drw lim cmp' sof' kin lou pit' pla cas hrs' nws hat' wea' r' n w ln := by
  obtain ⟨hA, h0, hc, hP, hL, hC, hS, hB, hK, hF, hW, hI, hG, hE, hN, hD⟩ := id h
  have hn8 := hA.2.1
  obtain ⟨row', l1, l2⟩ := layRow_eq hn8 hB hK hW hI hE row
  obtain ⟨noi', e1, e2⟩ := goHour_n h 8 4096 0 noi rfl (by decide) (fun k hk => by omega)
  obtain ⟨g, cmp', sof', pit', hrs', hat', wea', r', f1, f2, f3⟩ := inner_eq (n := n) (w := w) (ln := ln) (nws := nws) (cas := cas) (pla := pla) (bus := bus) (ans := ans) (drw := drw) (hour := hour) (crowd := crowd) (lim := lim) (kin := kin) (lou := lou) (row := row') (noi := noi') (fun k hk => by rw [e2 k hk]; exact byRow_eq hn8 hB hK hW l2 hk) 8 4096 0 rfl (by decide) cmp sof pit hrs hat wea r h
  refine ⟨g, cmp', sof', pit', hrs', hat', wea', row', noi', r', l1, f1, ?_, f3⟩
  have f2 := f2 0
  rw [Int32.zero_add] at f2
  exact e1.trans f2
theorem hours_eq : ∀ (H i fuel : Nat) (hour : Int32) (cmp sof pit hrs : Nat → Int32) (hat wea row noi : Nat → UInt32) (r : Nat → Int32) (x2 : Int32), H < fuel → i + H < 1000 → Rl hour crowd bus ans drw lim cmp sof kin lou pit pla cas hrs nws hat wea r n w ln → ∃ (g hour' : Int32) (cmp' sof' pit' hrs' : Nat → Int32) (hat' wea' row' noi' : Nat → UInt32) (r' : Nat → Int32), f_X3_passHours_c4 crowd lim kin lou (nI (i + H)) fuel x2 (nI i) hour cmp sof pit hrs hat wea row = some (x2 + g, hour', cmp', sof', pit', hrs', hat', wea', row') ∧ gh H r noi g r' noi' ∧ Rl hour' crowd bus ans drw lim cmp' sof' kin lou pit' pla cas hrs' nws hat' wea' r' n w ln := by
  intro H
  induction H with
  | zero =>
    intro i fuel hour cmp sof pit hrs hat wea row noi r x2 hf hi h
    obtain ⟨fuel, rfl⟩ : ∃ z, fuel = z + 1 := ⟨fuel - 1, by omega⟩
    refine ⟨0, hour, cmp, sof, pit, hrs, hat, wea, row, noi, r, ?_, ⟨rfl, rfl, rfl⟩, h⟩
    unfold f_X3_passHours_c4
    rw [if_pos (nI_le (by omega) (by omega)), Int32.add_zero]
  | succ H ih =>
    intro i fuel hour cmp sof pit hrs hat wea row noi r x2 hf hi h
    obtain ⟨fuel, rfl⟩ : ∃ z, fuel = z + 1 := ⟨fuel - 1, by omega⟩
    obtain ⟨g1, cmp1, sof1, pit1, hrs1, hat1, wea1, row1, noi1, r1, l1, c1, m1, h1⟩ := hour_eq h row noi
    obtain ⟨g, hour', cmp', sof', pit', hrs', hat', wea', row', noi', r', e1, e2, e3⟩ := ih (i + 1) fuel (hour + 1) cmp1 sof1 pit1 hrs1 hat1 wea1 row1 noi1 r1 (x2 + g1) (by omega) (by omega) h1
    refine ⟨g1 + g, hour', cmp', sof', pit', hrs', hat', wea', row', noi', r', ?_, ⟨g1, r1, noi1, g, m1, e2, rfl⟩, e3⟩
    unfold f_X3_passHours_c4
    rw [if_neg (nI_ge (by omega) (by omega)), l1, ob_s, c1, nI_1, ← Int32.add_assoc, show i + (H + 1) = i + 1 + H by omega]
    exact e1
end HOURS
theorem pass_loop (iit thr kept : Int32) (hst : Nat → Nat → Int32) : ∀ (H i fuel : Nat) (x2 g : Int32) (r r' : Nat → Int32) (noi noi' : Nat → UInt32), H < fuel → i + H < 1000 → gh H r noi g r' noi' → f_X5_pass_c33 iit (nI (i + H)) fuel x2 (nI i) thr kept r hst noi = some (x2 + g, thr, kept, r', hst, noi') := by
  intro H
  induction H with
  | zero =>
    intro i fuel x2 g r r' noi noi' hf hi h
    obtain ⟨fuel, rfl⟩ : ∃ z, fuel = z + 1 := ⟨fuel - 1, by omega⟩
    obtain ⟨rfl, rfl, rfl⟩ := h
    unfold f_X5_pass_c33
    rw [if_pos (nI_le (by omega) (by omega)), Int32.add_zero]
  | succ H ih =>
    intro i fuel x2 g r r' noi noi' hf hi h
    obtain ⟨fuel, rfl⟩ : ∃ z, fuel = z + 1 := ⟨fuel - 1, by omega⟩
    obtain ⟨g1, r1, noi1, g2, h1, h2, rfl⟩ := h
    unfold f_X5_pass_c33
    rw [if_neg (nI_ge (by omega) (by omega)), h1, ob_s, nI_1, ← Int32.add_assoc, show i + (H + 1) = i + 1 + H by omega]
    exact ih (i + 1) fuel _ g2 _ _ _ _ (by omega) (by omega) h2
theorem hatIn_loop (a1 thr : Int32) (ahe : Nat → Int32) : ∀ (H i fuel : Nat) (g : Int32) (r r' : Nat → Int32) (noi noi' : Nat → UInt32), H < fuel → i + H < 1000 → gh H r noi g r' noi' → f_X5_hatIn_c59 a1 (nI (i + H)) fuel (nI i) thr r ahe noi = ob (f_X5_of r' a1 2) (fun r3 => ob (f_X5_copyRow ahe r') (fun r5 => some (r3, thr, r5, ahe, noi'))) := by
  intro H
  induction H with
  | zero =>
    intro i fuel g r r' noi noi' hf hi h
    obtain ⟨fuel, rfl⟩ : ∃ z, fuel = z + 1 := ⟨fuel - 1, by omega⟩
    obtain ⟨rfl, rfl, rfl⟩ := h
    unfold f_X5_hatIn_c59
    rw [if_pos (nI_le (by omega) (by omega))]
  | succ H ih =>
    intro i fuel g r r' noi noi' hf hi h
    obtain ⟨fuel, rfl⟩ : ∃ z, fuel = z + 1 := ⟨fuel - 1, by omega⟩
    obtain ⟨g1, r1, noi1, g2, h1, h2, rfl⟩ := h
    unfold f_X5_hatIn_c59
    rw [if_neg (nI_ge (by omega) (by omega)), h1, ob_s, nI_1, show i + (H + 1) = i + 1 + H by omega]
    exact ih (i + 1) fuel g2 _ _ _ _ (by omega) (by omega) h2
theorem playIn_loop (thr : Int32) (ahe : Nat → Int32) : ∀ (H i fuel : Nat) (g : Int32) (r r' : Nat → Int32) (noi noi' : Nat → UInt32), H < fuel → i + H < 1000 → gh H r noi g r' noi' → f_X5_playingIn_c38 (nI (i + H)) fuel (nI i) thr r ahe noi = ob (f_X5_playing r') (fun r3 => ob (f_X5_copyRow ahe r') (fun r5 => some (r3, thr, r5, ahe, noi'))) := by
  intro H
  induction H with
  | zero =>
    intro i fuel g r r' noi noi' hf hi h
    obtain ⟨fuel, rfl⟩ : ∃ z, fuel = z + 1 := ⟨fuel - 1, by omega⟩
    obtain ⟨rfl, rfl, rfl⟩ := h
    unfold f_X5_playingIn_c38
    rw [if_pos (nI_le (by omega) (by omega))]
  | succ H ih =>
    intro i fuel g r r' noi noi' hf hi h
    obtain ⟨fuel, rfl⟩ : ∃ z, fuel = z + 1 := ⟨fuel - 1, by omega⟩
    obtain ⟨g1, r1, noi1, g2, h1, h2, rfl⟩ := h
    unfold f_X5_playingIn_c38
    rw [if_neg (nI_ge (by omega) (by omega)), h1, ob_s, nI_1, show i + (H + 1) = i + 1 + H by omega]
    exact ih (i + 1) fuel g2 _ _ _ _ (by omega) (by omega) h2
