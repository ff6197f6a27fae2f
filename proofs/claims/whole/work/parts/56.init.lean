/-! a new object's state stands in the relation -/
theorem lim0_at {k : Nat} (h : k < 8) : lim0 k = 1117782016 := if_pos ⟨Nat.zero_le k, h⟩
theorem pm0_at {k : Nat} (h : k < 8) : pm0 k = -1 := if_pos ⟨Nat.zero_le k, h⟩
theorem rw8_0 {k : Nat} (h : k < 8) : rw0 8 (8 + 4 * k) = 1117782016 := by
  unfold rw0
  rw [if_neg (by omega), if_pos (by omega)]
theorem rw8_1 {k : Nat} (h : k < 8) : rw0 8 (8 + 4 * k + 1) = 0 := by
  unfold rw0
  rw [if_neg (by omega), if_neg (by omega), if_neg (by omega)]
theorem rw8_2 {k : Nat} (h : k < 8) : rw0 8 (8 + 4 * k + 2) = 0 := by
  unfold rw0
  rw [if_neg (by omega), if_neg (by omega), if_neg (by omega)]
theorem rw8_3 {k : Nat} (h : k < 8) : rw0 8 (8 + 4 * k + 3) = -1 := by
  unfold rw0
  rw [if_neg (by omega), if_neg (by omega), if_pos (by omega)]
theorem fz0_0 (b : Nat) : fz0 b = 0 := by
  show FP.fconst0 = 0
  decide
theorem RE_init : RE sv0 (rw0 8) := by
  refine ⟨0, 0, fun _ => 0, ?_⟩
  show Rl 0 10 0 0 0 lim0 z0 z0 z0 z0 pm0 pm0 pm0 z0 z0 fz0 fz0 (rw0 8) 0 0 (fun _ => 0)
  refine ⟨⟨rfl, by omega, rfl⟩, ⟨rfl, rfl, rfl, rfl⟩, ⟨10, by omega, rfl⟩, fun k hk => ⟨?_, rw8_1 hk, rw8_2 hk⟩, fun k hk => ?_, fun k hk => ⟨0, by omega, rfl⟩, ⟨rfl, rfl⟩, fun b hb => absurd hb (by omega), fun b hb => absurd hb (by omega), fun b hb => ?_, fun k hk => Or.inl ⟨rw8_3 hk, fun b hb => ?_⟩, fun b hb => Or.inl (pm0_at hb), fun b hb => Or.inl (pm0_at hb), fun b _ hb => ⟨pm0_at hb, pm0_at hb, pm0_at hb, rfl, rfl, fz0_0 b, fz0_0 b⟩, ⟨rfl, fun j hj => absurd hj (by omega), fun b hb => Or.inl (pm0_at hb), by decide⟩, fun b hb h => absurd (pm0_at hb) h⟩
  · rw [rw8_0 hk, lim0_at hk]
    rfl
  · rw [lim0_at hk]
    decide
  · rw [fz0_0 b]
    exact ⟨by decide, by decide⟩
  · rw [pm0_at hb]
    intro h
    have h2 : (nI k).toInt = -1 := by rw [← h]; rfl
    have h3 : (0 : Int32) ≤ nI k := nI_le (a := 0) (by omega) (by omega)
    rw [← h] at h3
    exact absurd h3 (by decide)
theorem GG_init : GG 0 (-1) 0 0 sv0 sv0 0 z0 0 0 (fun _ => sv0) 0 0 0 0 0 0 (-1) (rw0 8) z0 (fun _ => z0) z0 :=
  ⟨⟨rfl, Or.inl rfl⟩, rfl, rfl, rfl, rfl, RE_init, fun h => absurd h (by decide), ⟨0, by omega, rfl, rfl, fun i hi => absurd hi (by omega)⟩, ⟨0, 0, by omega, by omega, rfl, rfl, rfl, fun j hj => absurd hj (by omega)⟩⟩
