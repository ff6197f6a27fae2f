/-! a new object keeps the rules -/
theorem lim0_at {k : Nat} (h : k < 8) : lim0 k = 1117782016 := if_pos ⟨Nat.zero_le k, h⟩
theorem pm0_at {k : Nat} (h : k < 8) : pm0 k = -1 := if_pos ⟨Nat.zero_le k, h⟩
theorem fz0_0 (b : Nat) : fz0 b = 0 := by
  show FP.fconst0 = 0
  decide
theorem lim0_out {k : Nat} (h : 8 ≤ k) : lim0 k = 0 := by
  unfold lim0
  rw [if_neg (by omega)]
  decide
theorem pm0_out {k : Nat} (h : 8 ≤ k) : pm0 k = 0 := if_neg (by omega)
theorem JV_init : JV 0 sv0 0 0 (fun _ => 0) := by
  show Jv (fun _ => 0) 10 0 0 lim0 z0 z0 z0 z0 pm0 pm0 pm0 z0 z0 fz0 fz0 0 0 (fun _ => 0)
  refine ⟨⟨rfl, by omega⟩, ⟨10, by omega, rfl⟩, fun k hk => ?_, fun k hk => ⟨0, 0, by omega, by omega, by omega, rfl, rfl⟩, by decide, fun b hb => absurd hb (by omega), fun b hb => ?_, fun b hb => Or.inl (pm0_at hb), fun b b' hb _ _ h => absurd (pm0_at hb) h, fun b hb => Or.inl (pm0_at hb), fun b b' hb _ _ _ h => absurd (pm0_at hb) h, fun b _ hb => ⟨pm0_at hb, pm0_at hb, pm0_at hb, rfl, rfl, fz0_0 b, fz0_0 b⟩, ⟨fun j hj => absurd hj (by omega), fun b hb => Or.inl (pm0_at hb), by decide⟩, fun b hb h => absurd (pm0_at hb) h, fun b hb => ⟨fun _ => ?_, fun _ => fz0_0 b⟩, ⟨fun i hi => lim0_out hi, fun i hi => rfl, fun i hi => rfl, fun i hi => rfl, fun i hi => rfl, fun i hi => pm0_out hi, fun i hi => pm0_out hi, fun i hi => pm0_out hi, fun i hi => rfl, fun i hi => rfl, fun i hi => fz0_0 i, fun i hi => fz0_0 i⟩⟩
  · rw [lim0_at hk]
    decide
  · rw [fz0_0 b]
    exact ⟨by decide, by decide⟩
  · rw [fz0_0 b]
    decide
theorem IV_init : IV 0 sv0 := ⟨0, 0, _, JV_init⟩
theorem Ob_init : Ob 0 sv0 sv0 sv0 0 0 (fun _ => sv0) := ⟨IV_init, IV_init, IV_init, ⟨0, 0, by omega, by omega, rfl, rfl, fun _ _ => IV_init⟩⟩
