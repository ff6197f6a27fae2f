/-! what a change makes of the relation -/
section TR
variable {hour crowd bus ans drw : Int32} {lim : Nat → UInt32} {cmp sof kin lou pit pla cas hrs nws : Nat → Int32} {hat wea : Nat → UInt32} {r : Nat → Int32} {n w : Nat} {ln : Nat → Nat}
theorem qB_hat (h : qB n kin lou pit cas hrs nws hat wea r) (b : Nat) (x : UInt32) : qB n kin lou pit cas hrs nws (vf_upd hat b x) wea (upd r (40 + 8 * b + 2) x.toInt32) := fun b' hb' => by
  obtain ⟨a0, a1, a2, a3, a4, a5, a6, a7⟩ := h b' hb'
  by_cases e : b' = b
  · subst e
    exact ⟨(upd_ne _ _ (by omega)).trans a0, (upd_ne _ _ (by omega)).trans a1, by rw [upd_eq, vupd_eq], (upd_ne _ _ (by omega)).trans a3, (upd_ne _ _ (by omega)).trans a4, (upd_ne _ _ (by omega)).trans a5, (upd_ne _ _ (by omega)).trans a6, (upd_ne _ _ (by omega)).trans a7⟩
  · exact ⟨(upd_ne _ _ (by omega)).trans a0, (upd_ne _ _ (by omega)).trans a1, by rw [upd_ne _ _ (by omega), vupd_ne _ _ e]; exact a2, (upd_ne _ _ (by omega)).trans a3, (upd_ne _ _ (by omega)).trans a4, (upd_ne _ _ (by omega)).trans a5, (upd_ne _ _ (by omega)).trans a6, (upd_ne _ _ (by omega)).trans a7⟩
theorem qB_wea (h : qB n kin lou pit cas hrs nws hat wea r) (b : Nat) (x : UInt32) : qB n kin lou pit cas hrs nws hat (vf_upd wea b x) (upd r (40 + 8 * b + 3) x.toInt32) := fun b' hb' => by
  obtain ⟨a0, a1, a2, a3, a4, a5, a6, a7⟩ := h b' hb'
  by_cases e : b' = b
  · subst e
    exact ⟨(upd_ne _ _ (by omega)).trans a0, (upd_ne _ _ (by omega)).trans a1, (upd_ne _ _ (by omega)).trans a2, by rw [upd_eq, vupd_eq], (upd_ne _ _ (by omega)).trans a4, (upd_ne _ _ (by omega)).trans a5, (upd_ne _ _ (by omega)).trans a6, (upd_ne _ _ (by omega)).trans a7⟩
  · exact ⟨(upd_ne _ _ (by omega)).trans a0, (upd_ne _ _ (by omega)).trans a1, (upd_ne _ _ (by omega)).trans a2, by rw [upd_ne _ _ (by omega), vupd_ne _ _ e]; exact a3, (upd_ne _ _ (by omega)).trans a4, (upd_ne _ _ (by omega)).trans a5, (upd_ne _ _ (by omega)).trans a6, (upd_ne _ _ (by omega)).trans a7⟩
theorem qB_pit (h : qB n kin lou pit cas hrs nws hat wea r) (b : Nat) (x : Int32) : qB n kin lou (upd pit b x) cas hrs nws hat wea (upd r (40 + 8 * b + 4) x) := fun b' hb' => by
  obtain ⟨a0, a1, a2, a3, a4, a5, a6, a7⟩ := h b' hb'
  by_cases e : b' = b
  · subst e
    exact ⟨(upd_ne _ _ (by omega)).trans a0, (upd_ne _ _ (by omega)).trans a1, (upd_ne _ _ (by omega)).trans a2, (upd_ne _ _ (by omega)).trans a3, by rw [upd_eq, upd_eq], (upd_ne _ _ (by omega)).trans a5, (upd_ne _ _ (by omega)).trans a6, (upd_ne _ _ (by omega)).trans a7⟩
  · exact ⟨(upd_ne _ _ (by omega)).trans a0, (upd_ne _ _ (by omega)).trans a1, (upd_ne _ _ (by omega)).trans a2, (upd_ne _ _ (by omega)).trans a3, by rw [upd_ne _ _ (by omega), upd_ne _ _ e]; exact a4, (upd_ne _ _ (by omega)).trans a5, (upd_ne _ _ (by omega)).trans a6, (upd_ne _ _ (by omega)).trans a7⟩
theorem qB_cas (h : qB n kin lou pit cas hrs nws hat wea r) (b : Nat) (x : Int32) : qB n kin lou pit (upd cas b x) hrs nws hat wea (upd r (40 + 8 * b + 5) x) := fun b' hb' => by
  obtain ⟨a0, a1, a2, a3, a4, a5, a6, a7⟩ := h b' hb'
  by_cases e : b' = b
  · subst e
    exact ⟨(upd_ne _ _ (by omega)).trans a0, (upd_ne _ _ (by omega)).trans a1, (upd_ne _ _ (by omega)).trans a2, (upd_ne _ _ (by omega)).trans a3, (upd_ne _ _ (by omega)).trans a4, by rw [upd_eq, upd_eq], (upd_ne _ _ (by omega)).trans a6, (upd_ne _ _ (by omega)).trans a7⟩
  · exact ⟨(upd_ne _ _ (by omega)).trans a0, (upd_ne _ _ (by omega)).trans a1, (upd_ne _ _ (by omega)).trans a2, (upd_ne _ _ (by omega)).trans a3, (upd_ne _ _ (by omega)).trans a4, by rw [upd_ne _ _ (by omega), upd_ne _ _ e]; exact a5, (upd_ne _ _ (by omega)).trans a6, (upd_ne _ _ (by omega)).trans a7⟩
theorem qB_hrs (h : qB n kin lou pit cas hrs nws hat wea r) (b : Nat) (x : Int32) : qB n kin lou pit cas (upd hrs b x) nws hat wea (upd r (40 + 8 * b + 6) x) := fun b' hb' => by
  obtain ⟨a0, a1, a2, a3, a4, a5, a6, a7⟩ := h b' hb'
  by_cases e : b' = b
  · subst e
    exact ⟨(upd_ne _ _ (by omega)).trans a0, (upd_ne _ _ (by omega)).trans a1, (upd_ne _ _ (by omega)).trans a2, (upd_ne _ _ (by omega)).trans a3, (upd_ne _ _ (by omega)).trans a4, (upd_ne _ _ (by omega)).trans a5, by rw [upd_eq, upd_eq], (upd_ne _ _ (by omega)).trans a7⟩
  · exact ⟨(upd_ne _ _ (by omega)).trans a0, (upd_ne _ _ (by omega)).trans a1, (upd_ne _ _ (by omega)).trans a2, (upd_ne _ _ (by omega)).trans a3, (upd_ne _ _ (by omega)).trans a4, (upd_ne _ _ (by omega)).trans a5, by rw [upd_ne _ _ (by omega), upd_ne _ _ e]; exact a6, (upd_ne _ _ (by omega)).trans a7⟩
theorem qB_nws (h : qB n kin lou pit cas hrs nws hat wea r) (b : Nat) (x : Int32) : qB n kin lou pit cas hrs (upd nws b x) hat wea (upd r (40 + 8 * b + 7) x) := fun b' hb' => by
  obtain ⟨a0, a1, a2, a3, a4, a5, a6, a7⟩ := h b' hb'
  by_cases e : b' = b
  · subst e
    exact ⟨(upd_ne _ _ (by omega)).trans a0, (upd_ne _ _ (by omega)).trans a1, (upd_ne _ _ (by omega)).trans a2, (upd_ne _ _ (by omega)).trans a3, (upd_ne _ _ (by omega)).trans a4, (upd_ne _ _ (by omega)).trans a5, (upd_ne _ _ (by omega)).trans a6, by rw [upd_eq, upd_eq]⟩
  · exact ⟨(upd_ne _ _ (by omega)).trans a0, (upd_ne _ _ (by omega)).trans a1, (upd_ne _ _ (by omega)).trans a2, (upd_ne _ _ (by omega)).trans a3, (upd_ne _ _ (by omega)).trans a4, (upd_ne _ _ (by omega)).trans a5, (upd_ne _ _ (by omega)).trans a6, by rw [upd_ne _ _ (by omega), upd_ne _ _ e]; exact a7⟩
theorem T_crowd (h : Rl hour crowd bus ans drw lim cmp sof kin lou pit pla cas hrs nws hat wea (r) n w ln) {c : Nat} (hc9 : c ≤ 50) : Rl hour (nI c) bus ans drw lim cmp sof kin lou pit pla cas hrs nws hat wea (upd r 1 (nI c)) n w ln := by
  obtain ⟨hA, h0, hc, hP, hL, hC, hS, hB, hK, hF, hW, hI, hG, hE, hN, hD⟩ := h
  exact ⟨qA_fr hA (upd_ne _ _ (by omega)), ⟨(upd_ne _ _ (by decide)).trans h0.1, upd_eq _ _ _, (upd_ne _ _ (by decide)).trans h0.2.2.1, (upd_ne _ _ (by decide)).trans h0.2.2.2⟩, ⟨c, hc9, rfl⟩, qP_fr hP (fun k w hk hw => upd_ne _ _ (by omega)), hL, hC, qS_fr hS (upd_ne _ _ (by omega)) (upd_ne _ _ (by omega)), qB_fr hB hA.2.1 (fun b w hb hw => upd_ne _ _ (by omega)), hK, hF, qW_fr hW (fun k hk => upd_ne _ _ (by omega)), hI, hG, hE, qN_fr hN (upd_ne _ _ (by omega)) (fun j hj => upd_ne _ _ (by omega)), hD⟩
theorem T_limit (h : Rl hour crowd bus ans drw lim cmp sof kin lou pit pla cas hrs nws hat wea (r) n w ln) {k : Nat} (hk : k < 8) {x : UInt32} (hx : x.toNat ≤ 1123024896) : Rl hour crowd bus ans drw (vf_upd lim k x) cmp sof kin lou pit pla cas hrs nws hat wea (upd r (8 + 4 * k) x.toInt32) n w ln := by
  obtain ⟨hA, h0, hc, hP, hL, hC, hS, hB, hK, hF, hW, hI, hG, hE, hN, hD⟩ := h
  refine ⟨qA_fr hA (upd_ne _ _ (by omega)), q0_fr h0 (upd_ne _ _ (by omega)) (upd_ne _ _ (by omega)) (upd_ne _ _ (by omega)) (upd_ne _ _ (by omega)), hc, fun k2 hk2 => ?_, fun k2 hk2 => ?_, hC, qS_fr hS (upd_ne _ _ (by omega)) (upd_ne _ _ (by omega)), qB_fr hB hA.2.1 (fun b w hb hw => upd_ne _ _ (by omega)), hK, hF, qW_fr hW (fun k hk => upd_ne _ _ (by omega)), hI, hG, hE, qN_fr hN (upd_ne _ _ (by omega)) (fun j hj => upd_ne _ _ (by omega)), hD⟩
  · obtain ⟨p0, p1, p2⟩ := hP k2 hk2
    by_cases e : k2 = k
    · subst e
      exact ⟨by rw [upd_eq, vupd_eq], (upd_ne _ _ (by omega)).trans p1, (upd_ne _ _ (by omega)).trans p2⟩
    · exact ⟨by rw [upd_ne _ _ (by omega), vupd_ne _ _ e]; exact p0, (upd_ne _ _ (by omega)).trans p1, (upd_ne _ _ (by omega)).trans p2⟩
  · by_cases e : k2 = k
    · rw [e, vupd_eq]; exact hx
    · rw [vupd_ne _ _ e]; exact hL k2 hk2
theorem T_busker (h : Rl hour crowd bus ans drw lim cmp sof kin lou pit pla cas hrs nws hat wea (r) n w ln) (hn : n < 8) {a : Int32} (ha : a = 0 ∨ a = 1) {l : Nat} (hl1 : 1 ≤ l) (hl2 : l ≤ 9) : Rl hour crowd (nI (n + 1)) ans drw lim cmp sof (upd kin n a) (upd lou n (nI l)) pit pla cas hrs nws hat wea (upd (upd (upd (upd (upd (upd (upd (upd (upd r 2 (nI (n + 1))) (40 + 8 * n) (a)) (40 + 8 * n + 1) (nI l)) (40 + 8 * n + 2) ((FP.fconst0 : UInt32).toInt32)) (40 + 8 * n + 3) ((FP.fconst0 : UInt32).toInt32)) (40 + 8 * n + 4) (-1)) (40 + 8 * n + 5) (-1)) (40 + 8 * n + 6) (0)) (40 + 8 * n + 7) (0)) (n + 1) w ln := by
  obtain ⟨hA, h0, hc, hP, hL, hC, hS, hB, hK, hF, hW, hI, hG, hE, hN, hD⟩ := h
  obtain ⟨e1, e2, e3, e4, e5, e6, e7⟩ := hE n (Nat.le_refl n) hn
  refine ⟨⟨rfl, by omega, by rw [upd_ne _ _ (by omega), upd_ne _ _ (by omega), upd_ne _ _ (by omega), upd_ne _ _ (by omega), upd_ne _ _ (by omega), upd_ne _ _ (by omega), upd_ne _ _ (by omega), upd_ne _ _ (by omega)]; exact upd_eq _ _ _⟩, q0_fr h0 (by rw [upd_ne _ _ (by omega), upd_ne _ _ (by omega), upd_ne _ _ (by omega), upd_ne _ _ (by omega), upd_ne _ _ (by omega), upd_ne _ _ (by omega), upd_ne _ _ (by omega), upd_ne _ _ (by omega), upd_ne _ _ (by omega)]) (by rw [upd_ne _ _ (by omega), upd_ne _ _ (by omega), upd_ne _ _ (by omega), upd_ne _ _ (by omega), upd_ne _ _ (by omega), upd_ne _ _ (by omega), upd_ne _ _ (by omega), upd_ne _ _ (by omega), upd_ne _ _ (by omega)]) (by rw [upd_ne _ _ (by omega), upd_ne _ _ (by omega), upd_ne _ _ (by omega), upd_ne _ _ (by omega), upd_ne _ _ (by omega), upd_ne _ _ (by omega), upd_ne _ _ (by omega), upd_ne _ _ (by omega), upd_ne _ _ (by omega)]) (by rw [upd_ne _ _ (by omega), upd_ne _ _ (by omega), upd_ne _ _ (by omega), upd_ne _ _ (by omega), upd_ne _ _ (by omega), upd_ne _ _ (by omega), upd_ne _ _ (by omega), upd_ne _ _ (by omega), upd_ne _ _ (by omega)]), hc, qP_fr hP (fun k w hk hw => by rw [upd_ne _ _ (by omega), upd_ne _ _ (by omega), upd_ne _ _ (by omega), upd_ne _ _ (by omega), upd_ne _ _ (by omega), upd_ne _ _ (by omega), upd_ne _ _ (by omega), upd_ne _ _ (by omega), upd_ne _ _ (by omega)]), hL, hC, qS_fr hS (by rw [upd_ne _ _ (by omega), upd_ne _ _ (by omega), upd_ne _ _ (by omega), upd_ne _ _ (by omega), upd_ne _ _ (by omega), upd_ne _ _ (by omega), upd_ne _ _ (by omega), upd_ne _ _ (by omega), upd_ne _ _ (by omega)]) (by rw [upd_ne _ _ (by omega), upd_ne _ _ (by omega), upd_ne _ _ (by omega), upd_ne _ _ (by omega), upd_ne _ _ (by omega), upd_ne _ _ (by omega), upd_ne _ _ (by omega), upd_ne _ _ (by omega), upd_ne _ _ (by omega)]), fun b hb => ?_, fun b hb => ?_, hF, fun k hk => ?_, hI, hG, fun b hb hb8 => hE b (by omega) hb8, ⟨?_, fun j hj => ?_, hN.2.2.1, hN.2.2.2⟩, hD⟩
  · by_cases e : b = n
    · subst e
      exact ⟨by rw [upd_ne _ _ (by omega), upd_ne _ _ (by omega), upd_ne _ _ (by omega), upd_ne _ _ (by omega), upd_ne _ _ (by omega), upd_ne _ _ (by omega), upd_ne _ _ (by omega), upd_eq]; rw [upd_eq], by rw [upd_ne _ _ (by omega), upd_ne _ _ (by omega), upd_ne _ _ (by omega), upd_ne _ _ (by omega), upd_ne _ _ (by omega), upd_ne _ _ (by omega), upd_eq]; rw [upd_eq], by rw [upd_ne _ _ (by omega), upd_ne _ _ (by omega), upd_ne _ _ (by omega), upd_ne _ _ (by omega), upd_ne _ _ (by omega), upd_eq]; rw [e6]; rfl, by rw [upd_ne _ _ (by omega), upd_ne _ _ (by omega), upd_ne _ _ (by omega), upd_ne _ _ (by omega), upd_eq]; rw [e7]; rfl, by rw [upd_ne _ _ (by omega), upd_ne _ _ (by omega), upd_ne _ _ (by omega), upd_eq]; rw [e1], by rw [upd_ne _ _ (by omega), upd_ne _ _ (by omega), upd_eq]; rw [e3], by rw [upd_ne _ _ (by omega), upd_eq]; rw [e4], by rw [upd_eq]; rw [e5]⟩
    · obtain ⟨a0, a1, a2, a3, a4, a5, a6, a7⟩ := hB b (by omega)
      exact ⟨by rw [upd_ne _ _ (by omega), upd_ne _ _ (by omega), upd_ne _ _ (by omega), upd_ne _ _ (by omega), upd_ne _ _ (by omega), upd_ne _ _ (by omega), upd_ne _ _ (by omega), upd_ne _ _ (by omega), upd_ne _ _ (by omega)]; rw [upd_ne _ _ (by omega)]; exact a0, by rw [upd_ne _ _ (by omega), upd_ne _ _ (by omega), upd_ne _ _ (by omega), upd_ne _ _ (by omega), upd_ne _ _ (by omega), upd_ne _ _ (by omega), upd_ne _ _ (by omega), upd_ne _ _ (by omega), upd_ne _ _ (by omega)]; rw [upd_ne _ _ (by omega)]; exact a1, by rw [upd_ne _ _ (by omega), upd_ne _ _ (by omega), upd_ne _ _ (by omega), upd_ne _ _ (by omega), upd_ne _ _ (by omega), upd_ne _ _ (by omega), upd_ne _ _ (by omega), upd_ne _ _ (by omega), upd_ne _ _ (by omega)]; exact a2, by rw [upd_ne _ _ (by omega), upd_ne _ _ (by omega), upd_ne _ _ (by omega), upd_ne _ _ (by omega), upd_ne _ _ (by omega), upd_ne _ _ (by omega), upd_ne _ _ (by omega), upd_ne _ _ (by omega), upd_ne _ _ (by omega)]; exact a3, by rw [upd_ne _ _ (by omega), upd_ne _ _ (by omega), upd_ne _ _ (by omega), upd_ne _ _ (by omega), upd_ne _ _ (by omega), upd_ne _ _ (by omega), upd_ne _ _ (by omega), upd_ne _ _ (by omega), upd_ne _ _ (by omega)]; exact a4, by rw [upd_ne _ _ (by omega), upd_ne _ _ (by omega), upd_ne _ _ (by omega), upd_ne _ _ (by omega), upd_ne _ _ (by omega), upd_ne _ _ (by omega), upd_ne _ _ (by omega), upd_ne _ _ (by omega), upd_ne _ _ (by omega)]; exact a5, by rw [upd_ne _ _ (by omega), upd_ne _ _ (by omega), upd_ne _ _ (by omega), upd_ne _ _ (by omega), upd_ne _ _ (by omega), upd_ne _ _ (by omega), upd_ne _ _ (by omega), upd_ne _ _ (by omega), upd_ne _ _ (by omega)]; exact a6, by rw [upd_ne _ _ (by omega), upd_ne _ _ (by omega), upd_ne _ _ (by omega), upd_ne _ _ (by omega), upd_ne _ _ (by omega), upd_ne _ _ (by omega), upd_ne _ _ (by omega), upd_ne _ _ (by omega), upd_ne _ _ (by omega)]; exact a7⟩
  · by_cases e : b = n
    · subst e
      rw [upd_eq, upd_eq]
      exact ⟨ha, l, hl1, hl2, rfl⟩
    · rw [upd_ne _ _ e, upd_ne _ _ e]
      exact hK b (by omega)
  · rw [upd_ne _ _ (by omega), upd_ne _ _ (by omega), upd_ne _ _ (by omega), upd_ne _ _ (by omega), upd_ne _ _ (by omega), upd_ne _ _ (by omega), upd_ne _ _ (by omega), upd_ne _ _ (by omega), upd_ne _ _ (by omega)]
    rcases hW k hk with q | ⟨b, q1, q2⟩
    · exact Or.inl q
    · exact Or.inr ⟨b, by omega, q2⟩
  · rw [upd_ne _ _ (by omega), upd_ne _ _ (by omega), upd_ne _ _ (by omega), upd_ne _ _ (by omega), upd_ne _ _ (by omega), upd_ne _ _ (by omega), upd_ne _ _ (by omega), upd_ne _ _ (by omega), upd_ne _ _ (by omega)]; exact hN.1
  · have hw := qN_le hN
    obtain ⟨q1, q2, q3⟩ := hN.2.1 j hj
    exact ⟨by omega, by rw [upd_ne _ _ (by omega), upd_ne _ _ (by omega), upd_ne _ _ (by omega), upd_ne _ _ (by omega), upd_ne _ _ (by omega), upd_ne _ _ (by omega), upd_ne _ _ (by omega), upd_ne _ _ (by omega), upd_ne _ _ (by omega)]; exact q2, q3⟩
theorem T_room (h : Rl hour crowd bus ans drw lim cmp sof kin lou pit pla cas hrs nws hat wea (r) n w ln) {b : Nat} (hb : b < 8) (hp : pla b = -1) : w < 8 := by
  obtain ⟨hA, h0, hc, hP, hL, hC, hS, hB, hK, hF, hW, hI, hG, hE, hN, hD⟩ := h
  have h1 := cn_upd (p := fun i => decide (¬ pla i = -1)) (q := fun i => decide (¬ upd pla b 0 i = -1)) (k := b) (m := 8) hb (fun i hi e => by simp only [upd_ne pla 0 e])
  have h2 := cn_le (fun i => decide (¬ upd pla b 0 i = -1)) 8
  have h1 : cn (fun i => decide (¬ upd pla b 0 i = -1)) 8 + (decide (¬ pla b = -1)).toNat = cn (fun i => decide (¬ pla i = -1)) 8 + (decide (¬ upd pla b 0 b = -1)).toNat := h1
  rw [hN.2.2.2, upd_eq, hp] at h1
  have h3 : (decide (¬ (-1 : Int32) = -1)).toNat = 0 := rfl
  have h4 : (decide (¬ (0 : Int32) = -1)).toNat = 1 := rfl
  omega
theorem T_join (h : Rl hour crowd bus ans drw lim cmp sof kin lou pit pla cas hrs nws hat wea (r) n w ln) {b : Nat} (hb : b < n) (hp : pla b = -1) (hq : pit b = -1) : Rl hour crowd bus ans drw lim cmp sof kin lou pit (upd pla b (nI w)) cas hrs nws hat wea (upd (upd r (104 + w) (nI b)) 3 (nI (w + 1))) n (w + 1) (fun j => if j = w then b else ln j) := by
  have hn8 := h.1.2.1
  have hw8 := T_room h (b := b) (by omega) hp
  obtain ⟨hA, h0, hc, hP, hL, hC, hS, hB, hK, hF, hW, hI, hG, hE, hN, hD⟩ := h
  refine ⟨qA_fr hA (by rw [upd_ne _ _ (by omega), upd_ne _ _ (by omega)]), q0_fr h0 (by rw [upd_ne _ _ (by omega), upd_ne _ _ (by omega)]) (by rw [upd_ne _ _ (by omega), upd_ne _ _ (by omega)]) (by rw [upd_ne _ _ (by omega), upd_ne _ _ (by omega)]) (by rw [upd_ne _ _ (by omega), upd_ne _ _ (by omega)]), hc, qP_fr hP (fun k w hk hw => by rw [upd_ne _ _ (by omega), upd_ne _ _ (by omega)]), hL, hC, qS_fr hS (by rw [upd_ne _ _ (by omega), upd_ne _ _ (by omega)]) (by rw [upd_ne _ _ (by omega), upd_ne _ _ (by omega)]), qB_fr hB hA.2.1 (fun b w hb hw => by rw [upd_ne _ _ (by omega), upd_ne _ _ (by omega)]), hK, hF, qW_fr hW (fun k hk => by rw [upd_ne _ _ (by omega), upd_ne _ _ (by omega)]), hI, hG, fun b' h1 h2 => ?_, ⟨upd_eq _ _ _, fun j hj => ?_, fun b' hb' => ?_, ?_⟩, fun b' hb' hq' => ?_⟩
  · rw [upd_ne _ _ (by omega)]; exact hE b' h1 h2
  · by_cases e : j = w
    · subst e
      dsimp only
      rw [if_pos rfl, upd_ne _ _ (by omega), upd_eq, upd_eq]
      exact ⟨hb, rfl, rfl⟩
    · obtain ⟨q1, q2, q3⟩ := hN.2.1 j (by omega)
      dsimp only
      rw [if_neg e, upd_ne _ _ (by omega), upd_ne _ _ (by omega), upd_ne _ _ (fun e2 => by
        rw [e2, hp] at q3
        exact nI_ne_m1 (by omega) q3.symm)]
      exact ⟨q1, q2, q3⟩
  · by_cases e : b' = b
    · subst e
      exact Or.inr ⟨w, by omega, upd_eq _ _ _, if_pos rfl⟩
    · rw [upd_ne _ _ e]
      rcases hN.2.2.1 b' hb' with q | ⟨j, q1, q2, q3⟩
      · exact Or.inl q
      · exact Or.inr ⟨j, by omega, q2, by dsimp only; rw [if_neg (by omega)]; exact q3⟩
  · have h1 := cn_upd (p := fun i => decide (¬ pla i = -1)) (q := fun i => decide (¬ upd pla b (nI w) i = -1)) (k := b) (m := 8) (by omega) (fun i hi e => by simp only [upd_ne pla _ e])
    have h1 : cn (fun i => decide (¬ upd pla b (nI w) i = -1)) 8 + (decide (¬ pla b = -1)).toNat = cn (fun i => decide (¬ pla i = -1)) 8 + (decide (¬ upd pla b (nI w) b = -1)).toNat := h1
    rw [hN.2.2.2, upd_eq, hp] at h1
    have h3 : (decide (¬ (-1 : Int32) = -1)).toNat = 0 := rfl
    have h4 : (decide (¬ nI w = -1)).toNat = 1 := by rw [decide_eq_true (nI_ne_m1 (by omega))]; rfl
    omega
  · rw [upd_ne _ _ (fun e => by rw [e] at hq'; exact hq' hq)]
    exact hD b' hb' hq'
theorem T_home (h : Rl hour crowd bus ans drw lim cmp sof kin lou pit pla cas hrs nws hat wea (r) n w ln) {k b : Nat} (hk : k < 8) (hb : b < n) (hp : pit b = nI k) : Rl hour crowd bus ans drw lim cmp sof kin lou (upd pit b (-1)) pla cas hrs nws hat wea (upd (upd r (40 + 8 * b + 4) (-1)) (8 + 4 * k + 3) (-1)) n w ln := by
  obtain ⟨hA, h0, hc, hP, hL, hC, hS, hB, hK, hF, hW, hI, hG, hE, hN, hD⟩ := h
  have hn8 := hA.2.1
  have hu : ∀ b', b' < 8 → pit b' = nI k → b' = b := by
    rcases hW k hk with ⟨-, q⟩ | ⟨b2, -, -, -, q⟩
    · exact absurd hp (q b (by omega))
    · intro b' h1 h2
      rw [q b' h1 h2, q b (by omega) hp]
  refine ⟨qA_fr hA (by rw [upd_ne _ _ (by omega), upd_ne _ _ (by omega)]), q0_fr h0 (by rw [upd_ne _ _ (by omega), upd_ne _ _ (by omega)]) (by rw [upd_ne _ _ (by omega), upd_ne _ _ (by omega)]) (by rw [upd_ne _ _ (by omega), upd_ne _ _ (by omega)]) (by rw [upd_ne _ _ (by omega), upd_ne _ _ (by omega)]), hc, qP_fr hP (fun k w hk hw => by rw [upd_ne _ _ (by omega), upd_ne _ _ (by omega)]), hL, hC, qS_fr hS (by rw [upd_ne _ _ (by omega), upd_ne _ _ (by omega)]) (by rw [upd_ne _ _ (by omega), upd_ne _ _ (by omega)]), qB_fr (qB_pit hB b (-1)) hA.2.1 (fun b w hb hw => upd_ne _ _ (by omega)), hK, hF, fun k' hk' => ?_, fun b' hb' => ?_, hG, fun b' h1 h2 => ?_, qN_fr hN (by rw [upd_ne _ _ (by omega), upd_ne _ _ (by omega)]) (fun j hj => by rw [upd_ne _ _ (by omega), upd_ne _ _ (by omega)]), fun b' hb' hq' => ?_⟩
  · by_cases e : k' = k
    · subst e
      refine Or.inl ⟨upd_eq _ _ _, fun b' hb' q => ?_⟩
      by_cases e : b' = b
      · rw [e, upd_eq] at q; exact nI_ne_m1 (by omega) q.symm
      · rw [upd_ne _ _ e] at q; exact e (hu b' hb' q)
    · rw [upd_ne _ _ (by omega), upd_ne _ _ (by omega)]
      rcases hW k' hk' with ⟨q1, q2⟩ | ⟨b2, q1, q2, q3, q4⟩
      · refine Or.inl ⟨q1, fun b' hb' => ?_⟩
        by_cases e : b' = b
        · rw [e, upd_eq]; exact fun q => nI_ne_m1 (by omega) q.symm
        · rw [upd_ne _ _ e]; exact q2 b' hb'
      · have e2 : b2 ≠ b := fun e2 => by
          rw [e2, hp] at q3
          have := (nI_eq (by omega) (by omega)).mp q3
          omega
        refine Or.inr ⟨b2, q1, q2, by rw [upd_ne _ _ e2]; exact q3, fun b' hb' q => ?_⟩
        by_cases e : b' = b
        · rw [e, upd_eq] at q; exact absurd q.symm (nI_ne_m1 (by omega))
        · rw [upd_ne _ _ e] at q; exact q4 b' hb' q
  · by_cases e : b' = b
    · rw [e, upd_eq]; exact Or.inl rfl
    · rw [upd_ne _ _ e]; exact hI b' hb'
  · rw [upd_ne _ _ (by omega)]; exact hE b' h1 h2
  · by_cases e : b' = b
    · rw [e, upd_eq] at hq'; exact absurd rfl hq'
    · rw [upd_ne _ _ e] at hq'; exact hD b' hb' hq'
theorem T_hat (h : Rl hour crowd bus ans drw lim cmp sof kin lou pit pla cas hrs nws hat wea (r) n w ln) {b : Nat} (hb : b < n) {x : UInt32} (hx : x.toNat ≤ 1317011456) : Rl hour crowd bus ans drw lim cmp sof kin lou pit pla cas hrs nws (vf_upd hat b x) wea (upd r (40 + 8 * b + 2) x.toInt32) n w ln := by
  obtain ⟨hA, h0, hc, hP, hL, hC, hS, hB, hK, hF, hW, hI, hG, hE, hN, hD⟩ := h
  have hn8 := hA.2.1
  refine ⟨qA_fr hA (upd_ne _ _ (by omega)), q0_fr h0 (upd_ne _ _ (by omega)) (upd_ne _ _ (by omega)) (upd_ne _ _ (by omega)) (upd_ne _ _ (by omega)), hc, qP_fr hP (fun k w hk hw => upd_ne _ _ (by omega)), hL, hC, qS_fr hS (upd_ne _ _ (by omega)) (upd_ne _ _ (by omega)), qB_hat hB b x, hK, fun b' hb' => ?_, qW_fr hW (fun k hk => upd_ne _ _ (by omega)), hI, hG, fun b' h1 h2 => ?_, qN_fr hN (upd_ne _ _ (by omega)) (fun j hj => upd_ne _ _ (by omega)), hD⟩
  · by_cases e : b' = b
    · rw [e, vupd_eq]; exact ⟨hx, (hF b (by omega)).2⟩
    · rw [vupd_ne _ _ e]; exact hF b' hb'
  · rw [vupd_ne _ _ (by omega)]; exact hE b' h1 h2
theorem T_wear (h : Rl hour crowd bus ans drw lim cmp sof kin lou pit pla cas hrs nws hat wea (r) n w ln) {b : Nat} (hb : b < n) {x : UInt32} (hx : x.toNat ≤ 1317011456) : Rl hour crowd bus ans drw lim cmp sof kin lou pit pla cas hrs nws hat (vf_upd wea b x) (upd r (40 + 8 * b + 3) x.toInt32) n w ln := by
  obtain ⟨hA, h0, hc, hP, hL, hC, hS, hB, hK, hF, hW, hI, hG, hE, hN, hD⟩ := h
  have hn8 := hA.2.1
  refine ⟨qA_fr hA (upd_ne _ _ (by omega)), q0_fr h0 (upd_ne _ _ (by omega)) (upd_ne _ _ (by omega)) (upd_ne _ _ (by omega)) (upd_ne _ _ (by omega)), hc, qP_fr hP (fun k w hk hw => upd_ne _ _ (by omega)), hL, hC, qS_fr hS (upd_ne _ _ (by omega)) (upd_ne _ _ (by omega)), qB_wea hB b x, hK, fun b' hb' => ?_, qW_fr hW (fun k hk => upd_ne _ _ (by omega)), hI, hG, fun b' h1 h2 => ?_, qN_fr hN (upd_ne _ _ (by omega)) (fun j hj => upd_ne _ _ (by omega)), hD⟩
  · by_cases e : b' = b
    · rw [e, vupd_eq]; exact ⟨(hF b (by omega)).1, hx⟩
    · rw [vupd_ne _ _ e]; exact hF b' hb'
  · rw [vupd_ne _ _ (by omega)]; exact hE b' h1 h2
theorem T_hours (h : Rl hour crowd bus ans drw lim cmp sof kin lou pit pla cas hrs nws hat wea (r) n w ln) {b : Nat} (hb : b < n) (x : Int32) : Rl hour crowd bus ans drw lim cmp sof kin lou pit pla cas (upd hrs b x) nws hat wea (upd r (40 + 8 * b + 6) x) n w ln := by
  obtain ⟨hA, h0, hc, hP, hL, hC, hS, hB, hK, hF, hW, hI, hG, hE, hN, hD⟩ := h
  have hn8 := hA.2.1
  refine ⟨qA_fr hA (upd_ne _ _ (by omega)), q0_fr h0 (upd_ne _ _ (by omega)) (upd_ne _ _ (by omega)) (upd_ne _ _ (by omega)) (upd_ne _ _ (by omega)), hc, qP_fr hP (fun k w hk hw => upd_ne _ _ (by omega)), hL, hC, qS_fr hS (upd_ne _ _ (by omega)) (upd_ne _ _ (by omega)), qB_hrs hB b x, hK, hF, qW_fr hW (fun k hk => upd_ne _ _ (by omega)), hI, hG, fun b' h1 h2 => ?_, qN_fr hN (upd_ne _ _ (by omega)) (fun j hj => upd_ne _ _ (by omega)), hD⟩
  rw [upd_ne _ _ (by omega)]; exact hE b' h1 h2
theorem T_new (h : Rl hour crowd bus ans drw lim cmp sof kin lou pit pla cas hrs nws hat wea (r) n w ln) {b : Nat} (hb : b < n) : Rl hour crowd bus ans drw lim cmp sof kin lou pit pla cas hrs (upd nws b (nws b + 1)) hat wea (upd (upd r (40 + 8 * b + 7) (nws b + 1)) 6 (sI nws 8 + 1)) n w ln := by
  obtain ⟨hA, h0, hc, hP, hL, hC, hS, hB, hK, hF, hW, hI, hG, hE, hN, hD⟩ := h
  have hn8 := hA.2.1
  refine ⟨qA_fr hA (by rw [upd_ne _ _ (by omega), upd_ne _ _ (by omega)]), q0_fr h0 (by rw [upd_ne _ _ (by omega), upd_ne _ _ (by omega)]) (by rw [upd_ne _ _ (by omega), upd_ne _ _ (by omega)]) (by rw [upd_ne _ _ (by omega), upd_ne _ _ (by omega)]) (by rw [upd_ne _ _ (by omega), upd_ne _ _ (by omega)]), hc, qP_fr hP (fun k w hk hw => by rw [upd_ne _ _ (by omega), upd_ne _ _ (by omega)]), hL, hC, ⟨(by rw [upd_ne _ _ (by omega), upd_ne _ _ (by omega)]; exact hS.1), by rw [upd_eq, sI_1 (by omega)]⟩, qB_fr (qB_nws hB b _) hA.2.1 (fun b w hb hw => upd_ne _ _ (by omega)), hK, hF, qW_fr hW (fun k hk => by rw [upd_ne _ _ (by omega), upd_ne _ _ (by omega)]), hI, hG, fun b' h1 h2 => ?_, qN_fr hN (by rw [upd_ne _ _ (by omega), upd_ne _ _ (by omega)]) (fun j hj => by rw [upd_ne _ _ (by omega), upd_ne _ _ (by omega)]), hD⟩
  rw [upd_ne _ _ (by omega)]; exact hE b' h1 h2
theorem T_case (h : Rl hour crowd bus ans drw lim cmp sof kin lou pit pla cas hrs nws hat wea (r) n w ln) {b : Nat} (hb : b < n) {x : Int32} (hx : x = -1 ∨ ∃ p, p < 3 ∧ x = nI p) : Rl hour crowd bus ans drw lim cmp sof kin lou pit pla (upd cas b x) hrs nws hat wea (upd r (40 + 8 * b + 5) x) n w ln := by
  obtain ⟨hA, h0, hc, hP, hL, hC, hS, hB, hK, hF, hW, hI, hG, hE, hN, hD⟩ := h
  have hn8 := hA.2.1
  refine ⟨qA_fr hA (upd_ne _ _ (by omega)), q0_fr h0 (upd_ne _ _ (by omega)) (upd_ne _ _ (by omega)) (upd_ne _ _ (by omega)) (upd_ne _ _ (by omega)), hc, qP_fr hP (fun k w hk hw => upd_ne _ _ (by omega)), hL, hC, qS_fr hS (upd_ne _ _ (by omega)) (upd_ne _ _ (by omega)), qB_cas hB b x, hK, hF, qW_fr hW (fun k hk => upd_ne _ _ (by omega)), hI, fun b' hb' => ?_, fun b' h1 h2 => ?_, qN_fr hN (upd_ne _ _ (by omega)) (fun j hj => upd_ne _ _ (by omega)), hD⟩
  · by_cases e : b' = b
    · rw [e, upd_eq]; exact hx
    · rw [upd_ne _ _ e]; exact hG b' hb'
  · rw [upd_ne _ _ (by omega)]; exact hE b' h1 h2
theorem T_answer (h : Rl hour crowd bus ans drw lim cmp sof kin lou pit pla cas hrs nws hat wea (r) n w ln) {k : Nat} (hk : k < 8) (v : Int32) (hv : v = ans + cmp k) : Rl hour crowd bus v drw lim (upd cmp k 0) sof kin lou pit pla cas hrs nws hat wea (upd (upd r (8 + 4 * k + 1) 0) 4 v) n w ln := by
  obtain ⟨hA, h0, hc, hP, hL, hC, hS, hB, hK, hF, hW, hI, hG, hE, hN, hD⟩ := h
  refine ⟨qA_fr hA (by rw [upd_ne _ _ (by omega), upd_ne _ _ (by omega)]), ⟨by rw [upd_ne _ _ (by omega), upd_ne _ _ (by omega)]; exact h0.1, by rw [upd_ne _ _ (by omega), upd_ne _ _ (by omega)]; exact h0.2.1, upd_eq _ _ _, by rw [upd_ne _ _ (by omega), upd_ne _ _ (by omega)]; exact h0.2.2.2⟩, hc, fun k2 hk2 => ?_, hL, fun k2 hk2 => ?_, qS_fr hS (by rw [upd_ne _ _ (by omega), upd_ne _ _ (by omega)]) (by rw [upd_ne _ _ (by omega), upd_ne _ _ (by omega)]), qB_fr hB hA.2.1 (fun b w hb hw => by rw [upd_ne _ _ (by omega), upd_ne _ _ (by omega)]), hK, hF, qW_fr hW (fun k hk => by rw [upd_ne _ _ (by omega), upd_ne _ _ (by omega)]), hI, hG, hE, qN_fr hN (by rw [upd_ne _ _ (by omega), upd_ne _ _ (by omega)]) (fun j hj => by rw [upd_ne _ _ (by omega), upd_ne _ _ (by omega)]), hD⟩
  · obtain ⟨p0, p1, p2⟩ := hP k2 hk2
    by_cases e : k2 = k
    · subst e
      exact ⟨by rw [upd_ne _ _ (by omega), upd_ne _ _ (by omega)]; exact p0, by rw [upd_ne _ _ (by omega), upd_eq, upd_eq], by rw [upd_ne _ _ (by omega), upd_ne _ _ (by omega)]; exact p2⟩
    · exact ⟨by rw [upd_ne _ _ (by omega), upd_ne _ _ (by omega)]; exact p0, by rw [upd_ne _ _ (by omega), upd_ne _ _ (by omega)]; rw [upd_ne _ _ e]; exact p1, by rw [upd_ne _ _ (by omega), upd_ne _ _ (by omega)]; exact p2⟩
  · by_cases e : k2 = k
    · rw [e, upd_eq]; exact ⟨0, by omega, rfl⟩
    · rw [upd_ne _ _ e]; exact hC k2 hk2
theorem T_complain (h : Rl hour crowd bus ans drw lim cmp sof kin lou pit pla cas hrs nws hat wea (r) n w ln) {k c : Nat} (hk : k < 8) (hc9 : c < 99) (hcc : cmp k = nI c) : Rl hour crowd bus ans drw lim (upd cmp k (cmp k + 1)) (upd sof k (sof k + 1)) kin lou pit pla cas hrs nws hat wea (upd (upd (upd r (8 + 4 * k + 1) (nI c + 1)) (8 + 4 * k + 2) (sof k + 1)) 5 (sI sof 8 + 1)) n w ln := by
  obtain ⟨hA, h0, hc, hP, hL, hC, hS, hB, hK, hF, hW, hI, hG, hE, hN, hD⟩ := h
  refine ⟨qA_fr hA (by rw [upd_ne _ _ (by omega), upd_ne _ _ (by omega), upd_ne _ _ (by omega)]), q0_fr h0 (by rw [upd_ne _ _ (by omega), upd_ne _ _ (by omega), upd_ne _ _ (by omega)]) (by rw [upd_ne _ _ (by omega), upd_ne _ _ (by omega), upd_ne _ _ (by omega)]) (by rw [upd_ne _ _ (by omega), upd_ne _ _ (by omega), upd_ne _ _ (by omega)]) (by rw [upd_ne _ _ (by omega), upd_ne _ _ (by omega), upd_ne _ _ (by omega)]), hc, fun k2 hk2 => ?_, hL, fun k2 hk2 => ?_, ⟨by rw [upd_eq, sI_1 hk], by rw [upd_ne _ _ (by omega), upd_ne _ _ (by omega), upd_ne _ _ (by omega)]; exact hS.2⟩, qB_fr hB hA.2.1 (fun b w hb hw => by rw [upd_ne _ _ (by omega), upd_ne _ _ (by omega), upd_ne _ _ (by omega)]), hK, hF, qW_fr hW (fun k hk => by rw [upd_ne _ _ (by omega), upd_ne _ _ (by omega), upd_ne _ _ (by omega)]), hI, hG, hE, qN_fr hN (by rw [upd_ne _ _ (by omega), upd_ne _ _ (by omega), upd_ne _ _ (by omega)]) (fun j hj => by rw [upd_ne _ _ (by omega), upd_ne _ _ (by omega), upd_ne _ _ (by omega)]), hD⟩
  · obtain ⟨p0, p1, p2⟩ := hP k2 hk2
    by_cases e : k2 = k
    · subst e
      exact ⟨by rw [upd_ne _ _ (by omega), upd_ne _ _ (by omega), upd_ne _ _ (by omega)]; exact p0, by rw [upd_ne _ _ (by omega), upd_ne _ _ (by omega), upd_eq, upd_eq, hcc], by rw [upd_ne _ _ (by omega), upd_eq, upd_eq]⟩
    · exact ⟨by rw [upd_ne _ _ (by omega), upd_ne _ _ (by omega), upd_ne _ _ (by omega)]; exact p0, by rw [upd_ne _ _ (by omega), upd_ne _ _ (by omega), upd_ne _ _ (by omega)]; rw [upd_ne _ _ e]; exact p1, by rw [upd_ne _ _ (by omega), upd_ne _ _ (by omega), upd_ne _ _ (by omega)]; rw [upd_ne _ _ e]; exact p2⟩
  · by_cases e : k2 = k
    · rw [e, upd_eq, hcc]; exact ⟨c + 1, by omega, nI_1 c⟩
    · rw [upd_ne _ _ e]; exact hC k2 hk2
theorem T_hour (h : Rl hour crowd bus ans drw lim cmp sof kin lou pit pla cas hrs nws hat wea (r) n w ln) : Rl (hour + 1) crowd bus ans drw lim cmp sof kin lou pit pla cas hrs nws hat wea (upd r 0 (hour + 1)) n w ln := by
  obtain ⟨hA, h0, hc, hP, hL, hC, hS, hB, hK, hF, hW, hI, hG, hE, hN, hD⟩ := h
  exact ⟨qA_fr hA (upd_ne _ _ (by omega)), ⟨upd_eq _ _ _, (upd_ne _ _ (by decide)).trans h0.2.1, (upd_ne _ _ (by decide)).trans h0.2.2.1, (upd_ne _ _ (by decide)).trans h0.2.2.2⟩, hc, qP_fr hP (fun k w hk hw => upd_ne _ _ (by omega)), hL, hC, qS_fr hS (upd_ne _ _ (by omega)) (upd_ne _ _ (by omega)), qB_fr hB hA.2.1 (fun b w hb hw => upd_ne _ _ (by omega)), hK, hF, qW_fr hW (fun k hk => upd_ne _ _ (by omega)), hI, hG, hE, qN_fr hN (upd_ne _ _ (by omega)) (fun j hj => upd_ne _ _ (by omega)), hD⟩
theorem T_swap (h : Rl hour crowd bus ans drw lim cmp sof kin lou pit pla cas hrs nws hat wea (r) n w ln) {k1 k2 b1 b2 : Nat} (hk1 : k1 < 8) (hk2 : k2 < 8) (hb1 : b1 < n) (hb2 : b2 < n) (hp1 : pit b1 = nI k1) (hp2 : pit b2 = nI k2) (hr1 : r (8 + 4 * k1 + 3) = nI b1) (hr2 : r (8 + 4 * k2 + 3) = nI b2) : Rl hour crowd bus ans drw lim cmp sof kin lou (upd (upd pit b1 (nI k2)) b2 (nI k1)) pla cas hrs nws hat wea (upd (upd (upd (upd r (8 + 4 * k1 + 3) (nI b2)) (8 + 4 * k2 + 3) (nI b1)) (40 + 8 * b2 + 4) (nI k1)) (40 + 8 * b1 + 4) (nI k2)) n w ln := by
  obtain ⟨hA, h0, hc, hP, hL, hC, hS, hB, hK, hF, hW, hI, hG, hE, hN, hD⟩ := h
  have hn8 := hA.2.1
  have hu : ∀ k b, k < 8 → b < 8 → pit b = nI k → ∀ b', b' < 8 → pit b' = nI k → b' = b := by
    intro k b hk hb hp
    rcases hW k hk with ⟨-, q⟩ | ⟨b2, -, -, -, q⟩
    · exact absurd hp (q b (by omega))
    · intro b' h1 h2
      rw [q b' h1 h2, q b (by omega) hp]
  have hkb : k1 = k2 ↔ b1 = b2 := by
    constructor
    · intro e
      subst e
      exact hu k1 b2 hk1 (by omega) hp2 b1 (by omega) hp1
    · intro e
      subst e
      exact (nI_eq (by omega) (by omega)).mp (hp1.symm.trans hp2)
  have hpit : ∀ b, upd (upd pit b1 (nI k2)) b2 (nI k1) b = if b = b1 then nI k2 else if b = b2 then nI k1 else pit b := by
    intro b
    by_cases e1 : b = b1
    · rw [if_pos e1]
      by_cases e2 : b = b2
      · have : k1 = k2 := hkb.mpr (by omega)
        rw [e2, upd_eq, this]
      · rw [upd_ne _ _ e2, e1, upd_eq]
    · rw [if_neg e1]
      by_cases e2 : b = b2
      · rw [if_pos e2, e2, upd_eq]
      · rw [if_neg e2, upd_ne _ _ e2, upd_ne _ _ e1]
  refine ⟨qA_fr hA (by rw [upd_ne _ _ (by omega), upd_ne _ _ (by omega), upd_ne _ _ (by omega), upd_ne _ _ (by omega)]), q0_fr h0 (by rw [upd_ne _ _ (by omega), upd_ne _ _ (by omega), upd_ne _ _ (by omega), upd_ne _ _ (by omega)]) (by rw [upd_ne _ _ (by omega), upd_ne _ _ (by omega), upd_ne _ _ (by omega), upd_ne _ _ (by omega)]) (by rw [upd_ne _ _ (by omega), upd_ne _ _ (by omega), upd_ne _ _ (by omega), upd_ne _ _ (by omega)]) (by rw [upd_ne _ _ (by omega), upd_ne _ _ (by omega), upd_ne _ _ (by omega), upd_ne _ _ (by omega)]), hc, qP_fr hP (fun k w hk hw => by rw [upd_ne _ _ (by omega), upd_ne _ _ (by omega), upd_ne _ _ (by omega), upd_ne _ _ (by omega)]), hL, hC, qS_fr hS (by rw [upd_ne _ _ (by omega), upd_ne _ _ (by omega), upd_ne _ _ (by omega), upd_ne _ _ (by omega)]) (by rw [upd_ne _ _ (by omega), upd_ne _ _ (by omega), upd_ne _ _ (by omega), upd_ne _ _ (by omega)]), fun b hb => ?_, hK, hF, fun k hk => ?_, fun b' hb' => ?_, hG, fun b' h1 h2 => ?_, qN_fr hN (by rw [upd_ne _ _ (by omega), upd_ne _ _ (by omega), upd_ne _ _ (by omega), upd_ne _ _ (by omega)]) (fun j hj => by rw [upd_ne _ _ (by omega), upd_ne _ _ (by omega), upd_ne _ _ (by omega), upd_ne _ _ (by omega)]), fun b' hb' hq' => ?_⟩
  · obtain ⟨a0, a1, a2, a3, a4, a5, a6, a7⟩ := hB b hb
    refine ⟨by rw [upd_ne _ _ (by omega), upd_ne _ _ (by omega), upd_ne _ _ (by omega), upd_ne _ _ (by omega)]; exact a0, by rw [upd_ne _ _ (by omega), upd_ne _ _ (by omega), upd_ne _ _ (by omega), upd_ne _ _ (by omega)]; exact a1, by rw [upd_ne _ _ (by omega), upd_ne _ _ (by omega), upd_ne _ _ (by omega), upd_ne _ _ (by omega)]; exact a2, by rw [upd_ne _ _ (by omega), upd_ne _ _ (by omega), upd_ne _ _ (by omega), upd_ne _ _ (by omega)]; exact a3, ?_, by rw [upd_ne _ _ (by omega), upd_ne _ _ (by omega), upd_ne _ _ (by omega), upd_ne _ _ (by omega)]; exact a5, by rw [upd_ne _ _ (by omega), upd_ne _ _ (by omega), upd_ne _ _ (by omega), upd_ne _ _ (by omega)]; exact a6, by rw [upd_ne _ _ (by omega), upd_ne _ _ (by omega), upd_ne _ _ (by omega), upd_ne _ _ (by omega)]; exact a7⟩
    rw [hpit b]
    by_cases e1 : b = b1
    · rw [if_pos e1, e1, upd_eq]
    · rw [if_neg e1, upd_ne _ _ (by omega)]
      by_cases e2 : b = b2
      · rw [if_pos e2, e2, upd_eq]
      · rw [if_neg e2, upd_ne _ _ (by omega), upd_ne _ _ (by omega), upd_ne _ _ (by omega)]; exact a4
  · rw [upd_ne _ _ (by omega), upd_ne _ _ (by omega)]
    by_cases e2 : k = k2
    · subst e2
      rw [upd_eq]
      refine Or.inr ⟨b1, hb1, rfl, by rw [hpit, if_pos rfl], fun b' hb' q => ?_⟩
      rw [hpit] at q
      by_cases e1 : b' = b1
      · exact e1
      · rw [if_neg e1] at q
        by_cases e3 : b' = b2
        · rw [if_pos e3] at q
          have := (nI_eq (by omega) (by omega)).mp q
          have := hkb.mp this
          omega
        · rw [if_neg e3] at q
          exact absurd (hu k b2 hk2 (by omega) hp2 b' hb' q) e3
    · rw [upd_ne _ _ (by omega)]
      by_cases e1 : k = k1
      · subst e1
        rw [upd_eq]
        refine Or.inr ⟨b2, hb2, rfl, by rw [hpit, if_neg (fun e => e2 (hkb.mpr e.symm)), if_pos rfl], fun b' hb' q => ?_⟩
        rw [hpit] at q
        by_cases e3 : b' = b1
        · rw [if_pos e3] at q
          have := (nI_eq (by omega) (by omega)).mp q
          omega
        · rw [if_neg e3] at q
          by_cases e4 : b' = b2
          · exact e4
          · rw [if_neg e4] at q
            exact absurd (hu k b1 hk1 (by omega) hp1 b' hb' q) e3
      · rw [upd_ne _ _ (by omega)]
        have o1 : nI k2 ≠ nI k := fun q => e2 ((nI_eq (by omega) (by omega)).mp q).symm
        have o2 : nI k1 ≠ nI k := fun q => e1 ((nI_eq (by omega) (by omega)).mp q).symm
        rcases hW k hk with ⟨q1, q2⟩ | ⟨b, q1, q2, q3, q4⟩
        · refine Or.inl ⟨q1, fun b' hb' q => ?_⟩
          rw [hpit] at q
          split at q
          · exact o1 q
          · split at q
            · exact o2 q
            · exact q2 b' hb' q
        · have n1 : b ≠ b1 := fun e => by rw [e, hp1] at q3; exact o2 q3
          have n2 : b ≠ b2 := fun e => by rw [e, hp2] at q3; exact o1 q3
          refine Or.inr ⟨b, q1, q2, by rw [hpit, if_neg n1, if_neg n2]; exact q3, fun b' hb' q => ?_⟩
          rw [hpit] at q
          split at q
          · exact absurd q o1
          · split at q
            · exact absurd q o2
            · exact q4 b' hb' q
  · rw [hpit]
    split
    · exact Or.inr ⟨k2, hk2, rfl⟩
    · split
      · exact Or.inr ⟨k1, hk1, rfl⟩
      · exact hI b' hb'
  · rw [hpit, if_neg (by omega), if_neg (by omega)]; exact hE b' h1 h2
  · rw [hpit] at hq'
    split at hq'
    · rename_i e
      rw [e]
      exact hD b1 (by omega) (by rw [hp1]; exact nI_ne_m1 (by omega))
    · split at hq'
      · rename_i e
        rw [e]
        exact hD b2 (by omega) (by rw [hp2]; exact nI_ne_m1 (by omega))
      · exact hD b' hb' hq'
theorem T_draw (h : Rl hour crowd bus ans drw lim cmp sof kin lou pit pla cas hrs nws hat wea (r) n w ln) {j k : Nat} (hj : j < w) (hk : k < 8) (hfree : r (8 + 4 * k + 3) = -1) {r1 : Nat → Int32} (h3 : r1 3 = nI (w - 1)) (hl : ∀ i, i < w - 1 → r1 (104 + i) = if i < j then r (104 + i) else r (104 + (i + 1))) (ho : ∀ i, i < 104 → i ≠ 3 → r1 i = r i) {pla1 : Nat → Int32} (hpl : ∀ b, b < 8 → pla1 b = if pla b ≤ nI j then pla b else pla b - 1) : Rl hour crowd bus ans (drw + 1) lim cmp sof kin lou (upd pit (ln j) (nI k)) (upd pla1 (ln j) (-1)) cas hrs nws hat wea (upd (upd (upd r1 (8 + 4 * k + 3) (nI (ln j))) (40 + 8 * ln j + 4) (nI k)) 7 (drw + 1)) n (w - 1) (fun i => if i < j then ln i else ln (i + 1)) := by
  obtain ⟨hA, h0, hc, hP, hL, hC, hS, hB, hK, hF, hW, hI, hG, hE, hN, hD⟩ := h
  have hn8 := hA.2.1
  have hw8 := qN_le hN
  obtain ⟨hb, hrj, hpj⟩ := hN.2.1 j hj
  have hpm : ∀ b, b < 8 → pla b = -1 → pla1 b = -1 := by
    intro b hb e
    rw [hpl b hb, e, if_pos (by
      rw [Int32.le_iff_toInt_le, nI_toInt (by omega)]
      have : (-1 : Int32).toInt = -1 := by decide
      omega)]
  have hpi : ∀ i, i < w → pla1 (ln i) = if i ≤ j then nI i else nI (i - 1) := by
    intro i hi
    obtain ⟨q1, q2, q3⟩ := hN.2.1 i hi
    rw [hpl _ (by omega), q3]
    by_cases e : i ≤ j
    · rw [if_pos (nI_le e (by omega)), if_pos e]
    · rw [if_neg (nI_ge (by omega) (by omega)), if_neg e]
      exact pk_sub (a := i) (b := 1) (by omega)
  have hinj : ∀ i i', i < w → i' < w → ln i = ln i' → i = i' := by
    intro i i' hi hi' e
    have q := (hN.2.1 i hi).2.2
    rw [e, (hN.2.1 i' hi').2.2] at q
    exact ((nI_eq (by omega) (by omega)).mp q).symm
  have hbp : pit (ln j) = -1 := by
    rcases hI (ln j) (by omega) with q | ⟨k', hk', q⟩
    · exact q
    · have := hD (ln j) (by omega) (by rw [q]; exact nI_ne_m1 (by omega))
      rw [hpj] at this
      exact absurd this (nI_ne_m1 (by omega))
  have fr : ∀ i, i < 104 → i ≠ 3 → i ≠ 8 + 4 * k + 3 → i ≠ 40 + 8 * ln j + 4 → i ≠ 7 → upd (upd (upd r1 (8 + 4 * k + 3) (nI (ln j))) (40 + 8 * ln j + 4) (nI k)) 7 (drw + 1) i = r i := fun i a1 a2 a3 a4 a5 => by
    rw [upd_ne _ _ a5, upd_ne _ _ a4, upd_ne _ _ a3]; exact ho i a1 a2
  refine ⟨qA_fr hA (fr 2 (by omega) (by omega) (by omega) (by omega) (by omega)), ⟨(fr 0 (by omega) (by omega) (by omega) (by omega) (by omega)).trans h0.1, (fr 1 (by omega) (by omega) (by omega) (by omega) (by omega)).trans h0.2.1, (fr 4 (by omega) (by omega) (by omega) (by omega) (by omega)).trans h0.2.2.1, upd_eq _ _ _⟩, hc, qP_fr hP (fun k' w' hk' hw' => fr _ (by omega) (by omega) (by omega) (by omega) (by omega)), hL, hC, qS_fr hS (fr 5 (by omega) (by omega) (by omega) (by omega) (by omega)) (fr 6 (by omega) (by omega) (by omega) (by omega) (by omega)), fun b' hb' => ?_, hK, hF, fun k' hk' => ?_, fun b' hb' => ?_, hG, fun b' h1 h2 => ?_, ⟨?_, fun i hi => ?_, fun b' hb' => ?_, ?_⟩, fun b' hb' hq' => ?_⟩
  · obtain ⟨a0, a1, a2, a3, a4, a5, a6, a7⟩ := hB b' hb'
    by_cases e : b' = ln j
    · refine ⟨?_, ?_, ?_, ?_, ?_, ?_, ?_, ?_⟩
      · rw [fr _ (by omega) (by omega) (by omega) (by omega) (by omega)]; exact a0
      · rw [fr _ (by omega) (by omega) (by omega) (by omega) (by omega)]; exact a1
      · rw [fr _ (by omega) (by omega) (by omega) (by omega) (by omega)]; exact a2
      · rw [fr _ (by omega) (by omega) (by omega) (by omega) (by omega)]; exact a3
      · rw [e, upd_ne _ _ (by omega), upd_eq, upd_eq]
      · rw [fr _ (by omega) (by omega) (by omega) (by omega) (by omega)]; exact a5
      · rw [fr _ (by omega) (by omega) (by omega) (by omega) (by omega)]; exact a6
      · rw [fr _ (by omega) (by omega) (by omega) (by omega) (by omega)]; exact a7
    · rw [upd_ne pit _ e, fr _ (by omega) (by omega) (by omega) (by omega) (by omega), fr _ (by omega) (by omega) (by omega) (by omega) (by omega), fr _ (by omega) (by omega) (by omega) (by omega) (by omega), fr _ (by omega) (by omega) (by omega) (by omega) (by omega), fr _ (by omega) (by omega) (by omega) (by omega) (by omega), fr _ (by omega) (by omega) (by omega) (by omega) (by omega), fr _ (by omega) (by omega) (by omega) (by omega) (by omega), fr _ (by omega) (by omega) (by omega) (by omega) (by omega)]
      exact ⟨a0, a1, a2, a3, a4, a5, a6, a7⟩
  · by_cases e : k' = k
    · subst e
      rw [upd_ne _ _ (by omega), upd_ne _ _ (by omega), upd_eq]
      refine Or.inr ⟨ln j, hb, rfl, upd_eq _ _ _, fun b' hb' q => ?_⟩
      by_cases e : b' = ln j
      · exact e
      · rw [upd_ne _ _ e] at q
        rcases hW k' hk' with ⟨-, q2⟩ | ⟨b2, q1, q2, -⟩
        · exact absurd q (q2 b' hb')
        · rw [hfree] at q2
          exact absurd q2.symm (nI_ne_m1 (by omega))
    · rw [fr _ (by omega) (by omega) (by omega) (by omega) (by omega)]
      rcases hW k' hk' with ⟨q1, q2⟩ | ⟨b2, q1, q2, q3, q4⟩
      · refine Or.inl ⟨q1, fun b' hb' q => ?_⟩
        by_cases e2 : b' = ln j
        · rw [e2, upd_eq] at q
          exact e ((nI_eq (by omega) (by omega)).mp q).symm
        · rw [upd_ne _ _ e2] at q; exact q2 b' hb' q
      · have e2 : b2 ≠ ln j := fun e2 => by
          rw [e2, hbp] at q3
          exact nI_ne_m1 (by omega) q3.symm
        refine Or.inr ⟨b2, q1, q2, by rw [upd_ne _ _ e2]; exact q3, fun b' hb' q => ?_⟩
        by_cases e3 : b' = ln j
        · rw [e3, upd_eq] at q
          exact absurd ((nI_eq (by omega) (by omega)).mp q).symm e
        · rw [upd_ne _ _ e3] at q; exact q4 b' hb' q
  · by_cases e : b' = ln j
    · rw [e, upd_eq]; exact Or.inr ⟨k, hk, rfl⟩
    · rw [upd_ne _ _ e]; exact hI b' hb'
  · obtain ⟨e1, e2, e3⟩ := hE b' h1 h2
    rw [upd_ne _ _ (by omega), upd_ne _ _ (by omega)]
    exact ⟨e1, hpm b' h2 e2, e3⟩
  · rw [upd_ne _ _ (by omega), upd_ne _ _ (by omega), upd_ne _ _ (by omega)]; exact h3
  · rw [upd_ne _ _ (by omega), upd_ne _ _ (by omega), upd_ne _ _ (by omega), hl i hi]
    by_cases e : i < j
    · obtain ⟨q1, q2, q3⟩ := hN.2.1 i (by omega)
      simp only [if_pos e]
      refine ⟨q1, q2, ?_⟩
      rw [upd_ne _ _ (fun e2 => by have := hinj i j (by omega) hj e2; omega), hpi i (by omega), if_pos (by omega)]
    · obtain ⟨q1, q2, q3⟩ := hN.2.1 (i + 1) (by omega)
      simp only [if_neg e]
      refine ⟨q1, q2, ?_⟩
      rw [upd_ne _ _ (fun e2 => by have := hinj (i + 1) j (by omega) hj e2; omega), hpi (i + 1) (by omega), if_neg (by omega)]
      rfl
  · by_cases e : b' = ln j
    · rw [e, upd_eq]; exact Or.inl rfl
    · rw [upd_ne _ _ e]
      rcases hN.2.2.1 b' hb' with q | ⟨i, q1, q2, q3⟩
      · exact Or.inl (hpm b' hb' q)
      · right
        have hij : i ≠ j := fun e2 => e (by rw [← q3, e2])
        rw [← q3, hpi i q1]
        by_cases e2 : i < j
        · exact ⟨i, by omega, by rw [if_pos (by omega)], by simp only [if_pos e2]⟩
        · refine ⟨i - 1, by omega, by rw [if_neg (by omega)], ?_⟩
          simp only [if_neg (show ¬ i - 1 < j by omega)]
          rw [show i - 1 + 1 = i by omega]
  · have h1 := cn_upd (p := fun i => decide (¬ pla i = -1)) (q := fun i => decide (¬ upd pla1 (ln j) (-1) i = -1)) (k := ln j) (m := 8) (by omega) (fun i hi e => by
      show decide (¬ upd pla1 (ln j) (-1) i = -1) = decide (¬ pla i = -1)
      rw [upd_ne _ _ e]
      rcases hN.2.2.1 i hi with q | ⟨i2, q1, q2, q3⟩
      · rw [q, hpm i hi q]
      · rw [decide_eq_true (show ¬ pla i = -1 by rw [q2]; exact nI_ne_m1 (by omega)), ← q3, hpi i2 q1]
        split
        · exact decide_eq_true (nI_ne_m1 (by omega))
        · exact decide_eq_true (nI_ne_m1 (by omega)))
    have h1 : cn (fun i => decide (¬ upd pla1 (ln j) (-1) i = -1)) 8 + (decide (¬ pla (ln j) = -1)).toNat = cn (fun i => decide (¬ pla i = -1)) 8 + (decide (¬ upd pla1 (ln j) (-1) (ln j) = -1)).toNat := h1
    rw [hN.2.2.2, upd_eq, hpj] at h1
    have g3 : (decide (¬ (-1 : Int32) = -1)).toNat = 0 := rfl
    have g4 : (decide (¬ nI j = -1)).toNat = 1 := by rw [decide_eq_true (nI_ne_m1 (by omega))]; rfl
    omega
  · by_cases e : b' = ln j
    · rw [e, upd_eq]
    · rw [upd_ne _ _ e] at hq' ⊢
      exact hpm b' hb' (hD b' hb' hq')
end TR
