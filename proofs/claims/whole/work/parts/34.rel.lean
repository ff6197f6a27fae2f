/-! the relation of a state of the class to a row of the reference; what both sides look up -/
theorem n10 : ¬ (1 : Int32) = 0 := by decide
def qA (bus : Int32) (r : Nat → Int32) (n : Nat) : Prop := bus = nI n ∧ n ≤ 8 ∧ r 2 = nI n
def q0 (hour crowd ans drw : Int32) (r : Nat → Int32) : Prop := r 0 = hour ∧ r 1 = crowd ∧ r 4 = ans ∧ r 7 = drw
def qc (crowd : Int32) : Prop := ∃ c, c ≤ 50 ∧ crowd = nI c
def qP (lim : Nat → UInt32) (cmp sof : Nat → Int32) (r : Nat → Int32) : Prop := ∀ k, k < 8 → r (8 + 4 * k) = (lim k).toInt32 ∧ r (8 + 4 * k + 1) = cmp k ∧ r (8 + 4 * k + 2) = sof k
def qLm (lim : Nat → UInt32) : Prop := ∀ k, k < 8 → (lim k).toNat ≤ 1123024896
def qC (cmp : Nat → Int32) : Prop := ∀ k, k < 8 → ∃ c, c ≤ 99 ∧ cmp k = nI c
def qS (sof nws : Nat → Int32) (r : Nat → Int32) : Prop := r 5 = sI sof 8 ∧ r 6 = sI nws 8
def qB (n : Nat) (kin lou pit cas hrs nws : Nat → Int32) (hat wea : Nat → UInt32) (r : Nat → Int32) : Prop := ∀ b, b < n → r (40 + 8 * b) = kin b ∧ r (40 + 8 * b + 1) = lou b ∧ r (40 + 8 * b + 2) = (hat b).toInt32 ∧ r (40 + 8 * b + 3) = (wea b).toInt32 ∧ r (40 + 8 * b + 4) = pit b ∧ r (40 + 8 * b + 5) = cas b ∧ r (40 + 8 * b + 6) = hrs b ∧ r (40 + 8 * b + 7) = nws b
def qK (n : Nat) (kin lou : Nat → Int32) : Prop := ∀ b, b < n → (kin b = 0 ∨ kin b = 1) ∧ ∃ l, 1 ≤ l ∧ l ≤ 9 ∧ lou b = nI l
def qFl (hat wea : Nat → UInt32) : Prop := ∀ b, b < 8 → (hat b).toNat ≤ 1317011456 ∧ (wea b).toNat ≤ 1317011456
def qW (n : Nat) (pit : Nat → Int32) (r : Nat → Int32) : Prop := ∀ k, k < 8 → (r (8 + 4 * k + 3) = -1 ∧ ∀ b, b < 8 → pit b ≠ nI k) ∨ ∃ b, b < n ∧ r (8 + 4 * k + 3) = nI b ∧ pit b = nI k ∧ ∀ b', b' < 8 → pit b' = nI k → b' = b
def qPi (pit : Nat → Int32) : Prop := ∀ b, b < 8 → pit b = -1 ∨ ∃ k, k < 8 ∧ pit b = nI k
def qG (cas : Nat → Int32) : Prop := ∀ b, b < 8 → cas b = -1 ∨ ∃ p, p < 3 ∧ cas b = nI p
def qE (n : Nat) (pit pla cas hrs nws : Nat → Int32) (hat wea : Nat → UInt32) : Prop := ∀ b, n ≤ b → b < 8 → pit b = -1 ∧ pla b = -1 ∧ cas b = -1 ∧ hrs b = 0 ∧ nws b = 0 ∧ hat b = 0 ∧ wea b = 0
def qN (n w : Nat) (ln : Nat → Nat) (pla : Nat → Int32) (r : Nat → Int32) : Prop := r 3 = nI w ∧ (∀ j, j < w → ln j < n ∧ r (104 + j) = nI (ln j) ∧ pla (ln j) = nI j) ∧ (∀ b, b < 8 → pla b = -1 ∨ ∃ j, j < w ∧ pla b = nI j ∧ ln j = b) ∧ cn (fun b => decide (¬ pla b = -1)) 8 = w
def qD (pit pla : Nat → Int32) : Prop := ∀ b, b < 8 → pit b ≠ -1 → pla b = -1
def Rl (hour crowd bus ans drw : Int32) (lim : Nat → UInt32) (cmp sof kin lou pit pla cas hrs nws : Nat → Int32) (hat wea : Nat → UInt32) (r : Nat → Int32) (n w : Nat) (ln : Nat → Nat) : Prop :=
  qA bus r n ∧ q0 hour crowd ans drw r ∧ qc crowd ∧ qP lim cmp sof r ∧ qLm lim ∧ qC cmp ∧ qS sof nws r ∧ qB n kin lou pit cas hrs nws hat wea r ∧ qK n kin lou ∧ qFl hat wea ∧ qW n pit r ∧ qPi pit ∧ qG cas ∧ qE n pit pla cas hrs nws hat wea ∧ qN n w ln pla r ∧ qD pit pla
/-- frames -/
theorem qA_fr {bus : Int32} {r r' : Nat → Int32} {n : Nat} (h : qA bus r n) (f : r' 2 = r 2) : qA bus r' n := ⟨h.1, h.2.1, f.trans h.2.2⟩
theorem q0_fr {hour crowd ans drw : Int32} {r r' : Nat → Int32} (h : q0 hour crowd ans drw r) (f0 : r' 0 = r 0) (f1 : r' 1 = r 1) (f4 : r' 4 = r 4) (f7 : r' 7 = r 7) : q0 hour crowd ans drw r' := ⟨f0.trans h.1, f1.trans h.2.1, f4.trans h.2.2.1, f7.trans h.2.2.2⟩
theorem qP_fr {lim : Nat → UInt32} {cmp sof : Nat → Int32} {r r' : Nat → Int32} (h : qP lim cmp sof r) (f : ∀ k w, k < 8 → w < 3 → r' (8 + 4 * k + w) = r (8 + 4 * k + w)) : qP lim cmp sof r' := fun k hk => ⟨(f k 0 hk (by omega)).trans (h k hk).1, (f k 1 hk (by omega)).trans (h k hk).2.1, (f k 2 hk (by omega)).trans (h k hk).2.2⟩
theorem qS_fr {sof nws : Nat → Int32} {r r' : Nat → Int32} (h : qS sof nws r) (f5 : r' 5 = r 5) (f6 : r' 6 = r 6) : qS sof nws r' := ⟨f5.trans h.1, f6.trans h.2⟩
theorem qB_fr {n : Nat} {kin lou pit cas hrs nws : Nat → Int32} {hat wea : Nat → UInt32} {r r' : Nat → Int32} (h : qB n kin lou pit cas hrs nws hat wea r) (hn : n ≤ 8) (f : ∀ b w, b < 8 → w < 8 → r' (40 + 8 * b + w) = r (40 + 8 * b + w)) : qB n kin lou pit cas hrs nws hat wea r' := fun b hb => by
  obtain ⟨a0, a1, a2, a3, a4, a5, a6, a7⟩ := h b hb
  have g := fun w (hw : w < 8) => f b w (by omega) hw
  exact ⟨(g 0 (by omega)).trans a0, (g 1 (by omega)).trans a1, (g 2 (by omega)).trans a2, (g 3 (by omega)).trans a3, (g 4 (by omega)).trans a4, (g 5 (by omega)).trans a5, (g 6 (by omega)).trans a6, (g 7 (by omega)).trans a7⟩
theorem qW_fr {n : Nat} {pit : Nat → Int32} {r r' : Nat → Int32} (h : qW n pit r) (f : ∀ k, k < 8 → r' (8 + 4 * k + 3) = r (8 + 4 * k + 3)) : qW n pit r' := fun k hk => by
  rw [f k hk]
  exact h k hk
theorem qN_le {n w : Nat} {ln : Nat → Nat} {pla : Nat → Int32} {r : Nat → Int32} (h : qN n w ln pla r) : w ≤ 8 := h.2.2.2 ▸ cn_le _ 8
theorem qN_fr {n w : Nat} {ln : Nat → Nat} {pla : Nat → Int32} {r r' : Nat → Int32} (h : qN n w ln pla r) (f3 : r' 3 = r 3) (f : ∀ j, j < 8 → r' (104 + j) = r (104 + j)) : qN n w ln pla r' := by
  have hw := qN_le h
  exact ⟨f3.trans h.1, fun j hj => ⟨(h.2.1 j hj).1, (f j (by omega)).trans (h.2.1 j hj).2.1, (h.2.1 j hj).2.2⟩, h.2.2.1, h.2.2.2⟩
/-- who plays on a pitch -/
theorem isP_tot (a : Int32) : ∃ v, f_X4_isPitch a = some v ∧ (v = 0 ∨ v = 1) := by
  rcases pitch_cases a with h | ⟨k, -, -, h⟩
  · exact ⟨0, h.1, Or.inl rfl⟩
  · exact ⟨1, h.1, Or.inr rfl⟩
theorem player_none' {pit : Nat → Int32} {a : Int32} (h : ∀ b, b < 8 → pit b ≠ a) : ∀ (m fuel i : Nat), i + m = 8 → m < fuel → f_X3_playerOn_c2 pit a fuel (nI i) = some (-1) := by
  obtain ⟨v, hv, -⟩ := isP_tot a
  intro m
  induction m with
  | zero =>
    intro fuel i hi hf
    obtain ⟨fuel, rfl⟩ : ∃ z, fuel = z + 1 := ⟨fuel - 1, by omega⟩
    unfold f_X3_playerOn_c2
    rw [if_pos (show (8 : Int32) ≤ nI i from nI_le (a := 8) (by omega) (by omega))]
  | succ m ih =>
    intro fuel i hi hf
    obtain ⟨fuel, rfl⟩ : ∃ z, fuel = z + 1 := ⟨fuel - 1, by omega⟩
    unfold f_X3_playerOn_c2
    rw [if_neg (show ¬ (8 : Int32) ≤ nI i from nI_ge (b := 8) (by omega) (by decide)), hv, ob_s]
    split
    · rfl
    · rw [inbN (by omega) (by decide), og_t, clN (by omega), if_neg (h i (by omega)), nI_1]
      exact ih fuel (i + 1) (by omega) (by omega)
theorem player_none {pit : Nat → Int32} {a : Int32} (h : ∀ b, b < 8 → pit b ≠ a) : f_X3_playerOn pit a = some (-1) := player_none' h 8 4096 0 rfl (by decide)
theorem player_out {pit : Nat → Int32} {a : Int32} (h : f_X4_isPitch a = some 0) : f_X3_playerOn pit a = some (-1) := by
  unfold f_X3_playerOn f_X3_playerOn_c2
  rw [h, ob_s, if_pos rfl]
  split <;> rfl
theorem player_some' {pit : Nat → Int32} {k b : Nat} (hk : k < 8) (hb : b < 8) (hp : pit b = nI k) (hu : ∀ b', b' < 8 → pit b' = nI k → b' = b) : ∀ (m fuel i : Nat), i + m = b → m < fuel → f_X3_playerOn_c2 pit (nI k) fuel (nI i) = some (nI b) := by
  intro m
  induction m with
  | zero =>
    intro fuel i hi hf
    obtain ⟨fuel, rfl⟩ : ∃ z, fuel = z + 1 := ⟨fuel - 1, by omega⟩
    obtain rfl : i = b := by omega
    unfold f_X3_playerOn_c2
    rw [if_neg (show ¬ (8 : Int32) ≤ nI i from nI_ge (b := 8) (by omega) (by decide)), isP_T hk, ob_s, if_neg n10, inbN (by omega) (by decide), og_t, clN (by omega), if_pos hp]
  | succ m ih =>
    intro fuel i hi hf
    obtain ⟨fuel, rfl⟩ : ∃ z, fuel = z + 1 := ⟨fuel - 1, by omega⟩
    unfold f_X3_playerOn_c2
    rw [if_neg (show ¬ (8 : Int32) ≤ nI i from nI_ge (b := 8) (by omega) (by decide)), isP_T hk, ob_s, if_neg n10, inbN (by omega) (by decide), og_t, clN (by omega), if_neg (fun e => by have := hu i (by omega) e; omega), nI_1]
    exact ih fuel (i + 1) (by omega) (by omega)
theorem player_eq {n : Nat} {pit r : Nat → Int32} (hn : n ≤ 8) (hW : qW n pit r) {k : Nat} (hk : k < 8) : f_X3_playerOn pit (nI k) = some (r (8 + 4 * k + 3)) := by
  rcases hW k hk with ⟨h1, h2⟩ | ⟨b, hb, h1, h2, h3⟩
  · rw [h1]; exact player_none h2
  · rw [h1]; exact player_some' hk (by omega) h2 h3 b 4096 0 (by omega) (by omega)
theorem ofP3 (r : Nat → Int32) {k : Nat} (hk : k < 8) : f_X5_ofPitch r (nI k) 3 = some (r (8 + 4 * k + 3)) := ofPitch_n r hk 3 (by decide)
theorem ofP2 (r : Nat → Int32) {k : Nat} (hk : k < 8) : f_X5_ofPitch r (nI k) 2 = some (r (8 + 4 * k + 2)) := ofPitch_n r hk 2 (by decide)
theorem ofP1 (r : Nat → Int32) {k : Nat} (hk : k < 8) : f_X5_ofPitch r (nI k) 1 = some (r (8 + 4 * k + 1)) := ofPitch_n r hk 1 (by decide)
theorem ofP0 (r : Nat → Int32) {k : Nat} (hk : k < 8) : f_X5_ofPitch r (nI k) 0 = some (r (8 + 4 * k)) := ofPitch_n r hk 0 (by decide)
theorem puP3 (r : Nat → Int32) {k : Nat} (hk : k < 8) (v : Int32) : f_X5_putPitch r (nI k) 3 v = some (upd r (8 + 4 * k + 3) v) := putPitch_n r hk 3 (by decide) v
theorem puP2 (r : Nat → Int32) {k : Nat} (hk : k < 8) (v : Int32) : f_X5_putPitch r (nI k) 2 v = some (upd r (8 + 4 * k + 2) v) := putPitch_n r hk 2 (by decide) v
theorem puP1 (r : Nat → Int32) {k : Nat} (hk : k < 8) (v : Int32) : f_X5_putPitch r (nI k) 1 v = some (upd r (8 + 4 * k + 1) v) := putPitch_n r hk 1 (by decide) v
theorem puP0 (r : Nat → Int32) {k : Nat} (hk : k < 8) (v : Int32) : f_X5_putPitch r (nI k) 0 v = some (upd r (8 + 4 * k) v) := putPitch_n r hk 0 (by decide) v
theorem of0 (r : Nat → Int32) {b : Nat} (hb : b < 8) : f_X5_of r (nI b) 0 = some (r (40 + 8 * b)) := of_n r hb 0 (by decide)
theorem pu0 (r : Nat → Int32) {b : Nat} (hb : b < 8) (v : Int32) : f_X5_put r (nI b) 0 v = some (upd r (40 + 8 * b) v) := put_n r hb 0 (by decide) v
theorem of1 (r : Nat → Int32) {b : Nat} (hb : b < 8) : f_X5_of r (nI b) 1 = some (r (40 + 8 * b + 1)) := of_n r hb 1 (by decide)
theorem pu1 (r : Nat → Int32) {b : Nat} (hb : b < 8) (v : Int32) : f_X5_put r (nI b) 1 v = some (upd r (40 + 8 * b + 1) v) := put_n r hb 1 (by decide) v
theorem of2 (r : Nat → Int32) {b : Nat} (hb : b < 8) : f_X5_of r (nI b) 2 = some (r (40 + 8 * b + 2)) := of_n r hb 2 (by decide)
theorem pu2 (r : Nat → Int32) {b : Nat} (hb : b < 8) (v : Int32) : f_X5_put r (nI b) 2 v = some (upd r (40 + 8 * b + 2) v) := put_n r hb 2 (by decide) v
theorem of3 (r : Nat → Int32) {b : Nat} (hb : b < 8) : f_X5_of r (nI b) 3 = some (r (40 + 8 * b + 3)) := of_n r hb 3 (by decide)
theorem pu3 (r : Nat → Int32) {b : Nat} (hb : b < 8) (v : Int32) : f_X5_put r (nI b) 3 v = some (upd r (40 + 8 * b + 3) v) := put_n r hb 3 (by decide) v
theorem of4 (r : Nat → Int32) {b : Nat} (hb : b < 8) : f_X5_of r (nI b) 4 = some (r (40 + 8 * b + 4)) := of_n r hb 4 (by decide)
theorem pu4 (r : Nat → Int32) {b : Nat} (hb : b < 8) (v : Int32) : f_X5_put r (nI b) 4 v = some (upd r (40 + 8 * b + 4) v) := put_n r hb 4 (by decide) v
theorem of5 (r : Nat → Int32) {b : Nat} (hb : b < 8) : f_X5_of r (nI b) 5 = some (r (40 + 8 * b + 5)) := of_n r hb 5 (by decide)
theorem pu5 (r : Nat → Int32) {b : Nat} (hb : b < 8) (v : Int32) : f_X5_put r (nI b) 5 v = some (upd r (40 + 8 * b + 5) v) := put_n r hb 5 (by decide) v
theorem of6 (r : Nat → Int32) {b : Nat} (hb : b < 8) : f_X5_of r (nI b) 6 = some (r (40 + 8 * b + 6)) := of_n r hb 6 (by decide)
theorem pu6 (r : Nat → Int32) {b : Nat} (hb : b < 8) (v : Int32) : f_X5_put r (nI b) 6 v = some (upd r (40 + 8 * b + 6) v) := put_n r hb 6 (by decide) v
theorem of7 (r : Nat → Int32) {b : Nat} (hb : b < 8) : f_X5_of r (nI b) 7 = some (r (40 + 8 * b + 7)) := of_n r hb 7 (by decide)
theorem pu7 (r : Nat → Int32) {b : Nat} (hb : b < 8) (v : Int32) : f_X5_put r (nI b) 7 v = some (upd r (40 + 8 * b + 7) v) := put_n r hb 7 (by decide) v
theorem fo2 (r : Nat → Int32) {b : Nat} (hb : b < 8) {x : UInt32} (hx : r (40 + 8 * b + 2) = x.toInt32) (hl : x.toNat < 2139095040) : f_X5_floatOf r (nI b) 2 = some x := floatOf_n r hb 2 (by decide) hx hl
theorem pf2 (r : Nat → Int32) {b : Nat} (hb : b < 8) {x : UInt32} (hl : x.toNat < 2139095040) : f_X5_putFloat r (nI b) 2 x = some (upd r (40 + 8 * b + 2) x.toInt32) := putFloat_n r hb 2 (by decide) hl
theorem fo3 (r : Nat → Int32) {b : Nat} (hb : b < 8) {x : UInt32} (hx : r (40 + 8 * b + 3) = x.toInt32) (hl : x.toNat < 2139095040) : f_X5_floatOf r (nI b) 3 = some x := floatOf_n r hb 3 (by decide) hx hl
theorem pf3 (r : Nat → Int32) {b : Nat} (hb : b < 8) {x : UInt32} (hl : x.toNat < 2139095040) : f_X5_putFloat r (nI b) 3 x = some (upd r (40 + 8 * b + 3) x.toInt32) := putFloat_n r hb 3 (by decide) hl
theorem cntWaiting' (v : Nat → Int32) : ∀ (m fuel i : Nat), i + m = 8 → m < fuel → f_X3_countWaiting_c13 v fuel (nI (cn (fun b => decide (¬ v b = -1)) i)) 8 (nI i) = some (nI (cn (fun b => decide (¬ v b = -1)) 8)) := by
  intro m
  induction m with
  | zero =>
    intro fuel i hi hf
    obtain ⟨fuel, rfl⟩ : ∃ z, fuel = z + 1 := ⟨fuel - 1, by omega⟩
    obtain rfl : i = 8 := by omega
    unfold f_X3_countWaiting_c13
    rw [if_pos (show (8 : Int32) ≤ nI 8 by decide)]
  | succ m ih =>
    intro fuel i hi hf
    obtain ⟨fuel, rfl⟩ : ∃ z, fuel = z + 1 := ⟨fuel - 1, by omega⟩
    have key := ih fuel (i + 1) (by omega) (by omega)
    have e : cn (fun b => decide (¬ v b = -1)) (i + 1) = cn (fun b => decide (¬ v b = -1)) i + (decide (¬ v i = -1)).toNat := rfl
    rw [e] at key
    unfold f_X3_countWaiting_c13
    rw [if_neg (show ¬ (8 : Int32) ≤ nI i from nI_ge (b := 8) (by omega) (by decide)), inbN (by omega) (by decide), og_t, clN (by omega)]
    by_cases h : v i = -1
    · rw [if_pos h, nI_1, Int32.add_zero]
      rw [decide_eq_false (fun q => q h)] at key
      exact key
    · rw [if_neg h, nI_1, nI_1]
      rw [decide_eq_true h] at key
      exact key
theorem cntWaiting (v : Nat → Int32) : f_X3_countWaiting v = some (nI (cn (fun b => decide (¬ v b = -1)) 8)) := cntWaiting' v 8 4096 0 rfl (by decide)
theorem cntPlaying' (v : Nat → Int32) : ∀ (m fuel i : Nat), i + m = 8 → m < fuel → f_X3_countPlaying_c13 v fuel (nI (cn (fun b => decide (¬ v b = -1)) i)) 8 (nI i) = some (nI (cn (fun b => decide (¬ v b = -1)) 8)) := by
  intro m
  induction m with
  | zero =>
    intro fuel i hi hf
    obtain ⟨fuel, rfl⟩ : ∃ z, fuel = z + 1 := ⟨fuel - 1, by omega⟩
    obtain rfl : i = 8 := by omega
    unfold f_X3_countPlaying_c13
    rw [if_pos (show (8 : Int32) ≤ nI 8 by decide)]
  | succ m ih =>
    intro fuel i hi hf
    obtain ⟨fuel, rfl⟩ : ∃ z, fuel = z + 1 := ⟨fuel - 1, by omega⟩
    have key := ih fuel (i + 1) (by omega) (by omega)
    have e : cn (fun b => decide (¬ v b = -1)) (i + 1) = cn (fun b => decide (¬ v b = -1)) i + (decide (¬ v i = -1)).toNat := rfl
    rw [e] at key
    unfold f_X3_countPlaying_c13
    rw [if_neg (show ¬ (8 : Int32) ≤ nI i from nI_ge (b := 8) (by omega) (by decide)), inbN (by omega) (by decide), og_t, clN (by omega)]
    by_cases h : v i = -1
    · rw [if_pos h, nI_1, Int32.add_zero]
      rw [decide_eq_false (fun q => q h)] at key
      exact key
    · rw [if_neg h, nI_1, nI_1]
      rw [decide_eq_true h] at key
      exact key
theorem cntPlaying (v : Nat → Int32) : f_X3_countPlaying v = some (nI (cn (fun b => decide (¬ v b = -1)) 8)) := cntPlaying' v 8 4096 0 rfl (by decide)
theorem cntCases' (v : Nat → Int32) : ∀ (m fuel i : Nat), i + m = 8 → m < fuel → f_X3_countCases_c13 v fuel (nI (cn (fun b => decide (¬ v b = -1)) i)) 8 (nI i) = some (nI (cn (fun b => decide (¬ v b = -1)) 8)) := by
  intro m
  induction m with
  | zero =>
    intro fuel i hi hf
    obtain ⟨fuel, rfl⟩ : ∃ z, fuel = z + 1 := ⟨fuel - 1, by omega⟩
    obtain rfl : i = 8 := by omega
    unfold f_X3_countCases_c13
    rw [if_pos (show (8 : Int32) ≤ nI 8 by decide)]
  | succ m ih =>
    intro fuel i hi hf
    obtain ⟨fuel, rfl⟩ : ∃ z, fuel = z + 1 := ⟨fuel - 1, by omega⟩
    have key := ih fuel (i + 1) (by omega) (by omega)
    have e : cn (fun b => decide (¬ v b = -1)) (i + 1) = cn (fun b => decide (¬ v b = -1)) i + (decide (¬ v i = -1)).toNat := rfl
    rw [e] at key
    unfold f_X3_countCases_c13
    rw [if_neg (show ¬ (8 : Int32) ≤ nI i from nI_ge (b := 8) (by omega) (by decide)), inbN (by omega) (by decide), og_t, clN (by omega)]
    by_cases h : v i = -1
    · rw [if_pos h, nI_1, Int32.add_zero]
      rw [decide_eq_false (fun q => q h)] at key
      exact key
    · rw [if_neg h, nI_1, nI_1]
      rw [decide_eq_true h] at key
      exact key
theorem cntCases (v : Nat → Int32) : f_X3_countCases v = some (nI (cn (fun b => decide (¬ v b = -1)) 8)) := cntCases' v 8 4096 0 rfl (by decide)
theorem sum8' (v : Nat → Int32) : ∀ (m fuel i : Nat), i + m = 8 → m < fuel → f_X4_sum_c10 v fuel (sI v i) 8 (nI i) = some (sI v 8) := by
  intro m
  induction m with
  | zero =>
    intro fuel i hi hf
    obtain ⟨fuel, rfl⟩ : ∃ z, fuel = z + 1 := ⟨fuel - 1, by omega⟩
    obtain rfl : i = 8 := by omega
    unfold f_X4_sum_c10
    rw [if_pos (show (8 : Int32) ≤ nI 8 by decide)]
  | succ m ih =>
    intro fuel i hi hf
    obtain ⟨fuel, rfl⟩ : ∃ z, fuel = z + 1 := ⟨fuel - 1, by omega⟩
    unfold f_X4_sum_c10
    rw [if_neg (show ¬ (8 : Int32) ≤ nI i from nI_ge (b := 8) (by omega) (by decide)), inbN (by omega) (by decide), og_t, clN (by omega), nI_1]
    exact ih fuel (i + 1) (by omega) (by omega)
theorem sum8 (v : Nat → Int32) : f_X4_sum v = some (sI v 8) := sum8' v 8 4096 0 rfl (by decide)
theorem waiter_none {pla : Nat → Int32} {a : Int32} (h : a < 0 ∨ ∀ b, b < 8 → pla b ≠ a) : ∀ (m fuel i : Nat), i + m = 8 → m < fuel → f_X3_waiterAt_c2 pla a fuel (nI i) = some (-1) := by
  intro m
  induction m with
  | zero =>
    intro fuel i hi hf
    obtain ⟨fuel, rfl⟩ : ∃ z, fuel = z + 1 := ⟨fuel - 1, by omega⟩
    unfold f_X3_waiterAt_c2
    rw [if_pos (show (8 : Int32) ≤ nI i from nI_le (a := 8) (by omega) (by omega))]
  | succ m ih =>
    intro fuel i hi hf
    obtain ⟨fuel, rfl⟩ : ∃ z, fuel = z + 1 := ⟨fuel - 1, by omega⟩
    unfold f_X3_waiterAt_c2
    rw [if_neg (show ¬ (8 : Int32) ≤ nI i from nI_ge (b := 8) (by omega) (by decide))]
    by_cases h0 : a < 0
    · rw [if_pos h0]
    · rw [if_neg h0, inbN (by omega) (by decide), og_t, clN (by omega), if_neg ((h.resolve_left h0) i (by omega)), nI_1]
      exact ih fuel (i + 1) (by omega) (by omega)
theorem waiter_some {pla : Nat → Int32} {j b : Nat} (hj : j < 2 ^ 31) (hb : b < 8) (hp : pla b = nI j) (hu : ∀ b', b' < 8 → pla b' = nI j → b' = b) : ∀ (m fuel i : Nat), i + m = b → m < fuel → f_X3_waiterAt_c2 pla (nI j) fuel (nI i) = some (nI b) := by
  intro m
  induction m with
  | zero =>
    intro fuel i hi hf
    obtain ⟨fuel, rfl⟩ : ∃ z, fuel = z + 1 := ⟨fuel - 1, by omega⟩
    obtain rfl : i = b := by omega
    unfold f_X3_waiterAt_c2
    rw [if_neg (show ¬ (8 : Int32) ≤ nI i from nI_ge (b := 8) (by omega) (by decide)), if_neg (nI_pos hj), inbN (by omega) (by decide), og_t, clN (by omega), if_pos hp]
  | succ m ih =>
    intro fuel i hi hf
    obtain ⟨fuel, rfl⟩ : ∃ z, fuel = z + 1 := ⟨fuel - 1, by omega⟩
    unfold f_X3_waiterAt_c2
    rw [if_neg (show ¬ (8 : Int32) ≤ nI i from nI_ge (b := 8) (by omega) (by decide)), if_neg (nI_pos hj), inbN (by omega) (by decide), og_t, clN (by omega), if_neg (fun e => by have := hu i (by omega) e; omega), nI_1]
    exact ih fuel (i + 1) (by omega) (by omega)
theorem waiter_in {n w : Nat} {ln : Nat → Nat} {pla r : Nat → Int32} (hn : n ≤ 8) (hN : qN n w ln pla r) {j : Nat} (hj : j < w) : f_X3_waiterAt pla (nI j) = some (nI (ln j)) := by
  have hw := qN_le hN
  obtain ⟨h3, h1, h2, h4⟩ := hN
  obtain ⟨a1, a2, a3⟩ := h1 j hj
  refine waiter_some (by omega) (b := ln j) (by omega) a3 (fun b' hb' e => ?_) (ln j) 4096 0 (by omega) (by omega)
  rcases h2 b' hb' with h | ⟨j', hj', e', l'⟩
  · exact absurd (e.symm.trans h) (nI_ne_m1 (by omega))
  · have := (nI_eq (by omega) (by omega)).mp (e.symm.trans e')
    subst this
    exact l'.symm
theorem waiter_out {n w : Nat} {ln : Nat → Nat} {pla r : Nat → Int32} (hN : qN n w ln pla r) {a : Int32} (ha : a < 0 ∨ nI w ≤ a) : f_X3_waiterAt pla a = some (-1) := by
  have hw := qN_le hN
  obtain ⟨h3, h1, h2, h4⟩ := hN
  refine waiter_none ?_ 8 4096 0 rfl (by decide)
  rcases ha with ha | ha
  · exact Or.inl ha
  · refine Or.inr (fun b hb e => ?_)
    rw [Int32.le_iff_toInt_le, nI_toInt (by omega)] at ha
    rcases h2 b hb with h | ⟨j, hj, e', -⟩
    · rw [← e, h] at ha
      have : (-1 : Int32).toInt = -1 := by decide
      omega
    · rw [← e, e', nI_toInt (by omega)] at ha
      omega
/-- the reference: a busker's place in the line -/
theorem place_eq' {n w : Nat} {ln : Nat → Nat} {pla r : Nat → Int32} (hn : n ≤ 8) (hN : qN n w ln pla r) {b : Nat} (hb : b < 8) : ∀ (m fuel i : Nat), i + m = w → m < fuel → (∀ j, j < i → ln j ≠ b) → f_X5_placeInLine_c2 r (nI b) fuel (nI i) = some (pla b) := by
  have hw := qN_le hN
  obtain ⟨h3, h1, h2, h4⟩ := hN
  intro m
  induction m with
  | zero =>
    intro fuel i hi hf hb2
    obtain ⟨fuel, rfl⟩ : ∃ z, fuel = z + 1 := ⟨fuel - 1, by omega⟩
    unfold f_X5_placeInLine_c2
    rw [ib3, og_t, tc3, h3, if_pos (nI_le (by omega) (by omega))]
    rcases h2 b hb with h | ⟨j, hj, -, l⟩
    · rw [h]
    · exact absurd l (hb2 j (by omega))
  | succ m ih =>
    intro fuel i hi hf hb2
    obtain ⟨fuel, rfl⟩ : ∃ z, fuel = z + 1 := ⟨fuel - 1, by omega⟩
    obtain ⟨a1, a2, a3⟩ := h1 i (by omega)
    unfold f_X5_placeInLine_c2
    rw [ib3, og_t, tc3, h3, if_neg (nI_ge (by omega) (by omega)), show (104 : Int32) + nI i = nI (104 + i) from nI_add 104 i, inbN (by omega) (by decide), og_t, clN (by omega), a2]
    by_cases e : ln i = b
    · rw [if_pos (by rw [e]), ← e, a3]
    · rw [if_neg (fun q => e ((nI_eq (by omega) (by omega)).mp q)), nI_1]
      exact ih fuel (i + 1) (by omega) (by omega) (fun j hj => by
        by_cases hji : j = i
        · rw [hji]; exact e
        · exact hb2 j (by omega))
theorem place_eq {n w : Nat} {ln : Nat → Nat} {pla r : Nat → Int32} (hn : n ≤ 8) (hN : qN n w ln pla r) {b : Nat} (hb : b < 8) : f_X5_placeInLine r (nI b) = some (pla b) := by
  have hw := qN_le hN
  exact place_eq' hn hN hb w 4096 0 (by omega) (by omega) (fun j hj => by omega)
/-- whose case -/
theorem case_eq' {n : Nat} {kin lou pit cas hrs nws r pla : Nat → Int32} {hat wea : Nat → UInt32} (hn : n ≤ 8) (hr : r 2 = nI n) (hB : qB n kin lou pit cas hrs nws hat wea r) (hE : qE n pit pla cas hrs nws hat wea) {rk : Int32} {p : Nat} (hp : p < 2 ^ 31) : ∀ (m fuel fuel2 i : Nat), i + m = 8 → m < fuel → m < fuel2 → ∃ x, f_X3_caseAt_c2 kin cas rk (nI p) fuel (nI i) = some x ∧ (n ≤ i → x = -1) ∧ (i ≤ n → f_X5_caseOn_c2 r rk (nI p) fuel2 (nI i) = some x) ∧ (x = -1 ∨ ∃ b, b < n ∧ x = nI b ∧ cas b = nI p) := by
  intro m
  induction m with
  | zero =>
    intro fuel fuel2 i hi hf hf2
    obtain ⟨fuel, rfl⟩ : ∃ z, fuel = z + 1 := ⟨fuel - 1, by omega⟩
    obtain ⟨fuel2, rfl⟩ : ∃ z, fuel2 = z + 1 := ⟨fuel2 - 1, by omega⟩
    refine ⟨-1, ?_, fun _ => rfl, fun h => ?_, Or.inl rfl⟩
    · unfold f_X3_caseAt_c2
      rw [if_pos (show (8 : Int32) ≤ nI i from nI_le (a := 8) (by omega) (by omega))]
    · unfold f_X5_caseOn_c2
      rw [ib2, og_t, tc2, hr, if_pos (nI_le (by omega) (by omega))]
  | succ m ih =>
    intro fuel fuel2 i hi hf hf2
    obtain ⟨fuel, rfl⟩ : ∃ z, fuel = z + 1 := ⟨fuel - 1, by omega⟩
    obtain ⟨fuel2, rfl⟩ : ∃ z, fuel2 = z + 1 := ⟨fuel2 - 1, by omega⟩
    obtain ⟨x, x1, x2, x3, x4⟩ := ih fuel fuel2 (i + 1) (by omega) (by omega) (by omega)
    unfold f_X3_caseAt_c2 f_X5_caseOn_c2
    rw [if_neg (show ¬ (8 : Int32) ≤ nI i from nI_ge (b := 8) (by omega) (by decide)), if_neg (nI_pos hp), inbN (by omega) (by decide), og_t, og_t, clN (by omega), nI_1, x1]
    by_cases hin : i < n
    · obtain ⟨a0, a1, a2, a3, a4, a5, a6, a7⟩ := hB i hin
      rw [ib2, og_t, tc2, hr, if_neg (nI_ge (by omega) (by omega)), of0 r (by omega), ob_s, a0, of5 r (by omega), ob_s, a5, x3 (by omega)]
      by_cases h1 : cas i = nI p
      · by_cases h2 : kin i = rk
        · rw [if_pos h1, if_pos h2]
          exact ⟨nI i, rfl, fun h => by omega, fun _ => by rw [if_pos h2, if_pos h1], Or.inr ⟨i, hin, rfl, h1⟩⟩
        · rw [if_pos h1, if_neg h2]
          exact ⟨x, rfl, fun h => by omega, fun _ => by rw [if_neg h2], x4⟩
      · rw [if_neg h1]
        refine ⟨x, rfl, fun h => by omega, fun _ => ?_, x4⟩
        by_cases h2 : kin i = rk
        · rw [if_pos h2, if_neg h1]
        · rw [if_neg h2]
    · have := (hE i (by omega) (by omega)).2.2.1
      rw [if_neg (fun e => nI_ne_m1 hp (e.symm.trans this))]
      refine ⟨x, rfl, fun _ => x2 (by omega), fun h => ?_, x4⟩
      rw [ib2, og_t, tc2, hr, if_pos (nI_le (by omega) (by omega)), x2 (by omega)]
theorem case_eq {n : Nat} {kin lou pit cas hrs nws r pla : Nat → Int32} {hat wea : Nat → UInt32} (hn : n ≤ 8) (hr : r 2 = nI n) (hB : qB n kin lou pit cas hrs nws hat wea r) (hE : qE n pit pla cas hrs nws hat wea) (rk : Int32) {p : Nat} (hp : p < 2 ^ 31) : ∃ x, f_X3_caseAt kin cas rk (nI p) = some x ∧ f_X5_caseOn r rk (nI p) = some x ∧ (x = -1 ∨ ∃ b, b < n ∧ x = nI b ∧ cas b = nI p) := by
  obtain ⟨x, x1, -, x3, x4⟩ := case_eq' hn hr hB hE (rk := rk) hp 8 4096 4096 0 rfl (by decide) (by decide)
  exact ⟨x, x1, x3 (by omega), x4⟩
theorem free_eq' {n : Nat} {kin lou pit cas hrs nws r pla : Nat → Int32} {hat wea : Nat → UInt32} (hn : n ≤ 8) (hr : r 2 = nI n) (hB : qB n kin lou pit cas hrs nws hat wea r) (hE : qE n pit pla cas hrs nws hat wea) (rk : Int32) : ∀ (m fuel i : Nat), i + m = 3 → m < fuel → ∃ x y, f_X3_freePlaceOn_c2 kin cas rk fuel (nI i) = some x ∧ f_X5_freePlace_c2 r rk fuel (nI i) = some y ∧ ((x = -1 ∧ y = 3) ∨ ∃ p, p < 3 ∧ x = nI p ∧ y = nI p) := by
  intro m
  induction m with
  | zero =>
    intro fuel i hi hf
    obtain ⟨fuel, rfl⟩ : ∃ z, fuel = z + 1 := ⟨fuel - 1, by omega⟩
    obtain rfl : i = 3 := by omega
    refine ⟨-1, 3, ?_, ?_, Or.inl ⟨rfl, rfl⟩⟩
    · unfold f_X3_freePlaceOn_c2; rw [if_pos (by decide)]
    · unfold f_X5_freePlace_c2; rw [if_pos (by decide)]; rfl
  | succ m ih =>
    intro fuel i hi hf
    obtain ⟨fuel, rfl⟩ : ∃ z, fuel = z + 1 := ⟨fuel - 1, by omega⟩
    obtain ⟨x, x1, x2, -⟩ := case_eq hn hr hB hE rk (p := i) (by omega)
    unfold f_X3_freePlaceOn_c2 f_X5_freePlace_c2
    rw [if_neg (show ¬ (3 : Int32) ≤ nI i from nI_ge (b := 3) (by omega) (by decide)), if_neg (show ¬ (3 : Int32) ≤ nI i from nI_ge (b := 3) (by omega) (by decide)), x1, x2, ob_s, ob_s, nI_1]
    by_cases h : x = -1
    · rw [if_pos h, if_pos h]
      exact ⟨nI i, nI i, rfl, rfl, Or.inr ⟨i, by omega, rfl, rfl⟩⟩
    · rw [if_neg h, if_neg h]
      exact ih fuel (i + 1) (by omega) (by omega)
theorem free_eq {n : Nat} {kin lou pit cas hrs nws r pla : Nat → Int32} {hat wea : Nat → UInt32} (hn : n ≤ 8) (hr : r 2 = nI n) (hB : qB n kin lou pit cas hrs nws hat wea r) (hE : qE n pit pla cas hrs nws hat wea) (rk : Int32) : ∃ x y, f_X3_freePlaceOn kin cas rk = some x ∧ f_X5_freePlace r rk = some y ∧ ((x = -1 ∧ y = 3) ∨ ∃ p, p < 3 ∧ x = nI p ∧ y = nI p) := free_eq' hn hr hB hE rk 3 4096 0 rfl (by decide)
