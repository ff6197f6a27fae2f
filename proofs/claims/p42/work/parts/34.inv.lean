/-! a state that keeps the rules; what is looked up in it -/
def qc (crowd : Int32) : Prop := ∃ c, c ≤ 50 ∧ crowd = nI c
def qLm (lim : Nat → UInt32) : Prop := ∀ k, k < 8 → (lim k).toNat ≤ 1123024896
def qO (B : Nat → Nat) (cmp sof : Nat → Int32) : Prop := ∀ k, k < 8 → ∃ c d, c ≤ 99 ∧ c ≤ d ∧ d ≤ B k ∧ cmp k = nI c ∧ sof k = nI d
def qK (n : Nat) (kin lou : Nat → Int32) : Prop := ∀ b, b < n → (kin b = 0 ∨ kin b = 1) ∧ ∃ l, 1 ≤ l ∧ l ≤ 9 ∧ lou b = nI l
def qFl (hat wea : Nat → UInt32) : Prop := ∀ b, b < 8 → (hat b).toNat ≤ 1317011456 ∧ (wea b).toNat ≤ 1317011456
def qPi (pit : Nat → Int32) : Prop := ∀ b, b < 8 → pit b = -1 ∨ ∃ k, k < 8 ∧ pit b = nI k
def qPj (pit : Nat → Int32) : Prop := ∀ b b', b < 8 → b' < 8 → pit b = pit b' → pit b ≠ -1 → b = b'
def qG (cas : Nat → Int32) : Prop := ∀ b, b < 8 → cas b = -1 ∨ ∃ p, p < 3 ∧ cas b = nI p
def qGj (kin cas : Nat → Int32) : Prop := ∀ b b', b < 8 → b' < 8 → cas b = cas b' → kin b = kin b' → cas b ≠ -1 → b = b'
def qE (n : Nat) (pit pla cas hrs nws : Nat → Int32) (hat wea : Nat → UInt32) : Prop := ∀ b, n ≤ b → b < 8 → pit b = -1 ∧ pla b = -1 ∧ cas b = -1 ∧ hrs b = 0 ∧ nws b = 0 ∧ hat b = 0 ∧ wea b = 0
def qN (n w : Nat) (ln : Nat → Nat) (pla : Nat → Int32) : Prop := (∀ j, j < w → ln j < n ∧ pla (ln j) = nI j) ∧ (∀ b, b < 8 → pla b = -1 ∨ ∃ j, j < w ∧ pla b = nI j ∧ ln j = b) ∧ cn (fun b => decide (¬ pla b = -1)) 8 = w
def qD (pit pla : Nat → Int32) : Prop := ∀ b, b < 8 → pit b ≠ -1 → pla b = -1
def qY (kin pit pla : Nat → Int32) (wea : Nat → UInt32) : Prop := ∀ b, b < 8 → ((pit b ≠ -1 ∨ pla b ≠ -1) → (wea b).toNat < 1065353216) ∧ (kin b = 1 → wea b = 0)
def zI (f : Nat → Int32) : Prop := ∀ i, 8 ≤ i → f i = 0
def zF (f : Nat → UInt32) : Prop := ∀ i, 8 ≤ i → f i = 0
def qZ (lim : Nat → UInt32) (cmp sof kin lou pit pla cas hrs nws : Nat → Int32) (hat wea : Nat → UInt32) : Prop := zF lim ∧ zI cmp ∧ zI sof ∧ zI kin ∧ zI lou ∧ zI pit ∧ zI pla ∧ zI cas ∧ zI hrs ∧ zI nws ∧ zF hat ∧ zF wea
def Jv (B : Nat → Nat) (crowd bus ans : Int32) (lim : Nat → UInt32) (cmp sof kin lou pit pla cas hrs nws : Nat → Int32) (hat wea : Nat → UInt32) (n w : Nat) (ln : Nat → Nat) : Prop :=
  (bus = nI n ∧ n ≤ 8) ∧ qc crowd ∧ qLm lim ∧ qO B cmp sof ∧ sI cmp 8 + ans = sI sof 8 ∧ qK n kin lou ∧ qFl hat wea ∧ qPi pit ∧ qPj pit ∧ qG cas ∧ qGj kin cas ∧ qE n pit pla cas hrs nws hat wea ∧ qN n w ln pla ∧ qD pit pla ∧ qY kin pit pla wea ∧ qZ lim cmp sof kin lou pit pla cas hrs nws hat wea
theorem zI_upd {f : Nat → Int32} (h : zI f) {k : Nat} (hk : k < 8) (x : Int32) : zI (upd f k x) := fun i hi => by rw [upd_ne _ _ (by omega)]; exact h i hi
theorem zF_upd {f : Nat → UInt32} (h : zF f) {k : Nat} (hk : k < 8) (x : UInt32) : zF (vf_upd f k x) := fun i hi => by rw [vupd_ne _ _ (by omega)]; exact h i hi
theorem qN_le {n w : Nat} {ln : Nat → Nat} {pla : Nat → Int32} (h : qN n w ln pla) : w ≤ 8 := by
  rw [← h.2.2]; exact cn_le _ 8
theorem qO_mono {B B' : Nat → Nat} {cmp sof : Nat → Int32} (h : qO B cmp sof) (hB : ∀ k, k < 8 → B k ≤ B' k) : qO B' cmp sof := fun k hk => by
  obtain ⟨c, d, h1, h2, h3, h4⟩ := h k hk
  exact ⟨c, d, h1, h2, Nat.le_trans h3 (hB k hk), h4⟩
theorem qPj_u {pit : Nat → Int32} (h : qPj pit) {b k : Nat} (hb : b < 8) (hk : k < 8) (hp : pit b = nI k) : ∀ b', b' < 8 → pit b' = nI k → b' = b := fun b' hb' e => h b' b hb' hb (e.trans hp.symm) (by rw [e]; exact nI_ne_m1 (by omega))
theorem qE_in {n : Nat} {pit pla cas hrs nws : Nat → Int32} {hat wea : Nat → UInt32} (hE : qE n pit pla cas hrs nws hat wea) {b k : Nat} (hb : b < 8) (hk : k < 8) (hp : pit b = nI k) : b < n := by
  refine Nat.lt_of_not_le fun q => ?_
  have := (hE b q hb).1
  rw [hp] at this
  exact nI_ne_m1 (by omega) this
theorem fst_of {p : Nat → Prop} : ∀ n, (∃ i, i < n ∧ p i) → ∃ i, i < n ∧ p i ∧ ∀ j, j < i → ¬ p j
  | 0, h => by obtain ⟨i, hi, -⟩ := h; omega
  | n + 1, h => by
    by_cases q : ∃ i, i < n ∧ p i
    · obtain ⟨i, h1, h2⟩ := fst_of n q
      exact ⟨i, by omega, h2⟩
    · obtain ⟨i, h1, h2⟩ := h
      have : i = n := Nat.le_antisymm (by omega) (Nat.not_lt.mp fun h => q ⟨i, h, h2⟩)
      subst this
      exact ⟨i, h1, h2, fun j hj h => q ⟨j, hj, h⟩⟩
/-- who plays on a pitch -/
theorem isP_tot (a : Int32) : ∃ v, f_X4_isPitch a = some v ∧ (v = 0 ∨ v = 1) := by
  rcases pitch_cases a with h | ⟨k, -, -, h⟩
  · exact ⟨0, h, Or.inl rfl⟩
  · exact ⟨1, h, Or.inr rfl⟩
theorem player_none' {pit : Nat → Int32} {a : Int32} (h : ∀ b, b < 8 → pit b ≠ a) : ∀ (m fuel i : Nat), i + m = 8 → m < fuel → f_X3_playerOn_c2 pit a fuel (nI i) = some (-1) := by
  obtain ⟨v, hv, -⟩ := isP_tot a
  intro m
  induction m with
  | zero =>
    intro fuel i hi hf
    obtain ⟨fuel, rfl⟩ : ∃ z, fuel = z + 1 := ⟨fuel - 1, by omega⟩
    unfold f_X3_playerOn_c2
    rw [if_pos (show (8 : Int32) ≤ nI i from nI_le (a := 8) (by omega) (by omega))]
  | succ m ih =>
    intro fuel i hi hf
    obtain ⟨fuel, rfl⟩ : ∃ z, fuel = z + 1 := ⟨fuel - 1, by omega⟩
    unfold f_X3_playerOn_c2
    rw [if_neg (show ¬ (8 : Int32) ≤ nI i from nI_ge (b := 8) (by omega) (by decide)), hv, ob_s]
    split
    · rfl
    · rw [inbN (by omega) (by decide), og_t, clN (by omega), if_neg (h i (by omega)), nI_1]
      exact ih fuel (i + 1) (by omega) (by omega)
theorem player_none {pit : Nat → Int32} {a : Int32} (h : ∀ b, b < 8 → pit b ≠ a) : f_X3_playerOn pit a = some (-1) := player_none' h 8 4096 0 rfl (by decide)
theorem player_out {pit : Nat → Int32} {a : Int32} (h : f_X4_isPitch a = some 0) : f_X3_playerOn pit a = some (-1) := by
  unfold f_X3_playerOn f_X3_playerOn_c2
  rw [h, ob_s, if_pos rfl]
  split <;> rfl
theorem player_some' {pit : Nat → Int32} {k b : Nat} (hk : k < 8) (hb : b < 8) (hp : pit b = nI k) (hu : ∀ b', b' < 8 → pit b' = nI k → b' = b) : ∀ (m fuel i : Nat), i + m = b → m < fuel → f_X3_playerOn_c2 pit (nI k) fuel (nI i) = some (nI b) := by
  intro m
  induction m with
  | zero =>
    intro fuel i hi hf
    obtain ⟨fuel, rfl⟩ : ∃ z, fuel = z + 1 := ⟨fuel - 1, by omega⟩
    obtain rfl : i = b := by omega
    unfold f_X3_playerOn_c2
    rw [if_neg (show ¬ (8 : Int32) ≤ nI i from nI_ge (b := 8) (by omega) (by decide)), isP_T hk, ob_s, if_neg n10, inbN (by omega) (by decide), og_t, clN (by omega), if_pos hp]
  | succ m ih =>
    intro fuel i hi hf
    obtain ⟨fuel, rfl⟩ : ∃ z, fuel = z + 1 := ⟨fuel - 1, by omega⟩
    unfold f_X3_playerOn_c2
    rw [if_neg (show ¬ (8 : Int32) ≤ nI i from nI_ge (b := 8) (by omega) (by decide)), isP_T hk, ob_s, if_neg n10, inbN (by omega) (by decide), og_t, clN (by omega), if_neg (fun e => by have := hu i (by omega) e; omega), nI_1]
    exact ih fuel (i + 1) (by omega) (by omega)
theorem cntWaiting' (v : Nat → Int32) : ∀ (m fuel i : Nat), i + m = 8 → m < fuel → f_X3_countWaiting_c13 v fuel (nI (cn (fun b => decide (¬ v b = -1)) i)) 8 (nI i) = some (nI (cn (fun b => decide (¬ v b = -1)) 8)) := by
  intro m
  induction m with
  | zero =>
    intro fuel i hi hf
    obtain ⟨fuel, rfl⟩ : ∃ z, fuel = z + 1 := ⟨fuel - 1, by omega⟩
    obtain rfl : i = 8 := by omega
    unfold f_X3_countWaiting_c13
    rw [if_pos (show (8 : Int32) ≤ nI 8 by decide)]
  | succ m ih =>
    intro fuel i hi hf
    obtain ⟨fuel, rfl⟩ : ∃ z, fuel = z + 1 := ⟨fuel - 1, by omega⟩
    have key := ih fuel (i + 1) (by omega) (by omega)
    have e : cn (fun b => decide (¬ v b = -1)) (i + 1) = cn (fun b => decide (¬ v b = -1)) i + (decide (¬ v i = -1)).toNat := rfl
    rw [e] at key
    unfold f_X3_countWaiting_c13
    rw [if_neg (show ¬ (8 : Int32) ≤ nI i from nI_ge (b := 8) (by omega) (by decide)), inbN (by omega) (by decide), og_t, clN (by omega)]
    by_cases h : v i = -1
    · rw [if_pos h, nI_1, Int32.add_zero]
      rw [decide_eq_false (fun q => q h)] at key
      exact key
    · rw [if_neg h, nI_1, nI_1]
      rw [decide_eq_true h] at key
      exact key
theorem cntWaiting (v : Nat → Int32) : f_X3_countWaiting v = some (nI (cn (fun b => decide (¬ v b = -1)) 8)) := cntWaiting' v 8 4096 0 rfl (by decide)
theorem cntPlaying' (v : Nat → Int32) : ∀ (m fuel i : Nat), i + m = 8 → m < fuel → f_X3_countPlaying_c13 v fuel (nI (cn (fun b => decide (¬ v b = -1)) i)) 8 (nI i) = some (nI (cn (fun b => decide (¬ v b = -1)) 8)) := by
  intro m
  induction m with
  | zero =>
    intro fuel i hi hf
    obtain ⟨fuel, rfl⟩ : ∃ z, fuel = z + 1 := ⟨fuel - 1, by omega⟩
    obtain rfl : i = 8 := by omega
    unfold f_X3_countPlaying_c13
    rw [if_pos (show (8 : Int32) ≤ nI 8 by decide)]
  | succ m ih =>
    intro fuel i hi hf
    obtain ⟨fuel, rfl⟩ : ∃ z, fuel = z + 1 := ⟨fuel - 1, by omega⟩
    have key := ih fuel (i + 1) (by omega) (by omega)
    have e : cn (fun b => decide (¬ v b = -1)) (i + 1) = cn (fun b => decide (¬ v b = -1)) i + (decide (¬ v i = -1)).toNat := rfl
    rw [e] at key
    unfold f_X3_countPlaying_c13
    rw [if_neg (show ¬ (8 : Int32) ≤ nI i from nI_ge (b := 8) (by omega) (by decide)), inbN (by omega) (by decide), og_t, clN (by omega)]
    by_cases h : v i = -1
    · rw [if_pos h, nI_1, Int32.add_zero]
      rw [decide_eq_false (fun q => q h)] at key
      exact key
    · rw [if_neg h, nI_1, nI_1]
      rw [decide_eq_true h] at key
      exact key
theorem cntPlaying (v : Nat → Int32) : f_X3_countPlaying v = some (nI (cn (fun b => decide (¬ v b = -1)) 8)) := cntPlaying' v 8 4096 0 rfl (by decide)
theorem cntCases' (v : Nat → Int32) : ∀ (m fuel i : Nat), i + m = 8 → m < fuel → f_X3_countCases_c13 v fuel (nI (cn (fun b => decide (¬ v b = -1)) i)) 8 (nI i) = some (nI (cn (fun b => decide (¬ v b = -1)) 8)) := by
  intro m
  induction m with
  | zero =>
    intro fuel i hi hf
    obtain ⟨fuel, rfl⟩ : ∃ z, fuel = z + 1 := ⟨fuel - 1, by omega⟩
    obtain rfl : i = 8 := by omega
    unfold f_X3_countCases_c13
    rw [if_pos (show (8 : Int32) ≤ nI 8 by decide)]
  | succ m ih =>
    intro fuel i hi hf
    obtain ⟨fuel, rfl⟩ : ∃ z, fuel = z + 1 := ⟨fuel - 1, by omega⟩
    have key := ih fuel (i + 1) (by omega) (by omega)
    have e : cn (fun b => decide (¬ v b = -1)) (i + 1) = cn (fun b => decide (¬ v b = -1)) i + (decide (¬ v i = -1)).toNat := rfl
    rw [e] at key
    unfold f_X3_countCases_c13
    rw [if_neg (show ¬ (8 : Int32) ≤ nI i from nI_ge (b := 8) (by omega) (by decide)), inbN (by omega) (by decide), og_t, clN (by omega)]
    by_cases h : v i = -1
    · rw [if_pos h, nI_1, Int32.add_zero]
      rw [decide_eq_false (fun q => q h)] at key
      exact key
    · rw [if_neg h, nI_1, nI_1]
      rw [decide_eq_true h] at key
      exact key
theorem cntCases (v : Nat → Int32) : f_X3_countCases v = some (nI (cn (fun b => decide (¬ v b = -1)) 8)) := cntCases' v 8 4096 0 rfl (by decide)
theorem sum8' (v : Nat → Int32) : ∀ (m fuel i : Nat), i + m = 8 → m < fuel → f_X4_sum_c10 v fuel (sI v i) 8 (nI i) = some (sI v 8) := by
  intro m
  induction m with
  | zero =>
    intro fuel i hi hf
    obtain ⟨fuel, rfl⟩ : ∃ z, fuel = z + 1 := ⟨fuel - 1, by omega⟩
    obtain rfl : i = 8 := by omega
    unfold f_X4_sum_c10
    rw [if_pos (show (8 : Int32) ≤ nI 8 by decide)]
  | succ m ih =>
    intro fuel i hi hf
    obtain ⟨fuel, rfl⟩ : ∃ z, fuel = z + 1 := ⟨fuel - 1, by omega⟩
    unfold f_X4_sum_c10
    rw [if_neg (show ¬ (8 : Int32) ≤ nI i from nI_ge (b := 8) (by omega) (by decide)), inbN (by omega) (by decide), og_t, clN (by omega), nI_1]
    exact ih fuel (i + 1) (by omega) (by omega)
theorem sum8 (v : Nat → Int32) : f_X4_sum v = some (sI v 8) := sum8' v 8 4096 0 rfl (by decide)
theorem waiter_none {pla : Nat → Int32} {a : Int32} (h : a < 0 ∨ ∀ b, b < 8 → pla b ≠ a) : ∀ (m fuel i : Nat), i + m = 8 → m < fuel → f_X3_waiterAt_c2 pla a fuel (nI i) = some (-1) := by
  intro m
  induction m with
  | zero =>
    intro fuel i hi hf
    obtain ⟨fuel, rfl⟩ : ∃ z, fuel = z + 1 := ⟨fuel - 1, by omega⟩
    unfold f_X3_waiterAt_c2
    rw [if_pos (show (8 : Int32) ≤ nI i from nI_le (a := 8) (by omega) (by omega))]
  | succ m ih =>
    intro fuel i hi hf
    obtain ⟨fuel, rfl⟩ : ∃ z, fuel = z + 1 := ⟨fuel - 1, by omega⟩
    unfold f_X3_waiterAt_c2
    rw [if_neg (show ¬ (8 : Int32) ≤ nI i from nI_ge (b := 8) (by omega) (by decide))]
    by_cases h0 : a < 0
    · rw [if_pos h0]
    · rw [if_neg h0, inbN (by omega) (by decide), og_t, clN (by omega), if_neg ((h.resolve_left h0) i (by omega)), nI_1]
      exact ih fuel (i + 1) (by omega) (by omega)
theorem waiter_some {pla : Nat → Int32} {j b : Nat} (hj : j < 2 ^ 31) (hb : b < 8) (hp : pla b = nI j) (hu : ∀ b', b' < 8 → pla b' = nI j → b' = b) : ∀ (m fuel i : Nat), i + m = b → m < fuel → f_X3_waiterAt_c2 pla (nI j) fuel (nI i) = some (nI b) := by
  intro m
  induction m with
  | zero =>
    intro fuel i hi hf
    obtain ⟨fuel, rfl⟩ : ∃ z, fuel = z + 1 := ⟨fuel - 1, by omega⟩
    obtain rfl : i = b := by omega
    unfold f_X3_waiterAt_c2
    rw [if_neg (show ¬ (8 : Int32) ≤ nI i from nI_ge (b := 8) (by omega) (by decide)), if_neg (nI_pos hj), inbN (by omega) (by decide), og_t, clN (by omega), if_pos hp]
  | succ m ih =>
    intro fuel i hi hf
    obtain ⟨fuel, rfl⟩ : ∃ z, fuel = z + 1 := ⟨fuel - 1, by omega⟩
    unfold f_X3_waiterAt_c2
    rw [if_neg (show ¬ (8 : Int32) ≤ nI i from nI_ge (b := 8) (by omega) (by decide)), if_neg (nI_pos hj), inbN (by omega) (by decide), og_t, clN (by omega), if_neg (fun e => by have := hu i (by omega) e; omega), nI_1]
    exact ih fuel (i + 1) (by omega) (by omega)
theorem waiter_in {n w : Nat} {ln : Nat → Nat} {pla : Nat → Int32} (hn : n ≤ 8) (hN : qN n w ln pla) {j : Nat} (hj : j < w) : f_X3_waiterAt pla (nI j) = some (nI (ln j)) := by
  have hw := qN_le hN
  obtain ⟨h1, h2, h4⟩ := hN
  obtain ⟨a1, a3⟩ := h1 j hj
  refine waiter_some (by omega) (b := ln j) (by omega) a3 (fun b' hb' e => ?_) (ln j) 4096 0 (by omega) (by omega)
  rcases h2 b' hb' with h | ⟨j', hj', e', l'⟩
  · exact absurd (e.symm.trans h) (nI_ne_m1 (by omega))
  · have := (nI_eq (by omega) (by omega)).mp (e.symm.trans e')
    subst this
    exact l'.symm
theorem waiter_out {n w : Nat} {ln : Nat → Nat} {pla : Nat → Int32} (hN : qN n w ln pla) {a : Int32} (ha : a < 0 ∨ nI w ≤ a) : f_X3_waiterAt pla a = some (-1) := by
  have hw := qN_le hN
  obtain ⟨h1, h2, h4⟩ := hN
  refine waiter_none ?_ 8 4096 0 rfl (by decide)
  rcases ha with ha | ha
  · exact Or.inl ha
  · refine Or.inr (fun b hb e => ?_)
    rw [Int32.le_iff_toInt_le, nI_toInt (by omega)] at ha
    rcases h2 b hb with h | ⟨j, hj, e', -⟩
    · rw [← e, h] at ha
      have : (-1 : Int32).toInt = -1 := by decide
      omega
    · rw [← e, e', nI_toInt (by omega)] at ha
      omega
/-- the busker of a pitch, -1 without one -/
def plF (pit : Nat → Int32) (a : Int32) : Int32 := (f_X3_playerOn pit a).getD 0
theorem pl_cases {n : Nat} {pit pla cas hrs nws : Nat → Int32} {hat wea : Nat → UInt32} (hE : qE n pit pla cas hrs nws hat wea) (hI : qPi pit) (hJ : qPj pit) {k : Nat} (hk : k < 8) : (f_X3_playerOn pit (nI k) = some (-1) ∧ plF pit (nI k) = -1 ∧ ∀ b, b < 8 → pit b ≠ nI k) ∨ ∃ b, b < n ∧ b < 8 ∧ pit b = nI k ∧ f_X3_playerOn pit (nI k) = some (nI b) ∧ plF pit (nI k) = nI b := by
  by_cases h : ∃ b, b < 8 ∧ pit b = nI k
  · obtain ⟨b, hb, hp⟩ := h
    have e := player_some' hk hb hp (qPj_u hJ hb hk hp) b 4096 0 (by omega) (by omega)
    exact Or.inr ⟨b, qE_in hE hb hk hp, hb, hp, e, by unfold plF; rw [show f_X3_playerOn pit (nI k) = _ from e]; rfl⟩
  · have e := player_none (pit := pit) (a := nI k) (fun b hb q => h ⟨b, hb, q⟩)
    exact Or.inl ⟨e, by unfold plF; rw [e]; rfl, fun b hb q => h ⟨b, hb, q⟩⟩
theorem pl_eq {n : Nat} {pit pla cas hrs nws : Nat → Int32} {hat wea : Nat → UInt32} (hE : qE n pit pla cas hrs nws hat wea) (hI : qPi pit) (hJ : qPj pit) {k : Nat} (hk : k < 8) : f_X3_playerOn pit (nI k) = some (plF pit (nI k)) := by
  rcases pl_cases hE hI hJ hk with ⟨h1, h2, -⟩ | ⟨b, -, -, -, h1, h2⟩
  · rw [h1, h2]
  · rw [h1, h2]
/-- whose case stands at a place -/
theorem case_none {kin cas : Nat → Int32} {rk a : Int32} (h : ∀ b, b < 8 → ¬ (cas b = a ∧ kin b = rk)) : ∀ (m fuel i : Nat), i + m = 8 → m < fuel → f_X3_caseAt_c2 kin cas rk a fuel (nI i) = some (-1) := by
  intro m
  induction m with
  | zero =>
    intro fuel i hi hf
    obtain ⟨fuel, rfl⟩ : ∃ z, fuel = z + 1 := ⟨fuel - 1, by omega⟩
    unfold f_X3_caseAt_c2
    rw [if_pos (show (8 : Int32) ≤ nI i from nI_le (a := 8) (by omega) (by omega))]
  | succ m ih =>
    intro fuel i hi hf
    obtain ⟨fuel, rfl⟩ : ∃ z, fuel = z + 1 := ⟨fuel - 1, by omega⟩
    unfold f_X3_caseAt_c2
    rw [if_neg (show ¬ (8 : Int32) ≤ nI i from nI_ge (b := 8) (by omega) (by decide))]
    by_cases h0 : a < 0
    · rw [if_pos h0]
    · rw [if_neg h0, inbN (by omega) (by decide), og_t, og_t, clN (by omega), nI_1]
      by_cases h1 : cas i = a
      · rw [if_pos h1, if_neg (fun q => h i (by omega) ⟨h1, q⟩)]
        exact ih fuel (i + 1) (by omega) (by omega)
      · rw [if_neg h1]
        exact ih fuel (i + 1) (by omega) (by omega)
theorem case_some {kin cas : Nat → Int32} {rk : Int32} {p b : Nat} (hp : p < 2 ^ 31) (hb : b < 8) (h1 : cas b = nI p) (h2 : kin b = rk) (hu : ∀ b', b' < 8 → cas b' = nI p → kin b' = rk → b' = b) : ∀ (m fuel i : Nat), i + m = b → m < fuel → f_X3_caseAt_c2 kin cas rk (nI p) fuel (nI i) = some (nI b) := by
  intro m
  induction m with
  | zero =>
    intro fuel i hi hf
    obtain ⟨fuel, rfl⟩ : ∃ z, fuel = z + 1 := ⟨fuel - 1, by omega⟩
    obtain rfl : i = b := by omega
    unfold f_X3_caseAt_c2
    rw [if_neg (show ¬ (8 : Int32) ≤ nI i from nI_ge (b := 8) (by omega) (by decide)), if_neg (nI_pos hp), inbN (by omega) (by decide), og_t, og_t, clN (by omega), if_pos h1, if_pos h2]
  | succ m ih =>
    intro fuel i hi hf
    obtain ⟨fuel, rfl⟩ : ∃ z, fuel = z + 1 := ⟨fuel - 1, by omega⟩
    unfold f_X3_caseAt_c2
    rw [if_neg (show ¬ (8 : Int32) ≤ nI i from nI_ge (b := 8) (by omega) (by decide)), if_neg (nI_pos hp), inbN (by omega) (by decide), og_t, og_t, clN (by omega), nI_1]
    by_cases e1 : cas i = nI p
    · rw [if_pos e1, if_neg (fun e2 => by have := hu i (by omega) e1 e2; omega)]
      exact ih fuel (i + 1) (by omega) (by omega)
    · rw [if_neg e1]
      exact ih fuel (i + 1) (by omega) (by omega)
/-- the lowest free place of a rack -/
theorem free_cases (kin cas : Nat → Int32) (rk : Int32) : ∀ (m fuel i : Nat), i + m = 3 → m < fuel → f_X3_freePlaceOn_c2 kin cas rk fuel (nI i) = some (-1) ∨ ∃ p, p < 3 ∧ f_X3_freePlaceOn_c2 kin cas rk fuel (nI i) = some (nI p) ∧ ∀ b, b < 8 → ¬ (cas b = nI p ∧ kin b = rk) := by
  intro m
  induction m with
  | zero =>
    intro fuel i hi hf
    obtain ⟨fuel, rfl⟩ : ∃ z, fuel = z + 1 := ⟨fuel - 1, by omega⟩
    left
    unfold f_X3_freePlaceOn_c2
    rw [if_pos (show (3 : Int32) ≤ nI i from nI_le (a := 3) (by omega) (by omega))]
  | succ m ih =>
    intro fuel i hi hf
    obtain ⟨fuel, rfl⟩ : ∃ z, fuel = z + 1 := ⟨fuel - 1, by omega⟩
    have key : ∃ x, f_X3_caseAt kin cas rk (nI i) = some x ∧ (x = -1 → ∀ b, b < 8 → ¬ (cas b = nI i ∧ kin b = rk)) := by
      by_cases h : ∃ b, b < 8 ∧ (cas b = nI i ∧ kin b = rk)
      · obtain ⟨b, hb, h1, h2⟩ := fst_of 8 h
        have e : ∀ (m fuel i2 : Nat), i2 + m = b → m < fuel → f_X3_caseAt_c2 kin cas rk (nI i) fuel (nI i2) = some (nI b) := by
          intro m
          induction m with
          | zero =>
            intro fuel i2 hi2 hf2
            obtain ⟨fuel, rfl⟩ : ∃ z, fuel = z + 1 := ⟨fuel - 1, by omega⟩
            obtain rfl : i2 = b := by omega
            unfold f_X3_caseAt_c2
            rw [if_neg (show ¬ (8 : Int32) ≤ nI i2 from nI_ge (b := 8) (by omega) (by decide)), if_neg (nI_pos (by omega)), inbN (by omega) (by decide), og_t, og_t, clN (by omega), if_pos h1.1, if_pos h1.2]
          | succ m ih2 =>
            intro fuel i2 hi2 hf2
            obtain ⟨fuel, rfl⟩ : ∃ z, fuel = z + 1 := ⟨fuel - 1, by omega⟩
            unfold f_X3_caseAt_c2
            rw [if_neg (show ¬ (8 : Int32) ≤ nI i2 from nI_ge (b := 8) (by omega) (by decide)), if_neg (nI_pos (by omega)), inbN (by omega) (by decide), og_t, og_t, clN (by omega), nI_1]
            by_cases e1 : cas i2 = nI i
            · rw [if_pos e1, if_neg (fun e2 => h2 i2 (by omega) ⟨e1, e2⟩)]
              exact ih2 fuel (i2 + 1) (by omega) (by omega)
            · rw [if_neg e1]
              exact ih2 fuel (i2 + 1) (by omega) (by omega)
        exact ⟨nI b, e b 4096 0 (by omega) (by omega), fun q => absurd q (nI_ne_m1 (by omega))⟩
      · exact ⟨-1, case_none (fun b hb q => h ⟨b, hb, q⟩) 8 4096 0 rfl (by decide), fun _ b hb q => h ⟨b, hb, q⟩⟩
    obtain ⟨x, x1, x2⟩ := key
    unfold f_X3_freePlaceOn_c2
    rw [if_neg (show ¬ (3 : Int32) ≤ nI i from nI_ge (b := 3) (by omega) (by decide)), x1, ob_s, nI_1]
    by_cases h : x = -1
    · rw [if_pos h]
      exact Or.inr ⟨i, by omega, rfl, x2 h⟩
    · rw [if_neg h]
      exact ih fuel (i + 1) (by omega) (by omega)
