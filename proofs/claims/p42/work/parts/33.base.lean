/-! plain numbers: counts, sums, ranges; what is asked of an argument -/
theorem i10 : ((1 : Int32) = 0) = False := by decide
theorem i01 : ((0 : Int32) = 1) = False := by decide
theorem im0 : ((-1 : Int32) = 0) = False := by decide
theorem i20 : ((2 : Int32) = 0) = False := by decide
theorem i30 : ((3 : Int32) = 0) = False := by decide
theorem nI_ne_m1 {n : Nat} (h : n < 2 ^ 31) : ¬ nI n = -1 := fun e => by
  have := congrArg Int32.toInt e
  rw [nI_toInt h] at this
  have h2 : (-1 : Int32).toInt = -1 := by decide
  omega
theorem upd_eq (f : Nat → Int32) (k : Nat) (x : Int32) : upd f k x k = x := if_pos rfl
theorem upd_ne (f : Nat → Int32) {k j : Nat} (x : Int32) (h : j ≠ k) : upd f k x j = f j := if_neg h
theorem vupd_eq {α : Type} (f : Nat → α) (k : Nat) (x : α) : vf_upd f k x k = x := if_pos rfl
theorem vupd_ne {α : Type} (f : Nat → α) {k j : Nat} (x : α) (h : j ≠ k) : vf_upd f k x j = f j := if_neg h
theorem inbN {k N : Nat} (h : k < N) (hN : N < 2 ^ 31) : inb (nI k) N = true := by unfold inb; exact decide_eq_true (nI_in h hN)
theorem clN {k : Nat} (h : k < 2 ^ 31) : (nI k).toNatClampNeg = k := nI_clamp h
theorem ib0 : inb 0 112 = true := by decide
theorem ib1 : inb 1 112 = true := by decide
theorem ib2 : inb 2 112 = true := by decide
theorem ib3 : inb 3 112 = true := by decide
theorem ib4 : inb 4 112 = true := by decide
theorem ib5 : inb 5 112 = true := by decide
theorem ib6 : inb 6 112 = true := by decide
theorem ib7 : inb 7 112 = true := by decide
theorem tc0 : (0 : Int32).toNatClampNeg = 0 := by decide
theorem tc1 : (1 : Int32).toNatClampNeg = 1 := by decide
theorem tc2 : (2 : Int32).toNatClampNeg = 2 := by decide
theorem tc3 : (3 : Int32).toNatClampNeg = 3 := by decide
theorem tc4 : (4 : Int32).toNatClampNeg = 4 := by decide
theorem tc5 : (5 : Int32).toNatClampNeg = 5 := by decide
theorem tc6 : (6 : Int32).toNatClampNeg = 6 := by decide
theorem tc7 : (7 : Int32).toNatClampNeg = 7 := by decide
theorem tc8 : (8 : Int32).toNatClampNeg = 8 := by decide
theorem isZ0 : isZ 0 = true := by decide
theorem isZ1 : isZ 1 = true := by decide
/-- counts, sums -/
def cn (p : Nat → Bool) : Nat → Nat
  | 0 => 0
  | m + 1 => cn p m + (p m).toNat
def sI (g : Nat → Int32) : Nat → Int32
  | 0 => 0
  | m + 1 => sI g m + g m
theorem cn_congr {p q : Nat → Bool} : ∀ {m : Nat}, (∀ i, i < m → p i = q i) → cn p m = cn q m
  | 0, _ => rfl
  | m + 1, h => by
    show cn p m + _ = cn q m + _
    rw [cn_congr (fun i hi => h i (by omega)), h m (by omega)]
theorem cn_ext {p : Nat → Bool} {n : Nat} : ∀ {m : Nat}, n ≤ m → (∀ i, n ≤ i → i < m → p i = false) → cn p m = cn p n
  | 0, h, _ => by rw [show n = 0 by omega]
  | m + 1, h, hp => by
    by_cases h1 : n = m + 1
    · rw [h1]
    · show cn p m + _ = _
      rw [hp m (by omega) (by omega), cn_ext (m := m) (by omega) (fun i a b => hp i a (by omega))]
      rfl
theorem cn_le (p : Nat → Bool) : ∀ m, cn p m ≤ m
  | 0 => Nat.le_refl 0
  | m + 1 => by
    have := cn_le p m
    have := Bool.toNat_le (p m)
    show cn p m + _ ≤ _
    omega
theorem cn3 {a b c d : Nat → Bool} : ∀ {m : Nat}, (∀ i, i < m → (a i).toNat + (b i).toNat + (c i).toNat = (d i).toNat) → cn a m + cn b m + cn c m = cn d m
  | 0, _ => rfl
  | m + 1, h => by
    have h1 := cn3 (m := m) (fun i hi => h i (by omega))
    have h2 := h m (by omega)
    show cn a m + _ + (cn b m + _) + (cn c m + _) = cn d m + _
    omega
theorem cn_lt (n : Nat) : ∀ m, cn (fun i => decide (i < n)) m = min n m
  | 0 => by show 0 = _; omega
  | m + 1 => by
    show cn _ m + (decide (m < n)).toNat = _
    rw [cn_lt n m]
    by_cases h : m < n
    · rw [decide_eq_true h]; show min n m + 1 = _; omega
    · rw [decide_eq_false h]; show min n m + 0 = _; omega
/-- one place changed -/
theorem cn_upd {p q : Nat → Bool} {k : Nat} : ∀ {m : Nat}, k < m → (∀ i, i < m → i ≠ k → q i = p i) → cn q m + (p k).toNat = cn p m + (q k).toNat
  | 0, h, _ => by omega
  | m + 1, h, he => by
    show cn q m + (q m).toNat + _ = cn p m + (p m).toNat + _
    by_cases h1 : k = m
    · subst h1
      rw [cn_congr (m := k) (p := q) (q := p) (fun i hi => he i (by omega) (by omega))]
      omega
    · have := cn_upd (m := m) (by omega) (fun i hi => he i (by omega))
      rw [he m (by omega) (by omega)]
      omega
theorem sI_congr {f g : Nat → Int32} : ∀ {m : Nat}, (∀ i, i < m → f i = g i) → sI f m = sI g m
  | 0, _ => rfl
  | m + 1, h => by
    show sI f m + _ = sI g m + _
    rw [sI_congr (fun i hi => h i (by omega)), h m (by omega)]
theorem sI_1 {f : Nat → Int32} {k : Nat} : ∀ {m : Nat}, k < m → sI (upd f k (f k + 1)) m = sI f m + 1
  | 0, h => by omega
  | m + 1, h => by
    show sI _ m + upd f k (f k + 1) m = sI f m + f m + 1
    by_cases h1 : k = m
    · subst h1
      rw [upd_eq, sI_congr (g := f) (fun i hi => upd_ne f _ (by omega)), Int32.add_assoc]
    · rw [upd_ne f _ (by omega), sI_1 (m := m) (by omega), Int32.add_assoc, Int32.add_comm 1, ← Int32.add_assoc]
/-- arguments -/
theorem n10 : ¬ (1 : Int32) = 0 := by decide
theorem range_cases {lo hi : Nat} (hl : lo < 1000) (hh : hi < 1000) (a : Int32) : f_X4_hindranceOfRange a (nI lo) (nI hi) = some 2 ∨ ∃ c, lo ≤ c ∧ c ≤ hi ∧ a = nI c ∧ f_X4_hindranceOfRange a (nI lo) (nI hi) = some 0 := by
  unfold f_X4_hindranceOfRange
  by_cases h1 : a < nI lo
  · left; rw [if_pos h1]
  · by_cases h2 : a ≤ nI hi
    · right
      have h0 : ¬ a < 0 := fun h => h1 (by
        rw [Int32.lt_iff_toInt_lt] at h ⊢
        rw [nI_toInt (by omega)]
        have : (0 : Int32).toInt = 0 := rfl
        omega)
      obtain ⟨c, hc, rfl⟩ := nI_of2 (n := hi) (nI_toInt (by omega)) h0 h2
      refine ⟨c, ?_, hc, rfl, ?_⟩
      · rw [nI_ltI (by omega) (by omega)] at h1; omega
      · rw [if_neg h1, if_pos h2]
    · left; rw [if_neg h1, if_neg h2]
theorem range_T {lo hi c : Nat} (h1 : lo ≤ c) (h2 : c ≤ hi) (hh : hi < 1000) : f_X4_hindranceOfRange (nI c) (nI lo) (nI hi) = some 0 := by
  unfold f_X4_hindranceOfRange
  rw [if_neg (nI_nlt h1 (by omega)), if_pos (nI_le h2 (by omega))]
theorem pitch_cases (a : Int32) : f_X4_isPitch a = some 0 ∨ ∃ k, k < 8 ∧ a = nI k ∧ f_X4_isPitch a = some 1 := by
  unfold f_X4_isPitch
  rcases pk_ix a (n := 8) (by decide) with h | h | ⟨k, hk, rfl⟩
  · left; rw [if_pos h]
  · left
    have h0 : ¬ a < 0 := fun h9 => by
      rw [Int32.lt_iff_toInt_lt] at h9
      rw [Int32.le_iff_toInt_le] at h
      have : (nI 8).toInt = 8 := rfl
      have : (0 : Int32).toInt = 0 := rfl
      omega
    rw [if_neg h0, if_pos (show (8 : Int32) ≤ a from h)]
  · right
    refine ⟨k, hk, rfl, ?_⟩
    rw [if_neg (nI_pos (by omega)), if_neg (show ¬ (8 : Int32) ≤ nI k from nI_ge (b := 8) hk (by decide))]
theorem busk_cases {n : Nat} (hn : n ≤ 8) (a : Int32) : f_X3_hasBusker (nI n) a = some 0 ∨ ∃ b, b < n ∧ a = nI b ∧ f_X3_hasBusker (nI n) a = some 1 := by
  unfold f_X3_hasBusker
  rcases pk_ix a (n := n) (by omega) with h | h | ⟨k, hk, rfl⟩
  · left; rw [if_pos h]
  · left
    have e1 := nI_toInt (n := n) (by omega)
    rw [Int32.le_iff_toInt_le, e1] at h
    have z0 : (0 : Int32).toInt = 0 := rfl
    have h0 : ¬ a < 0 := fun h9 => by
      rw [Int32.lt_iff_toInt_lt] at h9
      omega
    rw [if_neg h0, if_pos (by rw [Int32.le_iff_toInt_le, e1]; exact h)]
  · right
    refine ⟨k, hk, rfl, ?_⟩
    rw [if_neg (nI_pos (by omega)), if_neg (nI_ge hk (by omega)), if_neg (show ¬ (8 : Int32) ≤ nI k from nI_ge (b := 8) (by omega) (by decide))]
theorem has_T {n b : Nat} (hn : n ≤ 8) (hb : b < n) : f_X3_hasBusker (nI n) (nI b) = some 1 := by
  unfold f_X3_hasBusker
  rw [if_neg (nI_pos (by omega)), if_neg (nI_ge hb (by omega)), if_neg (show ¬ (8 : Int32) ≤ nI b from nI_ge (b := 8) (by omega) (by decide))]
theorem has_F {n b : Nat} (hn : n ≤ 8) (hb : b < 8) (h : n ≤ b) : f_X3_hasBusker (nI n) (nI b) = some 0 := by
  unfold f_X3_hasBusker
  rw [if_neg (nI_pos (by omega)), if_pos (nI_le h (by omega))]
theorem isP_T {k : Nat} (hk : k < 8) : f_X4_isPitch (nI k) = some 1 := by
  unfold f_X4_isPitch
  rw [if_neg (nI_pos (by omega)), if_neg (show ¬ (8 : Int32) ≤ nI k from nI_ge (b := 8) hk (by decide))]
theorem isP_m1 : f_X4_isPitch (-1) = some 0 := rfl
theorem isP_8 : f_X4_isPitch (nI 8) = some 0 := rfl
theorem sI_0 {f : Nat → Int32} {k : Nat} : ∀ {m : Nat}, k < m → sI (upd f k 0) m + f k = sI f m
  | 0, h => by omega
  | m + 1, h => by
    show sI _ m + upd f k 0 m + f k = sI f m + f m
    by_cases h1 : k = m
    · subst h1
      rw [upd_eq, sI_congr (g := f) (fun i hi => upd_ne f _ (by omega)), Int32.add_zero]
    · rw [upd_ne f _ (by omega), ← sI_0 (f := f) (m := m) (k := k) (by omega), Int32.add_assoc, Int32.add_comm (f m), ← Int32.add_assoc]
theorem ob_n {α β : Type} (a : α) (k : α → Option β) : ob (some a) k = k a := Eq.trans (ob_s a k) (Eq.refl _)
theorem og_n {β : Type} (k : Option β) : og true k = k := Eq.trans (og_t k) (Eq.refl _)
theorem os_ln {α β γ : Type} (x : α) (k1 : α → Option γ) (k2 : β → Option γ) : os (.inl x) k1 k2 = k1 x := Eq.trans rfl (Eq.refl _)
theorem os_rn {α β γ : Type} (x : β) (k1 : α → Option γ) (k2 : β → Option γ) : os (.inr x) k1 k2 = k2 x := Eq.trans rfl (Eq.refl _)
