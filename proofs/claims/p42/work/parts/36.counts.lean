/-! counts, ranks, strings, the quietest pitch -/
theorem woh_ok : ∀ l, l < 10 → n32 (FP.fmul 1028443341 (FP.i2f (nI l))) = true ∧ (l = 0 ∨ 1023410176 ≤ (FP.fmul 1028443341 (FP.i2f (nI l))).toNat) ∧ (FP.fmul 1028443341 (FP.i2f (nI l))).toNat ≤ 1056964608 := by decide +kernel
theorem fc1 : (FP.fconst1 : UInt32).toNat = 1065353216 := by decide
theorem fc0 : (FP.fconst0 : UInt32).toNat = 0 := by decide
theorem fc2 : (FP.fconst2 : UInt32).toNat = 1073741824 := by decide
theorem xsnapped' (wea : Nat → UInt32) : ∀ (m fuel i : Nat), i + m = 8 → m < fuel → f_X3_countSnapped_c4 wea fuel (nI (cn (fun b => decide (¬ Op.cmpValue (FP.fcmp (wea b) FP.fconst1) .l < 0)) i)) (nI i) = some (nI (cn (fun b => decide (¬ Op.cmpValue (FP.fcmp (wea b) FP.fconst1) .l < 0)) 8)) := by
  intro m
  induction m with
  | zero =>
    intro fuel i hi hf
    obtain ⟨fuel, rfl⟩ : ∃ z, fuel = z + 1 := ⟨fuel - 1, by omega⟩
    obtain rfl : i = 8 := by omega
    unfold f_X3_countSnapped_c4
    rw [if_pos (show (8 : Int32) ≤ nI 8 by decide)]
  | succ m ih =>
    intro fuel i hi hf
    obtain ⟨fuel, rfl⟩ : ∃ z, fuel = z + 1 := ⟨fuel - 1, by omega⟩
    have key := ih fuel (i + 1) (by omega) (by omega)
    have e : cn (fun b => decide (¬ Op.cmpValue (FP.fcmp (wea b) FP.fconst1) .l < 0)) (i + 1) = cn (fun b => decide (¬ Op.cmpValue (FP.fcmp (wea b) FP.fconst1) .l < 0)) i + ((fun b => decide (¬ Op.cmpValue (FP.fcmp (wea b) FP.fconst1) .l < 0)) i).toNat := rfl
    rw [e] at key
    unfold f_X3_countSnapped_c4 f_X3_isSnapped
    rw [if_neg (show ¬ (8 : Int32) ≤ nI i from nI_ge (b := 8) (by omega) (by decide)), inbN (by omega) (by decide), og_t, clN (by omega)]
    by_cases h : Op.cmpValue (FP.fcmp (wea i) FP.fconst1) .l < 0
    · rw [if_pos h, ob_s, if_pos rfl, nI_1, Int32.add_zero]
      rw [show (fun b => decide (¬ Op.cmpValue (FP.fcmp (wea b) FP.fconst1) .l < 0)) i = false from decide_eq_false (fun q => q h)] at key
      exact key
    · rw [if_neg h, ob_s, if_neg n10, nI_1, nI_1]
      rw [show (fun b => decide (¬ Op.cmpValue (FP.fcmp (wea b) FP.fconst1) .l < 0)) i = true from decide_eq_true h] at key
      exact key
theorem xsnapped (wea : Nat → UInt32) : f_X3_countSnapped wea = some (nI (cn (fun b => decide (¬ Op.cmpValue (FP.fcmp (wea b) FP.fconst1) .l < 0)) 8)) := xsnapped' wea 8 4096 0 rfl (by decide)
/-- at home -/
def homP (n : Nat) (pit pla : Nat → Int32) (b : Nat) : Bool := decide (b < n) && (decide (pit b = -1) && decide (pla b = -1))
theorem xhome' {n : Nat} (hn : n ≤ 8) (pit pla : Nat → Int32) : ∀ (m fuel i : Nat), i + m = 8 → m < fuel → f_X3_countAtHome_c4 (nI n) pit pla fuel (nI (cn (homP n pit pla) i)) (nI i) = some (nI (cn (homP n pit pla) 8)) := by
  intro m
  induction m with
  | zero =>
    intro fuel i hi hf
    obtain ⟨fuel, rfl⟩ : ∃ z, fuel = z + 1 := ⟨fuel - 1, by omega⟩
    obtain rfl : i = 8 := by omega
    unfold f_X3_countAtHome_c4
    rw [if_pos (show (8 : Int32) ≤ nI 8 by decide)]
  | succ m ih =>
    intro fuel i hi hf
    obtain ⟨fuel, rfl⟩ : ∃ z, fuel = z + 1 := ⟨fuel - 1, by omega⟩
    have key := ih fuel (i + 1) (by omega) (by omega)
    have e : cn (homP n pit pla) (i + 1) = cn (homP n pit pla) i + (homP n pit pla i).toNat := rfl
    rw [e] at key
    unfold f_X3_countAtHome_c4
    rw [if_neg (show ¬ (8 : Int32) ≤ nI i from nI_ge (b := 8) (by omega) (by decide))]
    by_cases hin : i < n
    · rw [has_T hn hin, ob_s, if_neg n10, inbN (by omega) (by decide), og_t, og_t, clN (by omega), nI_1 i]
      by_cases h1 : pit i = -1
      · by_cases h2 : pla i = -1
        · rw [if_pos h1, if_pos h2, nI_1]
          rw [show homP n pit pla i = true by unfold homP; rw [decide_eq_true hin, decide_eq_true h1, decide_eq_true h2]; rfl] at key
          exact key
        · rw [if_pos h1, if_neg h2]
          rw [show homP n pit pla i = false by unfold homP; rw [decide_eq_true hin, decide_eq_true h1, decide_eq_false h2]; rfl] at key
          exact key
      · rw [if_neg h1]
        rw [show homP n pit pla i = false by unfold homP; rw [decide_eq_true hin, decide_eq_false h1]; rfl] at key
        exact key
    · rw [has_F hn (by omega) (by omega), ob_s, if_pos rfl, nI_1 i]
      rw [show homP n pit pla i = false by unfold homP; rw [decide_eq_false hin]; rfl] at key
      exact key
theorem xhome {n : Nat} (hn : n ≤ 8) (pit pla : Nat → Int32) : f_X3_countAtHome (nI n) pit pla = some (nI (cn (homP n pit pla) 8)) := xhome' hn pit pla 8 4096 0 rfl (by decide)
theorem home_sum {n : Nat} (hn : n ≤ 8) {pit pla cas hrs nws : Nat → Int32} {hat wea : Nat → UInt32} (hE : qE n pit pla cas hrs nws hat wea) (hD : qD pit pla) : cn (homP n pit pla) 8 + cn (fun b => decide (¬ pla b = -1)) 8 + cn (fun b => decide (¬ pit b = -1)) 8 = n := by
  have h := cn3 (a := homP n pit pla) (b := fun b => decide (¬ pla b = -1)) (c := fun b => decide (¬ pit b = -1)) (d := fun b => decide (b < n)) (m := 8) (fun i hi => by
    unfold homP
    by_cases hin : i < n
    · have hd := hD i hi
      by_cases h1 : pit i = -1 <;> by_cases h2 : pla i = -1 <;> simp [hin, h1, h2]
      exact absurd (hd h1) h2
    · obtain ⟨e1, e2, -⟩ := hE i (by omega) hi
      simp [hin, e1, e2])
  rw [h, cn_lt]
  omega
/-- ranks -/
def ahP (hat : Nat → UInt32) (b o : Nat) : Bool := decide (0 < Op.cmpValue (FP.fcmp (hat o) (hat b)) .l) || (decide (Op.cmpValue (FP.fcmp (hat o) (hat b)) .l = 0) && decide (o < b))
theorem xahead' {n : Nat} (hn : n ≤ 8) (hat : Nat → UInt32) {b : Nat} (hb : b < 8) : ∀ (m fuel i : Nat), i + m = 8 → m < fuel → f_X3_countAhead_c4 (nI n) hat (nI b) fuel (nI (cn (fun o => decide (o < n) && ahP hat b o) i)) (nI i) = some (nI (cn (fun o => decide (o < n) && ahP hat b o) 8)) := by
  intro m
  induction m with
  | zero =>
    intro fuel i hi hf
    obtain ⟨fuel, rfl⟩ : ∃ z, fuel = z + 1 := ⟨fuel - 1, by omega⟩
    obtain rfl : i = 8 := by omega
    unfold f_X3_countAhead_c4
    rw [if_pos (show (8 : Int32) ≤ nI 8 by decide)]
  | succ m ih =>
    intro fuel i hi hf
    obtain ⟨fuel, rfl⟩ : ∃ z, fuel = z + 1 := ⟨fuel - 1, by omega⟩
    have key := ih fuel (i + 1) (by omega) (by omega)
    have e : cn (fun o => decide (o < n) && ahP hat b o) (i + 1) = cn (fun o => decide (o < n) && ahP hat b o) i + (decide (i < n) && ahP hat b i).toNat := rfl
    rw [e] at key
    unfold f_X3_countAhead_c4 f_X3_countAhead_c31 f_X3_countAhead_c54
    rw [if_neg (show ¬ (8 : Int32) ≤ nI i from nI_ge (b := 8) (by omega) (by decide)), inbN (by omega) (by decide), inbN (by omega) (by decide), og_t, og_t, clN (by omega), clN (by omega)]
    by_cases hin : i < n
    · rw [has_T hn hin]
      simp only [og_t, ob_s, if_neg n10, nI_1]
      generalize hc : Op.cmpValue (FP.fcmp (hat i) (hat b)) .l = c at *
      have hA : ahP hat b i = (decide (0 < c) || (decide (c = 0) && decide (i < b))) := by unfold ahP; rw [hc]
      rw [decide_eq_true hin, hA] at key
      by_cases h1 : c ≤ 0
      · have h1' : ¬ 0 < c := Int32.not_lt.mpr h1
        by_cases h2 : c = 0
        · by_cases h3 : nI b ≤ nI i
          · have h3' : ¬ i < b := by have := (nI_leI (by omega) (by omega)).mp h3; omega
            rw [decide_eq_false h1', decide_eq_false h3'] at key
            simp only [if_pos h1, if_pos h2, if_pos h3, if_true, if_neg n10]
            simpa using key
          · have h3' : i < b := by
              refine Nat.lt_of_not_le fun q => h3 (nI_le q (by omega))
            rw [decide_eq_false h1', decide_eq_true h2, decide_eq_true h3'] at key
            simp only [if_pos h1, if_pos h2, if_neg h3, if_true, if_neg n10]
            simpa using key
        · rw [decide_eq_false h1', decide_eq_false h2] at key
          simp only [if_pos h1, if_neg h2, if_true]
          simpa using key
      · have h1' : 0 < c := Int32.not_le.mp h1
        rw [decide_eq_true h1'] at key
        simp only [if_neg h1, if_neg n10]
        by_cases h2 : c = 0
        · rw [if_pos h2]; simpa using key
        · rw [if_neg h2]; simpa using key
    · rw [has_F hn (by omega) (by omega)]
      simp only [og_t, ob_s, if_true, nI_1]
      rw [decide_eq_false hin] at key
      have key : f_X3_countAhead_c4 (nI n) hat (nI b) fuel (nI (cn (fun o => decide (o < n) && ahP hat b o) i)) (nI (i + 1)) = some (nI (cn (fun o => decide (o < n) && ahP hat b o) 8)) := by simpa using key
      split <;> split <;> exact key
theorem xahead {n : Nat} (hn : n ≤ 8) (hat : Nat → UInt32) {b : Nat} (hb : b < 8) : f_X3_countAhead (nI n) hat (nI b) = some (nI (cn (ahP hat b) n)) := by
  have h := xahead' hn hat hb 8 4096 0 rfl (by decide)
  have e : cn (fun o => decide (o < n) && ahP hat b o) 8 = cn (ahP hat b) n := by
    rw [cn_ext (n := n) hn (fun i h1 h2 => by rw [decide_eq_false (by omega)]; rfl)]
    exact cn_congr (fun i hi => by rw [decide_eq_true hi]; rfl)
  rw [e] at h
  exact h
/-- ranks: a strict order of all buskers -/
theorem ah_iff {hat wea : Nat → UInt32} (hF : qFl hat wea) {o b : Nat} (ho : o < 8) (hb : b < 8) : ahP hat b o = true ↔ ((hat b).toNat < (hat o).toNat ∨ ((hat o).toNat = (hat b).toNat ∧ o < b)) := by
  have h1 := (hF o ho).1
  have h2 := (hF b hb).1
  unfold ahP
  rw [Bool.or_eq_true, Bool.and_eq_true, decide_eq_true_eq, decide_eq_true_eq, decide_eq_true_eq]
  rcases fcmp_cases (x := hat o) (y := hat b) (by omega) (by omega) .l with ⟨q1, q2⟩ | ⟨q1, q2⟩ | ⟨q1, q2⟩
  · rw [q2]
    constructor
    · rintro (h | ⟨h, -⟩)
      · exact absurd h (by decide)
      · exact absurd h (by decide)
    · omega
  · rw [q2]
    constructor
    · rintro (h | ⟨-, h⟩)
      · exact absurd h (by decide)
      · exact Or.inr ⟨q1, h⟩
    · intro h
      exact Or.inr ⟨rfl, by omega⟩
  · rw [q2]
    exact ⟨fun _ => Or.inl q1, fun _ => Or.inl (by decide)⟩
theorem cn_mono {p q : Nat → Bool} : ∀ m, (∀ i, i < m → p i = true → q i = true) → cn p m ≤ cn q m
  | 0, _ => Nat.le_refl 0
  | m + 1, h => by
    have h1 := cn_mono (p := p) (q := q) m (fun i hi => h i (by omega))
    have h2 := h m (by omega)
    show cn p m + (p m).toNat ≤ cn q m + (q m).toNat
    cases hp : p m with
    | false => show cn p m + 0 ≤ _; omega
    | true => rw [h2 hp]; show cn p m + 1 ≤ cn q m + 1; omega
theorem cn_strict {p q : Nat → Bool} {k : Nat} : ∀ m, k < m → (∀ i, i < m → p i = true → q i = true) → p k = false → q k = true → cn p m < cn q m
  | 0, hk, _, _, _ => by omega
  | m + 1, hk, h, h1, h2 => by
    show cn p m + (p m).toNat < cn q m + (q m).toNat
    by_cases e : k = m
    · subst e
      have := cn_mono (p := p) (q := q) k (fun i hi => h i (by omega))
      rw [h1, h2]
      show cn p k + 0 < cn q k + 1
      omega
    · have h3 := cn_strict (p := p) (q := q) (k := k) m (by omega) (fun i hi => h i (by omega)) h1 h2
      have h4 := h m (by omega)
      cases hp : p m with
      | false => show cn p m + 0 < _; omega
      | true => rw [h4 hp]; show cn p m + 1 < cn q m + 1; omega
/-- as many as are ahead: told apart, and each place has one -/
theorem inj_surj : ∀ (n : Nat) (f : Nat → Nat), (∀ i, i < n → f i < n) → (∀ i j, i < n → j < n → f i = f j → i = j) → ∀ p, p < n → ∃ i, i < n ∧ f i = p
  | 0, _, _, _, p, hp => by omega
  | n + 1, f, h1, h2, p, hp => by
    have g1 : ∀ i, i < n → (if f i = n then f n else f i) < n := by
      intro i hi
      have a := h1 i (by omega)
      have b := h1 n (by omega)
      split
      · rename_i e
        have : f n ≠ n := fun e2 => by have := h2 i n (by omega) (by omega) (by omega); omega
        omega
      · omega
    have g2 : ∀ i j, i < n → j < n → (if f i = n then f n else f i) = (if f j = n then f n else f j) → i = j := by
      intro i j hi hj e
      split at e <;> split at e
      · exact h2 i j (by omega) (by omega) (by omega)
      · have := h2 n j (by omega) (by omega) e; omega
      · have := h2 i n (by omega) (by omega) e; omega
      · exact h2 i j (by omega) (by omega) e
    have ih := inj_surj n (fun i => if f i = n then f n else f i) g1 g2
    by_cases hpn : p = n
    · by_cases hm : f n = n
      · exact ⟨n, by omega, by omega⟩
      · have := h1 n (by omega)
        obtain ⟨i, hi, e⟩ := ih (f n) (by omega)
        try dsimp only at e
        split at e
        · rename_i q; exact ⟨i, by omega, by omega⟩
        · have := h2 i n (by omega) (by omega) e; omega
    · obtain ⟨i, hi, e⟩ := ih p (by omega)
      try dsimp only at e
      split at e
      · exact ⟨n, by omega, e⟩
      · exact ⟨i, by omega, e⟩
theorem ah_cnt {hat wea : Nat → UInt32} (hF : qFl hat wea) {n : Nat} (hn : n ≤ 8) {o b : Nat} (ho : o < n) (hb : b < n) (h : ahP hat b o = true) : cn (ahP hat o) n < cn (ahP hat b) n := by
  have h0 := (ah_iff hF (o := o) (b := b) (by omega) (by omega)).mp h
  refine cn_strict (k := o) n ho (fun i hi q => ?_) ?_ h
  · have q1 := (ah_iff hF (o := i) (b := o) (by omega) (by omega)).mp q
    exact (ah_iff hF (o := i) (b := b) (by omega) (by omega)).mpr (by omega)
  · cases q : ahP hat o o with
    | false => rfl
    | true =>
      have := (ah_iff hF (o := o) (b := o) (by omega) (by omega)).mp q
      omega
theorem ah_tot {hat wea : Nat → UInt32} (hF : qFl hat wea) {o b : Nat} (ho : o < 8) (hb : b < 8) (h : o ≠ b) : ahP hat b o = true ∨ ahP hat o b = true := by
  rcases Nat.lt_trichotomy (hat o).toNat (hat b).toNat with q | q | q
  · exact Or.inr ((ah_iff hF hb ho).mpr (Or.inl q))
  · rcases Nat.lt_or_ge o b with q2 | q2
    · exact Or.inl ((ah_iff hF ho hb).mpr (Or.inr ⟨q, q2⟩))
    · exact Or.inr ((ah_iff hF hb ho).mpr (Or.inr ⟨q.symm, by omega⟩))
  · exact Or.inl ((ah_iff hF ho hb).mpr (Or.inl q))
theorem cnt_lt {hat wea : Nat → UInt32} (hF : qFl hat wea) {n : Nat} (hn : n ≤ 8) {b : Nat} (hb : b < n) : cn (ahP hat b) n < n := by
  have h := cn_strict (p := ahP hat b) (q := fun _ => true) (k := b) n hb (fun _ _ _ => rfl) (by
    cases q : ahP hat b b with
    | false => rfl
    | true =>
      have := (ah_iff hF (o := b) (b := b) (by omega) (by omega)).mp q
      omega) rfl
  have h2 := cn_le (fun _ => true) n
  omega
theorem cnt_inj {hat wea : Nat → UInt32} (hF : qFl hat wea) {n : Nat} (hn : n ≤ 8) {i j : Nat} (hi : i < n) (hj : j < n) (e : cn (ahP hat i) n = cn (ahP hat j) n) : i = j := by
  by_cases h : i = j
  · exact h
  · rcases ah_tot hF (o := i) (b := j) (by omega) (by omega) h with q | q
    · have := ah_cnt hF hn hi hj q; omega
    · have := ah_cnt hF hn hj hi q; omega
theorem rank_ex {hat wea : Nat → UInt32} (hF : qFl hat wea) {n : Nat} (hn : n ≤ 8) {p : Nat} (hp : p < n) : ∃ b, b < n ∧ cn (ahP hat b) n = p := inj_surj n (fun b => cn (ahP hat b) n) (fun b hb => cnt_lt hF hn hb) (fun i j hi hj e => cnt_inj hF hn hi hj e) p hp
theorem rank_next {hat wea : Nat → UInt32} (hF : qFl hat wea) {n : Nat} (hn : n ≤ 8) {a b : Nat} (ha : a < n) (hb : b < n) (e : cn (ahP hat a) n < cn (ahP hat b) n) : ahP hat b a = true := by
  have hne : a ≠ b := fun h => by rw [h] at e; omega
  rcases ah_tot hF (o := a) (b := b) (by omega) (by omega) hne with q | q
  · exact q
  · have := ah_cnt hF hn hb ha q; omega
/-- hours until strings snap: none if they are snapped -/
theorem snaps_eq' {n : Nat} {kin lou : Nat → Int32} {wea : Nat → UInt32} (hn : n ≤ 8) (hK : qK n kin lou) {b : Nat} (hb : b < n) : ∀ (m fuel i : Nat) (x : UInt32), i + m = 1000 → m < fuel → x.toNat ≤ 1317011456 → ∃ h, i ≤ h ∧ h ≤ 1000 ∧ f_X3_hoursUntilSnapped_c9 lou wea (nI b) fuel (nI i) x = some (nI h) ∧ (i < 1000 → (h = i ↔ 1065353216 ≤ x.toNat)) := by
  obtain ⟨-, l, hl1, hl2, hl⟩ := hK b hb
  obtain ⟨g1, -, g3⟩ := woh_ok l (by omega)
  intro m
  induction m with
  | zero =>
    intro fuel i x hi hf hx
    obtain ⟨fuel, rfl⟩ : ∃ z, fuel = z + 1 := ⟨fuel - 1, by omega⟩
    obtain rfl : i = 1000 := by omega
    refine ⟨1000, by omega, by omega, ?_, fun q => by omega⟩
    unfold f_X3_hoursUntilSnapped_c9
    by_cases h : 0 ≤ Op.cmpValue (FP.fcmp x FP.fconst1) .g
    · rw [if_pos h]
    · rw [if_neg h, if_pos (show (1000 : Int32) ≤ nI 1000 by decide)]
  | succ m ih =>
    intro fuel i x hi hf hx
    obtain ⟨fuel, rfl⟩ : ∃ z, fuel = z + 1 := ⟨fuel - 1, by omega⟩
    have hge := fcmp_ge0 (x := x) (y := FP.fconst1) (by omega) (by decide) .g
    rw [fc1] at hge
    unfold f_X3_hoursUntilSnapped_c9
    by_cases h : 0 ≤ Op.cmpValue (FP.fcmp x FP.fconst1) .g
    · rw [if_pos h]
      exact ⟨i, by omega, by omega, rfl, fun _ => ⟨fun _ => hge.mp h, fun _ => rfl⟩⟩
    · have hs := fadd_sat (h := x) (t := FP.fmul 1028443341 (FP.i2f (nI l))) hx (by omega)
      obtain ⟨z, z1, z2, z3, -⟩ := ih fuel (i + 1) (FP.fadd x (FP.fmul 1028443341 (FP.i2f (nI l)))) (by omega) (by omega) hs
      refine ⟨z, by omega, z2, ?_, fun _ => ⟨fun e => by omega, fun q => absurd (hge.mpr q) h⟩⟩
      rw [if_neg h, if_neg (show ¬ (1000 : Int32) ≤ nI i from nI_ge (b := 1000) (by omega) (by decide))]
      unfold f_X3_wearOfHour
      rw [inbN (by omega) (by decide), og_t, clN (by omega), hl, g1, og_t, ob_s, n32_lt (v := FP.fadd x (FP.fmul 1028443341 (FP.i2f (nI l)))) (by omega), og_t, nI_1]
      exact z3
