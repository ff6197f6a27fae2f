/-! counts, ranks, strings, the quietest pitch -/
theorem mplaying' {n : Nat} {kin lou pit pla cas hrs nws r : Nat → Int32} {hat wea : Nat → UInt32} (hn : n ≤ 8) (hr : r 2 = nI n) (hB : qB n kin lou pit cas hrs nws hat wea r) (hF : qFl hat wea) : ∀ (m fuel i : Nat), i + m = n → m < fuel → f_X5_playing_c4 r fuel (nI (cn (fun b => decide (¬ pit b = -1)) i)) (nI i) = some (nI (cn (fun b => decide (¬ pit b = -1)) n)) := by
  intro m
  induction m with
  | zero =>
    intro fuel i hi hf
    obtain ⟨fuel, rfl⟩ : ∃ z, fuel = z + 1 := ⟨fuel - 1, by omega⟩
    obtain rfl : i = n := by omega
    unfold f_X5_playing_c4
    rw [ib2, og_t, tc2, hr, if_pos (nI_le (by omega) (by omega))]
  | succ m ih =>
    intro fuel i hi hf
    obtain ⟨fuel, rfl⟩ : ∃ z, fuel = z + 1 := ⟨fuel - 1, by omega⟩
    have key := ih fuel (i + 1) (by omega) (by omega)
    have e : cn (fun b => decide (¬ pit b = -1)) (i + 1) = cn (fun b => decide (¬ pit b = -1)) i + ((fun b => decide (¬ pit b = -1)) i).toNat := rfl
    rw [e] at key
    obtain ⟨a0, a1, a2, a3, a4, a5, a6, a7⟩ := hB i (by omega)
    unfold f_X5_playing_c4
    rw [ib2, og_t, tc2, hr, if_neg (nI_ge (by omega) (by omega)), of4 r (by omega), a4, ob_s]
    by_cases h : pit i = -1
    · rw [if_pos h, nI_1, Int32.add_zero]
      rw [show (fun b => decide (¬ pit b = -1)) i = false from decide_eq_false (fun q => q h)] at key
      exact key
    · rw [if_neg h, nI_1, nI_1]
      rw [show (fun b => decide (¬ pit b = -1)) i = true from decide_eq_true h] at key
      exact key
theorem mcases' {n : Nat} {kin lou pit pla cas hrs nws r : Nat → Int32} {hat wea : Nat → UInt32} (hn : n ≤ 8) (hr : r 2 = nI n) (hB : qB n kin lou pit cas hrs nws hat wea r) (hF : qFl hat wea) : ∀ (m fuel i : Nat), i + m = n → m < fuel → f_X5_cases_c4 r fuel (nI (cn (fun b => decide (¬ cas b = -1)) i)) (nI i) = some (nI (cn (fun b => decide (¬ cas b = -1)) n)) := by
  intro m
  induction m with
  | zero =>
    intro fuel i hi hf
    obtain ⟨fuel, rfl⟩ : ∃ z, fuel = z + 1 := ⟨fuel - 1, by omega⟩
    obtain rfl : i = n := by omega
    unfold f_X5_cases_c4
    rw [ib2, og_t, tc2, hr, if_pos (nI_le (by omega) (by omega))]
  | succ m ih =>
    intro fuel i hi hf
    obtain ⟨fuel, rfl⟩ : ∃ z, fuel = z + 1 := ⟨fuel - 1, by omega⟩
    have key := ih fuel (i + 1) (by omega) (by omega)
    have e : cn (fun b => decide (¬ cas b = -1)) (i + 1) = cn (fun b => decide (¬ cas b = -1)) i + ((fun b => decide (¬ cas b = -1)) i).toNat := rfl
    rw [e] at key
    obtain ⟨a0, a1, a2, a3, a4, a5, a6, a7⟩ := hB i (by omega)
    unfold f_X5_cases_c4
    rw [ib2, og_t, tc2, hr, if_neg (nI_ge (by omega) (by omega)), of5 r (by omega), a5, ob_s]
    by_cases h : cas i = -1
    · rw [if_pos h, nI_1, Int32.add_zero]
      rw [show (fun b => decide (¬ cas b = -1)) i = false from decide_eq_false (fun q => q h)] at key
      exact key
    · rw [if_neg h, nI_1, nI_1]
      rw [show (fun b => decide (¬ cas b = -1)) i = true from decide_eq_true h] at key
      exact key
theorem msnapped' {n : Nat} {kin lou pit pla cas hrs nws r : Nat → Int32} {hat wea : Nat → UInt32} (hn : n ≤ 8) (hr : r 2 = nI n) (hB : qB n kin lou pit cas hrs nws hat wea r) (hF : qFl hat wea) : ∀ (m fuel i : Nat), i + m = n → m < fuel → f_X5_snapped_c4 r fuel (nI (cn (fun b => decide (¬ Op.cmpValue (FP.fcmp (wea b) FP.fconst1) .l < 0)) i)) (nI i) = some (nI (cn (fun b => decide (¬ Op.cmpValue (FP.fcmp (wea b) FP.fconst1) .l < 0)) n)) := by
  intro m
  induction m with
  | zero =>
    intro fuel i hi hf
    obtain ⟨fuel, rfl⟩ : ∃ z, fuel = z + 1 := ⟨fuel - 1, by omega⟩
    obtain rfl : i = n := by omega
    unfold f_X5_snapped_c4
    rw [ib2, og_t, tc2, hr, if_pos (nI_le (by omega) (by omega))]
  | succ m ih =>
    intro fuel i hi hf
    obtain ⟨fuel, rfl⟩ : ∃ z, fuel = z + 1 := ⟨fuel - 1, by omega⟩
    have key := ih fuel (i + 1) (by omega) (by omega)
    have e : cn (fun b => decide (¬ Op.cmpValue (FP.fcmp (wea b) FP.fconst1) .l < 0)) (i + 1) = cn (fun b => decide (¬ Op.cmpValue (FP.fcmp (wea b) FP.fconst1) .l < 0)) i + ((fun b => decide (¬ Op.cmpValue (FP.fcmp (wea b) FP.fconst1) .l < 0)) i).toNat := rfl
    rw [e] at key
    obtain ⟨a0, a1, a2, a3, a4, a5, a6, a7⟩ := hB i (by omega)
    unfold f_X5_snapped_c4
    rw [ib2, og_t, tc2, hr, if_neg (nI_ge (by omega) (by omega)), show f_X5_isSnapped r (nI i) = ob (f_X5_floatOf r (nI i) 3) _ from rfl, fo3 r (by omega) a3 (by have := (hF i (by omega)).2; omega), ob_s]
    by_cases h : Op.cmpValue (FP.fcmp (wea i) FP.fconst1) .l < 0
    · rw [if_pos h, ob_s, if_pos rfl, nI_1, Int32.add_zero]
      rw [show (fun b => decide (¬ Op.cmpValue (FP.fcmp (wea b) FP.fconst1) .l < 0)) i = false from decide_eq_false (fun q => q h)] at key
      exact key
    · rw [if_neg h, ob_s, if_neg n10, nI_1, nI_1]
      rw [show (fun b => decide (¬ Op.cmpValue (FP.fcmp (wea b) FP.fconst1) .l < 0)) i = true from decide_eq_true h] at key
      exact key
theorem mplaying {n : Nat} {kin lou pit pla cas hrs nws r : Nat → Int32} {hat wea : Nat → UInt32} (hn : n ≤ 8) (hr : r 2 = nI n) (hB : qB n kin lou pit cas hrs nws hat wea r) (hF : qFl hat wea) (hE : qE n pit pla cas hrs nws hat wea) : f_X5_playing r = some (nI (cn (fun b => decide (¬ pit b = -1)) 8)) := by
  rw [cn_ext (n := n) hn (fun b h1 h2 => by rw [(hE b h1 h2).1]; rfl)]
  exact mplaying' (pla := pla) hn hr hB hF n 4096 0 (by omega) (by omega)
theorem mcases {n : Nat} {kin lou pit pla cas hrs nws r : Nat → Int32} {hat wea : Nat → UInt32} (hn : n ≤ 8) (hr : r 2 = nI n) (hB : qB n kin lou pit cas hrs nws hat wea r) (hF : qFl hat wea) (hE : qE n pit pla cas hrs nws hat wea) : f_X5_cases r = some (nI (cn (fun b => decide (¬ cas b = -1)) 8)) := by
  rw [cn_ext (n := n) hn (fun b h1 h2 => by rw [(hE b h1 h2).2.2.1]; rfl)]
  exact mcases' (pla := pla) hn hr hB hF n 4096 0 (by omega) (by omega)
theorem msnapped {n : Nat} {kin lou pit pla cas hrs nws r : Nat → Int32} {hat wea : Nat → UInt32} (hn : n ≤ 8) (hr : r 2 = nI n) (hB : qB n kin lou pit cas hrs nws hat wea r) (hF : qFl hat wea) (hE : qE n pit pla cas hrs nws hat wea) : f_X5_snapped r = some (nI (cn (fun b => decide (¬ Op.cmpValue (FP.fcmp (wea b) FP.fconst1) .l < 0)) 8)) := by
  rw [cn_ext (n := n) hn (fun b h1 h2 => by rw [(hE b h1 h2).2.2.2.2.2.2]; decide +kernel)]
  exact msnapped' (pla := pla) hn hr hB hF n 4096 0 (by omega) (by omega)
theorem xsnapped' (wea : Nat → UInt32) : ∀ (m fuel i : Nat), i + m = 8 → m < fuel → f_X3_countSnapped_c4 wea fuel (nI (cn (fun b => decide (¬ Op.cmpValue (FP.fcmp (wea b) FP.fconst1) .l < 0)) i)) (nI i) = some (nI (cn (fun b => decide (¬ Op.cmpValue (FP.fcmp (wea b) FP.fconst1) .l < 0)) 8)) := by
  intro m
  induction m with
  | zero =>
    intro fuel i hi hf
    obtain ⟨fuel, rfl⟩ : ∃ z, fuel = z + 1 := ⟨fuel - 1, by omega⟩
    obtain rfl : i = 8 := by omega
    unfold f_X3_countSnapped_c4
    rw [if_pos (show (8 : Int32) ≤ nI 8 by decide)]
  | succ m ih =>
    intro fuel i hi hf
    obtain ⟨fuel, rfl⟩ : ∃ z, fuel = z + 1 := ⟨fuel - 1, by omega⟩
    have key := ih fuel (i + 1) (by omega) (by omega)
    have e : cn (fun b => decide (¬ Op.cmpValue (FP.fcmp (wea b) FP.fconst1) .l < 0)) (i + 1) = cn (fun b => decide (¬ Op.cmpValue (FP.fcmp (wea b) FP.fconst1) .l < 0)) i + ((fun b => decide (¬ Op.cmpValue (FP.fcmp (wea b) FP.fconst1) .l < 0)) i).toNat := rfl
    rw [e] at key
    unfold f_X3_countSnapped_c4 f_X3_isSnapped
    rw [if_neg (show ¬ (8 : Int32) ≤ nI i from nI_ge (b := 8) (by omega) (by decide)), inbN (by omega) (by decide), og_t, clN (by omega)]
    by_cases h : Op.cmpValue (FP.fcmp (wea i) FP.fconst1) .l < 0
    · rw [if_pos h, ob_s, if_pos rfl, nI_1, Int32.add_zero]
      rw [show (fun b => decide (¬ Op.cmpValue (FP.fcmp (wea b) FP.fconst1) .l < 0)) i = false from decide_eq_false (fun q => q h)] at key
      exact key
    · rw [if_neg h, ob_s, if_neg n10, nI_1, nI_1]
      rw [show (fun b => decide (¬ Op.cmpValue (FP.fcmp (wea b) FP.fconst1) .l < 0)) i = true from decide_eq_true h] at key
      exact key
theorem xsnapped (wea : Nat → UInt32) : f_X3_countSnapped wea = some (nI (cn (fun b => decide (¬ Op.cmpValue (FP.fcmp (wea b) FP.fconst1) .l < 0)) 8)) := xsnapped' wea 8 4096 0 rfl (by decide)
theorem mcomplaints' {lim : Nat → UInt32} {cmp sof r : Nat → Int32} (hP : qP lim cmp sof r) : ∀ (m fuel i : Nat), i + m = 8 → m < fuel → f_X5_complaints_c4 r fuel (sI cmp i) (nI i) = some (sI cmp 8) := by
  intro m
  induction m with
  | zero =>
    intro fuel i hi hf
    obtain ⟨fuel, rfl⟩ : ∃ z, fuel = z + 1 := ⟨fuel - 1, by omega⟩
    obtain rfl : i = 8 := by omega
    unfold f_X5_complaints_c4
    rw [if_pos (show (8 : Int32) ≤ nI 8 by decide)]
  | succ m ih =>
    intro fuel i hi hf
    obtain ⟨fuel, rfl⟩ : ∃ z, fuel = z + 1 := ⟨fuel - 1, by omega⟩
    unfold f_X5_complaints_c4
    rw [if_neg (show ¬ (8 : Int32) ≤ nI i from nI_ge (b := 8) (by omega) (by decide)), ofP1 r (by omega), ob_s, (hP i (by omega)).2.1, nI_1]
    exact ih fuel (i + 1) (by omega) (by omega)
theorem mcomplaints {lim : Nat → UInt32} {cmp sof r : Nat → Int32} (hP : qP lim cmp sof r) : f_X5_complaints r = some (sI cmp 8) := mcomplaints' hP 8 4096 0 rfl (by decide)
/-- at home -/
def homP (n : Nat) (pit pla : Nat → Int32) (b : Nat) : Bool := decide (b < n) && (decide (pit b = -1) && decide (pla b = -1))
theorem xhome' {n : Nat} (hn : n ≤ 8) (pit pla : Nat → Int32) : ∀ (m fuel i : Nat), i + m = 8 → m < fuel → f_X3_countAtHome_c4 (nI n) pit pla fuel (nI (cn (homP n pit pla) i)) (nI i) = some (nI (cn (homP n pit pla) 8)) := by
  intro m
  induction m with
  | zero =>
    intro fuel i hi hf
    obtain ⟨fuel, rfl⟩ : ∃ z, fuel = z + 1 := ⟨fuel - 1, by omega⟩
    obtain rfl : i = 8 := by omega
    unfold f_X3_countAtHome_c4
    rw [if_pos (show (8 : Int32) ≤ nI 8 by decide)]
  | succ m ih =>
    intro fuel i hi hf
    obtain ⟨fuel, rfl⟩ : ∃ z, fuel = z + 1 := ⟨fuel - 1, by omega⟩
    have key := ih fuel (i + 1) (by omega) (by omega)
    have e : cn (homP n pit pla) (i + 1) = cn (homP n pit pla) i + (homP n pit pla i).toNat := rfl
    rw [e] at key
    unfold f_X3_countAtHome_c4
    rw [if_neg (show ¬ (8 : Int32) ≤ nI i from nI_ge (b := 8) (by omega) (by decide))]
    by_cases hin : i < n
    · rw [has_T hn hin, ob_s, if_neg n10, inbN (by omega) (by decide), og_t, og_t, clN (by omega), nI_1 i]
      by_cases h1 : pit i = -1
      · by_cases h2 : pla i = -1
        · rw [if_pos h1, if_pos h2, nI_1]
          rw [show homP n pit pla i = true by unfold homP; rw [decide_eq_true hin, decide_eq_true h1, decide_eq_true h2]; rfl] at key
          exact key
        · rw [if_pos h1, if_neg h2]
          rw [show homP n pit pla i = false by unfold homP; rw [decide_eq_true hin, decide_eq_true h1, decide_eq_false h2]; rfl] at key
          exact key
      · rw [if_neg h1]
        rw [show homP n pit pla i = false by unfold homP; rw [decide_eq_true hin, decide_eq_false h1]; rfl] at key
        exact key
    · rw [has_F hn (by omega) (by omega), ob_s, if_pos rfl, nI_1 i]
      rw [show homP n pit pla i = false by unfold homP; rw [decide_eq_false hin]; rfl] at key
      exact key
theorem xhome {n : Nat} (hn : n ≤ 8) (pit pla : Nat → Int32) : f_X3_countAtHome (nI n) pit pla = some (nI (cn (homP n pit pla) 8)) := xhome' hn pit pla 8 4096 0 rfl (by decide)
theorem home_sum {n : Nat} (hn : n ≤ 8) {pit pla cas hrs nws : Nat → Int32} {hat wea : Nat → UInt32} (hE : qE n pit pla cas hrs nws hat wea) (hD : qD pit pla) : cn (homP n pit pla) 8 + cn (fun b => decide (¬ pla b = -1)) 8 + cn (fun b => decide (¬ pit b = -1)) 8 = n := by
  have h := cn3 (a := homP n pit pla) (b := fun b => decide (¬ pla b = -1)) (c := fun b => decide (¬ pit b = -1)) (d := fun b => decide (b < n)) (m := 8) (fun i hi => by
    unfold homP
    by_cases hin : i < n
    · have hd := hD i hi
      by_cases h1 : pit i = -1 <;> by_cases h2 : pla i = -1 <;> simp [hin, h1, h2]
      exact absurd (hd h1) h2
    · obtain ⟨e1, e2, -⟩ := hE i (by omega) hi
      simp [hin, e1, e2])
  rw [h, cn_lt]
  omega
/-- ranks -/
def ahP (hat : Nat → UInt32) (b o : Nat) : Bool := decide (0 < Op.cmpValue (FP.fcmp (hat o) (hat b)) .l) || (decide (Op.cmpValue (FP.fcmp (hat o) (hat b)) .l = 0) && decide (o < b))
theorem xahead' {n : Nat} (hn : n ≤ 8) (hat : Nat → UInt32) {b : Nat} (hb : b < 8) : ∀ (m fuel i : Nat), i + m = 8 → m < fuel → f_X3_countAhead_c4 (nI n) hat (nI b) fuel (nI (cn (fun o => decide (o < n) && ahP hat b o) i)) (nI i) = some (nI (cn (fun o => decide (o < n) && ahP hat b o) 8)) := by
  intro m
  induction m with
  | zero =>
    intro fuel i hi hf
    obtain ⟨fuel, rfl⟩ : ∃ z, fuel = z + 1 := ⟨fuel - 1, by omega⟩
    obtain rfl : i = 8 := by omega
    unfold f_X3_countAhead_c4
    rw [if_pos (show (8 : Int32) ≤ nI 8 by decide)]
  | succ m ih =>
    intro fuel i hi hf
    obtain ⟨fuel, rfl⟩ : ∃ z, fuel = z + 1 := ⟨fuel - 1, by omega⟩
    have key := ih fuel (i + 1) (by omega) (by omega)
    have e : cn (fun o => decide (o < n) && ahP hat b o) (i + 1) = cn (fun o => decide (o < n) && ahP hat b o) i + (decide (i < n) && ahP hat b i).toNat := rfl
    rw [e] at key
    unfold f_X3_countAhead_c4 f_X3_countAhead_c31 f_X3_countAhead_c54
    rw [if_neg (show ¬ (8 : Int32) ≤ nI i from nI_ge (b := 8) (by omega) (by decide)), inbN (by omega) (by decide), inbN (by omega) (by decide), og_t, og_t, clN (by omega), clN (by omega)]
    by_cases hin : i < n
    · rw [has_T hn hin]
      simp only [og_t, ob_s, if_neg n10, nI_1]
      generalize hc : Op.cmpValue (FP.fcmp (hat i) (hat b)) .l = c at *
      have hA : ahP hat b i = (decide (0 < c) || (decide (c = 0) && decide (i < b))) := by unfold ahP; rw [hc]
      rw [decide_eq_true hin, hA] at key
      by_cases h1 : c ≤ 0
      · have h1' : ¬ 0 < c := Int32.not_lt.mpr h1
        by_cases h2 : c = 0
        · by_cases h3 : nI b ≤ nI i
          · have h3' : ¬ i < b := by have := (nI_leI (by omega) (by omega)).mp h3; omega
            rw [decide_eq_false h1', decide_eq_false h3'] at key
            simp only [if_pos h1, if_pos h2, if_pos h3, if_true, if_neg n10]
            simpa using key
          · have h3' : i < b := by
              refine Nat.lt_of_not_le fun q => h3 (nI_le q (by omega))
            rw [decide_eq_false h1', decide_eq_true h2, decide_eq_true h3'] at key
            simp only [if_pos h1, if_pos h2, if_neg h3, if_true, if_neg n10]
            simpa using key
        · rw [decide_eq_false h1', decide_eq_false h2] at key
          simp only [if_pos h1, if_neg h2, if_true]
          simpa using key
      · have h1' : 0 < c := Int32.not_le.mp h1
        rw [decide_eq_true h1'] at key
        simp only [if_neg h1, if_neg n10]
        by_cases h2 : c = 0
        · rw [if_pos h2]; simpa using key
        · rw [if_neg h2]; simpa using key
    · rw [has_F hn (by omega) (by omega)]
      simp only [og_t, ob_s, if_true, nI_1]
      rw [decide_eq_false hin] at key
      have key : f_X3_countAhead_c4 (nI n) hat (nI b) fuel (nI (cn (fun o => decide (o < n) && ahP hat b o) i)) (nI (i + 1)) = some (nI (cn (fun o => decide (o < n) && ahP hat b o) 8)) := by simpa using key
      split <;> split <;> exact key
theorem xahead {n : Nat} (hn : n ≤ 8) (hat : Nat → UInt32) {b : Nat} (hb : b < 8) : f_X3_countAhead (nI n) hat (nI b) = some (nI (cn (ahP hat b) n)) := by
  have h := xahead' hn hat hb 8 4096 0 rfl (by decide)
  have e : cn (fun o => decide (o < n) && ahP hat b o) 8 = cn (ahP hat b) n := by
    rw [cn_ext (n := n) hn (fun i h1 h2 => by rw [decide_eq_false (by omega)]; rfl)]
    exact cn_congr (fun i hi => by rw [decide_eq_true hi]; rfl)
  rw [e] at h
  exact h
section RANK
variable {n : Nat} {kin lou pit pla cas hrs nws r : Nat → Int32} {hat wea : Nat → UInt32}
theorem mahead (hn : n ≤ 8) (hB : qB n kin lou pit cas hrs nws hat wea r) (hF : qFl hat wea) {o b : Nat} (ho : o < n) (hb : b < n) : f_X5_isAhead r (nI o) (nI b) = some (if ahP hat b o then 1 else 0) := by
  obtain ⟨-, -, a2, -⟩ := hB o ho
  obtain ⟨-, -, b2, -⟩ := hB b hb
  unfold f_X5_isAhead ahP
  rw [fo2 r (by omega) a2 (by have := (hF o (by omega)).1; omega), ob_s, fo2 r (by omega) b2 (by have := (hF b (by omega)).1; omega), ob_s]
  generalize Op.cmpValue (FP.fcmp (hat o) (hat b)) .l = c
  by_cases h1 : 0 < c
  · rw [if_pos h1, decide_eq_true h1]; rfl
  · rw [if_neg h1, decide_eq_false h1]
    by_cases h2 : c = 0
    · rw [if_pos h2, decide_eq_true h2]
      by_cases h3 : o < b
      · rw [if_neg (nI_ge h3 (by omega)), decide_eq_true h3]; rfl
      · rw [if_pos (nI_le (by omega) (by omega)), decide_eq_false h3]; rfl
    · rw [if_neg h2, decide_eq_false h2]; rfl
theorem mrankIn (hn : n ≤ 8) (hr : r 2 = nI n) (hB : qB n kin lou pit cas hrs nws hat wea r) (hF : qFl hat wea) (rec : Int32 → Int32 → Option (Int32 × Int32)) (a thr : Int32) {b : Nat} (hb : b < n) : ∀ (m fuel i : Nat), i + m = n → m < fuel → f_X5_ranked_c17 rec r a fuel (nI b) (nI (cn (ahP hat b) i)) (nI i) thr = if nI (cn (ahP hat b) n) = a then some (nI b, 0) else rec (nI b + 1) thr := by
  intro m
  induction m with
  | zero =>
    intro fuel i hi hf
    obtain ⟨fuel, rfl⟩ : ∃ z, fuel = z + 1 := ⟨fuel - 1, by omega⟩
    obtain rfl : i = n := by omega
    unfold f_X5_ranked_c17
    rw [ib2, og_t, tc2, hr, if_pos (nI_le (by omega) (by omega))]
  | succ m ih =>
    intro fuel i hi hf
    obtain ⟨fuel, rfl⟩ : ∃ z, fuel = z + 1 := ⟨fuel - 1, by omega⟩
    have key := ih fuel (i + 1) (by omega) (by omega)
    have e : cn (ahP hat b) (i + 1) = cn (ahP hat b) i + (ahP hat b i).toNat := rfl
    rw [e] at key
    unfold f_X5_ranked_c17
    rw [ib2, og_t, tc2, hr, if_neg (nI_ge (by omega) (by omega)), mahead hn hB hF (by omega) hb, ob_s, nI_1]
    by_cases h : ahP hat b i = true
    · rw [if_pos h, if_neg n10, nI_1]
      rw [h] at key
      exact key
    · rw [if_neg h, if_pos rfl, Int32.add_zero]
      rw [Bool.eq_false_iff.mpr h] at key
      exact key
theorem ranked_eq' (hn : n ≤ 8) (hr : r 2 = nI n) (hB : qB n kin lou pit cas hrs nws hat wea r) (hF : qFl hat wea) {x : SV} (hx : g_buskers x = nI n) (hh : g_hat x = hat) (a thr : Int32) : ∀ (m fuel i : Nat), i + m = 8 → m < fuel → ∃ z, f_X4_ranked_c2 x a fuel (nI i) = some z ∧ ((z = .inl 4 ∧ (i ≤ n → f_X5_ranked_c2 r a fuel (nI i) thr = some (0, 1))) ∨ ∃ b, i ≤ b ∧ b < n ∧ z = .inr (nI b) ∧ f_X5_ranked_c2 r a fuel (nI i) thr = some (nI b, 0)) := by
  intro m
  induction m with
  | zero =>
    intro fuel i hi hf
    obtain ⟨fuel, rfl⟩ : ∃ z, fuel = z + 1 := ⟨fuel - 1, by omega⟩
    refine ⟨.inl 4, ?_, Or.inl ⟨rfl, fun h => ?_⟩⟩
    · unfold f_X4_ranked_c2
      rw [if_pos (show (8 : Int32) ≤ nI i from nI_le (a := 8) (by omega) (by omega))]
    · unfold f_X5_ranked_c2
      rw [ib2, og_t, tc2, hr, if_pos (nI_le (by omega) (by omega))]
  | succ m ih =>
    intro fuel i hi hf
    obtain ⟨fuel, rfl⟩ : ∃ z, fuel = z + 1 := ⟨fuel - 1, by omega⟩
    obtain ⟨z, z1, z2⟩ := ih fuel (i + 1) (by omega) (by omega)
    unfold f_X4_ranked_c2 f_X5_ranked_c2
    rw [if_neg (show ¬ (8 : Int32) ≤ nI i from nI_ge (b := 8) (by omega) (by decide)), hx, hh, ib2, og_t, tc2, hr]
    by_cases hin : i < n
    · rw [has_T hn hin, ob_s, if_neg n10, xahead hn hat (by omega), ob_s, if_neg (nI_ge (by omega) (by omega))]
      have key := mrankIn hn hr hB hF (f_X5_ranked_c2 r a fuel) a thr hin n 4096 0 (by omega) (by omega)
      have key : f_X5_ranked_c17 (f_X5_ranked_c2 r a fuel) r a 4096 (nI i) 0 0 thr = _ := key
      rw [key, nI_1]
      by_cases h : nI (cn (ahP hat i) n) = a
      · rw [if_pos h, if_pos h]
        exact ⟨_, rfl, Or.inr ⟨i, Nat.le_refl i, hin, rfl, rfl⟩⟩
      · rw [if_neg h, if_neg h, z1]
        refine ⟨z, rfl, ?_⟩
        rcases z2 with ⟨h1, h2⟩ | ⟨b, h1, h2, h3, h4⟩
        · exact Or.inl ⟨h1, fun _ => h2 (by omega)⟩
        · exact Or.inr ⟨b, by omega, h2, h3, h4⟩
    · rw [has_F hn (by omega) (by omega), ob_s, if_pos rfl, nI_1, z1]
      refine ⟨z, rfl, ?_⟩
      rcases z2 with ⟨h1, h2⟩ | ⟨b, h1, h2, h3, h4⟩
      · refine Or.inl ⟨h1, fun h => ?_⟩
        rw [if_pos (nI_le (by omega) (by omega))]
      · omega
/-- strings -/
def lvl (i : Nat) : Nat := ([0, 1023410176, 1031798784, 1035993088, 1040187392, 1042284544, 1044381696, 1046478848, 1048576000, 1049624576, 1050673152, 1051721728, 1052770304, 1053818880, 1054867456, 1055916032, 1056964608, 1057488896, 1058013184, 1058537472, 1059061760, 1059586048, 1060110336, 1060634624, 1061158912, 1061683200, 1062207488, 1062731776, 1063256064, 1063780352, 1064304640, 1064828928, 1065353216, 1065615360, 1065877504] : List Nat).getD i 0
theorem lvl_ok : ∀ i, i < 33 → U32 (lvl (i + 1)) ≤ U32 (lvl i) + U32 1023410176 ∧ lvl (i + 1) ≤ 1066000000 := by decide +kernel
theorem lvl_33 : 1065353216 ≤ lvl 33 := by decide +kernel
theorem woh_ok : ∀ l, l < 10 → n32 (FP.fmul 1028443341 (FP.i2f (nI l))) = true ∧ (l = 0 ∨ 1023410176 ≤ (FP.fmul 1028443341 (FP.i2f (nI l))).toNat) ∧ (FP.fmul 1028443341 (FP.i2f (nI l))).toNat ≤ 1056964608 := by decide +kernel
theorem snaps_eq' (hn : n ≤ 8) (hB : qB n kin lou pit cas hrs nws hat wea r) (hK : qK n kin lou) {b : Nat} (hb : b < n) (thr : Int32) : ∀ (m fuel i : Nat) (x : UInt32), i + m = 33 → m < fuel → lvl i ≤ x.toNat → x.toNat < 2139095040 → ∃ h, f_X3_hoursUntilSnapped_c9 lou wea (nI b) fuel (nI i) x = some h ∧ f_X5_snapsIn_c54 r (nI b) fuel (nI i) x thr = some (h, thr) := by
  have hone : (FP.fconst1 : UInt32).toNat = 1065353216 := rfl
  obtain ⟨-, l, hl1, hl2, hl⟩ := hK b hb
  obtain ⟨g1, g2, g3⟩ := woh_ok l (by omega)
  have g2 := g2.resolve_left (by omega)
  obtain ⟨-, a1, -⟩ := hB b hb
  intro m
  induction m with
  | zero =>
    intro fuel i x hi hf hx hxl
    obtain ⟨fuel, rfl⟩ : ∃ z, fuel = z + 1 := ⟨fuel - 1, by omega⟩
    obtain rfl : i = 33 := by omega
    have := lvl_33
    have hc := (fcmp_ge0 (x := x) (y := FP.fconst1) hxl (by rw [hone]; omega) .g).mpr (by rw [hone]; omega)
    refine ⟨nI 33, ?_, ?_⟩
    · unfold f_X3_hoursUntilSnapped_c9; rw [if_pos hc]
    · unfold f_X5_snapsIn_c54; rw [if_pos hc]
  | succ m ih =>
    intro fuel i x hi hf hx hxl
    obtain ⟨fuel, rfl⟩ : ∃ z, fuel = z + 1 := ⟨fuel - 1, by omega⟩
    by_cases hc : 0 ≤ Op.cmpValue (FP.fcmp x FP.fconst1) .g
    · refine ⟨nI i, ?_, ?_⟩
      · unfold f_X3_hoursUntilSnapped_c9; rw [if_pos hc]
      · unfold f_X5_snapsIn_c54; rw [if_pos hc]
    · have hlt : x.toNat < 1065353216 := by
        refine Nat.lt_of_not_le fun q => hc ((fcmp_ge0 hxl (by rw [hone]; omega) .g).mpr (by rw [hone]; exact q))
      obtain ⟨l1, l2⟩ := lvl_ok i (by omega)
      have hge : lvl (i + 1) ≤ (FP.fadd x (FP.fmul 1028443341 (FP.i2f (nI l)))).toNat := by
        refine fadd_ge hxl (by omega) (by omega) (Nat.le_trans l1 ?_)
        exact Nat.add_le_add (U32_le.mpr hx) (U32_le.mpr g2)
      have hle : (FP.fadd x (FP.fmul 1028443341 (FP.i2f (nI l)))).toNat ≤ 1073741824 := by
        refine fadd_le hxl (by omega) (Nat.le_trans (Nat.add_le_add (U32_le.mpr (Nat.le_of_lt hlt)) (U32_le.mpr g3)) ?_)
        decide +kernel
      obtain ⟨h, e1, e2⟩ := ih fuel (i + 1) _ (by omega) (by omega) hge (by omega)
      refine ⟨h, ?_, ?_⟩
      · unfold f_X3_hoursUntilSnapped_c9 f_X3_wearOfHour
        rw [if_neg hc, if_neg (show ¬ (1000 : Int32) ≤ nI i from nI_ge (b := 1000) (by omega) (by decide)), inbN (by omega) (by decide), og_t, clN (by omega), hl, g1, og_t, ob_s, n32_lt (by omega), og_t, nI_1]
        exact e1
      · unfold f_X5_snapsIn_c54
        rw [if_neg hc, of1 r (by omega), ob_s, a1, hl, g1, og_t, n32_lt (by omega), og_t, nI_1]
        exact e2
/-- the quietest pitch -/
theorem quiet_eq' {lim : Nat → UInt32} {cmp sof : Nat → Int32} (hn : n ≤ 8) (hB : qB n kin lou pit cas hrs nws hat wea r) (hK : qK n kin lou) (hW : qW n pit r) (hP : qP lim cmp sof r) (hL : qLm lim) {b : Nat} (hb : b < n) (thr : Int32) : ∀ (m fuel i : Nat) (best : Int32) (least : UInt32), i + m = 8 → m < fuel → ∃ x, f_X3_quietestFor_c7 lim kin lou pit (nI b) fuel best least (nI i) = some x ∧ f_X5_quietest_c30 r (nI b) fuel best least (nI i) thr = some (if x = -1 then (0, 2) else (x, 0)) := by
  obtain ⟨n1, n2, n3⟩ := nob_eq hn hB hK hb
  intro m
  induction m with
  | zero =>
    intro fuel i best least hi hf
    obtain ⟨fuel, rfl⟩ : ∃ z, fuel = z + 1 := ⟨fuel - 1, by omega⟩
    refine ⟨best, ?_, ?_⟩
    · unfold f_X3_quietestFor_c7
      rw [if_pos (show (8 : Int32) ≤ nI i from nI_le (a := 8) (by omega) (by omega))]
    · unfold f_X5_quietest_c30
      rw [if_pos (show (8 : Int32) ≤ nI i from nI_le (a := 8) (by omega) (by omega))]
      by_cases h : best = -1
      · rw [if_pos h, if_pos h, fails1, ob_s, if_neg n10]
      · rw [if_neg h, if_neg h, fails0, ob_s, if_pos rfl]
  | succ m ih =>
    intro fuel i best least hi hf
    obtain ⟨fuel, rfl⟩ : ∃ z, fuel = z + 1 := ⟨fuel - 1, by omega⟩
    obtain ⟨c1, c2, c3⟩ := around_eq hn hB hK hW (nI i) n3
    obtain ⟨p0, -, -⟩ := hP i (by omega)
    have hl := hL i (by omega)
    unfold f_X3_quietestFor_c7 f_X5_quietest_c30 f_X3_noiseOf
    rw [if_neg (show ¬ (8 : Int32) ≤ nI i from nI_ge (b := 8) (by omega) (by decide)), if_neg (show ¬ (8 : Int32) ≤ nI i from nI_ge (b := 8) (by omega) (by decide)), n1, n2, ob_s, ob_s, c1, c2, ob_s, ob_s, ob_s, player_eq hn hW (by omega), ofP3 r (by omega), ob_s, ob_s]
    simp only [f_X3_quietestFor_c50, f_X3_quietestFor_c51, f_X5_quietest_c77, f_X5_quietest_c78, f_X5_quietest_c97, f_X5_quietest_c101, f_X5_quietest_c102, f_X5_quietest_c115, if_true, if_neg n10, nI_1]
    by_cases hw : r (8 + 4 * i + 3) = -1
    · rw [if_pos hw, if_pos hw, inbN (by omega) (by decide), og_t, clN (by omega), limitOf_n r (by omega) p0 (by omega), ob_s]
      by_cases h1 : 0 < Op.cmpValue (FP.fcmp (arF kin lou pit (nI i) (nobF kin lou b)) (lim i)) .g
      · rw [if_pos h1, if_pos h1]; exact ih fuel (i + 1) _ _ (by omega) (by omega)
      · rw [if_neg h1, if_neg h1]
        by_cases h2 : best = -1
        · rw [if_pos h2, if_pos h2]; exact ih fuel (i + 1) _ _ (by omega) (by omega)
        · rw [if_neg h2, if_neg h2]
          by_cases h3 : 0 ≤ Op.cmpValue (FP.fcmp (arF kin lou pit (nI i) (nobF kin lou b)) least) .g
          · rw [if_pos h3, if_pos h3]; exact ih fuel (i + 1) _ _ (by omega) (by omega)
          · rw [if_neg h3, if_neg h3]; exact ih fuel (i + 1) _ _ (by omega) (by omega)
    · rw [if_neg hw, if_neg hw]
      exact ih fuel (i + 1) _ _ (by omega) (by omega)
end RANK
