/-! texts: what both sides read -/
theorem d0_1 : ((0 : Int32) = 1) = False := by decide
def digC (c : Int32) : Prop := 48 ≤ c ∧ c ≤ 57
theorem digC_dec (c : Int32) : digC c ∨ ¬ digC c := Classical.em _
theorem sa_d {c : Int32} (h : digC c) (st : Int32) : f_X2_stageAfter st c = f_X2_stageAfter_c17 st c 1 := by
  unfold f_X2_stageAfter
  rw [if_neg (Int32.not_lt.mpr h.1), if_neg (Int32.not_lt.mpr h.2)]
theorem sa_n {c : Int32} (h : ¬ digC c) (st : Int32) : f_X2_stageAfter st c = f_X2_stageAfter_c17 st c 0 := by
  unfold f_X2_stageAfter
  by_cases h1 : c < 48
  · rw [if_pos h1]; rfl
  · rw [if_neg h1]
    by_cases h2 : 57 < c
    · rw [if_pos h2]; rfl
    · exact absurd ⟨Int32.not_lt.mp h1, Int32.not_lt.mp h2⟩ h
theorem sx1_1 (c : Int32) : f_X2_stageAfter_c17 1 c 1 = some 6 := by simp only [f_X2_stageAfter_c17, d1_0, d2_0, d2_1, d3_0, d3_1, d3_2, d4_0, d4_1, d4_2, d4_3, d5_0, d5_1, d5_2, d5_3, d5_4, d6_0, d6_1, d6_2, d6_3, d6_4, d6_5, d7_0, d7_1, d7_2, d7_3, d7_4, d7_5, d7_6, ob_s, if_true, if_false, eq_self, i10, i01]
theorem sx1_0 (c : Int32) : f_X2_stageAfter_c17 1 c 0 = some 7 := by simp only [f_X2_stageAfter_c17, d1_0, d2_0, d2_1, d3_0, d3_1, d3_2, d4_0, d4_1, d4_2, d4_3, d5_0, d5_1, d5_2, d5_3, d5_4, d6_0, d6_1, d6_2, d6_3, d6_4, d6_5, d7_0, d7_1, d7_2, d7_3, d7_4, d7_5, d7_6, ob_s, if_true, if_false, eq_self, i10, i01]
theorem sx2_1 (c : Int32) : f_X2_stageAfter_c17 2 c 1 = some 3 := by simp only [f_X2_stageAfter_c17, d1_0, d2_0, d2_1, d3_0, d3_1, d3_2, d4_0, d4_1, d4_2, d4_3, d5_0, d5_1, d5_2, d5_3, d5_4, d6_0, d6_1, d6_2, d6_3, d6_4, d6_5, d7_0, d7_1, d7_2, d7_3, d7_4, d7_5, d7_6, ob_s, if_true, if_false, eq_self, i10, i01]
theorem sx2_0 (c : Int32) : f_X2_stageAfter_c17 2 c 0 = some 7 := by simp only [f_X2_stageAfter_c17, d1_0, d2_0, d2_1, d3_0, d3_1, d3_2, d4_0, d4_1, d4_2, d4_3, d5_0, d5_1, d5_2, d5_3, d5_4, d6_0, d6_1, d6_2, d6_3, d6_4, d6_5, d7_0, d7_1, d7_2, d7_3, d7_4, d7_5, d7_6, ob_s, if_true, if_false, eq_self, i10, i01]
theorem sx4_1 (c : Int32) : f_X2_stageAfter_c17 4 c 1 = some 5 := by simp only [f_X2_stageAfter_c17, d1_0, d2_0, d2_1, d3_0, d3_1, d3_2, d4_0, d4_1, d4_2, d4_3, d5_0, d5_1, d5_2, d5_3, d5_4, d6_0, d6_1, d6_2, d6_3, d6_4, d6_5, d7_0, d7_1, d7_2, d7_3, d7_4, d7_5, d7_6, ob_s, if_true, if_false, eq_self, i10, i01]
theorem sx4_0 (c : Int32) : f_X2_stageAfter_c17 4 c 0 = some 7 := by simp only [f_X2_stageAfter_c17, d1_0, d2_0, d2_1, d3_0, d3_1, d3_2, d4_0, d4_1, d4_2, d4_3, d5_0, d5_1, d5_2, d5_3, d5_4, d6_0, d6_1, d6_2, d6_3, d6_4, d6_5, d7_0, d7_1, d7_2, d7_3, d7_4, d7_5, d7_6, ob_s, if_true, if_false, eq_self, i10, i01]
theorem sx5_1 (c : Int32) : f_X2_stageAfter_c17 5 c 1 = some 6 := by simp only [f_X2_stageAfter_c17, d1_0, d2_0, d2_1, d3_0, d3_1, d3_2, d4_0, d4_1, d4_2, d4_3, d5_0, d5_1, d5_2, d5_3, d5_4, d6_0, d6_1, d6_2, d6_3, d6_4, d6_5, d7_0, d7_1, d7_2, d7_3, d7_4, d7_5, d7_6, ob_s, if_true, if_false, eq_self, i10, i01]
theorem sx3 (c t : Int32) : f_X2_stageAfter_c17 3 c t = if c = 35 then some 4 else some 7 := by simp only [f_X2_stageAfter_c17, d1_0, d2_0, d2_1, d3_0, d3_1, d3_2, d4_0, d4_1, d4_2, d4_3, d5_0, d5_1, d5_2, d5_3, d5_4, d6_0, d6_1, d6_2, d6_3, d6_4, d6_5, d7_0, d7_1, d7_2, d7_3, d7_4, d7_5, d7_6, ob_s, if_true, if_false, eq_self]
theorem sx5_0 (c : Int32) : f_X2_stageAfter_c17 5 c 0 = if c = 59 then some 0 else some 7 := by
  simp only [f_X2_stageAfter_c17, f_X2_stageAfterEnd, d1_0, d2_0, d2_1, d3_0, d3_1, d3_2, d4_0, d4_1, d4_2, d4_3, d5_0, d5_1, d5_2, d5_3, d5_4, d6_0, d6_1, d6_2, d6_3, d6_4, d6_5, d7_0, d7_1, d7_2, d7_3, d7_4, d7_5, d7_6, ob_s, if_true, if_false, eq_self]
  split <;> rfl
theorem sx6 (c t : Int32) : f_X2_stageAfter_c17 6 c t = if c = 59 then some 0 else some 7 := by
  simp only [f_X2_stageAfter_c17, f_X2_stageAfterEnd, d1_0, d2_0, d2_1, d3_0, d3_1, d3_2, d4_0, d4_1, d4_2, d4_3, d5_0, d5_1, d5_2, d5_3, d5_4, d6_0, d6_1, d6_2, d6_3, d6_4, d6_5, d7_0, d7_1, d7_2, d7_3, d7_4, d7_5, d7_6, ob_s, if_true, if_false, eq_self]
  split <;> rfl
theorem sx0 (c t : Int32) : f_X2_stageAfter_c17 0 c t = f_X2_stageAfterLetter c := by
  unfold f_X2_stageAfter_c17
  rw [if_pos rfl]
  unfold f_X2_stageAfterLetter
  repeat' split
  all_goals rfl
theorem sa0 (c : Int32) : f_X2_stageAfter 0 c = f_X2_stageAfterLetter c := by
  rcases digC_dec c with h | h
  · rw [sa_d h, sx0]
  · rw [sa_n h, sx0]
section TEXT
variable {L : Nat} {sig inp : Nat → Int32}
theorem signAt_n (hL : L ≤ 60) (hs : ∀ i, i < L → sig i = inp i ∧ isC (sig i) = true) {i : Nat} (hi : i < L) : f_X2_signAt (nI L) sig (nI i) = some (inp i) := by
  obtain ⟨h1, h2⟩ := hs i hi
  unfold f_X2_signAt
  rw [if_neg (nI_pos (by omega)), if_neg (nI_ge hi (by omega)), if_neg (show ¬ (60 : Int32) ≤ nI i from nI_ge (b := 60) (by omega) (by decide)), inbN (by omega) (by decide), og_t, clN (by omega), h2, og_t, h1]
/-- what is found from a stage at a place -/
def FE (L : Nat) (sig : Nat → Int32) (st : Int32) (i : Nat) (v : Int32) : Prop := ∀ fuel, L - i < fuel → f_X2_findError_c4 (nI L) sig fuel st (nI i) = some v
theorem FE_end (hL : L ≤ 60) {st v : Int32} (h : v = if st = 5 then -1 else if st = 6 then -1 else nI L) : FE L sig st L v := by
  intro fuel hf
  obtain ⟨fuel, rfl⟩ : ∃ z, fuel = z + 1 := ⟨fuel - 1, by omega⟩
  unfold f_X2_findError_c4
  rw [if_pos (nI_le (Nat.le_refl L) (by omega)), h]
  split
  · rfl
  · split <;> rfl
theorem FE_stuck (hL : L ≤ 60) (hs : ∀ i, i < L → sig i = inp i ∧ isC (sig i) = true) {st : Int32} {i : Nat} (hi : i < L) (h : f_X2_stageAfter st (inp i) = some 7) : FE L sig st i (nI i) := by
  intro fuel hf
  obtain ⟨fuel, rfl⟩ : ∃ z, fuel = z + 1 := ⟨fuel - 1, by omega⟩
  unfold f_X2_findError_c4
  rw [if_neg (nI_ge hi (by omega)), signAt_n hL hs hi, ob_s, h, ob_s, if_pos rfl]
theorem FE_step (hL : L ≤ 60) (hs : ∀ i, i < L → sig i = inp i ∧ isC (sig i) = true) {st st' v : Int32} {i : Nat} (hi : i < L) (h : f_X2_stageAfter st (inp i) = some st') (h7 : ¬ st' = 7) (hn : FE L sig st' (i + 1) v) : FE L sig st i v := by
  intro fuel hf
  obtain ⟨fuel, rfl⟩ : ∃ z, fuel = z + 1 := ⟨fuel - 1, by omega⟩
  unfold f_X2_findError_c4
  rw [if_neg (nI_ge hi (by omega)), signAt_n hL hs hi, ob_s, h, ob_s, if_neg h7, nI_1]
  exact hn fuel (by omega)
/-- what comes behind an order -/
def EndV (L : Nat) (sig inp : Nat → Int32) (j : Nat) (v : Int32) : Prop := (j = L ∧ v = -1) ∨ (j < L ∧ inp j = 59 ∧ FE L sig 0 (j + 1) v) ∨ (j < L ∧ ¬ inp j = 59 ∧ v = nI j)
theorem FE_6 (hL : L ≤ 60) (hs : ∀ i, i < L → sig i = inp i ∧ isC (sig i) = true) {j : Nat} {v : Int32} (h : EndV L sig inp j v) : FE L sig 6 j v := by
  rcases h with ⟨rfl, rfl⟩ | ⟨h1, h2, h3⟩ | ⟨h1, h2, rfl⟩
  · exact FE_end hL (by rw [if_neg (by decide), if_pos rfl])
  · refine FE_step hL hs h1 ?_ (by decide) h3
    rcases digC_dec (inp j) with h | h
    · rw [sa_d h, sx6, if_pos h2]
    · rw [sa_n h, sx6, if_pos h2]
  · refine FE_stuck hL hs h1 ?_
    rcases digC_dec (inp j) with h | h
    · rw [sa_d h, sx6, if_neg h2]
    · rw [sa_n h, sx6, if_neg h2]
theorem FE_5 (hL : L ≤ 60) (hs : ∀ i, i < L → sig i = inp i ∧ isC (sig i) = true) {j : Nat} {v : Int32} (hd : j < L → ¬ digC (inp j)) (h : EndV L sig inp j v) : FE L sig 5 j v := by
  rcases h with ⟨rfl, rfl⟩ | ⟨h1, h2, h3⟩ | ⟨h1, h2, rfl⟩
  · exact FE_end hL (by rw [if_pos rfl])
  · exact FE_step hL hs h1 (by rw [sa_n (hd h1), sx5_0, if_pos h2]) (by decide) h3
  · exact FE_stuck hL hs h1 (by rw [sa_n (hd h1), sx5_0, if_neg h2])
/-- the reference's reading -/
theorem sees_T (hL : L ≤ 60) {i : Nat} (hi : i < L) {lo hi' : Int32} (h : lo ≤ inp i ∧ inp i ≤ hi') : f_X5_sees (nI L) (nI i) 0 inp lo hi' = some 1 := by
  unfold f_X5_sees
  rw [if_pos rfl, if_neg (nI_ge hi (by omega)), inbN (by omega) (by decide), og_t, clN (by omega), between, if_pos h, ob_s, if_neg n10]
theorem sees_F (hL : L ≤ 60) {i : Nat} (hiL : i ≤ L) {lo hi' : Int32} (h : i < L → ¬ (lo ≤ inp i ∧ inp i ≤ hi')) : f_X5_sees (nI L) (nI i) 0 inp lo hi' = some 0 := by
  unfold f_X5_sees
  rw [if_pos rfl]
  by_cases hi : i < L
  · rw [if_neg (nI_ge hi (by omega)), inbN (by omega) (by decide), og_t, clN (by omega), between, if_neg (h hi), ob_s, if_pos rfl]
  · rw [if_pos (nI_le (by omega) (by omega))]
theorem sees_1 {at_ lo hi' len : Int32} : f_X5_sees len at_ 1 inp lo hi' = some 0 := by
  unfold f_X5_sees
  rw [if_neg n10]
theorem or00 : ((0 : Int32) ||| 0) = 0 := by decide
theorem or01 : ((0 : Int32) ||| 1) = 1 := by decide
theorem or10 : ((1 : Int32) ||| 0) = 1 := by decide
theorem or11 : ((1 : Int32) ||| 1) = 1 := by decide
theorem must_T (hL : L ≤ 60) {i : Nat} (hi : i < L) {c : Int32} (h : inp i = c) : f_X5_must (nI L) (nI i) 0 inp c = some (nI (i + 1), 0) := by
  unfold f_X5_must f_X5_must_c19
  rw [sees_T hL hi ⟨by rw [h]; exact Int32.le_refl c, by rw [h]; exact Int32.le_refl c⟩, ob_s, if_neg n10, or00, isZ0, og_t, if_pos rfl, nI_1]
theorem must_F (hL : L ≤ 60) {i : Nat} (hiL : i ≤ L) {c : Int32} (h : i < L → ¬ inp i = c) : f_X5_must (nI L) (nI i) 0 inp c = some (nI i, 1) := by
  unfold f_X5_must f_X5_must_c19
  rw [sees_F hL hiL (fun hi q => h hi (Int32.le_antisymm q.2 q.1)), ob_s, if_pos rfl, or01, isZ1, og_t, if_neg n10, Int32.add_zero]
theorem must_1 {at_ len c : Int32} : f_X5_must len at_ 1 inp c = some (at_, 1) := by
  unfold f_X5_must f_X5_must_c19
  rw [sees_1, ob_s, if_pos rfl, or11, isZ1, og_t, if_neg n10, Int32.add_zero]
theorem num_1 {at_ len a : Int32} (ha : a = 1 ∨ a = 2) : f_X5_readNumber len at_ 1 inp a = some (0, at_, 1) := by
  unfold f_X5_readNumber
  rw [sees_1, ob_s, if_pos rfl, or11, isZ1, og_t, show (4096 : Nat) = 4095 + 1 from rfl]
  unfold f_X5_readNumber_c29
  rw [if_neg (by rcases ha with rfl | rfl <;> decide), sees_1, ob_s, if_pos rfl]
theorem num_F (hL : L ≤ 60) {i : Nat} (hiL : i ≤ L) {a : Int32} (ha : a = 1 ∨ a = 2) (h : i < L → ¬ digC (inp i)) : f_X5_readNumber (nI L) (nI i) 0 inp a = some (0, nI i, 1) := by
  unfold f_X5_readNumber
  rw [sees_F hL hiL h, ob_s, if_pos rfl, or01, isZ1, og_t, show (4096 : Nat) = 4095 + 1 from rfl]
  unfold f_X5_readNumber_c29
  rw [if_neg (by rcases ha with rfl | rfl <;> decide), sees_1, ob_s, if_pos rfl]
theorem num_T1 (hL : L ≤ 60) {i : Nat} (hi : i < L) (h : digC (inp i)) : f_X5_readNumber (nI L) (nI i) 0 inp 1 = some (10 * 0 + inp i - 48, nI (i + 1), 0) := by
  unfold f_X5_readNumber
  rw [sees_T hL hi h, ob_s, if_neg n10, or00, isZ0, og_t, show (4096 : Nat) = 4094 + 1 + 1 from rfl]
  unfold f_X5_readNumber_c29
  rw [if_neg (by decide), sees_T hL hi h, ob_s, if_neg n10, inbN (by omega) (by decide), og_t, clN (by omega)]
  unfold f_X5_readNumber_c29
  rw [if_pos (by decide), nI_1]
theorem num_T2 (hL : L ≤ 60) {i : Nat} (hi : i < L) (h : digC (inp i)) (h2 : i + 1 < L → ¬ digC (inp (i + 1))) : f_X5_readNumber (nI L) (nI i) 0 inp 2 = some (10 * 0 + inp i - 48, nI (i + 1), 0) := by
  unfold f_X5_readNumber
  rw [sees_T hL hi h, ob_s, if_neg n10, or00, isZ0, og_t, show (4096 : Nat) = 4094 + 1 + 1 from rfl]
  unfold f_X5_readNumber_c29
  rw [if_neg (by decide), sees_T hL hi h, ob_s, if_neg n10, inbN (by omega) (by decide), og_t, clN (by omega)]
  unfold f_X5_readNumber_c29
  rw [if_neg (by decide), nI_1, sees_F hL (by omega) h2, ob_s, if_pos rfl]
theorem num_T3 (hL : L ≤ 60) {i : Nat} (hi : i + 1 < L) (h : digC (inp i)) (h2 : digC (inp (i + 1))) : f_X5_readNumber (nI L) (nI i) 0 inp 2 = some (10 * (10 * 0 + inp i - 48) + inp (i + 1) - 48, nI (i + 2), 0) := by
  unfold f_X5_readNumber
  rw [sees_T hL (by omega) h, ob_s, if_neg n10, or00, isZ0, og_t, show (4096 : Nat) = 4093 + 1 + 1 + 1 from rfl]
  unfold f_X5_readNumber_c29
  rw [if_neg (by decide), sees_T hL (by omega) h, ob_s, if_neg n10, inbN (by omega) (by decide), og_t, clN (by omega)]
  unfold f_X5_readNumber_c29
  rw [if_neg (by decide), nI_1, sees_T hL hi h2, ob_s, if_neg n10, inbN (by omega) (by decide), og_t, clN (by omega)]
  unfold f_X5_readNumber_c29
  rw [if_pos (by decide), nI_1]
/-- an order from i to j -/
def Ord (L : Nat) (inp : Nat → Int32) (i j : Nat) (cmd t1 t2 : Int32) : Prop := j ≤ L ∧ inp i = cmd ∧
  (((cmd = 119 ∨ cmd = 120 ∨ cmd = 115 ∨ cmd = 97) ∧ j = i + 2 ∧ digC (inp (i + 1)) ∧ t1 = 10 * 0 + inp (i + 1) - 48) ∨
   ((cmd = 99 ∨ cmd = 112) ∧ digC (inp (i + 1)) ∧ ((j = i + 2 ∧ t1 = 10 * 0 + inp (i + 1) - 48) ∨ (j = i + 3 ∧ digC (inp (i + 2)) ∧ t1 = 10 * (10 * 0 + inp (i + 1) - 48) + inp (i + 2) - 48))) ∨
   (cmd = 100 ∧ digC (inp (i + 1)) ∧ t1 = 10 * 0 + inp (i + 1) - 48 ∧ inp (i + 2) = 35 ∧ digC (inp (i + 3)) ∧ ((j = i + 4 ∧ t2 = 10 * 0 + inp (i + 3) - 48) ∨ (j = i + 5 ∧ digC (inp (i + 4)) ∧ t2 = 10 * (10 * 0 + inp (i + 3) - 48) + inp (i + 4) - 48))))
theorem kind_cases (c : Int32) : (f_X5_isKind c = some 0 ∧ f_X2_stageAfterLetter c = some 7) ∨ (f_X5_isKind c = some 1 ∧ f_X2_stageAfterLetter c = some 1 ∧ (c = 119 ∨ c = 120 ∨ c = 115 ∨ c = 97)) ∨ (f_X5_isKind c = some 1 ∧ f_X2_stageAfterLetter c = some 4 ∧ (c = 99 ∨ c = 112)) ∨ (f_X5_isKind c = some 1 ∧ f_X2_stageAfterLetter c = some 2 ∧ c = 100) := by
  by_cases h1 : c = 97
  · subst h1; exact Or.inr (Or.inl ⟨rfl, rfl, by decide⟩)
  · by_cases h2 : c = 99
    · subst h2; exact Or.inr (Or.inr (Or.inl ⟨rfl, rfl, by decide⟩))
    · by_cases h3 : c = 100
      · subst h3; exact Or.inr (Or.inr (Or.inr ⟨rfl, rfl, rfl⟩))
      · by_cases h4 : c = 112
        · subst h4; exact Or.inr (Or.inr (Or.inl ⟨rfl, rfl, by decide⟩))
        · by_cases h5 : c = 115
          · subst h5; exact Or.inr (Or.inl ⟨rfl, rfl, by decide⟩)
          · by_cases h6 : c = 119
            · subst h6; exact Or.inr (Or.inl ⟨rfl, rfl, by decide⟩)
            · by_cases h7 : c = 120
              · subst h7; exact Or.inr (Or.inl ⟨rfl, rfl, by decide⟩)
              · left
                unfold f_X5_isKind f_X2_stageAfterLetter
                rw [if_neg h1, if_neg h2, if_neg h3, if_neg h4, if_neg h5, if_neg h6, if_neg h7, if_neg h1, if_neg h2, if_neg h3, if_neg h4, if_neg h5, if_neg h6, if_neg h7]
                exact ⟨rfl, rfl⟩
theorem read_wrong {at_ len cmd to1 to2 : Int32} (h : inb at_ 60 = true ∨ len ≤ at_) : f_X5_readOrder len at_ 1 cmd to1 to2 inp = some (at_, 1, cmd, to1, to2) := by
  have e1 : f_X5_readOrder_c31 len inp 1 at_ 1 cmd to1 to2 = some (at_, 1, cmd, to1, to2) := by
    unfold f_X5_readOrder_c31 f_X5_readOrder_c36
    rw [or11, isZ1, og_t, if_neg n10]
  have e2 : f_X5_readOrder_c36 len inp 0 1 at_ 1 cmd to1 to2 = some (at_, 1, cmd, to1, to2) := by
    unfold f_X5_readOrder_c36
    rw [or10, isZ1, og_t, if_neg n10]
  unfold f_X5_readOrder
  by_cases h1 : len ≤ at_
  · rw [if_pos h1]; exact e1
  · rw [if_neg h1, h.resolve_right h1, og_t]
    rcases kind_cases (inp at_.toNatClampNeg) with ⟨k, -⟩ | ⟨k, -⟩ | ⟨k, -⟩ | ⟨k, -⟩
    · rw [k, ob_s, if_pos rfl]; exact e1
    · rw [k, ob_s, if_neg n10]; exact e2
    · rw [k, ob_s, if_neg n10]; exact e2
    · rw [k, ob_s, if_neg n10]; exact e2
theorem order_eq (hL : L ≤ 60) (hs : ∀ i, i < L → sig i = inp i ∧ isC (sig i) = true) {i : Nat} (hi : i ≤ L) (cmd0 to10 to20 : Int32) :
    (∃ e cmd to1 to2, e ≤ L ∧ f_X5_readOrder (nI L) (nI i) 0 cmd0 to10 to20 inp = some (nI e, 1, cmd, to1, to2) ∧ FE L sig 0 i (nI e)) ∨
    (∃ j cmd to1 to2, i < j ∧ Ord L inp i j cmd to1 to2 ∧ (∀ c0 a0 b0, ∃ t2, f_X5_readOrder (nI L) (nI i) 0 c0 a0 b0 inp = some (nI j, 0, cmd, to1, t2) ∧ (cmd = 100 → t2 = to2)) ∧ ∀ v, EndV L sig inp j v → FE L sig 0 i v) := by
  have wrong : ∀ c a b, f_X5_readOrder_c31 (nI L) inp 0 (nI i) 0 c a b = some (nI i, 1, c, a, b) := by
    intro c a b
    unfold f_X5_readOrder_c31 f_X5_readOrder_c36
    rw [or01, isZ1, og_t, if_neg n10]
  by_cases hiL : i < L
  · have hisC := (hs i hiL).2
    rw [(hs i hiL).1] at hisC
    -- the letter taken
    have take : ∀ k0 c a b, f_X5_isKind (inp i) = some 1 → (k0 = (if inp i = 99 then (2 : Int32) else if inp i = 112 then 2 else 1)) → f_X5_readOrder (nI L) (nI i) 0 c a b inp = f_X5_readOrder_c96 (nI L) inp k0 (nI (i + 1)) 0 (inp i) a b := by
      intro k0 c a b hk hk0
      unfold f_X5_readOrder
      rw [if_neg (nI_ge hiL (by omega)), inbN (by omega) (by decide), og_t, clN (by omega), hk, ob_s, if_neg n10]
      unfold f_X5_readOrder_c36
      rw [or00, isZ0, og_t, if_pos rfl, inbN (by omega) (by decide), og_t, clN (by omega), hisC, og_t, nI_1]
      by_cases h1 : inp i = 99
      · rw [if_pos h1, hk0, if_pos h1]; rfl
      · rw [if_neg h1]
        by_cases h2 : inp i = 112
        · rw [if_pos h2, hk0, if_neg h1, if_pos h2]; rfl
        · rw [if_neg h2, hk0, if_neg h1, if_neg h2]
    rcases kind_cases (inp i) with ⟨k, st⟩ | ⟨k, st, hc⟩ | ⟨k, st, hc⟩ | ⟨k, st, hc⟩
    · left
      refine ⟨i, cmd0, to10, to20, hi, ?_, FE_stuck hL hs hiL (by rw [sa0]; exact st)⟩
      unfold f_X5_readOrder
      rw [if_neg (nI_ge hiL (by omega)), inbN (by omega) (by decide), og_t, clN (by omega), k, ob_s, if_pos rfl]
      exact wrong _ _ _
    · -- one digit
      have n99 : ¬ inp i = 99 := by rcases hc with h | h | h | h <;> rw [h] <;> decide
      have n112 : ¬ inp i = 112 := by rcases hc with h | h | h | h <;> rw [h] <;> decide
      have n100 : ¬ inp i = 100 := by rcases hc with h | h | h | h <;> rw [h] <;> decide
      have tk := fun c a b => take 1 c a b k (by rw [if_neg n99, if_neg n112])
      by_cases hd : i + 1 < L ∧ digC (inp (i + 1))
      · right
        refine ⟨i + 2, inp i, 10 * 0 + inp (i + 1) - 48, to20, by omega, ⟨by omega, rfl, Or.inl ⟨hc, rfl, hd.2, rfl⟩⟩, fun c a b => ⟨b, ?_, fun e => absurd e n100⟩, fun v hv => ?_⟩
        · rw [tk]
          unfold f_X5_readOrder_c96
          rw [num_T1 hL hd.1 hd.2, ob_s, if_neg n100]
        · exact FE_step hL hs hiL (by rw [sa0]; exact st) (by decide) (FE_step hL hs hd.1 (by rw [sa_d hd.2, sx1_1]) (by decide) (FE_6 hL hs hv))
      · left
        refine ⟨i + 1, inp i, 0, to20, by omega, ?_, FE_step hL hs hiL (by rw [sa0]; exact st) (by decide) ?_⟩
        · rw [tk]
          unfold f_X5_readOrder_c96
          rw [num_F hL (by omega) (Or.inl rfl) (fun h q => hd ⟨h, q⟩), ob_s, if_neg n100]
        · by_cases h : i + 1 < L
          · exact FE_stuck hL hs h (by rw [sa_n (fun q => hd ⟨h, q⟩), sx1_0])
          · obtain rfl : L = i + 1 := by omega
            exact FE_end hL rfl
    · -- one digit or two
      have n100 : ¬ inp i = 100 := by rcases hc with h | h <;> rw [h] <;> decide
      have tk := fun c a b => take 2 c a b k (by rcases hc with h | h <;> rw [h] <;> decide)
      by_cases hd : i + 1 < L ∧ digC (inp (i + 1))
      · right
        by_cases hd2 : i + 2 < L ∧ digC (inp (i + 2))
        · refine ⟨i + 3, inp i, 10 * (10 * 0 + inp (i + 1) - 48) + inp (i + 2) - 48, to20, by omega, ⟨by omega, rfl, Or.inr (Or.inl ⟨hc, hd.2, Or.inr ⟨rfl, hd2.2, rfl⟩⟩)⟩, fun c a b => ⟨b, ?_, fun e => absurd e n100⟩, fun v hv => ?_⟩
          · rw [tk]
            unfold f_X5_readOrder_c96
            rw [num_T3 hL hd2.1 hd.2 hd2.2, ob_s, if_neg n100]
          · exact FE_step hL hs hiL (by rw [sa0]; exact st) (by decide) (FE_step hL hs hd.1 (by rw [sa_d hd.2, sx4_1]) (by decide) (FE_step hL hs hd2.1 (by rw [sa_d hd2.2, sx5_1]) (by decide) (FE_6 hL hs hv)))
        · refine ⟨i + 2, inp i, 10 * 0 + inp (i + 1) - 48, to20, by omega, ⟨by omega, rfl, Or.inr (Or.inl ⟨hc, hd.2, Or.inl ⟨rfl, rfl⟩⟩)⟩, fun c a b => ⟨b, ?_, fun e => absurd e n100⟩, fun v hv => ?_⟩
          · rw [tk]
            unfold f_X5_readOrder_c96
            rw [num_T2 hL hd.1 hd.2 (fun h q => hd2 ⟨h, q⟩), ob_s, if_neg n100]
          · exact FE_step hL hs hiL (by rw [sa0]; exact st) (by decide) (FE_step hL hs hd.1 (by rw [sa_d hd.2, sx4_1]) (by decide) (FE_5 hL hs (fun h q => hd2 ⟨h, q⟩) hv))
      · left
        refine ⟨i + 1, inp i, 0, to20, by omega, ?_, FE_step hL hs hiL (by rw [sa0]; exact st) (by decide) ?_⟩
        · rw [tk]
          unfold f_X5_readOrder_c96
          rw [num_F hL (by omega) (Or.inr rfl) (fun h q => hd ⟨h, q⟩), ob_s, if_neg n100]
        · by_cases h : i + 1 < L
          · exact FE_stuck hL hs h (by rw [sa_n (fun q => hd ⟨h, q⟩), sx4_0])
          · obtain rfl : L = i + 1 := by omega
            exact FE_end hL rfl
    · -- a pitch and a number
      have tk := fun c a b => take 1 c a b k (by rw [hc]; decide)
      by_cases hd : i + 1 < L ∧ digC (inp (i + 1))
      · by_cases hh : i + 2 < L ∧ inp (i + 2) = 35
        · by_cases hd2 : i + 3 < L ∧ digC (inp (i + 3))
          · right
            by_cases hd3 : i + 4 < L ∧ digC (inp (i + 4))
            · refine ⟨i + 5, inp i, 10 * 0 + inp (i + 1) - 48, 10 * (10 * 0 + inp (i + 3) - 48) + inp (i + 4) - 48, by omega, ⟨by omega, rfl, Or.inr (Or.inr ⟨hc, hd.2, rfl, hh.2, hd2.2, Or.inr ⟨rfl, hd3.2, rfl⟩⟩)⟩, fun c a b => ⟨_, ?_, fun _ => rfl⟩, fun v hv => ?_⟩
              · rw [tk]
                unfold f_X5_readOrder_c96
                rw [num_T1 hL hd.1 hd.2, ob_s, if_pos hc, must_T hL hh.1 hh.2, ob_s, num_T3 hL hd3.1 hd2.2 hd3.2, ob_s]
              · exact FE_step hL hs hiL (by rw [sa0]; exact st) (by decide) (FE_step hL hs hd.1 (by rw [sa_d hd.2, sx2_1]) (by decide) (FE_step hL hs hh.1 (by rw [sa_n (by rw [hh.2]; unfold digC; decide), sx3, if_pos hh.2]) (by decide) (FE_step hL hs hd2.1 (by rw [sa_d hd2.2, sx4_1]) (by decide) (FE_step hL hs hd3.1 (by rw [sa_d hd3.2, sx5_1]) (by decide) (FE_6 hL hs hv)))))
            · refine ⟨i + 4, inp i, 10 * 0 + inp (i + 1) - 48, 10 * 0 + inp (i + 3) - 48, by omega, ⟨by omega, rfl, Or.inr (Or.inr ⟨hc, hd.2, rfl, hh.2, hd2.2, Or.inl ⟨rfl, rfl⟩⟩)⟩, fun c a b => ⟨_, ?_, fun _ => rfl⟩, fun v hv => ?_⟩
              · rw [tk]
                unfold f_X5_readOrder_c96
                rw [num_T1 hL hd.1 hd.2, ob_s, if_pos hc, must_T hL hh.1 hh.2, ob_s, num_T2 hL hd2.1 hd2.2 (fun h q => hd3 ⟨h, q⟩), ob_s]
              · exact FE_step hL hs hiL (by rw [sa0]; exact st) (by decide) (FE_step hL hs hd.1 (by rw [sa_d hd.2, sx2_1]) (by decide) (FE_step hL hs hh.1 (by rw [sa_n (by rw [hh.2]; unfold digC; decide), sx3, if_pos hh.2]) (by decide) (FE_step hL hs hd2.1 (by rw [sa_d hd2.2, sx4_1]) (by decide) (FE_5 hL hs (fun h q => hd3 ⟨h, q⟩) hv))))
          · left
            refine ⟨i + 3, inp i, 10 * 0 + inp (i + 1) - 48, 0, by omega, ?_, FE_step hL hs hiL (by rw [sa0]; exact st) (by decide) (FE_step hL hs hd.1 (by rw [sa_d hd.2, sx2_1]) (by decide) (FE_step hL hs hh.1 (by rw [sa_n (by rw [hh.2]; unfold digC; decide), sx3, if_pos hh.2]) (by decide) ?_))⟩
            · rw [tk]
              unfold f_X5_readOrder_c96
              rw [num_T1 hL hd.1 hd.2, ob_s, if_pos hc, must_T hL hh.1 hh.2, ob_s, num_F hL (by omega) (Or.inr rfl) (fun h q => hd2 ⟨h, q⟩), ob_s]
            · by_cases h : i + 3 < L
              · exact FE_stuck hL hs h (by rw [sa_n (fun q => hd2 ⟨h, q⟩), sx4_0])
              · obtain rfl : L = i + 3 := by omega
                exact FE_end hL rfl
        · left
          refine ⟨i + 2, inp i, 10 * 0 + inp (i + 1) - 48, 0, by omega, ?_, FE_step hL hs hiL (by rw [sa0]; exact st) (by decide) (FE_step hL hs hd.1 (by rw [sa_d hd.2, sx2_1]) (by decide) ?_)⟩
          · rw [tk]
            unfold f_X5_readOrder_c96
            rw [num_T1 hL hd.1 hd.2, ob_s, if_pos hc, must_F hL (by omega) (fun h q => hh ⟨h, q⟩), ob_s, num_1 (Or.inr rfl), ob_s]
          · by_cases h : i + 2 < L
            · refine FE_stuck hL hs h ?_
              rcases digC_dec (inp (i + 2)) with q | q
              · rw [sa_d q, sx3, if_neg (fun e => hh ⟨h, e⟩)]
              · rw [sa_n q, sx3, if_neg (fun e => hh ⟨h, e⟩)]
            · obtain rfl : L = i + 2 := by omega
              exact FE_end hL rfl
      · left
        refine ⟨i + 1, inp i, 0, 0, by omega, ?_, FE_step hL hs hiL (by rw [sa0]; exact st) (by decide) ?_⟩
        · rw [tk]
          unfold f_X5_readOrder_c96
          rw [num_F hL (by omega) (Or.inl rfl) (fun h q => hd ⟨h, q⟩), ob_s, if_pos hc, must_1, ob_s, num_1 (Or.inr rfl), ob_s]
        · by_cases h : i + 1 < L
          · exact FE_stuck hL hs h (by rw [sa_n (fun q => hd ⟨h, q⟩), sx2_0])
          · obtain rfl : L = i + 1 := by omega
            exact FE_end hL rfl
  · left
    obtain rfl : L = i := by omega
    refine ⟨L, cmd0, to10, to20, Nat.le_refl L, ?_, FE_end hL rfl⟩
    unfold f_X5_readOrder
    rw [if_pos (nI_le (Nat.le_refl L) (by omega))]
    exact wrong _ _ _
/-- k orders from i on, then the end -/
def Txt (L : Nat) (inp : Nat → Int32) : Nat → Nat → Prop
  | 0, _ => False
  | k + 1, i => ∃ j cmd t1 t2, i < j ∧ Ord L inp i j cmd t1 t2 ∧ (∀ c0 a0 b0, ∃ t2', f_X5_readOrder (nI L) (nI i) 0 c0 a0 b0 inp = some (nI j, 0, cmd, t1, t2') ∧ (cmd = 100 → t2' = t2)) ∧ ((j = L ∧ k = 0) ∨ (j < L ∧ inp j = 59 ∧ Txt L inp k (j + 1)))
theorem text_eq (hL : L ≤ 60) (hs : ∀ i, i < L → sig i = inp i ∧ isC (sig i) = true) : ∀ (m i : Nat) (c0 a0 b0 : Int32) (acc fuel : Nat), L - i < m → i ≤ L → m < fuel →
    ∃ r, f_X5_readOrder (nI L) (nI i) 0 c0 a0 b0 inp = some r ∧
    ((∃ e cm x1 x2 many, e ≤ L ∧ f_X5_countOrders_c16 (nI L) inp fuel (nI acc) r.1 r.2.1 r.2.2.1 r.2.2.2.1 r.2.2.2.2 = some (many, nI e, 1, cm, x1, x2) ∧ FE L sig 0 i (nI e)) ∨
     (∃ k cm x1 x2, k < 100 ∧ Txt L inp (k + 1) i ∧ f_X5_countOrders_c16 (nI L) inp fuel (nI acc) r.1 r.2.1 r.2.2.1 r.2.2.2.1 r.2.2.2.2 = some (nI (acc + k), nI L, 0, cm, x1, x2) ∧ FE L sig 0 i (-1) ∧ k ≤ L - i)) := by
  intro m
  induction m with
  | zero => intro i c0 a0 b0 acc fuel hm; omega
  | succ m ih =>
    intro i c0 a0 b0 acc fuel hm hi hf
    obtain ⟨fuel, rfl⟩ : ∃ z, fuel = z + 1 := ⟨fuel - 1, by omega⟩
    rcases order_eq hL hs hi c0 a0 b0 with ⟨e, cm, x1, x2, he, h1, h2⟩ | ⟨j, cm, x1, x2, hij, hO, h1, h2⟩
    · refine ⟨_, h1, Or.inl ⟨e, cm, x1, x2, nI acc, he, ?_, h2⟩⟩
      unfold f_X5_countOrders_c16
      rw [if_neg n10]
    · obtain ⟨t2, g1, g2⟩ := h1 c0 a0 b0
      refine ⟨_, g1, ?_⟩
      have hjL := hO.1
      by_cases hj : j = L
      · subst hj
        refine Or.inr ⟨0, cm, x1, t2, by omega, ⟨j, cm, x1, x2, hij, hO, h1, Or.inl ⟨rfl, rfl⟩⟩, ?_, h2 _ (Or.inl ⟨rfl, rfl⟩), by omega⟩
        unfold f_X5_countOrders_c16
        rw [if_pos rfl, if_pos (nI_le (Nat.le_refl j) (by omega)), Nat.add_zero]
      · by_cases hsc : inp j = 59
        · obtain ⟨r, r1, r2⟩ := ih (j + 1) cm x1 t2 (acc + 1) fuel (by omega) (by omega) (by omega)
          have hstep : f_X5_countOrders_c16 (nI L) inp (fuel + 1) (nI acc) (nI j) 0 cm x1 t2 = f_X5_countOrders_c16 (nI L) inp fuel (nI (acc + 1)) r.1 r.2.1 r.2.2.1 r.2.2.2.1 r.2.2.2.2 := by
            conv => lhs; unfold f_X5_countOrders_c16
            rw [if_pos rfl, if_neg (nI_ge (by omega) (by omega)), must_T hL (by omega) hsc, ob_s, r1, ob_s, nI_1]
          rcases r2 with ⟨e, cm', x1', x2', many, he, c1, c2⟩ | ⟨k, cm', x1', x2', hk, hT, c1, c2, hk2⟩
          · exact Or.inl ⟨e, cm', x1', x2', many, he, hstep.trans c1, h2 _ (Or.inr (Or.inl ⟨by omega, hsc, c2⟩))⟩
          · refine Or.inr ⟨k + 1, cm', x1', x2', by omega, ⟨j, cm, x1, x2, hij, hO, h1, Or.inr ⟨by omega, hsc, hT⟩⟩, ?_, h2 _ (Or.inr (Or.inl ⟨by omega, hsc, c2⟩)), by omega⟩
            rw [show acc + (k + 1) = acc + 1 + k by omega]
            exact hstep.trans c1
        · left
          refine ⟨j, cm, x1, t2, nI (acc + 1), hjL, ?_, h2 _ (Or.inr (Or.inr ⟨by omega, hsc, rfl⟩))⟩
          obtain ⟨fuel, rfl⟩ : ∃ z, fuel = z + 1 := ⟨fuel - 1, by omega⟩
          conv => lhs; unfold f_X5_countOrders_c16
          rw [if_pos rfl, if_neg (nI_ge (by omega) (by omega)), must_F hL (by omega) (fun _ => hsc), ob_s, read_wrong (Or.inl (inbN (by omega) (by decide))), ob_s, nI_1]
          unfold f_X5_countOrders_c16
          rw [if_neg n10]
end TEXT
