/-! by program: worlds -/
def wX3 (q : Nat → Nat) (cy : Nat → ClassId) (v_hour : Int32) (v_crowd : Int32) (v_buskers : Int32) (v_answered : Int32) (v_draws : Int32) (v_lim : Nat → UInt32) (v_cmp : Nat → Int32) (v_sof : Nat → Int32) (v_kin : Nat → Int32) (v_lou : Nat → Int32) (v_pit : Nat → Int32) (v_pla : Nat → Int32) (v_cas : Nat → Int32) (v_hrs : Nat → Int32) (v_nws : Nat → Int32) (v_hat : Nat → UInt32) (v_wea : Nat → UInt32) (v_row : Nat → UInt32) : va_W :=
  [(q 0, .inr (4, [.int v_hour, .int v_crowd, .int v_buskers, .int v_answered, .int v_draws, .ref (q 1), .ref (q 2), .ref (q 3), .ref (q 4), .ref (q 5), .ref (q 6), .ref (q 7), .ref (q 8), .ref (q 9), .ref (q 10), .ref (q 11), .ref (q 12), .ref (q 13)])),
   (q 1, .inl (cy 1, 8, .inr (.inr (.inl v_lim)))),
   (q 2, .inl (cy 0, 8, .inl v_cmp)),
   (q 3, .inl (cy 0, 8, .inl v_sof)),
   (q 4, .inl (cy 0, 8, .inl v_kin)),
   (q 5, .inl (cy 0, 8, .inl v_lou)),
   (q 6, .inl (cy 0, 8, .inl v_pit)),
   (q 7, .inl (cy 0, 8, .inl v_pla)),
   (q 8, .inl (cy 0, 8, .inl v_cas)),
   (q 9, .inl (cy 0, 8, .inl v_hrs)),
   (q 10, .inl (cy 0, 8, .inl v_nws)),
   (q 11, .inl (cy 1, 8, .inr (.inr (.inl v_hat)))),
   (q 12, .inl (cy 1, 8, .inr (.inr (.inl v_wea)))),
   (q 13, .inl (cy 1, 10, .inr (.inr (.inl v_row))))]
def wX2 (q : Nat → Nat) (cy : Nat → ClassId) (v_len : Int32) (v_sig : Nat → Int32) : va_W :=
  [(q 0, .inr (3, [.ref (q 1), .int v_len])),
   (q 1, .inl (cy 2, 60, .inl v_sig))]
def hrows (q : Nat → Nat) (cy : Nat → ClassId) (h : Nat → Nat → Int32) : va_W := (List.range 8).map (fun i => (q (20 + i), .inl (cy 0, 112, .inl (h i))))
def wX5 (q : Nat → Nat) (cy : Nat → ClassId) (m_thr : Int32) (m_kept : Int32) (m_rea : Int32) (m_det : Int32) (m_isv : Int32) (m_iit : Int32) (m_len : Int32) (m_at : Int32) (m_err : Int32) (m_wro : Int32) (m_cmd : Int32) (m_to1 : Int32) (m_to2 : Int32) (m_now : Nat → Int32) (m_sav : Nat → Int32) (m_ahe : Nat → Int32) (m_bef : Nat → Int32) (m_hst : Nat → Nat → Int32) (m_noi : Nat → UInt32) (m_own : Nat → UInt32) (m_inp : Nat → Int32) : va_W :=
  [(q 0, .inr (6, [.int m_thr, .ref (q 1), .ref (q 2), .ref (q 3), .ref (q 4), .ref (q 5), .ref (q 6), .ref (q 7), .int m_kept, .int m_rea, .int m_det, .int m_isv, .int m_iit, .ref (q 8), .int m_len, .int m_at, .int m_err, .int m_wro, .int m_cmd, .int m_to1, .int m_to2])),
   (q 1, .inl (cy 0, 112, .inl m_now)),
   (q 2, .inl (cy 0, 112, .inl m_sav)),
   (q 3, .inl (cy 0, 112, .inl m_ahe)),
   (q 4, .inl (cy 0, 112, .inl m_bef)),
   (q 5, .inl (cy 4, 8, .inr (.inr (.inr (.inr (fun i => some (q (20 + i)))))))),
   (q 6, .inl (cy 1, 8, .inr (.inr (.inl m_noi)))),
   (q 7, .inl (cy 1, 10, .inr (.inr (.inl m_own)))),
   (q 8, .inl (cy 2, 60, .inl m_inp))] ++ hrows q cy m_hst
theorem hrow_at {q : Nat → Nat} {cy : Nat → ClassId} {h : Nat → Nat → Int32} {X : va_W} {i : Nat} (hi : i < 8) (hX : X.length = 9 := by rfl) : (X ++ hrows q cy h)[9 + i]? = some (q (20 + i), .inl (cy 0, 112, .inl (h i))) := by
  rw [List.getElem?_append_right (by omega), show 9 + i - X.length = i by omega]
  unfold hrows
  rw [List.getElem?_map, List.getElem?_range hi]
  rfl
theorem hrow_set {q : Nat → Nat} {cy : Nat → ClassId} {h : Nat → Nat → Int32} {X : va_W} {i : Nat} {v : Nat → Int32} (hi : i < 8) (hX : X.length = 9 := by rfl) : (X ++ hrows q cy h).set (9 + i) (q (20 + i), .inl (cy 0, 112, .inl v)) = X ++ hrows q cy (vf_upd h i v) := by
  rw [List.set_append_right _ _ (by omega), show 9 + i - X.length = i by omega]
  congr 1
  unfold hrows
  apply List.ext_getElem?
  intro j
  rw [List.getElem?_set]
  simp only [List.getElem?_map, List.length_map, List.length_range]
  by_cases hj : i = j
  · subst hj
    simp [hi, vf_upd, List.getElem?_range hi]
  · simp only [if_neg hj]
    by_cases h8 : j < 8
    · rw [List.getElem?_range h8]
      simp [vf_upd, Ne.symm hj]
    · rw [List.getElem?_eq_none (by simp; omega)]
      rfl
