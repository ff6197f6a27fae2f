/-! by program: worlds -/
def wX3 (q : Nat → Nat) (cy : Nat → ClassId) (v_hour : Int32) (v_crowd : Int32) (v_buskers : Int32) (v_answered : Int32) (v_draws : Int32) (v_lim : Nat → UInt32) (v_cmp : Nat → Int32) (v_sof : Nat → Int32) (v_kin : Nat → Int32) (v_lou : Nat → Int32) (v_pit : Nat → Int32) (v_pla : Nat → Int32) (v_cas : Nat → Int32) (v_hrs : Nat → Int32) (v_nws : Nat → Int32) (v_hat : Nat → UInt32) (v_wea : Nat → UInt32) (v_row : Nat → UInt32) : va_W :=
  [(q 0, .inr (4, [.int v_hour, .int v_crowd, .int v_buskers, .int v_answered, .int v_draws, .ref (q 1), .ref (q 2), .ref (q 3), .ref (q 4), .ref (q 5), .ref (q 6), .ref (q 7), .ref (q 8), .ref (q 9), .ref (q 10), .ref (q 11), .ref (q 12), .ref (q 13)])),
   (q 1, .inl (cy 1, 8, .inr (.inr (.inl v_lim)))),
   (q 2, .inl (cy 0, 8, .inl v_cmp)),
   (q 3, .inl (cy 0, 8, .inl v_sof)),
   (q 4, .inl (cy 0, 8, .inl v_kin)),
   (q 5, .inl (cy 0, 8, .inl v_lou)),
   (q 6, .inl (cy 0, 8, .inl v_pit)),
   (q 7, .inl (cy 0, 8, .inl v_pla)),
   (q 8, .inl (cy 0, 8, .inl v_cas)),
   (q 9, .inl (cy 0, 8, .inl v_hrs)),
   (q 10, .inl (cy 0, 8, .inl v_nws)),
   (q 11, .inl (cy 1, 8, .inr (.inr (.inl v_hat)))),
   (q 12, .inl (cy 1, 8, .inr (.inr (.inl v_wea)))),
   (q 13, .inl (cy 1, 10, .inr (.inr (.inl v_row))))]
def wX2 (q : Nat → Nat) (cy : Nat → ClassId) (v_len : Int32) (v_sig : Nat → Int32) : va_W :=
  [(q 0, .inr (3, [.ref (q 1), .int v_len])),
   (q 1, .inl (cy 2, 60, .inl v_sig))]
