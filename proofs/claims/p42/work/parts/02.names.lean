/-! names: classes, fields, methods, decode lists (by program out of the printed names) -/
def RX0 : String := "BuskPitches$Bits"
def TX0 : u_T := fun k => match k with
  | _ => ("", "", "", false)
def tyX0 : Nat → FieldType := fun k => match k with
  | _ => .int
abbrev wsX00 : List Cond := u_ws RX0 TX0 0
theorem nmX0 : ∀ a, a < 0 → ∀ b, b < 0 → a ≠ b → (TX0 a).2.1 ≠ (TX0 b).2.1 := by decide +kernel
theorem tyX0_ok : ∀ k, k < 0 → parseFieldDescriptor (TX0 k).2.2.1 = some (tyX0 k) := by decide +kernel
abbrev cX0_ofFloat : ByteArray := prog_2_method_2_code
def yX0_ofFloat : MethodName := ⟨RX0, "ofFloat", "(F)I"⟩
abbrev cX0_ofDouble : ByteArray := prog_2_method_3_code
def yX0_ofDouble : MethodName := ⟨RX0, "ofDouble", "(D)J"⟩
def RX1 : String := "BuskPitches$History"
def TX1 : u_T := fun k => match k with
  | 0 => ("BuskPitches$History", "ring", "[LBuskPitches$State;", true)
  | 1 => ("BuskPitches$History", "next", "I", false)
  | _ => ("BuskPitches$History", "count", "I", false)
def tyX1 : Nat → FieldType := fun k => match k with
  | 0 => .array (.object "BuskPitches$State")
  | 1 => .int
  | _ => .int
abbrev wsX10 : List Cond := u_ws RX1 TX1 3
theorem nmX1 : ∀ a, a < 3 → ∀ b, b < 3 → a ≠ b → (TX1 a).2.1 ≠ (TX1 b).2.1 := by decide +kernel
theorem tyX1_ok : ∀ k, k < 3 → parseFieldDescriptor (TX1 k).2.2.1 = some (tyX1 k) := by decide +kernel
abbrev cX1_init : ByteArray := prog_3_method_1_code
def yX1_init : MethodName := ⟨RX1, "<init>", "()V"⟩
abbrev cX1_keep : ByteArray := prog_3_method_2_code
def yX1_keep : MethodName := ⟨RX1, "keep", "(LBuskPitches$State;)V"⟩
abbrev cX1_giveBack : ByteArray := prog_3_method_3_code
def yX1_giveBack : MethodName := ⟨RX1, "giveBack", "(LBuskPitches$State;)V"⟩
def RX2 : String := "BuskPitches$Input"
def TX2 : u_T := fun k => match k with
  | 0 => ("BuskPitches$Input", "signs", "[C", true)
  | _ => ("BuskPitches$Input", "length", "I", false)
def tyX2 : Nat → FieldType := fun k => match k with
  | 0 => .array .char
  | _ => .int
abbrev wsX20 : List Cond := u_ws RX2 TX2 2
theorem nmX2 : ∀ a, a < 2 → ∀ b, b < 2 → a ≠ b → (TX2 a).2.1 ≠ (TX2 b).2.1 := by decide +kernel
theorem tyX2_ok : ∀ k, k < 2 → parseFieldDescriptor (TX2 k).2.2.1 = some (tyX2 k) := by decide +kernel
abbrev cX2_init : ByteArray := prog_4_method_1_code
def yX2_init : MethodName := ⟨RX2, "<init>", "()V"⟩
abbrev cX2_put : ByteArray := prog_4_method_2_code
def yX2_put : MethodName := ⟨RX2, "put", "(C)V"⟩
abbrev cX2_signAt : ByteArray := prog_4_method_3_code
def yX2_signAt : MethodName := ⟨RX2, "signAt", "(I)C"⟩
abbrev cX2_numberIn : ByteArray := prog_4_method_4_code
def yX2_numberIn : MethodName := ⟨RX2, "numberIn", "(II)I"⟩
abbrev cX2_findError : ByteArray := prog_4_method_5_code
def yX2_findError : MethodName := ⟨RX2, "findError", "()I"⟩
abbrev cX2_stageAfter : ByteArray := prog_4_method_6_code
def yX2_stageAfter : MethodName := ⟨RX2, "stageAfter", "(IC)I"⟩
abbrev cX2_stageAfterLetter : ByteArray := prog_4_method_7_code
def yX2_stageAfterLetter : MethodName := ⟨RX2, "stageAfterLetter", "(C)I"⟩
abbrev cX2_stageAfterEnd : ByteArray := prog_4_method_8_code
def yX2_stageAfterEnd : MethodName := ⟨RX2, "stageAfterEnd", "(C)I"⟩
def RX3 : String := "BuskPitches$State"
def TX3 : u_T := fun k => match k with
  | 0 => ("BuskPitches$State", "hour", "I", false)
  | 1 => ("BuskPitches$State", "crowd", "I", false)
  | 2 => ("BuskPitches$State", "buskers", "I", false)
  | 3 => ("BuskPitches$State", "answered", "I", false)
  | 4 => ("BuskPitches$State", "draws", "I", false)
  | 5 => ("BuskPitches$State", "limits", "[F", true)
  | 6 => ("BuskPitches$State", "complaints", "[I", true)
  | 7 => ("BuskPitches$State", "complaintsSoFar", "[I", true)
  | 8 => ("BuskPitches$State", "kinds", "[I", true)
  | 9 => ("BuskPitches$State", "loudnesses", "[I", true)
  | 10 => ("BuskPitches$State", "pitches", "[I", true)
  | 11 => ("BuskPitches$State", "places", "[I", true)
  | 12 => ("BuskPitches$State", "cases", "[I", true)
  | 13 => ("BuskPitches$State", "hoursPlayed", "[I", true)
  | 14 => ("BuskPitches$State", "newStrings", "[I", true)
  | 15 => ("BuskPitches$State", "hats", "[F", true)
  | 16 => ("BuskPitches$State", "wears", "[F", true)
  | _ => ("BuskPitches$State", "row", "[F", true)
def tyX3 : Nat → FieldType := fun k => match k with
  | 0 => .int
  | 1 => .int
  | 2 => .int
  | 3 => .int
  | 4 => .int
  | 5 => .array .float
  | 6 => .array .int
  | 7 => .array .int
  | 8 => .array .int
  | 9 => .array .int
  | 10 => .array .int
  | 11 => .array .int
  | 12 => .array .int
  | 13 => .array .int
  | 14 => .array .int
  | 15 => .array .float
  | 16 => .array .float
  | _ => .array .float
abbrev wsX30 : List Cond := u_ws RX3 TX3 18
theorem nmX3 : ∀ a, a < 18 → ∀ b, b < 18 → a ≠ b → (TX3 a).2.1 ≠ (TX3 b).2.1 := by decide +kernel
theorem tyX3_ok : ∀ k, k < 18 → parseFieldDescriptor (TX3 k).2.2.1 = some (tyX3 k) := by decide +kernel
abbrev cX3_init : ByteArray := prog_5_method_1_code
def yX3_init : MethodName := ⟨RX3, "<init>", "()V"⟩
abbrev cX3_copyFrom : ByteArray := prog_5_method_2_code
def yX3_copyFrom : MethodName := ⟨RX3, "copyFrom", "(LBuskPitches$State;)V"⟩
abbrev cX3_hasBusker : ByteArray := prog_5_method_3_code
def yX3_hasBusker : MethodName := ⟨RX3, "hasBusker", "(I)Z"⟩
abbrev cX3_addBusker : ByteArray := prog_5_method_4_code
def yX3_addBusker : MethodName := ⟨RX3, "addBusker", "(II)I"⟩
abbrev cX3_playerOn : ByteArray := prog_5_method_5_code
def yX3_playerOn : MethodName := ⟨RX3, "playerOn", "(I)I"⟩
abbrev cX3_waiterAt : ByteArray := prog_5_method_6_code
def yX3_waiterAt : MethodName := ⟨RX3, "waiterAt", "(I)I"⟩
abbrev cX3_caseAt : ByteArray := prog_5_method_7_code
def yX3_caseAt : MethodName := ⟨RX3, "caseAt", "(II)I"⟩
abbrev cX3_countWaiting : ByteArray := prog_5_method_8_code
def yX3_countWaiting : MethodName := ⟨RX3, "countWaiting", "()I"⟩
abbrev cX3_countPlaying : ByteArray := prog_5_method_9_code
def yX3_countPlaying : MethodName := ⟨RX3, "countPlaying", "()I"⟩
abbrev cX3_countCases : ByteArray := prog_5_method_10_code
def yX3_countCases : MethodName := ⟨RX3, "countCases", "()I"⟩
abbrev cX3_countAtHome : ByteArray := prog_5_method_11_code
def yX3_countAtHome : MethodName := ⟨RX3, "countAtHome", "()I"⟩
abbrev cX3_countSnapped : ByteArray := prog_5_method_12_code
def yX3_countSnapped : MethodName := ⟨RX3, "countSnapped", "()I"⟩
abbrev cX3_countAhead : ByteArray := prog_5_method_13_code
def yX3_countAhead : MethodName := ⟨RX3, "countAhead", "(I)I"⟩
abbrev cX3_isSnapped : ByteArray := prog_5_method_14_code
def yX3_isSnapped : MethodName := ⟨RX3, "isSnapped", "(I)Z"⟩
abbrev cX3_putInLine : ByteArray := prog_5_method_15_code
def yX3_putInLine : MethodName := ⟨RX3, "putInLine", "(I)I"⟩
abbrev cX3_drawFor : ByteArray := prog_5_method_16_code
def yX3_drawFor : MethodName := ⟨RX3, "drawFor", "(II)I"⟩
abbrev cX3_sendHomeFrom : ByteArray := prog_5_method_17_code
def yX3_sendHomeFrom : MethodName := ⟨RX3, "sendHomeFrom", "(I)I"⟩
abbrev cX3_exchange : ByteArray := prog_5_method_18_code
def yX3_exchange : MethodName := ⟨RX3, "exchange", "(II)I"⟩
abbrev cX3_buyStrings : ByteArray := prog_5_method_19_code
def yX3_buyStrings : MethodName := ⟨RX3, "buyStrings", "(I)V"⟩
abbrev cX3_answerComplaints : ByteArray := prog_5_method_20_code
def yX3_answerComplaints : MethodName := ⟨RX3, "answerComplaints", "(I)I"⟩
abbrev cX3_freePlaceOn : ByteArray := prog_5_method_21_code
def yX3_freePlaceOn : MethodName := ⟨RX3, "freePlaceOn", "(I)I"⟩
abbrev cX3_putCase : ByteArray := prog_5_method_22_code
def yX3_putCase : MethodName := ⟨RX3, "putCase", "(I)I"⟩
abbrev cX3_noiseOfBusker : ByteArray := prog_5_method_23_code
def yX3_noiseOfBusker : MethodName := ⟨RX3, "noiseOfBusker", "(I)F"⟩
abbrev cX3_ownNoiseOn : ByteArray := prog_5_method_24_code
def yX3_ownNoiseOn : MethodName := ⟨RX3, "ownNoiseOn", "(I)F"⟩
abbrev cX3_noiseAround : ByteArray := prog_5_method_25_code
def yX3_noiseAround : MethodName := ⟨RX3, "noiseAround", "(IF)F"⟩
abbrev cX3_noiseOn : ByteArray := prog_5_method_26_code
def yX3_noiseOn : MethodName := ⟨RX3, "noiseOn", "(I)F"⟩
abbrev cX3_noiseOf : ByteArray := prog_5_method_27_code
def yX3_noiseOf : MethodName := ⟨RX3, "noiseOf", "(II)F"⟩
abbrev cX3_layRow : ByteArray := prog_5_method_28_code
def yX3_layRow : MethodName := ⟨RX3, "layRow", "()V"⟩
abbrev cX3_noiseByRow : ByteArray := prog_5_method_29_code
def yX3_noiseByRow : MethodName := ⟨RX3, "noiseByRow", "(I)F"⟩
abbrev cX3_quietestFor : ByteArray := prog_5_method_30_code
def yX3_quietestFor : MethodName := ⟨RX3, "quietestFor", "(I)I"⟩
abbrev cX3_wearOfHour : ByteArray := prog_5_method_31_code
def yX3_wearOfHour : MethodName := ⟨RX3, "wearOfHour", "(I)F"⟩
abbrev cX3_hoursUntilSnapped : ByteArray := prog_5_method_32_code
def yX3_hoursUntilSnapped : MethodName := ⟨RX3, "hoursUntilSnapped", "(I)I"⟩
abbrev cX3_passHours : ByteArray := prog_5_method_33_code
def yX3_passHours : MethodName := ⟨RX3, "passHours", "(I)I"⟩
abbrev cX3_playHour : ByteArray := prog_5_method_34_code
def yX3_playHour : MethodName := ⟨RX3, "playHour", "(II)Z"⟩
abbrev cX3_takings : ByteArray := prog_5_method_35_code
def yX3_takings : MethodName := ⟨RX3, "takings", "(II)F"⟩
def RX4 : String := "BuskPitches"
def TX4 : u_T := fun k => match k with
  | 0 => ("BuskPitches", "now", "LBuskPitches$State;", true)
  | 1 => ("BuskPitches", "spare", "LBuskPitches$State;", true)
  | 2 => ("BuskPitches", "snapshot", "LBuskPitches$State;", true)
  | 3 => ("BuskPitches", "isSaved", "Z", false)
  | 4 => ("BuskPitches", "history", "LBuskPitches$History;", true)
  | 5 => ("BuskPitches", "input", "LBuskPitches$Input;", true)
  | 6 => ("BuskPitches", "textError", "I", false)
  | 7 => ("BuskPitches", "reason", "I", false)
  | _ => ("BuskPitches", "detail", "I", false)
def tyX4 : Nat → FieldType := fun k => match k with
  | 0 => .object "BuskPitches$State"
  | 1 => .object "BuskPitches$State"
  | 2 => .object "BuskPitches$State"
  | 3 => .boolean
  | 4 => .object "BuskPitches$History"
  | 5 => .object "BuskPitches$Input"
  | 6 => .int
  | 7 => .int
  | _ => .int
abbrev wsX40 : List Cond := u_ws RX4 TX4 9
theorem nmX4 : ∀ a, a < 9 → ∀ b, b < 9 → a ≠ b → (TX4 a).2.1 ≠ (TX4 b).2.1 := by decide +kernel
theorem tyX4_ok : ∀ k, k < 9 → parseFieldDescriptor (TX4 k).2.2.1 = some (tyX4 k) := by decide +kernel
abbrev cX4_init : ByteArray := prog_1_method_1_code
def yX4_init : MethodName := ⟨RX4, "<init>", "()V"⟩
abbrev cX4_crowd : ByteArray := prog_1_method_2_code
def yX4_crowd : MethodName := ⟨RX4, "crowd", "(I)I"⟩
abbrev cX4_limit : ByteArray := prog_1_method_3_code
def yX4_limit : MethodName := ⟨RX4, "limit", "(II)I"⟩
abbrev cX4_busker : ByteArray := prog_1_method_4_code
def yX4_busker : MethodName := ⟨RX4, "busker", "(II)I"⟩
abbrev cX4_buskerOf : ByteArray := prog_1_method_5_code
def yX4_buskerOf : MethodName := ⟨RX4, "buskerOf", "(II)I"⟩
abbrev cX4_hat : ByteArray := prog_1_method_6_code
def yX4_hat : MethodName := ⟨RX4, "hat", "(I)F"⟩
abbrev cX4_wear : ByteArray := prog_1_method_7_code
def yX4_wear : MethodName := ⟨RX4, "wear", "(I)I"⟩
abbrev cX4_pitchOf : ByteArray := prog_1_method_8_code
def yX4_pitchOf : MethodName := ⟨RX4, "pitchOf", "(II)I"⟩
abbrev cX4_join : ByteArray := prog_1_method_9_code
def yX4_join : MethodName := ⟨RX4, "join", "(I)I"⟩
abbrev cX4_draw : ByteArray := prog_1_method_10_code
def yX4_draw : MethodName := ⟨RX4, "draw", "(II)I"⟩
abbrev cX4_waiting : ByteArray := prog_1_method_11_code
def yX4_waiting : MethodName := ⟨RX4, "waiting", "(I)I"⟩
abbrev cX4_leave : ByteArray := prog_1_method_12_code
def yX4_leave : MethodName := ⟨RX4, "leave", "(I)I"⟩
abbrev cX4_swap : ByteArray := prog_1_method_13_code
def yX4_swap : MethodName := ⟨RX4, "swap", "(II)I"⟩
abbrev cX4_noise : ByteArray := prog_1_method_14_code
def yX4_noise : MethodName := ⟨RX4, "noise", "(I)I"⟩
abbrev cX4_noiseAgain : ByteArray := prog_1_method_15_code
def yX4_noiseAgain : MethodName := ⟨RX4, "noiseAgain", "(I)I"⟩
abbrev cX4_below : ByteArray := prog_1_method_16_code
def yX4_below : MethodName := ⟨RX4, "below", "(I)F"⟩
abbrev cX4_noiseWith : ByteArray := prog_1_method_17_code
def yX4_noiseWith : MethodName := ⟨RX4, "noiseWith", "(II)I"⟩
abbrev cX4_quietest : ByteArray := prog_1_method_18_code
def yX4_quietest : MethodName := ⟨RX4, "quietest", "(I)I"⟩
abbrev cX4_loudest : ByteArray := prog_1_method_19_code
def yX4_loudest : MethodName := ⟨RX4, "loudest", "()I"⟩
abbrev cX4_strings : ByteArray := prog_1_method_20_code
def yX4_strings : MethodName := ⟨RX4, "strings", "(I)I"⟩
abbrev cX4_snapsIn : ByteArray := prog_1_method_21_code
def yX4_snapsIn : MethodName := ⟨RX4, "snapsIn", "(I)I"⟩
abbrev cX4_answer : ByteArray := prog_1_method_22_code
def yX4_answer : MethodName := ⟨RX4, "answer", "(I)I"⟩
abbrev cX4_rack : ByteArray := prog_1_method_23_code
def yX4_rack : MethodName := ⟨RX4, "rack", "(II)I"⟩
abbrev cX4_unrack : ByteArray := prog_1_method_24_code
def yX4_unrack : MethodName := ⟨RX4, "unrack", "(I)I"⟩
abbrev cX4_onRack : ByteArray := prog_1_method_25_code
def yX4_onRack : MethodName := ⟨RX4, "onRack", "(II)I"⟩
abbrev cX4_ranked : ByteArray := prog_1_method_26_code
def yX4_ranked : MethodName := ⟨RX4, "ranked", "(I)I"⟩
abbrev cX4_pass : ByteArray := prog_1_method_27_code
def yX4_pass : MethodName := ⟨RX4, "pass", "(I)I"⟩
abbrev cX4_hatIn : ByteArray := prog_1_method_28_code
def yX4_hatIn : MethodName := ⟨RX4, "hatIn", "(II)I"⟩
abbrev cX4_playingIn : ByteArray := prog_1_method_29_code
def yX4_playingIn : MethodName := ⟨RX4, "playingIn", "(I)I"⟩
abbrev cX4_sign : ByteArray := prog_1_method_30_code
def yX4_sign : MethodName := ⟨RX4, "sign", "(I)C"⟩
abbrev cX4_append : ByteArray := prog_1_method_31_code
def yX4_append : MethodName := ⟨RX4, "append", "(C)I"⟩
abbrev cX4_read : ByteArray := prog_1_method_32_code
def yX4_read : MethodName := ⟨RX4, "read", "()I"⟩
abbrev cX4_errorPosition : ByteArray := prog_1_method_33_code
def yX4_errorPosition : MethodName := ⟨RX4, "errorPosition", "()I"⟩
abbrev cX4_account : ByteArray := prog_1_method_35_code
def yX4_account : MethodName := ⟨RX4, "account", "(I)I"⟩
abbrev cX4_isWell : ByteArray := prog_1_method_36_code
def yX4_isWell : MethodName := ⟨RX4, "isWell", "()Z"⟩
abbrev cX4_meanBits : ByteArray := prog_1_method_37_code
def yX4_meanBits : MethodName := ⟨RX4, "meanBits", "()J"⟩
abbrev cX4_undo : ByteArray := prog_1_method_38_code
def yX4_undo : MethodName := ⟨RX4, "undo", "()I"⟩
abbrev cX4_save : ByteArray := prog_1_method_39_code
def yX4_save : MethodName := ⟨RX4, "save", "()I"⟩
abbrev cX4_restore : ByteArray := prog_1_method_40_code
def yX4_restore : MethodName := ⟨RX4, "restore", "()I"⟩
abbrev cX4_throwFor : ByteArray := prog_1_method_41_code
def yX4_throwFor : MethodName := ⟨RX4, "throwFor", "(I)V"⟩
abbrev cX4_refuse : ByteArray := prog_1_method_42_code
def yX4_refuse : MethodName := ⟨RX4, "refuse", "(II)I"⟩
abbrev cX4_isPitch : ByteArray := prog_1_method_43_code
def yX4_isPitch : MethodName := ⟨RX4, "isPitch", "(I)Z"⟩
abbrev cX4_hindranceOfRange : ByteArray := prog_1_method_44_code
def yX4_hindranceOfRange : MethodName := ⟨RX4, "hindranceOfRange", "(III)I"⟩
abbrev cX4_hindranceOfPitchNumber : ByteArray := prog_1_method_45_code
def yX4_hindranceOfPitchNumber : MethodName := ⟨RX4, "hindranceOfPitchNumber", "(I)I"⟩
abbrev cX4_hindranceOfBuskerNumber : ByteArray := prog_1_method_46_code
def yX4_hindranceOfBuskerNumber : MethodName := ⟨RX4, "hindranceOfBuskerNumber", "(I)I"⟩
abbrev cX4_hindranceOfCrowd : ByteArray := prog_1_method_47_code
def yX4_hindranceOfCrowd : MethodName := ⟨RX4, "hindranceOfCrowd", "(I)I"⟩
abbrev cX4_hindranceOfPass : ByteArray := prog_1_method_48_code
def yX4_hindranceOfPass : MethodName := ⟨RX4, "hindranceOfPass", "(I)I"⟩
abbrev cX4_hindranceOfLookAhead : ByteArray := prog_1_method_49_code
def yX4_hindranceOfLookAhead : MethodName := ⟨RX4, "hindranceOfLookAhead", "(I)I"⟩
abbrev cX4_hindranceOfLimit : ByteArray := prog_1_method_50_code
def yX4_hindranceOfLimit : MethodName := ⟨RX4, "hindranceOfLimit", "(II)I"⟩
abbrev cX4_hindranceOfBusker : ByteArray := prog_1_method_51_code
def yX4_hindranceOfBusker : MethodName := ⟨RX4, "hindranceOfBusker", "(II)I"⟩
abbrev cX4_hindranceOfJoin : ByteArray := prog_1_method_52_code
def yX4_hindranceOfJoin : MethodName := ⟨RX4, "hindranceOfJoin", "(I)I"⟩
abbrev cX4_hindranceOfDraw : ByteArray := prog_1_method_53_code
def yX4_hindranceOfDraw : MethodName := ⟨RX4, "hindranceOfDraw", "(II)I"⟩
abbrev cX4_hindranceOfLeave : ByteArray := prog_1_method_54_code
def yX4_hindranceOfLeave : MethodName := ⟨RX4, "hindranceOfLeave", "(I)I"⟩
abbrev cX4_hindranceOfSwap : ByteArray := prog_1_method_55_code
def yX4_hindranceOfSwap : MethodName := ⟨RX4, "hindranceOfSwap", "(II)I"⟩
abbrev cX4_hindranceOfStrings : ByteArray := prog_1_method_56_code
def yX4_hindranceOfStrings : MethodName := ⟨RX4, "hindranceOfStrings", "(I)I"⟩
abbrev cX4_hindranceOfAnswer : ByteArray := prog_1_method_57_code
def yX4_hindranceOfAnswer : MethodName := ⟨RX4, "hindranceOfAnswer", "(I)I"⟩
abbrev cX4_hindranceOfRack : ByteArray := prog_1_method_58_code
def yX4_hindranceOfRack : MethodName := ⟨RX4, "hindranceOfRack", "(II)I"⟩
abbrev cX4_hindranceOfUnrack : ByteArray := prog_1_method_59_code
def yX4_hindranceOfUnrack : MethodName := ⟨RX4, "hindranceOfUnrack", "(I)I"⟩
abbrev cX4_carryOut : ByteArray := prog_1_method_60_code
def yX4_carryOut : MethodName := ⟨RX4, "carryOut", "()I"⟩
abbrev cX4_carryOutOrder : ByteArray := prog_1_method_61_code
def yX4_carryOutOrder : MethodName := ⟨RX4, "carryOutOrder", "(II)I"⟩
abbrev cX4_tryDraw : ByteArray := prog_1_method_62_code
def yX4_tryDraw : MethodName := ⟨RX4, "tryDraw", "(II)I"⟩
abbrev cX4_hindranceOfOrder : ByteArray := prog_1_method_63_code
def yX4_hindranceOfOrder : MethodName := ⟨RX4, "hindranceOfOrder", "(CI)I"⟩
abbrev cX4_doOrder : ByteArray := prog_1_method_64_code
def yX4_doOrder : MethodName := ⟨RX4, "doOrder", "(CI)V"⟩
abbrev cX4_isNoiseTheSameTwice : ByteArray := prog_1_method_65_code
def yX4_isNoiseTheSameTwice : MethodName := ⟨RX4, "isNoiseTheSameTwice", "()Z"⟩
abbrev cX4_isNobodySharing : ByteArray := prog_1_method_66_code
def yX4_isNobodySharing : MethodName := ⟨RX4, "isNobodySharing", "()Z"⟩
abbrev cX4_sum : ByteArray := prog_1_method_67_code
def yX4_sum : MethodName := ⟨RX4, "sum", "([I)I"⟩
def RX5 : String := "BuskPitchesModel"
def TX5 : u_T := fun k => match k with
  | _ => ("", "", "", false)
def tyX5 : Nat → FieldType := fun k => match k with
  | _ => .int
abbrev wsX50 : List Cond := u_ws RX5 TX5 0
theorem nmX5 : ∀ a, a < 0 → ∀ b, b < 0 → a ≠ b → (TX5 a).2.1 ≠ (TX5 b).2.1 := by decide +kernel
theorem tyX5_ok : ∀ k, k < 0 → parseFieldDescriptor (TX5 k).2.2.1 = some (tyX5 k) := by decide +kernel
def RJx00060 : String := "java/lang/ArrayIndexOutOfBoundsException"
def TJx00060 : u_T := fun k => match k with
  | 0 => ("java/lang/Throwable", "backtrace", "Ljava/lang/Object;", false)
  | 1 => ("java/lang/Throwable", "detailMessage", "Ljava/lang/String;", false)
  | 2 => ("java/lang/Throwable", "cause", "Ljava/lang/Throwable;", false)
  | 3 => ("java/lang/Throwable", "stackTrace", "[Ljava/lang/StackTraceElement;", false)
  | 4 => ("java/lang/Throwable", "depth", "I", false)
  | _ => ("java/lang/Throwable", "suppressedExceptions", "Ljava/util/List;", false)
def tyJx00060 : Nat → FieldType := fun k => match k with
  | 0 => .object "java/lang/Object"
  | 1 => .object "java/lang/String"
  | 2 => .object "java/lang/Throwable"
  | 3 => .array (.object "java/lang/StackTraceElement")
  | 4 => .int
  | _ => .object "java/util/List"
abbrev wsJx000600 : List Cond := u_ws RJx00060 TJx00060 6
theorem nmJx00060 : ∀ a, a < 6 → ∀ b, b < 6 → a ≠ b → (TJx00060 a).2.1 ≠ (TJx00060 b).2.1 := by decide +kernel
theorem tyJx00060_ok : ∀ k, k < 6 → parseFieldDescriptor (TJx00060 k).2.2.1 = some (tyJx00060 k) := by decide +kernel
abbrev cJx00060_init_a7421 : ByteArray := prog_10_method_2_code
def yJx00060_init_a7421 : MethodName := ⟨RJx00060, "<init>", "(Ljava/lang/String;)V"⟩
def RJx9f9b0 : String := "java/lang/CharSequence"
def TJx9f9b0 : u_T := fun k => match k with
  | _ => ("", "", "", false)
def tyJx9f9b0 : Nat → FieldType := fun k => match k with
  | _ => .int
theorem nmJx9f9b0 : ∀ a, a < 0 → ∀ b, b < 0 → a ≠ b → (TJx9f9b0 a).2.1 ≠ (TJx9f9b0 b).2.1 := by decide +kernel
theorem tyJx9f9b0_ok : ∀ k, k < 0 → parseFieldDescriptor (TJx9f9b0 k).2.2.1 = some (tyJx9f9b0 k) := by decide +kernel
def RJxe99ae : String := "java/lang/Double"
def TJxe99ae : u_T := fun k => match k with
  | _ => ("", "", "", false)
def tyJxe99ae : Nat → FieldType := fun k => match k with
  | _ => .int
theorem nmJxe99ae : ∀ a, a < 0 → ∀ b, b < 0 → a ≠ b → (TJxe99ae a).2.1 ≠ (TJxe99ae b).2.1 := by decide +kernel
theorem tyJxe99ae_ok : ∀ k, k < 0 → parseFieldDescriptor (TJxe99ae k).2.2.1 = some (tyJxe99ae k) := by decide +kernel
abbrev cJxe99ae_isNaN_b9ae7 : ByteArray := prog_13_method_6_code
def yJxe99ae_isNaN_b9ae7 : MethodName := ⟨RJxe99ae, "isNaN", "(D)Z"⟩
abbrev cJxe99ae_doubleToLongBits_ccdee : ByteArray := prog_13_method_23_code
def yJxe99ae_doubleToLongBits_ccdee : MethodName := ⟨RJxe99ae, "doubleToLongBits", "(D)J"⟩
def RJxf58ca : String := "java/lang/Float"
def TJxf58ca : u_T := fun k => match k with
  | _ => ("", "", "", false)
def tyJxf58ca : Nat → FieldType := fun k => match k with
  | _ => .int
theorem nmJxf58ca : ∀ a, a < 0 → ∀ b, b < 0 → a ≠ b → (TJxf58ca a).2.1 ≠ (TJxf58ca b).2.1 := by decide +kernel
theorem tyJxf58ca_ok : ∀ k, k < 0 → parseFieldDescriptor (TJxf58ca k).2.2.1 = some (tyJxf58ca k) := by decide +kernel
abbrev cJxf58ca_isNaN_12338 : ByteArray := prog_15_method_6_code
def yJxf58ca_isNaN_12338 : MethodName := ⟨RJxf58ca, "isNaN", "(F)Z"⟩
abbrev cJxf58ca_floatToIntBits_5c35a : ByteArray := prog_15_method_24_code
def yJxf58ca_floatToIntBits_5c35a : MethodName := ⟨RJxf58ca, "floatToIntBits", "(F)I"⟩
def RJ0 : String := "java/lang/String"
def TJ0 : u_T := fun k => match k with
  | 0 => ("java/lang/String", "value", "[B", true)
  | _ => ("java/lang/String", "coder", "B", true)
def tyJ0 : Nat → FieldType := fun k => match k with
  | 0 => .array .byte
  | _ => .byte
abbrev wsJ00 : List Cond := u_ws RJ0 TJ0 2
theorem nmJ0 : ∀ a, a < 2 → ∀ b, b < 2 → a ≠ b → (TJ0 a).2.1 ≠ (TJ0 b).2.1 := by decide +kernel
theorem tyJ0_ok : ∀ k, k < 2 → parseFieldDescriptor (TJ0 k).2.2.1 = some (tyJ0 k) := by decide +kernel
abbrev cJ0_length_8abf5 : ByteArray := prog_21_method_54_code
def yJ0_length_8abf5 : MethodName := ⟨RJ0, "length", "()I"⟩
abbrev cJ0_charAt_5068e : ByteArray := prog_21_method_56_code
def yJ0_charAt_5068e : MethodName := ⟨RJ0, "charAt", "(I)C"⟩
abbrev cJ0_coder_7d493 : ByteArray := prog_21_method_152_code
def yJ0_coder_7d493 : MethodName := ⟨RJ0, "coder", "()B"⟩
abbrev cJ0_isLatin1_aae02 : ByteArray := prog_21_method_154_code
def yJ0_isLatin1_aae02 : MethodName := ⟨RJ0, "isLatin1", "()Z"⟩
abbrev cJ0_checkIndex_df160 : ByteArray := prog_21_method_155_code
def yJ0_checkIndex_df160 : MethodName := ⟨RJ0, "checkIndex", "(II)V"⟩
def RJ1 : String := "java/lang/StringLatin1"
def TJ1 : u_T := fun k => match k with
  | _ => ("", "", "", false)
def tyJ1 : Nat → FieldType := fun k => match k with
  | _ => .int
theorem nmJ1 : ∀ a, a < 0 → ∀ b, b < 0 → a ≠ b → (TJ1 a).2.1 ≠ (TJ1 b).2.1 := by decide +kernel
theorem tyJ1_ok : ∀ k, k < 0 → parseFieldDescriptor (TJ1 k).2.2.1 = some (tyJ1 k) := by decide +kernel
abbrev cJ1_charAt_3b067 : ByteArray := prog_22_method_2_code
def yJ1_charAt_3b067 : MethodName := ⟨RJ1, "charAt", "([BI)C"⟩
def RJ2 : String := "java/lang/StringUTF16"
def TJ2 : u_T := fun k => match k with
  | _ => ("", "", "", false)
def tyJ2 : Nat → FieldType := fun k => match k with
  | _ => .int
theorem nmJ2 : ∀ a, a < 0 → ∀ b, b < 0 → a ≠ b → (TJ2 a).2.1 ≠ (TJ2 b).2.1 := by decide +kernel
theorem tyJ2_ok : ∀ k, k < 0 → parseFieldDescriptor (TJ2 k).2.2.1 = some (tyJ2 k) := by decide +kernel
abbrev cJ2_getChar_3b067 : ByteArray := prog_23_method_5_code
def yJ2_getChar_3b067 : MethodName := ⟨RJ2, "getChar", "([BI)C"⟩
abbrev cJ2_length_9d52b : ByteArray := prog_23_method_6_code
def yJ2_length_9d52b : MethodName := ⟨RJ2, "length", "([B)I"⟩
abbrev cJ2_charAt_3b067 : ByteArray := prog_23_method_83_code
def yJ2_charAt_3b067 : MethodName := ⟨RJ2, "charAt", "([BI)C"⟩
abbrev cJ2_checkIndex_2214a : ByteArray := prog_23_method_91_code
def yJ2_checkIndex_2214a : MethodName := ⟨RJ2, "checkIndex", "(I[B)V"⟩
def RJ10 : String := "java/lang/System"
def TJ10 : u_T := fun k => match k with
  | _ => ("", "", "", false)
def tyJ10 : Nat → FieldType := fun k => match k with
  | _ => .int
theorem nmJ10 : ∀ a, a < 0 → ∀ b, b < 0 → a ≠ b → (TJ10 a).2.1 ≠ (TJ10 b).2.1 := by decide +kernel
theorem tyJ10_ok : ∀ k, k < 0 → parseFieldDescriptor (TJ10 k).2.2.1 = some (tyJ10 k) := by decide +kernel
def RJ7 : String := "java/util/Arrays"
def TJ7 : u_T := fun k => match k with
  | _ => ("", "", "", false)
def tyJ7 : Nat → FieldType := fun k => match k with
  | _ => .int
theorem nmJ7 : ∀ a, a < 0 → ∀ b, b < 0 → a ≠ b → (TJ7 a).2.1 ≠ (TJ7 b).2.1 := by decide +kernel
theorem tyJ7_ok : ∀ k, k < 0 → parseFieldDescriptor (TJ7 k).2.2.1 = some (tyJ7 k) := by decide +kernel
abbrev cJ7_fill_53178 : ByteArray := prog_29_method_103_code
def yJ7_fill_53178 : MethodName := ⟨RJ7, "fill", "([II)V"⟩
abbrev cJ7_fill_e525d : ByteArray := prog_29_method_115_code
def yJ7_fill_e525d : MethodName := ⟨RJ7, "fill", "([FF)V"⟩
def RJ3 : String := "jdk/internal/util/Preconditions"
def TJ3 : u_T := fun k => match k with
  | _ => ("", "", "", false)
def tyJ3 : Nat → FieldType := fun k => match k with
  | _ => .int
theorem nmJ3 : ∀ a, a < 0 → ∀ b, b < 0 → a ≠ b → (TJ3 a).2.1 ≠ (TJ3 b).2.1 := by decide +kernel
theorem tyJ3_ok : ∀ k, k < 0 → parseFieldDescriptor (TJ3 k).2.2.1 = some (tyJ3 k) := by decide +kernel
abbrev cJ3_checkIndex_8e157 : ByteArray := prog_31_method_11_code
def yJ3_checkIndex_8e157 : MethodName := ⟨RJ3, "checkIndex", "(IILjava/util/function/BiFunction;)I"⟩
def RL : String := "BuskPitchesLaw"
abbrev cL_cell : ByteArray := method_2_code
def yL_cell : MethodName := ⟨RL, "cell", "([II)I"⟩
abbrev cL_crowd : ByteArray := method_3_code
def yL_crowd : MethodName := ⟨RL, "crowd", "(LBuskPitches;I)I"⟩
abbrev cL_limit : ByteArray := method_4_code
def yL_limit : MethodName := ⟨RL, "limit", "(LBuskPitches;II)I"⟩
abbrev cL_busker : ByteArray := method_5_code
def yL_busker : MethodName := ⟨RL, "busker", "(LBuskPitches;II)I"⟩
abbrev cL_join : ByteArray := method_6_code
def yL_join : MethodName := ⟨RL, "join", "(LBuskPitches;I)I"⟩
abbrev cL_draw : ByteArray := method_7_code
def yL_draw : MethodName := ⟨RL, "draw", "(LBuskPitches;II)I"⟩
abbrev cL_waiting : ByteArray := method_8_code
def yL_waiting : MethodName := ⟨RL, "waiting", "(LBuskPitches;I)I"⟩
abbrev cL_leave : ByteArray := method_9_code
def yL_leave : MethodName := ⟨RL, "leave", "(LBuskPitches;I)I"⟩
abbrev cL_swap : ByteArray := method_10_code
def yL_swap : MethodName := ⟨RL, "swap", "(LBuskPitches;II)I"⟩
abbrev cL_quietest : ByteArray := method_11_code
def yL_quietest : MethodName := ⟨RL, "quietest", "(LBuskPitches;I)I"⟩
abbrev cL_strings : ByteArray := method_12_code
def yL_strings : MethodName := ⟨RL, "strings", "(LBuskPitches;I)I"⟩
abbrev cL_snapsIn : ByteArray := method_13_code
def yL_snapsIn : MethodName := ⟨RL, "snapsIn", "(LBuskPitches;I)I"⟩
abbrev cL_answer : ByteArray := method_14_code
def yL_answer : MethodName := ⟨RL, "answer", "(LBuskPitches;I)I"⟩
abbrev cL_rack : ByteArray := method_15_code
def yL_rack : MethodName := ⟨RL, "rack", "(LBuskPitches;II)I"⟩
abbrev cL_unrack : ByteArray := method_16_code
def yL_unrack : MethodName := ⟨RL, "unrack", "(LBuskPitches;I)I"⟩
abbrev cL_onRack : ByteArray := method_17_code
def yL_onRack : MethodName := ⟨RL, "onRack", "(LBuskPitches;II)I"⟩
abbrev cL_ranked : ByteArray := method_18_code
def yL_ranked : MethodName := ⟨RL, "ranked", "(LBuskPitches;I)I"⟩
abbrev cL_pass : ByteArray := method_19_code
def yL_pass : MethodName := ⟨RL, "pass", "(LBuskPitches;I)I"⟩
abbrev cL_read : ByteArray := method_20_code
def yL_read : MethodName := ⟨RL, "read", "(LBuskPitches;)I"⟩
abbrev cL_meanBits : ByteArray := method_21_code
def yL_meanBits : MethodName := ⟨RL, "meanBits", "(LBuskPitches;)J"⟩
abbrev cL_undo : ByteArray := method_22_code
def yL_undo : MethodName := ⟨RL, "undo", "(LBuskPitches;)I"⟩
abbrev cL_restore : ByteArray := method_23_code
def yL_restore : MethodName := ⟨RL, "restore", "(LBuskPitches;)I"⟩
abbrev cL_type : ByteArray := method_24_code
def yL_type : MethodName := ⟨RL, "type", "(LBuskPitches;C)Z"⟩
abbrev cL_write : ByteArray := method_25_code
def yL_write : MethodName := ⟨RL, "write", "(LBuskPitches;Ljava/lang/String;)LBuskPitches;"⟩
abbrev cL_act : ByteArray := method_26_code
def yL_act : MethodName := ⟨RL, "act", "(LBuskPitches;I)I"⟩
abbrev cL_digest : ByteArray := method_27_code
def yL_digest : MethodName := ⟨RL, "digest", "(LBuskPitches;)J"⟩
abbrev cL_noiseOf : ByteArray := method_28_code
def yL_noiseOf : MethodName := ⟨RL, "noiseOf", "(LBuskPitches;I)F"⟩
abbrev cL_isPitch : ByteArray := method_29_code
def yL_isPitch : MethodName := ⟨RL, "isPitch", "(LBuskPitches;I)Z"⟩
abbrev cL_arePitches : ByteArray := method_30_code
def yL_arePitches : MethodName := ⟨RL, "arePitches", "(LBuskPitches;)Z"⟩
abbrev cL_limitOf : ByteArray := method_31_code
def yL_limitOf : MethodName := ⟨RL, "limitOf", "(LBuskPitches;I)F"⟩
abbrev cL_isQuietest : ByteArray := method_32_code
def yL_isQuietest : MethodName := ⟨RL, "isQuietest", "(LBuskPitches;I)Z"⟩
abbrev cL_areBuskers : ByteArray := method_33_code
def yL_areBuskers : MethodName := ⟨RL, "areBuskers", "(LBuskPitches;)Z"⟩
abbrev cL_isMean : ByteArray := method_34_code
def yL_isMean : MethodName := ⟨RL, "isMean", "(LBuskPitches;)Z"⟩
abbrev cL_isFit : ByteArray := method_35_code
def yL_isFit : MethodName := ⟨RL, "isFit", "(LBuskPitches;)Z"⟩
abbrev cL_isAhead : ByteArray := method_36_code
def yL_isAhead : MethodName := ⟨RL, "isAhead", "(LBuskPitches;I)Z"⟩
abbrev cL_law : ByteArray := code
def yL_law : MethodName := ⟨RL, "law", "([I)Z"⟩
abbrev vwCl : List vw_C := [(RJ0, TJ0, 2), (RJx00060, TJx00060, 6), (RX1, TX1, 3), (RX2, TX2, 2), (RX3, TX3, 18), (RX4, TX4, 9)]

/-! the words of all methods: one list -/
def lw_all : List Cond := lw_tbl.filter goodWord
theorem lw_all_in {w : Cond} (h : w ∈ lw_all) : w ∈ lw_tbl ∧ ((w.onTables && w.keeps) = true ∨ ∃ ty, w = .arrayClass ty) := ⟨(List.mem_filter.mp h).1, good_of_word (List.mem_filter.mp h).2⟩
theorem lw_all_good : GoodIn lw_tbl lw_all := fun _ h => lw_all_in h
def chk : List Cond → List Nat → Bool
  | [], _ => true
  | w :: ws, i :: is => decide (lw_tbl[i]? = some w) && (goodWord w && chk ws is)
  | _ :: _, [] => false
theorem lw_ats : ∀ {ws : List Cond} (is : List Nat), chk ws is = true → ∀ w ∈ ws, w ∈ lw_all
  | [], _, _ => fun _ h => absurd h List.not_mem_nil
  | w :: ws, i :: is, h => by
    have h1 : (decide (lw_tbl[i]? = some w) && (goodWord w && chk ws is)) = true := h
    simp only [Bool.and_eq_true, decide_eq_true_eq] at h1
    exact List.forall_mem_cons.mpr ⟨List.mem_filter.mpr ⟨List.mem_of_getElem? h1.1, h1.2.1⟩, lw_ats is h1.2.2⟩
  | _ :: _, [], h => absurd h (by intro q; cases q)
theorem lw_at {w : Cond} (i : Nat) (h : chk [w] [i] = true) : w ∈ lw_all := lw_ats [i] h w List.mem_cons_self
theorem lw_gi (l : List Cond) (h : ∀ w ∈ l, w ∈ lw_all) : GoodIn lw_all (l ++ lw_all) := by
  intro w hw
  have hm : w ∈ lw_all := by
    rcases List.mem_append.mp hw with q | q
    · exact h w q
    · exact q
  exact ⟨hm, (lw_all_in hm).2⟩
theorem lw_git (l : List Cond) (h : ∀ w ∈ l, w ∈ lw_all) : GoodIn lw_tbl (l ++ lw_all) := fun w hw => ⟨(lw_all_in (lw_gi l h w hw).1).1, (lw_gi l h w hw).2⟩
def dchk (b : ByteArray) (l : List (Nat × Instr × Nat)) : Bool := l.all (fun r => decide (decode b r.1 = .ok (r.2.1, r.2.2)))
theorem dg {b : ByteArray} {l : List (Nat × Instr × Nat)} (h : dchk b l = true) (k : Nat) {pc : Nat} {i : Instr} {n : Nat} (hk : l[k]? = some (pc, i, n)) : decode b pc = .ok (i, n) := of_decide_eq_true (List.all_eq_true.mp h (pc, i, n) (List.mem_of_getElem? hk))

theorem inX1 : ∀ w ∈ wsX10, w ∈ lw_all := lw_ats [156, 158, 160] (by decide +kernel)
theorem inX2 : ∀ w ∈ wsX20, w ∈ lw_all := lw_ats [172, 174] (by decide +kernel)
theorem inX3 : ∀ w ∈ wsX30, w ∈ lw_all := lw_ats [104, 106, 108, 110, 112, 114, 116, 118, 120, 122, 124, 126, 128, 130, 132, 134, 136, 138] (by decide +kernel)
theorem inX4 : ∀ w ∈ wsX40, w ∈ lw_all := lw_ats [187, 189, 191, 193, 195, 197, 199, 201, 203] (by decide +kernel)
