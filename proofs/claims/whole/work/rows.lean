section
-- ===== PART A: goes FIRST, ahead of the names: the tables' words, and 'selects' of the private methods out of them =====
/-- a private method of a class that the tables say can be made, by its rows of tables_1 -/
def lw_okq (q : MethodName × Nat) : Prop := (q.1.cls ≠ "java/lang/invoke/MethodHandle" ∧ q.1.cls ≠ "java/lang/invoke/VarHandle") ∧ Cond.instantiable q.1.cls q.2 ∈ tables_1 ∧ Cond.privateMethod q.1 ∈ tables_1 ∧ Cond.instanceMethod q.1 ∈ tables_1
theorem lw_p0 : lw_okq (⟨"BuskPitches$State", "noiseAround", "(IF)F"⟩, 18) := ⟨⟨by decide +kernel, by decide +kernel⟩, List.mem_of_getElem? (i := 32) (by decide +kernel), List.mem_of_getElem? (i := 208) (by decide +kernel), List.mem_of_getElem? (i := 209) (by decide +kernel)⟩
theorem lw_p1 : lw_okq (⟨"BuskPitches", "isNoiseTheSameTwice", "()Z"⟩, 9) := ⟨⟨by decide +kernel, by decide +kernel⟩, List.mem_of_getElem? (i := 24) (by decide +kernel), List.mem_of_getElem? (i := 221) (by decide +kernel), List.mem_of_getElem? (i := 222) (by decide +kernel)⟩
theorem lw_p2 : lw_okq (⟨"BuskPitches", "isNobodySharing", "()Z"⟩, 9) := ⟨⟨by decide +kernel, by decide +kernel⟩, List.mem_of_getElem? (i := 24) (by decide +kernel), List.mem_of_getElem? (i := 233) (by decide +kernel), List.mem_of_getElem? (i := 234) (by decide +kernel)⟩
theorem lw_p3 : lw_okq (⟨"java/lang/Throwable", "fillInStackTrace", "(I)Ljava/lang/Throwable;"⟩, 6) := ⟨⟨by decide +kernel, by decide +kernel⟩, List.mem_of_getElem? (i := 327) (by decide +kernel), List.mem_of_getElem? (i := 325) (by decide +kernel), List.mem_of_getElem? (i := 326) (by decide +kernel)⟩
theorem lw_p4 : lw_okq (⟨"BuskPitches", "hindranceOfBusker", "(II)I"⟩, 9) := ⟨⟨by decide +kernel, by decide +kernel⟩, List.mem_of_getElem? (i := 24) (by decide +kernel), List.mem_of_getElem? (i := 438) (by decide +kernel), List.mem_of_getElem? (i := 439) (by decide +kernel)⟩
theorem lw_p5 : lw_okq (⟨"BuskPitches", "refuse", "(II)I"⟩, 9) := ⟨⟨by decide +kernel, by decide +kernel⟩, List.mem_of_getElem? (i := 24) (by decide +kernel), List.mem_of_getElem? (i := 442) (by decide +kernel), List.mem_of_getElem? (i := 443) (by decide +kernel)⟩
theorem lw_p6 : lw_okq (⟨"BuskPitches", "hindranceOfBuskerNumber", "(I)I"⟩, 9) := ⟨⟨by decide +kernel, by decide +kernel⟩, List.mem_of_getElem? (i := 24) (by decide +kernel), List.mem_of_getElem? (i := 457) (by decide +kernel), List.mem_of_getElem? (i := 458) (by decide +kernel)⟩
theorem lw_p7 : lw_okq (⟨"BuskPitches", "hindranceOfJoin", "(I)I"⟩, 9) := ⟨⟨by decide +kernel, by decide +kernel⟩, List.mem_of_getElem? (i := 24) (by decide +kernel), List.mem_of_getElem? (i := 495) (by decide +kernel), List.mem_of_getElem? (i := 496) (by decide +kernel)⟩
theorem lw_p8 : lw_okq (⟨"BuskPitches", "hindranceOfDraw", "(II)I"⟩, 9) := ⟨⟨by decide +kernel, by decide +kernel⟩, List.mem_of_getElem? (i := 24) (by decide +kernel), List.mem_of_getElem? (i := 515) (by decide +kernel), List.mem_of_getElem? (i := 516) (by decide +kernel)⟩
theorem lw_p9 : lw_okq (⟨"BuskPitches", "hindranceOfLeave", "(I)I"⟩, 9) := ⟨⟨by decide +kernel, by decide +kernel⟩, List.mem_of_getElem? (i := 24) (by decide +kernel), List.mem_of_getElem? (i := 559) (by decide +kernel), List.mem_of_getElem? (i := 560) (by decide +kernel)⟩
theorem lw_p10 : lw_okq (⟨"BuskPitches", "hindranceOfSwap", "(II)I"⟩, 9) := ⟨⟨by decide +kernel, by decide +kernel⟩, List.mem_of_getElem? (i := 24) (by decide +kernel), List.mem_of_getElem? (i := 574) (by decide +kernel), List.mem_of_getElem? (i := 575) (by decide +kernel)⟩
theorem lw_p11 : lw_okq (⟨"BuskPitches", "hindranceOfStrings", "(I)I"⟩, 9) := ⟨⟨by decide +kernel, by decide +kernel⟩, List.mem_of_getElem? (i := 24) (by decide +kernel), List.mem_of_getElem? (i := 634) (by decide +kernel), List.mem_of_getElem? (i := 635) (by decide +kernel)⟩
theorem lw_p12 : lw_okq (⟨"BuskPitches$State", "wearOfHour", "(I)F"⟩, 18) := ⟨⟨by decide +kernel, by decide +kernel⟩, List.mem_of_getElem? (i := 32) (by decide +kernel), List.mem_of_getElem? (i := 654) (by decide +kernel), List.mem_of_getElem? (i := 655) (by decide +kernel)⟩
theorem lw_p13 : lw_okq (⟨"BuskPitches", "hindranceOfAnswer", "(I)I"⟩, 9) := ⟨⟨by decide +kernel, by decide +kernel⟩, List.mem_of_getElem? (i := 24) (by decide +kernel), List.mem_of_getElem? (i := 666) (by decide +kernel), List.mem_of_getElem? (i := 667) (by decide +kernel)⟩
theorem lw_p14 : lw_okq (⟨"BuskPitches", "hindranceOfRack", "(II)I"⟩, 9) := ⟨⟨by decide +kernel, by decide +kernel⟩, List.mem_of_getElem? (i := 24) (by decide +kernel), List.mem_of_getElem? (i := 681) (by decide +kernel), List.mem_of_getElem? (i := 682) (by decide +kernel)⟩
theorem lw_p15 : lw_okq (⟨"BuskPitches", "hindranceOfUnrack", "(I)I"⟩, 9) := ⟨⟨by decide +kernel, by decide +kernel⟩, List.mem_of_getElem? (i := 24) (by decide +kernel), List.mem_of_getElem? (i := 705) (by decide +kernel), List.mem_of_getElem? (i := 706) (by decide +kernel)⟩
def lw_privs_1 : List (MethodName × Nat) := [(⟨"BuskPitches$State", "noiseAround", "(IF)F"⟩, 18), (⟨"BuskPitches", "isNoiseTheSameTwice", "()Z"⟩, 9), (⟨"BuskPitches", "isNobodySharing", "()Z"⟩, 9), (⟨"java/lang/Throwable", "fillInStackTrace", "(I)Ljava/lang/Throwable;"⟩, 6), (⟨"BuskPitches", "hindranceOfBusker", "(II)I"⟩, 9), (⟨"BuskPitches", "refuse", "(II)I"⟩, 9), (⟨"BuskPitches", "hindranceOfBuskerNumber", "(I)I"⟩, 9), (⟨"BuskPitches", "hindranceOfJoin", "(I)I"⟩, 9), (⟨"BuskPitches", "hindranceOfDraw", "(II)I"⟩, 9), (⟨"BuskPitches", "hindranceOfLeave", "(I)I"⟩, 9), (⟨"BuskPitches", "hindranceOfSwap", "(II)I"⟩, 9), (⟨"BuskPitches", "hindranceOfStrings", "(I)I"⟩, 9), (⟨"BuskPitches$State", "wearOfHour", "(I)F"⟩, 18), (⟨"BuskPitches", "hindranceOfAnswer", "(I)I"⟩, 9), (⟨"BuskPitches", "hindranceOfRack", "(II)I"⟩, 9), (⟨"BuskPitches", "hindranceOfUnrack", "(I)I"⟩, 9)]
theorem lw_r1 : ∀ q ∈ lw_privs_1, lw_okq q := List.forall_mem_cons.mpr ⟨lw_p0, List.forall_mem_cons.mpr ⟨lw_p1, List.forall_mem_cons.mpr ⟨lw_p2, List.forall_mem_cons.mpr ⟨lw_p3, List.forall_mem_cons.mpr ⟨lw_p4, List.forall_mem_cons.mpr ⟨lw_p5, List.forall_mem_cons.mpr ⟨lw_p6, List.forall_mem_cons.mpr ⟨lw_p7, List.forall_mem_cons.mpr ⟨lw_p8, List.forall_mem_cons.mpr ⟨lw_p9, List.forall_mem_cons.mpr ⟨lw_p10, List.forall_mem_cons.mpr ⟨lw_p11, List.forall_mem_cons.mpr ⟨lw_p12, List.forall_mem_cons.mpr ⟨lw_p13, List.forall_mem_cons.mpr ⟨lw_p14, List.forall_mem_cons.mpr ⟨lw_p15, fun _ h => absurd h List.not_mem_nil⟩⟩⟩⟩⟩⟩⟩⟩⟩⟩⟩⟩⟩⟩⟩⟩
theorem lw_p16 : lw_okq (⟨"BuskPitches$State", "playHour", "(II)Z"⟩, 18) := ⟨⟨by decide +kernel, by decide +kernel⟩, List.mem_of_getElem? (i := 32) (by decide +kernel), List.mem_of_getElem? (i := 746) (by decide +kernel), List.mem_of_getElem? (i := 747) (by decide +kernel)⟩
theorem lw_p17 : lw_okq (⟨"BuskPitches$State", "takings", "(II)F"⟩, 18) := ⟨⟨by decide +kernel, by decide +kernel⟩, List.mem_of_getElem? (i := 32) (by decide +kernel), List.mem_of_getElem? (i := 751) (by decide +kernel), List.mem_of_getElem? (i := 752) (by decide +kernel)⟩
theorem lw_p18 : lw_okq (⟨"BuskPitches", "carryOut", "()I"⟩, 9) := ⟨⟨by decide +kernel, by decide +kernel⟩, List.mem_of_getElem? (i := 24) (by decide +kernel), List.mem_of_getElem? (i := 833) (by decide +kernel), List.mem_of_getElem? (i := 834) (by decide +kernel)⟩
theorem lw_p19 : lw_okq (⟨"BuskPitches", "carryOutOrder", "(II)I"⟩, 9) := ⟨⟨by decide +kernel, by decide +kernel⟩, List.mem_of_getElem? (i := 24) (by decide +kernel), List.mem_of_getElem? (i := 838) (by decide +kernel), List.mem_of_getElem? (i := 839) (by decide +kernel)⟩
theorem lw_p20 : lw_okq (⟨"BuskPitches", "tryDraw", "(II)I"⟩, 9) := ⟨⟨by decide +kernel, by decide +kernel⟩, List.mem_of_getElem? (i := 24) (by decide +kernel), List.mem_of_getElem? (i := 846) (by decide +kernel), List.mem_of_getElem? (i := 847) (by decide +kernel)⟩
theorem lw_p21 : lw_okq (⟨"BuskPitches", "hindranceOfOrder", "(CI)I"⟩, 9) := ⟨⟨by decide +kernel, by decide +kernel⟩, List.mem_of_getElem? (i := 24) (by decide +kernel), List.mem_of_getElem? (i := 850) (by decide +kernel), List.mem_of_getElem? (i := 851) (by decide +kernel)⟩
theorem lw_p22 : lw_okq (⟨"BuskPitches", "doOrder", "(CI)V"⟩, 9) := ⟨⟨by decide +kernel, by decide +kernel⟩, List.mem_of_getElem? (i := 24) (by decide +kernel), List.mem_of_getElem? (i := 854) (by decide +kernel), List.mem_of_getElem? (i := 855) (by decide +kernel)⟩
theorem lw_p23 : lw_okq (⟨"BuskPitchesModel", "putPitch", "(III)V"⟩, 21) := ⟨⟨by decide +kernel, by decide +kernel⟩, List.mem_of_getElem? (i := 935) (by decide +kernel), List.mem_of_getElem? (i := 954) (by decide +kernel), List.mem_of_getElem? (i := 955) (by decide +kernel)⟩
theorem lw_p24 : lw_okq (⟨"BuskPitchesModel", "fails", "(IZ)Z"⟩, 21) := ⟨⟨by decide +kernel, by decide +kernel⟩, List.mem_of_getElem? (i := 935) (by decide +kernel), List.mem_of_getElem? (i := 1033) (by decide +kernel), List.mem_of_getElem? (i := 1034) (by decide +kernel)⟩
theorem lw_p25 : lw_okq (⟨"BuskPitchesModel", "change", "()V"⟩, 21) := ⟨⟨by decide +kernel, by decide +kernel⟩, List.mem_of_getElem? (i := 935) (by decide +kernel), List.mem_of_getElem? (i := 1037) (by decide +kernel), List.mem_of_getElem? (i := 1038) (by decide +kernel)⟩
theorem lw_p26 : lw_okq (⟨"BuskPitchesModel", "remember", "([I)V"⟩, 21) := ⟨⟨by decide +kernel, by decide +kernel⟩, List.mem_of_getElem? (i := 935) (by decide +kernel), List.mem_of_getElem? (i := 1041) (by decide +kernel), List.mem_of_getElem? (i := 1042) (by decide +kernel)⟩
theorem lw_p27 : lw_okq (⟨"BuskPitchesModel", "ofPitch", "(II)I"⟩, 21) := ⟨⟨by decide +kernel, by decide +kernel⟩, List.mem_of_getElem? (i := 935) (by decide +kernel), List.mem_of_getElem? (i := 1055) (by decide +kernel), List.mem_of_getElem? (i := 1056) (by decide +kernel)⟩
theorem lw_p28 : lw_okq (⟨"BuskPitchesModel", "refuse", "(ZII)Z"⟩, 21) := ⟨⟨by decide +kernel, by decide +kernel⟩, List.mem_of_getElem? (i := 935) (by decide +kernel), List.mem_of_getElem? (i := 1063) (by decide +kernel), List.mem_of_getElem? (i := 1064) (by decide +kernel)⟩
theorem lw_p29 : lw_okq (⟨"BuskPitchesModel", "put", "(III)V"⟩, 21) := ⟨⟨by decide +kernel, by decide +kernel⟩, List.mem_of_getElem? (i := 935) (by decide +kernel), List.mem_of_getElem? (i := 1067) (by decide +kernel), List.mem_of_getElem? (i := 1068) (by decide +kernel)⟩
theorem lw_p30 : lw_okq (⟨"BuskPitchesModel", "putFloat", "(IIF)V"⟩, 21) := ⟨⟨by decide +kernel, by decide +kernel⟩, List.mem_of_getElem? (i := 935) (by decide +kernel), List.mem_of_getElem? (i := 1071) (by decide +kernel), List.mem_of_getElem? (i := 1072) (by decide +kernel)⟩
theorem lw_p31 : lw_okq (⟨"BuskPitchesModel", "isBusker", "(I)Z"⟩, 21) := ⟨⟨by decide +kernel, by decide +kernel⟩, List.mem_of_getElem? (i := 935) (by decide +kernel), List.mem_of_getElem? (i := 1079) (by decide +kernel), List.mem_of_getElem? (i := 1080) (by decide +kernel)⟩
def lw_privs_2 : List (MethodName × Nat) := [(⟨"BuskPitches$State", "playHour", "(II)Z"⟩, 18), (⟨"BuskPitches$State", "takings", "(II)F"⟩, 18), (⟨"BuskPitches", "carryOut", "()I"⟩, 9), (⟨"BuskPitches", "carryOutOrder", "(II)I"⟩, 9), (⟨"BuskPitches", "tryDraw", "(II)I"⟩, 9), (⟨"BuskPitches", "hindranceOfOrder", "(CI)I"⟩, 9), (⟨"BuskPitches", "doOrder", "(CI)V"⟩, 9), (⟨"BuskPitchesModel", "putPitch", "(III)V"⟩, 21), (⟨"BuskPitchesModel", "fails", "(IZ)Z"⟩, 21), (⟨"BuskPitchesModel", "change", "()V"⟩, 21), (⟨"BuskPitchesModel", "remember", "([I)V"⟩, 21), (⟨"BuskPitchesModel", "ofPitch", "(II)I"⟩, 21), (⟨"BuskPitchesModel", "refuse", "(ZII)Z"⟩, 21), (⟨"BuskPitchesModel", "put", "(III)V"⟩, 21), (⟨"BuskPitchesModel", "putFloat", "(IIF)V"⟩, 21), (⟨"BuskPitchesModel", "isBusker", "(I)Z"⟩, 21)]
theorem lw_r2 : ∀ q ∈ lw_privs_2, lw_okq q := List.forall_mem_cons.mpr ⟨lw_p16, List.forall_mem_cons.mpr ⟨lw_p17, List.forall_mem_cons.mpr ⟨lw_p18, List.forall_mem_cons.mpr ⟨lw_p19, List.forall_mem_cons.mpr ⟨lw_p20, List.forall_mem_cons.mpr ⟨lw_p21, List.forall_mem_cons.mpr ⟨lw_p22, List.forall_mem_cons.mpr ⟨lw_p23, List.forall_mem_cons.mpr ⟨lw_p24, List.forall_mem_cons.mpr ⟨lw_p25, List.forall_mem_cons.mpr ⟨lw_p26, List.forall_mem_cons.mpr ⟨lw_p27, List.forall_mem_cons.mpr ⟨lw_p28, List.forall_mem_cons.mpr ⟨lw_p29, List.forall_mem_cons.mpr ⟨lw_p30, List.forall_mem_cons.mpr ⟨lw_p31, fun _ h => absurd h List.not_mem_nil⟩⟩⟩⟩⟩⟩⟩⟩⟩⟩⟩⟩⟩⟩⟩⟩
theorem lw_p32 : lw_okq (⟨"BuskPitchesModel", "of", "(II)I"⟩, 21) := ⟨⟨by decide +kernel, by decide +kernel⟩, List.mem_of_getElem? (i := 935) (by decide +kernel), List.mem_of_getElem? (i := 1083) (by decide +kernel), List.mem_of_getElem? (i := 1084) (by decide +kernel)⟩
theorem lw_p33 : lw_okq (⟨"BuskPitchesModel", "placeInLine", "(I)I"⟩, 21) := ⟨⟨by decide +kernel, by decide +kernel⟩, List.mem_of_getElem? (i := 935) (by decide +kernel), List.mem_of_getElem? (i := 1087) (by decide +kernel), List.mem_of_getElem? (i := 1088) (by decide +kernel)⟩
theorem lw_p34 : lw_okq (⟨"BuskPitchesModel", "floatOf", "(II)F"⟩, 21) := ⟨⟨by decide +kernel, by decide +kernel⟩, List.mem_of_getElem? (i := 935) (by decide +kernel), List.mem_of_getElem? (i := 1095) (by decide +kernel), List.mem_of_getElem? (i := 1096) (by decide +kernel)⟩
theorem lw_p35 : lw_okq (⟨"BuskPitchesModel", "isJoinRefused", "(I)Z"⟩, 21) := ⟨⟨by decide +kernel, by decide +kernel⟩, List.mem_of_getElem? (i := 935) (by decide +kernel), List.mem_of_getElem? (i := 1114) (by decide +kernel), List.mem_of_getElem? (i := 1115) (by decide +kernel)⟩
theorem lw_p36 : lw_okq (⟨"BuskPitchesModel", "isSnapped", "(I)Z"⟩, 21) := ⟨⟨by decide +kernel, by decide +kernel⟩, List.mem_of_getElem? (i := 935) (by decide +kernel), List.mem_of_getElem? (i := 1118) (by decide +kernel), List.mem_of_getElem? (i := 1119) (by decide +kernel)⟩
theorem lw_p37 : lw_okq (⟨"BuskPitchesModel", "isDrawRefused", "(I)Z"⟩, 21) := ⟨⟨by decide +kernel, by decide +kernel⟩, List.mem_of_getElem? (i := 935) (by decide +kernel), List.mem_of_getElem? (i := 1126) (by decide +kernel), List.mem_of_getElem? (i := 1127) (by decide +kernel)⟩
theorem lw_p38 : lw_okq (⟨"BuskPitchesModel", "goHome", "(I)V"⟩, 21) := ⟨⟨by decide +kernel, by decide +kernel⟩, List.mem_of_getElem? (i := 935) (by decide +kernel), List.mem_of_getElem? (i := 1138) (by decide +kernel), List.mem_of_getElem? (i := 1139) (by decide +kernel)⟩
theorem lw_p39 : lw_okq (⟨"BuskPitchesModel", "isSwapRefused", "(II)Z"⟩, 21) := ⟨⟨by decide +kernel, by decide +kernel⟩, List.mem_of_getElem? (i := 935) (by decide +kernel), List.mem_of_getElem? (i := 1146) (by decide +kernel), List.mem_of_getElem? (i := 1147) (by decide +kernel)⟩
theorem lw_p40 : lw_okq (⟨"BuskPitchesModel", "noiseAt", "(I)F"⟩, 21) := ⟨⟨by decide +kernel, by decide +kernel⟩, List.mem_of_getElem? (i := 935) (by decide +kernel), List.mem_of_getElem? (i := 1154) (by decide +kernel), List.mem_of_getElem? (i := 1155) (by decide +kernel)⟩
theorem lw_p41 : lw_okq (⟨"BuskPitchesModel", "own", "(I)F"⟩, 21) := ⟨⟨by decide +kernel, by decide +kernel⟩, List.mem_of_getElem? (i := 935) (by decide +kernel), List.mem_of_getElem? (i := 1158) (by decide +kernel), List.mem_of_getElem? (i := 1159) (by decide +kernel)⟩
theorem lw_p42 : lw_okq (⟨"BuskPitchesModel", "ownOf", "(I)F"⟩, 21) := ⟨⟨by decide +kernel, by decide +kernel⟩, List.mem_of_getElem? (i := 935) (by decide +kernel), List.mem_of_getElem? (i := 1162) (by decide +kernel), List.mem_of_getElem? (i := 1163) (by decide +kernel)⟩
theorem lw_p43 : lw_okq (⟨"BuskPitchesModel", "noiseBy", "(IF)F"⟩, 21) := ⟨⟨by decide +kernel, by decide +kernel⟩, List.mem_of_getElem? (i := 935) (by decide +kernel), List.mem_of_getElem? (i := 1169) (by decide +kernel), List.mem_of_getElem? (i := 1170) (by decide +kernel)⟩
theorem lw_p44 : lw_okq (⟨"BuskPitchesModel", "limitOf", "(I)F"⟩, 21) := ⟨⟨by decide +kernel, by decide +kernel⟩, List.mem_of_getElem? (i := 935) (by decide +kernel), List.mem_of_getElem? (i := 1186) (by decide +kernel), List.mem_of_getElem? (i := 1187) (by decide +kernel)⟩
theorem lw_p45 : lw_okq (⟨"BuskPitchesModel", "isRackRefused", "(II)Z"⟩, 21) := ⟨⟨by decide +kernel, by decide +kernel⟩, List.mem_of_getElem? (i := 935) (by decide +kernel), List.mem_of_getElem? (i := 1218) (by decide +kernel), List.mem_of_getElem? (i := 1219) (by decide +kernel)⟩
theorem lw_p46 : lw_okq (⟨"BuskPitchesModel", "freePlace", "(I)I"⟩, 21) := ⟨⟨by decide +kernel, by decide +kernel⟩, List.mem_of_getElem? (i := 935) (by decide +kernel), List.mem_of_getElem? (i := 1222) (by decide +kernel), List.mem_of_getElem? (i := 1223) (by decide +kernel)⟩
theorem lw_p47 : lw_okq (⟨"BuskPitchesModel", "caseOn", "(II)I"⟩, 21) := ⟨⟨by decide +kernel, by decide +kernel⟩, List.mem_of_getElem? (i := 935) (by decide +kernel), List.mem_of_getElem? (i := 1226) (by decide +kernel), List.mem_of_getElem? (i := 1227) (by decide +kernel)⟩
def lw_privs_3 : List (MethodName × Nat) := [(⟨"BuskPitchesModel", "of", "(II)I"⟩, 21), (⟨"BuskPitchesModel", "placeInLine", "(I)I"⟩, 21), (⟨"BuskPitchesModel", "floatOf", "(II)F"⟩, 21), (⟨"BuskPitchesModel", "isJoinRefused", "(I)Z"⟩, 21), (⟨"BuskPitchesModel", "isSnapped", "(I)Z"⟩, 21), (⟨"BuskPitchesModel", "isDrawRefused", "(I)Z"⟩, 21), (⟨"BuskPitchesModel", "goHome", "(I)V"⟩, 21), (⟨"BuskPitchesModel", "isSwapRefused", "(II)Z"⟩, 21), (⟨"BuskPitchesModel", "noiseAt", "(I)F"⟩, 21), (⟨"BuskPitchesModel", "own", "(I)F"⟩, 21), (⟨"BuskPitchesModel", "ownOf", "(I)F"⟩, 21), (⟨"BuskPitchesModel", "noiseBy", "(IF)F"⟩, 21), (⟨"BuskPitchesModel", "limitOf", "(I)F"⟩, 21), (⟨"BuskPitchesModel", "isRackRefused", "(II)Z"⟩, 21), (⟨"BuskPitchesModel", "freePlace", "(I)I"⟩, 21), (⟨"BuskPitchesModel", "caseOn", "(II)I"⟩, 21)]
theorem lw_r3 : ∀ q ∈ lw_privs_3, lw_okq q := List.forall_mem_cons.mpr ⟨lw_p32, List.forall_mem_cons.mpr ⟨lw_p33, List.forall_mem_cons.mpr ⟨lw_p34, List.forall_mem_cons.mpr ⟨lw_p35, List.forall_mem_cons.mpr ⟨lw_p36, List.forall_mem_cons.mpr ⟨lw_p37, List.forall_mem_cons.mpr ⟨lw_p38, List.forall_mem_cons.mpr ⟨lw_p39, List.forall_mem_cons.mpr ⟨lw_p40, List.forall_mem_cons.mpr ⟨lw_p41, List.forall_mem_cons.mpr ⟨lw_p42, List.forall_mem_cons.mpr ⟨lw_p43, List.forall_mem_cons.mpr ⟨lw_p44, List.forall_mem_cons.mpr ⟨lw_p45, List.forall_mem_cons.mpr ⟨lw_p46, List.forall_mem_cons.mpr ⟨lw_p47, fun _ h => absurd h List.not_mem_nil⟩⟩⟩⟩⟩⟩⟩⟩⟩⟩⟩⟩⟩⟩⟩⟩
theorem lw_p48 : lw_okq (⟨"BuskPitchesModel", "isAhead", "(II)Z"⟩, 21) := ⟨⟨by decide +kernel, by decide +kernel⟩, List.mem_of_getElem? (i := 935) (by decide +kernel), List.mem_of_getElem? (i := 1242) (by decide +kernel), List.mem_of_getElem? (i := 1243) (by decide +kernel)⟩
theorem lw_p49 : lw_okq (⟨"BuskPitchesModel", "goHour", "()I"⟩, 21) := ⟨⟨by decide +kernel, by decide +kernel⟩, List.mem_of_getElem? (i := 935) (by decide +kernel), List.mem_of_getElem? (i := 1250) (by decide +kernel), List.mem_of_getElem? (i := 1251) (by decide +kernel)⟩
theorem lw_p50 : lw_okq (⟨"BuskPitchesModel", "play", "(II)Z"⟩, 21) := ⟨⟨by decide +kernel, by decide +kernel⟩, List.mem_of_getElem? (i := 935) (by decide +kernel), List.mem_of_getElem? (i := 1254) (by decide +kernel), List.mem_of_getElem? (i := 1255) (by decide +kernel)⟩
theorem lw_p51 : lw_okq (⟨"BuskPitchesModel", "playing", "()I"⟩, 21) := ⟨⟨by decide +kernel, by decide +kernel⟩, List.mem_of_getElem? (i := 935) (by decide +kernel), List.mem_of_getElem? (i := 1267) (by decide +kernel), List.mem_of_getElem? (i := 1268) (by decide +kernel)⟩
theorem lw_p52 : lw_okq (⟨"BuskPitchesModel", "countOrders", "()I"⟩, 21) := ⟨⟨by decide +kernel, by decide +kernel⟩, List.mem_of_getElem? (i := 935) (by decide +kernel), List.mem_of_getElem? (i := 1283) (by decide +kernel), List.mem_of_getElem? (i := 1284) (by decide +kernel)⟩
theorem lw_p53 : lw_okq (⟨"BuskPitchesModel", "readOrder", "()V"⟩, 21) := ⟨⟨by decide +kernel, by decide +kernel⟩, List.mem_of_getElem? (i := 935) (by decide +kernel), List.mem_of_getElem? (i := 1287) (by decide +kernel), List.mem_of_getElem? (i := 1288) (by decide +kernel)⟩
theorem lw_p54 : lw_okq (⟨"BuskPitchesModel", "readNumber", "(I)I"⟩, 21) := ⟨⟨by decide +kernel, by decide +kernel⟩, List.mem_of_getElem? (i := 935) (by decide +kernel), List.mem_of_getElem? (i := 1294) (by decide +kernel), List.mem_of_getElem? (i := 1295) (by decide +kernel)⟩
theorem lw_p55 : lw_okq (⟨"BuskPitchesModel", "sees", "(CC)Z"⟩, 21) := ⟨⟨by decide +kernel, by decide +kernel⟩, List.mem_of_getElem? (i := 935) (by decide +kernel), List.mem_of_getElem? (i := 1298) (by decide +kernel), List.mem_of_getElem? (i := 1299) (by decide +kernel)⟩
theorem lw_p56 : lw_okq (⟨"BuskPitchesModel", "must", "(C)V"⟩, 21) := ⟨⟨by decide +kernel, by decide +kernel⟩, List.mem_of_getElem? (i := 935) (by decide +kernel), List.mem_of_getElem? (i := 1302) (by decide +kernel), List.mem_of_getElem? (i := 1303) (by decide +kernel)⟩
theorem lw_p57 : lw_okq (⟨"BuskPitchesModel", "carryOut", "()I"⟩, 21) := ⟨⟨by decide +kernel, by decide +kernel⟩, List.mem_of_getElem? (i := 935) (by decide +kernel), List.mem_of_getElem? (i := 1306) (by decide +kernel), List.mem_of_getElem? (i := 1307) (by decide +kernel)⟩
theorem lw_p58 : lw_okq (⟨"BuskPitchesModel", "snapped", "()I"⟩, 21) := ⟨⟨by decide +kernel, by decide +kernel⟩, List.mem_of_getElem? (i := 935) (by decide +kernel), List.mem_of_getElem? (i := 1329) (by decide +kernel), List.mem_of_getElem? (i := 1330) (by decide +kernel)⟩
theorem lw_p59 : lw_okq (⟨"BuskPitchesModel", "complaints", "()I"⟩, 21) := ⟨⟨by decide +kernel, by decide +kernel⟩, List.mem_of_getElem? (i := 935) (by decide +kernel), List.mem_of_getElem? (i := 1333) (by decide +kernel), List.mem_of_getElem? (i := 1334) (by decide +kernel)⟩
theorem lw_p60 : lw_okq (⟨"BuskPitchesModel", "otherAccount", "(I)I"⟩, 21) := ⟨⟨by decide +kernel, by decide +kernel⟩, List.mem_of_getElem? (i := 935) (by decide +kernel), List.mem_of_getElem? (i := 1337) (by decide +kernel), List.mem_of_getElem? (i := 1338) (by decide +kernel)⟩
theorem lw_p61 : lw_okq (⟨"BuskPitchesModel", "cases", "()I"⟩, 21) := ⟨⟨by decide +kernel, by decide +kernel⟩, List.mem_of_getElem? (i := 935) (by decide +kernel), List.mem_of_getElem? (i := 1341) (by decide +kernel), List.mem_of_getElem? (i := 1342) (by decide +kernel)⟩
def lw_privs_4 : List (MethodName × Nat) := [(⟨"BuskPitchesModel", "isAhead", "(II)Z"⟩, 21), (⟨"BuskPitchesModel", "goHour", "()I"⟩, 21), (⟨"BuskPitchesModel", "play", "(II)Z"⟩, 21), (⟨"BuskPitchesModel", "playing", "()I"⟩, 21), (⟨"BuskPitchesModel", "countOrders", "()I"⟩, 21), (⟨"BuskPitchesModel", "readOrder", "()V"⟩, 21), (⟨"BuskPitchesModel", "readNumber", "(I)I"⟩, 21), (⟨"BuskPitchesModel", "sees", "(CC)Z"⟩, 21), (⟨"BuskPitchesModel", "must", "(C)V"⟩, 21), (⟨"BuskPitchesModel", "carryOut", "()I"⟩, 21), (⟨"BuskPitchesModel", "snapped", "()I"⟩, 21), (⟨"BuskPitchesModel", "complaints", "()I"⟩, 21), (⟨"BuskPitchesModel", "otherAccount", "(I)I"⟩, 21), (⟨"BuskPitchesModel", "cases", "()I"⟩, 21)]
theorem lw_r4 : ∀ q ∈ lw_privs_4, lw_okq q := List.forall_mem_cons.mpr ⟨lw_p48, List.forall_mem_cons.mpr ⟨lw_p49, List.forall_mem_cons.mpr ⟨lw_p50, List.forall_mem_cons.mpr ⟨lw_p51, List.forall_mem_cons.mpr ⟨lw_p52, List.forall_mem_cons.mpr ⟨lw_p53, List.forall_mem_cons.mpr ⟨lw_p54, List.forall_mem_cons.mpr ⟨lw_p55, List.forall_mem_cons.mpr ⟨lw_p56, List.forall_mem_cons.mpr ⟨lw_p57, List.forall_mem_cons.mpr ⟨lw_p58, List.forall_mem_cons.mpr ⟨lw_p59, List.forall_mem_cons.mpr ⟨lw_p60, List.forall_mem_cons.mpr ⟨lw_p61, fun _ h => absurd h List.not_mem_nil⟩⟩⟩⟩⟩⟩⟩⟩⟩⟩⟩⟩⟩⟩
def lw_privs : List (MethodName × Nat) := lw_privs_1 ++ (lw_privs_2 ++ (lw_privs_3 ++ (lw_privs_4)))
def lw_tbl : List Cond := k2_sels lw_privs ++ tables_1
theorem lw_privs_ok : ∀ q ∈ lw_privs, lw_okq q := by
  show ∀ q ∈ lw_privs_1 ++ (lw_privs_2 ++ (lw_privs_3 ++ (lw_privs_4))), lw_okq q
  exact List.forall_mem_append.mpr ⟨lw_r1, List.forall_mem_append.mpr ⟨lw_r2, List.forall_mem_append.mpr ⟨lw_r3, lw_r4⟩⟩⟩
/-- the streams that the claim lets the run draw from -/
abbrev lw_cs : List Choice := [Jvm.Choice.named "NaN.bits", Jvm.Choice.named "NaN.copy"]
theorem lw_bits : nanBits ∈ lw_cs := by first | decide | exact List.mem_cons_self | simp [lw_cs, nanBits]
-- ===== end of PART A; then your names; then what follows =====
end
section
/-! ===== BEGIN words of one list among another's, by their places ===== -/
theorem goodIn_r {big : List Cond} (ws : List Cond) (ps : List Nat) (hp : ws = ps.filterMap (fun i => big[i]?)) (h : ws.all goodWord = true) : GoodIn big ws := by
  intro w hw
  have h1 := List.all_eq_true.mp h w hw
  rw [hp] at hw
  obtain ⟨i, -, hi⟩ := List.mem_filterMap.mp hw
  have hm : w ∈ big := by first | exact List.mem_of_getElem? hi | exact List.getElem?_mem hi
  exact ⟨hm, good_of_word h1⟩
theorem goodIn_app {big a b : List Cond} (ha : GoodIn big a) (hb : GoodIn big b) : GoodIn big (a ++ b) := fun w h => (List.mem_append.mp h).elim (ha w) (hb w)
theorem goodIn_ca {big a b : List Cond} {c : Cond} (ha : GoodIn big (c :: a)) (hb : GoodIn big b) : GoodIn big (c :: (a ++ b)) := fun w h => (List.mem_cons.mp h).elim (fun e => ha w (List.mem_cons.mpr (Or.inl e))) (fun h => (List.mem_append.mp h).elim (fun h => ha w (List.mem_cons.mpr (Or.inr h))) (hb w))
theorem goodIn_sub {big ws : List Cond} (hm : ∀ w ∈ ws, w ∈ big) (h : ws.all goodWord = true) : GoodIn big ws := fun w hw => ⟨hm w hw, good_of_word (List.all_eq_true.mp h w hw)⟩
/-! ===== END ===== -/

def va_AOA (ty : FieldType) (U : State) : Prop := (Cond.arrayOver (.array ty)).before #[] U = true
theorem va_AOA.use {ty : FieldType} {A : Array Value} {U : State} (h : va_AOA ty U) : (Cond.arrayOver (.array ty)).before A U = true := h
/-! ===== BEGIN new T[n][m]: the outer array a place, the inner ones among the pooled ===== -/
/-- f, but v at every address of l -/
def vr_up {α : Type} (f : Nat → α) (l : List Nat) (v : α) : Nat → α := fun a => if a ∈ l then v else f a
theorem vr_up_in {α : Type} {f : Nat → α} {l : List Nat} {v : α} {a : Nat} (h : a ∈ l) : vr_up f l v a = v := if_pos h
theorem vr_up_ne {α : Type} {f : Nat → α} {l : List Nat} {v : α} {a : Nat} (h : a ∉ l) : vr_up f l v a = f a := if_neg h
theorem vr_rows {L l : List Nat} {f : Nat → va_E} {e : va_E} (h : ∀ a, a ∈ l → a ∉ L) : va_pl L f ++ l.map (fun a => (a, e)) = va_pl (L ++ l) (vr_up f l e) := by
  unfold va_pl
  rw [List.map_append]
  congr 1
  · apply List.map_congr_left
    intro a ha
    rw [vr_up_ne (fun q => h a q ha)]
  · apply List.map_congr_left
    intro a ha
    rw [vr_up_in ha]
theorem vr_lay {X rows : va_W} {x : Nat × va_E} {pl : va_W} {D : va_G} {cl : List vw_C} {H : Heap} (hP : va_P D cl (((X ++ pl) ++ [x]) ++ rows) H) : va_P D cl ((X ++ [x]) ++ (pl ++ rows)) H := by
  rw [List.append_assoc (X ++ pl)] at hP
  have h := va_P.swap hP
  rw [← List.append_assoc X] at h
  have h2 := va_P.swap h
  rw [List.append_assoc (X ++ [x])] at h2
  exact h2
theorem vr_layD {X rows : va_W} {x : Nat × va_E} {pl : va_W} {A : Nat → Prop} (hD : va_D A (((X ++ pl) ++ [x]) ++ rows)) : va_D A ((X ++ [x]) ++ (pl ++ rows)) := by
  rw [List.append_assoc (X ++ pl)] at hD
  have h := va_D.swap hD
  rw [← List.append_assoc X] at h
  have h2 := va_D.swap h
  rw [List.append_assoc (X ++ [x])] at h2
  exact h2
theorem vr_outer (c : ClassId) (N h0 : Nat) : ∀ i : Nat, Jvm.Free.Multi.outerC c N h0 i = arrV c N (fun j => va_rf (if j < i then some (h0 + 1 + j) else none))
  | 0 => by
    show ({ cls := c, slots := Array.replicate N .null, vm := .none } : Cell) = _
    rw [arrV_new]
    refine congrArg (arrV c N) (funext fun j => ?_)
    simp [va_rf]
  | i + 1 => by
    show (Jvm.Free.Multi.outerC c N h0 i).setSlot i (.ref (h0 + 1 + i)) = _
    rw [vr_outer c N h0 i, arrV_store]
    refine congrArg (arrV c N) (funext fun j => ?_)
    by_cases e : j = i
    · subst e
      simp [updV, va_rf]
    · by_cases h : j < i
      · simp [updV, e, h, Nat.lt_succ_of_lt h]
      · simp [updV, e, h, show ¬ j < i + 1 by omega]
section VGM
variable {p : Program} {l : Launch} {e : Env} {R : Room} {s : State} {m : MethodId} {args : Array Value} {below : List Frame} {meth : Method} {c : Code} {H : Heap} {locs : List Loc} {cells slots : Nat} {Q : State → Prop}
variable {cc : ByteArray} {pc : Nat} {ls : Array Slot} {rest : List Value} {D : va_G} {cl : List vw_C} {A : Nat → Prop} {a : Nat} {tys : List (ClassId × FieldType)} {ws : va_W} {H0 : Heap}
theorem va_mna {X : va_W} {L : List Nat} {f : Nat → va_E} {cc : ByteArray} (hexec : p.tables.exec = Jvm.exec) (hb : c.code = cc) {own : String} {index : Nat} {ty : FieldType} {cy : ClassId} (hown : s.vm.findClass own = some m.cls) (hclink : (Cond.classLink own index ("[" ++ (FieldType.array ty).toString)).before args s = true) (hover : va_AOA ty s) (harr : (Cond.arrayClass ty).before args s = true) (hcy : s.vm.findClass (FieldType.array ty).toString = some cy)
    (hK : va_K D cl tys s) (hP : va_P D cl (X ++ va_pl L f) H) (hD : va_D A (X ++ va_pl L f)) (hS : va_S A H0 H locs) (hA : ∀ q, H0.size ≤ q → A q) {n k : Int32} {N' K' : Nat} {z : vp_A} (hn : ¬ n < 0) (hk : ¬ k < 0) (hN : n.toNatClampNeg = N') (hM : k.toNatClampNeg = K')
    (hb1 : N' * 4 ≤ 536870912) (hb2 : K' * componentBytes ty ≤ 536870912) (hb3 : K' ≤ 536870912) (hdf : fits ty (defaultValue ty) = true) (hdd : (defaultValue ty).isDefault = true) (hcells : cells + (1 + N') ≤ R.cells) (hslots : slots + (N' + N' * K') ≤ R.slots) (hz : ∀ c : ClassId, Jvm.Free.Multi.innerC c K' (defaultValue ty) = vp_cell c z) (hdg : decode cc pc = .ok (.multianewarray index 2, 4))
    (kk : ∀ (q : Nat) (r : Nat → Nat) (cA : ClassId) (H1 : Heap), (∀ i j : Nat, i < N' → j < N' → r i = r j → i = j) → (∀ i : Nat, i < N' → r i ∉ L) → va_K D cl (tys ++ [(cA, .array ty)]) s →
      va_P D cl ((X ++ [(q, .inl (cA, N', .inr (.inr (.inr (.inr (fun i => if i < N' then some (r i) else none))))))]) ++ va_pl (L ++ (List.range N').map r) (vr_up f ((List.range N').map r) (.inl (cy, z)))) H1 → va_D A ((X ++ [(q, .inl (cA, N', .inr (.inr (.inr (.inr (fun i => if i < N' then some (r i) else none))))))]) ++ va_pl (L ++ (List.range N').map r) (vr_up f ((List.range N').map r) (.inl (cy, z)))) → va_S A H0 H1 locs →
      W p l e R s m args below meth c H1 locs (cells + 1 + N') (slots + N' + N' * K') Q (F0 m (pc + 4) ls (.ref q :: rest))) : W p l e R s m args below meth c H locs cells slots Q (F0 m pc ls (.int k :: .int n :: rest)) := by
  subst hN
  subst hM
  intro T hT Xs
  obtain ⟨vm₁, cA, comp, -, fA, fC, hO, -, X', step⟩ := Xs.multianewarray2F hexec hown hclink (va_AOA.use hover) harr (g := F0 m pc ls (.int k :: .int n :: rest)) rfl (by rw [hb]; exact hdg) rfl hn hk hb1 hb2 hb3 hdf hdd hcells hslots
  have ec : some cy = some comp := hcy.symm.trans fC
  cases ec
  generalize hF : Jvm.Free.Multi.fill (T.setVm vm₁) cA cy n.toNatClampNeg k.toNatClampNeg (defaultValue ty) n.toNatClampNeg = F at X' step
  have hTh : (T.setVm vm₁).heap = H := hT
  obtain ⟨f1, f2, -, -⟩ := Jvm.Free.Multi.fill_facts (T.setVm vm₁) cA cy n.toNatClampNeg k.toNatClampNeg (defaultValue ty) n.toNatClampNeg
  rw [hF, hTh] at f1 f2
  have hold : ∀ x : Nat, x < H.size → F.heap[x]? = H[x]? := fun x hx => by
    have := Jvm.Free.Multi.fill_old (T.setVm vm₁) cA cy n.toNatClampNeg k.toNatClampNeg (defaultValue ty) (a := x) (by rw [hTh]; exact hx) n.toNatClampNeg
    rw [hF, hTh] at this
    exact this
  have hrow : ∀ j : Nat, j < n.toNatClampNeg → F.heap[H.size + 1 + j]? = some (vp_cell cy z) := fun j hj => by
    have := Jvm.Free.Multi.fill_inner (T.setVm vm₁) cA cy n.toNatClampNeg k.toNatClampNeg (defaultValue ty) n.toNatClampNeg j hj
    rw [hF, hTh, hz] at this
    exact this
  have hout : Jvm.Free.Multi.outerC cA n.toNatClampNeg H.size n.toNatClampNeg = vp_cell cA (n.toNatClampNeg, .inr (.inr (.inr (.inr (fun i => if i < n.toNatClampNeg then some (H.size + 1 + i) else none))))) := by
    rw [vp_cell_q]
    exact vr_outer cA n.toNatClampNeg H.size n.toNatClampNeg
  rw [hout] at f2
  have hlt : ∀ a, a ∈ L → a < H.size := fun a ha => by
    obtain ⟨k9, hk9⟩ := va_pl_get (X := X) (f := f) ha
    exact (hP k9 _ hk9).lt
  have hnl : ∀ i : Nat, i < n.toNatClampNeg → H.size + 1 + i ∉ L := fun i _ h => by
    have := hlt _ h
    omega
  have hnm : ∀ a, a ∈ (List.range n.toNatClampNeg).map (fun i => H.size + 1 + i) → a ∉ L := fun a ha h => by
    obtain ⟨i, -, rfl⟩ := List.mem_map.mp ha
    have := hlt _ h
    omega
  have hP0 : va_P D cl (X ++ va_pl L f) F.heap := hP.kept (fun k9 x hx => hold x.1 ((hP k9 x hx).lt))
  have hP1 : va_P D cl ((X ++ va_pl L f) ++ [(H.size, .inl (cA, n.toNatClampNeg, .inr (.inr (.inr (.inr (fun i => if i < n.toNatClampNeg then some (H.size + 1 + i) else none))))))]) F.heap := hP0.app (fun k9 x hx => by
    have h0 : k9 < 1 := (List.getElem?_eq_some_iff.mp hx).1
    rw [show k9 = 0 by omega] at hx
    cases hx
    exact f2)
  have hP2 : va_P D cl (((X ++ va_pl L f) ++ [(H.size, .inl (cA, n.toNatClampNeg, .inr (.inr (.inr (.inr (fun i => if i < n.toNatClampNeg then some (H.size + 1 + i) else none))))))]) ++ ((List.range n.toNatClampNeg).map (fun i => H.size + 1 + i)).map (fun a => (a, .inl (cy, z)))) F.heap := hP1.app (fun k9 x hx => by
    obtain ⟨a, ha, rfl⟩ := List.mem_map.mp (List.mem_of_getElem? hx)
    obtain ⟨i, hi, rfl⟩ := List.mem_map.mp ha
    exact hrow i (List.mem_range.mp hi))
  have hD2 : va_D A (((X ++ va_pl L f) ++ [(H.size, .inl (cA, n.toNatClampNeg, .inr (.inr (.inr (.inr (fun i => if i < n.toNatClampNeg then some (H.size + 1 + i) else none))))))]) ++ ((List.range n.toNatClampNeg).map (fun i => H.size + 1 + i)).map (fun a => (a, .inl (cy, z)))) := by
    have hD1 := hD.push (e := .inl (cA, n.toNatClampNeg, .inr (.inr (.inr (.inr (fun i => if i < n.toNatClampNeg then some (H.size + 1 + i) else none)))))) hP rfl (hA _ hS.1)
    generalize hW1 : (X ++ va_pl L f) ++ [(H.size, .inl (cA, n.toNatClampNeg, .inr (.inr (.inr (.inr (fun i => if i < n.toNatClampNeg then some (H.size + 1 + i) else none))))))] = W1 at hD1 hP1 ⊢
    have hle : ∀ (k9 : Nat) (x : Nat × va_E), W1[k9]? = some x → x.1 ≤ H.size := fun k9 x hx => by
      rw [← hW1] at hx
      by_cases hl : k9 < (X ++ va_pl L f).length
      · rw [List.getElem?_append_left hl] at hx
        exact Nat.le_of_lt ((hP k9 x hx).lt)
      · rw [List.getElem?_append_right (by omega)] at hx
        have h0 : k9 - (X ++ va_pl L f).length < 1 := (List.getElem?_eq_some_iff.mp hx).1
        rw [show k9 - (X ++ va_pl L f).length = 0 by omega] at hx
        cases hx
        exact Nat.le_refl _
    have hr : ∀ (k9 : Nat) (x : Nat × va_E), (((List.range n.toNatClampNeg).map (fun i => H.size + 1 + i)).map (fun a => ((a, .inl (cy, z)) : Nat × va_E)))[k9]? = some x → x.1 = H.size + 1 + k9 := fun k9 x hx => by
      rw [List.getElem?_map, List.getElem?_map] at hx
      by_cases h9 : k9 < n.toNatClampNeg
      · rw [List.getElem?_range h9] at hx
        cases hx
        rfl
      · have hn0 : (List.range n.toNatClampNeg)[k9]? = none := List.getElem?_eq_none (by rw [List.length_range]; omega)
        rw [hn0] at hx
        cases hx
    refine ⟨fun i j x y hi hj hxy => ?_, fun k9 x hx => ?_⟩
    · by_cases h1 : i < W1.length <;> by_cases h2 : j < W1.length
      · rw [List.getElem?_append_left h1] at hi
        rw [List.getElem?_append_left h2] at hj
        exact hD1.1 i j x y hi hj hxy
      · rw [List.getElem?_append_left h1] at hi
        rw [List.getElem?_append_right (by omega)] at hj
        have := hle _ _ hi
        have := hr _ _ hj
        omega
      · rw [List.getElem?_append_right (by omega)] at hi
        rw [List.getElem?_append_left h2] at hj
        have := hle _ _ hj
        have := hr _ _ hi
        omega
      · rw [List.getElem?_append_right (by omega)] at hi hj
        have := hr _ _ hi
        have := hr _ _ hj
        omega
    · by_cases h1 : k9 < W1.length
      · rw [List.getElem?_append_left h1] at hx
        exact hD1.2 k9 x hx
      · rw [List.getElem?_append_right (by omega)] at hx
        have := hr _ _ hx
        exact hA _ (by have := hS.1; omega)
  have hAr : ArrOfT s cA (.array ty) := fun N9 z9 => by
    obtain ⟨-, k9, hk9, cm9, hkk9⟩ := (hO 0 0 0).1
    exact ⟨(fun q hq => by cases hq), k9, hk9, cm9, hkk9⟩
  have hK2 : va_K D cl (tys ++ [(cA, .array ty)]) s := ⟨hK.1, fun k9 x hx => by
    by_cases hl : k9 < tys.length
    · rw [List.getElem?_append_left hl] at hx
      exact hK.2 k9 x hx
    · rw [List.getElem?_append_right (by omega)] at hx
      have h0 : k9 - tys.length < 1 := (List.getElem?_eq_some_iff.mp hx).1
      rw [show k9 - tys.length = 0 by omega] at hx
      cases hx
      exact ⟨hAr, fA⟩⟩
  obtain ⟨t, a1, b1⟩ := kk H.size (fun i => H.size + 1 + i) cA F.heap (fun i j _ _ h => by have h9 : H.size + 1 + i = H.size + 1 + j := h; omega) hnl hK2 (by rw [← vr_rows hnm]; exact vr_lay hP2) (by rw [← vr_rows hnm]; exact vr_layD hD2) ⟨by rw [f1]; have := hS.1; omega, fun x h1 h2 => (hold x (Nat.lt_of_lt_of_le h1 hS.1)).trans (hS.2.1 x h1 h2), hS.2.2⟩ F rfl X'
  refine ⟨t, step t ?_, b1⟩
  have e : T.heap.size = H.size := by rw [hT]
  rw [e]
  exact a1
end VGM
/-! ===== END ===== -/

/-! ===== BEGIN exceptions that leave a method, and their catching by the caller (launches without stack traces) ===== -/
section VXA
/-! The laws vx_back, vx_callV, vx_callS, vx_callSW, vx_throw0, vx_throwS follow proofs of the library, with one case more: JvmDerived/Free/Laws.lean (Back.of_free), Shelf42/LK1.lean (callV, callS), Shelf/KitTraced.lean (throwNew0V, throwNewS). -/
/-- where a method has thrown q: the class by its name, the cell, what was written, the world -/
def vx_T (XC : String → State → State → Prop) (st : State) (q : Addr) (t : State) (mc ms : Nat) (free : Addr → Prop) : Prop :=
  ∃ (E : String) (ce : Cell) (L : List Loc), XC E st t ∧ t.heap[q]? = some ce ∧ ce.vm = .none ∧ st.vm.findClass E = some ce.cls ∧ st.WarmedH t.vm ∧ st.sameButNew ({ t with vm := st.vm } : State) L mc ms ∧ ∀ z ∈ L, free z.base
def vx_Q (Qc : Array Value → State → Outcome → State → Prop) (XC : String → State → State → Prop) (mc ms : Nat) (free : Addr → Prop) : Array Value → State → Outcome → State → Prop := fun a st o t =>
  (Qc a st o t ∧ ∃ L, FrameEnd st o t L mc ms ∧ ∀ q ∈ L, free q.base) ∨ ∃ q, o = .threw q ∧ vx_T XC st q t mc ms free
/-- a callee that returns or throws -/
def vx_Met (l : Launch) (y : MethodName) (ws : List Cond) (rm : Room) (Pc : Array Value → State → Prop) (Qc : Array Value → State → Outcome → State → Prop) (XC : String → State → State → Prop) (mc ms : Nat) (free : Addr → Prop) : Prop :=
  MetFree l y (headSpec ws rm) Pc (fun _ _ _ _ _ => True) (vx_Q Qc XC mc ms free)
def vx_Post (XC : String → State → State → Prop) (mc ms : Nat) (free : Addr → Prop) : Pt → Array Value → Addr → Pt → Prop := fun A a q B =>
  ∃ (g : JFrame) (mk : MethodId) (t : State) (L : List Loc) (E : String) (ce : Cell), B.U.heap = t.heap ∧ B.U.vm = t.vm ∧ XC E (A.U.calling g mk a) t ∧ t.heap[q]? = some ce ∧ ce.vm = .none ∧ A.U.vm.findClass E = some ce.cls ∧ B.locs = A.locs ++ L ∧ (∀ z ∈ L, free z.base) ∧ B.cells = A.cells + mc ∧ B.slots = A.slots + ms
def vx_Back (l : Launch) (R : Room) (p : Program) (e : Env) (below : List Frame) (s : State) (sargs : Array Value) (y : MethodName) (len W9 : Nat)
    (Pre : Pt → Array Value → Prop) (Post : Pt → Array Value → Option Value → Pt → Prop) (PostX : Pt → Array Value → Addr → Pt → Prop) : Prop :=
  ∀ (m : MethodId) (meth : Method) (c : Code) (A : Pt) (g : JFrame) (ig : Instr) (mk : MethodId) (a : Array Value),
    Stand p l e R s m sargs below meth c A.U A.locs A.cells A.slots → g.method = m → g.locals.size = c.maxLocals → decode c.code g.pc = .ok (ig, len) →
    2 * g.monitorRoom + (g.stack.map fun v => v.category).sum ≤ W9 → A.U.methodNamed? y = some mk → Pre A a →
    (∃ (v : Option Value) (B : Pt), Stand p l e R s m sargs below meth c B.U B.locs B.cells B.slots ∧ Post A a v B ∧
      Steps p.tables e below (doInvoke e (A.U.setTop g) [] mk a).1 (B.U.setTop { g with pc := g.pc + len, stack := v.toList ++ g.stack })) ∨
    (∃ (q : Addr) (B : Pt), Stand p l e R s m sargs below meth c B.U B.locs B.cells B.slots ∧ PostX A a q B ∧
      Steps p.tables e below (doInvoke e (A.U.setTop g) [] mk a).1 ((B.U.setTop g).pushFrame (.throwing q)))
section Payer
variable {l : Launch} {R : Room} {p : Program} {e : Env} {below : List Frame} {s : State} {sargs : Array Value} {y : MethodName} {len W9 : Nat}
theorem vx_back {ws : List Cond} {rm : Room} {Pc : Array Value → State → Prop} {Qc : Array Value → State → Outcome → State → Prop} {XC : String → State → State → Prop} {mc ms : Nat} {free : Addr → Prop} {bytes : ByteArray} {maxL : Nat} {ret : Option FieldType}
    (hM : vx_Met l y ws rm Pc Qc XC mc ms free) (hblind : FrameBlind Pc) (hrc : rm.cells = mc) (hrs : rm.slots = ms)
    (hframes : rm.frames + 1 ≤ R.frames) (hlocals : W9 + (maxL + 11) + rm.locals ≤ R.locals)
    (hws : ∀ w ∈ ws, ∀ a' U, s.WarmedH U.vm → w.before a' U = true) (hcode : Cond.code y bytes maxL ret ∈ ws) (hinit : ∀ a' U, s.WarmedH U.vm → (Cond.initialized y.cls).before a' U = true) :
    vx_Back l R p e below s sargs y len W9 (PreOf R mc ms Pc) (PostOf Qc mc ms free) (vx_Post XC mc ms free) := by
  intro m meth c A g ig mk a X hg hsize hdg hW hn hp
  have h1 : (headSpec ws rm).pre.before a A.U = true := atoms_intro fun w hw => hws w hw _ _ X.warmed
  have h2 : (Cond.code y bytes maxL ret).before a A.U = true := hws _ hcode _ _ X.warmed
  have h3 : (Cond.initialized y.cls).before a A.U = true := hinit _ _ X.warmed
  have h4 : A.cells + (headSpec ws rm).room.cells ≤ R.cells := by rw [show (headSpec ws rm).room.cells = mc from hrc]; exact hp.1
  have h5 : A.slots + (headSpec ws rm).room.slots ≤ R.slots := by rw [show (headSpec ws rm).room.slots = ms from hrs]; exact hp.2.1
  have hPc : Pc a (A.U.calling g mk a) := hblind _ _ _ _ hp.2.2
  obtain ⟨U, Ls, c0, s0⟩ := A
  dsimp only [Pt.U, Pt.locs, Pt.cells, Pt.slots] at h1 h2 h3 h4 h5 X hn hPc ⊢
  obtain ⟨methY, cY, hmY, hcY, -, hlY, -, -, -, -⟩ := Cond.code_spec hn h2
  obtain ⟨kY, hkY, -⟩ := className_of_methodNamed hn
  have hinitY : kY.init = .initialized := Cond.initialized_spec (findClass_of_methodNamed hn) hkY h3
  have h : At U g.method c below := by rw [hg]; exact X.here
  have hlocals9 : W9 + (maxL + 11) + (headSpec ws rm).room.locals ≤ R.locals := hlocals
  have happ : (headSpec ws rm).appliesLoose y e.platform (U.calling g mk a) = true :=
    Spec.appliesLoose_calling (g := g) h hdg hn hkY hinitY
      (X.room_calling (g := g) (R' := (headSpec ws rm).room) hsize hmY hcY hframes (by rw [hlY]; omega) h4 h5) h1
  obtain ⟨mid, hmid⟩ := h.above
  have hfr : (U.setTop g).frames = (.java g :: mid) ++ below := by rw [State.frames_setTop' g h.top, hmid]; rfl
  obtain ⟨o, s₂, hsteps, -, hend, hq⟩ := Steps.callFree hM p X.admits X.cas X.clock (acts := []) hfr happ hPc trivial
  have hq' : vx_Q Qc XC mc ms free a (U.calling g mk a) o s₂ := hq
  rw [State.frames_setTop' g h.top] at hend
  obtain ⟨g₀, hg0⟩ := Option.isSome_iff_exists.mp h.top
  obtain ⟨r, hr⟩ := State.topJava?_eq_some.mp hg0
  have hr' : (({ U with heap := s₂.heap, slotsUsed := s₂.slotsUsed } : State).setVm s₂.vm).frames = .java g₀ :: r := hr
  rcases hq' with ⟨hqc, L, hfe, hL⟩ | ⟨q, rfl, E, ce, L, hx, hce, hcv, hcl, hW₂, hsm, hL⟩
  · obtain ⟨⟨v, rfl⟩, hW₂, e2, q2, q3, q4, q5, q6⟩ := id hfe
    have e3 : s₂ = ({ (U.calling g mk a).setFrames s₂.frames with heap := s₂.heap, slotsUsed := s₂.slotsUsed } : State).setVm s₂.vm := by
      have : s₂ = ({ s₂ with vm := (U.calling g mk a).vm } : State).setVm s₂.vm := rfl
      rw [e2] at this
      exact this
    obtain ⟨c₂, i₂, len₂, hc₂, hd₂, hf₂⟩ := hend
    have hW' : U.WarmedH s₂.vm := hW₂
    have hcc : c₂ = c := by
      have h1 : s₂.code? g.method = U.code? g.method := by
        rw [State.code?_eq, State.code?_eq, hW'.alike.method?]
      exact Option.some.inj (hc₂.symm.trans (h1.trans h.code))
    subst hcc
    have hlen : len₂ = len := by rw [hdg] at hd₂; cases hd₂; rfl
    subst hlen
    have hs₂ : s₂ = (({ U with heap := s₂.heap, slotsUsed := s₂.slotsUsed } : State).setVm s₂.vm).setTop { g with pc := g.pc + len₂, stack := v.toList ++ g.stack } := by
      refine e3.trans ?_
      rw [hf₂, State.calling_eq h.top, State.setFrames_setFrames, State.setTop_of_frames _ hr', hr]
      rfl
    have hsame : U.sameButNew ({ U with heap := s₂.heap, slotsUsed := s₂.slotsUsed } : State) L mc ms := by
      refine ⟨?_, q2, q3, q4, q5, q6⟩
      obtain ⟨t, ht, -⟩ := State.frames_cons hr
      show ({ U with heap := s₂.heap, slotsUsed := s₂.slotsUsed } : State) = { U.setFrames U.frames with heap := s₂.heap, slotsUsed := s₂.slotsUsed }
      rw [State.setFrames_self ht]
    subst hg
    refine Or.inl ⟨v, ⟨(({ U with heap := s₂.heap, slotsUsed := s₂.slotsUsed } : State).setVm s₂.vm), Ls ++ L, c0 + mc, s0 + ms⟩,
      ⟨X.admits, X.cas, X.clock, X.frames, X.room, X.hears, X.method, X.code, (X.here.setHeapUsed s₂.heap s₂.slotsUsed).setVm hW'.alike, X.tail, State.WarmedH.trans X.warmed hW', X.limits, X.bytes, X.same.trans (hsame.setVm s.vm)⟩,
      ⟨g, mk, s₂, L, rfl, rfl, hqc, rfl, hL, rfl, rfl⟩, ?_⟩
    show Steps p.tables e below _ ((({ U with heap := s₂.heap, slotsUsed := s₂.slotsUsed } : State).setVm s₂.vm).setTop { g with pc := g.pc + len₂, stack := v.toList ++ g.stack })
    rw [← hs₂]
    exact hsteps
  · obtain ⟨e2, q2, q3, q4, q5, q6⟩ := id hsm
    have e3 : s₂ = ({ (U.calling g mk a).setFrames s₂.frames with heap := s₂.heap, slotsUsed := s₂.slotsUsed } : State).setVm s₂.vm := by
      have : s₂ = ({ s₂ with vm := (U.calling g mk a).vm } : State).setVm s₂.vm := rfl
      rw [e2] at this
      exact this
    have hf₂ : s₂.frames = .throwing q :: .java g :: U.frames.tail := hend
    have hW' : U.WarmedH s₂.vm := hW₂
    have hs₂ : s₂ = ((({ U with heap := s₂.heap, slotsUsed := s₂.slotsUsed } : State).setVm s₂.vm).setTop g).pushFrame (.throwing q) := by
      refine e3.trans ?_
      rw [hf₂, State.calling_eq h.top, State.setFrames_setFrames, State.pushFrame, State.frames_setTop _ hr', State.setTop_of_frames _ hr', State.setFrames_setFrames, hr]
      rfl
    have hsame : U.sameButNew ({ U with heap := s₂.heap, slotsUsed := s₂.slotsUsed } : State) L mc ms := by
      refine ⟨?_, q2, q3, q4, q5, q6⟩
      obtain ⟨t, ht, -⟩ := State.frames_cons hr
      show ({ U with heap := s₂.heap, slotsUsed := s₂.slotsUsed } : State) = { U.setFrames U.frames with heap := s₂.heap, slotsUsed := s₂.slotsUsed }
      rw [State.setFrames_self ht]
    subst hg
    refine Or.inr ⟨q, ⟨(({ U with heap := s₂.heap, slotsUsed := s₂.slotsUsed } : State).setVm s₂.vm), Ls ++ L, c0 + mc, s0 + ms⟩,
      ⟨X.admits, X.cas, X.clock, X.frames, X.room, X.hears, X.method, X.code, (X.here.setHeapUsed s₂.heap s₂.slotsUsed).setVm hW'.alike, X.tail, State.WarmedH.trans X.warmed hW', X.limits, X.bytes, X.same.trans (hsame.setVm s.vm)⟩,
      ⟨g, mk, s₂, L, E, ce, rfl, rfl, hx, hce, hcv, hcl, rfl, hL, rfl, rfl⟩, ?_⟩
    show Steps p.tables e below _ (((({ U with heap := s₂.heap, slotsUsed := s₂.slotsUsed } : State).setVm s₂.vm).setTop g).pushFrame (.throwing q))
    rw [← hs₂]
    exact hsteps
end Payer
section Calls
variable {p : Program} {l : Launch} {e : Env} {R : Room} {s : State} {m : MethodId} {args : Array Value} {below : List Frame} {meth : Method} {c : Code} {T : State} {locs : List Loc} {cells slots : Nat}
theorem vx_callV (X : Stand p l e R s m args below meth c T locs cells slots) (hexec : p.tables.exec = Jvm.exec) {own C : String} {index : Nat} {y : MethodName} {bytes : ByteArray} {maxL : Nat} {ret : Option FieldType}
    (hown : s.vm.findClass own = some m.cls) (hlink : (Cond.methodLink own index y).before args s = true) (hinst : (Cond.instanceMethod y).before args s = true) (hsel : (Cond.selects C y y).before args s = true)
    (hcode : (Cond.code y bytes maxL ret).before args s = true) (hy : y.cls ≠ "java/lang/invoke/MethodHandle" ∧ y.cls ≠ "java/lang/invoke/VarHandle")
    {W9 : Nat} {Pre : Pt → Array Value → Prop} {Post : Pt → Array Value → Option Value → Pt → Prop} {PostX : Pt → Array Value → Addr → Pt → Prop} (hK : vx_Back l R p e below s args y 3 W9 Pre Post PostX)
    {b : Addr} {cellB : Cell} (hcell : T.heap[b]? = some cellB) (hobj : cellB.vm.isStatics = false) (hcls : s.vm.findClass C = some cellB.cls)
    {g : JFrame} (hg : g.method = m) (hsize : g.locals.size = c.maxLocals) {argsL rest : List Value} (hlen : ∀ sig, parseMethodDescriptor y.desc = some sig → argsL.length = sig.parameters.length)
    (hstack : g.stack = argsL.reverse ++ .ref b :: rest) (hW : 2 * g.monitorRoom + (rest.map fun v => v.category).sum ≤ W9) (hdg : decode c.code g.pc = .ok (.invokevirtual index, 3))
    (hpre : ∀ vm₁, s.WarmedH vm₁ → Pre ⟨T.setVm vm₁, locs, cells, slots⟩ (Value.ref b :: argsL).toArray) :
    (∃ (v : Option Value) (vm₁ : Vm) (B : Pt), s.WarmedH vm₁ ∧ Stand p l e R s m args below meth c B.U B.locs B.cells B.slots ∧ Post ⟨T.setVm vm₁, locs, cells, slots⟩ (Value.ref b :: argsL).toArray v B ∧
      ∀ target, Steps p.tables e below (B.U.setTop { g with pc := g.pc + 3, stack := v.toList ++ rest }) target → Steps p.tables e below (T.setTop g) target) ∨
    (∃ (q : Addr) (vm₁ : Vm) (B : Pt), s.WarmedH vm₁ ∧ Stand p l e R s m args below meth c B.U B.locs B.cells B.slots ∧ PostX ⟨T.setVm vm₁, locs, cells, slots⟩ (Value.ref b :: argsL).toArray q B ∧
      Steps p.tables e below (T.setTop g) ((B.U.setTop { g with stack := rest }).pushFrame (.throwing q))) := by
  obtain ⟨mk, methM, hnamed, hmethM, hstM, habM⟩ := Cond.instanceMethod_spec hinst
  obtain ⟨methM', cM, hmethM', -, -, -, -, -, -, hsigM⟩ := Cond.code_spec hnamed hcode
  cases hmethM.symm.trans hmethM'
  obtain ⟨c2, r2, m2, q1, q2, q3, q4, kP, hkP, hkPi⟩ := Cond.selects_spec hsel
  cases hcls.symm.trans q1
  cases (State.methodFound?_of_named hnamed hy).symm.trans q2
  cases hnamed.symm.trans q3
  have hselP : selectMethod e.platform s.vm cellB.cls mk = .method mk := by rw [Launch.admits_selectMethod X.admits]; exact q4
  obtain ⟨vm₁, X₁, hstep₁⟩ := X.invokevirtual hexec hown hlink hnamed hmethM hstM hkP hkPi hy (a := b) (cell := cellB) hcell
    (fun z h => by rw [h] at hobj; cases hobj) hselP hmethM habM hkP hkPi (g := g) hg (argsL := argsL) (rest := rest) (hlen _ hsigM) hstack hdg
  rcases hK m meth c ⟨T.setVm vm₁, locs, cells, slots⟩ { g with stack := rest } (.invokevirtual index) mk (Value.ref b :: argsL).toArray X₁ hg hsize hdg hW (X₁.named hnamed) (hpre vm₁ X₁.warmed) with ⟨v, B, X', hpost, hsteps⟩ | ⟨q, B, X', hpost, hsteps⟩
  · exact Or.inl ⟨v, vm₁, B, X₁.warmed, X', hpost, fun target h => hstep₁ _ fun acts => by rw [doInvoke_state]; exact hsteps.trans h⟩
  · exact Or.inr ⟨q, vm₁, B, X₁.warmed, X', hpost, hstep₁ _ fun acts => by rw [doInvoke_state]; exact hsteps⟩
theorem vx_callS (X : Stand p l e R s m args below meth c T locs cells slots) (hexec : p.tables.exec = Jvm.exec) {own : String} {index : Nat} {y : MethodName} {bytes : ByteArray} {maxL : Nat} {ret : Option FieldType}
    (hown : s.vm.findClass own = some m.cls) (hlink : (Cond.methodLink own index y).before args s = true) (hstat : (Cond.static y).before args s = true) (hinit : (Cond.initialized y.cls).before args s = true)
    (hcode : (Cond.code y bytes maxL ret).before args s = true) (hy : y.cls ≠ "java/lang/invoke/MethodHandle" ∧ y.cls ≠ "java/lang/invoke/VarHandle")
    {W9 : Nat} {Pre : Pt → Array Value → Prop} {Post : Pt → Array Value → Option Value → Pt → Prop} {PostX : Pt → Array Value → Addr → Pt → Prop} (hK : vx_Back l R p e below s args y 3 W9 Pre Post PostX)
    {g : JFrame} (hg : g.method = m) (hsize : g.locals.size = c.maxLocals) {argsL rest : List Value} (hlen : ∀ sig, parseMethodDescriptor y.desc = some sig → argsL.length = sig.parameters.length)
    (hstack : g.stack = argsL.reverse ++ rest) (hW : 2 * g.monitorRoom + (rest.map fun v => v.category).sum ≤ W9) (hdg : decode c.code g.pc = .ok (.invokestatic index, 3))
    (hpre : ∀ vm₁, s.WarmedH vm₁ → Pre ⟨T.setVm vm₁, locs, cells, slots⟩ argsL.toArray) :
    (∃ (v : Option Value) (vm₁ : Vm) (B : Pt), s.WarmedH vm₁ ∧ Stand p l e R s m args below meth c B.U B.locs B.cells B.slots ∧ Post ⟨T.setVm vm₁, locs, cells, slots⟩ argsL.toArray v B ∧
      ∀ target, Steps p.tables e below (B.U.setTop { g with pc := g.pc + 3, stack := v.toList ++ rest }) target → Steps p.tables e below (T.setTop g) target) ∨
    (∃ (q : Addr) (vm₁ : Vm) (B : Pt), s.WarmedH vm₁ ∧ Stand p l e R s m args below meth c B.U B.locs B.cells B.slots ∧ PostX ⟨T.setVm vm₁, locs, cells, slots⟩ argsL.toArray q B ∧
      Steps p.tables e below (T.setTop g) ((B.U.setTop { g with stack := rest }).pushFrame (.throwing q))) := by
  obtain ⟨mk, hnamed⟩ := Cond.code_named hcode
  obtain ⟨methM, cM, hmethM, -, -, -, -, -, -, hsigM⟩ := Cond.code_spec hnamed hcode
  have hstatic : methM.isStatic = true := Cond.static_spec hnamed hmethM hstat
  obtain ⟨kP, hkP, -⟩ := className_of_methodNamed hnamed
  have hinitP : kP.init = .initialized := Cond.initialized_spec (findClass_of_methodNamed hnamed) hkP hinit
  obtain ⟨vm₁, X₁, hstep₁⟩ := X.invokestatic hexec hown hlink hnamed hmethM hstatic hkP hinitP hy (g := g) hg (argsL := argsL) (rest := rest) (hlen _ hsigM) hstack hdg
  rcases hK m meth c ⟨T.setVm vm₁, locs, cells, slots⟩ { g with stack := rest } (.invokestatic index) mk argsL.toArray X₁ hg hsize hdg hW (X₁.named hnamed) (hpre vm₁ X₁.warmed) with ⟨v, B, X', hpost, hsteps⟩ | ⟨q, B, X', hpost, hsteps⟩
  · exact Or.inl ⟨v, vm₁, B, X₁.warmed, X', hpost, fun target h => hstep₁ _ fun acts => by rw [doInvoke_state]; exact hsteps.trans h⟩
  · exact Or.inr ⟨q, vm₁, B, X₁.warmed, X', hpost, hstep₁ _ fun acts => by rw [doInvoke_state]; exact hsteps⟩
end Calls
theorem vx_cls {s : State} {T : State} {vm₁ : Vm} {E : String} {k : ClassId} (hW : s.WarmedH vm₁) (h : (T.setVm vm₁).vm.findClass E = some k) : s.vm.findClass E = some k := by
  have h1 : vm₁.findClass E = some k := h
  rw [hW.alike.findClass] at h1
  exact h1
/-- the method's frame g, with q thrown over it -/
def vx_W (p : Program) (l : Launch) (e : Env) (R : Room) (s : State) (m : MethodId) (args : Array Value) (below : List Frame) (meth : Method) (c : Code) (H : Heap) (locs : List Loc) (cells slots : Nat) (Q : State → Prop) (g : JFrame) (q : Addr) : Prop :=
  ∀ T : State, T.heap = H → Stand p l e R s m args below meth c T locs cells slots → ∃ t, Steps p.tables e below ((T.setTop g).pushFrame (.throwing q)) t ∧ Q t
def vx_Run (p : Program) (l : Launch) (e : Env) (R : Room) (s : State) (m : MethodId) (args : Array Value) (below : List Frame) (meth : Method) (c : Code) (H : Heap) (locs : List Loc) (cells slots mc ms : Nat) (g : JFrame) (rest : List Value) (Qa : State → Outcome → State → Prop) (XC : String → State → State → Prop) (free : Addr → Prop) : Prop :=
  ∀ T : State, T.heap = H → Stand p l e R s m args below meth c T locs cells slots →
    (∃ (v : Option Value) (st₀ t T' : State) (L : List Loc), st₀.heap = H ∧ Stand p l e R s m args below meth c T' (locs ++ L) (cells + mc) (slots + ms) ∧ (∀ q ∈ L, free q.base) ∧ T'.heap = t.heap ∧ T'.vm = t.vm ∧ Qa st₀ (.returned v) t ∧
      Goes p e below T g T' { g with pc := g.pc + 3, stack := v.toList ++ rest }) ∨
    (∃ (q : Addr) (st₀ t T' : State) (L : List Loc) (E : String) (ce : Cell), st₀.heap = H ∧ Stand p l e R s m args below meth c T' (locs ++ L) (cells + mc) (slots + ms) ∧ (∀ z ∈ L, free z.base) ∧ T'.heap = t.heap ∧ T'.vm = t.vm ∧ XC E st₀ t ∧ t.heap[q]? = some ce ∧ ce.vm = .none ∧ s.vm.findClass E = some ce.cls ∧
      Steps p.tables e below (T.setTop g) ((T'.setTop { g with stack := rest }).pushFrame (.throwing q)))
def vx_X {S : Type} (px : S → Prop) (B : String → S → State → Prop) (A : Nat → Prop) : String → State → State → Prop := fun E st t => ∃ u : S, px u ∧ B E u t ∧ va_F A st t
section Runs
variable {p : Program} {l : Launch} {e : Env} {R : Room} {s : State} {m : MethodId} {args : Array Value} {below : List Frame} {meth : Method} {c : Code} {H : Heap} {locs : List Loc} {cells slots : Nat}
variable {y : MethodName} {bytes cc : ByteArray} {maxL nL mc ms n index : Nat} {ret : Option FieldType} {ws : List Cond} {rm : Room} {Pc : Array Value → State → Prop} {Qc : Array Value → State → Outcome → State → Prop} {XC : String → State → State → Prop} {free : Addr → Prop} {Ts : List Cond} {own C : String} {b : Addr} {As rest : List Value} {g : JFrame}
theorem vx_callBack (cb : CallB R s args own index y bytes maxL ret ws rm mc ms n) (hM : vx_Met l y ws rm Pc Qc XC mc ms free) (hbl : FrameBlind Pc) : vx_Back l R p e below s args y 3 8 (PreOf R mc ms Pc) (PostOf Qc mc ms free) (vx_Post XC mc ms free) := by
  obtain ⟨hrc, hrs, hfr, hlo, hws, hcw, -, hini, -⟩ := cb
  exact vx_back (bytes := bytes) (maxL := maxL) (ret := ret) hM hbl hrc hrs hfr hlo hws hcw (fun a' U hW => word_at hW (Or.inl (by first | rfl | simp [Cond.onTables, Cond.keeps, Cond.steady])) hini)
theorem vx_runV (S : CallFix p m c cc nL s args Ts own) (hM : vx_Met l y ws rm Pc Qc XC mc ms free) (cw : CallW R s args own C index y bytes maxL ret ws rm mc ms n) (hp : PreV s H C b Pc As)
    (hg : g.method = m) (hn : As.length = n) (hsize : g.locals.size = nL) (hstack : g.stack = As.reverse ++ .ref b :: rest) (hW : 2 * g.monitorRoom + (rest.map fun v => v.category).sum ≤ 8) (hdg : decode cc g.pc = .ok (.invokevirtual index, 3)) (hf : cells + mc ≤ R.cells ∧ slots + ms ≤ R.slots) :
    vx_Run p l e R s m args below meth c H locs cells slots mc ms g rest (Qc (Value.ref b :: As).toArray) XC free := by
  have hK : vx_Back l R p e below s args y 3 8 (PreOf R mc ms Pc) (PostOf Qc mc ms free) (vx_Post XC mc ms free) := vx_callBack cw.1 hM hp.1
  obtain ⟨⟨-, -, -, -, -, -, hcode, -, hy, hlen, hl⟩, hin, hse⟩ := cw
  obtain ⟨hx, hb, hml, ho, -⟩ := S
  obtain ⟨-, ⟨cellB, hcB, hoB, hclB⟩, hPc⟩ := hp
  intro T hT X
  rcases vx_callV X hx (C := C) (bytes := bytes) (maxL := maxL) (ret := ret) ho hl hin hse hcode hy hK (by rw [hT]; exact hcB) hoB hclB hg (hsize.trans hml.symm) (argsL := As) (rest := rest) (fun sig h => hn.trans (hlen sig h)) hstack hW (by rw [hb]; exact hdg)
    (fun vm₁ hW₁ => ⟨hf.1, hf.2, hPc (T.setVm vm₁) hT hW₁⟩) with ⟨v, vm₁, ⟨U', l2, c2, s2⟩, hW₁, X', ⟨g', mk, t, L, e1, e2, hq, h1, hL, h2, h3⟩, st⟩ | ⟨q, vm₁, ⟨U', l2, c2, s2⟩, hW₁, X', ⟨g', mk, t, L, E, ce, e1, e2, hq, hce, hcv, hcl, h1, hL, h2, h3⟩, st⟩
  · dsimp only [Pt.U, Pt.locs, Pt.cells, Pt.slots] at X' e1 e2 h1 h2 h3 st
    subst h1; subst h2; subst h3
    exact Or.inl ⟨v, (T.setVm vm₁).calling g' mk (Value.ref b :: As).toArray, t, U', L, hT, X', hL, e1, e2, hq, st⟩
  · dsimp only [Pt.U, Pt.locs, Pt.cells, Pt.slots] at X' e1 e2 h1 h2 h3 st hcl
    subst h1; subst h2; subst h3
    exact Or.inr ⟨q, (T.setVm vm₁).calling g' mk (Value.ref b :: As).toArray, t, U', L, E, ce, hT, X', hL, e1, e2, hq, hce, hcv, vx_cls hW₁ hcl, st⟩
theorem vx_runS (S : CallFix p m c cc nL s args Ts own) (hM : vx_Met l y ws rm Pc Qc XC mc ms free) (cw : CallB R s args own index y bytes maxL ret ws rm mc ms n ∧ (Cond.static y).before args s = true) (hp : PreS s H Pc As)
    (hg : g.method = m) (hn : As.length = n) (hsize : g.locals.size = nL) (hstack : g.stack = As.reverse ++ rest) (hW : 2 * g.monitorRoom + (rest.map fun v => v.category).sum ≤ 8) (hdg : decode cc g.pc = .ok (.invokestatic index, 3)) (hf : cells + mc ≤ R.cells ∧ slots + ms ≤ R.slots) :
    vx_Run p l e R s m args below meth c H locs cells slots mc ms g rest (Qc As.toArray) XC free := by
  have hK : vx_Back l R p e below s args y 3 8 (PreOf R mc ms Pc) (PostOf Qc mc ms free) (vx_Post XC mc ms free) := vx_callBack cw.1 hM hp.1
  obtain ⟨⟨-, -, -, -, -, -, hcode, hini, hy, hlen, hl⟩, hstt⟩ := cw
  obtain ⟨hx, hb, hml, ho, -⟩ := S
  intro T hT X
  rcases vx_callS X hx (bytes := bytes) (maxL := maxL) (ret := ret) ho hl hstt hini hcode hy hK hg (hsize.trans hml.symm) (argsL := As) (rest := rest) (fun sig h => hn.trans (hlen sig h)) hstack hW (by rw [hb]; exact hdg)
    (fun vm₁ hW₁ => ⟨hf.1, hf.2, hp.2 (T.setVm vm₁) hT hW₁⟩) with ⟨v, vm₁, ⟨U', l2, c2, s2⟩, hW₁, X', ⟨g', mk, t, L, e1, e2, hq, h1, hL, h2, h3⟩, st⟩ | ⟨q, vm₁, ⟨U', l2, c2, s2⟩, hW₁, X', ⟨g', mk, t, L, E, ce, e1, e2, hq, hce, hcv, hcl, h1, hL, h2, h3⟩, st⟩
  · dsimp only [Pt.U, Pt.locs, Pt.cells, Pt.slots] at X' e1 e2 h1 h2 h3 st
    subst h1; subst h2; subst h3
    exact Or.inl ⟨v, (T.setVm vm₁).calling g' mk As.toArray, t, U', L, hT, X', hL, e1, e2, hq, st⟩
  · dsimp only [Pt.U, Pt.locs, Pt.cells, Pt.slots] at X' e1 e2 h1 h2 h3 st hcl
    subst h1; subst h2; subst h3
    exact Or.inr ⟨q, (T.setVm vm₁).calling g' mk As.toArray, t, U', L, E, ce, hT, X', hL, e1, e2, hq, hce, hcv, vx_cls hW₁ hcl, st⟩
end Runs
section Rows
variable {p : Program} {l : Launch} {e : Env} {R : Room} {s : State} {m : MethodId} {args : Array Value} {below : List Frame} {meth : Method} {c : Code} {H : Heap} {locs : List Loc} {cells slots : Nat} {Q : State → Prop}
variable {mc ms : Nat} {free : Addr → Prop} {A0 A1 : Nat → Prop} {H0 : Heap} {a : Array Value} {pc : Nat} {ls : Array Slot} {st0 rest : List Value}
theorem vx_keep {st₀ t T' : State} {L : List Loc} (h0 : st₀.heap = H) (e1 : T'.heap = t.heap) (hS : va_S A0 H0 H locs) (hA : ∀ q, q < H.size → A1 q → A0 q) (hf : ∀ q, free q → A0 q) (hL : ∀ q ∈ L, free q.base) (hF : va_F A1 st₀ t) :
    H.size ≤ T'.heap.size ∧ (∀ q : Nat, q < H.size → ¬ A1 q → T'.heap[q]? = H[q]?) ∧ va_S A0 H0 T'.heap (locs ++ L) := by
  obtain ⟨hz, hk⟩ := hF
  rw [h0] at hz hk
  exact ⟨by rw [e1]; exact hz, fun q h1 h2 => by rw [e1]; exact hk q h1 h2,
    ⟨Nat.le_trans hS.1 (by rw [e1]; exact hz), fun q h1 h2 => by rw [e1, hk q (Nat.lt_of_lt_of_le h1 hS.1) (fun z => h2 (hA q (Nat.lt_of_lt_of_le h1 hS.1) z))]; exact hS.2.1 q h1 h2, fun q hq => by
      rcases List.mem_append.mp hq with h | h
      · exact hS.2.2 q h
      · exact hf _ (hL q h)⟩⟩
theorem vx_calli {S SX : Type} {post : Int32 → S → Prop} {px : SX → Prop} {B : S → State → Prop} {BX : String → SX → State → Prop} {AX : Nat → Prop} (hr : vx_Run p l e R s m args below meth c H locs cells slots mc ms (F0 m pc ls st0) rest (va_Qi post B A1 a) (vx_X px BX AX) free) (hS : va_S A0 H0 H locs) (hA : ∀ q, q < H.size → A1 q → A0 q) (hf : ∀ q, free q → A0 q) (hAX : ∀ q, q < H.size → AX q → A0 q)
    (kx : ∀ (E : String) (ce : Cell) (q9 : Addr) (u : SX) (t : State) (H1 : Heap) (locs1 : List Loc), t.heap = H1 → s.vm.Alike t.vm → px u → BX E u t → H.size ≤ H1.size → (∀ q : Nat, q < H.size → ¬ AX q → H1[q]? = H[q]?) → va_S A0 H0 H1 locs1 → H1[q9]? = some ce → ce.vm = .none → s.vm.findClass E = some ce.cls → vx_W p l e R s m args below meth c H1 locs1 (cells + mc) (slots + ms) Q (F0 m pc ls rest) q9)
    (kk : ∀ (r : Int32) (u : S) (t : State) (H1 : Heap) (locs1 : List Loc), t.heap = H1 → s.vm.Alike t.vm → post r u → B u t → H.size ≤ H1.size → (∀ q : Nat, q < H.size → ¬ A1 q → H1[q]? = H[q]?) → va_S A0 H0 H1 locs1 → W p l e R s m args below meth c H1 locs1 (cells + mc) (slots + ms) Q (F0 m (pc + 3) ls (.int r :: rest))) : W p l e R s m args below meth c H locs cells slots Q (F0 m pc ls st0) := by
  intro T hT X
  rcases hr T hT X with ⟨v, st₀, t, T', L, h0, X', hL, e1, e2, ⟨⟨r, u, hv, hp, hb⟩, hF⟩, st⟩ | ⟨q, st₀, t, T', L, E, ce, h0, X', hL, e1, e2, ⟨u, hp, hb, hF⟩, hce, hcv, hcl, st⟩
  · cases hv
    obtain ⟨k1, k2, k3⟩ := vx_keep h0 e1 hS hA hf hL hF
    obtain ⟨t2, a1, b1⟩ := kk r u t T'.heap (locs ++ L) e1.symm (by rw [← e2]; exact X'.warmed.alike) hp hb k1 k2 k3 T' rfl X'
    exact ⟨t2, st t2 a1, b1⟩
  · obtain ⟨k1, k2, k3⟩ := vx_keep h0 e1 hS hAX hf hL hF
    obtain ⟨t2, a1, b1⟩ := kx E ce q u t T'.heap (locs ++ L) e1.symm (by rw [← e2]; exact X'.warmed.alike) hp hb k1 k2 k3 (by rw [e1]; exact hce) hcv hcl T' rfl X'
    exact ⟨t2, st.trans a1, b1⟩
theorem vx_calll {S SX : Type} {post : Int64 → S → Prop} {px : SX → Prop} {B : S → State → Prop} {BX : String → SX → State → Prop} {AX : Nat → Prop} (hr : vx_Run p l e R s m args below meth c H locs cells slots mc ms (F0 m pc ls st0) rest (va_Ql post B A1 a) (vx_X px BX AX) free) (hS : va_S A0 H0 H locs) (hA : ∀ q, q < H.size → A1 q → A0 q) (hf : ∀ q, free q → A0 q) (hAX : ∀ q, q < H.size → AX q → A0 q)
    (kx : ∀ (E : String) (ce : Cell) (q9 : Addr) (u : SX) (t : State) (H1 : Heap) (locs1 : List Loc), t.heap = H1 → s.vm.Alike t.vm → px u → BX E u t → H.size ≤ H1.size → (∀ q : Nat, q < H.size → ¬ AX q → H1[q]? = H[q]?) → va_S A0 H0 H1 locs1 → H1[q9]? = some ce → ce.vm = .none → s.vm.findClass E = some ce.cls → vx_W p l e R s m args below meth c H1 locs1 (cells + mc) (slots + ms) Q (F0 m pc ls rest) q9)
    (kk : ∀ (r : Int64) (u : S) (t : State) (H1 : Heap) (locs1 : List Loc), t.heap = H1 → s.vm.Alike t.vm → post r u → B u t → H.size ≤ H1.size → (∀ q : Nat, q < H.size → ¬ A1 q → H1[q]? = H[q]?) → va_S A0 H0 H1 locs1 → W p l e R s m args below meth c H1 locs1 (cells + mc) (slots + ms) Q (F0 m (pc + 3) ls (.long r :: rest))) : W p l e R s m args below meth c H locs cells slots Q (F0 m pc ls st0) := by
  intro T hT X
  rcases hr T hT X with ⟨v, st₀, t, T', L, h0, X', hL, e1, e2, ⟨⟨r, u, hv, hp, hb⟩, hF⟩, st⟩ | ⟨q, st₀, t, T', L, E, ce, h0, X', hL, e1, e2, ⟨u, hp, hb, hF⟩, hce, hcv, hcl, st⟩
  · cases hv
    obtain ⟨k1, k2, k3⟩ := vx_keep h0 e1 hS hA hf hL hF
    obtain ⟨t2, a1, b1⟩ := kk r u t T'.heap (locs ++ L) e1.symm (by rw [← e2]; exact X'.warmed.alike) hp hb k1 k2 k3 T' rfl X'
    exact ⟨t2, st t2 a1, b1⟩
  · obtain ⟨k1, k2, k3⟩ := vx_keep h0 e1 hS hAX hf hL hF
    obtain ⟨t2, a1, b1⟩ := kx E ce q u t T'.heap (locs ++ L) e1.symm (by rw [← e2]; exact X'.warmed.alike) hp hb k1 k2 k3 (by rw [e1]; exact hce) hcv hcl T' rfl X'
    exact ⟨t2, st.trans a1, b1⟩
theorem vx_callf {S SX : Type} {post : UInt32 → S → Prop} {px : SX → Prop} {B : S → State → Prop} {BX : String → SX → State → Prop} {AX : Nat → Prop} (hr : vx_Run p l e R s m args below meth c H locs cells slots mc ms (F0 m pc ls st0) rest (va_Qf post B A1 a) (vx_X px BX AX) free) (hS : va_S A0 H0 H locs) (hA : ∀ q, q < H.size → A1 q → A0 q) (hf : ∀ q, free q → A0 q) (hAX : ∀ q, q < H.size → AX q → A0 q)
    (kx : ∀ (E : String) (ce : Cell) (q9 : Addr) (u : SX) (t : State) (H1 : Heap) (locs1 : List Loc), t.heap = H1 → s.vm.Alike t.vm → px u → BX E u t → H.size ≤ H1.size → (∀ q : Nat, q < H.size → ¬ AX q → H1[q]? = H[q]?) → va_S A0 H0 H1 locs1 → H1[q9]? = some ce → ce.vm = .none → s.vm.findClass E = some ce.cls → vx_W p l e R s m args below meth c H1 locs1 (cells + mc) (slots + ms) Q (F0 m pc ls rest) q9)
    (kk : ∀ (r : UInt32) (u : S) (t : State) (H1 : Heap) (locs1 : List Loc), t.heap = H1 → s.vm.Alike t.vm → post r u → B u t → H.size ≤ H1.size → (∀ q : Nat, q < H.size → ¬ A1 q → H1[q]? = H[q]?) → va_S A0 H0 H1 locs1 → W p l e R s m args below meth c H1 locs1 (cells + mc) (slots + ms) Q (F0 m (pc + 3) ls (.float r :: rest))) : W p l e R s m args below meth c H locs cells slots Q (F0 m pc ls st0) := by
  intro T hT X
  rcases hr T hT X with ⟨v, st₀, t, T', L, h0, X', hL, e1, e2, ⟨⟨r, u, hv, hp, hb⟩, hF⟩, st⟩ | ⟨q, st₀, t, T', L, E, ce, h0, X', hL, e1, e2, ⟨u, hp, hb, hF⟩, hce, hcv, hcl, st⟩
  · cases hv
    obtain ⟨k1, k2, k3⟩ := vx_keep h0 e1 hS hA hf hL hF
    obtain ⟨t2, a1, b1⟩ := kk r u t T'.heap (locs ++ L) e1.symm (by rw [← e2]; exact X'.warmed.alike) hp hb k1 k2 k3 T' rfl X'
    exact ⟨t2, st t2 a1, b1⟩
  · obtain ⟨k1, k2, k3⟩ := vx_keep h0 e1 hS hAX hf hL hF
    obtain ⟨t2, a1, b1⟩ := kx E ce q u t T'.heap (locs ++ L) e1.symm (by rw [← e2]; exact X'.warmed.alike) hp hb k1 k2 k3 (by rw [e1]; exact hce) hcv hcl T' rfl X'
    exact ⟨t2, st.trans a1, b1⟩
theorem vx_calld {S SX : Type} {post : UInt64 → S → Prop} {px : SX → Prop} {B : S → State → Prop} {BX : String → SX → State → Prop} {AX : Nat → Prop} (hr : vx_Run p l e R s m args below meth c H locs cells slots mc ms (F0 m pc ls st0) rest (va_Qd post B A1 a) (vx_X px BX AX) free) (hS : va_S A0 H0 H locs) (hA : ∀ q, q < H.size → A1 q → A0 q) (hf : ∀ q, free q → A0 q) (hAX : ∀ q, q < H.size → AX q → A0 q)
    (kx : ∀ (E : String) (ce : Cell) (q9 : Addr) (u : SX) (t : State) (H1 : Heap) (locs1 : List Loc), t.heap = H1 → s.vm.Alike t.vm → px u → BX E u t → H.size ≤ H1.size → (∀ q : Nat, q < H.size → ¬ AX q → H1[q]? = H[q]?) → va_S A0 H0 H1 locs1 → H1[q9]? = some ce → ce.vm = .none → s.vm.findClass E = some ce.cls → vx_W p l e R s m args below meth c H1 locs1 (cells + mc) (slots + ms) Q (F0 m pc ls rest) q9)
    (kk : ∀ (r : UInt64) (u : S) (t : State) (H1 : Heap) (locs1 : List Loc), t.heap = H1 → s.vm.Alike t.vm → post r u → B u t → H.size ≤ H1.size → (∀ q : Nat, q < H.size → ¬ A1 q → H1[q]? = H[q]?) → va_S A0 H0 H1 locs1 → W p l e R s m args below meth c H1 locs1 (cells + mc) (slots + ms) Q (F0 m (pc + 3) ls (.double r :: rest))) : W p l e R s m args below meth c H locs cells slots Q (F0 m pc ls st0) := by
  intro T hT X
  rcases hr T hT X with ⟨v, st₀, t, T', L, h0, X', hL, e1, e2, ⟨⟨r, u, hv, hp, hb⟩, hF⟩, st⟩ | ⟨q, st₀, t, T', L, E, ce, h0, X', hL, e1, e2, ⟨u, hp, hb, hF⟩, hce, hcv, hcl, st⟩
  · cases hv
    obtain ⟨k1, k2, k3⟩ := vx_keep h0 e1 hS hA hf hL hF
    obtain ⟨t2, a1, b1⟩ := kk r u t T'.heap (locs ++ L) e1.symm (by rw [← e2]; exact X'.warmed.alike) hp hb k1 k2 k3 T' rfl X'
    exact ⟨t2, st t2 a1, b1⟩
  · obtain ⟨k1, k2, k3⟩ := vx_keep h0 e1 hS hAX hf hL hF
    obtain ⟨t2, a1, b1⟩ := kx E ce q u t T'.heap (locs ++ L) e1.symm (by rw [← e2]; exact X'.warmed.alike) hp hb k1 k2 k3 (by rw [e1]; exact hce) hcv hcl T' rfl X'
    exact ⟨t2, st.trans a1, b1⟩
theorem vx_callv {S SX : Type} {post : S → Prop} {px : SX → Prop} {B : S → State → Prop} {BX : String → SX → State → Prop} {AX : Nat → Prop} (hr : vx_Run p l e R s m args below meth c H locs cells slots mc ms (F0 m pc ls st0) rest (va_Qv post B A1 a) (vx_X px BX AX) free) (hS : va_S A0 H0 H locs) (hA : ∀ q, q < H.size → A1 q → A0 q) (hf : ∀ q, free q → A0 q) (hAX : ∀ q, q < H.size → AX q → A0 q)
    (kx : ∀ (E : String) (ce : Cell) (q9 : Addr) (u : SX) (t : State) (H1 : Heap) (locs1 : List Loc), t.heap = H1 → s.vm.Alike t.vm → px u → BX E u t → H.size ≤ H1.size → (∀ q : Nat, q < H.size → ¬ AX q → H1[q]? = H[q]?) → va_S A0 H0 H1 locs1 → H1[q9]? = some ce → ce.vm = .none → s.vm.findClass E = some ce.cls → vx_W p l e R s m args below meth c H1 locs1 (cells + mc) (slots + ms) Q (F0 m pc ls rest) q9)
    (kk : ∀ (u : S) (t : State) (H1 : Heap) (locs1 : List Loc), t.heap = H1 → s.vm.Alike t.vm → post u → B u t → H.size ≤ H1.size → (∀ q : Nat, q < H.size → ¬ A1 q → H1[q]? = H[q]?) → va_S A0 H0 H1 locs1 → W p l e R s m args below meth c H1 locs1 (cells + mc) (slots + ms) Q (F0 m (pc + 3) ls (rest))) : W p l e R s m args below meth c H locs cells slots Q (F0 m pc ls st0) := by
  intro T hT X
  rcases hr T hT X with ⟨v, st₀, t, T', L, h0, X', hL, e1, e2, ⟨⟨u, hv, hp, hb⟩, hF⟩, st⟩ | ⟨q, st₀, t, T', L, E, ce, h0, X', hL, e1, e2, ⟨u, hp, hb, hF⟩, hce, hcv, hcl, st⟩
  · cases hv
    obtain ⟨k1, k2, k3⟩ := vx_keep h0 e1 hS hA hf hL hF
    obtain ⟨t2, a1, b1⟩ := kk u t T'.heap (locs ++ L) e1.symm (by rw [← e2]; exact X'.warmed.alike) hp hb k1 k2 k3 T' rfl X'
    exact ⟨t2, st t2 a1, b1⟩
  · obtain ⟨k1, k2, k3⟩ := vx_keep h0 e1 hS hAX hf hL hF
    obtain ⟨t2, a1, b1⟩ := kx E ce q u t T'.heap (locs ++ L) e1.symm (by rw [← e2]; exact X'.warmed.alike) hp hb k1 k2 k3 (by rw [e1]; exact hce) hcv hcl T' rfl X'
    exact ⟨t2, st.trans a1, b1⟩
/-- caught by the row x of this method's table; the rows ahead don't take it -/
theorem vx_catch {own name : String} {E : String} {ce : Cell} {q : Addr} (hown : s.vm.findClass own = some m.cls) (pre : List ExceptionTableEntry) (x : ExceptionTableEntry) (suf : List ExceptionTableEntry) (hsplit : c.exceptionTable.toList = pre ++ x :: suf)
    (hpass : ∀ z ∈ pre, covers z pc = false ∨ (z.catchType ≠ 0 ∧ ∃ nm : String, (Cond.classLink own z.catchType nm).before args s = true ∧ va_Nc E nm s)) (hx : covers x pc = true) (h0 : x.catchType ≠ 0)
    (hlink : (Cond.classLink own x.catchType name).before args s = true) (hcast : (Cond.castable E name).before args s = true) (hcell : H[q]? = some ce) (hv : ce.vm = .none) (hcl : s.vm.findClass E = some ce.cls)
    (kk : W p l e R s m args below meth c H locs cells slots Q (F0 m x.handlerPc ls [.ref q])) : vx_W p l e R s m args below meth c H locs cells slots Q (F0 m pc ls rest) q := by
  intro T hT X
  have hpl : e.platform.magicAccessors = ({} : Platform).magicAccessors := by rw [X.admits.platform]
  obtain ⟨c3, c4, hc3, hc4, hasg⟩ := Cond.castable_spec hcast
  cases Option.some.inj (hc3.symm.trans hcl)
  obtain ⟨c5, hc5, hcl5⟩ := Cond.classLink_spec hown hlink e.platform hpl
  cases Option.some.inj (hc4.symm.trans hc5)
  obtain ⟨vm', X', st⟩ := X.thenCaughtThrough q (g := F0 m pc ls rest) rfl (Steps.refl _) (by rw [hT]; exact hcell) (by rw [hv]; rfl) (by obtain ⟨k9, h9, -⟩ := Vm.findClass_spec hcl; exact ⟨k9, h9⟩) pre x suf hsplit
    (fun z hz => by
      rcases hpass z hz with h | ⟨hz0, nm, hl1, hn1⟩
      · exact Or.inl h
      · obtain ⟨c6, hc6, hcl6⟩ := Cond.classLink_spec hown hl1 e.platform hpl
        obtain ⟨a8, b8, h1, h2, h3⟩ := hn1
        cases Option.some.inj (h1.symm.trans hcl)
        cases Option.some.inj (h2.symm.trans hc6)
        exact Or.inr ⟨hz0, _, hcl6, h3⟩) hx (Or.inr ⟨h0, c4, hcl5, hasg⟩)
  obtain ⟨t, a1, b1⟩ := kk (T.setVm vm') hT X'
  exact ⟨t, st.trans a1, b1⟩
end Rows
section Ends
variable {p : Program} {l : Launch} {e : Env} {R : Room} {s : State} {m : MethodId} {args : Array Value} {below : List Frame} {meth : Method} {c : Code} {H : Heap} {locs : List Loc} {cells slots : Nat} {Q : State → Prop}
variable {mc ms : Nat} {free : Addr → Prop} {A0 A1 : Nat → Prop} {H0 : Heap} {a : Array Value} {ls : Array Slot} {st0 rest : List Value}
variable {Qc : Array Value → State → Outcome → State → Prop} {XC : String → State → State → Prop}
/-- what a body that may throw owes at its end -/
def vx_MQ (below : List Frame) (Qc : Array Value → State → Outcome → State → Prop) (XC : String → State → State → Prop) (a : Array Value) (s : State) (mc ms : Nat) (free : Addr → Prop) : State → Prop := fun t =>
  ∃ o, t.status = .running ∧ Ended t below o ∧ vx_Q Qc XC mc ms free a s o t
theorem vx_ret {g : JFrame} {mc ms : Nat} (k : W p l e R s m args below meth c H locs cells slots (MQ below Qc args s mc ms free) g) : W p l e R s m args below meth c H locs cells slots (vx_MQ below Qc XC args s mc ms free) g := by
  intro T hT X
  obtain ⟨t, a1, o, b1, b2, b3, b4⟩ := k T hT X
  exact ⟨t, a1, o, b1, b2, Or.inl ⟨b3, b4⟩⟩
/-- not caught here: it goes on to the caller -/
theorem vx_widen {g : JFrame} {q : Addr} {k n : Nat} (h1 : cells ≤ k) (h2 : slots ≤ n) (kk : vx_W p l e R s m args below meth c H locs k n Q g q) : vx_W p l e R s m args below meth c H locs cells slots Q g q := fun T hT X => kk T hT (stand_widen X h1 h2)
theorem vx_out {pc : Nat} {E : String} {ce : Cell} {q : Addr} {mc ms : Nat} (hout : ∀ x ∈ c.exceptionTable.toList, covers x pc = false) (hlocks : meth.locks = false) (hcell : H[q]? = some ce) (hv : ce.vm = .none) (hcl : s.vm.findClass E = some ce.cls)
    (hx : ∀ t : State, t.heap = H → s.vm.Alike t.vm → XC E s t) (hf : ∀ z ∈ locs, free z.base) (hc : cells ≤ mc) (hs : slots ≤ ms) :
    vx_W p l e R s m args below meth c H locs cells slots (vx_MQ below Qc XC args s mc ms free) (F0 m pc ls rest) q := by
  intro T hT X
  obtain ⟨st1, hrun, hend, hW, hsm⟩ := X.leaveThrown q (g := F0 m pc ls rest) rfl rfl rfl hout hlocks
  have hcell9 : (T.setFrames (.throwing q :: below)).heap[q]? = some ce := by
    show T.heap[q]? = some ce
    rw [hT]; exact hcell
  exact ⟨_, st1, .threw q, hrun, hend, Or.inr ⟨q, rfl, E, ce, locs, hx _ hT hW.alike, hcell9, hv, hcl, hW, hsm.mono hc hs, hf⟩⟩
theorem vx_frame {U : State} {k n : Nat} (h : s.sameButNew ({ U with vm := s.vm } : State) locs k n) : s.heap.size ≤ U.heap.size ∧ ∀ q : Nat, q < s.heap.size → (∀ z ∈ locs, z.base ≠ q) → U.heap[q]? = s.heap[q]? := by
  obtain ⟨-, h2, -, -, -, h6⟩ := h
  refine ⟨h2, fun q hq hz => ?_⟩
  obtain ⟨c9, e1, e2, e3, e4⟩ := h6 q _ (Array.getElem?_eq_getElem hq)
  have hs : c9.slots = (s.heap[q]).slots := Array.ext_getElem? fun i => e4 i fun hm => hz _ hm rfl
  have h9 : c9 = s.heap[q] := by
    rw [hs] at e2
    exact e2
  have e5 : U.heap[q]? = some c9 := e1
  rw [e5, h9, Array.getElem?_eq_getElem hq]
/-- the words of a throw but the four that speak of the heap -/
def vx_no (w : Cond) : Bool := decide (w ≠ .isRef (.static Bundle.tN "UNASSIGNED_STACK" Bundle.steD)) && decide (w ≠ .isRef (.static Bundle.tN "SUPPRESSED_SENTINEL" Bundle.listD)) && decide (w ≠ .laysStatic Bundle.tN "UNASSIGNED_STACK" Bundle.steD) && decide (w ≠ .laysStatic Bundle.tN "SUPPRESSED_SENTINEL" Bundle.listD)
def vx_at0 (own : String) (ic : Nat) (X : String) (names : List String) : List Cond := (Bundle.ownAtoms0 own ic X names).filter vx_no
def vx_atS (own : String) (ic : Nat) (X : String) (names : List String) : List Cond := (Bundle.ownAtoms own ic X names).filter vx_no
/-- a word that the tables alone decide, or a good one -/
def vx_ot (w : Cond) : Bool := w.onTables || goodWord w
theorem vx_ot_at {args a' : Array Value} {s U : State} {w : Cond} (hW : s.WarmedH U.vm) (hvm : s.vm = U.vm) (hg : vx_ot w = true) (h : w.before args s = true) : w.before a' U = true := by
  simp only [vx_ot, Bool.or_eq_true] at hg
  rcases hg with hg | hg
  · exact va_tabs hg hvm h
  · exact word_at hW (good_of_word hg) h
/-- a list's words: the good ones out of the method's own list, the others by premises of their own -/
theorem vx_hat {args : Array Value} {s : State} {L B : List Cond} (h1 : ∀ w ∈ L.filter goodWord, w.before args s = true) (h2 : ∀ w ∈ L.filter (fun w => !goodWord w), w ∈ B) (h3 : ∀ w ∈ B, w.before args s = true) : ∀ w ∈ L, w.before args s = true := by
  intro w hw
  by_cases g : goodWord w = true
  · exact h1 w (List.mem_filter.mpr ⟨hw, g⟩)
  · refine h3 w (h2 w (List.mem_filter.mpr ⟨hw, ?_⟩))
    show (!goodWord w) = true
    cases hgw : goodWord w
    · rfl
    · exact absurd hgw g
theorem vx_c {args : Array Value} {s : State} {w : Cond} {B : List Cond} (h : w.before args s = true) (t : ∀ w ∈ B, w.before args s = true) : ∀ w' ∈ w :: B, w'.before args s = true := fun w' h' => (List.mem_cons.mp h').elim (fun e => by rw [e]; exact h) (t w')
theorem vx_n {args : Array Value} {s : State} : ∀ w ∈ ([] : List Cond), w.before args s = true := fun _ h => nomatch h
theorem vx_own {args : Array Value} {s : State} {L : List Cond} (h1 : ∀ w ∈ L.filter vx_no, w.before args s = true)
    (hU : (Cond.isRef (.static Bundle.tN "UNASSIGNED_STACK" Bundle.steD)).before args s = true) (hN : (Cond.isRef (.static Bundle.tN "SUPPRESSED_SENTINEL" Bundle.listD)).before args s = true)
    (lU : (Cond.laysStatic Bundle.tN "UNASSIGNED_STACK" Bundle.steD).before args s = true) (lN : (Cond.laysStatic Bundle.tN "SUPPRESSED_SENTINEL" Bundle.listD).before args s = true) : ∀ w ∈ L, w.before args s = true := by
  intro w hw
  by_cases e1 : w = .isRef (.static Bundle.tN "UNASSIGNED_STACK" Bundle.steD)
  · rw [e1]; exact hU
  · by_cases e2 : w = .isRef (.static Bundle.tN "SUPPRESSED_SENTINEL" Bundle.listD)
    · rw [e2]; exact hN
    · by_cases e3 : w = .laysStatic Bundle.tN "UNASSIGNED_STACK" Bundle.steD
      · rw [e3]; exact lU
      · by_cases e4 : w = .laysStatic Bundle.tN "SUPPRESSED_SENTINEL" Bundle.listD
        · rw [e4]; exact lN
        · exact h1 w (List.mem_filter.mpr ⟨hw, by unfold vx_no; rw [decide_eq_true e1, decide_eq_true e2, decide_eq_true e3, decide_eq_true e4]; rfl⟩)
/-- where a static field lies, its class's statics cell in H -/
def vx_L (C n d : String) (A : Nat → Prop) (U : State) (H : Heap) : Prop := ∃ (c : ClassId) (k : Class) (i : Nat) (f : Field) (a : Nat) (cell : Cell), U.vm.findClass C = some c ∧ U.fieldFound? C n d = some (c, k, i, f) ∧ f.isStatic = true ∧ k.statics = some a ∧ H[a]? = some cell ∧ cell.vm.isStatics = true ∧ cell.cls = c ∧ f.slot < cell.slots.size ∧ k.staticTypes[f.slot]? = some f.type ∧ ¬ A a
theorem vx_L.moved {C n d : String} {A : Nat → Prop} {u U : State} {H : Heap} (hvm : u.vm.Alike U.vm) (h : vx_L C n d A u H) : vx_L C n d A U H := by
  obtain ⟨c, k, i, f, a, cell, h1, h2, h3, h4, h5, h6, h7, h8, h9, h10⟩ := h
  obtain ⟨k', hi', he⟩ := State.fieldFound?_setVm hvm h2
  exact ⟨c, k', i, f, a, cell, by rw [hvm.findClass]; exact h1, hi', h3, by rw [he]; exact h4, h5, h6, h7, h8, by rw [he]; exact h9, h10⟩
theorem vx_L.kept {C n d : String} {A : Nat → Prop} {U : State} {H H1 : Heap} (h : vx_L C n d A U H) (hq : ∀ a : Nat, a < H.size → ¬ A a → H1[a]? = H[a]?) : vx_L C n d A U H1 := by
  obtain ⟨c, k, i, f, a, cell, h1, h2, h3, h4, h5, h6, h7, h8, h9, h10⟩ := h
  exact ⟨c, k, i, f, a, cell, h1, h2, h3, h4, by rw [hq a (Array.getElem?_eq_some_iff.mp h5).1 h10]; exact h5, h6, h7, h8, h9, h10⟩
theorem vx_L.narrow {C n d : String} {A B : Nat → Prop} {U : State} {H : Heap} (h : vx_L C n d A U H) (hAB : ∀ q, B q → A q) : vx_L C n d B U H := by
  obtain ⟨c, k, i, f, a, cell, h1, h2, h3, h4, h5, h6, h7, h8, h9, h10⟩ := h
  exact ⟨c, k, i, f, a, cell, h1, h2, h3, h4, h5, h6, h7, h8, h9, fun z => h10 (hAB _ z)⟩
theorem vx_L.word {C n d : String} {A : Nat → Prop} {s : State} {args : Array Value} (h : vx_L C n d A s s.heap) : (Cond.laysStatic C n d).before args s = true := by
  obtain ⟨c, k, i, f, a, cell, h1, h2, h3, h4, h5, h6, h7, h8, h9, -⟩ := h
  show (Cond.laysStatic C n d).holds args s none s [] = true
  exact Cond.laysStatic_of h1 h2 h3 h4 h5 h6 h7 h8 h9
/-- .. and what it holds: null or some reference -/
def vx_Zq (C n d : String) (A : Nat → Prop) (U : State) (H : Heap) : Prop := va_Zq C n d A U H ∧ vx_L C n d A U H
theorem vx_Zq.moved {C n d : String} {A : Nat → Prop} {u U : State} {H : Heap} (hvm : u.vm.Alike U.vm) (h : vx_Zq C n d A u H) : vx_Zq C n d A U H := ⟨va_Zq.moved hvm h.1, vx_L.moved hvm h.2⟩
theorem vx_Zq.kept {C n d : String} {A : Nat → Prop} {U : State} {H H1 : Heap} (h : vx_Zq C n d A U H) (hq : ∀ a : Nat, a < H.size → ¬ A a → H1[a]? = H[a]?) : vx_Zq C n d A U H1 := ⟨va_Zq.kept h.1 hq, vx_L.kept h.2 hq⟩
theorem vx_Zq.narrow {C n d : String} {A B : Nat → Prop} {U : State} {H : Heap} (h : vx_Zq C n d A U H) (hAB : ∀ q, B q → A q) : vx_Zq C n d B U H := ⟨va_Zq.narrow h.1 hAB, vx_L.narrow h.2 hAB⟩
theorem vx_Zqof {args : Array Value} {s : State} {C n d : String} {A : Nat → Prop} (hl : (Cond.laysStatic C n d).before args s = true) (hini : (Cond.initialized C).before args s = true) (h : (Cond.isRef (.static C n d)).before args s = true) (hA : ∀ a : Nat, a < s.heap.size → ¬ A a) : vx_Zq C n d A s s.heap := by
  refine ⟨va_Zqof hl hini h hA, ?_⟩
  obtain ⟨c, k, i, f, a, cell, h1, h2, h3, h4, h5, h6, h7, h8, h9⟩ := Cond.laysStatic_spec hl
  exact ⟨c, k, i, f, a, cell, h1, h2, h3, h4, h5, h6, h7, h8, h9, hA a (Array.getElem?_eq_some_iff.mp h5).1⟩
theorem vx_isRef {C n d : String} {v : Value} {A : Nat → Prop} {s : State} {args : Array Value} (h : va_Z C n d v A s s.heap) (hv : v.isRef = true) : (Cond.isRef (.static C n d)).before args s = true := by
  obtain ⟨cf, kf, fi, f, a, cell, h1, h2, h3, h4, h5, h6, h7, -⟩ := h
  have he : (Term.static C n d).eval args s none [] s = some v := by
    simp [Term.eval, State.fieldNamed?, h1, h2, h4, h5, h6, h7]
  simp only [Cond.before, Cond.holds, Cond.value, he]
  cases v <;> simp_all [Value.isRef]
theorem vx_isRefq {C n d : String} {A : Nat → Prop} {s : State} {args : Array Value} (h : va_Zq C n d A s s.heap) : (Cond.isRef (.static C n d)).before args s = true := by
  rcases h with h | ⟨t, h⟩
  · exact vx_isRef h rfl
  · exact vx_isRef h rfl
/-- the same frame, seen from here: as if the method were called anew in this heap -/
theorem vx_rebase {T : State} (X : Stand p l e R s m args below meth c T locs cells slots) {R' : Room} (hf : R'.frames ≤ R.frames) (hl : R'.locals ≤ R.locals) (hc : cells + R'.cells ≤ R.cells) (hs : slots + R'.slots ≤ R.slots) :
    Stand p l e R' ((T.setVm s.vm).setFrames (.invoking m args :: below)) m args below meth c T [] 0 0 := by
  have htop : (T.setVm s.vm).topJava?.isSome := X.here.top
  have hF : ((T.setVm s.vm).setFrames (.invoking m args :: below)).frames = .invoking m args :: below := State.frames_setFrames _ (State.cur_lt_of_top htop)
  obtain ⟨g₀, hg0⟩ := Option.isSome_iff_exists.mp htop
  obtain ⟨r, hr⟩ := State.topJava?_eq_some.mp hg0
  have hl9 : e.platform.stackLimits (T.setVm s.vm).me = e.platform.stackLimits s.me := X.limits
  have hb9 : (T.setVm s.vm).me.stackBytes = s.me.stackBytes := X.bytes
  refine ⟨X.admits, X.cas, X.clock, hF, ?_, X.hears, X.method, X.code, X.here, X.tail, X.warmed, ?_, ?_, ?_⟩
  · have h := X.room
    have hU : ((T.setVm s.vm).setFrames (.invoking m args :: below)).localsInUse = s.localsInUse := by
      rw [State.localsInUse_invoking hF (meth := meth) (c := c) X.method X.code, State.localsInUse_invoking X.frames X.method X.code]
    simp only [State.hasRoom, Bool.and_eq_true, decide_eq_true_eq] at h ⊢
    obtain ⟨⟨⟨⟨h1, h2, h3, h4, h5, h6⟩, h7⟩, h8⟩, h9⟩ := h
    rw [X.frames, List.length_cons] at h2 h3
    have q1 := X.heapSize
    have q2 := X.used
    simp only [hF, hU, List.length_cons, State.stackLimits_setFrames, State.stackBytes_setFrames, hl9, hb9]
    refine ⟨⟨⟨⟨by omega, by omega, by omega, by omega, by omega, h6⟩, ?_⟩, ?_⟩, X.book⟩
    · show T.heap.size + R'.cells ≤ e.platform.maxCells
      omega
    · show T.slotsUsed + R'.slots ≤ e.platform.maxSlots
      omega
  · rw [State.stackLimits_setFrames]; rfl
  · rw [State.stackBytes_setFrames]; rfl
  · refine ⟨?_, Nat.le_refl _, Nat.le_refl _, ?_, ?_, fun a c9 h9 => ⟨c9, h9, rfl, rfl, fun _ _ => rfl⟩⟩
    · obtain ⟨t, ht, -⟩ := State.frames_cons hr
      show T.setVm s.vm = { ((T.setVm s.vm).setFrames (.invoking m args :: below)).setFrames (T.setVm s.vm).frames with heap := T.heap, slotsUsed := T.slotsUsed }
      rw [State.setFrames_setFrames, State.setFrames_self ht]
      rfl
    · show T.slotsUsed = T.slotsUsed + ((T.heap.toList.drop T.heap.size).map (·.slots.size)).sum
      rw [List.drop_eq_nil_of_le (Nat.le_of_eq Array.length_toList)]
      rfl
    · show ((T.heap.toList.drop T.heap.size).map (·.slots.size)).sum ≤ 0
      rw [List.drop_eq_nil_of_le (Nat.le_of_eq Array.length_toList)]
      exact Nat.le_refl _
/-- 'throw new E()': new; dup; invokespecial; athrow -/
theorem vx_throw0 {cc : ByteArray} {pc : Nat} (hexec : p.tables.exec = Jvm.exec) (hb : c.code = cc) (hl : l.stackTraces = false) {own cls : String} {names : List String} {ik ic mc ms : Nat} {A : Nat → Prop}
    (hown : s.vm.findClass own = some m.cls) (hcls : Bundle.fit cls = true) (hnames : ∀ n ∈ names, Bundle.fit n = true)
    (hk : (Cond.classLink own ik cls).before args s = true) (hini : (Cond.initialized cls).before args s = true) (hat : ∀ w ∈ vx_at0 own ic cls names, w.before args s = true)
    (hgood : ∀ w ∈ Cond.classLink own ik cls :: Cond.initialized cls :: vx_at0 own ic cls names, vx_ot w = true)
    (hU : vx_Zq Bundle.tN "UNASSIGNED_STACK" Bundle.steD A s s.heap) (hN : vx_Zq Bundle.tN "SUPPRESSED_SENTINEL" Bundle.listD A s s.heap) (hS : va_S A s.heap H locs) (hsize : ls.size = c.maxLocals)
    (d0 : decode cc pc = .ok (.new ik, 3)) (d3 : decode cc (pc + 3) = .ok (.dup, 1)) (d4 : decode cc (pc + 4) = .ok (.invokespecial ic, 3)) (d7 : decode cc (pc + 7) = .ok (.athrow, 1))
    (hout : ∀ x ∈ c.exceptionTable.toList, covers x (pc + 7) = false)
    (hRframes : names.length + 3 < R.frames) (hRlocals : (rest.map fun v => v.category).sum + (13 * (names.length + 1) + 42) ≤ R.locals) (hRcells : cells + 1 ≤ R.cells) (hRslots : slots + 6 ≤ R.slots) (hlocks : meth.locks = false)
    (hx : ∀ t : State, s.vm.Alike t.vm → H.size ≤ t.heap.size → (∀ q : Nat, q < H.size → t.heap[q]? = H[q]?) → XC cls s t)
    (hf : ∀ z ∈ locs, free z.base) (hc : cells + 1 ≤ mc) (hs : slots + 6 ≤ ms) :
    W p l e R s m args below meth c H locs cells slots (vx_MQ below Qc XC args s mc ms free) (F0 m pc ls rest) := by
  intro T hT X
  have htr : e.platform.stackTraces = false := (show e.platform.stackTraces = l.stackTraces by rw [X.admits.platform]).trans hl
  have Y := vx_rebase X (R' := { frames := R.frames, locals := R.locals, cells := 1, slots := 6 }) (Nat.le_refl _) (Nat.le_refl _) hRcells hRslots
  obtain ⟨s', hA⟩ : ∃ z, z = (T.setVm s.vm).setFrames (.invoking m args :: below) := ⟨_, rfl⟩
  rw [← hA] at Y
  have hvm : s'.vm = s.vm := by rw [hA]; rfl
  have hhp : s'.heap = H := by rw [hA]; exact hT
  have hW0 : s.WarmedH s'.vm := by rw [hvm]; exact State.WarmedH.refl s
  have hat' : ∀ w ∈ vx_at0 own ic cls names, w.before args s' = true := fun w hw => vx_ot_at hW0 hvm.symm (hgood w (List.mem_cons_of_mem _ (List.mem_cons_of_mem _ hw))) (hat w hw)
  have hk' : (Cond.classLink own ik cls).before args s' = true := vx_ot_at hW0 hvm.symm (hgood _ List.mem_cons_self) hk
  have hini' : (Cond.initialized cls).before args s' = true := vx_ot_at hW0 hvm.symm (hgood _ (List.mem_cons_of_mem _ List.mem_cons_self)) hini
  have hU' : vx_Zq Bundle.tN "UNASSIGNED_STACK" Bundle.steD A s' s'.heap := by rw [hhp]; exact vx_Zq.moved hW0.alike (hU.kept hS.2.1)
  have hN' : vx_Zq Bundle.tN "SUPPRESSED_SENTINEL" Bundle.listD A s' s'.heap := by rw [hhp]; exact vx_Zq.moved hW0.alike (hN.kept hS.2.1)
  have h : ∀ w ∈ Bundle.ownAtoms0 own ic cls names, w.before args s' = true := vx_own hat' (vx_isRefq hU'.1) (vx_isRefq hN'.1) hU'.2.word hN'.2.word
  have hown' : s'.vm.findClass own = some m.cls := by rw [hvm]; exact hown
  have hins : (Cond.instantiable cls 6).before args s' = true := h _ (by simp [Bundle.ownAtoms0])
  obtain ⟨vm₁, cX, kX, hfX, hkX, -, -, X₁, st1⟩ := Y.newCold hexec (own := own) (C := cls) (index := ik) (n := 6) hown' hk' hins hini'
    (g := F0 m pc ls rest) rfl (by rw [hb]; exact d0) (Nat.le_refl _) (Nat.le_refl _)
  generalize hT1 : (T.setVm vm₁).pushCell { cls := cX, slots := kX.instanceTypes.map defaultValue, vm := .none } = T1 at X₁ st1
  have hcat : (Value.ref T.heap.size).category = 1 := rfl
  have hcellA : T1.heap[T.heap.size]? = some (freshCell cX kX) := by rw [← hT1]; exact State.heap_pushCell_size _ _
  have d3' : decode c.code (pc + 3) = .ok (.dup, 1) := by rw [hb]; exact d3
  obtain ⟨U, hsteps, hrun, hend, hW, hsame, ce, hce, hO⟩ := X₁.ctorThrow0 hexec htr (own := own) (cls := cls) (names := names) (ic := ic) hown' hcls hnames h (fun x hx => nomatch hx) hfX hkX hcellA (by rw [hhp, hT]; exact Nat.le_refl _)
    (g := { method := m, pc := pc + 4, locals := ls, stack := .ref T.heap.size :: .ref T.heap.size :: rest, locked := none }) rfl hsize rfl rfl (rest := rest) rfl
    (by rw [hb]; exact d4) (by rw [hb]; exact d7) hout hRframes (by simp only [List.map_cons, List.sum_cons, hcat]; omega) hlocks
  obtain ⟨f1, f2⟩ := vx_frame hsame
  rw [hhp] at f1 f2
  have hWs : s.WarmedH U.vm := State.WarmedH.trans hW0 hW
  have hcl : s.vm.findClass cls = some ce.cls := by
    have h9 := hO.cls
    rw [hvm] at h9
    exact h9
  have hall : s.sameButNew ({ U with vm := s.vm } : State) locs mc ms := by
    subst hA
    obtain ⟨e1, e2⟩ := hsame
    rw [State.setFrames_setFrames] at e1
    have h2 : (T.setVm s.vm).sameButNew ({ U with vm := s.vm } : State) [] (0 + 1) (0 + 6) := ⟨e1, e2⟩
    have h3 := X.same.trans h2
    rw [List.append_nil] at h3
    exact h3.mono hc hs
  refine ⟨U, ?_, .threw T.heap.size, hrun, hend, Or.inr ⟨T.heap.size, rfl, cls, ce, locs, hx U hWs.alike f1 (fun q hq => f2 q hq (fun z hz => nomatch hz)), hce, hO.vm, hcl, hWs, hall, hf⟩⟩
  refine st1 _ ?_
  show Steps p.tables e below (T1.setTop { method := m, pc := pc + 3, locals := ls, stack := .ref T.heap.size :: rest, locked := none }) _
  jvm_step X₁.here [X₁.here.top, hexec, d3', Value.category]
  exact hsteps
/-- 'throw new E("text")': new; dup; ldc; invokespecial; athrow -/
theorem vx_throwS {cc : ByteArray} {pc : Nat} (hexec : p.tables.exec = Jvm.exec) (hb : c.code = cc) (hl : l.stackTraces = false) {own cls text : String} {names : List String} {ik is ic mc ms sa : Nat} {A : Nat → Prop}
    (hown : s.vm.findClass own = some m.cls) (hcls : Bundle.fit cls = true) (hnames : ∀ n ∈ names, Bundle.fit n = true)
    (hk : (Cond.classLink own ik cls).before args s = true) (hini : (Cond.initialized cls).before args s = true) (hstr : vk_R own is text sa s) (hat : ∀ w ∈ vx_atS own ic cls names, w.before args s = true)
    (hgood : ∀ w ∈ Cond.classLink own ik cls :: Cond.initialized cls :: vx_atS own ic cls names, vx_ot w = true)
    (hU : vx_Zq Bundle.tN "UNASSIGNED_STACK" Bundle.steD A s s.heap) (hN : vx_Zq Bundle.tN "SUPPRESSED_SENTINEL" Bundle.listD A s s.heap) (hS : va_S A s.heap H locs) (hsize : ls.size = c.maxLocals)
    (d0 : decode cc pc = .ok (.new ik, 3)) (d3 : decode cc (pc + 3) = .ok (.dup, 1)) (d4 : decode cc (pc + 4) = .ok (.ldc is, 2)) (d6 : decode cc (pc + 6) = .ok (.invokespecial ic, 3)) (d9 : decode cc (pc + 9) = .ok (.athrow, 1))
    (hout : ∀ x ∈ c.exceptionTable.toList, covers x (pc + 9) = false)
    (hRframes : names.length + 3 < R.frames) (hRlocals : (rest.map fun v => v.category).sum + (13 * (names.length + 1) + 43) ≤ R.locals) (hRcells : cells + 1 ≤ R.cells) (hRslots : slots + 6 ≤ R.slots) (hlocks : meth.locks = false)
    (hx : ∀ t : State, s.vm.Alike t.vm → H.size ≤ t.heap.size → (∀ q : Nat, q < H.size → t.heap[q]? = H[q]?) → XC cls s t)
    (hf : ∀ z ∈ locs, free z.base) (hc : cells + 1 ≤ mc) (hs : slots + 6 ≤ ms) :
    W p l e R s m args below meth c H locs cells slots (vx_MQ below Qc XC args s mc ms free) (F0 m pc ls rest) := by
  intro T hT X
  have htr : e.platform.stackTraces = false := (show e.platform.stackTraces = l.stackTraces by rw [X.admits.platform]).trans hl
  have Y := vx_rebase X (R' := { frames := R.frames, locals := R.locals, cells := 1, slots := 6 }) (Nat.le_refl _) (Nat.le_refl _) hRcells hRslots
  obtain ⟨s', hA⟩ : ∃ z, z = (T.setVm s.vm).setFrames (.invoking m args :: below) := ⟨_, rfl⟩
  rw [← hA] at Y
  have hvm : s'.vm = s.vm := by rw [hA]; rfl
  have hhp : s'.heap = H := by rw [hA]; exact hT
  have hW0 : s.WarmedH s'.vm := by rw [hvm]; exact State.WarmedH.refl s
  have hat' : ∀ w ∈ vx_atS own ic cls names, w.before args s' = true := fun w hw => vx_ot_at hW0 hvm.symm (hgood w (List.mem_cons_of_mem _ (List.mem_cons_of_mem _ hw))) (hat w hw)
  have hk' : (Cond.classLink own ik cls).before args s' = true := vx_ot_at hW0 hvm.symm (hgood _ List.mem_cons_self) hk
  have hini' : (Cond.initialized cls).before args s' = true := vx_ot_at hW0 hvm.symm (hgood _ (List.mem_cons_of_mem _ List.mem_cons_self)) hini
  have hU' : vx_Zq Bundle.tN "UNASSIGNED_STACK" Bundle.steD A s' s'.heap := by rw [hhp]; exact vx_Zq.moved hW0.alike (hU.kept hS.2.1)
  have hN' : vx_Zq Bundle.tN "SUPPRESSED_SENTINEL" Bundle.listD A s' s'.heap := by rw [hhp]; exact vx_Zq.moved hW0.alike (hN.kept hS.2.1)
  have h : ∀ w ∈ Bundle.ownAtoms own ic cls names, w.before args s' = true := vx_own hat' (vx_isRefq hU'.1) (vx_isRefq hN'.1) hU'.2.word hN'.2.word
  have hown' : s'.vm.findClass own = some m.cls := by rw [hvm]; exact hown
  have hins : (Cond.instantiable cls 6).before args s' = true := h _ (by simp [Bundle.ownAtoms])
  obtain ⟨vm₁, cX, kX, hfX, hkX, -, -, X₁, st1⟩ := Y.newCold hexec (own := own) (C := cls) (index := ik) (n := 6) hown' hk' hins hini'
    (g := F0 m pc ls rest) rfl (by rw [hb]; exact d0) (Nat.le_refl _) (Nat.le_refl _)
  generalize hT1 : (T.setVm vm₁).pushCell { cls := cX, slots := kX.instanceTypes.map defaultValue, vm := .none } = T1 at X₁ st1
  have hcat : (Value.ref T.heap.size).category = 1 := rfl
  have hcellA : T1.heap[T.heap.size]? = some (freshCell cX kX) := by rw [← hT1]; exact State.heap_pushCell_size _ _
  have d3' : decode c.code (pc + 3) = .ok (.dup, 1) := by rw [hb]; exact d3
  have d4' : decode c.code (pc + 4) = .ok (.ldc is, 2) := by rw [hb]; exact d4
  have hstr' : vk_R own is text sa s' := vk_R.warm hW0 hstr
  obtain ⟨U, hsteps, hrun, hend, hW, hsame, ce, hce, hO⟩ := X₁.ctorThrowS hexec htr (own := own) (cls := cls) (names := names) (ic := ic) hown' hcls hnames h (fun x hx => nomatch hx) hfX hkX hcellA (by rw [hhp, hT]; exact Nat.le_refl _) (msg := .ref sa) rfl
    (g := { method := m, pc := pc + 6, locals := ls, stack := .ref sa :: .ref T.heap.size :: .ref T.heap.size :: rest, locked := none }) rfl hsize rfl rfl (rest := rest) rfl
    (by rw [hb]; exact d6) (by rw [hb]; exact d9) hout hRframes (by simp only [List.map_cons, List.sum_cons, hcat]; omega) hlocks
  obtain ⟨f1, f2⟩ := vx_frame hsame
  rw [hhp] at f1 f2
  have hWs : s.WarmedH U.vm := State.WarmedH.trans hW0 hW
  have hcl : s.vm.findClass cls = some ce.cls := by
    have h9 := hO.cls
    rw [hvm] at h9
    exact h9
  have hall : s.sameButNew ({ U with vm := s.vm } : State) locs mc ms := by
    subst hA
    obtain ⟨e1, e2⟩ := hsame
    rw [State.setFrames_setFrames] at e1
    have h2 : (T.setVm s.vm).sameButNew ({ U with vm := s.vm } : State) [] (0 + 1) (0 + 6) := ⟨e1, e2⟩
    have h3 := X.same.trans h2
    rw [List.append_nil] at h3
    exact h3.mono hc hs
  refine ⟨U, ?_, .threw T.heap.size, hrun, hend, Or.inr ⟨T.heap.size, rfl, cls, ce, locs, hx U hWs.alike f1 (fun q hq => f2 q hq (fun z hz => nomatch hz)), hce, hO.vm, hcl, hWs, hall, hf⟩⟩
  refine st1 _ ?_
  show Steps p.tables e below (T1.setTop { method := m, pc := pc + 3, locals := ls, stack := .ref T.heap.size :: rest, locked := none }) _
  jvm_step X₁.here [X₁.here.top, hexec, d3', Value.category]
  exact X₁.ldcString hexec (own := own) (text := text) (index := is) (a := sa) hown' hstr'.1 hstr'.2
    (g := { method := m, pc := pc + 4, locals := ls, stack := .ref T.heap.size :: .ref T.heap.size :: rest, locked := none }) rfl d4' _ hsteps
/-- 'throw new E("text")', the text by a wide index -/
theorem vx_throwSW {cc : ByteArray} {pc : Nat} (hexec : p.tables.exec = Jvm.exec) (hb : c.code = cc) (hl : l.stackTraces = false) {own cls text : String} {names : List String} {ik is ic mc ms sa : Nat} {A : Nat → Prop}
    (hown : s.vm.findClass own = some m.cls) (hcls : Bundle.fit cls = true) (hnames : ∀ n ∈ names, Bundle.fit n = true)
    (hk : (Cond.classLink own ik cls).before args s = true) (hini : (Cond.initialized cls).before args s = true) (hstr : vk_R own is text sa s) (hat : ∀ w ∈ vx_atS own ic cls names, w.before args s = true)
    (hgood : ∀ w ∈ Cond.classLink own ik cls :: Cond.initialized cls :: vx_atS own ic cls names, vx_ot w = true)
    (hU : vx_Zq Bundle.tN "UNASSIGNED_STACK" Bundle.steD A s s.heap) (hN : vx_Zq Bundle.tN "SUPPRESSED_SENTINEL" Bundle.listD A s s.heap) (hS : va_S A s.heap H locs) (hsize : ls.size = c.maxLocals)
    (d0 : decode cc pc = .ok (.new ik, 3)) (d3 : decode cc (pc + 3) = .ok (.dup, 1)) (d4 : decode cc (pc + 4) = .ok (.ldc_w is, 3)) (d7 : decode cc (pc + 7) = .ok (.invokespecial ic, 3)) (d10 : decode cc (pc + 10) = .ok (.athrow, 1))
    (hout : ∀ x ∈ c.exceptionTable.toList, covers x (pc + 10) = false)
    (hRframes : names.length + 3 < R.frames) (hRlocals : (rest.map fun v => v.category).sum + (13 * (names.length + 1) + 43) ≤ R.locals) (hRcells : cells + 1 ≤ R.cells) (hRslots : slots + 6 ≤ R.slots) (hlocks : meth.locks = false)
    (hx : ∀ t : State, s.vm.Alike t.vm → H.size ≤ t.heap.size → (∀ q : Nat, q < H.size → t.heap[q]? = H[q]?) → XC cls s t)
    (hf : ∀ z ∈ locs, free z.base) (hc : cells + 1 ≤ mc) (hs : slots + 6 ≤ ms) :
    W p l e R s m args below meth c H locs cells slots (vx_MQ below Qc XC args s mc ms free) (F0 m pc ls rest) := by
  intro T hT X
  have htr : e.platform.stackTraces = false := (show e.platform.stackTraces = l.stackTraces by rw [X.admits.platform]).trans hl
  have Y := vx_rebase X (R' := { frames := R.frames, locals := R.locals, cells := 1, slots := 6 }) (Nat.le_refl _) (Nat.le_refl _) hRcells hRslots
  obtain ⟨s', hA⟩ : ∃ z, z = (T.setVm s.vm).setFrames (.invoking m args :: below) := ⟨_, rfl⟩
  rw [← hA] at Y
  have hvm : s'.vm = s.vm := by rw [hA]; rfl
  have hhp : s'.heap = H := by rw [hA]; exact hT
  have hW0 : s.WarmedH s'.vm := by rw [hvm]; exact State.WarmedH.refl s
  have hat' : ∀ w ∈ vx_atS own ic cls names, w.before args s' = true := fun w hw => vx_ot_at hW0 hvm.symm (hgood w (List.mem_cons_of_mem _ (List.mem_cons_of_mem _ hw))) (hat w hw)
  have hk' : (Cond.classLink own ik cls).before args s' = true := vx_ot_at hW0 hvm.symm (hgood _ List.mem_cons_self) hk
  have hini' : (Cond.initialized cls).before args s' = true := vx_ot_at hW0 hvm.symm (hgood _ (List.mem_cons_of_mem _ List.mem_cons_self)) hini
  have hU' : vx_Zq Bundle.tN "UNASSIGNED_STACK" Bundle.steD A s' s'.heap := by rw [hhp]; exact vx_Zq.moved hW0.alike (hU.kept hS.2.1)
  have hN' : vx_Zq Bundle.tN "SUPPRESSED_SENTINEL" Bundle.listD A s' s'.heap := by rw [hhp]; exact vx_Zq.moved hW0.alike (hN.kept hS.2.1)
  have h : ∀ w ∈ Bundle.ownAtoms own ic cls names, w.before args s' = true := vx_own hat' (vx_isRefq hU'.1) (vx_isRefq hN'.1) hU'.2.word hN'.2.word
  have hown' : s'.vm.findClass own = some m.cls := by rw [hvm]; exact hown
  have hins : (Cond.instantiable cls 6).before args s' = true := h _ (by simp [Bundle.ownAtoms])
  obtain ⟨vm₁, cX, kX, hfX, hkX, -, -, X₁, st1⟩ := Y.newCold hexec (own := own) (C := cls) (index := ik) (n := 6) hown' hk' hins hini'
    (g := F0 m pc ls rest) rfl (by rw [hb]; exact d0) (Nat.le_refl _) (Nat.le_refl _)
  generalize hT1 : (T.setVm vm₁).pushCell { cls := cX, slots := kX.instanceTypes.map defaultValue, vm := .none } = T1 at X₁ st1
  have hcat : (Value.ref T.heap.size).category = 1 := rfl
  have hcellA : T1.heap[T.heap.size]? = some (freshCell cX kX) := by rw [← hT1]; exact State.heap_pushCell_size _ _
  have d3' : decode c.code (pc + 3) = .ok (.dup, 1) := by rw [hb]; exact d3
  have d4' : decode c.code (pc + 4) = .ok (.ldc_w is, 3) := by rw [hb]; exact d4
  have hstr' : vk_R own is text sa s' := vk_R.warm hW0 hstr
  obtain ⟨U, hsteps, hrun, hend, hW, hsame, ce, hce, hO⟩ := X₁.ctorThrowS hexec htr (own := own) (cls := cls) (names := names) (ic := ic) hown' hcls hnames h (fun x hx => nomatch hx) hfX hkX hcellA (by rw [hhp, hT]; exact Nat.le_refl _) (msg := .ref sa) rfl
    (g := { method := m, pc := pc + 7, locals := ls, stack := .ref sa :: .ref T.heap.size :: .ref T.heap.size :: rest, locked := none }) rfl hsize rfl rfl (rest := rest) rfl
    (by rw [hb]; exact d7) (by rw [hb]; exact d10) hout hRframes (by simp only [List.map_cons, List.sum_cons, hcat]; omega) hlocks
  obtain ⟨f1, f2⟩ := vx_frame hsame
  rw [hhp] at f1 f2
  have hWs : s.WarmedH U.vm := State.WarmedH.trans hW0 hW
  have hcl : s.vm.findClass cls = some ce.cls := by
    have h9 := hO.cls
    rw [hvm] at h9
    exact h9
  have hall : s.sameButNew ({ U with vm := s.vm } : State) locs mc ms := by
    subst hA
    obtain ⟨e1, e2⟩ := hsame
    rw [State.setFrames_setFrames] at e1
    have h2 : (T.setVm s.vm).sameButNew ({ U with vm := s.vm } : State) [] (0 + 1) (0 + 6) := ⟨e1, e2⟩
    have h3 := X.same.trans h2
    rw [List.append_nil] at h3
    exact h3.mono hc hs
  refine ⟨U, ?_, .threw T.heap.size, hrun, hend, Or.inr ⟨T.heap.size, rfl, cls, ce, locs, hx U hWs.alike f1 (fun q hq => f2 q hq (fun z hz => nomatch hz)), hce, hO.vm, hcl, hWs, hall, hf⟩⟩
  refine st1 _ ?_
  show Steps p.tables e below (T1.setTop { method := m, pc := pc + 3, locals := ls, stack := .ref T.heap.size :: rest, locked := none }) _
  jvm_step X₁.here [X₁.here.top, hexec, d3', Value.category]
  exact X₁.ldcStringW hexec (own := own) (text := text) (index := is) (a := sa) hown' hstr'.1 hstr'.2
    (g := { method := m, pc := pc + 4, locals := ls, stack := .ref T.heap.size :: .ref T.heap.size :: rest, locked := none }) rfl d4' _ hsteps
end Ends
section Bodies
variable {l : Launch}
theorem vx_ofW {y : MethodName} {ws ws' : List Cond} {rm : Room} {Pc : Array Value → State → Prop} {Qc : Array Value → State → Outcome → State → Prop} {XC : String → State → State → Prop} {mc ms : Nat} {free : Addr → Prop} {cc : ByteArray} {maxL : Nat} {ret : Option FieldType}
    (hy : plainName y.cls = true) (hw : ws = Cond.code y cc maxL ret :: ws')
    (body : ∀ p e s m args below meth c s₁, BodyLoose p l y (headSpec ws rm) cc maxL ret e s m args below meth c s₁ → c.maxLocals = maxL → (∀ x ∈ c.exceptionTable.toList, False) → Pc args s →
      W p l e (headSpec ws rm).room s m args below meth c s.heap [] 0 0 (vx_MQ below Qc XC args s mc ms free) (entryFrame m args maxL)) : vx_Met l y ws rm Pc Qc XC mc ms free := by
  refine MetFree.of_bodyS (code := cc) (maxLocals := maxL) (ret := ret) hy ?_ ?_
  · intro args s m h hn
    obtain ⟨meth, c, h1, h2, h3, h4, h5, h6, -, -⟩ := Cond.code_spec hn (atoms_spec (ws := ws) h _ (by rw [hw]; exact List.mem_cons_self))
    exact ⟨meth, c, h1, h2, h3, h4, h5, h6⟩
  · intro p e s m args below meth c s₁ B hml hP _
    have hh0 : s₁.heap = s.heap := by rw [B.state]; rfl
    have ht : ∀ x ∈ c.exceptionTable.toList, False := by
      obtain ⟨meth9, c9, h1, h2, -, -, -, -, h7, -⟩ := Cond.code_spec B.named (atoms_spec (ws := ws) B.pre _ (by rw [hw]; exact List.mem_cons_self))
      cases Option.some.inj (h1.symm.trans B.method)
      cases Option.some.inj (h2.symm.trans (Stand.of_body B).code)
      intro x hx
      rw [Array.isEmpty_iff.mp h7] at hx
      cases hx
    obtain ⟨t, a1, o, b1, b2, b3⟩ := body p e s m args below meth c s₁ B hml ht hP s₁ hh0 (Stand.of_body B)
    exact ⟨t, o, a1, b1, b2, b3⟩
/-- the table of a body with handlers -/
theorem vx_table {p : Program} {x y : MethodName} {S : Spec} {cc bytes : ByteArray} {maxL maxL' : Nat} {ret ret' : Option FieldType} {e : Env} {s s₁ : State} {m : MethodId} {args : Array Value} {below : List Frame} {meth : Method} {c : Code} {hh : List (Nat × Nat × Nat × Nat)}
    (B : BodyLoose p l y S cc maxL ret e s m args below meth c s₁) (h : (Cond.codeWith y bytes maxL' ret' hh).before args s = true) : c.exceptionTable.toList = tableOf hh := by
  obtain ⟨m9, meth9, c9, hn9, h1, h2, -, -, h6, -⟩ := Cond.codeWith_spec h
  cases Option.some.inj (hn9.symm.trans B.named)
  cases Option.some.inj (h1.symm.trans B.method)
  cases Option.some.inj (h2.symm.trans (Stand.of_body B).code)
  rw [← h6, table_eq]
end Bodies
end VXA
/-! ===== END ===== -/
/-! ===== BEGIN a static call of a method with an exception table ===== -/
section VXS
variable {p : Program} {l : Launch} {e : Env} {R : Room} {s : State} {m : MethodId} {args : Array Value} {below : List Frame} {meth : Method} {c : Code} {T : State} {H : Heap} {locs : List Loc} {cells slots : Nat}
abbrev vx_CSW (R : Room) (s : State) (args : Array Value) (own : String) (index : Nat) (y : MethodName) (bytes : ByteArray) (maxL : Nat) (ret : Option FieldType) (hh : List (Nat × Nat × Nat × Nat)) (ws : List Cond) (rm : Room) (mc ms n : Nat) : Prop :=
  (rm.cells = mc ∧ rm.slots = ms ∧ rm.frames + 1 ≤ R.frames ∧ 8 + (maxL + 11) + rm.locals ≤ R.locals ∧ (∀ w ∈ ws, ∀ (a' : Array Value) (U : State), s.WarmedH U.vm → w.before a' U = true) ∧ Cond.codeWith y bytes maxL ret hh ∈ ws) ∧
  (Cond.codeWith y bytes maxL ret hh).before args s = true ∧ (Cond.initialized y.cls).before args s = true ∧ (y.cls ≠ "java/lang/invoke/MethodHandle" ∧ y.cls ≠ "java/lang/invoke/VarHandle") ∧
  (∀ sig, parseMethodDescriptor y.desc = some sig → n = sig.parameters.length) ∧ (Cond.methodLink own index y).before args s = true ∧ (Cond.static y).before args s = true
theorem vx_cwSW {own : String} {index maxL mc ms : Nat} {y : MethodName} {bytes : ByteArray} {ret : Option FieldType} {hh : List (Nat × Nat × Nat × Nat)} {Ts ws ws' : List Cond} {rm : Room} (n : Nat) (ht : ∀ w ∈ Ts, w.before args s = true) (hT : GoodIn Ts (va_wsS own index y ws)) (hw : ws = Cond.codeWith y bytes maxL ret hh :: ws') (hrc : rm.cells = mc) (hrs : rm.slots = ms)
    (hd : y.cls ≠ "java/lang/invoke/MethodHandle" ∧ y.cls ≠ "java/lang/invoke/VarHandle" ∧ (parseMethodDescriptor y.desc).map (fun d => d.parameters.length) = some n) (hR : rm.frames + 1 ≤ R.frames ∧ 8 + (maxL + 11) + rm.locals ≤ R.locals) :
    vx_CSW R s args own index y bytes maxL ret hh ws rm mc ms n := by
  have ok : ∀ w ∈ va_wsS own index y ws, w.before args s = true := fun w h => ht w (hT w h).1
  have hG : GoodIn Ts ws := fun w h => hT w (by unfold va_wsS; exact List.mem_append_right _ h)
  have hc : Cond.codeWith y bytes maxL ret hh ∈ ws := by rw [hw]; exact List.mem_cons_self
  refine ⟨⟨hrc, hrs, hR.1, hR.2, pay_in ht hG, hc⟩, ht _ (hG _ hc).1, ok _ (by simp [va_wsS]), ⟨hd.1, hd.2.1⟩, fun sig h => ?_, ok _ (by simp [va_wsS]), ok _ (by simp [va_wsS])⟩
  have h2 := hd.2.2
  rw [h] at h2
  exact (Option.some.inj h2).symm
theorem vx_callSW (X : Stand p l e R s m args below meth c T locs cells slots) (hexec : p.tables.exec = Jvm.exec) {own : String} {index : Nat} {y : MethodName} {bytes : ByteArray} {maxL : Nat} {ret : Option FieldType} {hh : List (Nat × Nat × Nat × Nat)}
    (hown : s.vm.findClass own = some m.cls) (hlink : (Cond.methodLink own index y).before args s = true) (hstat : (Cond.static y).before args s = true) (hinit : (Cond.initialized y.cls).before args s = true)
    (hcode : (Cond.codeWith y bytes maxL ret hh).before args s = true) (hy : y.cls ≠ "java/lang/invoke/MethodHandle" ∧ y.cls ≠ "java/lang/invoke/VarHandle")
    {W9 : Nat} {Pre : Pt → Array Value → Prop} {Post : Pt → Array Value → Option Value → Pt → Prop} (hK : Back l R p e below s args y 3 W9 Pre Post)
    {g : JFrame} (hg : g.method = m) (hsize : g.locals.size = c.maxLocals) {argsL rest : List Value} (hlen : ∀ sig, parseMethodDescriptor y.desc = some sig → argsL.length = sig.parameters.length)
    (hstack : g.stack = argsL.reverse ++ rest) (hW : 2 * g.monitorRoom + (rest.map fun v => v.category).sum ≤ W9) (hdg : decode c.code g.pc = .ok (.invokestatic index, 3))
    (hpre : ∀ vm₁, s.WarmedH vm₁ → Pre ⟨T.setVm vm₁, locs, cells, slots⟩ argsL.toArray) :
    ∃ (v : Option Value) (vm₁ : Vm) (B : Pt), s.WarmedH vm₁ ∧ Stand p l e R s m args below meth c B.U B.locs B.cells B.slots ∧ Post ⟨T.setVm vm₁, locs, cells, slots⟩ argsL.toArray v B ∧
      ∀ target, Steps p.tables e below (B.U.setTop { g with pc := g.pc + 3, stack := v.toList ++ rest }) target → Steps p.tables e below (T.setTop g) target := by
  obtain ⟨mk, methM, cM, hnamed, hmethM, -, -, -, -, -, -, hsigM⟩ := Cond.codeWith_spec hcode
  have hstatic : methM.isStatic = true := Cond.static_spec hnamed hmethM hstat
  obtain ⟨kP, hkP, -⟩ := className_of_methodNamed hnamed
  have hinitP : kP.init = .initialized := Cond.initialized_spec (findClass_of_methodNamed hnamed) hkP hinit
  obtain ⟨vm₁, X₁, hstep₁⟩ := X.invokestatic hexec hown hlink hnamed hmethM hstatic hkP hinitP hy (g := g) hg (argsL := argsL) (rest := rest) (hlen _ hsigM) hstack hdg
  obtain ⟨v, B, X', hpost, hsteps⟩ := hK m meth c ⟨T.setVm vm₁, locs, cells, slots⟩ { g with stack := rest } (.invokestatic index) mk argsL.toArray X₁ hg hsize hdg hW (X₁.named hnamed) (hpre vm₁ X₁.warmed)
  exact ⟨v, vm₁, B, X₁.warmed, X', hpost, fun target h => hstep₁ _ fun acts => by rw [doInvoke_state]; exact hsteps.trans h⟩
theorem vx_runSW {y : MethodName} {bytes cc : ByteArray} {maxL nL mc ms n index : Nat} {ret : Option FieldType} {hh : List (Nat × Nat × Nat × Nat)} {ws : List Cond} {rm : Room} {Pc : Array Value → State → Prop} {Qc : Array Value → State → Outcome → State → Prop} {free : Addr → Prop} {Ts : List Cond} {own : String} {As rest : List Value} {g : JFrame}
    (S : CallFix p m c cc nL s args Ts own) (hM : Met l y ws rm Pc Qc mc ms free) (cw : vx_CSW R s args own index y bytes maxL ret hh ws rm mc ms n) (hp : PreS s H Pc As)
    (hg : g.method = m) (hn : As.length = n) (hsize : g.locals.size = nL) (hstack : g.stack = As.reverse ++ rest) (hW : 2 * g.monitorRoom + (rest.map fun v => v.category).sum ≤ 8) (hdg : decode cc g.pc = .ok (.invokestatic index, 3)) (hf : cells + mc ≤ R.cells ∧ slots + ms ≤ R.slots) :
    va_Run p l e R s m args below meth c H locs cells slots mc ms g rest (Qc As.toArray) (free) := by
  obtain ⟨⟨hrc, hrs, hfr, hlo, hws, hcw⟩, hcode, hini, hy, hlen, hl, hstt⟩ := cw
  have hK : Back l R p e below s args y 3 8 (PreOf R mc ms Pc) (PostOf Qc mc ms free) := va_backW (hh := hh) (bytes := bytes) (maxL := maxL) (ret := ret) hM hp.1 hrc hrs hfr hlo hws hcw (fun a' U hW => word_at hW (Or.inl (by first | rfl | simp [Cond.onTables, Cond.keeps, Cond.steady])) hini)
  obtain ⟨hx, hb, hml, ho, -⟩ := S
  intro T hT X
  obtain ⟨v, vm₁, ⟨U', l2, c2, s2⟩, hW₁, X', ⟨g', mk, t, L, e1, e2, hq, h1, hL, h2, h3⟩, st⟩ := vx_callSW X hx (hh := hh) (bytes := bytes) (maxL := maxL) (ret := ret) ho hl hstt hini hcode hy hK hg (hsize.trans hml.symm) (argsL := As) (rest := rest) (fun sig h => hn.trans (hlen sig h)) hstack hW (by rw [hb]; exact hdg)
    (fun vm₁ hW₁ => ⟨hf.1, hf.2, hp.2 (T.setVm vm₁) hT hW₁⟩)
  dsimp only [Pt.U, Pt.locs, Pt.cells, Pt.slots] at X' e1 e2 h1 h2 h3 st
  subst h1; subst h2; subst h3
  exact ⟨v, (T.setVm vm₁).calling g' mk As.toArray, t, U', L, hT, X', hL, e1, e2, hq, st⟩
/-- not caught here, past rows that name other classes: it goes on to the caller -/
theorem vx_outP {p : Program} {l : Launch} {e : Env} {R : Room} {s : State} {m : MethodId} {args : Array Value} {below : List Frame} {meth : Method} {c : Code} {H : Heap} {locs : List Loc} {cells slots : Nat} {free : Addr → Prop} {ls : Array Slot} {rest : List Value} {Qc : Array Value → State → Outcome → State → Prop} {XC : String → State → State → Prop}
    {pc : Nat} {own E : String} {ce : Cell} {q : Addr} {mc ms : Nat} (hown : s.vm.findClass own = some m.cls) (hlocks : meth.locks = false)
    (hpass : ∀ z ∈ c.exceptionTable.toList, covers z pc = false ∨ (z.catchType ≠ 0 ∧ ∃ nm : String, (Cond.classLink own z.catchType nm).before args s = true ∧ va_Nc E nm s)) (hcell : H[q]? = some ce) (hv : ce.vm = .none) (hcl : s.vm.findClass E = some ce.cls)
    (hx : ∀ t : State, t.heap = H → s.vm.Alike t.vm → XC E s t) (hf : ∀ z ∈ locs, free z.base) (hc : cells ≤ mc) (hs : slots ≤ ms) :
    vx_W p l e R s m args below meth c H locs cells slots (vx_MQ below Qc XC args s mc ms free) (F0 m pc ls rest) q := by
  intro T hT X
  have hpl : e.platform.magicAccessors = ({} : Platform).magicAccessors := by rw [X.admits.platform]
  obtain ⟨vm', hW', X', st⟩ := X.outThrough hlocks q (g := F0 m pc ls rest) rfl rfl rfl (cell := ce) (by rw [hT]; exact hcell) (by rw [hv]; rfl)
    (by obtain ⟨k9, h9, -⟩ := Vm.findClass_spec hcl; exact ⟨k9, h9⟩) (fun z hz => by
      rcases hpass z hz with h | ⟨hz0, nm, hl1, hn1⟩
      · exact Or.inl h
      · obtain ⟨c6, hc6, hcl6⟩ := Cond.classLink_spec hown hl1 e.platform hpl
        obtain ⟨a8, b8, h1, h2, h3⟩ := hn1
        cases Option.some.inj (h1.symm.trans hcl)
        cases Option.some.inj (h2.symm.trans hc6)
        exact Or.inr ⟨hz0, _, hcl6, h3⟩)
  obtain ⟨g₀, hfr⟩ := X'.frames_eq
  have hcell9 : ((T.setVm vm').setFrames (.throwing q :: below)).heap[q]? = some ce := by
    show T.heap[q]? = some ce
    rw [hT]; exact hcell
  have hend : Ended ((T.setVm vm').setFrames (.throwing q :: below)) below (.threw q) := State.frames_setFrames _ (State.cur_lt_of_frames hfr)
  refine ⟨(T.setVm vm').setFrames (.throwing q :: below), ?_, .threw q, X'.here.running, hend, Or.inr ⟨q, rfl, E, ce, locs, hx _ hT (X'.ends _).1.alike, hcell9, hv, hcl, (X'.ends _).1, (X'.ends _).2.mono hc hs, hf⟩⟩
  rw [X.pushThrowing_eq]
  exact st
/-- a thing of a world lies in the heap -/
theorem vx_lt {D : va_G} {cl : List vw_C} {ws : va_W} {H1 : Heap} (h : va_P D cl ws H1) {k : Nat} {q : Nat × va_E} (hk : ws[k]? = some q) : q.1 < H1.size := (h k q hk).lt
end VXS
/-! ===== END ===== -/
/-! ===== BEGIN methods with a table of their own: called by a name, returning or throwing ===== -/
section VXH
/-! vx_backW, vx_callVX, vx_callSX, vx_callVW, vx_runVW, vx_runVX, vx_runSX, vx_ofWH follow the same proofs as their sisters above (Free/Laws.lean, Shelf42/LK1.lean); vx_outP calls Shelf42/NT130.lean (outThrough). -/
section
variable {l : Launch} {R : Room} {p : Program} {e : Env} {below : List Frame} {s : State} {sargs : Array Value} {y : MethodName} {len W9 : Nat}
theorem vx_backW {ws : List Cond} {rm : Room} {Pc : Array Value → State → Prop} {Qc : Array Value → State → Outcome → State → Prop} {XC : String → State → State → Prop} {mc ms : Nat} {free : Addr → Prop} {bytes : ByteArray} {maxL : Nat} {ret : Option FieldType} {hh : List (Nat × Nat × Nat × Nat)}
    (hM : vx_Met l y ws rm Pc Qc XC mc ms free) (hblind : FrameBlind Pc) (hrc : rm.cells = mc) (hrs : rm.slots = ms)
    (hframes : rm.frames + 1 ≤ R.frames) (hlocals : W9 + (maxL + 11) + rm.locals ≤ R.locals)
    (hws : ∀ w ∈ ws, ∀ a' U, s.WarmedH U.vm → w.before a' U = true) (hcode : Cond.codeWith y bytes maxL ret hh ∈ ws) (hinit : ∀ a' U, s.WarmedH U.vm → (Cond.initialized y.cls).before a' U = true) :
    vx_Back l R p e below s sargs y len W9 (PreOf R mc ms Pc) (PostOf Qc mc ms free) (vx_Post XC mc ms free) := by
  intro m meth c A g ig mk a X hg hsize hdg hW hn hp
  have h1 : (headSpec ws rm).pre.before a A.U = true := atoms_intro fun w hw => hws w hw _ _ X.warmed
  have h2 : (Cond.codeWith y bytes maxL ret hh).before a A.U = true := hws _ hcode _ _ X.warmed
  have h3 : (Cond.initialized y.cls).before a A.U = true := hinit _ _ X.warmed
  have h4 : A.cells + (headSpec ws rm).room.cells ≤ R.cells := by rw [show (headSpec ws rm).room.cells = mc from hrc]; exact hp.1
  have h5 : A.slots + (headSpec ws rm).room.slots ≤ R.slots := by rw [show (headSpec ws rm).room.slots = ms from hrs]; exact hp.2.1
  have hPc : Pc a (A.U.calling g mk a) := hblind _ _ _ _ hp.2.2
  obtain ⟨U, Ls, c0, s0⟩ := A
  dsimp only [Pt.U, Pt.locs, Pt.cells, Pt.slots] at h1 h2 h3 h4 h5 X hn hPc ⊢
  obtain ⟨m9, methY, cY, hn9, hmY, hcY, -, hlY, -⟩ := Cond.codeWith_spec h2
  cases Option.some.inj (hn9.symm.trans hn)
  obtain ⟨kY, hkY, -⟩ := className_of_methodNamed hn
  have hinitY : kY.init = .initialized := Cond.initialized_spec (findClass_of_methodNamed hn) hkY h3
  have h : At U g.method c below := by rw [hg]; exact X.here
  have hlocals9 : W9 + (maxL + 11) + (headSpec ws rm).room.locals ≤ R.locals := hlocals
  have happ : (headSpec ws rm).appliesLoose y e.platform (U.calling g mk a) = true :=
    Spec.appliesLoose_calling (g := g) h hdg hn hkY hinitY
      (X.room_calling (g := g) (R' := (headSpec ws rm).room) hsize hmY hcY hframes (by rw [hlY]; omega) h4 h5) h1
  obtain ⟨mid, hmid⟩ := h.above
  have hfr : (U.setTop g).frames = (.java g :: mid) ++ below := by rw [State.frames_setTop' g h.top, hmid]; rfl
  obtain ⟨o, s₂, hsteps, -, hend, hq⟩ := Steps.callFree hM p X.admits X.cas X.clock (acts := []) hfr happ hPc trivial
  have hq' : vx_Q Qc XC mc ms free a (U.calling g mk a) o s₂ := hq
  rw [State.frames_setTop' g h.top] at hend
  obtain ⟨g₀, hg0⟩ := Option.isSome_iff_exists.mp h.top
  obtain ⟨r, hr⟩ := State.topJava?_eq_some.mp hg0
  have hr' : (({ U with heap := s₂.heap, slotsUsed := s₂.slotsUsed } : State).setVm s₂.vm).frames = .java g₀ :: r := hr
  rcases hq' with ⟨hqc, L, hfe, hL⟩ | ⟨q, rfl, E, ce, L, hx, hce, hcv, hcl, hW₂, hsm, hL⟩
  · obtain ⟨⟨v, rfl⟩, hW₂, e2, q2, q3, q4, q5, q6⟩ := id hfe
    have e3 : s₂ = ({ (U.calling g mk a).setFrames s₂.frames with heap := s₂.heap, slotsUsed := s₂.slotsUsed } : State).setVm s₂.vm := by
      have : s₂ = ({ s₂ with vm := (U.calling g mk a).vm } : State).setVm s₂.vm := rfl
      rw [e2] at this
      exact this
    obtain ⟨c₂, i₂, len₂, hc₂, hd₂, hf₂⟩ := hend
    have hW' : U.WarmedH s₂.vm := hW₂
    have hcc : c₂ = c := by
      have h1 : s₂.code? g.method = U.code? g.method := by
        rw [State.code?_eq, State.code?_eq, hW'.alike.method?]
      exact Option.some.inj (hc₂.symm.trans (h1.trans h.code))
    subst hcc
    have hlen : len₂ = len := by rw [hdg] at hd₂; cases hd₂; rfl
    subst hlen
    have hs₂ : s₂ = (({ U with heap := s₂.heap, slotsUsed := s₂.slotsUsed } : State).setVm s₂.vm).setTop { g with pc := g.pc + len₂, stack := v.toList ++ g.stack } := by
      refine e3.trans ?_
      rw [hf₂, State.calling_eq h.top, State.setFrames_setFrames, State.setTop_of_frames _ hr', hr]
      rfl
    have hsame : U.sameButNew ({ U with heap := s₂.heap, slotsUsed := s₂.slotsUsed } : State) L mc ms := by
      refine ⟨?_, q2, q3, q4, q5, q6⟩
      obtain ⟨t, ht, -⟩ := State.frames_cons hr
      show ({ U with heap := s₂.heap, slotsUsed := s₂.slotsUsed } : State) = { U.setFrames U.frames with heap := s₂.heap, slotsUsed := s₂.slotsUsed }
      rw [State.setFrames_self ht]
    subst hg
    refine Or.inl ⟨v, ⟨(({ U with heap := s₂.heap, slotsUsed := s₂.slotsUsed } : State).setVm s₂.vm), Ls ++ L, c0 + mc, s0 + ms⟩,
      ⟨X.admits, X.cas, X.clock, X.frames, X.room, X.hears, X.method, X.code, (X.here.setHeapUsed s₂.heap s₂.slotsUsed).setVm hW'.alike, X.tail, State.WarmedH.trans X.warmed hW', X.limits, X.bytes, X.same.trans (hsame.setVm s.vm)⟩,
      ⟨g, mk, s₂, L, rfl, rfl, hqc, rfl, hL, rfl, rfl⟩, ?_⟩
    show Steps p.tables e below _ ((({ U with heap := s₂.heap, slotsUsed := s₂.slotsUsed } : State).setVm s₂.vm).setTop { g with pc := g.pc + len₂, stack := v.toList ++ g.stack })
    rw [← hs₂]
    exact hsteps
  · obtain ⟨e2, q2, q3, q4, q5, q6⟩ := id hsm
    have e3 : s₂ = ({ (U.calling g mk a).setFrames s₂.frames with heap := s₂.heap, slotsUsed := s₂.slotsUsed } : State).setVm s₂.vm := by
      have : s₂ = ({ s₂ with vm := (U.calling g mk a).vm } : State).setVm s₂.vm := rfl
      rw [e2] at this
      exact this
    have hf₂ : s₂.frames = .throwing q :: .java g :: U.frames.tail := hend
    have hW' : U.WarmedH s₂.vm := hW₂
    have hs₂ : s₂ = ((({ U with heap := s₂.heap, slotsUsed := s₂.slotsUsed } : State).setVm s₂.vm).setTop g).pushFrame (.throwing q) := by
      refine e3.trans ?_
      rw [hf₂, State.calling_eq h.top, State.setFrames_setFrames, State.pushFrame, State.frames_setTop _ hr', State.setTop_of_frames _ hr', State.setFrames_setFrames, hr]
      rfl
    have hsame : U.sameButNew ({ U with heap := s₂.heap, slotsUsed := s₂.slotsUsed } : State) L mc ms := by
      refine ⟨?_, q2, q3, q4, q5, q6⟩
      obtain ⟨t, ht, -⟩ := State.frames_cons hr
      show ({ U with heap := s₂.heap, slotsUsed := s₂.slotsUsed } : State) = { U.setFrames U.frames with heap := s₂.heap, slotsUsed := s₂.slotsUsed }
      rw [State.setFrames_self ht]
    subst hg
    refine Or.inr ⟨q, ⟨(({ U with heap := s₂.heap, slotsUsed := s₂.slotsUsed } : State).setVm s₂.vm), Ls ++ L, c0 + mc, s0 + ms⟩,
      ⟨X.admits, X.cas, X.clock, X.frames, X.room, X.hears, X.method, X.code, (X.here.setHeapUsed s₂.heap s₂.slotsUsed).setVm hW'.alike, X.tail, State.WarmedH.trans X.warmed hW', X.limits, X.bytes, X.same.trans (hsame.setVm s.vm)⟩,
      ⟨g, mk, s₂, L, E, ce, rfl, rfl, hx, hce, hcv, hcl, rfl, hL, rfl, rfl⟩, ?_⟩
    show Steps p.tables e below _ (((({ U with heap := s₂.heap, slotsUsed := s₂.slotsUsed } : State).setVm s₂.vm).setTop g).pushFrame (.throwing q))
    rw [← hs₂]
    exact hsteps
end
variable {p : Program} {l : Launch} {e : Env} {R : Room} {s : State} {m : MethodId} {args : Array Value} {below : List Frame} {meth : Method} {c : Code} {T : State} {H : Heap} {locs : List Loc} {cells slots : Nat}
theorem vx_callVX (X : Stand p l e R s m args below meth c T locs cells slots) (hexec : p.tables.exec = Jvm.exec) {own C : String} {index : Nat} {y : MethodName} {bytes : ByteArray} {maxL : Nat} {ret : Option FieldType} {hh : List (Nat × Nat × Nat × Nat)}
    (hown : s.vm.findClass own = some m.cls) (hlink : (Cond.methodLink own index y).before args s = true) (hinst : (Cond.instanceMethod y).before args s = true) (hsel : (Cond.selects C y y).before args s = true)
    (hcode : (Cond.codeWith y bytes maxL ret hh).before args s = true) (hy : y.cls ≠ "java/lang/invoke/MethodHandle" ∧ y.cls ≠ "java/lang/invoke/VarHandle")
    {W9 : Nat} {Pre : Pt → Array Value → Prop} {Post : Pt → Array Value → Option Value → Pt → Prop} {PostX : Pt → Array Value → Addr → Pt → Prop} (hK : vx_Back l R p e below s args y 3 W9 Pre Post PostX)
    {b : Addr} {cellB : Cell} (hcell : T.heap[b]? = some cellB) (hobj : cellB.vm.isStatics = false) (hcls : s.vm.findClass C = some cellB.cls)
    {g : JFrame} (hg : g.method = m) (hsize : g.locals.size = c.maxLocals) {argsL rest : List Value} (hlen : ∀ sig, parseMethodDescriptor y.desc = some sig → argsL.length = sig.parameters.length)
    (hstack : g.stack = argsL.reverse ++ .ref b :: rest) (hW : 2 * g.monitorRoom + (rest.map fun v => v.category).sum ≤ W9) (hdg : decode c.code g.pc = .ok (.invokevirtual index, 3))
    (hpre : ∀ vm₁, s.WarmedH vm₁ → Pre ⟨T.setVm vm₁, locs, cells, slots⟩ (Value.ref b :: argsL).toArray) :
    (∃ (v : Option Value) (vm₁ : Vm) (B : Pt), s.WarmedH vm₁ ∧ Stand p l e R s m args below meth c B.U B.locs B.cells B.slots ∧ Post ⟨T.setVm vm₁, locs, cells, slots⟩ (Value.ref b :: argsL).toArray v B ∧
      ∀ target, Steps p.tables e below (B.U.setTop { g with pc := g.pc + 3, stack := v.toList ++ rest }) target → Steps p.tables e below (T.setTop g) target) ∨
    (∃ (q : Addr) (vm₁ : Vm) (B : Pt), s.WarmedH vm₁ ∧ Stand p l e R s m args below meth c B.U B.locs B.cells B.slots ∧ PostX ⟨T.setVm vm₁, locs, cells, slots⟩ (Value.ref b :: argsL).toArray q B ∧
      Steps p.tables e below (T.setTop g) ((B.U.setTop { g with stack := rest }).pushFrame (.throwing q))) := by
  obtain ⟨mk, methM, hnamed, hmethM, hstM, habM⟩ := Cond.instanceMethod_spec hinst
  obtain ⟨m8, methM', cM, hn8, hmethM', -, -, -, -, -, -, hsigM⟩ := Cond.codeWith_spec hcode
  cases Option.some.inj (hn8.symm.trans hnamed)
  cases hmethM.symm.trans hmethM'
  obtain ⟨c2, r2, m2, q1, q2, q3, q4, kP, hkP, hkPi⟩ := Cond.selects_spec hsel
  cases hcls.symm.trans q1
  cases (State.methodFound?_of_named hnamed hy).symm.trans q2
  cases hnamed.symm.trans q3
  have hselP : selectMethod e.platform s.vm cellB.cls mk = .method mk := by rw [Launch.admits_selectMethod X.admits]; exact q4
  obtain ⟨vm₁, X₁, hstep₁⟩ := X.invokevirtual hexec hown hlink hnamed hmethM hstM hkP hkPi hy (a := b) (cell := cellB) hcell
    (fun z h => by rw [h] at hobj; cases hobj) hselP hmethM habM hkP hkPi (g := g) hg (argsL := argsL) (rest := rest) (hlen _ hsigM) hstack hdg
  rcases hK m meth c ⟨T.setVm vm₁, locs, cells, slots⟩ { g with stack := rest } (.invokevirtual index) mk (Value.ref b :: argsL).toArray X₁ hg hsize hdg hW (X₁.named hnamed) (hpre vm₁ X₁.warmed) with ⟨v, B, X', hpost, hsteps⟩ | ⟨q, B, X', hpost, hsteps⟩
  · exact Or.inl ⟨v, vm₁, B, X₁.warmed, X', hpost, fun target h => hstep₁ _ fun acts => by rw [doInvoke_state]; exact hsteps.trans h⟩
  · exact Or.inr ⟨q, vm₁, B, X₁.warmed, X', hpost, hstep₁ _ fun acts => by rw [doInvoke_state]; exact hsteps⟩
theorem vx_callSX (X : Stand p l e R s m args below meth c T locs cells slots) (hexec : p.tables.exec = Jvm.exec) {own : String} {index : Nat} {y : MethodName} {bytes : ByteArray} {maxL : Nat} {ret : Option FieldType} {hh : List (Nat × Nat × Nat × Nat)}
    (hown : s.vm.findClass own = some m.cls) (hlink : (Cond.methodLink own index y).before args s = true) (hstat : (Cond.static y).before args s = true) (hinit : (Cond.initialized y.cls).before args s = true)
    (hcode : (Cond.codeWith y bytes maxL ret hh).before args s = true) (hy : y.cls ≠ "java/lang/invoke/MethodHandle" ∧ y.cls ≠ "java/lang/invoke/VarHandle")
    {W9 : Nat} {Pre : Pt → Array Value → Prop} {Post : Pt → Array Value → Option Value → Pt → Prop} {PostX : Pt → Array Value → Addr → Pt → Prop} (hK : vx_Back l R p e below s args y 3 W9 Pre Post PostX)
    {g : JFrame} (hg : g.method = m) (hsize : g.locals.size = c.maxLocals) {argsL rest : List Value} (hlen : ∀ sig, parseMethodDescriptor y.desc = some sig → argsL.length = sig.parameters.length)
    (hstack : g.stack = argsL.reverse ++ rest) (hW : 2 * g.monitorRoom + (rest.map fun v => v.category).sum ≤ W9) (hdg : decode c.code g.pc = .ok (.invokestatic index, 3))
    (hpre : ∀ vm₁, s.WarmedH vm₁ → Pre ⟨T.setVm vm₁, locs, cells, slots⟩ argsL.toArray) :
    (∃ (v : Option Value) (vm₁ : Vm) (B : Pt), s.WarmedH vm₁ ∧ Stand p l e R s m args below meth c B.U B.locs B.cells B.slots ∧ Post ⟨T.setVm vm₁, locs, cells, slots⟩ argsL.toArray v B ∧
      ∀ target, Steps p.tables e below (B.U.setTop { g with pc := g.pc + 3, stack := v.toList ++ rest }) target → Steps p.tables e below (T.setTop g) target) ∨
    (∃ (q : Addr) (vm₁ : Vm) (B : Pt), s.WarmedH vm₁ ∧ Stand p l e R s m args below meth c B.U B.locs B.cells B.slots ∧ PostX ⟨T.setVm vm₁, locs, cells, slots⟩ argsL.toArray q B ∧
      Steps p.tables e below (T.setTop g) ((B.U.setTop { g with stack := rest }).pushFrame (.throwing q))) := by
  obtain ⟨mk, methM, cM, hnamed, hmethM, -, -, -, -, -, -, hsigM⟩ := Cond.codeWith_spec hcode
  have hstatic : methM.isStatic = true := Cond.static_spec hnamed hmethM hstat
  obtain ⟨kP, hkP, -⟩ := className_of_methodNamed hnamed
  have hinitP : kP.init = .initialized := Cond.initialized_spec (findClass_of_methodNamed hnamed) hkP hinit
  obtain ⟨vm₁, X₁, hstep₁⟩ := X.invokestatic hexec hown hlink hnamed hmethM hstatic hkP hinitP hy (g := g) hg (argsL := argsL) (rest := rest) (hlen _ hsigM) hstack hdg
  rcases hK m meth c ⟨T.setVm vm₁, locs, cells, slots⟩ { g with stack := rest } (.invokestatic index) mk argsL.toArray X₁ hg hsize hdg hW (X₁.named hnamed) (hpre vm₁ X₁.warmed) with ⟨v, B, X', hpost, hsteps⟩ | ⟨q, B, X', hpost, hsteps⟩
  · exact Or.inl ⟨v, vm₁, B, X₁.warmed, X', hpost, fun target h => hstep₁ _ fun acts => by rw [doInvoke_state]; exact hsteps.trans h⟩
  · exact Or.inr ⟨q, vm₁, B, X₁.warmed, X', hpost, hstep₁ _ fun acts => by rw [doInvoke_state]; exact hsteps⟩
theorem vx_callVW (X : Stand p l e R s m args below meth c T locs cells slots) (hexec : p.tables.exec = Jvm.exec) {own C : String} {index : Nat} {y : MethodName} {bytes : ByteArray} {maxL : Nat} {ret : Option FieldType} {hh : List (Nat × Nat × Nat × Nat)}
    (hown : s.vm.findClass own = some m.cls) (hlink : (Cond.methodLink own index y).before args s = true) (hinst : (Cond.instanceMethod y).before args s = true) (hsel : (Cond.selects C y y).before args s = true)
    (hcode : (Cond.codeWith y bytes maxL ret hh).before args s = true) (hy : y.cls ≠ "java/lang/invoke/MethodHandle" ∧ y.cls ≠ "java/lang/invoke/VarHandle")
    {W9 : Nat} {Pre : Pt → Array Value → Prop} {Post : Pt → Array Value → Option Value → Pt → Prop} (hK : Back l R p e below s args y 3 W9 Pre Post)
    {b : Addr} {cellB : Cell} (hcell : T.heap[b]? = some cellB) (hobj : cellB.vm.isStatics = false) (hcls : s.vm.findClass C = some cellB.cls)
    {g : JFrame} (hg : g.method = m) (hsize : g.locals.size = c.maxLocals) {argsL rest : List Value} (hlen : ∀ sig, parseMethodDescriptor y.desc = some sig → argsL.length = sig.parameters.length)
    (hstack : g.stack = argsL.reverse ++ .ref b :: rest) (hW : 2 * g.monitorRoom + (rest.map fun v => v.category).sum ≤ W9) (hdg : decode c.code g.pc = .ok (.invokevirtual index, 3))
    (hpre : ∀ vm₁, s.WarmedH vm₁ → Pre ⟨T.setVm vm₁, locs, cells, slots⟩ (Value.ref b :: argsL).toArray) :
    ∃ (v : Option Value) (vm₁ : Vm) (B : Pt), s.WarmedH vm₁ ∧ Stand p l e R s m args below meth c B.U B.locs B.cells B.slots ∧ Post ⟨T.setVm vm₁, locs, cells, slots⟩ (Value.ref b :: argsL).toArray v B ∧
      ∀ target, Steps p.tables e below (B.U.setTop { g with pc := g.pc + 3, stack := v.toList ++ rest }) target → Steps p.tables e below (T.setTop g) target := by
  obtain ⟨mk, methM, hnamed, hmethM, hstM, habM⟩ := Cond.instanceMethod_spec hinst
  obtain ⟨m8, methM', cM, hn8, hmethM', -, -, -, -, -, -, hsigM⟩ := Cond.codeWith_spec hcode
  cases Option.some.inj (hn8.symm.trans hnamed)
  cases hmethM.symm.trans hmethM'
  obtain ⟨c2, r2, m2, q1, q2, q3, q4, kP, hkP, hkPi⟩ := Cond.selects_spec hsel
  cases hcls.symm.trans q1
  cases (State.methodFound?_of_named hnamed hy).symm.trans q2
  cases hnamed.symm.trans q3
  have hselP : selectMethod e.platform s.vm cellB.cls mk = .method mk := by rw [Launch.admits_selectMethod X.admits]; exact q4
  obtain ⟨vm₁, X₁, hstep₁⟩ := X.invokevirtual hexec hown hlink hnamed hmethM hstM hkP hkPi hy (a := b) (cell := cellB) hcell
    (fun z h => by rw [h] at hobj; cases hobj) hselP hmethM habM hkP hkPi (g := g) hg (argsL := argsL) (rest := rest) (hlen _ hsigM) hstack hdg
  obtain ⟨v, B, X', hpost, hsteps⟩ := hK m meth c ⟨T.setVm vm₁, locs, cells, slots⟩ { g with stack := rest } (.invokevirtual index) mk (Value.ref b :: argsL).toArray X₁ hg hsize hdg hW (X₁.named hnamed) (hpre vm₁ X₁.warmed)
  exact ⟨v, vm₁, B, X₁.warmed, X', hpost, fun target h => hstep₁ _ fun acts => by rw [doInvoke_state]; exact hsteps.trans h⟩
abbrev vx_CVW (R : Room) (s : State) (args : Array Value) (own C : String) (index : Nat) (y : MethodName) (bytes : ByteArray) (maxL : Nat) (ret : Option FieldType) (hh : List (Nat × Nat × Nat × Nat)) (ws : List Cond) (rm : Room) (mc ms n : Nat) : Prop :=
  (rm.cells = mc ∧ rm.slots = ms ∧ rm.frames + 1 ≤ R.frames ∧ 8 + (maxL + 11) + rm.locals ≤ R.locals ∧ (∀ w ∈ ws, ∀ (a' : Array Value) (U : State), s.WarmedH U.vm → w.before a' U = true) ∧ Cond.codeWith y bytes maxL ret hh ∈ ws) ∧
  (Cond.codeWith y bytes maxL ret hh).before args s = true ∧ (Cond.initialized y.cls).before args s = true ∧ (y.cls ≠ "java/lang/invoke/MethodHandle" ∧ y.cls ≠ "java/lang/invoke/VarHandle") ∧
  (∀ sig, parseMethodDescriptor y.desc = some sig → n = sig.parameters.length) ∧ (Cond.methodLink own index y).before args s = true ∧ (Cond.instanceMethod y).before args s = true ∧ (Cond.selects C y y).before args s = true
theorem vx_cwVW {own C : String} {index maxL mc ms : Nat} {y : MethodName} {bytes : ByteArray} {ret : Option FieldType} {hh : List (Nat × Nat × Nat × Nat)} {Ts ws ws' : List Cond} {rm : Room} (n : Nat) (ht : ∀ w ∈ Ts, w.before args s = true) (hT : GoodIn Ts (wsV own index C y ws)) (hw : ws = Cond.codeWith y bytes maxL ret hh :: ws') (hrc : rm.cells = mc) (hrs : rm.slots = ms)
    (hd : y.cls = C ∧ y.cls ≠ "java/lang/invoke/MethodHandle" ∧ y.cls ≠ "java/lang/invoke/VarHandle" ∧ (parseMethodDescriptor y.desc).map (fun d => d.parameters.length) = some n) (hR : rm.frames + 1 ≤ R.frames ∧ 8 + (maxL + 11) + rm.locals ≤ R.locals) :
    vx_CVW R s args own C index y bytes maxL ret hh ws rm mc ms n := by
  obtain ⟨hC, hd⟩ := hd
  subst hC
  have ok : ∀ w ∈ wsV own index y.cls y ws, w.before args s = true := fun w h => ht w (hT w h).1
  have hG : GoodIn Ts ws := fun w h => hT w (by unfold wsV; exact List.mem_append_right _ h)
  have hc : Cond.codeWith y bytes maxL ret hh ∈ ws := by rw [hw]; exact List.mem_cons_self
  refine ⟨⟨hrc, hrs, hR.1, hR.2, pay_in ht hG, hc⟩, ht _ (hG _ hc).1, ok _ (by simp [wsV]), ⟨hd.1, hd.2.1⟩, fun sig h => ?_, ok _ (by simp [wsV]), ok _ (by simp [wsV]), ok _ (by simp [wsV])⟩
  have h2 := hd.2.2
  rw [h] at h2
  exact (Option.some.inj h2).symm
theorem vx_runVW {y : MethodName} {bytes cc : ByteArray} {maxL nL mc ms n index : Nat} {ret : Option FieldType} {hh : List (Nat × Nat × Nat × Nat)} {ws : List Cond} {rm : Room} {Pc : Array Value → State → Prop} {Qc : Array Value → State → Outcome → State → Prop} {free : Addr → Prop} {Ts : List Cond} {own C : String} {b : Addr} {As rest : List Value} {g : JFrame}
    (S : CallFix p m c cc nL s args Ts own) (hM : Met l y ws rm Pc Qc mc ms free) (cw : vx_CVW R s args own C index y bytes maxL ret hh ws rm mc ms n) (hp : PreV s H C b Pc As)
    (hg : g.method = m) (hn : As.length = n) (hsize : g.locals.size = nL) (hstack : g.stack = As.reverse ++ .ref b :: rest) (hW : 2 * g.monitorRoom + (rest.map fun v => v.category).sum ≤ 8) (hdg : decode cc g.pc = .ok (.invokevirtual index, 3)) (hf : cells + mc ≤ R.cells ∧ slots + ms ≤ R.slots) :
    va_Run p l e R s m args below meth c H locs cells slots mc ms g rest (Qc (Value.ref b :: As).toArray) free := by
  obtain ⟨⟨hrc, hrs, hfr, hlo, hws, hcw⟩, hcode, hini, hy, hlen, hl, hin, hse⟩ := cw
  have hK : Back l R p e below s args y 3 8 (PreOf R mc ms Pc) (PostOf Qc mc ms free) := va_backW (hh := hh) (bytes := bytes) (maxL := maxL) (ret := ret) hM hp.1 hrc hrs hfr hlo hws hcw (fun a' U hW => word_at hW (Or.inl (by first | rfl | simp [Cond.onTables, Cond.keeps, Cond.steady])) hini)
  obtain ⟨hx, hb, hml, ho, -⟩ := S
  obtain ⟨-, ⟨cellB, hcB, hoB, hclB⟩, hPc⟩ := hp
  intro T hT X
  obtain ⟨v, vm₁, ⟨U', l2, c2, s2⟩, hW₁, X', ⟨g', mk, t, L, e1, e2, hq, h1, hL, h2, h3⟩, st⟩ := vx_callVW X hx (C := C) (hh := hh) (bytes := bytes) (maxL := maxL) (ret := ret) ho hl hin hse hcode hy hK (by rw [hT]; exact hcB) hoB hclB hg (hsize.trans hml.symm) (argsL := As) (rest := rest) (fun sig h => hn.trans (hlen sig h)) hstack hW (by rw [hb]; exact hdg)
    (fun vm₁ hW₁ => ⟨hf.1, hf.2, hPc (T.setVm vm₁) hT hW₁⟩)
  dsimp only [Pt.U, Pt.locs, Pt.cells, Pt.slots] at X' e1 e2 h1 h2 h3 st
  subst h1; subst h2; subst h3
  exact ⟨v, (T.setVm vm₁).calling g' mk (Value.ref b :: As).toArray, t, U', L, hT, X', hL, e1, e2, hq, st⟩
section
variable {y : MethodName} {bytes cc : ByteArray} {maxL nL mc ms n index : Nat} {ret : Option FieldType} {ws : List Cond} {rm : Room} {Pc : Array Value → State → Prop} {Qc : Array Value → State → Outcome → State → Prop} {XC : String → State → State → Prop} {free : Addr → Prop} {Ts : List Cond} {own C : String} {b : Addr} {As rest : List Value} {g : JFrame}
theorem vx_runVX {hh : List (Nat × Nat × Nat × Nat)} (S : CallFix p m c cc nL s args Ts own) (hM : vx_Met l y ws rm Pc Qc XC mc ms free) (cw : vx_CVW R s args own C index y bytes maxL ret hh ws rm mc ms n) (hp : PreV s H C b Pc As)
    (hg : g.method = m) (hn : As.length = n) (hsize : g.locals.size = nL) (hstack : g.stack = As.reverse ++ .ref b :: rest) (hW : 2 * g.monitorRoom + (rest.map fun v => v.category).sum ≤ 8) (hdg : decode cc g.pc = .ok (.invokevirtual index, 3)) (hf : cells + mc ≤ R.cells ∧ slots + ms ≤ R.slots) :
    vx_Run p l e R s m args below meth c H locs cells slots mc ms g rest (Qc (Value.ref b :: As).toArray) XC free := by
  obtain ⟨⟨hrc, hrs, hfr, hlo, hws, hcw⟩, hcode, hini, hy, hlen, hl, hin, hse⟩ := cw
  have hK : vx_Back l R p e below s args y 3 8 (PreOf R mc ms Pc) (PostOf Qc mc ms free) (vx_Post XC mc ms free) := vx_backW (hh := hh) (bytes := bytes) (maxL := maxL) (ret := ret) hM hp.1 hrc hrs hfr hlo hws hcw (fun a' U hW => word_at hW (Or.inl (by first | rfl | simp [Cond.onTables, Cond.keeps, Cond.steady])) hini)
  obtain ⟨hx, hb, hml, ho, -⟩ := S
  obtain ⟨-, ⟨cellB, hcB, hoB, hclB⟩, hPc⟩ := hp
  intro T hT X
  rcases vx_callVX X hx (C := C) (hh := hh) (bytes := bytes) (maxL := maxL) (ret := ret) ho hl hin hse hcode hy hK (by rw [hT]; exact hcB) hoB hclB hg (hsize.trans hml.symm) (argsL := As) (rest := rest) (fun sig h => hn.trans (hlen sig h)) hstack hW (by rw [hb]; exact hdg)
    (fun vm₁ hW₁ => ⟨hf.1, hf.2, hPc (T.setVm vm₁) hT hW₁⟩) with ⟨v, vm₁, ⟨U', l2, c2, s2⟩, hW₁, X', ⟨g', mk, t, L, e1, e2, hq, h1, hL, h2, h3⟩, st⟩ | ⟨q, vm₁, ⟨U', l2, c2, s2⟩, hW₁, X', ⟨g', mk, t, L, E, ce, e1, e2, hq, hce, hcv, hcl, h1, hL, h2, h3⟩, st⟩
  · dsimp only [Pt.U, Pt.locs, Pt.cells, Pt.slots] at X' e1 e2 h1 h2 h3 st
    subst h1; subst h2; subst h3
    exact Or.inl ⟨v, (T.setVm vm₁).calling g' mk (Value.ref b :: As).toArray, t, U', L, hT, X', hL, e1, e2, hq, st⟩
  · dsimp only [Pt.U, Pt.locs, Pt.cells, Pt.slots] at X' e1 e2 h1 h2 h3 st hcl
    subst h1; subst h2; subst h3
    exact Or.inr ⟨q, (T.setVm vm₁).calling g' mk (Value.ref b :: As).toArray, t, U', L, E, ce, hT, X', hL, e1, e2, hq, hce, hcv, vx_cls hW₁ hcl, st⟩
theorem vx_runSX {hh : List (Nat × Nat × Nat × Nat)} (S : CallFix p m c cc nL s args Ts own) (hM : vx_Met l y ws rm Pc Qc XC mc ms free) (cw : vx_CSW R s args own index y bytes maxL ret hh ws rm mc ms n) (hp : PreS s H Pc As)
    (hg : g.method = m) (hn : As.length = n) (hsize : g.locals.size = nL) (hstack : g.stack = As.reverse ++ rest) (hW : 2 * g.monitorRoom + (rest.map fun v => v.category).sum ≤ 8) (hdg : decode cc g.pc = .ok (.invokestatic index, 3)) (hf : cells + mc ≤ R.cells ∧ slots + ms ≤ R.slots) :
    vx_Run p l e R s m args below meth c H locs cells slots mc ms g rest (Qc As.toArray) XC free := by
  obtain ⟨⟨hrc, hrs, hfr, hlo, hws, hcw⟩, hcode, hini, hy, hlen, hl, hstt⟩ := cw
  have hK : vx_Back l R p e below s args y 3 8 (PreOf R mc ms Pc) (PostOf Qc mc ms free) (vx_Post XC mc ms free) := vx_backW (hh := hh) (bytes := bytes) (maxL := maxL) (ret := ret) hM hp.1 hrc hrs hfr hlo hws hcw (fun a' U hW => word_at hW (Or.inl (by first | rfl | simp [Cond.onTables, Cond.keeps, Cond.steady])) hini)
  obtain ⟨hx, hb, hml, ho, -⟩ := S
  intro T hT X
  rcases vx_callSX X hx (hh := hh) (bytes := bytes) (maxL := maxL) (ret := ret) ho hl hstt hini hcode hy hK hg (hsize.trans hml.symm) (argsL := As) (rest := rest) (fun sig h => hn.trans (hlen sig h)) hstack hW (by rw [hb]; exact hdg)
    (fun vm₁ hW₁ => ⟨hf.1, hf.2, hp.2 (T.setVm vm₁) hT hW₁⟩) with ⟨v, vm₁, ⟨U', l2, c2, s2⟩, hW₁, X', ⟨g', mk, t, L, e1, e2, hq, h1, hL, h2, h3⟩, st⟩ | ⟨q, vm₁, ⟨U', l2, c2, s2⟩, hW₁, X', ⟨g', mk, t, L, E, ce, e1, e2, hq, hce, hcv, hcl, h1, hL, h2, h3⟩, st⟩
  · dsimp only [Pt.U, Pt.locs, Pt.cells, Pt.slots] at X' e1 e2 h1 h2 h3 st
    subst h1; subst h2; subst h3
    exact Or.inl ⟨v, (T.setVm vm₁).calling g' mk As.toArray, t, U', L, hT, X', hL, e1, e2, hq, st⟩
  · dsimp only [Pt.U, Pt.locs, Pt.cells, Pt.slots] at X' e1 e2 h1 h2 h3 st hcl
    subst h1; subst h2; subst h3
    exact Or.inr ⟨q, (T.setVm vm₁).calling g' mk As.toArray, t, U', L, E, ce, hT, X', hL, e1, e2, hq, hce, hcv, vx_cls hW₁ hcl, st⟩
end
end VXH
theorem vx_ofWH {l : Launch} {y : MethodName} {ws ws' : List Cond} {rm : Room} {Pc : Array Value → State → Prop} {Qc : Array Value → State → Outcome → State → Prop} {XC : String → State → State → Prop} {mc ms : Nat} {free : Addr → Prop} {cc : ByteArray} {maxL : Nat} {ret : Option FieldType} {hh : List (Nat × Nat × Nat × Nat)}
    (hy : plainName y.cls = true) (hw : ws = Cond.codeWith y cc maxL ret hh :: ws')
    (body : ∀ p e s m args below meth c s₁, BodyLoose p l y (headSpec ws rm) cc maxL ret e s m args below meth c s₁ → c.maxLocals = maxL → Pc args s →
      W p l e (headSpec ws rm).room s m args below meth c s.heap [] 0 0 (vx_MQ below Qc XC args s mc ms free) (entryFrame m args maxL)) : vx_Met l y ws rm Pc Qc XC mc ms free := by
  refine MetFree.of_bodyS (code := cc) (maxLocals := maxL) (ret := ret) hy ?_ ?_
  · intro args s m h hn
    obtain ⟨m9, meth, c, hn9, h1, h2, h3, h4, -, h5, h6, -⟩ := Cond.codeWith_spec (atoms_spec (ws := ws) h _ (by rw [hw]; exact List.mem_cons_self))
    cases hn.symm.trans hn9
    exact ⟨meth, c, h1, h2, h3, h4, h5, h6⟩
  · intro p e s m args below meth c s₁ B hml hP _
    have hh0 : s₁.heap = s.heap := by rw [B.state]; rfl
    obtain ⟨t, a1, o, b1, b2, b3⟩ := body p e s m args below meth c s₁ B hml hP s₁ hh0 (Stand.of_body B)
    exact ⟨t, o, a1, b1, b2, b3⟩
/-! ===== END ===== -/

/-! ===== BEGIN what the machine throws by itself, no traces kept ===== -/
section VXM
set_option maxHeartbeats 1000000 in
/-- the machine throws cls with the message text, no traces kept: from its note over the frame g to 'throwing' over the same frame (follows the proofs of Stand.vmThrowsMessage, Shelf/KitTracedVmS.lean, and Stand.throwsMessageColdBareV, StandMessageColdV.lean, without the step out of the frame) -/
theorem vx_vmAt {p : Program} {l : Launch} {e : Env} {R : Room} {s : State} {m₀ : MethodId} {args : Array Value} {below : List Frame} {meth : Method} {c : Code} {W : State} {locs : List Loc} {cells slots : Nat}
    (X : Stand p l e R s m₀ args below meth c W locs cells slots) (hexec : p.tables.exec = Jvm.exec) (htr : e.platform.stackTraces = false) {cls : String} {names : List String} {text : String}
    (hcls : Bundle.fit cls = true) (hnames : ∀ n ∈ names, Bundle.fit n = true) (hsoe : (cls == "java/lang/StackOverflowError") = false) (hoom : (cls == "java/lang/OutOfMemoryError") = false)
    (h : ∀ a ∈ Bundle.messageArmAtoms cls names, a.before args s = true)
    (hlocs : ∀ x ∈ locs, ∀ cell, s.heap[x.base]? = some cell → cell.vm.isStatics = false)
    (htext : (text == notModelled) = false) (hlimit : ¬ (stringBytes (stringToUtf16 text)).size > e.platform.arrayLengthLimit) (hheap : ¬ (stringBytes (stringToUtf16 text)).size * componentBytes .byte > e.platform.maxHeapBytes)
    {g : JFrame} (hg : g.method = m₀) (hsize : g.locals.size = c.maxLocals)
    (hRframes : names.length + 4 < R.frames) (hRlocals : 2 * g.monitorRoom + (g.stack.map fun v => v.category).sum + 10240 ≤ R.locals) (hshort : 13 * names.length + 55 ≤ 10240)
    (hRcells : cells + 3 ≤ R.cells) (hRslots : slots + ((stringBytes (stringToUtf16 text)).size + 4 + 6) ≤ R.slots) (hlocks : meth.locks = false) :
    ∃ (S : State) (q : Addr) (ce : Cell), (∀ target, Steps p.tables e below ((S.setTop g).pushFrame (.throwing q)) target → Steps p.tables e below ((W.setTop g).pushFrame (.throwNew cls (some text) none)) target) ∧
      Stand p l e R s m₀ args below meth c S locs (cells + 3) (slots + ((stringBytes (stringToUtf16 text)).size + 4 + 6)) ∧ S.heap[q]? = some ce ∧ s.vm.findClass cls = some ce.cls ∧ ce.vm = .none := by
  have howns : e.platform.frameOwnsMonitors = true := by rw [X.admits.platform]
  have hfin : e.platform.finalization = false := by rw [X.admits.platform]
  have hpl : e.platform.magicAccessors = ({} : Platform).magicAccessors := by rw [X.admits.platform]
  have a : ∀ x, x ∈ Bundle.messageArmAtoms cls names → x.holds args s none s [] = true := fun x hx => h x hx
  obtain ⟨T, Z0, L, -, Y⟩ := ThrowableC.of_atoms (args := args) howns hfin hpl (fun x hx => h x (by simp [Bundle.messageArmAtoms, hx]))
  obtain ⟨Z, M, LZ, LM, hnZ⟩ := Init0T.ofS_atoms (args := args) hpl L Y (fun x hx => h x (by simp [Bundle.messageArmAtoms, hx]))
  obtain ⟨P1, Ps, hlen, L1, hL, hP1m, hlink1, hlink⟩ := Bundle.chainS (args := args) hpl hnZ names cls hcls hnames (fun x hx => h x (by simp [Bundle.messageArmAtoms, hx]))
  obtain ⟨Zs, LZs, hn4, hfitv, hfitc⟩ := StringT.of_atoms (args := args) (fun x hx => h x (by simp [Bundle.messageArmAtoms, hx]))
  have hfound : s.vm.findClass cls = some P1.m.cls := findClass_of_methodNamed hP1m
  obtain ⟨c1, kX, hc1, hk, hord, -, -, hn6⟩ := Cond.instantiable_spec (a (.instantiable cls 6) (by simp [Bundle.messageArmAtoms]))
  cases Option.some.inj (hc1.symm.trans hfound)
  have hinit := Cond.initialized_spec hfound hk (a (.initialized cls) (by simp [Bundle.messageArmAtoms]))
  have hctor : kX.findMethod "<init>" "(Ljava/lang/String;)V" = some P1.m.idx := findMethod_of_methodNamed hP1m hk
  have hsel0 : selectMethod e.platform s.vm P1.m.cls T.fill0 = .method T.fill0 := by
    obtain ⟨c2, r2, m2, q1, q2, q3, q4, -⟩ := Cond.selects_spec (a (.selects cls Bundle.tFill0 Bundle.tFill0) (by simp [Bundle.messageArmAtoms]))
    cases Option.some.inj (q1.symm.trans hfound)
    cases Option.some.inj (q2.symm.trans (State.methodFound?_of_named Y.fill0 (by decide)))
    cases Option.some.inj (q3.symm.trans Y.fill0)
    rw [Launch.admits_selectMethod X.admits]; exact q4
  have hselF : selectMethod e.platform s.vm P1.m.cls T.fill = .method T.fill := by
    obtain ⟨c2, r2, m2, q1, q2, q3, q4, -⟩ := Cond.selects_spec (a (.selects cls Bundle.tFill Bundle.tFill) (by simp [Bundle.messageArmAtoms]))
    cases Option.some.inj (q1.symm.trans hfound)
    cases Option.some.inj (q2.symm.trans (State.methodFound?_of_named Y.fill (by decide)))
    cases Option.some.inj (q3.symm.trans Y.fill)
    rw [Launch.admits_selectMethod X.admits]; exact q4
  obtain ⟨cellS0, hcS0, hiss⟩ := Y.statics
  obtain ⟨u0, hu0⟩ := Cond.staticRefV Y.unassigned L.unassignedStatic L.statics hcS0 hiss (a (.isRef (.static Bundle.tN "UNASSIGNED_STACK" Bundle.steD)) (by simp [Bundle.messageArmAtoms]))
  obtain ⟨sen, hsen⟩ := Cond.staticRefV Y.sentinel L.sentinelStatic L.statics hcS0 hiss (a (.isRef (.static Bundle.tN "SUPPRESSED_SENTINEL" Bundle.listD)) (by simp [Bundle.messageArmAtoms]))
  obtain ⟨ci198, i198, fB, hk198, hg198, ha198, hsB, -, hnB, htB, hffB⟩ := Cond.ownField (t := .object "java/lang/Object") Y.found L.cls (by decide +kernel) (a (.fieldLink Bundle.tN 198 Bundle.tN "backtrace" "Ljava/lang/Object;") (by simp [Bundle.messageArmAtoms])) (a (.lays Bundle.tN Bundle.tN "backtrace" "Ljava/lang/Object;") (by simp [Bundle.messageArmAtoms])) e.platform hpl
  obtain ⟨cellS, hcS', heS, -, hkeep⟩ := X.same.2.2.2.2.2 T.aS cellS0 hcS0
  have hcellS : W.heap[T.aS]? = some cellS := hcS'
  have hout' : ∀ i, (⟨T.aS, i⟩ : Loc) ∉ locs := fun i hmem => by
    have := hlocs _ hmem cellS0 hcS0
    rw [hiss] at this; cases this
  have hknownS : cellS.vm ≠ .unknown := by
    rw [heS]; intro hu
    rw [show cellS0.vm = .unknown from hu] at hiss
    cases hiss
  have hvU : cellS.slots[T.fUnassigned.slot]? = some u0.v := by rw [hkeep _ (hout' _)]; exact hu0
  have hvSen : cellS.slots[T.fSentinel.slot]? = some sen.v := by rw [hkeep _ (hout' _)]; exact hsen
  obtain ⟨iM, hffM⟩ := Y.msg
  obtain ⟨tyC, dC, hdC, hdnC⟩ := Cond.laysAt hfound hk Y.cause (a (.lays cls Bundle.tN "cause" "Ljava/lang/Throwable;") (by simp [Bundle.messageArmAtoms]))
  obtain ⟨tyS, dS, hdS, hdnS⟩ := Cond.laysAt hfound hk Y.stack (a (.lays cls Bundle.tN "stackTrace" Bundle.steD) (by simp [Bundle.messageArmAtoms]))
  obtain ⟨tyP, dP, hdP, hdnP⟩ := Cond.laysAt hfound hk Y.supp (a (.lays cls Bundle.tN "suppressedExceptions" Bundle.listD) (by simp [Bundle.messageArmAtoms]))
  obtain ⟨tyM, dM, hdM, hdnM⟩ := Cond.laysAt hfound hk hffM (a (.lays cls Bundle.tN "detailMessage" "Ljava/lang/String;") (by simp [Bundle.messageArmAtoms]))
  obtain ⟨tyB, dB, hdB, hdnB⟩ := Cond.laysAt hfound hk hffB (a (.lays cls Bundle.tN "backtrace" "Ljava/lang/Object;") (by simp [Bundle.messageArmAtoms]))
  have bC := Cond.laysApart hdB hdC hdnB hdnC (by rw [hnB, Y.causeName]; decide)
  have bS := Cond.laysApart hdB hdS hdnB hdnS (by rw [hnB, Y.stackName]; decide)
  have bP := Cond.laysApart hdB hdP hdnB hdnP (by rw [hnB, Y.suppName]; decide)
  have hbk : ((preparedCellV T.toThrowableT (freshCell P1.m.cls kX) (W.heap.size + 2) u0 sen).withEntry W.cur).slots[fB.slot]? = some .null := by
    have := fresh_default (c := P1.m.cls) tyB
    rw [htB] at this
    simpa [preparedCellV, Cell.setSlot, Cell.withEntry, Array.getElem?_setIfInBounds, bC, bS, bP, bC.symm, bS.symm, bP.symm, defaultValue] using this
  have tkC := Takes.of_laid (v := .ref (W.heap.size + 2)) hk hord tyC (by rw [Y.causeType]; rfl)
  have tkS := Takes.of_laid (v := u0.v) hk hord tyS (by rw [Y.stackType]; exact fits_refV_array _ u0)
  have tkP := Takes.of_laid (v := sen.v) hk hord tyP (by rw [Y.suppType]; exact fits_refV_object _ sen)
  have tkM := Takes.of_laid (v := .ref (W.heap.size + 1)) hk hord tyM (by rw [Y.msgType]; rfl)
  have hskip : SkipFacts T e.platform s (fun u => u) u0 ((preparedCellV T.toThrowableT (freshCell P1.m.cls kX) (W.heap.size + 2) u0 sen).withEntry W.cur) := ⟨{ ci198 := ci198, i198 := i198, fBack := fB }, ⟨hk198, hg198, ha198, hsB⟩, hbk, fun _ _ => rfl⟩
  have h0 : At W g.method c below := by rw [hg]; exact X.here
  obtain ⟨hbeyond, hfreeW⟩ := X.vmMayThrow hsize (.throwNew cls (some text) none) (fun f hf => by cases hf) rfl hRlocals
  have hfr' : W.frames.length + Ps.length + 4 < (e.platform.stackLimits W.me).1 := by have := X.framesAbove hRframes; omega
  have hwd' : (stackUse (.java g :: W.frames.tail)).2 + 13 * Ps.length + 55 ≤ (e.platform.stackLimits W.me).2 := by have := X.stackAbove hsize (K := 13 * Ps.length + 55) (by omega); omega
  have hslots : W.slotsUsed + (stringBytes (stringToUtf16 text)).size + Zs.kS.instanceTypes.size + kX.instanceTypes.size ≤ e.platform.maxSlots := by
    have := X.slotsAbove hRslots
    rw [hn4, hn6]
    omega
  obtain ⟨vm', hW', st⟩ := Steps.vmThrowsMessageColdByV p (s₀ := s) (S := W) (g := g) h0 hexec T L Z LZ M LM X.warmed (t := W.cur) rfl Zs LZs P1 L1 Ps hL hlink1 hlink hsoe hoom hfound hk hinit hord hctor
    (Launch.admits_hotImplicitExceptions X.admits) hbeyond hfreeW htext hlimit hheap (X.cellsAbove hRcells) hslots (hfitv _) (hfitc _)
    (Nn := fun u => u) heapOnly_id (fun _ _ => rfl) (fun _ => rfl) (fun u x y => setCell_twice _ _ _ _) (fun _ => Nat.le_refl _) (cN := ((preparedCellV T.toThrowableT (freshCell P1.m.cls kX) (W.heap.size + 2) u0 sen).withEntry W.cur))
    hsel0 hcellS hknownS hvU tkS (fun _ hu => hu) (fun _ hu => hu) rfl rfl rfl (by simp [preparedCellV, Cell.setSlot, Cell.withEntry]) hskip (fun _ _ hA hW _ hroom _ hrest => L.nativeOff p htr hA hW hroom hrest) hselF hvSen tkC tkP tkM Y.objLocals rfl hfr' hwd'
  rw [plainBareV_eq T.toThrowableT (W.heap.size + 2) u0 sen (.ref (W.heap.size + 1)) W.cur rfl rfl] at st
  obtain ⟨-, -, w3, w4, -, -, -⟩ := withThrown_facts e.platform W Zs text P1.m.cls kX
  have X3 := ((X.pushed (bytesOf Zs.cB (stringToUtf16 text))).pushed (stringAt Zs.cS Zs.kS Zs.fv Zs.fc (stringToUtf16 text) W.heap.size)).pushed (freshCell P1.m.cls kX)
  rw [← withString_eq] at X3
  have X4 := X3.noted hW'
  have ha : (W.heap.size + 2) < ((withThrown W Zs text P1.m.cls kX).setVm vm').heap.size := by show _ < (withThrown W Zs text P1.m.cls kX).heap.size; rw [w3]; omega
  have hcell : ((withThrown W Zs text P1.m.cls kX).setVm vm').heap[(W.heap.size + 2)]? = some (freshCell P1.m.cls kX) := w4
  have X5 := ((((X4.stored hcell T.fCause.slot (.ref (W.heap.size + 2))).storedAgain ha T.fStack.slot u0.v).storedAgain ha T.fSupp.slot sen.v).storedAgain ha T.fStack.slot u0.v).storedAgain ha T.fMsg.slot (.ref (W.heap.size + 1))
  obtain ⟨g₁, hfrM⟩ := X5.frames_eq
  have hU : ((((withThrown W Zs text P1.m.cls kX).setVm vm').setCell (W.heap.size + 2) (plainBareV T.toThrowableT (freshCell P1.m.cls kX) (W.heap.size + 2) u0 sen (.ref (W.heap.size + 1)))).setTop g).pushFrame (.throwing (W.heap.size + 2)) = (((withThrown W Zs text P1.m.cls kX).setVm vm').setCell (W.heap.size + 2) (plainBareV T.toThrowableT (freshCell P1.m.cls kX) (W.heap.size + 2) u0 sen (.ref (W.heap.size + 1)))).setFrames (.throwing (W.heap.size + 2) :: .java g :: below) := by
    rw [State.pushFrame, State.frames_setTop _ hfrM, State.setTop_of_frames _ hfrM, State.setFrames_setFrames]
  have b1 : (bytesOf Zs.cB (stringToUtf16 text)).slots.size = (stringBytes (stringToUtf16 text)).size := by
    rw [(Cell.writeAll_facts _ _).2.2]; simp [bytes0]
  have b2 : (stringAt Zs.cS Zs.kS Zs.fv Zs.fc (stringToUtf16 text) W.heap.size).slots.size = 4 := by simp [string0, Cell.setSlot, hn4]
  have b3 : (freshCell P1.m.cls kX).slots.size = 6 := by simp [hn6]
  rw [b1, b2, b3] at X5
  have e9 : slots + (stringBytes (stringToUtf16 text)).size + 4 + 6 = slots + ((stringBytes (stringToUtf16 text)).size + 4 + 6) := by omega
  rw [e9] at X5
  simp only [List.append_assoc, List.cons_append, List.nil_append] at X5
  refine ⟨((withThrown W Zs text P1.m.cls kX).setVm vm').setCell (W.heap.size + 2) (plainBareV T.toThrowableT (freshCell P1.m.cls kX) (W.heap.size + 2) u0 sen (.ref (W.heap.size + 1))), W.heap.size + 2, _, fun target ht => st _ (by rw [X.tail, ← hU]; exact ht),
    X5.forget (fun y hy => ?_), heapAt_setCell_self _ ha, hfound, rfl⟩
  simp only [List.mem_cons, List.not_mem_nil, or_false] at hy
  have hge : s.heap.size ≤ W.heap.size := X.same.2.1
  rcases hy with rfl | rfl | rfl | rfl | rfl <;> exact Nat.le_trans hge (Nat.le_add_right _ 2)
set_option maxHeartbeats 1000000 in
/-- the machine throws NullPointerException, no traces kept: from its note over the frame g to 'throwing' over the same frame (follows the proof of Stand.vmThrowsNpe, Shelf42/KT2.lean; throwsNpeColdBareVAt, Shelf42/NT91.lean, called) -/
theorem vx_npeAt {p : Program} {l : Launch} {e : Env} {R : Room} {s : State} {m₀ : MethodId} {args : Array Value} {below : List Frame} {meth : Method} {c : Code} {W : State} {locs : List Loc} {cells slots : Nat}
    (X : Stand p l e R s m₀ args below meth c W locs cells slots) (hexec : p.tables.exec = Jvm.exec) (htr : e.platform.stackTraces = false) {n : Nat}
    (h : ∀ a ∈ Bundle.npeArmAtoms n, a.before args s = true)
    (hlocs : ∀ x ∈ locs, ∀ cell, s.heap[x.base]? = some cell → cell.vm.isStatics = false)
    {g : JFrame} (hg : g.method = m₀) (hsize : g.locals.size = c.maxLocals)
    (hRframes : 7 < R.frames) (hRlocals : 2 * g.monitorRoom + (g.stack.map fun v => v.category).sum + 10240 ≤ R.locals)
    (hRcells : cells + 1 ≤ R.cells) (hRslots : slots + n ≤ R.slots) (hlocks : meth.locks = false) :
    ∃ (S : State) (q : Addr) (ce : Cell), (∀ target, Steps p.tables e below ((S.setTop g).pushFrame (.throwing q)) target → Steps p.tables e below ((W.setTop g).pushFrame (.throwNew "java/lang/NullPointerException" none none)) target) ∧
      Stand p l e R s m₀ args below meth c S locs (cells + 1) (slots + n) ∧ S.heap[q]? = some ce ∧ s.vm.findClass "java/lang/NullPointerException" = some ce.cls ∧ ce.vm = .none := by
  have howns : e.platform.frameOwnsMonitors = true := by rw [X.admits.platform]
  have hfin : e.platform.finalization = false := by rw [X.admits.platform]
  have hpl : e.platform.magicAccessors = ({} : Platform).magicAccessors := by rw [X.admits.platform]
  have hpl2 : e.platform.arrayCloneIsPublic = true := by rw [X.admits.platform]
  have a' : ∀ x, x ∈ Bundle.npeArmAtoms n → x.holds args s none s [] = true := fun x hx => h x hx
  obtain ⟨T, Z, L, LZ, Y⟩ := ThrowableC.of_atoms (args := args) howns hfin hpl (fun x hx => h x (by simp [Bundle.npeArmAtoms, hx]))
  obtain ⟨N, LN, hcN, hnNF, hordN, hffS⟩ := NpeC.of_atoms (args := args) hpl hpl2 L Y (fun x hx => h x (by simp [Bundle.npeArmAtoms, hx]))
  obtain ⟨P1, L1, hP1m, hP1s⟩ := PassC.of_atoms (args := args) (s := s) hpl (X := Bundle.nN) (Y := Bundle.rN) (by decide) (by decide) LibCode.NullPointerException.Init0.at_0 LibCode.NullPointerException.Init0.at_1 LibCode.NullPointerException.Init0.at_4 (fun x hx => h x (by simp [Bundle.npeArmAtoms, hx]))
  obtain ⟨PR, LR, hPRm, hPRs⟩ := PassC.of_atoms (args := args) (s := s) hpl (X := Bundle.rN) (Y := Bundle.eN) (by decide) (by decide) LibCode.RuntimeException.Init0.at_0 LibCode.RuntimeException.Init0.at_1 LibCode.RuntimeException.Init0.at_4 (fun x hx => h x (by simp [Bundle.npeArmAtoms, hx]))
  obtain ⟨PE, LEx, hPEm, hPEs⟩ := PassC.of_atoms (args := args) (s := s) hpl (X := Bundle.eN) (Y := Bundle.tN) (by decide) (by decide) LibCode.Exception.Init0.at_0 LibCode.Exception.Init0.at_1 LibCode.Exception.Init0.at_4 (fun x hx => h x (by simp [Bundle.npeArmAtoms, hx]))
  have hfound : s.vm.findClass Bundle.nN = some P1.m.cls := findClass_of_methodNamed hP1m
  have ecls : N.cN = P1.m.cls := Option.some.inj (hcN.symm.trans hfound)
  have hk : s.vm.classes[P1.m.cls]? = some N.kN := by rw [← ecls]; exact LN.cls
  have hinit := Cond.initialized_spec hfound hk (a' (.initialized Bundle.nN) (by simp [Bundle.npeArmAtoms]))
  have hctor : N.kN.findMethod "<init>" "()V" = some P1.m.idx := findMethod_of_methodNamed hP1m hk
  obtain ⟨c1, k1, hc1, hk1, -, -, -, hn⟩ := Cond.instantiable_spec (a' (.instantiable Bundle.nN n) (by simp [Bundle.npeArmAtoms]))
  cases Option.some.inj (hc1.symm.trans hfound)
  cases Option.some.inj (hk1.symm.trans hk)
  have hfsz : (freshCell P1.m.cls N.kN).slots.size = n := by simp [hn]
  have hlink1 : P1.sup = PR.m := Option.some.inj (hP1s.symm.trans hPRm)
  have hlinkR : PR.sup = PE.m := Option.some.inj (hPRs.symm.trans hPEm)
  have hlinkE : PE.sup = Z.m T.toThrowableT := Option.some.inj (hPEs.symm.trans Y.init0)
  have hLs : ∀ P, P ∈ [PR, PE] → P.Links0 e.platform s := fun P hP => by
    simp only [List.mem_cons, List.not_mem_nil, or_false] at hP
    rcases hP with rfl | rfl
    · exact LR
    · exact LEx
  have hsel0 : selectMethod e.platform s.vm P1.m.cls T.fill0 = .method T.fill0 := by
    obtain ⟨c2, r2, m2, q1, q2, q3, q4, -⟩ := Cond.selects_spec (a' (.selects Bundle.nN Bundle.tFill0 Bundle.tFill0) (by simp [Bundle.npeArmAtoms]))
    cases Option.some.inj (q1.symm.trans hfound)
    cases Option.some.inj (q2.symm.trans (State.methodFound?_of_named Y.fill0 (by decide)))
    cases Option.some.inj (q3.symm.trans Y.fill0)
    rw [Launch.admits_selectMethod X.admits]; exact q4
  have hselF : selectMethod e.platform s.vm P1.m.cls T.fill = .method N.fill := by
    obtain ⟨c2, r2, m2, q1, q2, q3, q4, -⟩ := Cond.selects_spec (a' (.selects Bundle.nN Bundle.tFill Bundle.nFill) (by simp [Bundle.npeArmAtoms]))
    cases Option.some.inj (q1.symm.trans hfound)
    cases Option.some.inj (q2.symm.trans (State.methodFound?_of_named Y.fill (by decide)))
    cases Option.some.inj (q3.symm.trans hnNF)
    rw [Launch.admits_selectMethod X.admits]; exact q4
  obtain ⟨cellS0, hcS0, hiss⟩ := Y.statics
  obtain ⟨u0, hu0⟩ := Cond.staticRefV Y.unassigned L.unassignedStatic L.statics hcS0 hiss (a' (.isRef (.static Bundle.tN "UNASSIGNED_STACK" Bundle.steD)) (by simp [Bundle.npeArmAtoms]))
  obtain ⟨sen, hsen⟩ := Cond.staticRefV Y.sentinel L.sentinelStatic L.statics hcS0 hiss (a' (.isRef (.static Bundle.tN "SUPPRESSED_SENTINEL" Bundle.listD)) (by simp [Bundle.npeArmAtoms]))
  obtain ⟨ci198, i198, fB, hk198, hg198, ha198, hsB, -, hnB, htB, hffB⟩ := Cond.ownField (t := .object "java/lang/Object") Y.found L.cls (by decide +kernel) (a' (.fieldLink Bundle.tN 198 Bundle.tN "backtrace" Bundle.objD) (by simp [Bundle.npeArmAtoms])) (a' (.lays Bundle.tN Bundle.tN "backtrace" Bundle.objD) (by simp [Bundle.npeArmAtoms])) e.platform hpl
  obtain ⟨cellS, hcS', heS, -, hkeep⟩ := X.same.2.2.2.2.2 T.aS cellS0 hcS0
  have hcellS : W.heap[T.aS]? = some cellS := hcS'
  have hout' : ∀ i, (⟨T.aS, i⟩ : Loc) ∉ locs := fun i hmem => by
    have := hlocs _ hmem cellS0 hcS0
    rw [hiss] at this; cases this
  have hknownS : cellS.vm ≠ .unknown := by
    rw [heS]; intro hu
    rw [show cellS0.vm = .unknown from hu] at hiss
    cases hiss
  have hvU : cellS.slots[T.fUnassigned.slot]? = some u0.v := by rw [hkeep _ (hout' _)]; exact hu0
  have hvSen : cellS.slots[T.fSentinel.slot]? = some sen.v := by rw [hkeep _ (hout' _)]; exact hsen
  obtain ⟨tyC, dC, hdC, hdnC⟩ := Cond.laysAt hfound hk Y.cause (a' (.lays Bundle.nN Bundle.tN "cause" "Ljava/lang/Throwable;") (by simp [Bundle.npeArmAtoms]))
  obtain ⟨tyS, dS, hdS, hdnS⟩ := Cond.laysAt hfound hk Y.stack (a' (.lays Bundle.nN Bundle.tN "stackTrace" Bundle.steD) (by simp [Bundle.npeArmAtoms]))
  obtain ⟨tyP, dP, hdP, hdnP⟩ := Cond.laysAt hfound hk Y.supp (a' (.lays Bundle.nN Bundle.tN "suppressedExceptions" Bundle.listD) (by simp [Bundle.npeArmAtoms]))
  obtain ⟨tyX, dX, hdX, hdnX⟩ := Cond.laysAt hfound hk hffS (a' (.lays Bundle.nN Bundle.nN "extendedMessageState" "I") (by simp [Bundle.npeArmAtoms, Bundle.npeAtoms]))
  obtain ⟨hnX, htX⟩ := State.fieldFound?_type hffS (t := .int) (by decide +kernel)
  have xC := Cond.laysApart hdC hdX hdnC hdnX (by rw [hnX, Y.causeName]; decide)
  have xS := Cond.laysApart hdS hdX hdnS hdnX (by rw [hnX, Y.stackName]; decide)
  have xP := Cond.laysApart hdP hdX hdnP hdnX (by rw [hnX, Y.suppName]; decide)
  have hv0 : (freshCell P1.m.cls N.kN).slots[N.fState.slot]? = some (.int 0) := by
    have := fresh_default (c := P1.m.cls) tyX
    rw [htX] at this; exact this
  obtain ⟨tyB, dB, hdB, hdnB⟩ := Cond.laysAt hfound hk hffB (a' (.lays Bundle.nN Bundle.tN "backtrace" Bundle.objD) (by simp [Bundle.npeArmAtoms]))
  have bC := Cond.laysApart hdB hdC hdnB hdnC (by rw [hnB, Y.causeName]; decide)
  have bS := Cond.laysApart hdB hdS hdnB hdnS (by rw [hnB, Y.stackName]; decide)
  have bP := Cond.laysApart hdB hdP hdnB hdnP (by rw [hnB, Y.suppName]; decide)
  have bX := Cond.laysApart hdB hdX hdnB hdnX (by rw [hnB, hnX]; decide)
  have hbk : ((npeCell N.toNpeT (preparedCellV T.toThrowableT (freshCell P1.m.cls N.kN) W.heap.size u0 sen) W.cur).withEntry W.cur).slots[fB.slot]? = some .null := by
    have := fresh_default (c := P1.m.cls) tyB
    rw [htB] at this
    simpa [npeCell, preparedCellV, Cell.setSlot, Cell.withEntry, Array.getElem?_setIfInBounds, bC, bS, bP, bX, bC.symm, bS.symm, bP.symm, bX.symm, defaultValue] using this
  have tkC := Takes.of_laid (v := .ref W.heap.size) hk hordN tyC (by rw [Y.causeType]; rfl)
  have tkS := Takes.of_laid (v := u0.v) hk hordN tyS (by rw [Y.stackType]; exact fits_refV_array _ u0)
  have tkP := Takes.of_laid (v := sen.v) hk hordN tyP (by rw [Y.suppType]; exact fits_refV_object _ sen)
  have tkX := Takes.of_laid (v := .int 1) hk hordN tyX (by rw [htX]; rfl)
  have hskip : SkipFacts T e.platform s (fun u => u) u0 ((npeCell N.toNpeT (preparedCellV T.toThrowableT (freshCell P1.m.cls N.kN) W.heap.size u0 sen) W.cur).withEntry W.cur) := ⟨{ ci198 := ci198, i198 := i198, fBack := fB }, ⟨hk198, hg198, ha198, hsB⟩, hbk, fun _ _ => rfl⟩
  obtain ⟨vm', X3, st, -⟩ := X.throwsNpeColdBareVAt hexec hg hsize T L Z LZ N LN P1 L1 [PR, PE] hLs hlink1 ⟨hlinkR, hlinkE, trivial⟩ hfound hk hinit hordN hctor hsel0 hselF hcellS hknownS hvU hvSen
    hv0 xC xS xP tkC tkS tkP tkX Y.objLocals hskip (fun _ _ hA hW _ hroom _ hrest => L.nativeOff p htr hA hW hroom hrest) (by simpa using hRframes) hRlocals (by simp) hRcells (by rw [hn]; exact hRslots)
  have hlt : W.heap.size < ((W.pushCell (freshCell P1.m.cls N.kN)).setVm vm').heap.size := by
    show W.heap.size < (W.pushCell (freshCell P1.m.cls N.kN)).heap.size
    rw [State.heap_size_pushCell]; omega
  rw [hfsz] at X3
  obtain ⟨g₁, hfrM⟩ := X3.frames_eq
  have hU : ((((W.pushCell (freshCell P1.m.cls N.kN)).setVm vm').setCell W.heap.size (npeBareV T.toThrowableT N.toNpeT (freshCell P1.m.cls N.kN) W.heap.size u0 sen)).setTop g).pushFrame (.throwing W.heap.size) = (((W.pushCell (freshCell P1.m.cls N.kN)).setVm vm').setCell W.heap.size (npeBareV T.toThrowableT N.toNpeT (freshCell P1.m.cls N.kN) W.heap.size u0 sen)).setFrames (.throwing W.heap.size :: .java g :: below) := by
    rw [State.pushFrame, State.frames_setTop _ hfrM, State.setTop_of_frames _ hfrM, State.setFrames_setFrames]
  refine ⟨_, W.heap.size, _, fun target ht => st.trans (by rw [← hU]; exact ht), X3.forget (fun y hy => ?_), heapAt_setCell_self _ hlt, hfound, rfl⟩
  simp only [List.mem_cons, List.not_mem_nil, or_false] at hy
  have hge : s.heap.size ≤ W.heap.size := X.same.2.1
  rcases hy with rfl | rfl | rfl | rfl | rfl <;> exact hge
/-- the words of a machine's NullPointerException, but the four that speak of the heap -/
def vx_atN (n : Nat) : List Cond := (Bundle.npeArmAtoms n).filter vx_no
/-- the words of a machine's throw with a message, but the four that speak of the heap -/
def vx_atM (X : String) (names : List String) : List Cond := (Bundle.messageArmAtoms X names).filter vx_no
section
variable {p : Program} {l : Launch} {e : Env} {R : Room} {s : State} {m : MethodId} {args : Array Value} {below : List Frame} {meth : Method} {c : Code} {H : Heap} {locs : List Loc} {cells slots : Nat}
/-- a frame seen from a rebased start, seen from the first start again -/
theorem vx_back9 {T S : State} {R' : Room} {k n : Nat} (X : Stand p l e R s m args below meth c T locs cells slots) (Y : Stand p l e R' ((T.setVm s.vm).setFrames (.invoking m args :: below)) m args below meth c T [] 0 0) (Z : Stand p l e R' ((T.setVm s.vm).setFrames (.invoking m args :: below)) m args below meth c S [] k n) :
    Stand p l e R s m args below meth c S locs (cells + k) (slots + n) := by
  have hW0 : s.WarmedH ((T.setVm s.vm).setFrames (.invoking m args :: below)).vm := State.WarmedH.refl s
  refine { admits := X.admits, cas := X.cas, clock := X.clock, frames := X.frames, room := X.room, hears := X.hears, method := X.method, code := X.code, here := Z.here, tail := Z.tail, warmed := State.WarmedH.trans hW0 Z.warmed, limits := Z.limits.trans (Y.limits.symm.trans X.limits), bytes := Z.bytes.trans (Y.bytes.symm.trans X.bytes), same := ?_ }
  obtain ⟨e1, e2⟩ := Z.same
  rw [State.setFrames_setFrames] at e1
  have h2 : (T.setVm s.vm).sameButNew (S.setVm s.vm) [] k n := ⟨e1, e2⟩
  have h3 := X.same.trans h2
  rw [List.append_nil] at h3
  exact h3
/-- from the machine's note that E is thrown here with this text -/
def vx_Note (p : Program) (l : Launch) (e : Env) (R : Room) (s : State) (m : MethodId) (args : Array Value) (below : List Frame) (meth : Method) (c : Code) (H : Heap) (locs : List Loc) (cells slots : Nat) (Q : State → Prop) (g : JFrame) (E text : String) : Prop :=
  ∀ T : State, T.heap = H → Stand p l e R s m args below meth c T locs cells slots → ∃ t, Steps p.tables e below ((T.setTop g).pushFrame (.throwNew E (some text) none)) t ∧ Q t
theorem vx_vm {pc : Nat} {ls : Array Slot} {rest : List Value} {Q : State → Prop} (hexec : p.tables.exec = Jvm.exec) (hl : l.stackTraces = false) {cls text : String} {names : List String} {nb : Nat} {A : Nat → Prop}
    (hcls : Bundle.fit cls = true) (hnames : ∀ n ∈ names, Bundle.fit n = true) (hsoe : (cls == "java/lang/StackOverflowError") = false) (hoom : (cls == "java/lang/OutOfMemoryError") = false)
    (hat : ∀ w ∈ vx_atM cls names, w.before args s = true) (hgood : ∀ w ∈ vx_atM cls names, vx_ot w = true)
    (hU : vx_Zq Bundle.tN "UNASSIGNED_STACK" Bundle.steD A s s.heap) (hN : vx_Zq Bundle.tN "SUPPRESSED_SENTINEL" Bundle.listD A s s.heap) (hS : va_S A s.heap H locs) (hsize : ls.size = c.maxLocals)
    (htext : (text == notModelled) = false) (hnb : (stringBytes (stringToUtf16 text)).size ≤ nb) (hnb1 : nb ≤ 1000)
    (hRframes : names.length + 4 < R.frames) (hRlocals : (rest.map fun v => v.category).sum + 10240 ≤ R.locals) (hshort : 13 * names.length + 55 ≤ 10240) (hRcells : cells + 3 ≤ R.cells) (hRslots : slots + (nb + 10) ≤ R.slots) (hlocks : meth.locks = false)
    (k : ∀ (H1 : Heap) (q9 : Addr) (ce : Cell), H.size ≤ H1.size → (∀ q : Nat, q < H.size → H1[q]? = H[q]?) → va_S A s.heap H1 locs → H1[q9]? = some ce → ce.vm = .none → s.vm.findClass cls = some ce.cls → vx_W p l e R s m args below meth c H1 locs (cells + 3) (slots + (nb + 10)) Q (F0 m pc ls rest) q9) :
    vx_Note p l e R s m args below meth c H locs cells slots Q (F0 m pc ls rest) cls text := by
  intro T hT X
  have htr : e.platform.stackTraces = false := (show e.platform.stackTraces = l.stackTraces by rw [X.admits.platform]).trans hl
  have Y := vx_rebase X (R' := { frames := R.frames, locals := R.locals, cells := 3, slots := nb + 10 }) (Nat.le_refl _) (Nat.le_refl _) hRcells hRslots
  have hhp : ((T.setVm s.vm).setFrames (.invoking m args :: below)).heap = H := hT
  have hW0 : s.WarmedH ((T.setVm s.vm).setFrames (.invoking m args :: below)).vm := State.WarmedH.refl s
  have hat' : ∀ w ∈ vx_atM cls names, w.before args ((T.setVm s.vm).setFrames (.invoking m args :: below)) = true := fun w hw => vx_ot_at hW0 rfl (hgood w hw) (hat w hw)
  have hU' : vx_Zq Bundle.tN "UNASSIGNED_STACK" Bundle.steD A ((T.setVm s.vm).setFrames (.invoking m args :: below)) ((T.setVm s.vm).setFrames (.invoking m args :: below)).heap := by rw [hhp]; exact vx_Zq.moved hW0.alike (hU.kept hS.2.1)
  have hN' : vx_Zq Bundle.tN "SUPPRESSED_SENTINEL" Bundle.listD A ((T.setVm s.vm).setFrames (.invoking m args :: below)) ((T.setVm s.vm).setFrames (.invoking m args :: below)).heap := by rw [hhp]; exact vx_Zq.moved hW0.alike (hN.kept hS.2.1)
  obtain ⟨S, q, ce, st, Z, hce, hcl', hv⟩ := vx_vmAt Y hexec htr (cls := cls) (names := names) (text := text) hcls hnames hsoe hoom (vx_own hat' (vx_isRefq hU'.1) (vx_isRefq hN'.1) hU'.2.word hN'.2.word) (fun x hx => nomatch hx) htext
    (by rw [Launch.admits_arrayLengthLimit X.admits]; omega) (by rw [Launch.admits_maxHeapBytes X.admits]; simp only [componentBytes]; omega)
    (g := F0 m pc ls rest) rfl hsize hRframes (by show 2 * 0 + (rest.map fun v => v.category).sum + 10240 ≤ R.locals; omega) hshort (by show 0 + 3 ≤ 3; omega) (by show 0 + (_ + 4 + 6) ≤ nb + 10; omega) hlocks
  obtain ⟨f1, f2⟩ := vx_frame Z.same
  have f1' : H.size ≤ S.heap.size := by rw [← hT]; exact f1
  have f2' : ∀ q : Nat, q < H.size → S.heap[q]? = H[q]? := fun q hq => by
    rw [← hT]
    exact f2 q (by rw [← hT] at hq; exact hq) (fun z hz => nomatch hz)
  have X5 := vx_back9 X Y Z
  have X6 : Stand p l e R s m args below meth c S locs (cells + 3) (slots + (nb + 10)) := { X5 with same := X5.same.mono (by omega) (by omega) }
  obtain ⟨t, a1, b1⟩ := k S.heap q ce f1' f2' ⟨Nat.le_trans hS.1 f1', fun q h1 h2 => (f2' q (Nat.lt_of_lt_of_le h1 hS.1)).trans (hS.2.1 q h1 h2), hS.2.2⟩ hce hv hcl' S rfl X6
  exact ⟨t, st t a1, b1⟩
/-- from the machine's note that NullPointerException is thrown here -/
def vx_NoteN (p : Program) (l : Launch) (e : Env) (R : Room) (s : State) (m : MethodId) (args : Array Value) (below : List Frame) (meth : Method) (c : Code) (H : Heap) (locs : List Loc) (cells slots : Nat) (Q : State → Prop) (g : JFrame) : Prop :=
  ∀ T : State, T.heap = H → Stand p l e R s m args below meth c T locs cells slots → ∃ t, Steps p.tables e below ((T.setTop g).pushFrame (.throwNew "java/lang/NullPointerException" none none)) t ∧ Q t
theorem vx_npe {pc : Nat} {ls : Array Slot} {rest : List Value} {Q : State → Prop} (hexec : p.tables.exec = Jvm.exec) (hl : l.stackTraces = false) {nb : Nat} {A : Nat → Prop}
    (hat : ∀ w ∈ vx_atN nb, w.before args s = true) (hgood : ∀ w ∈ vx_atN nb, vx_ot w = true)
    (hU : vx_Zq Bundle.tN "UNASSIGNED_STACK" Bundle.steD A s s.heap) (hN : vx_Zq Bundle.tN "SUPPRESSED_SENTINEL" Bundle.listD A s s.heap) (hS : va_S A s.heap H locs) (hsize : ls.size = c.maxLocals)
    (hRframes : 7 < R.frames) (hRlocals : (rest.map fun v => v.category).sum + 10240 ≤ R.locals) (hRcells : cells + 1 ≤ R.cells) (hRslots : slots + nb ≤ R.slots) (hlocks : meth.locks = false)
    (k : ∀ (H1 : Heap) (q9 : Addr) (ce : Cell), H.size ≤ H1.size → (∀ q : Nat, q < H.size → H1[q]? = H[q]?) → va_S A s.heap H1 locs → H1[q9]? = some ce → ce.vm = .none → s.vm.findClass "java/lang/NullPointerException" = some ce.cls → vx_W p l e R s m args below meth c H1 locs (cells + 1) (slots + nb) Q (F0 m pc ls rest) q9) :
    vx_NoteN p l e R s m args below meth c H locs cells slots Q (F0 m pc ls rest) := by
  intro T hT X
  have htr : e.platform.stackTraces = false := (show e.platform.stackTraces = l.stackTraces by rw [X.admits.platform]).trans hl
  have Y := vx_rebase X (R' := { frames := R.frames, locals := R.locals, cells := 1, slots := nb }) (Nat.le_refl _) (Nat.le_refl _) hRcells hRslots
  have hhp : ((T.setVm s.vm).setFrames (.invoking m args :: below)).heap = H := hT
  have hW0 : s.WarmedH ((T.setVm s.vm).setFrames (.invoking m args :: below)).vm := State.WarmedH.refl s
  have hat' : ∀ w ∈ vx_atN nb, w.before args ((T.setVm s.vm).setFrames (.invoking m args :: below)) = true := fun w hw => vx_ot_at hW0 rfl (hgood w hw) (hat w hw)
  have hU' : vx_Zq Bundle.tN "UNASSIGNED_STACK" Bundle.steD A ((T.setVm s.vm).setFrames (.invoking m args :: below)) ((T.setVm s.vm).setFrames (.invoking m args :: below)).heap := by rw [hhp]; exact vx_Zq.moved hW0.alike (hU.kept hS.2.1)
  have hN' : vx_Zq Bundle.tN "SUPPRESSED_SENTINEL" Bundle.listD A ((T.setVm s.vm).setFrames (.invoking m args :: below)) ((T.setVm s.vm).setFrames (.invoking m args :: below)).heap := by rw [hhp]; exact vx_Zq.moved hW0.alike (hN.kept hS.2.1)
  obtain ⟨S, q, ce, st, Z, hce, hcl', hv⟩ := vx_npeAt Y hexec htr (n := nb) (vx_own hat' (vx_isRefq hU'.1) (vx_isRefq hN'.1) hU'.2.word hN'.2.word) (fun x hx => nomatch hx)
    (g := F0 m pc ls rest) rfl hsize hRframes (by show 2 * 0 + (rest.map fun v => v.category).sum + 10240 ≤ R.locals; omega) (by show 0 + 1 ≤ 1; omega) (by show 0 + nb ≤ nb; omega) hlocks
  obtain ⟨f1, f2⟩ := vx_frame Z.same
  have f1' : H.size ≤ S.heap.size := by rw [← hT]; exact f1
  have f2' : ∀ q : Nat, q < H.size → S.heap[q]? = H[q]? := fun q hq => by
    rw [← hT]
    exact f2 q (by rw [← hT] at hq; exact hq) (fun z hz => nomatch hz)
  have X5 := vx_back9 X Y Z
  have X6 : Stand p l e R s m args below meth c S locs (cells + 1) (slots + nb) := { X5 with same := X5.same.mono (by omega) (by omega) }
  obtain ⟨t, a1, b1⟩ := k S.heap q ce f1' f2' ⟨Nat.le_trans hS.1 f1', fun q h1 h2 => (f2' q (Nat.lt_of_lt_of_le h1 hS.1)).trans (hS.2.1 q h1 h2), hS.2.2⟩ hce hv hcl' S rfl X6
  exact ⟨t, st t a1, b1⟩
variable {Q : State → Prop} {cc : ByteArray} {pc : Nat} {ls : Array Slot} {rest : List Value}
theorem vx_idivZ (hexec : p.tables.exec = Jvm.exec) (hb : c.code = cc) {a b : Int32} (h0 : b = 0) (d : decode cc pc = .ok (.idiv, 1)) (k : vx_Note p l e R s m args below meth c H locs cells slots Q (F0 m pc ls rest) "java/lang/ArithmeticException" "/ by zero") :
    W p l e R s m args below meth c H locs cells slots Q (F0 m pc ls (.int b :: .int a :: rest)) := by
  intro T hT X
  obtain ⟨t, st, q⟩ := k T hT X
  exact ⟨t, X.idivZero hexec (g := F0 m pc ls (.int b :: .int a :: rest)) rfl (a := a) (rest := rest) (by rw [h0]) (by rw [hb]; exact d) t st, q⟩
theorem vx_iremZ (hexec : p.tables.exec = Jvm.exec) (hb : c.code = cc) {a b : Int32} (h0 : b = 0) (d : decode cc pc = .ok (.irem, 1)) (k : vx_Note p l e R s m args below meth c H locs cells slots Q (F0 m pc ls rest) "java/lang/ArithmeticException" "/ by zero") :
    W p l e R s m args below meth c H locs cells slots Q (F0 m pc ls (.int b :: .int a :: rest)) := by
  intro T hT X
  obtain ⟨t, st, q⟩ := k T hT X
  exact ⟨t, X.iremZero hexec (g := F0 m pc ls (.int b :: .int a :: rest)) rfl (a := a) (rest := rest) (by rw [h0]) (by rw [hb]; exact d) t st, q⟩
theorem vx_ldivZ (hexec : p.tables.exec = Jvm.exec) (hb : c.code = cc) {a b : Int64} (h0 : b = 0) (d : decode cc pc = .ok (.ldiv, 1)) (k : vx_Note p l e R s m args below meth c H locs cells slots Q (F0 m pc ls rest) "java/lang/ArithmeticException" "/ by zero") :
    W p l e R s m args below meth c H locs cells slots Q (F0 m pc ls (.long b :: .long a :: rest)) := by
  intro T hT X
  obtain ⟨t, st, q⟩ := k T hT X
  exact ⟨t, X.ldivZero hexec (g := F0 m pc ls (.long b :: .long a :: rest)) rfl (a := a) (rest := rest) (by rw [h0]) (by rw [hb]; exact d) t st, q⟩
theorem vx_lremZ (hexec : p.tables.exec = Jvm.exec) (hb : c.code = cc) {a b : Int64} (h0 : b = 0) (d : decode cc pc = .ok (.lrem, 1)) (k : vx_Note p l e R s m args below meth c H locs cells slots Q (F0 m pc ls rest) "java/lang/ArithmeticException" "/ by zero") :
    W p l e R s m args below meth c H locs cells slots Q (F0 m pc ls (.long b :: .long a :: rest)) := by
  intro T hT X
  obtain ⟨t, st, q⟩ := k T hT X
  exact ⟨t, X.lremZero hexec (g := F0 m pc ls (.long b :: .long a :: rest)) rfl (a := a) (rest := rest) (by rw [h0]) (by rw [hb]; exact d) t st, q⟩
theorem vx_ialdZ {D : va_G} {cl : List vw_C} {ws : va_W} {tys : List (ClassId × FieldType)} {a : Nat} (hexec : p.tables.exec = Jvm.exec) (hb : c.code = cc) (hK : va_K D cl tys s) (hP : va_P D cl ws H) (q0 t0 : Nat) {cA : ClassId} {n : Nat} {f : Nat → Int32} (ha : ws[q0]? = some (a, .inl (cA, n, .inl f))) (ht : tys[t0]? = some (cA, .int)) {i : Int32} (hout : ¬ vp_in i n) (hdg : decode cc pc = .ok (.iaload, 1))
    (k : ∀ tx : String, tx = (toString "Index " ++ toString i ++ toString " out of bounds for length " ++ toString n : String) → vx_Note p l e R s m args below meth c H locs cells slots Q (F0 m pc ls rest) "java/lang/ArrayIndexOutOfBoundsException" tx) : W p l e R s m args below meth c H locs cells slots Q (F0 m pc ls (.int i :: .ref a :: rest)) := by
  intro T hT X
  obtain ⟨t, st, q⟩ := k _ rfl T hT X
  refine ⟨t, ?_, q⟩
  have h1 := X.ialoadOut hexec (by rw [hT]; exact hP q0 _ ha) ((hK.2 t0 _ ht).1 n (fun j => .int (f j))) (j := i) (by show (i < 0 ∨ (arrV _ _ _).slots.size ≤ _); rw [arrV_size]; exact Classical.byContradiction hout) (g := F0 m pc ls (.int i :: .ref a :: rest)) rfl (rest := rest) rfl (by rw [hb]; exact hdg) t
  simp only [arrV_size] at h1
  exact h1 st
theorem vx_iastZ {D : va_G} {cl : List vw_C} {ws : va_W} {tys : List (ClassId × FieldType)} {a : Nat} (hexec : p.tables.exec = Jvm.exec) (hb : c.code = cc) (hK : va_K D cl tys s) (hP : va_P D cl ws H) (q0 t0 : Nat) {cA : ClassId} {n : Nat} {f : Nat → Int32} (ha : ws[q0]? = some (a, .inl (cA, n, .inl f))) (ht : tys[t0]? = some (cA, .int)) {i : Int32} {x : Int32} (hout : ¬ vp_in i n) (hdg : decode cc pc = .ok (.iastore, 1))
    (k : ∀ tx : String, tx = (toString "Index " ++ toString i ++ toString " out of bounds for length " ++ toString n : String) → vx_Note p l e R s m args below meth c H locs cells slots Q (F0 m pc ls rest) "java/lang/ArrayIndexOutOfBoundsException" tx) : W p l e R s m args below meth c H locs cells slots Q (F0 m pc ls (.int x :: .int i :: .ref a :: rest)) := by
  intro T hT X
  obtain ⟨t, st, q⟩ := k _ rfl T hT X
  refine ⟨t, ?_, q⟩
  have h1 := X.iastoreOut hexec (by rw [hT]; exact hP q0 _ ha) ((hK.2 t0 _ ht).1 n (fun j => .int (f j))) (j := i) (by show (i < 0 ∨ (arrV _ _ _).slots.size ≤ _); rw [arrV_size]; exact Classical.byContradiction hout) (g := F0 m pc ls (.int x :: .int i :: .ref a :: rest)) rfl (rest := rest) rfl (by rw [hb]; exact hdg) t
  simp only [arrV_size] at h1
  exact h1 st
theorem vx_baldZ {D : va_G} {cl : List vw_C} {ws : va_W} {tys : List (ClassId × FieldType)} {a : Nat} (hexec : p.tables.exec = Jvm.exec) (hb : c.code = cc) (hK : va_K D cl tys s) (hP : va_P D cl ws H) (q0 t0 : Nat) {cA : ClassId} {n : Nat} {f : Nat → Int32} (ha : ws[q0]? = some (a, .inl (cA, n, .inl f))) (ht : tys[t0]? = some (cA, .byte)) {i : Int32} (hout : ¬ vp_in i n) (hdg : decode cc pc = .ok (.baload, 1))
    (k : ∀ tx : String, tx = (toString "Index " ++ toString i ++ toString " out of bounds for length " ++ toString n : String) → vx_Note p l e R s m args below meth c H locs cells slots Q (F0 m pc ls rest) "java/lang/ArrayIndexOutOfBoundsException" tx) : W p l e R s m args below meth c H locs cells slots Q (F0 m pc ls (.int i :: .ref a :: rest)) := by
  intro T hT X
  obtain ⟨t, st, q⟩ := k _ rfl T hT X
  refine ⟨t, ?_, q⟩
  have h1 := X.baloadOut hexec (by rw [hT]; exact hP q0 _ ha) ((hK.2 t0 _ ht).1 n (fun j => .int (f j))) (j := i) (by show (i < 0 ∨ (arrV _ _ _).slots.size ≤ _); rw [arrV_size]; exact Classical.byContradiction hout) (g := F0 m pc ls (.int i :: .ref a :: rest)) rfl (rest := rest) rfl (by rw [hb]; exact hdg) t
  simp only [arrV_size] at h1
  exact h1 st
theorem vx_bastZ {D : va_G} {cl : List vw_C} {ws : va_W} {tys : List (ClassId × FieldType)} {a : Nat} (hexec : p.tables.exec = Jvm.exec) (hb : c.code = cc) (hK : va_K D cl tys s) (hP : va_P D cl ws H) (q0 t0 : Nat) {cA : ClassId} {n : Nat} {f : Nat → Int32} (ha : ws[q0]? = some (a, .inl (cA, n, .inl f))) (ht : tys[t0]? = some (cA, .byte)) {i : Int32} {x : Int32} (hout : ¬ vp_in i n) (hdg : decode cc pc = .ok (.bastore, 1))
    (k : ∀ tx : String, tx = (toString "Index " ++ toString i ++ toString " out of bounds for length " ++ toString n : String) → vx_Note p l e R s m args below meth c H locs cells slots Q (F0 m pc ls rest) "java/lang/ArrayIndexOutOfBoundsException" tx) : W p l e R s m args below meth c H locs cells slots Q (F0 m pc ls (.int x :: .int i :: .ref a :: rest)) := by
  intro T hT X
  obtain ⟨t, st, q⟩ := k _ rfl T hT X
  refine ⟨t, ?_, q⟩
  have h1 := X.bastoreOut hexec (by rw [hT]; exact hP q0 _ ha) ((hK.2 t0 _ ht).1 n (fun j => .int (f j))) (j := i) (by show (i < 0 ∨ (arrV _ _ _).slots.size ≤ _); rw [arrV_size]; exact Classical.byContradiction hout) (g := F0 m pc ls (.int x :: .int i :: .ref a :: rest)) rfl (rest := rest) rfl (by rw [hb]; exact hdg) t
  simp only [arrV_size] at h1
  exact h1 st
theorem vx_zaldZ {D : va_G} {cl : List vw_C} {ws : va_W} {tys : List (ClassId × FieldType)} {a : Nat} (hexec : p.tables.exec = Jvm.exec) (hb : c.code = cc) (hK : va_K D cl tys s) (hP : va_P D cl ws H) (q0 t0 : Nat) {cA : ClassId} {n : Nat} {f : Nat → Int32} (ha : ws[q0]? = some (a, .inl (cA, n, .inl f))) (ht : tys[t0]? = some (cA, .boolean)) {i : Int32} (hout : ¬ vp_in i n) (hdg : decode cc pc = .ok (.baload, 1))
    (k : ∀ tx : String, tx = (toString "Index " ++ toString i ++ toString " out of bounds for length " ++ toString n : String) → vx_Note p l e R s m args below meth c H locs cells slots Q (F0 m pc ls rest) "java/lang/ArrayIndexOutOfBoundsException" tx) : W p l e R s m args below meth c H locs cells slots Q (F0 m pc ls (.int i :: .ref a :: rest)) := by
  intro T hT X
  obtain ⟨t, st, q⟩ := k _ rfl T hT X
  refine ⟨t, ?_, q⟩
  have h1 := X.baloadOut hexec (by rw [hT]; exact hP q0 _ ha) ((hK.2 t0 _ ht).1 n (fun j => .int (f j))) (j := i) (by show (i < 0 ∨ (arrV _ _ _).slots.size ≤ _); rw [arrV_size]; exact Classical.byContradiction hout) (g := F0 m pc ls (.int i :: .ref a :: rest)) rfl (rest := rest) rfl (by rw [hb]; exact hdg) t
  simp only [arrV_size] at h1
  exact h1 st
theorem vx_zastZ {D : va_G} {cl : List vw_C} {ws : va_W} {tys : List (ClassId × FieldType)} {a : Nat} (hexec : p.tables.exec = Jvm.exec) (hb : c.code = cc) (hK : va_K D cl tys s) (hP : va_P D cl ws H) (q0 t0 : Nat) {cA : ClassId} {n : Nat} {f : Nat → Int32} (ha : ws[q0]? = some (a, .inl (cA, n, .inl f))) (ht : tys[t0]? = some (cA, .boolean)) {i : Int32} {x : Int32} (hout : ¬ vp_in i n) (hdg : decode cc pc = .ok (.bastore, 1))
    (k : ∀ tx : String, tx = (toString "Index " ++ toString i ++ toString " out of bounds for length " ++ toString n : String) → vx_Note p l e R s m args below meth c H locs cells slots Q (F0 m pc ls rest) "java/lang/ArrayIndexOutOfBoundsException" tx) : W p l e R s m args below meth c H locs cells slots Q (F0 m pc ls (.int x :: .int i :: .ref a :: rest)) := by
  intro T hT X
  obtain ⟨t, st, q⟩ := k _ rfl T hT X
  refine ⟨t, ?_, q⟩
  have h1 := X.bastoreOut hexec (by rw [hT]; exact hP q0 _ ha) ((hK.2 t0 _ ht).1 n (fun j => .int (f j))) (j := i) (by show (i < 0 ∨ (arrV _ _ _).slots.size ≤ _); rw [arrV_size]; exact Classical.byContradiction hout) (g := F0 m pc ls (.int x :: .int i :: .ref a :: rest)) rfl (rest := rest) rfl (by rw [hb]; exact hdg) t
  simp only [arrV_size] at h1
  exact h1 st
theorem vx_caldZ {D : va_G} {cl : List vw_C} {ws : va_W} {tys : List (ClassId × FieldType)} {a : Nat} (hexec : p.tables.exec = Jvm.exec) (hb : c.code = cc) (hK : va_K D cl tys s) (hP : va_P D cl ws H) (q0 t0 : Nat) {cA : ClassId} {n : Nat} {f : Nat → Int32} (ha : ws[q0]? = some (a, .inl (cA, n, .inl f))) (ht : tys[t0]? = some (cA, .char)) {i : Int32} (hout : ¬ vp_in i n) (hdg : decode cc pc = .ok (.caload, 1))
    (k : ∀ tx : String, tx = (toString "Index " ++ toString i ++ toString " out of bounds for length " ++ toString n : String) → vx_Note p l e R s m args below meth c H locs cells slots Q (F0 m pc ls rest) "java/lang/ArrayIndexOutOfBoundsException" tx) : W p l e R s m args below meth c H locs cells slots Q (F0 m pc ls (.int i :: .ref a :: rest)) := by
  intro T hT X
  obtain ⟨t, st, q⟩ := k _ rfl T hT X
  refine ⟨t, ?_, q⟩
  have h1 := X.caloadOut hexec (by rw [hT]; exact hP q0 _ ha) ((hK.2 t0 _ ht).1 n (fun j => .int (f j))) (j := i) (by show (i < 0 ∨ (arrV _ _ _).slots.size ≤ _); rw [arrV_size]; exact Classical.byContradiction hout) (g := F0 m pc ls (.int i :: .ref a :: rest)) rfl (rest := rest) rfl (by rw [hb]; exact hdg) t
  simp only [arrV_size] at h1
  exact h1 st
theorem vx_castZ {D : va_G} {cl : List vw_C} {ws : va_W} {tys : List (ClassId × FieldType)} {a : Nat} (hexec : p.tables.exec = Jvm.exec) (hb : c.code = cc) (hK : va_K D cl tys s) (hP : va_P D cl ws H) (q0 t0 : Nat) {cA : ClassId} {n : Nat} {f : Nat → Int32} (ha : ws[q0]? = some (a, .inl (cA, n, .inl f))) (ht : tys[t0]? = some (cA, .char)) {i : Int32} {x : Int32} (hout : ¬ vp_in i n) (hdg : decode cc pc = .ok (.castore, 1))
    (k : ∀ tx : String, tx = (toString "Index " ++ toString i ++ toString " out of bounds for length " ++ toString n : String) → vx_Note p l e R s m args below meth c H locs cells slots Q (F0 m pc ls rest) "java/lang/ArrayIndexOutOfBoundsException" tx) : W p l e R s m args below meth c H locs cells slots Q (F0 m pc ls (.int x :: .int i :: .ref a :: rest)) := by
  intro T hT X
  obtain ⟨t, st, q⟩ := k _ rfl T hT X
  refine ⟨t, ?_, q⟩
  have h1 := X.castoreOut hexec (by rw [hT]; exact hP q0 _ ha) ((hK.2 t0 _ ht).1 n (fun j => .int (f j))) (j := i) (by show (i < 0 ∨ (arrV _ _ _).slots.size ≤ _); rw [arrV_size]; exact Classical.byContradiction hout) (g := F0 m pc ls (.int x :: .int i :: .ref a :: rest)) rfl (rest := rest) rfl (by rw [hb]; exact hdg) t
  simp only [arrV_size] at h1
  exact h1 st
theorem vx_saldZ {D : va_G} {cl : List vw_C} {ws : va_W} {tys : List (ClassId × FieldType)} {a : Nat} (hexec : p.tables.exec = Jvm.exec) (hb : c.code = cc) (hK : va_K D cl tys s) (hP : va_P D cl ws H) (q0 t0 : Nat) {cA : ClassId} {n : Nat} {f : Nat → Int32} (ha : ws[q0]? = some (a, .inl (cA, n, .inl f))) (ht : tys[t0]? = some (cA, .short)) {i : Int32} (hout : ¬ vp_in i n) (hdg : decode cc pc = .ok (.saload, 1))
    (k : ∀ tx : String, tx = (toString "Index " ++ toString i ++ toString " out of bounds for length " ++ toString n : String) → vx_Note p l e R s m args below meth c H locs cells slots Q (F0 m pc ls rest) "java/lang/ArrayIndexOutOfBoundsException" tx) : W p l e R s m args below meth c H locs cells slots Q (F0 m pc ls (.int i :: .ref a :: rest)) := by
  intro T hT X
  obtain ⟨t, st, q⟩ := k _ rfl T hT X
  refine ⟨t, ?_, q⟩
  have h1 := X.saloadOut hexec (by rw [hT]; exact hP q0 _ ha) ((hK.2 t0 _ ht).1 n (fun j => .int (f j))) (j := i) (by show (i < 0 ∨ (arrV _ _ _).slots.size ≤ _); rw [arrV_size]; exact Classical.byContradiction hout) (g := F0 m pc ls (.int i :: .ref a :: rest)) rfl (rest := rest) rfl (by rw [hb]; exact hdg) t
  simp only [arrV_size] at h1
  exact h1 st
theorem vx_sastZ {D : va_G} {cl : List vw_C} {ws : va_W} {tys : List (ClassId × FieldType)} {a : Nat} (hexec : p.tables.exec = Jvm.exec) (hb : c.code = cc) (hK : va_K D cl tys s) (hP : va_P D cl ws H) (q0 t0 : Nat) {cA : ClassId} {n : Nat} {f : Nat → Int32} (ha : ws[q0]? = some (a, .inl (cA, n, .inl f))) (ht : tys[t0]? = some (cA, .short)) {i : Int32} {x : Int32} (hout : ¬ vp_in i n) (hdg : decode cc pc = .ok (.sastore, 1))
    (k : ∀ tx : String, tx = (toString "Index " ++ toString i ++ toString " out of bounds for length " ++ toString n : String) → vx_Note p l e R s m args below meth c H locs cells slots Q (F0 m pc ls rest) "java/lang/ArrayIndexOutOfBoundsException" tx) : W p l e R s m args below meth c H locs cells slots Q (F0 m pc ls (.int x :: .int i :: .ref a :: rest)) := by
  intro T hT X
  obtain ⟨t, st, q⟩ := k _ rfl T hT X
  refine ⟨t, ?_, q⟩
  have h1 := X.sastoreOut hexec (by rw [hT]; exact hP q0 _ ha) ((hK.2 t0 _ ht).1 n (fun j => .int (f j))) (j := i) (by show (i < 0 ∨ (arrV _ _ _).slots.size ≤ _); rw [arrV_size]; exact Classical.byContradiction hout) (g := F0 m pc ls (.int x :: .int i :: .ref a :: rest)) rfl (rest := rest) rfl (by rw [hb]; exact hdg) t
  simp only [arrV_size] at h1
  exact h1 st
theorem vx_laldZ {D : va_G} {cl : List vw_C} {ws : va_W} {tys : List (ClassId × FieldType)} {a : Nat} (hexec : p.tables.exec = Jvm.exec) (hb : c.code = cc) (hK : va_K D cl tys s) (hP : va_P D cl ws H) (q0 t0 : Nat) {cA : ClassId} {n : Nat} {f : Nat → Int64} (ha : ws[q0]? = some (a, .inl (cA, n, .inr (.inl f)))) (ht : tys[t0]? = some (cA, .long)) {i : Int32} (hout : ¬ vp_in i n) (hdg : decode cc pc = .ok (.laload, 1))
    (k : ∀ tx : String, tx = (toString "Index " ++ toString i ++ toString " out of bounds for length " ++ toString n : String) → vx_Note p l e R s m args below meth c H locs cells slots Q (F0 m pc ls rest) "java/lang/ArrayIndexOutOfBoundsException" tx) : W p l e R s m args below meth c H locs cells slots Q (F0 m pc ls (.int i :: .ref a :: rest)) := by
  intro T hT X
  obtain ⟨t, st, q⟩ := k _ rfl T hT X
  refine ⟨t, ?_, q⟩
  have h1 := X.laloadOut hexec (by rw [hT]; exact hP q0 _ ha) ((hK.2 t0 _ ht).1 n (fun j => .long (f j))) (j := i) (by show (i < 0 ∨ (arrV _ _ _).slots.size ≤ _); rw [arrV_size]; exact Classical.byContradiction hout) (g := F0 m pc ls (.int i :: .ref a :: rest)) rfl (rest := rest) rfl (by rw [hb]; exact hdg) t
  simp only [arrV_size] at h1
  exact h1 st
theorem vx_lastZ {D : va_G} {cl : List vw_C} {ws : va_W} {tys : List (ClassId × FieldType)} {a : Nat} (hexec : p.tables.exec = Jvm.exec) (hb : c.code = cc) (hK : va_K D cl tys s) (hP : va_P D cl ws H) (q0 t0 : Nat) {cA : ClassId} {n : Nat} {f : Nat → Int64} (ha : ws[q0]? = some (a, .inl (cA, n, .inr (.inl f)))) (ht : tys[t0]? = some (cA, .long)) {i : Int32} {x : Int64} (hout : ¬ vp_in i n) (hdg : decode cc pc = .ok (.lastore, 1))
    (k : ∀ tx : String, tx = (toString "Index " ++ toString i ++ toString " out of bounds for length " ++ toString n : String) → vx_Note p l e R s m args below meth c H locs cells slots Q (F0 m pc ls rest) "java/lang/ArrayIndexOutOfBoundsException" tx) : W p l e R s m args below meth c H locs cells slots Q (F0 m pc ls (.long x :: .int i :: .ref a :: rest)) := by
  intro T hT X
  obtain ⟨t, st, q⟩ := k _ rfl T hT X
  refine ⟨t, ?_, q⟩
  have h1 := X.lastoreOut hexec (by rw [hT]; exact hP q0 _ ha) ((hK.2 t0 _ ht).1 n (fun j => .long (f j))) (j := i) (by show (i < 0 ∨ (arrV _ _ _).slots.size ≤ _); rw [arrV_size]; exact Classical.byContradiction hout) (g := F0 m pc ls (.long x :: .int i :: .ref a :: rest)) rfl (rest := rest) rfl (by rw [hb]; exact hdg) t
  simp only [arrV_size] at h1
  exact h1 st
theorem vx_faldZ {D : va_G} {cl : List vw_C} {ws : va_W} {tys : List (ClassId × FieldType)} {a : Nat} (hexec : p.tables.exec = Jvm.exec) (hb : c.code = cc) (hK : va_K D cl tys s) (hP : va_P D cl ws H) (q0 t0 : Nat) {cA : ClassId} {n : Nat} {f : Nat → UInt32} (ha : ws[q0]? = some (a, .inl (cA, n, .inr (.inr (.inl f))))) (ht : tys[t0]? = some (cA, .float)) {i : Int32} (hout : ¬ vp_in i n) (hdg : decode cc pc = .ok (.faload, 1))
    (k : ∀ tx : String, tx = (toString "Index " ++ toString i ++ toString " out of bounds for length " ++ toString n : String) → vx_Note p l e R s m args below meth c H locs cells slots Q (F0 m pc ls rest) "java/lang/ArrayIndexOutOfBoundsException" tx) : W p l e R s m args below meth c H locs cells slots Q (F0 m pc ls (.int i :: .ref a :: rest)) := by
  intro T hT X
  obtain ⟨t, st, q⟩ := k _ rfl T hT X
  refine ⟨t, ?_, q⟩
  have h1 := X.faloadOut hexec (by rw [hT]; exact hP q0 _ ha) ((hK.2 t0 _ ht).1 n (fun j => .float (f j))) (j := i) (by show (i < 0 ∨ (arrV _ _ _).slots.size ≤ _); rw [arrV_size]; exact Classical.byContradiction hout) (g := F0 m pc ls (.int i :: .ref a :: rest)) rfl (rest := rest) rfl (by rw [hb]; exact hdg) t
  simp only [arrV_size] at h1
  exact h1 st
theorem vx_fastZ {D : va_G} {cl : List vw_C} {ws : va_W} {tys : List (ClassId × FieldType)} {a : Nat} (hexec : p.tables.exec = Jvm.exec) (hb : c.code = cc) (hK : va_K D cl tys s) (hP : va_P D cl ws H) (q0 t0 : Nat) {cA : ClassId} {n : Nat} {f : Nat → UInt32} (ha : ws[q0]? = some (a, .inl (cA, n, .inr (.inr (.inl f))))) (ht : tys[t0]? = some (cA, .float)) {i : Int32} {x : UInt32} (hout : ¬ vp_in i n) (hdg : decode cc pc = .ok (.fastore, 1))
    (k : ∀ tx : String, tx = (toString "Index " ++ toString i ++ toString " out of bounds for length " ++ toString n : String) → vx_Note p l e R s m args below meth c H locs cells slots Q (F0 m pc ls rest) "java/lang/ArrayIndexOutOfBoundsException" tx) : W p l e R s m args below meth c H locs cells slots Q (F0 m pc ls (.float x :: .int i :: .ref a :: rest)) := by
  intro T hT X
  obtain ⟨t, st, q⟩ := k _ rfl T hT X
  refine ⟨t, ?_, q⟩
  have h1 := X.fastoreOut hexec (by rw [hT]; exact hP q0 _ ha) ((hK.2 t0 _ ht).1 n (fun j => .float (f j))) (j := i) (by show (i < 0 ∨ (arrV _ _ _).slots.size ≤ _); rw [arrV_size]; exact Classical.byContradiction hout) (g := F0 m pc ls (.float x :: .int i :: .ref a :: rest)) rfl (rest := rest) rfl (by rw [hb]; exact hdg) t
  simp only [arrV_size] at h1
  exact h1 st
theorem vx_daldZ {D : va_G} {cl : List vw_C} {ws : va_W} {tys : List (ClassId × FieldType)} {a : Nat} (hexec : p.tables.exec = Jvm.exec) (hb : c.code = cc) (hK : va_K D cl tys s) (hP : va_P D cl ws H) (q0 t0 : Nat) {cA : ClassId} {n : Nat} {f : Nat → UInt64} (ha : ws[q0]? = some (a, .inl (cA, n, .inr (.inr (.inr (.inl f)))))) (ht : tys[t0]? = some (cA, .double)) {i : Int32} (hout : ¬ vp_in i n) (hdg : decode cc pc = .ok (.daload, 1))
    (k : ∀ tx : String, tx = (toString "Index " ++ toString i ++ toString " out of bounds for length " ++ toString n : String) → vx_Note p l e R s m args below meth c H locs cells slots Q (F0 m pc ls rest) "java/lang/ArrayIndexOutOfBoundsException" tx) : W p l e R s m args below meth c H locs cells slots Q (F0 m pc ls (.int i :: .ref a :: rest)) := by
  intro T hT X
  obtain ⟨t, st, q⟩ := k _ rfl T hT X
  refine ⟨t, ?_, q⟩
  have h1 := X.daloadOut hexec (by rw [hT]; exact hP q0 _ ha) ((hK.2 t0 _ ht).1 n (fun j => .double (f j))) (j := i) (by show (i < 0 ∨ (arrV _ _ _).slots.size ≤ _); rw [arrV_size]; exact Classical.byContradiction hout) (g := F0 m pc ls (.int i :: .ref a :: rest)) rfl (rest := rest) rfl (by rw [hb]; exact hdg) t
  simp only [arrV_size] at h1
  exact h1 st
theorem vx_dastZ {D : va_G} {cl : List vw_C} {ws : va_W} {tys : List (ClassId × FieldType)} {a : Nat} (hexec : p.tables.exec = Jvm.exec) (hb : c.code = cc) (hK : va_K D cl tys s) (hP : va_P D cl ws H) (q0 t0 : Nat) {cA : ClassId} {n : Nat} {f : Nat → UInt64} (ha : ws[q0]? = some (a, .inl (cA, n, .inr (.inr (.inr (.inl f)))))) (ht : tys[t0]? = some (cA, .double)) {i : Int32} {x : UInt64} (hout : ¬ vp_in i n) (hdg : decode cc pc = .ok (.dastore, 1))
    (k : ∀ tx : String, tx = (toString "Index " ++ toString i ++ toString " out of bounds for length " ++ toString n : String) → vx_Note p l e R s m args below meth c H locs cells slots Q (F0 m pc ls rest) "java/lang/ArrayIndexOutOfBoundsException" tx) : W p l e R s m args below meth c H locs cells slots Q (F0 m pc ls (.double x :: .int i :: .ref a :: rest)) := by
  intro T hT X
  obtain ⟨t, st, q⟩ := k _ rfl T hT X
  refine ⟨t, ?_, q⟩
  have h1 := X.dastoreOut hexec (by rw [hT]; exact hP q0 _ ha) ((hK.2 t0 _ ht).1 n (fun j => .double (f j))) (j := i) (by show (i < 0 ∨ (arrV _ _ _).slots.size ≤ _); rw [arrV_size]; exact Classical.byContradiction hout) (g := F0 m pc ls (.double x :: .int i :: .ref a :: rest)) rfl (rest := rest) rfl (by rw [hb]; exact hdg) t
  simp only [arrV_size] at h1
  exact h1 st
theorem vx_arraylengthN (hexec : p.tables.exec = Jvm.exec) (hb : c.code = cc) (hdg : decode cc pc = .ok (.arraylength, 1)) (k : vx_NoteN p l e R s m args below meth c H locs cells slots Q (F0 m pc ls rest)) : W p l e R s m args below meth c H locs cells slots Q (F0 m pc ls (.null :: rest)) := by
  intro T hT X
  obtain ⟨t, st, q⟩ := k T hT X
  exact ⟨t, X.arraylengthNull hexec (g := F0 m pc ls (.null :: rest)) rfl (rest := rest) rfl (by rw [hb]; exact hdg) t st, q⟩
theorem vx_ialoadN (hexec : p.tables.exec = Jvm.exec) (hb : c.code = cc) {i : Int32} (hdg : decode cc pc = .ok (.iaload, 1)) (k : vx_NoteN p l e R s m args below meth c H locs cells slots Q (F0 m pc ls rest)) : W p l e R s m args below meth c H locs cells slots Q (F0 m pc ls (.int i :: .null :: rest)) := by
  intro T hT X
  obtain ⟨t, st, q⟩ := k T hT X
  exact ⟨t, X.ialoadNull hexec (g := F0 m pc ls (.int i :: .null :: rest)) rfl (rest := rest) rfl (by rw [hb]; exact hdg) t st, q⟩
theorem vx_laloadN (hexec : p.tables.exec = Jvm.exec) (hb : c.code = cc) {i : Int32} (hdg : decode cc pc = .ok (.laload, 1)) (k : vx_NoteN p l e R s m args below meth c H locs cells slots Q (F0 m pc ls rest)) : W p l e R s m args below meth c H locs cells slots Q (F0 m pc ls (.int i :: .null :: rest)) := by
  intro T hT X
  obtain ⟨t, st, q⟩ := k T hT X
  exact ⟨t, X.laloadNull hexec (g := F0 m pc ls (.int i :: .null :: rest)) rfl (rest := rest) rfl (by rw [hb]; exact hdg) t st, q⟩
theorem vx_faloadN (hexec : p.tables.exec = Jvm.exec) (hb : c.code = cc) {i : Int32} (hdg : decode cc pc = .ok (.faload, 1)) (k : vx_NoteN p l e R s m args below meth c H locs cells slots Q (F0 m pc ls rest)) : W p l e R s m args below meth c H locs cells slots Q (F0 m pc ls (.int i :: .null :: rest)) := by
  intro T hT X
  obtain ⟨t, st, q⟩ := k T hT X
  exact ⟨t, X.faloadNull hexec (g := F0 m pc ls (.int i :: .null :: rest)) rfl (rest := rest) rfl (by rw [hb]; exact hdg) t st, q⟩
theorem vx_daloadN (hexec : p.tables.exec = Jvm.exec) (hb : c.code = cc) {i : Int32} (hdg : decode cc pc = .ok (.daload, 1)) (k : vx_NoteN p l e R s m args below meth c H locs cells slots Q (F0 m pc ls rest)) : W p l e R s m args below meth c H locs cells slots Q (F0 m pc ls (.int i :: .null :: rest)) := by
  intro T hT X
  obtain ⟨t, st, q⟩ := k T hT X
  exact ⟨t, X.daloadNull hexec (g := F0 m pc ls (.int i :: .null :: rest)) rfl (rest := rest) rfl (by rw [hb]; exact hdg) t st, q⟩
theorem vx_aaloadN (hexec : p.tables.exec = Jvm.exec) (hb : c.code = cc) {i : Int32} (hdg : decode cc pc = .ok (.aaload, 1)) (k : vx_NoteN p l e R s m args below meth c H locs cells slots Q (F0 m pc ls rest)) : W p l e R s m args below meth c H locs cells slots Q (F0 m pc ls (.int i :: .null :: rest)) := by
  intro T hT X
  obtain ⟨t, st, q⟩ := k T hT X
  exact ⟨t, X.aaloadNull hexec (g := F0 m pc ls (.int i :: .null :: rest)) rfl (rest := rest) rfl (by rw [hb]; exact hdg) t st, q⟩
theorem vx_baloadN (hexec : p.tables.exec = Jvm.exec) (hb : c.code = cc) {i : Int32} (hdg : decode cc pc = .ok (.baload, 1)) (k : vx_NoteN p l e R s m args below meth c H locs cells slots Q (F0 m pc ls rest)) : W p l e R s m args below meth c H locs cells slots Q (F0 m pc ls (.int i :: .null :: rest)) := by
  intro T hT X
  obtain ⟨t, st, q⟩ := k T hT X
  exact ⟨t, X.baloadNull hexec (g := F0 m pc ls (.int i :: .null :: rest)) rfl (rest := rest) rfl (by rw [hb]; exact hdg) t st, q⟩
theorem vx_caloadN (hexec : p.tables.exec = Jvm.exec) (hb : c.code = cc) {i : Int32} (hdg : decode cc pc = .ok (.caload, 1)) (k : vx_NoteN p l e R s m args below meth c H locs cells slots Q (F0 m pc ls rest)) : W p l e R s m args below meth c H locs cells slots Q (F0 m pc ls (.int i :: .null :: rest)) := by
  intro T hT X
  obtain ⟨t, st, q⟩ := k T hT X
  exact ⟨t, X.caloadNull hexec (g := F0 m pc ls (.int i :: .null :: rest)) rfl (rest := rest) rfl (by rw [hb]; exact hdg) t st, q⟩
theorem vx_saloadN (hexec : p.tables.exec = Jvm.exec) (hb : c.code = cc) {i : Int32} (hdg : decode cc pc = .ok (.saload, 1)) (k : vx_NoteN p l e R s m args below meth c H locs cells slots Q (F0 m pc ls rest)) : W p l e R s m args below meth c H locs cells slots Q (F0 m pc ls (.int i :: .null :: rest)) := by
  intro T hT X
  obtain ⟨t, st, q⟩ := k T hT X
  exact ⟨t, X.saloadNull hexec (g := F0 m pc ls (.int i :: .null :: rest)) rfl (rest := rest) rfl (by rw [hb]; exact hdg) t st, q⟩
theorem vx_iastoreN (hexec : p.tables.exec = Jvm.exec) (hb : c.code = cc) {x : Int32} {i : Int32} (hdg : decode cc pc = .ok (.iastore, 1)) (k : vx_NoteN p l e R s m args below meth c H locs cells slots Q (F0 m pc ls rest)) : W p l e R s m args below meth c H locs cells slots Q (F0 m pc ls (.int x :: .int i :: .null :: rest)) := by
  intro T hT X
  obtain ⟨t, st, q⟩ := k T hT X
  exact ⟨t, X.iastoreNull hexec (g := F0 m pc ls (.int x :: .int i :: .null :: rest)) rfl (rest := rest) rfl (by rw [hb]; exact hdg) t st, q⟩
theorem vx_lastoreN (hexec : p.tables.exec = Jvm.exec) (hb : c.code = cc) {x : Int64} {i : Int32} (hdg : decode cc pc = .ok (.lastore, 1)) (k : vx_NoteN p l e R s m args below meth c H locs cells slots Q (F0 m pc ls rest)) : W p l e R s m args below meth c H locs cells slots Q (F0 m pc ls (.long x :: .int i :: .null :: rest)) := by
  intro T hT X
  obtain ⟨t, st, q⟩ := k T hT X
  exact ⟨t, X.lastoreNull hexec (g := F0 m pc ls (.long x :: .int i :: .null :: rest)) rfl (rest := rest) rfl (by rw [hb]; exact hdg) t st, q⟩
theorem vx_fastoreN (hexec : p.tables.exec = Jvm.exec) (hb : c.code = cc) {x : UInt32} {i : Int32} (hdg : decode cc pc = .ok (.fastore, 1)) (k : vx_NoteN p l e R s m args below meth c H locs cells slots Q (F0 m pc ls rest)) : W p l e R s m args below meth c H locs cells slots Q (F0 m pc ls (.float x :: .int i :: .null :: rest)) := by
  intro T hT X
  obtain ⟨t, st, q⟩ := k T hT X
  exact ⟨t, X.fastoreNull hexec (g := F0 m pc ls (.float x :: .int i :: .null :: rest)) rfl (rest := rest) rfl (by rw [hb]; exact hdg) t st, q⟩
theorem vx_dastoreN (hexec : p.tables.exec = Jvm.exec) (hb : c.code = cc) {x : UInt64} {i : Int32} (hdg : decode cc pc = .ok (.dastore, 1)) (k : vx_NoteN p l e R s m args below meth c H locs cells slots Q (F0 m pc ls rest)) : W p l e R s m args below meth c H locs cells slots Q (F0 m pc ls (.double x :: .int i :: .null :: rest)) := by
  intro T hT X
  obtain ⟨t, st, q⟩ := k T hT X
  exact ⟨t, X.dastoreNull hexec (g := F0 m pc ls (.double x :: .int i :: .null :: rest)) rfl (rest := rest) rfl (by rw [hb]; exact hdg) t st, q⟩
theorem vx_bastoreN (hexec : p.tables.exec = Jvm.exec) (hb : c.code = cc) {x : Int32} {i : Int32} (hdg : decode cc pc = .ok (.bastore, 1)) (k : vx_NoteN p l e R s m args below meth c H locs cells slots Q (F0 m pc ls rest)) : W p l e R s m args below meth c H locs cells slots Q (F0 m pc ls (.int x :: .int i :: .null :: rest)) := by
  intro T hT X
  obtain ⟨t, st, q⟩ := k T hT X
  exact ⟨t, X.bastoreNull hexec (g := F0 m pc ls (.int x :: .int i :: .null :: rest)) rfl (rest := rest) rfl (by rw [hb]; exact hdg) t st, q⟩
theorem vx_castoreN (hexec : p.tables.exec = Jvm.exec) (hb : c.code = cc) {x : Int32} {i : Int32} (hdg : decode cc pc = .ok (.castore, 1)) (k : vx_NoteN p l e R s m args below meth c H locs cells slots Q (F0 m pc ls rest)) : W p l e R s m args below meth c H locs cells slots Q (F0 m pc ls (.int x :: .int i :: .null :: rest)) := by
  intro T hT X
  obtain ⟨t, st, q⟩ := k T hT X
  exact ⟨t, X.castoreNull hexec (g := F0 m pc ls (.int x :: .int i :: .null :: rest)) rfl (rest := rest) rfl (by rw [hb]; exact hdg) t st, q⟩
theorem vx_sastoreN (hexec : p.tables.exec = Jvm.exec) (hb : c.code = cc) {x : Int32} {i : Int32} (hdg : decode cc pc = .ok (.sastore, 1)) (k : vx_NoteN p l e R s m args below meth c H locs cells slots Q (F0 m pc ls rest)) : W p l e R s m args below meth c H locs cells slots Q (F0 m pc ls (.int x :: .int i :: .null :: rest)) := by
  intro T hT X
  obtain ⟨t, st, q⟩ := k T hT X
  exact ⟨t, X.sastoreNull hexec (g := F0 m pc ls (.int x :: .int i :: .null :: rest)) rfl (rest := rest) rfl (by rw [hb]; exact hdg) t st, q⟩
theorem vx_invokeN {own C : String} {index maxL : Nat} {y : MethodName} {bytes : ByteArray} {ret : Option FieldType} (hexec : p.tables.exec = Jvm.exec) (hb : c.code = cc) (hown : s.vm.findClass own = some m.cls) (hlink : (Cond.methodLink own index y).before args s = true) (hinst : (Cond.instanceMethod y).before args s = true) (hcode : (Cond.code y bytes maxL ret).before args s = true) (hsel : (Cond.selects C y y).before args s = true)
    (hx : y.cls ≠ "java/lang/invoke/MethodHandle" ∧ y.cls ≠ "java/lang/invoke/VarHandle") {As : List Value} (hlen : (parseMethodDescriptor y.desc).map (fun d => d.parameters.length) = some As.length) (hdg : decode cc pc = .ok (.invokevirtual index, 3))
    (k : vx_NoteN p l e R s m args below meth c H locs cells slots Q (F0 m pc ls rest)) {st0 : List Value} (hst : st0 = As.reverse ++ .null :: rest) : W p l e R s m args below meth c H locs cells slots Q (F0 m pc ls st0) := by
  intro T hT X
  obtain ⟨r0, r, hn, hrm, hstR, hsigR⟩ := va_Decl.of hinst hcode
  obtain ⟨c2, r2, m2, q1, q2, q3, q4, kP, hkP, hkPi⟩ := Cond.selects_spec hsel
  cases hn.symm.trans q3
  have hl9 : As.length = r.sig.parameters.length := by
    rw [hsigR] at hlen
    exact (Option.some.inj hlen).symm
  obtain ⟨vm', X1, st1⟩ := X.invokevirtualNull hexec hown hlink hn hrm hstR hkP hkPi hx (g := F0 m pc ls st0) rfl (argsL := As) (rest := rest) hl9 hst (by rw [hb]; exact hdg)
  obtain ⟨t, st, q⟩ := k (T.setVm vm') hT X1
  exact ⟨t, st1 t st, q⟩
theorem vx_newarrayZ {atype : ArrayType} (hexec : p.tables.exec = Jvm.exec) (hb : c.code = cc) {n : Int32} (h0 : n < 0) (hdg : decode cc pc = .ok (.newarray atype, 2)) (k : ∀ tx : String, tx = toString n → vx_Note p l e R s m args below meth c H locs cells slots Q (F0 m pc ls rest) "java/lang/NegativeArraySizeException" tx) : W p l e R s m args below meth c H locs cells slots Q (F0 m pc ls (.int n :: rest)) := by
  intro T hT X
  obtain ⟨t, st, q⟩ := k _ rfl T hT X
  exact ⟨t, X.newarrayNegative hexec (g := F0 m pc ls (.int n :: rest)) rfl h0 (rest := rest) rfl (by rw [hb]; exact hdg) t st, q⟩
end
end VXM
/-! ===== END ===== -/
end
section
/-! names: classes, fields, methods, decode lists (by program out of the printed names) -/
def RX0 : String := "BuskPitches$Bits"
def TX0 : u_T := fun k => match k with
  | _ => ("", "", "", false)
def tyX0 : Nat → FieldType := fun k => match k with
  | _ => .int
abbrev wsX00 : List Cond := u_ws RX0 TX0 0
theorem nmX0 : ∀ a, a < 0 → ∀ b, b < 0 → a ≠ b → (TX0 a).2.1 ≠ (TX0 b).2.1 := by decide +kernel
theorem tyX0_ok : ∀ k, k < 0 → parseFieldDescriptor (TX0 k).2.2.1 = some (tyX0 k) := by decide +kernel
abbrev cX0_ofFloat : ByteArray := prog_2_method_2_code
def yX0_ofFloat : MethodName := ⟨RX0, "ofFloat", "(F)I"⟩
abbrev cX0_ofDouble : ByteArray := prog_2_method_3_code
def yX0_ofDouble : MethodName := ⟨RX0, "ofDouble", "(D)J"⟩
def RX1 : String := "BuskPitches$History"
def TX1 : u_T := fun k => match k with
  | 0 => ("BuskPitches$History", "ring", "[LBuskPitches$State;", true)
  | 1 => ("BuskPitches$History", "next", "I", false)
  | _ => ("BuskPitches$History", "count", "I", false)
def tyX1 : Nat → FieldType := fun k => match k with
  | 0 => .array (.object "BuskPitches$State")
  | 1 => .int
  | _ => .int
abbrev wsX10 : List Cond := u_ws RX1 TX1 3
theorem nmX1 : ∀ a, a < 3 → ∀ b, b < 3 → a ≠ b → (TX1 a).2.1 ≠ (TX1 b).2.1 := by decide +kernel
theorem tyX1_ok : ∀ k, k < 3 → parseFieldDescriptor (TX1 k).2.2.1 = some (tyX1 k) := by decide +kernel
abbrev cX1_init : ByteArray := prog_3_method_1_code
def yX1_init : MethodName := ⟨RX1, "<init>", "()V"⟩
abbrev cX1_keep : ByteArray := prog_3_method_2_code
def yX1_keep : MethodName := ⟨RX1, "keep", "(LBuskPitches$State;)V"⟩
abbrev cX1_giveBack : ByteArray := prog_3_method_3_code
def yX1_giveBack : MethodName := ⟨RX1, "giveBack", "(LBuskPitches$State;)V"⟩
def RX2 : String := "BuskPitches$Input"
def TX2 : u_T := fun k => match k with
  | 0 => ("BuskPitches$Input", "signs", "[C", true)
  | _ => ("BuskPitches$Input", "length", "I", false)
def tyX2 : Nat → FieldType := fun k => match k with
  | 0 => .array .char
  | _ => .int
abbrev wsX20 : List Cond := u_ws RX2 TX2 2
theorem nmX2 : ∀ a, a < 2 → ∀ b, b < 2 → a ≠ b → (TX2 a).2.1 ≠ (TX2 b).2.1 := by decide +kernel
theorem tyX2_ok : ∀ k, k < 2 → parseFieldDescriptor (TX2 k).2.2.1 = some (tyX2 k) := by decide +kernel
abbrev cX2_init : ByteArray := prog_4_method_1_code
def yX2_init : MethodName := ⟨RX2, "<init>", "()V"⟩
abbrev cX2_put : ByteArray := prog_4_method_2_code
def yX2_put : MethodName := ⟨RX2, "put", "(C)V"⟩
abbrev cX2_signAt : ByteArray := prog_4_method_3_code
def yX2_signAt : MethodName := ⟨RX2, "signAt", "(I)C"⟩
abbrev cX2_numberIn : ByteArray := prog_4_method_4_code
def yX2_numberIn : MethodName := ⟨RX2, "numberIn", "(II)I"⟩
abbrev cX2_findError : ByteArray := prog_4_method_5_code
def yX2_findError : MethodName := ⟨RX2, "findError", "()I"⟩
abbrev cX2_stageAfter : ByteArray := prog_4_method_6_code
def yX2_stageAfter : MethodName := ⟨RX2, "stageAfter", "(IC)I"⟩
abbrev cX2_stageAfterLetter : ByteArray := prog_4_method_7_code
def yX2_stageAfterLetter : MethodName := ⟨RX2, "stageAfterLetter", "(C)I"⟩
abbrev cX2_stageAfterEnd : ByteArray := prog_4_method_8_code
def yX2_stageAfterEnd : MethodName := ⟨RX2, "stageAfterEnd", "(C)I"⟩
def RX3 : String := "BuskPitches$State"
def TX3 : u_T := fun k => match k with
  | 0 => ("BuskPitches$State", "hour", "I", false)
  | 1 => ("BuskPitches$State", "crowd", "I", false)
  | 2 => ("BuskPitches$State", "buskers", "I", false)
  | 3 => ("BuskPitches$State", "answered", "I", false)
  | 4 => ("BuskPitches$State", "draws", "I", false)
  | 5 => ("BuskPitches$State", "limits", "[F", true)
  | 6 => ("BuskPitches$State", "complaints", "[I", true)
  | 7 => ("BuskPitches$State", "complaintsSoFar", "[I", true)
  | 8 => ("BuskPitches$State", "kinds", "[I", true)
  | 9 => ("BuskPitches$State", "loudnesses", "[I", true)
  | 10 => ("BuskPitches$State", "pitches", "[I", true)
  | 11 => ("BuskPitches$State", "places", "[I", true)
  | 12 => ("BuskPitches$State", "cases", "[I", true)
  | 13 => ("BuskPitches$State", "hoursPlayed", "[I", true)
  | 14 => ("BuskPitches$State", "newStrings", "[I", true)
  | 15 => ("BuskPitches$State", "hats", "[F", true)
  | 16 => ("BuskPitches$State", "wears", "[F", true)
  | _ => ("BuskPitches$State", "row", "[F", true)
def tyX3 : Nat → FieldType := fun k => match k with
  | 0 => .int
  | 1 => .int
  | 2 => .int
  | 3 => .int
  | 4 => .int
  | 5 => .array .float
  | 6 => .array .int
  | 7 => .array .int
  | 8 => .array .int
  | 9 => .array .int
  | 10 => .array .int
  | 11 => .array .int
  | 12 => .array .int
  | 13 => .array .int
  | 14 => .array .int
  | 15 => .array .float
  | 16 => .array .float
  | _ => .array .float
abbrev wsX30 : List Cond := u_ws RX3 TX3 18
theorem nmX3 : ∀ a, a < 18 → ∀ b, b < 18 → a ≠ b → (TX3 a).2.1 ≠ (TX3 b).2.1 := by decide +kernel
theorem tyX3_ok : ∀ k, k < 18 → parseFieldDescriptor (TX3 k).2.2.1 = some (tyX3 k) := by decide +kernel
abbrev cX3_init : ByteArray := prog_5_method_1_code
def yX3_init : MethodName := ⟨RX3, "<init>", "()V"⟩
abbrev cX3_copyFrom : ByteArray := prog_5_method_2_code
def yX3_copyFrom : MethodName := ⟨RX3, "copyFrom", "(LBuskPitches$State;)V"⟩
abbrev cX3_hasBusker : ByteArray := prog_5_method_3_code
def yX3_hasBusker : MethodName := ⟨RX3, "hasBusker", "(I)Z"⟩
abbrev cX3_addBusker : ByteArray := prog_5_method_4_code
def yX3_addBusker : MethodName := ⟨RX3, "addBusker", "(II)I"⟩
abbrev cX3_playerOn : ByteArray := prog_5_method_5_code
def yX3_playerOn : MethodName := ⟨RX3, "playerOn", "(I)I"⟩
abbrev cX3_waiterAt : ByteArray := prog_5_method_6_code
def yX3_waiterAt : MethodName := ⟨RX3, "waiterAt", "(I)I"⟩
abbrev cX3_caseAt : ByteArray := prog_5_method_7_code
def yX3_caseAt : MethodName := ⟨RX3, "caseAt", "(II)I"⟩
abbrev cX3_countWaiting : ByteArray := prog_5_method_8_code
def yX3_countWaiting : MethodName := ⟨RX3, "countWaiting", "()I"⟩
abbrev cX3_countPlaying : ByteArray := prog_5_method_9_code
def yX3_countPlaying : MethodName := ⟨RX3, "countPlaying", "()I"⟩
abbrev cX3_countCases : ByteArray := prog_5_method_10_code
def yX3_countCases : MethodName := ⟨RX3, "countCases", "()I"⟩
abbrev cX3_countAtHome : ByteArray := prog_5_method_11_code
def yX3_countAtHome : MethodName := ⟨RX3, "countAtHome", "()I"⟩
abbrev cX3_countSnapped : ByteArray := prog_5_method_12_code
def yX3_countSnapped : MethodName := ⟨RX3, "countSnapped", "()I"⟩
abbrev cX3_countAhead : ByteArray := prog_5_method_13_code
def yX3_countAhead : MethodName := ⟨RX3, "countAhead", "(I)I"⟩
abbrev cX3_isSnapped : ByteArray := prog_5_method_14_code
def yX3_isSnapped : MethodName := ⟨RX3, "isSnapped", "(I)Z"⟩
abbrev cX3_putInLine : ByteArray := prog_5_method_15_code
def yX3_putInLine : MethodName := ⟨RX3, "putInLine", "(I)I"⟩
abbrev cX3_drawFor : ByteArray := prog_5_method_16_code
def yX3_drawFor : MethodName := ⟨RX3, "drawFor", "(II)I"⟩
abbrev cX3_sendHomeFrom : ByteArray := prog_5_method_17_code
def yX3_sendHomeFrom : MethodName := ⟨RX3, "sendHomeFrom", "(I)I"⟩
abbrev cX3_exchange : ByteArray := prog_5_method_18_code
def yX3_exchange : MethodName := ⟨RX3, "exchange", "(II)I"⟩
abbrev cX3_buyStrings : ByteArray := prog_5_method_19_code
def yX3_buyStrings : MethodName := ⟨RX3, "buyStrings", "(I)V"⟩
abbrev cX3_answerComplaints : ByteArray := prog_5_method_20_code
def yX3_answerComplaints : MethodName := ⟨RX3, "answerComplaints", "(I)I"⟩
abbrev cX3_freePlaceOn : ByteArray := prog_5_method_21_code
def yX3_freePlaceOn : MethodName := ⟨RX3, "freePlaceOn", "(I)I"⟩
abbrev cX3_putCase : ByteArray := prog_5_method_22_code
def yX3_putCase : MethodName := ⟨RX3, "putCase", "(I)I"⟩
abbrev cX3_noiseOfBusker : ByteArray := prog_5_method_23_code
def yX3_noiseOfBusker : MethodName := ⟨RX3, "noiseOfBusker", "(I)F"⟩
abbrev cX3_ownNoiseOn : ByteArray := prog_5_method_24_code
def yX3_ownNoiseOn : MethodName := ⟨RX3, "ownNoiseOn", "(I)F"⟩
abbrev cX3_noiseAround : ByteArray := prog_5_method_25_code
def yX3_noiseAround : MethodName := ⟨RX3, "noiseAround", "(IF)F"⟩
abbrev cX3_noiseOn : ByteArray := prog_5_method_26_code
def yX3_noiseOn : MethodName := ⟨RX3, "noiseOn", "(I)F"⟩
abbrev cX3_noiseOf : ByteArray := prog_5_method_27_code
def yX3_noiseOf : MethodName := ⟨RX3, "noiseOf", "(II)F"⟩
abbrev cX3_layRow : ByteArray := prog_5_method_28_code
def yX3_layRow : MethodName := ⟨RX3, "layRow", "()V"⟩
abbrev cX3_noiseByRow : ByteArray := prog_5_method_29_code
def yX3_noiseByRow : MethodName := ⟨RX3, "noiseByRow", "(I)F"⟩
abbrev cX3_quietestFor : ByteArray := prog_5_method_30_code
def yX3_quietestFor : MethodName := ⟨RX3, "quietestFor", "(I)I"⟩
abbrev cX3_wearOfHour : ByteArray := prog_5_method_31_code
def yX3_wearOfHour : MethodName := ⟨RX3, "wearOfHour", "(I)F"⟩
abbrev cX3_hoursUntilSnapped : ByteArray := prog_5_method_32_code
def yX3_hoursUntilSnapped : MethodName := ⟨RX3, "hoursUntilSnapped", "(I)I"⟩
abbrev cX3_passHours : ByteArray := prog_5_method_33_code
def yX3_passHours : MethodName := ⟨RX3, "passHours", "(I)I"⟩
abbrev cX3_playHour : ByteArray := prog_5_method_34_code
def yX3_playHour : MethodName := ⟨RX3, "playHour", "(II)Z"⟩
abbrev cX3_takings : ByteArray := prog_5_method_35_code
def yX3_takings : MethodName := ⟨RX3, "takings", "(II)F"⟩
def RX4 : String := "BuskPitches"
def TX4 : u_T := fun k => match k with
  | 0 => ("BuskPitches", "now", "LBuskPitches$State;", true)
  | 1 => ("BuskPitches", "spare", "LBuskPitches$State;", true)
  | 2 => ("BuskPitches", "snapshot", "LBuskPitches$State;", true)
  | 3 => ("BuskPitches", "isSaved", "Z", false)
  | 4 => ("BuskPitches", "history", "LBuskPitches$History;", true)
  | 5 => ("BuskPitches", "input", "LBuskPitches$Input;", true)
  | 6 => ("BuskPitches", "textError", "I", false)
  | 7 => ("BuskPitches", "reason", "I", false)
  | _ => ("BuskPitches", "detail", "I", false)
def tyX4 : Nat → FieldType := fun k => match k with
  | 0 => .object "BuskPitches$State"
  | 1 => .object "BuskPitches$State"
  | 2 => .object "BuskPitches$State"
  | 3 => .boolean
  | 4 => .object "BuskPitches$History"
  | 5 => .object "BuskPitches$Input"
  | 6 => .int
  | 7 => .int
  | _ => .int
abbrev wsX40 : List Cond := u_ws RX4 TX4 9
theorem nmX4 : ∀ a, a < 9 → ∀ b, b < 9 → a ≠ b → (TX4 a).2.1 ≠ (TX4 b).2.1 := by decide +kernel
theorem tyX4_ok : ∀ k, k < 9 → parseFieldDescriptor (TX4 k).2.2.1 = some (tyX4 k) := by decide +kernel
abbrev cX4_init : ByteArray := prog_1_method_1_code
def yX4_init : MethodName := ⟨RX4, "<init>", "()V"⟩
abbrev cX4_crowd : ByteArray := prog_1_method_2_code
def yX4_crowd : MethodName := ⟨RX4, "crowd", "(I)I"⟩
abbrev cX4_limit : ByteArray := prog_1_method_3_code
def yX4_limit : MethodName := ⟨RX4, "limit", "(II)I"⟩
abbrev cX4_busker : ByteArray := prog_1_method_4_code
def yX4_busker : MethodName := ⟨RX4, "busker", "(II)I"⟩
abbrev cX4_buskerOf : ByteArray := prog_1_method_5_code
def yX4_buskerOf : MethodName := ⟨RX4, "buskerOf", "(II)I"⟩
abbrev cX4_hat : ByteArray := prog_1_method_6_code
def yX4_hat : MethodName := ⟨RX4, "hat", "(I)F"⟩
abbrev cX4_wear : ByteArray := prog_1_method_7_code
def yX4_wear : MethodName := ⟨RX4, "wear", "(I)I"⟩
abbrev cX4_pitchOf : ByteArray := prog_1_method_8_code
def yX4_pitchOf : MethodName := ⟨RX4, "pitchOf", "(II)I"⟩
abbrev cX4_join : ByteArray := prog_1_method_9_code
def yX4_join : MethodName := ⟨RX4, "join", "(I)I"⟩
abbrev cX4_draw : ByteArray := prog_1_method_10_code
def yX4_draw : MethodName := ⟨RX4, "draw", "(II)I"⟩
abbrev cX4_waiting : ByteArray := prog_1_method_11_code
def yX4_waiting : MethodName := ⟨RX4, "waiting", "(I)I"⟩
abbrev cX4_leave : ByteArray := prog_1_method_12_code
def yX4_leave : MethodName := ⟨RX4, "leave", "(I)I"⟩
abbrev cX4_swap : ByteArray := prog_1_method_13_code
def yX4_swap : MethodName := ⟨RX4, "swap", "(II)I"⟩
abbrev cX4_noise : ByteArray := prog_1_method_14_code
def yX4_noise : MethodName := ⟨RX4, "noise", "(I)I"⟩
abbrev cX4_noiseAgain : ByteArray := prog_1_method_15_code
def yX4_noiseAgain : MethodName := ⟨RX4, "noiseAgain", "(I)I"⟩
abbrev cX4_below : ByteArray := prog_1_method_16_code
def yX4_below : MethodName := ⟨RX4, "below", "(I)F"⟩
abbrev cX4_noiseWith : ByteArray := prog_1_method_17_code
def yX4_noiseWith : MethodName := ⟨RX4, "noiseWith", "(II)I"⟩
abbrev cX4_quietest : ByteArray := prog_1_method_18_code
def yX4_quietest : MethodName := ⟨RX4, "quietest", "(I)I"⟩
abbrev cX4_loudest : ByteArray := prog_1_method_19_code
def yX4_loudest : MethodName := ⟨RX4, "loudest", "()I"⟩
abbrev cX4_strings : ByteArray := prog_1_method_20_code
def yX4_strings : MethodName := ⟨RX4, "strings", "(I)I"⟩
abbrev cX4_snapsIn : ByteArray := prog_1_method_21_code
def yX4_snapsIn : MethodName := ⟨RX4, "snapsIn", "(I)I"⟩
abbrev cX4_answer : ByteArray := prog_1_method_22_code
def yX4_answer : MethodName := ⟨RX4, "answer", "(I)I"⟩
abbrev cX4_rack : ByteArray := prog_1_method_23_code
def yX4_rack : MethodName := ⟨RX4, "rack", "(II)I"⟩
abbrev cX4_unrack : ByteArray := prog_1_method_24_code
def yX4_unrack : MethodName := ⟨RX4, "unrack", "(I)I"⟩
abbrev cX4_onRack : ByteArray := prog_1_method_25_code
def yX4_onRack : MethodName := ⟨RX4, "onRack", "(II)I"⟩
abbrev cX4_ranked : ByteArray := prog_1_method_26_code
def yX4_ranked : MethodName := ⟨RX4, "ranked", "(I)I"⟩
abbrev cX4_pass : ByteArray := prog_1_method_27_code
def yX4_pass : MethodName := ⟨RX4, "pass", "(I)I"⟩
abbrev cX4_hatIn : ByteArray := prog_1_method_28_code
def yX4_hatIn : MethodName := ⟨RX4, "hatIn", "(II)I"⟩
abbrev cX4_playingIn : ByteArray := prog_1_method_29_code
def yX4_playingIn : MethodName := ⟨RX4, "playingIn", "(I)I"⟩
abbrev cX4_sign : ByteArray := prog_1_method_30_code
def yX4_sign : MethodName := ⟨RX4, "sign", "(I)C"⟩
abbrev cX4_append : ByteArray := prog_1_method_31_code
def yX4_append : MethodName := ⟨RX4, "append", "(C)I"⟩
abbrev cX4_read : ByteArray := prog_1_method_32_code
def yX4_read : MethodName := ⟨RX4, "read", "()I"⟩
abbrev cX4_errorPosition : ByteArray := prog_1_method_33_code
def yX4_errorPosition : MethodName := ⟨RX4, "errorPosition", "()I"⟩
abbrev cX4_refusal : ByteArray := prog_1_method_34_code
def yX4_refusal : MethodName := ⟨RX4, "refusal", "(Z)I"⟩
abbrev cX4_account : ByteArray := prog_1_method_35_code
def yX4_account : MethodName := ⟨RX4, "account", "(I)I"⟩
abbrev cX4_isWell : ByteArray := prog_1_method_36_code
def yX4_isWell : MethodName := ⟨RX4, "isWell", "()Z"⟩
abbrev cX4_meanBits : ByteArray := prog_1_method_37_code
def yX4_meanBits : MethodName := ⟨RX4, "meanBits", "()J"⟩
abbrev cX4_undo : ByteArray := prog_1_method_38_code
def yX4_undo : MethodName := ⟨RX4, "undo", "()I"⟩
abbrev cX4_save : ByteArray := prog_1_method_39_code
def yX4_save : MethodName := ⟨RX4, "save", "()I"⟩
abbrev cX4_restore : ByteArray := prog_1_method_40_code
def yX4_restore : MethodName := ⟨RX4, "restore", "()I"⟩
abbrev cX4_throwFor : ByteArray := prog_1_method_41_code
def yX4_throwFor : MethodName := ⟨RX4, "throwFor", "(I)V"⟩
abbrev cX4_refuse : ByteArray := prog_1_method_42_code
def yX4_refuse : MethodName := ⟨RX4, "refuse", "(II)I"⟩
abbrev cX4_isPitch : ByteArray := prog_1_method_43_code
def yX4_isPitch : MethodName := ⟨RX4, "isPitch", "(I)Z"⟩
abbrev cX4_hindranceOfRange : ByteArray := prog_1_method_44_code
def yX4_hindranceOfRange : MethodName := ⟨RX4, "hindranceOfRange", "(III)I"⟩
abbrev cX4_hindranceOfPitchNumber : ByteArray := prog_1_method_45_code
def yX4_hindranceOfPitchNumber : MethodName := ⟨RX4, "hindranceOfPitchNumber", "(I)I"⟩
abbrev cX4_hindranceOfBuskerNumber : ByteArray := prog_1_method_46_code
def yX4_hindranceOfBuskerNumber : MethodName := ⟨RX4, "hindranceOfBuskerNumber", "(I)I"⟩
abbrev cX4_hindranceOfCrowd : ByteArray := prog_1_method_47_code
def yX4_hindranceOfCrowd : MethodName := ⟨RX4, "hindranceOfCrowd", "(I)I"⟩
abbrev cX4_hindranceOfPass : ByteArray := prog_1_method_48_code
def yX4_hindranceOfPass : MethodName := ⟨RX4, "hindranceOfPass", "(I)I"⟩
abbrev cX4_hindranceOfLookAhead : ByteArray := prog_1_method_49_code
def yX4_hindranceOfLookAhead : MethodName := ⟨RX4, "hindranceOfLookAhead", "(I)I"⟩
abbrev cX4_hindranceOfLimit : ByteArray := prog_1_method_50_code
def yX4_hindranceOfLimit : MethodName := ⟨RX4, "hindranceOfLimit", "(II)I"⟩
abbrev cX4_hindranceOfBusker : ByteArray := prog_1_method_51_code
def yX4_hindranceOfBusker : MethodName := ⟨RX4, "hindranceOfBusker", "(II)I"⟩
abbrev cX4_hindranceOfJoin : ByteArray := prog_1_method_52_code
def yX4_hindranceOfJoin : MethodName := ⟨RX4, "hindranceOfJoin", "(I)I"⟩
abbrev cX4_hindranceOfDraw : ByteArray := prog_1_method_53_code
def yX4_hindranceOfDraw : MethodName := ⟨RX4, "hindranceOfDraw", "(II)I"⟩
abbrev cX4_hindranceOfLeave : ByteArray := prog_1_method_54_code
def yX4_hindranceOfLeave : MethodName := ⟨RX4, "hindranceOfLeave", "(I)I"⟩
abbrev cX4_hindranceOfSwap : ByteArray := prog_1_method_55_code
def yX4_hindranceOfSwap : MethodName := ⟨RX4, "hindranceOfSwap", "(II)I"⟩
abbrev cX4_hindranceOfStrings : ByteArray := prog_1_method_56_code
def yX4_hindranceOfStrings : MethodName := ⟨RX4, "hindranceOfStrings", "(I)I"⟩
abbrev cX4_hindranceOfAnswer : ByteArray := prog_1_method_57_code
def yX4_hindranceOfAnswer : MethodName := ⟨RX4, "hindranceOfAnswer", "(I)I"⟩
abbrev cX4_hindranceOfRack : ByteArray := prog_1_method_58_code
def yX4_hindranceOfRack : MethodName := ⟨RX4, "hindranceOfRack", "(II)I"⟩
abbrev cX4_hindranceOfUnrack : ByteArray := prog_1_method_59_code
def yX4_hindranceOfUnrack : MethodName := ⟨RX4, "hindranceOfUnrack", "(I)I"⟩
abbrev cX4_carryOut : ByteArray := prog_1_method_60_code
def yX4_carryOut : MethodName := ⟨RX4, "carryOut", "()I"⟩
abbrev cX4_carryOutOrder : ByteArray := prog_1_method_61_code
def yX4_carryOutOrder : MethodName := ⟨RX4, "carryOutOrder", "(II)I"⟩
abbrev cX4_tryDraw : ByteArray := prog_1_method_62_code
def yX4_tryDraw : MethodName := ⟨RX4, "tryDraw", "(II)I"⟩
abbrev cX4_hindranceOfOrder : ByteArray := prog_1_method_63_code
def yX4_hindranceOfOrder : MethodName := ⟨RX4, "hindranceOfOrder", "(CI)I"⟩
abbrev cX4_doOrder : ByteArray := prog_1_method_64_code
def yX4_doOrder : MethodName := ⟨RX4, "doOrder", "(CI)V"⟩
abbrev cX4_isNoiseTheSameTwice : ByteArray := prog_1_method_65_code
def yX4_isNoiseTheSameTwice : MethodName := ⟨RX4, "isNoiseTheSameTwice", "()Z"⟩
abbrev cX4_isNobodySharing : ByteArray := prog_1_method_66_code
def yX4_isNobodySharing : MethodName := ⟨RX4, "isNobodySharing", "()Z"⟩
abbrev cX4_sum : ByteArray := prog_1_method_67_code
def yX4_sum : MethodName := ⟨RX4, "sum", "([I)I"⟩
def RX5 : String := "BuskPitchesModel"
def TX5 : u_T := fun k => match k with
  | 0 => ("BuskPitchesModel", "thrown", "I", false)
  | 1 => ("BuskPitchesModel", "now", "[I", true)
  | 2 => ("BuskPitchesModel", "saved", "[I", true)
  | 3 => ("BuskPitchesModel", "ahead", "[I", true)
  | 4 => ("BuskPitchesModel", "before", "[I", true)
  | 5 => ("BuskPitchesModel", "history", "[[I", true)
  | 6 => ("BuskPitchesModel", "noises", "[F", true)
  | 7 => ("BuskPitchesModel", "owns", "[F", true)
  | 8 => ("BuskPitchesModel", "kept", "I", false)
  | 9 => ("BuskPitchesModel", "reason", "I", false)
  | 10 => ("BuskPitchesModel", "detail", "I", false)
  | 11 => ("BuskPitchesModel", "isSaved", "Z", false)
  | 12 => ("BuskPitchesModel", "isInText", "Z", false)
  | 13 => ("BuskPitchesModel", "input", "[C", true)
  | 14 => ("BuskPitchesModel", "length", "I", false)
  | 15 => ("BuskPitchesModel", "at", "I", false)
  | 16 => ("BuskPitchesModel", "error", "I", false)
  | 17 => ("BuskPitchesModel", "isWrong", "Z", false)
  | 18 => ("BuskPitchesModel", "command", "C", false)
  | 19 => ("BuskPitchesModel", "toldOne", "I", false)
  | _ => ("BuskPitchesModel", "toldTwo", "I", false)
def tyX5 : Nat → FieldType := fun k => match k with
  | 0 => .int
  | 1 => .array .int
  | 2 => .array .int
  | 3 => .array .int
  | 4 => .array .int
  | 5 => .array (.array .int)
  | 6 => .array .float
  | 7 => .array .float
  | 8 => .int
  | 9 => .int
  | 10 => .int
  | 11 => .boolean
  | 12 => .boolean
  | 13 => .array .char
  | 14 => .int
  | 15 => .int
  | 16 => .int
  | 17 => .boolean
  | 18 => .char
  | 19 => .int
  | _ => .int
abbrev wsX50 : List Cond := u_ws RX5 TX5 21
theorem nmX5 : ∀ a, a < 21 → ∀ b, b < 21 → a ≠ b → (TX5 a).2.1 ≠ (TX5 b).2.1 := by decide +kernel
theorem tyX5_ok : ∀ k, k < 21 → parseFieldDescriptor (TX5 k).2.2.1 = some (tyX5 k) := by decide +kernel
abbrev cX5_init : ByteArray := prog_7_method_1_code
def yX5_init : MethodName := ⟨RX5, "<init>", "()V"⟩
abbrev cX5_thrown : ByteArray := prog_7_method_2_code
def yX5_thrown : MethodName := ⟨RX5, "thrown", "()I"⟩
abbrev cX5_isBetween : ByteArray := prog_7_method_3_code
def yX5_isBetween : MethodName := ⟨RX5, "isBetween", "(III)Z"⟩
abbrev cX5_copyRow : ByteArray := prog_7_method_4_code
def yX5_copyRow : MethodName := ⟨RX5, "copyRow", "([I[I)V"⟩
abbrev cX5_fails : ByteArray := prog_7_method_5_code
def yX5_fails : MethodName := ⟨RX5, "fails", "(IZ)Z"⟩
abbrev cX5_refuse : ByteArray := prog_7_method_6_code
def yX5_refuse : MethodName := ⟨RX5, "refuse", "(ZII)Z"⟩
abbrev cX5_remember : ByteArray := prog_7_method_7_code
def yX5_remember : MethodName := ⟨RX5, "remember", "([I)V"⟩
abbrev cX5_change : ByteArray := prog_7_method_8_code
def yX5_change : MethodName := ⟨RX5, "change", "()V"⟩
abbrev cX5_crowd : ByteArray := prog_7_method_9_code
def yX5_crowd : MethodName := ⟨RX5, "crowd", "(I)I"⟩
abbrev cX5_isPitch : ByteArray := prog_7_method_10_code
def yX5_isPitch : MethodName := ⟨RX5, "isPitch", "(I)Z"⟩
abbrev cX5_ofPitch : ByteArray := prog_7_method_11_code
def yX5_ofPitch : MethodName := ⟨RX5, "ofPitch", "(II)I"⟩
abbrev cX5_putPitch : ByteArray := prog_7_method_12_code
def yX5_putPitch : MethodName := ⟨RX5, "putPitch", "(III)V"⟩
abbrev cX5_limitOf : ByteArray := prog_7_method_13_code
def yX5_limitOf : MethodName := ⟨RX5, "limitOf", "(I)F"⟩
abbrev cX5_limit : ByteArray := prog_7_method_14_code
def yX5_limit : MethodName := ⟨RX5, "limit", "(II)I"⟩
abbrev cX5_isBusker : ByteArray := prog_7_method_15_code
def yX5_isBusker : MethodName := ⟨RX5, "isBusker", "(I)Z"⟩
abbrev cX5_of : ByteArray := prog_7_method_16_code
def yX5_of : MethodName := ⟨RX5, "of", "(II)I"⟩
abbrev cX5_put : ByteArray := prog_7_method_17_code
def yX5_put : MethodName := ⟨RX5, "put", "(III)V"⟩
abbrev cX5_floatOf : ByteArray := prog_7_method_18_code
def yX5_floatOf : MethodName := ⟨RX5, "floatOf", "(II)F"⟩
abbrev cX5_putFloat : ByteArray := prog_7_method_19_code
def yX5_putFloat : MethodName := ⟨RX5, "putFloat", "(IIF)V"⟩
abbrev cX5_busker : ByteArray := prog_7_method_20_code
def yX5_busker : MethodName := ⟨RX5, "busker", "(II)I"⟩
abbrev cX5_placeInLine : ByteArray := prog_7_method_21_code
def yX5_placeInLine : MethodName := ⟨RX5, "placeInLine", "(I)I"⟩
abbrev cX5_buskerOf : ByteArray := prog_7_method_22_code
def yX5_buskerOf : MethodName := ⟨RX5, "buskerOf", "(II)I"⟩
abbrev cX5_hat : ByteArray := prog_7_method_23_code
def yX5_hat : MethodName := ⟨RX5, "hat", "(I)F"⟩
abbrev cX5_wear : ByteArray := prog_7_method_24_code
def yX5_wear : MethodName := ⟨RX5, "wear", "(I)I"⟩
abbrev cX5_isSnapped : ByteArray := prog_7_method_25_code
def yX5_isSnapped : MethodName := ⟨RX5, "isSnapped", "(I)Z"⟩
abbrev cX5_pitchOf : ByteArray := prog_7_method_26_code
def yX5_pitchOf : MethodName := ⟨RX5, "pitchOf", "(II)I"⟩
abbrev cX5_isJoinRefused : ByteArray := prog_7_method_27_code
def yX5_isJoinRefused : MethodName := ⟨RX5, "isJoinRefused", "(I)Z"⟩
abbrev cX5_join : ByteArray := prog_7_method_28_code
def yX5_join : MethodName := ⟨RX5, "join", "(I)I"⟩
abbrev cX5_isDrawRefused : ByteArray := prog_7_method_29_code
def yX5_isDrawRefused : MethodName := ⟨RX5, "isDrawRefused", "(I)Z"⟩
abbrev cX5_draw : ByteArray := prog_7_method_30_code
def yX5_draw : MethodName := ⟨RX5, "draw", "(II)I"⟩
abbrev cX5_waiting : ByteArray := prog_7_method_31_code
def yX5_waiting : MethodName := ⟨RX5, "waiting", "(I)I"⟩
abbrev cX5_goHome : ByteArray := prog_7_method_32_code
def yX5_goHome : MethodName := ⟨RX5, "goHome", "(I)V"⟩
abbrev cX5_leave : ByteArray := prog_7_method_33_code
def yX5_leave : MethodName := ⟨RX5, "leave", "(I)I"⟩
abbrev cX5_isSwapRefused : ByteArray := prog_7_method_34_code
def yX5_isSwapRefused : MethodName := ⟨RX5, "isSwapRefused", "(II)Z"⟩
abbrev cX5_swap : ByteArray := prog_7_method_35_code
def yX5_swap : MethodName := ⟨RX5, "swap", "(II)I"⟩
abbrev cX5_ownOf : ByteArray := prog_7_method_36_code
def yX5_ownOf : MethodName := ⟨RX5, "ownOf", "(I)F"⟩
abbrev cX5_own : ByteArray := prog_7_method_37_code
def yX5_own : MethodName := ⟨RX5, "own", "(I)F"⟩
abbrev cX5_noiseBy : ByteArray := prog_7_method_38_code
def yX5_noiseBy : MethodName := ⟨RX5, "noiseBy", "(IF)F"⟩
abbrev cX5_noiseAt : ByteArray := prog_7_method_39_code
def yX5_noiseAt : MethodName := ⟨RX5, "noiseAt", "(I)F"⟩
abbrev cX5_noise : ByteArray := prog_7_method_40_code
def yX5_noise : MethodName := ⟨RX5, "noise", "(I)I"⟩
abbrev cX5_noiseAgain : ByteArray := prog_7_method_41_code
def yX5_noiseAgain : MethodName := ⟨RX5, "noiseAgain", "(I)I"⟩
abbrev cX5_noiseWith : ByteArray := prog_7_method_42_code
def yX5_noiseWith : MethodName := ⟨RX5, "noiseWith", "(II)I"⟩
abbrev cX5_quietest : ByteArray := prog_7_method_43_code
def yX5_quietest : MethodName := ⟨RX5, "quietest", "(I)I"⟩
abbrev cX5_below : ByteArray := prog_7_method_44_code
def yX5_below : MethodName := ⟨RX5, "below", "(I)F"⟩
abbrev cX5_loudest : ByteArray := prog_7_method_45_code
def yX5_loudest : MethodName := ⟨RX5, "loudest", "()I"⟩
abbrev cX5_strings : ByteArray := prog_7_method_46_code
def yX5_strings : MethodName := ⟨RX5, "strings", "(I)I"⟩
abbrev cX5_snapsIn : ByteArray := prog_7_method_47_code
def yX5_snapsIn : MethodName := ⟨RX5, "snapsIn", "(I)I"⟩
abbrev cX5_answer : ByteArray := prog_7_method_48_code
def yX5_answer : MethodName := ⟨RX5, "answer", "(I)I"⟩
abbrev cX5_isRack : ByteArray := prog_7_method_49_code
def yX5_isRack : MethodName := ⟨RX5, "isRack", "(I)Z"⟩
abbrev cX5_caseOn : ByteArray := prog_7_method_50_code
def yX5_caseOn : MethodName := ⟨RX5, "caseOn", "(II)I"⟩
abbrev cX5_freePlace : ByteArray := prog_7_method_51_code
def yX5_freePlace : MethodName := ⟨RX5, "freePlace", "(I)I"⟩
abbrev cX5_isRackRefused : ByteArray := prog_7_method_52_code
def yX5_isRackRefused : MethodName := ⟨RX5, "isRackRefused", "(II)Z"⟩
abbrev cX5_rack : ByteArray := prog_7_method_53_code
def yX5_rack : MethodName := ⟨RX5, "rack", "(II)I"⟩
abbrev cX5_unrack : ByteArray := prog_7_method_54_code
def yX5_unrack : MethodName := ⟨RX5, "unrack", "(I)I"⟩
abbrev cX5_onRack : ByteArray := prog_7_method_55_code
def yX5_onRack : MethodName := ⟨RX5, "onRack", "(II)I"⟩
abbrev cX5_isAhead : ByteArray := prog_7_method_56_code
def yX5_isAhead : MethodName := ⟨RX5, "isAhead", "(II)Z"⟩
abbrev cX5_ranked : ByteArray := prog_7_method_57_code
def yX5_ranked : MethodName := ⟨RX5, "ranked", "(I)I"⟩
abbrev cX5_play : ByteArray := prog_7_method_58_code
def yX5_play : MethodName := ⟨RX5, "play", "(II)Z"⟩
abbrev cX5_goHour : ByteArray := prog_7_method_59_code
def yX5_goHour : MethodName := ⟨RX5, "goHour", "()I"⟩
abbrev cX5_pass : ByteArray := prog_7_method_60_code
def yX5_pass : MethodName := ⟨RX5, "pass", "(I)I"⟩
abbrev cX5_hatIn : ByteArray := prog_7_method_61_code
def yX5_hatIn : MethodName := ⟨RX5, "hatIn", "(II)I"⟩
abbrev cX5_playingIn : ByteArray := prog_7_method_62_code
def yX5_playingIn : MethodName := ⟨RX5, "playingIn", "(I)I"⟩
abbrev cX5_sign : ByteArray := prog_7_method_63_code
def yX5_sign : MethodName := ⟨RX5, "sign", "(I)C"⟩
abbrev cX5_append : ByteArray := prog_7_method_64_code
def yX5_append : MethodName := ⟨RX5, "append", "(C)I"⟩
abbrev cX5_sees : ByteArray := prog_7_method_65_code
def yX5_sees : MethodName := ⟨RX5, "sees", "(CC)Z"⟩
abbrev cX5_must : ByteArray := prog_7_method_66_code
def yX5_must : MethodName := ⟨RX5, "must", "(C)V"⟩
abbrev cX5_readNumber : ByteArray := prog_7_method_67_code
def yX5_readNumber : MethodName := ⟨RX5, "readNumber", "(I)I"⟩
abbrev cX5_isKind : ByteArray := prog_7_method_68_code
def yX5_isKind : MethodName := ⟨RX5, "isKind", "(C)Z"⟩
abbrev cX5_readOrder : ByteArray := prog_7_method_69_code
def yX5_readOrder : MethodName := ⟨RX5, "readOrder", "()V"⟩
abbrev cX5_countOrders : ByteArray := prog_7_method_70_code
def yX5_countOrders : MethodName := ⟨RX5, "countOrders", "()I"⟩
abbrev cX5_carryOut : ByteArray := prog_7_method_71_code
def yX5_carryOut : MethodName := ⟨RX5, "carryOut", "()I"⟩
abbrev cX5_read : ByteArray := prog_7_method_72_code
def yX5_read : MethodName := ⟨RX5, "read", "()I"⟩
abbrev cX5_errorPosition : ByteArray := prog_7_method_73_code
def yX5_errorPosition : MethodName := ⟨RX5, "errorPosition", "()I"⟩
abbrev cX5_refusal : ByteArray := prog_7_method_74_code
def yX5_refusal : MethodName := ⟨RX5, "refusal", "(Z)I"⟩
abbrev cX5_playing : ByteArray := prog_7_method_75_code
def yX5_playing : MethodName := ⟨RX5, "playing", "()I"⟩
abbrev cX5_snapped : ByteArray := prog_7_method_76_code
def yX5_snapped : MethodName := ⟨RX5, "snapped", "()I"⟩
abbrev cX5_complaints : ByteArray := prog_7_method_77_code
def yX5_complaints : MethodName := ⟨RX5, "complaints", "()I"⟩
abbrev cX5_cases : ByteArray := prog_7_method_78_code
def yX5_cases : MethodName := ⟨RX5, "cases", "()I"⟩
abbrev cX5_otherAccount : ByteArray := prog_7_method_79_code
def yX5_otherAccount : MethodName := ⟨RX5, "otherAccount", "(I)I"⟩
abbrev cX5_account : ByteArray := prog_7_method_80_code
def yX5_account : MethodName := ⟨RX5, "account", "(I)I"⟩
abbrev cX5_isWell : ByteArray := prog_7_method_81_code
def yX5_isWell : MethodName := ⟨RX5, "isWell", "()Z"⟩
abbrev cX5_meanBits : ByteArray := prog_7_method_82_code
def yX5_meanBits : MethodName := ⟨RX5, "meanBits", "()J"⟩
abbrev cX5_undo : ByteArray := prog_7_method_83_code
def yX5_undo : MethodName := ⟨RX5, "undo", "()I"⟩
abbrev cX5_save : ByteArray := prog_7_method_84_code
def yX5_save : MethodName := ⟨RX5, "save", "()I"⟩
abbrev cX5_restore : ByteArray := prog_7_method_85_code
def yX5_restore : MethodName := ⟨RX5, "restore", "()I"⟩
def RJx00060 : String := "java/lang/ArrayIndexOutOfBoundsException"
def TJx00060 : u_T := fun k => match k with
  | 0 => ("java/lang/Throwable", "backtrace", "Ljava/lang/Object;", false)
  | 1 => ("java/lang/Throwable", "detailMessage", "Ljava/lang/String;", false)
  | 2 => ("java/lang/Throwable", "cause", "Ljava/lang/Throwable;", false)
  | 3 => ("java/lang/Throwable", "stackTrace", "[Ljava/lang/StackTraceElement;", false)
  | 4 => ("java/lang/Throwable", "depth", "I", false)
  | _ => ("java/lang/Throwable", "suppressedExceptions", "Ljava/util/List;", false)
def tyJx00060 : Nat → FieldType := fun k => match k with
  | 0 => .object "java/lang/Object"
  | 1 => .object "java/lang/String"
  | 2 => .object "java/lang/Throwable"
  | 3 => .array (.object "java/lang/StackTraceElement")
  | 4 => .int
  | _ => .object "java/util/List"
abbrev wsJx000600 : List Cond := u_ws RJx00060 TJx00060 6
theorem nmJx00060 : ∀ a, a < 6 → ∀ b, b < 6 → a ≠ b → (TJx00060 a).2.1 ≠ (TJx00060 b).2.1 := by decide +kernel
theorem tyJx00060_ok : ∀ k, k < 6 → parseFieldDescriptor (TJx00060 k).2.2.1 = some (tyJx00060 k) := by decide +kernel
abbrev cJx00060_init_a7421 : ByteArray := prog_10_method_2_code
def yJx00060_init_a7421 : MethodName := ⟨RJx00060, "<init>", "(Ljava/lang/String;)V"⟩
def RJxe99ae : String := "java/lang/Double"
def TJxe99ae : u_T := fun k => match k with
  | _ => ("", "", "", false)
def tyJxe99ae : Nat → FieldType := fun k => match k with
  | _ => .int
theorem nmJxe99ae : ∀ a, a < 0 → ∀ b, b < 0 → a ≠ b → (TJxe99ae a).2.1 ≠ (TJxe99ae b).2.1 := by decide +kernel
theorem tyJxe99ae_ok : ∀ k, k < 0 → parseFieldDescriptor (TJxe99ae k).2.2.1 = some (tyJxe99ae k) := by decide +kernel
abbrev cJxe99ae_isNaN_b9ae7 : ByteArray := prog_12_method_6_code
def yJxe99ae_isNaN_b9ae7 : MethodName := ⟨RJxe99ae, "isNaN", "(D)Z"⟩
abbrev cJxe99ae_doubleToLongBits_ccdee : ByteArray := prog_12_method_23_code
def yJxe99ae_doubleToLongBits_ccdee : MethodName := ⟨RJxe99ae, "doubleToLongBits", "(D)J"⟩
def RJxf58ca : String := "java/lang/Float"
def TJxf58ca : u_T := fun k => match k with
  | _ => ("", "", "", false)
def tyJxf58ca : Nat → FieldType := fun k => match k with
  | _ => .int
theorem nmJxf58ca : ∀ a, a < 0 → ∀ b, b < 0 → a ≠ b → (TJxf58ca a).2.1 ≠ (TJxf58ca b).2.1 := by decide +kernel
theorem tyJxf58ca_ok : ∀ k, k < 0 → parseFieldDescriptor (TJxf58ca k).2.2.1 = some (tyJxf58ca k) := by decide +kernel
abbrev cJxf58ca_isNaN_12338 : ByteArray := prog_14_method_6_code
def yJxf58ca_isNaN_12338 : MethodName := ⟨RJxf58ca, "isNaN", "(F)Z"⟩
abbrev cJxf58ca_floatToIntBits_5c35a : ByteArray := prog_14_method_24_code
def yJxf58ca_floatToIntBits_5c35a : MethodName := ⟨RJxf58ca, "floatToIntBits", "(F)I"⟩
def RJ0 : String := "java/lang/String"
def TJ0 : u_T := fun k => match k with
  | 0 => ("java/lang/String", "value", "[B", true)
  | _ => ("java/lang/String", "coder", "B", true)
def tyJ0 : Nat → FieldType := fun k => match k with
  | 0 => .array .byte
  | _ => .byte
abbrev wsJ00 : List Cond := u_ws RJ0 TJ0 2
theorem nmJ0 : ∀ a, a < 2 → ∀ b, b < 2 → a ≠ b → (TJ0 a).2.1 ≠ (TJ0 b).2.1 := by decide +kernel
theorem tyJ0_ok : ∀ k, k < 2 → parseFieldDescriptor (TJ0 k).2.2.1 = some (tyJ0 k) := by decide +kernel
def RJ10 : String := "java/lang/System"
def TJ10 : u_T := fun k => match k with
  | _ => ("", "", "", false)
def tyJ10 : Nat → FieldType := fun k => match k with
  | _ => .int
theorem nmJ10 : ∀ a, a < 0 → ∀ b, b < 0 → a ≠ b → (TJ10 a).2.1 ≠ (TJ10 b).2.1 := by decide +kernel
theorem tyJ10_ok : ∀ k, k < 0 → parseFieldDescriptor (TJ10 k).2.2.1 = some (tyJ10 k) := by decide +kernel
def RJ7 : String := "java/util/Arrays"
def TJ7 : u_T := fun k => match k with
  | _ => ("", "", "", false)
def tyJ7 : Nat → FieldType := fun k => match k with
  | _ => .int
theorem nmJ7 : ∀ a, a < 0 → ∀ b, b < 0 → a ≠ b → (TJ7 a).2.1 ≠ (TJ7 b).2.1 := by decide +kernel
theorem tyJ7_ok : ∀ k, k < 0 → parseFieldDescriptor (TJ7 k).2.2.1 = some (tyJ7 k) := by decide +kernel
abbrev cJ7_fill_53178 : ByteArray := prog_26_method_103_code
def yJ7_fill_53178 : MethodName := ⟨RJ7, "fill", "([II)V"⟩
abbrev cJ7_fill_e525d : ByteArray := prog_26_method_115_code
def yJ7_fill_e525d : MethodName := ⟨RJ7, "fill", "([FF)V"⟩
def RL : String := "BuskPitchesLaw"
abbrev cL_crowd : ByteArray := method_3_code
def yL_crowd : MethodName := ⟨RL, "crowd", "(LBuskPitches;I[J)I"⟩
abbrev cL_limit : ByteArray := method_4_code
def yL_limit : MethodName := ⟨RL, "limit", "(LBuskPitches;II[J)I"⟩
abbrev cL_busker : ByteArray := method_5_code
def yL_busker : MethodName := ⟨RL, "busker", "(LBuskPitches;II[J)I"⟩
abbrev cL_buskerOf : ByteArray := method_6_code
def yL_buskerOf : MethodName := ⟨RL, "buskerOf", "(LBuskPitches;II[J)I"⟩
abbrev cL_hat : ByteArray := method_7_code
def yL_hat : MethodName := ⟨RL, "hat", "(LBuskPitches;I[D)I"⟩
abbrev cL_wear : ByteArray := method_8_code
def yL_wear : MethodName := ⟨RL, "wear", "(LBuskPitches;I[J)I"⟩
abbrev cL_pitchOf : ByteArray := method_9_code
def yL_pitchOf : MethodName := ⟨RL, "pitchOf", "(LBuskPitches;II[J)I"⟩
abbrev cL_join : ByteArray := method_10_code
def yL_join : MethodName := ⟨RL, "join", "(LBuskPitches;I[J)I"⟩
abbrev cL_draw : ByteArray := method_11_code
def yL_draw : MethodName := ⟨RL, "draw", "(LBuskPitches;II[J)I"⟩
abbrev cL_waiting : ByteArray := method_12_code
def yL_waiting : MethodName := ⟨RL, "waiting", "(LBuskPitches;I[J)I"⟩
abbrev cL_leave : ByteArray := method_13_code
def yL_leave : MethodName := ⟨RL, "leave", "(LBuskPitches;I[J)I"⟩
abbrev cL_swap : ByteArray := method_14_code
def yL_swap : MethodName := ⟨RL, "swap", "(LBuskPitches;II[J)I"⟩
abbrev cL_noise : ByteArray := method_15_code
def yL_noise : MethodName := ⟨RL, "noise", "(LBuskPitches;I[J)I"⟩
abbrev cL_noiseAgain : ByteArray := method_16_code
def yL_noiseAgain : MethodName := ⟨RL, "noiseAgain", "(LBuskPitches;I[J)I"⟩
abbrev cL_below : ByteArray := method_17_code
def yL_below : MethodName := ⟨RL, "below", "(LBuskPitches;I[D)I"⟩
abbrev cL_noiseWith : ByteArray := method_18_code
def yL_noiseWith : MethodName := ⟨RL, "noiseWith", "(LBuskPitches;II[J)I"⟩
abbrev cL_quietest : ByteArray := method_19_code
def yL_quietest : MethodName := ⟨RL, "quietest", "(LBuskPitches;I[J)I"⟩
abbrev cL_strings : ByteArray := method_20_code
def yL_strings : MethodName := ⟨RL, "strings", "(LBuskPitches;I[J)I"⟩
abbrev cL_snapsIn : ByteArray := method_21_code
def yL_snapsIn : MethodName := ⟨RL, "snapsIn", "(LBuskPitches;I[J)I"⟩
abbrev cL_answer : ByteArray := method_22_code
def yL_answer : MethodName := ⟨RL, "answer", "(LBuskPitches;I[J)I"⟩
abbrev cL_rack : ByteArray := method_23_code
def yL_rack : MethodName := ⟨RL, "rack", "(LBuskPitches;II[J)I"⟩
abbrev cL_unrack : ByteArray := method_24_code
def yL_unrack : MethodName := ⟨RL, "unrack", "(LBuskPitches;I[J)I"⟩
abbrev cL_onRack : ByteArray := method_25_code
def yL_onRack : MethodName := ⟨RL, "onRack", "(LBuskPitches;II[J)I"⟩
abbrev cL_ranked : ByteArray := method_26_code
def yL_ranked : MethodName := ⟨RL, "ranked", "(LBuskPitches;I[J)I"⟩
abbrev cL_pass : ByteArray := method_27_code
def yL_pass : MethodName := ⟨RL, "pass", "(LBuskPitches;I[J)I"⟩
abbrev cL_hatIn : ByteArray := method_28_code
def yL_hatIn : MethodName := ⟨RL, "hatIn", "(LBuskPitches;II[J)I"⟩
abbrev cL_playingIn : ByteArray := method_29_code
def yL_playingIn : MethodName := ⟨RL, "playingIn", "(LBuskPitches;I[J)I"⟩
abbrev cL_sign : ByteArray := method_30_code
def yL_sign : MethodName := ⟨RL, "sign", "(LBuskPitches;I[J)I"⟩
abbrev cL_append : ByteArray := method_31_code
def yL_append : MethodName := ⟨RL, "append", "(LBuskPitches;C[J)I"⟩
abbrev cL_read : ByteArray := method_32_code
def yL_read : MethodName := ⟨RL, "read", "(LBuskPitches;[J)I"⟩
abbrev cL_refusal : ByteArray := method_33_code
def yL_refusal : MethodName := ⟨RL, "refusal", "(LBuskPitches;Z[J)I"⟩
abbrev cL_account : ByteArray := method_34_code
def yL_account : MethodName := ⟨RL, "account", "(LBuskPitches;I[J)I"⟩
abbrev cL_meanBits : ByteArray := method_35_code
def yL_meanBits : MethodName := ⟨RL, "meanBits", "(LBuskPitches;[J)I"⟩
abbrev cL_undo : ByteArray := method_36_code
def yL_undo : MethodName := ⟨RL, "undo", "(LBuskPitches;[J)I"⟩
abbrev cL_restore : ByteArray := method_37_code
def yL_restore : MethodName := ⟨RL, "restore", "(LBuskPitches;[J)I"⟩
abbrev cL_law : ByteArray := code
def yL_law : MethodName := ⟨RL, "law", "([I)Z"⟩
abbrev vwCl : List vw_C := [(RJ0, TJ0, 2), (RJx00060, TJx00060, 6), (RX1, TX1, 3), (RX2, TX2, 2), (RX3, TX3, 18), (RX4, TX4, 9), (RX5, TX5, 21)]

/-! the words of all methods: one list -/
def lw_all : List Cond := lw_tbl.filter goodWord
theorem lw_all_in {w : Cond} (h : w ∈ lw_all) : w ∈ lw_tbl ∧ ((w.onTables && w.keeps) = true ∨ ∃ ty, w = .arrayClass ty) := ⟨(List.mem_filter.mp h).1, good_of_word (List.mem_filter.mp h).2⟩
theorem lw_all_good : GoodIn lw_tbl lw_all := fun _ h => lw_all_in h
def chk : List Cond → List Nat → Bool
  | [], _ => true
  | w :: ws, i :: is => decide (lw_tbl[i]? = some w) && (goodWord w && chk ws is)
  | _ :: _, [] => false
theorem lw_ats : ∀ {ws : List Cond} (is : List Nat), chk ws is = true → ∀ w ∈ ws, w ∈ lw_all
  | [], _, _ => fun _ h => absurd h List.not_mem_nil
  | w :: ws, i :: is, h => by
    have h1 : (decide (lw_tbl[i]? = some w) && (goodWord w && chk ws is)) = true := h
    simp only [Bool.and_eq_true, decide_eq_true_eq] at h1
    exact List.forall_mem_cons.mpr ⟨List.mem_filter.mpr ⟨List.mem_of_getElem? h1.1, h1.2.1⟩, lw_ats is h1.2.2⟩
  | _ :: _, [], h => absurd h (by intro q; cases q)
theorem lw_at {w : Cond} (i : Nat) (h : chk [w] [i] = true) : w ∈ lw_all := lw_ats [i] h w List.mem_cons_self
theorem lw_gi (l : List Cond) (h : ∀ w ∈ l, w ∈ lw_all) : GoodIn lw_all (l ++ lw_all) := by
  intro w hw
  have hm : w ∈ lw_all := by
    rcases List.mem_append.mp hw with q | q
    · exact h w q
    · exact q
  exact ⟨hm, (lw_all_in hm).2⟩
theorem lw_git (l : List Cond) (h : ∀ w ∈ l, w ∈ lw_all) : GoodIn lw_tbl (l ++ lw_all) := fun w hw => ⟨(lw_all_in (lw_gi l h w hw).1).1, (lw_gi l h w hw).2⟩
def dchk (b : ByteArray) (l : List (Nat × Instr × Nat)) : Bool := l.all (fun r => decide (decode b r.1 = .ok (r.2.1, r.2.2)))
theorem dg {b : ByteArray} {l : List (Nat × Instr × Nat)} (h : dchk b l = true) (k : Nat) {pc : Nat} {i : Instr} {n : Nat} (hk : l[k]? = some (pc, i, n)) : decode b pc = .ok (i, n) := of_decide_eq_true (List.all_eq_true.mp h (pc, i, n) (List.mem_of_getElem? hk))

theorem inX1 : ∀ w ∈ wsX10, w ∈ lw_all := lw_ats [193, 195, 197] (by decide +kernel)
theorem inX2 : ∀ w ∈ wsX20, w ∈ lw_all := lw_ats [209, 211] (by decide +kernel)
theorem inX3 : ∀ w ∈ wsX30, w ∈ lw_all := lw_ats [141, 143, 145, 147, 149, 151, 153, 155, 157, 159, 161, 163, 165, 167, 169, 171, 173, 175] (by decide +kernel)
theorem inX4 : ∀ w ∈ wsX40, w ∈ lw_all := lw_ats [224, 226, 228, 230, 232, 234, 236, 238, 240] (by decide +kernel)
theorem inX5 : ∀ w ∈ wsX50, w ∈ lw_all := lw_ats [1040, 1042, 1044, 1046, 1048, 1050, 1052, 1054, 1056, 1058, 1060, 1062, 1064, 1066, 1068, 1070, 1072, 1074, 1076, 1078, 1080] (by decide +kernel)
end
section
/-! decode lists, by program -/
def dlX0_ofFloat : List (Nat × Instr × Nat) := [(0, .fload_n 0, 1), (1, .fconst 0, 1), (2, .fcmp .l, 1), (3, .ifCond .ne 5, 3), (6, .iconst 0, 1), (7, .ireturn, 1), (8, .bipush 127, 2), (10, .istore_n 1, 1), (11, .fload_n 0, 1), (12, .fstore_n 2, 1), (13, .fload_n 2, 1), (14, .fconst 2, 1), (15, .fcmp .l, 1), (16, .ifCond .lt 20, 3), (19, .iload_n 1, 1), (20, .sipush 254, 3), (23, .if_icmp .ge 13, 3), (26, .fload_n 2, 1), (27, .fconst 2, 1), (28, .fdiv, 1), (29, .fstore_n 2, 1), (30, .iinc 1 1, 3), (33, .goto (-20), 3), (36, .fload_n 2, 1), (37, .fconst 1, 1), (38, .fcmp .g, 1), (39, .ifCond .ge 18, 3), (42, .iload_n 1, 1), (43, .iconst 1, 1), (44, .if_icmp .le 13, 3), (47, .fload_n 2, 1), (48, .fconst 2, 1), (49, .fmul, 1), (50, .fstore_n 2, 1), (51, .iinc 1 (-1), 3), (54, .goto (-18), 3), (57, .iload_n 1, 1), (58, .iconst 1, 1), (59, .isub, 1), (60, .bipush 23, 2), (62, .ishl, 1), (63, .fload_n 2, 1), (64, .ldc 7, 2), (66, .fmul, 1), (67, .f2i, 1), (68, .iadd, 1), (69, .ireturn, 1)]
set_option maxRecDepth 100000 in
theorem ddX0_ofFloat : dchk cX0_ofFloat dlX0_ofFloat = true := by decide +kernel
def dlX0_ofDouble : List (Nat × Instr × Nat) := [(0, .dload_n 0, 1), (1, .dconst 0, 1), (2, .dcmp .l, 1), (3, .ifCond .ne 5, 3), (6, .lconst 0, 1), (7, .lreturn, 1), (8, .ldc2_w 8, 3), (11, .lstore_n 2, 1), (12, .dload_n 0, 1), (13, .dstore 4, 2), (15, .dload 4, 2), (17, .ldc2_w 10, 3), (20, .dcmp .l, 1), (21, .ifCond .lt 26, 3), (24, .lload_n 2, 1), (25, .ldc2_w 12, 3), (28, .lcmp, 1), (29, .ifCond .ge 18, 3), (32, .dload 4, 2), (34, .ldc2_w 10, 3), (37, .ddiv, 1), (38, .dstore 4, 2), (40, .lload_n 2, 1), (41, .lconst 1, 1), (42, .ladd, 1), (43, .lstore_n 2, 1), (44, .goto (-29), 3), (47, .dload 4, 2), (49, .dconst 1, 1), (50, .dcmp .g, 1), (51, .ifCond .ge 24, 3), (54, .lload_n 2, 1), (55, .lconst 1, 1), (56, .lcmp, 1), (57, .ifCond .le 18, 3), (60, .dload 4, 2), (62, .ldc2_w 10, 3), (65, .dmul, 1), (66, .dstore 4, 2), (68, .lload_n 2, 1), (69, .lconst 1, 1), (70, .lsub, 1), (71, .lstore_n 2, 1), (72, .goto (-25), 3), (75, .lload_n 2, 1), (76, .lconst 1, 1), (77, .lsub, 1), (78, .bipush 52, 2), (80, .lshl, 1), (81, .dload 4, 2), (83, .ldc2_w 14, 3), (86, .dmul, 1), (87, .d2l, 1), (88, .ladd, 1), (89, .lreturn, 1)]
set_option maxRecDepth 100000 in
theorem ddX0_ofDouble : dchk cX0_ofDouble dlX0_ofDouble = true := by decide +kernel
def dlX1_init : List (Nat × Instr × Nat) := [(0, .aload_n 0, 1), (1, .invokespecial 3, 3), (4, .aload_n 0, 1), (5, .bipush 8, 2), (7, .anewarray 9, 3), (10, .putfield 11, 3), (13, .aload_n 0, 1), (14, .iconst 0, 1), (15, .putfield 17, 3), (18, .aload_n 0, 1), (19, .iconst 0, 1), (20, .putfield 21, 3), (23, .iconst 0, 1), (24, .istore_n 1, 1), (25, .iload_n 1, 1), (26, .bipush 8, 2), (28, .if_icmp .ge 22, 3), (31, .aload_n 0, 1), (32, .getfield 11, 3), (35, .iload_n 1, 1), (36, .new 9, 3), (39, .dup, 1), (40, .invokespecial 24, 3), (43, .aastore, 1), (44, .iinc 1 1, 3), (47, .goto (-22), 3), (50, .return_, 1)]
set_option maxRecDepth 100000 in
theorem ddX1_init : dchk cX1_init dlX1_init = true := by decide +kernel
def dlX1_keep : List (Nat × Instr × Nat) := [(0, .aload_n 0, 1), (1, .getfield 11, 3), (4, .aload_n 0, 1), (5, .getfield 17, 3), (8, .aaload, 1), (9, .astore_n 2, 1), (10, .aload_n 2, 1), (11, .ifnull 8, 3), (14, .aload_n 2, 1), (15, .aload_n 1, 1), (16, .invokevirtual 25, 3), (19, .aload_n 0, 1), (20, .aload_n 0, 1), (21, .getfield 17, 3), (24, .iconst 1, 1), (25, .iadd, 1), (26, .bipush 8, 2), (28, .irem, 1), (29, .putfield 17, 3), (32, .aload_n 0, 1), (33, .aload_n 0, 1), (34, .getfield 21, 3), (37, .bipush 8, 2), (39, .if_icmp .ge 12, 3), (42, .aload_n 0, 1), (43, .getfield 21, 3), (46, .iconst 1, 1), (47, .iadd, 1), (48, .goto 5, 3), (51, .bipush 8, 2), (53, .putfield 21, 3), (56, .return_, 1)]
set_option maxRecDepth 100000 in
theorem ddX1_keep : dchk cX1_keep dlX1_keep = true := by decide +kernel
def dlX1_giveBack : List (Nat × Instr × Nat) := [(0, .aload_n 0, 1), (1, .aload_n 0, 1), (2, .getfield 17, 3), (5, .bipush 8, 2), (7, .iadd, 1), (8, .iconst 1, 1), (9, .isub, 1), (10, .bipush 8, 2), (12, .irem, 1), (13, .putfield 17, 3), (16, .aload_n 0, 1), (17, .getfield 11, 3), (20, .aload_n 0, 1), (21, .getfield 17, 3), (24, .aaload, 1), (25, .astore_n 2, 1), (26, .aload_n 2, 1), (27, .ifnull 8, 3), (30, .aload_n 1, 1), (31, .aload_n 2, 1), (32, .invokevirtual 25, 3), (35, .aload_n 0, 1), (36, .dup, 1), (37, .getfield 21, 3), (40, .iconst 1, 1), (41, .isub, 1), (42, .putfield 21, 3), (45, .return_, 1)]
set_option maxRecDepth 100000 in
theorem ddX1_giveBack : dchk cX1_giveBack dlX1_giveBack = true := by decide +kernel
def dlX2_init : List (Nat × Instr × Nat) := [(0, .aload_n 0, 1), (1, .invokespecial 3, 3), (4, .aload_n 0, 1), (5, .bipush 60, 2), (7, .newarray .char, 2), (9, .putfield 9, 3), (12, .aload_n 0, 1), (13, .iconst 0, 1), (14, .putfield 15, 3), (17, .return_, 1)]
set_option maxRecDepth 100000 in
theorem ddX2_init : dchk cX2_init dlX2_init = true := by decide +kernel
def dlX2_put : List (Nat × Instr × Nat) := [(0, .aload_n 0, 1), (1, .getfield 15, 3), (4, .ifCond .lt 32, 3), (7, .aload_n 0, 1), (8, .getfield 15, 3), (11, .bipush 60, 2), (13, .if_icmp .ge 23, 3), (16, .aload_n 0, 1), (17, .getfield 9, 3), (20, .aload_n 0, 1), (21, .getfield 15, 3), (24, .iload_n 1, 1), (25, .castore, 1), (26, .aload_n 0, 1), (27, .dup, 1), (28, .getfield 15, 3), (31, .iconst 1, 1), (32, .iadd, 1), (33, .putfield 15, 3), (36, .return_, 1)]
set_option maxRecDepth 100000 in
theorem ddX2_put : dchk cX2_put dlX2_put = true := by decide +kernel
def dlX2_signAt : List (Nat × Instr × Nat) := [(0, .iload_n 1, 1), (1, .ifCond .lt 26, 3), (4, .iload_n 1, 1), (5, .aload_n 0, 1), (6, .getfield 15, 3), (9, .if_icmp .ge 18, 3), (12, .iload_n 1, 1), (13, .bipush 60, 2), (15, .if_icmp .ge 12, 3), (18, .aload_n 0, 1), (19, .getfield 9, 3), (22, .iload_n 1, 1), (23, .caload, 1), (24, .goto 4, 3), (27, .iconst 0, 1), (28, .ireturn, 1)]
set_option maxRecDepth 100000 in
theorem ddX2_signAt : dchk cX2_signAt dlX2_signAt = true := by decide +kernel
def dlX2_numberIn : List (Nat × Instr × Nat) := [(0, .iconst 0, 1), (1, .istore_n 3, 1), (2, .iload_n 1, 1), (3, .istore 4, 2), (5, .iload 4, 2), (7, .iload_n 2, 1), (8, .if_icmp .ge 24, 3), (11, .bipush 10, 2), (13, .iload_n 3, 1), (14, .imul, 1), (15, .aload_n 0, 1), (16, .iload 4, 2), (18, .invokevirtual 19, 3), (21, .bipush 48, 2), (23, .isub, 1), (24, .iadd, 1), (25, .istore_n 3, 1), (26, .iinc 4 1, 3), (29, .goto (-24), 3), (32, .iload_n 3, 1), (33, .ireturn, 1)]
set_option maxRecDepth 100000 in
theorem ddX2_numberIn : dchk cX2_numberIn dlX2_numberIn = true := by decide +kernel
def dlX2_findError : List (Nat × Instr × Nat) := [(0, .iconst 0, 1), (1, .istore_n 1, 1), (2, .iconst 0, 1), (3, .istore_n 2, 1), (4, .iload_n 2, 1), (5, .aload_n 0, 1), (6, .getfield 15, 3), (9, .if_icmp .ge 27, 3), (12, .iload_n 1, 1), (13, .aload_n 0, 1), (14, .iload_n 2, 1), (15, .invokevirtual 19, 3), (18, .invokestatic 23, 3), (21, .istore_n 1, 1), (22, .iload_n 1, 1), (23, .bipush 7, 2), (25, .if_icmp .ne 5, 3), (28, .iload_n 2, 1), (29, .ireturn, 1), (30, .iinc 2 1, 3), (33, .goto (-29), 3), (36, .iload_n 1, 1), (37, .iconst 5, 1), (38, .if_icmp .eq 9, 3), (41, .iload_n 1, 1), (42, .bipush 6, 2), (44, .if_icmp .ne 7, 3), (47, .iconst (-1), 1), (48, .goto 7, 3), (51, .aload_n 0, 1), (52, .getfield 15, 3), (55, .ireturn, 1)]
set_option maxRecDepth 100000 in
theorem ddX2_findError : dchk cX2_findError dlX2_findError = true := by decide +kernel
def dlX2_stageAfter : List (Nat × Instr × Nat) := [(0, .iload_n 1, 1), (1, .bipush 48, 2), (3, .if_icmp .lt 13, 3), (6, .iload_n 1, 1), (7, .bipush 57, 2), (9, .if_icmp .gt 7, 3), (12, .iconst 1, 1), (13, .goto 4, 3), (16, .iconst 0, 1), (17, .istore_n 2, 1), (18, .iload_n 0, 1), (19, .tableswitch 103 0 5 #[37, 42, 54, 65, 78, 89], 37), (56, .iload_n 1, 1), (57, .invokestatic 27, 3), (60, .ireturn, 1), (61, .iload_n 2, 1), (62, .ifCond .eq 8, 3), (65, .bipush 6, 2), (67, .goto 5, 3), (70, .bipush 7, 2), (72, .ireturn, 1), (73, .iload_n 2, 1), (74, .ifCond .eq 7, 3), (77, .iconst 3, 1), (78, .goto 5, 3), (81, .bipush 7, 2), (83, .ireturn, 1), (84, .iload_n 1, 1), (85, .bipush 35, 2), (87, .if_icmp .ne 7, 3), (90, .iconst 4, 1), (91, .goto 5, 3), (94, .bipush 7, 2), (96, .ireturn, 1), (97, .iload_n 2, 1), (98, .ifCond .eq 7, 3), (101, .iconst 5, 1), (102, .goto 5, 3), (105, .bipush 7, 2), (107, .ireturn, 1), (108, .iload_n 2, 1), (109, .ifCond .eq 8, 3), (112, .bipush 6, 2), (114, .goto 7, 3), (117, .iload_n 1, 1), (118, .invokestatic 31, 3), (121, .ireturn, 1), (122, .iload_n 1, 1), (123, .invokestatic 31, 3), (126, .ireturn, 1)]
set_option maxRecDepth 100000 in
theorem ddX2_stageAfter : dchk cX2_stageAfter dlX2_stageAfter = true := by decide +kernel
def dlX2_stageAfterLetter : List (Nat × Instr × Nat) := [(0, .iload_n 0, 1), (1, .tableswitch 117 97 120 #[111, 117, 115, 113, 117, 117, 117, 117, 117, 117, 117, 117, 117, 117, 117, 115, 117, 117, 111, 117, 117, 117, 111, 111], 111), (112, .iconst 1, 1), (113, .ireturn, 1), (114, .iconst 2, 1), (115, .ireturn, 1), (116, .iconst 4, 1), (117, .ireturn, 1), (118, .bipush 7, 2), (120, .ireturn, 1)]
set_option maxRecDepth 100000 in
theorem ddX2_stageAfterLetter : dchk cX2_stageAfterLetter dlX2_stageAfterLetter = true := by decide +kernel
def dlX2_stageAfterEnd : List (Nat × Instr × Nat) := [(0, .iload_n 0, 1), (1, .bipush 59, 2), (3, .if_icmp .ne 7, 3), (6, .iconst 0, 1), (7, .goto 5, 3), (10, .bipush 7, 2), (12, .ireturn, 1)]
set_option maxRecDepth 100000 in
theorem ddX2_stageAfterEnd : dchk cX2_stageAfterEnd dlX2_stageAfterEnd = true := by decide +kernel
def dlX3_init : List (Nat × Instr × Nat) := [(0, .aload_n 0, 1), (1, .invokespecial 3, 3), (4, .aload_n 0, 1), (5, .iconst 0, 1), (6, .putfield 9, 3), (9, .aload_n 0, 1), (10, .bipush 10, 2), (12, .putfield 15, 3), (15, .aload_n 0, 1), (16, .iconst 0, 1), (17, .putfield 18, 3), (20, .aload_n 0, 1), (21, .iconst 0, 1), (22, .putfield 21, 3), (25, .aload_n 0, 1), (26, .iconst 0, 1), (27, .putfield 24, 3), (30, .aload_n 0, 1), (31, .bipush 8, 2), (33, .newarray .float, 2), (35, .putfield 27, 3), (38, .aload_n 0, 1), (39, .bipush 8, 2), (41, .newarray .int, 2), (43, .putfield 31, 3), (46, .aload_n 0, 1), (47, .bipush 8, 2), (49, .newarray .int, 2), (51, .putfield 35, 3), (54, .aload_n 0, 1), (55, .bipush 8, 2), (57, .newarray .int, 2), (59, .putfield 38, 3), (62, .aload_n 0, 1), (63, .bipush 8, 2), (65, .newarray .int, 2), (67, .putfield 41, 3), (70, .aload_n 0, 1), (71, .bipush 8, 2), (73, .newarray .int, 2), (75, .putfield 44, 3), (78, .aload_n 0, 1), (79, .bipush 8, 2), (81, .newarray .int, 2), (83, .putfield 47, 3), (86, .aload_n 0, 1), (87, .bipush 8, 2), (89, .newarray .int, 2), (91, .putfield 50, 3), (94, .aload_n 0, 1), (95, .bipush 8, 2), (97, .newarray .int, 2), (99, .putfield 53, 3), (102, .aload_n 0, 1), (103, .bipush 8, 2), (105, .newarray .int, 2), (107, .putfield 56, 3), (110, .aload_n 0, 1), (111, .bipush 8, 2), (113, .newarray .float, 2), (115, .putfield 59, 3), (118, .aload_n 0, 1), (119, .bipush 8, 2), (121, .newarray .float, 2), (123, .putfield 62, 3), (126, .aload_n 0, 1), (127, .bipush 10, 2), (129, .newarray .float, 2), (131, .putfield 65, 3), (134, .aload_n 0, 1), (135, .getfield 27, 3), (138, .ldc 68, 2), (140, .invokestatic 69, 3), (143, .aload_n 0, 1), (144, .getfield 44, 3), (147, .iconst (-1), 1), (148, .invokestatic 75, 3), (151, .aload_n 0, 1), (152, .getfield 47, 3), (155, .iconst (-1), 1), (156, .invokestatic 75, 3), (159, .aload_n 0, 1), (160, .getfield 50, 3), (163, .iconst (-1), 1), (164, .invokestatic 75, 3), (167, .return_, 1)]
set_option maxRecDepth 100000 in
theorem ddX3_init : dchk cX3_init dlX3_init = true := by decide +kernel
def dlX3_copyFrom : List (Nat × Instr × Nat) := [(0, .aload_n 0, 1), (1, .aload_n 1, 1), (2, .getfield 9, 3), (5, .putfield 9, 3), (8, .aload_n 0, 1), (9, .aload_n 1, 1), (10, .getfield 15, 3), (13, .putfield 15, 3), (16, .aload_n 0, 1), (17, .aload_n 1, 1), (18, .getfield 18, 3), (21, .putfield 18, 3), (24, .aload_n 0, 1), (25, .aload_n 1, 1), (26, .getfield 21, 3), (29, .putfield 21, 3), (32, .aload_n 0, 1), (33, .aload_n 1, 1), (34, .getfield 24, 3), (37, .putfield 24, 3), (40, .aload_n 1, 1), (41, .getfield 27, 3), (44, .iconst 0, 1), (45, .aload_n 0, 1), (46, .getfield 27, 3), (49, .iconst 0, 1), (50, .bipush 8, 2), (52, .invokestatic 78, 3), (55, .aload_n 1, 1), (56, .getfield 31, 3), (59, .iconst 0, 1), (60, .aload_n 0, 1), (61, .getfield 31, 3), (64, .iconst 0, 1), (65, .bipush 8, 2), (67, .invokestatic 78, 3), (70, .aload_n 1, 1), (71, .getfield 35, 3), (74, .iconst 0, 1), (75, .aload_n 0, 1), (76, .getfield 35, 3), (79, .iconst 0, 1), (80, .bipush 8, 2), (82, .invokestatic 78, 3), (85, .aload_n 1, 1), (86, .getfield 38, 3), (89, .iconst 0, 1), (90, .aload_n 0, 1), (91, .getfield 38, 3), (94, .iconst 0, 1), (95, .bipush 8, 2), (97, .invokestatic 78, 3), (100, .aload_n 1, 1), (101, .getfield 41, 3), (104, .iconst 0, 1), (105, .aload_n 0, 1), (106, .getfield 41, 3), (109, .iconst 0, 1), (110, .bipush 8, 2), (112, .invokestatic 78, 3), (115, .aload_n 1, 1), (116, .getfield 44, 3), (119, .iconst 0, 1), (120, .aload_n 0, 1), (121, .getfield 44, 3), (124, .iconst 0, 1), (125, .bipush 8, 2), (127, .invokestatic 78, 3), (130, .aload_n 1, 1), (131, .getfield 47, 3), (134, .iconst 0, 1), (135, .aload_n 0, 1), (136, .getfield 47, 3), (139, .iconst 0, 1), (140, .bipush 8, 2), (142, .invokestatic 78, 3), (145, .aload_n 1, 1), (146, .getfield 50, 3), (149, .iconst 0, 1), (150, .aload_n 0, 1), (151, .getfield 50, 3), (154, .iconst 0, 1), (155, .bipush 8, 2), (157, .invokestatic 78, 3), (160, .aload_n 1, 1), (161, .getfield 53, 3), (164, .iconst 0, 1), (165, .aload_n 0, 1), (166, .getfield 53, 3), (169, .iconst 0, 1), (170, .bipush 8, 2), (172, .invokestatic 78, 3), (175, .aload_n 1, 1), (176, .getfield 56, 3), (179, .iconst 0, 1), (180, .aload_n 0, 1), (181, .getfield 56, 3), (184, .iconst 0, 1), (185, .bipush 8, 2), (187, .invokestatic 78, 3), (190, .aload_n 1, 1), (191, .getfield 59, 3), (194, .iconst 0, 1), (195, .aload_n 0, 1), (196, .getfield 59, 3), (199, .iconst 0, 1), (200, .bipush 8, 2), (202, .invokestatic 78, 3), (205, .aload_n 1, 1), (206, .getfield 62, 3), (209, .iconst 0, 1), (210, .aload_n 0, 1), (211, .getfield 62, 3), (214, .iconst 0, 1), (215, .bipush 8, 2), (217, .invokestatic 78, 3), (220, .return_, 1)]
set_option maxRecDepth 100000 in
theorem ddX3_copyFrom : dchk cX3_copyFrom dlX3_copyFrom = true := by decide +kernel
def dlX3_hasBusker : List (Nat × Instr × Nat) := [(0, .iload_n 1, 1), (1, .ifCond .lt 21, 3), (4, .iload_n 1, 1), (5, .aload_n 0, 1), (6, .getfield 18, 3), (9, .if_icmp .ge 13, 3), (12, .iload_n 1, 1), (13, .bipush 8, 2), (15, .if_icmp .ge 7, 3), (18, .iconst 1, 1), (19, .goto 4, 3), (22, .iconst 0, 1), (23, .ireturn, 1)]
set_option maxRecDepth 100000 in
theorem ddX3_hasBusker : dchk cX3_hasBusker dlX3_hasBusker = true := by decide +kernel
def dlX3_addBusker : List (Nat × Instr × Nat) := [(0, .aload_n 0, 1), (1, .getfield 18, 3), (4, .ifCond .lt 12, 3), (7, .aload_n 0, 1), (8, .getfield 18, 3), (11, .bipush 8, 2), (13, .if_icmp .lt 5, 3), (16, .iconst (-1), 1), (17, .ireturn, 1), (18, .aload_n 0, 1), (19, .getfield 38, 3), (22, .aload_n 0, 1), (23, .getfield 18, 3), (26, .iload_n 1, 1), (27, .iastore, 1), (28, .aload_n 0, 1), (29, .getfield 41, 3), (32, .aload_n 0, 1), (33, .getfield 18, 3), (36, .iload_n 2, 1), (37, .iastore, 1), (38, .aload_n 0, 1), (39, .dup, 1), (40, .getfield 18, 3), (43, .iconst 1, 1), (44, .iadd, 1), (45, .putfield 18, 3), (48, .aload_n 0, 1), (49, .getfield 18, 3), (52, .iconst 1, 1), (53, .isub, 1), (54, .ireturn, 1)]
set_option maxRecDepth 100000 in
theorem ddX3_addBusker : dchk cX3_addBusker dlX3_addBusker = true := by decide +kernel
def dlX3_playerOn : List (Nat × Instr × Nat) := [(0, .iconst 0, 1), (1, .istore_n 2, 1), (2, .iload_n 2, 1), (3, .bipush 8, 2), (5, .if_icmp .ge 28, 3), (8, .iload_n 1, 1), (9, .invokestatic 84, 3), (12, .ifCond .eq 21, 3), (15, .aload_n 0, 1), (16, .getfield 44, 3), (19, .iload_n 2, 1), (20, .iaload, 1), (21, .iload_n 1, 1), (22, .if_icmp .ne 5, 3), (25, .iload_n 2, 1), (26, .ireturn, 1), (27, .iinc 2 1, 3), (30, .goto (-28), 3), (33, .iconst (-1), 1), (34, .ireturn, 1)]
set_option maxRecDepth 100000 in
theorem ddX3_playerOn : dchk cX3_playerOn dlX3_playerOn = true := by decide +kernel
def dlX3_waiterAt : List (Nat × Instr × Nat) := [(0, .iconst 0, 1), (1, .istore_n 2, 1), (2, .iload_n 2, 1), (3, .bipush 8, 2), (5, .if_icmp .ge 25, 3), (8, .iload_n 1, 1), (9, .ifCond .lt 21, 3), (12, .aload_n 0, 1), (13, .getfield 47, 3), (16, .iload_n 2, 1), (17, .iaload, 1), (18, .iload_n 1, 1), (19, .if_icmp .ne 5, 3), (22, .iload_n 2, 1), (23, .ireturn, 1), (24, .iinc 2 1, 3), (27, .goto (-25), 3), (30, .iconst (-1), 1), (31, .ireturn, 1)]
set_option maxRecDepth 100000 in
theorem ddX3_waiterAt : dchk cX3_waiterAt dlX3_waiterAt = true := by decide +kernel
def dlX3_caseAt : List (Nat × Instr × Nat) := [(0, .iconst 0, 1), (1, .istore_n 3, 1), (2, .iload_n 3, 1), (3, .bipush 8, 2), (5, .if_icmp .ge 35, 3), (8, .iload_n 2, 1), (9, .ifCond .lt 31, 3), (12, .aload_n 0, 1), (13, .getfield 50, 3), (16, .iload_n 3, 1), (17, .iaload, 1), (18, .iload_n 2, 1), (19, .if_icmp .ne 15, 3), (22, .aload_n 0, 1), (23, .getfield 38, 3), (26, .iload_n 3, 1), (27, .iaload, 1), (28, .iload_n 1, 1), (29, .if_icmp .ne 5, 3), (32, .iload_n 3, 1), (33, .ireturn, 1), (34, .iinc 3 1, 3), (37, .goto (-35), 3), (40, .iconst (-1), 1), (41, .ireturn, 1)]
set_option maxRecDepth 100000 in
theorem ddX3_caseAt : dchk cX3_caseAt dlX3_caseAt = true := by decide +kernel
def dlX3_countWaiting : List (Nat × Instr × Nat) := [(0, .iconst 0, 1), (1, .istore_n 1, 1), (2, .aload_n 0, 1), (3, .getfield 47, 3), (6, .astore_n 2, 1), (7, .aload_n 2, 1), (8, .arraylength, 1), (9, .istore_n 3, 1), (10, .iconst 0, 1), (11, .istore 4, 2), (13, .iload 4, 2), (15, .iload_n 3, 1), (16, .if_icmp .ge 29, 3), (19, .aload_n 2, 1), (20, .iload 4, 2), (22, .iaload, 1), (23, .istore 5, 2), (25, .iload_n 1, 1), (26, .iload 5, 2), (28, .iconst (-1), 1), (29, .if_icmp .ne 7, 3), (32, .iconst 0, 1), (33, .goto 4, 3), (36, .iconst 1, 1), (37, .iadd, 1), (38, .istore_n 1, 1), (39, .iinc 4 1, 3), (42, .goto (-29), 3), (45, .iload_n 1, 1), (46, .ireturn, 1)]
set_option maxRecDepth 100000 in
theorem ddX3_countWaiting : dchk cX3_countWaiting dlX3_countWaiting = true := by decide +kernel
def dlX3_countPlaying : List (Nat × Instr × Nat) := [(0, .iconst 0, 1), (1, .istore_n 1, 1), (2, .aload_n 0, 1), (3, .getfield 44, 3), (6, .astore_n 2, 1), (7, .aload_n 2, 1), (8, .arraylength, 1), (9, .istore_n 3, 1), (10, .iconst 0, 1), (11, .istore 4, 2), (13, .iload 4, 2), (15, .iload_n 3, 1), (16, .if_icmp .ge 29, 3), (19, .aload_n 2, 1), (20, .iload 4, 2), (22, .iaload, 1), (23, .istore 5, 2), (25, .iload_n 1, 1), (26, .iload 5, 2), (28, .iconst (-1), 1), (29, .if_icmp .ne 7, 3), (32, .iconst 0, 1), (33, .goto 4, 3), (36, .iconst 1, 1), (37, .iadd, 1), (38, .istore_n 1, 1), (39, .iinc 4 1, 3), (42, .goto (-29), 3), (45, .iload_n 1, 1), (46, .ireturn, 1)]
set_option maxRecDepth 100000 in
theorem ddX3_countPlaying : dchk cX3_countPlaying dlX3_countPlaying = true := by decide +kernel
def dlX3_countCases : List (Nat × Instr × Nat) := [(0, .iconst 0, 1), (1, .istore_n 1, 1), (2, .aload_n 0, 1), (3, .getfield 50, 3), (6, .astore_n 2, 1), (7, .aload_n 2, 1), (8, .arraylength, 1), (9, .istore_n 3, 1), (10, .iconst 0, 1), (11, .istore 4, 2), (13, .iload 4, 2), (15, .iload_n 3, 1), (16, .if_icmp .ge 29, 3), (19, .aload_n 2, 1), (20, .iload 4, 2), (22, .iaload, 1), (23, .istore 5, 2), (25, .iload_n 1, 1), (26, .iload 5, 2), (28, .iconst (-1), 1), (29, .if_icmp .ne 7, 3), (32, .iconst 0, 1), (33, .goto 4, 3), (36, .iconst 1, 1), (37, .iadd, 1), (38, .istore_n 1, 1), (39, .iinc 4 1, 3), (42, .goto (-29), 3), (45, .iload_n 1, 1), (46, .ireturn, 1)]
set_option maxRecDepth 100000 in
theorem ddX3_countCases : dchk cX3_countCases dlX3_countCases = true := by decide +kernel
def dlX3_countAtHome : List (Nat × Instr × Nat) := [(0, .iconst 0, 1), (1, .istore_n 1, 1), (2, .iconst 0, 1), (3, .istore_n 2, 1), (4, .iload_n 2, 1), (5, .bipush 8, 2), (7, .if_icmp .ge 40, 3), (10, .aload_n 0, 1), (11, .iload_n 2, 1), (12, .invokevirtual 88, 3), (15, .ifCond .eq 26, 3), (18, .aload_n 0, 1), (19, .getfield 44, 3), (22, .iload_n 2, 1), (23, .iaload, 1), (24, .iconst (-1), 1), (25, .if_icmp .ne 16, 3), (28, .aload_n 0, 1), (29, .getfield 47, 3), (32, .iload_n 2, 1), (33, .iaload, 1), (34, .iconst (-1), 1), (35, .if_icmp .ne 6, 3), (38, .iinc 1 1, 3), (41, .iinc 2 1, 3), (44, .goto (-40), 3), (47, .iload_n 1, 1), (48, .ireturn, 1)]
set_option maxRecDepth 100000 in
theorem ddX3_countAtHome : dchk cX3_countAtHome dlX3_countAtHome = true := by decide +kernel
def dlX3_countSnapped : List (Nat × Instr × Nat) := [(0, .iconst 0, 1), (1, .istore_n 1, 1), (2, .iconst 0, 1), (3, .istore_n 2, 1), (4, .iload_n 2, 1), (5, .bipush 8, 2), (7, .if_icmp .ge 25, 3), (10, .iload_n 1, 1), (11, .aload_n 0, 1), (12, .iload_n 2, 1), (13, .invokevirtual 91, 3), (16, .ifCond .eq 7, 3), (19, .iconst 1, 1), (20, .goto 4, 3), (23, .iconst 0, 1), (24, .iadd, 1), (25, .istore_n 1, 1), (26, .iinc 2 1, 3), (29, .goto (-25), 3), (32, .iload_n 1, 1), (33, .ireturn, 1)]
set_option maxRecDepth 100000 in
theorem ddX3_countSnapped : dchk cX3_countSnapped dlX3_countSnapped = true := by decide +kernel
def dlX3_countAhead : List (Nat × Instr × Nat) := [(0, .iconst 0, 1), (1, .istore_n 2, 1), (2, .iconst 0, 1), (3, .istore_n 3, 1), (4, .iload_n 3, 1), (5, .bipush 8, 2), (7, .if_icmp .ge 81, 3), (10, .aload_n 0, 1), (11, .getfield 59, 3), (14, .iload_n 3, 1), (15, .faload, 1), (16, .aload_n 0, 1), (17, .getfield 59, 3), (20, .iload_n 1, 1), (21, .faload, 1), (22, .fcmp .l, 1), (23, .ifCond .le 7, 3), (26, .iconst 1, 1), (27, .goto 4, 3), (30, .iconst 0, 1), (31, .istore 4, 2), (33, .aload_n 0, 1), (34, .getfield 59, 3), (37, .iload_n 3, 1), (38, .faload, 1), (39, .aload_n 0, 1), (40, .getfield 59, 3), (43, .iload_n 1, 1), (44, .faload, 1), (45, .fcmp .l, 1), (46, .ifCond .ne 7, 3), (49, .iconst 1, 1), (50, .goto 4, 3), (53, .iconst 0, 1), (54, .istore 5, 2), (56, .aload_n 0, 1), (57, .iload_n 3, 1), (58, .invokevirtual 88, 3), (61, .ifCond .eq 21, 3), (64, .iload 4, 2), (66, .ifCond .ne 13, 3), (69, .iload 5, 2), (71, .ifCond .eq 11, 3), (74, .iload_n 3, 1), (75, .iload_n 1, 1), (76, .if_icmp .ge 6, 3), (79, .iinc 2 1, 3), (82, .iinc 3 1, 3), (85, .goto (-81), 3), (88, .iload_n 2, 1), (89, .ireturn, 1)]
set_option maxRecDepth 100000 in
theorem ddX3_countAhead : dchk cX3_countAhead dlX3_countAhead = true := by decide +kernel
def dlX3_isSnapped : List (Nat × Instr × Nat) := [(0, .aload_n 0, 1), (1, .getfield 62, 3), (4, .iload_n 1, 1), (5, .faload, 1), (6, .fconst 1, 1), (7, .fcmp .l, 1), (8, .ifCond .lt 7, 3), (11, .iconst 1, 1), (12, .goto 4, 3), (15, .iconst 0, 1), (16, .ireturn, 1)]
set_option maxRecDepth 100000 in
theorem ddX3_isSnapped : dchk cX3_isSnapped dlX3_isSnapped = true := by decide +kernel
def dlX3_putInLine : List (Nat × Instr × Nat) := [(0, .aload_n 0, 1), (1, .getfield 47, 3), (4, .iload_n 1, 1), (5, .aload_n 0, 1), (6, .invokevirtual 94, 3), (9, .iastore, 1), (10, .aload_n 0, 1), (11, .invokevirtual 94, 3), (14, .ireturn, 1)]
set_option maxRecDepth 100000 in
theorem ddX3_putInLine : dchk cX3_putInLine dlX3_putInLine = true := by decide +kernel
def dlX3_drawFor : List (Nat × Instr × Nat) := [(0, .aload_n 0, 1), (1, .invokevirtual 94, 3), (4, .istore_n 3, 1), (5, .iload_n 3, 1), (6, .ifCond .gt 7, 3), (9, .iconst (-1), 1), (10, .goto 10, 3), (13, .aload_n 0, 1), (14, .iload_n 2, 1), (15, .iload_n 3, 1), (16, .irem, 1), (17, .invokevirtual 98, 3), (20, .istore 4, 2), (22, .iload 4, 2), (24, .iconst (-1), 1), (25, .if_icmp .ne 5, 3), (28, .iconst (-1), 1), (29, .ireturn, 1), (30, .aload_n 0, 1), (31, .getfield 47, 3), (34, .iload 4, 2), (36, .iaload, 1), (37, .istore 5, 2), (39, .iconst 0, 1), (40, .istore 6, 2), (42, .iload 6, 2), (44, .bipush 8, 2), (46, .if_icmp .ge 32, 3), (49, .aload_n 0, 1), (50, .getfield 47, 3), (53, .iload 6, 2), (55, .iaload, 1), (56, .iload 5, 2), (58, .if_icmp .le 14, 3), (61, .aload_n 0, 1), (62, .getfield 47, 3), (65, .iload 6, 2), (67, .dup2, 1), (68, .iaload, 1), (69, .iconst 1, 1), (70, .isub, 1), (71, .iastore, 1), (72, .iinc 6 1, 3), (75, .goto (-33), 3), (78, .aload_n 0, 1), (79, .getfield 47, 3), (82, .iload 4, 2), (84, .iconst (-1), 1), (85, .iastore, 1), (86, .aload_n 0, 1), (87, .getfield 44, 3), (90, .iload 4, 2), (92, .iload_n 1, 1), (93, .iastore, 1), (94, .aload_n 0, 1), (95, .dup, 1), (96, .getfield 24, 3), (99, .iconst 1, 1), (100, .iadd, 1), (101, .putfield 24, 3), (104, .iload 4, 2), (106, .ireturn, 1)]
set_option maxRecDepth 100000 in
theorem ddX3_drawFor : dchk cX3_drawFor dlX3_drawFor = true := by decide +kernel
def dlX3_sendHomeFrom : List (Nat × Instr × Nat) := [(0, .aload_n 0, 1), (1, .iload_n 1, 1), (2, .invokevirtual 102, 3), (5, .istore_n 2, 1), (6, .iload_n 2, 1), (7, .iconst (-1), 1), (8, .if_icmp .eq 10, 3), (11, .aload_n 0, 1), (12, .getfield 44, 3), (15, .iload_n 2, 1), (16, .iconst (-1), 1), (17, .iastore, 1), (18, .iload_n 2, 1), (19, .ireturn, 1)]
set_option maxRecDepth 100000 in
theorem ddX3_sendHomeFrom : dchk cX3_sendHomeFrom dlX3_sendHomeFrom = true := by decide +kernel
def dlX3_exchange : List (Nat × Instr × Nat) := [(0, .aload_n 0, 1), (1, .iload_n 1, 1), (2, .invokevirtual 102, 3), (5, .istore_n 3, 1), (6, .aload_n 0, 1), (7, .iload_n 2, 1), (8, .invokevirtual 102, 3), (11, .istore 4, 2), (13, .iload_n 3, 1), (14, .iconst (-1), 1), (15, .if_icmp .eq 24, 3), (18, .iload 4, 2), (20, .iconst (-1), 1), (21, .if_icmp .eq 18, 3), (24, .aload_n 0, 1), (25, .getfield 44, 3), (28, .iload_n 3, 1), (29, .iload_n 2, 1), (30, .iastore, 1), (31, .aload_n 0, 1), (32, .getfield 44, 3), (35, .iload 4, 2), (37, .iload_n 1, 1), (38, .iastore, 1), (39, .iload 4, 2), (41, .ireturn, 1)]
set_option maxRecDepth 100000 in
theorem ddX3_exchange : dchk cX3_exchange dlX3_exchange = true := by decide +kernel
def dlX3_buyStrings : List (Nat × Instr × Nat) := [(0, .aload_n 0, 1), (1, .getfield 59, 3), (4, .iload_n 1, 1), (5, .aload_n 0, 1), (6, .getfield 59, 3), (9, .iload_n 1, 1), (10, .faload, 1), (11, .fconst 2, 1), (12, .fsub, 1), (13, .fastore, 1), (14, .aload_n 0, 1), (15, .getfield 62, 3), (18, .iload_n 1, 1), (19, .fconst 0, 1), (20, .fastore, 1), (21, .aload_n 0, 1), (22, .getfield 56, 3), (25, .iload_n 1, 1), (26, .dup2, 1), (27, .iaload, 1), (28, .iconst 1, 1), (29, .iadd, 1), (30, .iastore, 1), (31, .return_, 1)]
set_option maxRecDepth 100000 in
theorem ddX3_buyStrings : dchk cX3_buyStrings dlX3_buyStrings = true := by decide +kernel
def dlX3_answerComplaints : List (Nat × Instr × Nat) := [(0, .aload_n 0, 1), (1, .getfield 31, 3), (4, .iload_n 1, 1), (5, .iaload, 1), (6, .istore_n 2, 1), (7, .aload_n 0, 1), (8, .dup, 1), (9, .getfield 21, 3), (12, .iload_n 2, 1), (13, .iadd, 1), (14, .putfield 21, 3), (17, .aload_n 0, 1), (18, .getfield 31, 3), (21, .iload_n 1, 1), (22, .iconst 0, 1), (23, .iastore, 1), (24, .iload_n 2, 1), (25, .ireturn, 1)]
set_option maxRecDepth 100000 in
theorem ddX3_answerComplaints : dchk cX3_answerComplaints dlX3_answerComplaints = true := by decide +kernel
def dlX3_freePlaceOn : List (Nat × Instr × Nat) := [(0, .iconst 0, 1), (1, .istore_n 2, 1), (2, .iload_n 2, 1), (3, .iconst 3, 1), (4, .if_icmp .ge 21, 3), (7, .aload_n 0, 1), (8, .iload_n 1, 1), (9, .iload_n 2, 1), (10, .invokevirtual 105, 3), (13, .iconst (-1), 1), (14, .if_icmp .ne 5, 3), (17, .iload_n 2, 1), (18, .ireturn, 1), (19, .iinc 2 1, 3), (22, .goto (-20), 3), (25, .iconst (-1), 1), (26, .ireturn, 1)]
set_option maxRecDepth 100000 in
theorem ddX3_freePlaceOn : dchk cX3_freePlaceOn dlX3_freePlaceOn = true := by decide +kernel
def dlX3_putCase : List (Nat × Instr × Nat) := [(0, .aload_n 0, 1), (1, .getfield 50, 3), (4, .iload_n 1, 1), (5, .aload_n 0, 1), (6, .aload_n 0, 1), (7, .getfield 38, 3), (10, .iload_n 1, 1), (11, .iaload, 1), (12, .invokevirtual 109, 3), (15, .iastore, 1), (16, .aload_n 0, 1), (17, .getfield 50, 3), (20, .iload_n 1, 1), (21, .iaload, 1), (22, .ireturn, 1)]
set_option maxRecDepth 100000 in
theorem ddX3_putCase : dchk cX3_putCase dlX3_putCase = true := by decide +kernel
def dlX3_noiseOfBusker : List (Nat × Instr × Nat) := [(0, .ldc 112, 2), (2, .ldc 113, 2), (4, .aload_n 0, 1), (5, .getfield 41, 3), (8, .iload_n 1, 1), (9, .iaload, 1), (10, .i2f, 1), (11, .fmul, 1), (12, .fadd, 1), (13, .fstore_n 2, 1), (14, .aload_n 0, 1), (15, .getfield 38, 3), (18, .iload_n 1, 1), (19, .iaload, 1), (20, .iconst 1, 1), (21, .if_icmp .ne 10, 3), (24, .fload_n 2, 1), (25, .ldc 114, 2), (27, .fadd, 1), (28, .goto 4, 3), (31, .fload_n 2, 1), (32, .freturn, 1)]
set_option maxRecDepth 100000 in
theorem ddX3_noiseOfBusker : dchk cX3_noiseOfBusker dlX3_noiseOfBusker = true := by decide +kernel
def dlX3_ownNoiseOn : List (Nat × Instr × Nat) := [(0, .aload_n 0, 1), (1, .iload_n 1, 1), (2, .invokevirtual 102, 3), (5, .istore_n 2, 1), (6, .iload_n 2, 1), (7, .iconst (-1), 1), (8, .if_icmp .ne 7, 3), (11, .fconst 0, 1), (12, .goto 8, 3), (15, .aload_n 0, 1), (16, .iload_n 2, 1), (17, .invokevirtual 115, 3), (20, .freturn, 1)]
set_option maxRecDepth 100000 in
theorem ddX3_ownNoiseOn : dchk cX3_ownNoiseOn dlX3_ownNoiseOn = true := by decide +kernel
def dlX3_noiseAround : List (Nat × Instr × Nat) := [(0, .fload_n 2, 1), (1, .ldc 119, 2), (3, .aload_n 0, 1), (4, .iload_n 1, 1), (5, .iconst 1, 1), (6, .isub, 1), (7, .invokevirtual 120, 3), (10, .fmul, 1), (11, .fadd, 1), (12, .ldc 119, 2), (14, .aload_n 0, 1), (15, .iload_n 1, 1), (16, .iconst 1, 1), (17, .iadd, 1), (18, .invokevirtual 120, 3), (21, .fmul, 1), (22, .fadd, 1), (23, .freturn, 1)]
set_option maxRecDepth 100000 in
theorem ddX3_noiseAround : dchk cX3_noiseAround dlX3_noiseAround = true := by decide +kernel
def dlX3_noiseOn : List (Nat × Instr × Nat) := [(0, .aload_n 0, 1), (1, .iload_n 1, 1), (2, .aload_n 0, 1), (3, .iload_n 1, 1), (4, .invokevirtual 120, 3), (7, .invokevirtual 123, 3), (10, .freturn, 1)]
set_option maxRecDepth 100000 in
theorem ddX3_noiseOn : dchk cX3_noiseOn dlX3_noiseOn = true := by decide +kernel
def dlX3_noiseOf : List (Nat × Instr × Nat) := [(0, .aload_n 0, 1), (1, .iload_n 1, 1), (2, .aload_n 0, 1), (3, .iload_n 2, 1), (4, .invokevirtual 115, 3), (7, .invokevirtual 123, 3), (10, .freturn, 1)]
set_option maxRecDepth 100000 in
theorem ddX3_noiseOf : dchk cX3_noiseOf dlX3_noiseOf = true := by decide +kernel
def dlX3_layRow : List (Nat × Instr × Nat) := [(0, .aload_n 0, 1), (1, .getfield 65, 3), (4, .fconst 0, 1), (5, .invokestatic 69, 3), (8, .iconst 0, 1), (9, .istore_n 1, 1), (10, .iload_n 1, 1), (11, .bipush 8, 2), (13, .if_icmp .ge 39, 3), (16, .aload_n 0, 1), (17, .getfield 44, 3), (20, .iload_n 1, 1), (21, .iaload, 1), (22, .invokestatic 84, 3), (25, .ifCond .eq 21, 3), (28, .aload_n 0, 1), (29, .getfield 65, 3), (32, .aload_n 0, 1), (33, .getfield 44, 3), (36, .iload_n 1, 1), (37, .iaload, 1), (38, .iconst 1, 1), (39, .iadd, 1), (40, .aload_n 0, 1), (41, .iload_n 1, 1), (42, .invokevirtual 115, 3), (45, .fastore, 1), (46, .iinc 1 1, 3), (49, .goto (-39), 3), (52, .return_, 1)]
set_option maxRecDepth 100000 in
theorem ddX3_layRow : dchk cX3_layRow dlX3_layRow = true := by decide +kernel
def dlX3_noiseByRow : List (Nat × Instr × Nat) := [(0, .aload_n 0, 1), (1, .getfield 65, 3), (4, .iload_n 1, 1), (5, .iconst 1, 1), (6, .iadd, 1), (7, .faload, 1), (8, .ldc 119, 2), (10, .aload_n 0, 1), (11, .getfield 65, 3), (14, .iload_n 1, 1), (15, .faload, 1), (16, .fmul, 1), (17, .fadd, 1), (18, .ldc 119, 2), (20, .aload_n 0, 1), (21, .getfield 65, 3), (24, .iload_n 1, 1), (25, .iconst 2, 1), (26, .iadd, 1), (27, .faload, 1), (28, .fmul, 1), (29, .fadd, 1), (30, .freturn, 1)]
set_option maxRecDepth 100000 in
theorem ddX3_noiseByRow : dchk cX3_noiseByRow dlX3_noiseByRow = true := by decide +kernel
def dlX3_quietestFor : List (Nat × Instr × Nat) := [(0, .iconst (-1), 1), (1, .istore_n 2, 1), (2, .fconst 0, 1), (3, .fstore_n 3, 1), (4, .iconst 0, 1), (5, .istore 4, 2), (7, .iload 4, 2), (9, .bipush 8, 2), (11, .if_icmp .ge 71, 3), (14, .aload_n 0, 1), (15, .iload 4, 2), (17, .iload_n 1, 1), (18, .invokevirtual 127, 3), (21, .fstore 5, 2), (23, .aload_n 0, 1), (24, .iload 4, 2), (26, .invokevirtual 102, 3), (29, .iconst (-1), 1), (30, .if_icmp .ne 20, 3), (33, .fload 5, 2), (35, .aload_n 0, 1), (36, .getfield 27, 3), (39, .iload 4, 2), (41, .faload, 1), (42, .fcmp .g, 1), (43, .ifCond .gt 7, 3), (46, .iconst 1, 1), (47, .goto 4, 3), (50, .iconst 0, 1), (51, .istore 6, 2), (53, .iload 6, 2), (55, .ifCond .eq 21, 3), (58, .iload_n 2, 1), (59, .iconst (-1), 1), (60, .if_icmp .eq 10, 3), (63, .fload 5, 2), (65, .fload_n 3, 1), (66, .fcmp .g, 1), (67, .ifCond .ge 9, 3), (70, .iload 4, 2), (72, .istore_n 2, 1), (73, .fload 5, 2), (75, .fstore_n 3, 1), (76, .iinc 4 1, 3), (79, .goto (-72), 3), (82, .iload_n 2, 1), (83, .ireturn, 1)]
set_option maxRecDepth 100000 in
theorem ddX3_quietestFor : dchk cX3_quietestFor dlX3_quietestFor = true := by decide +kernel
def dlX3_wearOfHour : List (Nat × Instr × Nat) := [(0, .ldc 131, 2), (2, .aload_n 0, 1), (3, .getfield 41, 3), (6, .iload_n 1, 1), (7, .iaload, 1), (8, .i2f, 1), (9, .fmul, 1), (10, .freturn, 1)]
set_option maxRecDepth 100000 in
theorem ddX3_wearOfHour : dchk cX3_wearOfHour dlX3_wearOfHour = true := by decide +kernel
def dlX3_hoursUntilSnapped : List (Nat × Instr × Nat) := [(0, .iconst 0, 1), (1, .istore_n 2, 1), (2, .aload_n 0, 1), (3, .getfield 62, 3), (6, .iload_n 1, 1), (7, .faload, 1), (8, .fstore_n 3, 1), (9, .fload_n 3, 1), (10, .fconst 1, 1), (11, .fcmp .g, 1), (12, .ifCond .ge 24, 3), (15, .iload_n 2, 1), (16, .sipush 1000, 3), (19, .if_icmp .ge 17, 3), (22, .fload_n 3, 1), (23, .aload_n 0, 1), (24, .iload_n 1, 1), (25, .invokevirtual 132, 3), (28, .fadd, 1), (29, .fstore_n 3, 1), (30, .iinc 2 1, 3), (33, .goto (-24), 3), (36, .iload_n 2, 1), (37, .ireturn, 1)]
set_option maxRecDepth 100000 in
theorem ddX3_hoursUntilSnapped : dchk cX3_hoursUntilSnapped dlX3_hoursUntilSnapped = true := by decide +kernel
def dlX3_passHours : List (Nat × Instr × Nat) := [(0, .iconst 0, 1), (1, .istore_n 2, 1), (2, .iconst 0, 1), (3, .istore_n 3, 1), (4, .iload_n 3, 1), (5, .iload_n 1, 1), (6, .if_icmp .ge 75, 3), (9, .aload_n 0, 1), (10, .invokevirtual 135, 3), (13, .iconst 0, 1), (14, .istore 4, 2), (16, .iload 4, 2), (18, .bipush 8, 2), (20, .if_icmp .ge 45, 3), (23, .aload_n 0, 1), (24, .iload 4, 2), (26, .invokevirtual 102, 3), (29, .istore 5, 2), (31, .iload 5, 2), (33, .iconst (-1), 1), (34, .if_icmp .eq 25, 3), (37, .aload_n 0, 1), (38, .iload 4, 2), (40, .iload 5, 2), (42, .invokevirtual 138, 3), (45, .ifCond .eq 14, 3), (48, .aload_n 0, 1), (49, .getfield 44, 3), (52, .iload 5, 2), (54, .iconst (-1), 1), (55, .iastore, 1), (56, .iinc 2 1, 3), (59, .iinc 4 1, 3), (62, .goto (-46), 3), (65, .aload_n 0, 1), (66, .dup, 1), (67, .getfield 9, 3), (70, .iconst 1, 1), (71, .iadd, 1), (72, .putfield 9, 3), (75, .iinc 3 1, 3), (78, .goto (-74), 3), (81, .iload_n 2, 1), (82, .ireturn, 1)]
set_option maxRecDepth 100000 in
theorem ddX3_passHours : dchk cX3_passHours dlX3_passHours = true := by decide +kernel
def dlX3_playHour : List (Nat × Instr × Nat) := [(0, .aload_n 0, 1), (1, .iload_n 1, 1), (2, .invokevirtual 142, 3), (5, .aload_n 0, 1), (6, .getfield 27, 3), (9, .iload_n 1, 1), (10, .faload, 1), (11, .fcmp .l, 1), (12, .ifCond .le 7, 3), (15, .iconst 1, 1), (16, .goto 4, 3), (19, .iconst 0, 1), (20, .istore_n 3, 1), (21, .iload_n 3, 1), (22, .ifCond .eq 18, 3), (25, .aload_n 0, 1), (26, .getfield 31, 3), (29, .iload_n 1, 1), (30, .iaload, 1), (31, .bipush 99, 2), (33, .if_icmp .ge 7, 3), (36, .iconst 1, 1), (37, .goto 4, 3), (40, .iconst 0, 1), (41, .istore 4, 2), (43, .iload 4, 2), (45, .ifCond .eq 23, 3), (48, .aload_n 0, 1), (49, .getfield 31, 3), (52, .iload_n 1, 1), (53, .dup2, 1), (54, .iaload, 1), (55, .iconst 1, 1), (56, .iadd, 1), (57, .iastore, 1), (58, .aload_n 0, 1), (59, .getfield 35, 3), (62, .iload_n 1, 1), (63, .dup2, 1), (64, .iaload, 1), (65, .iconst 1, 1), (66, .iadd, 1), (67, .iastore, 1), (68, .iload_n 3, 1), (69, .ifCond .ne 22, 3), (72, .aload_n 0, 1), (73, .getfield 59, 3), (76, .iload_n 2, 1), (77, .aload_n 0, 1), (78, .getfield 59, 3), (81, .iload_n 2, 1), (82, .faload, 1), (83, .aload_n 0, 1), (84, .iload_n 1, 1), (85, .iload_n 2, 1), (86, .invokevirtual 145, 3), (89, .fadd, 1), (90, .fastore, 1), (91, .aload_n 0, 1), (92, .getfield 38, 3), (95, .iload_n 2, 1), (96, .iaload, 1), (97, .ifCond .ne 21, 3), (100, .aload_n 0, 1), (101, .getfield 62, 3), (104, .iload_n 2, 1), (105, .aload_n 0, 1), (106, .getfield 62, 3), (109, .iload_n 2, 1), (110, .faload, 1), (111, .aload_n 0, 1), (112, .iload_n 2, 1), (113, .invokevirtual 132, 3), (116, .fadd, 1), (117, .fastore, 1), (118, .aload_n 0, 1), (119, .getfield 53, 3), (122, .iload_n 2, 1), (123, .dup2, 1), (124, .iaload, 1), (125, .iconst 1, 1), (126, .iadd, 1), (127, .iastore, 1), (128, .aload_n 0, 1), (129, .iload_n 2, 1), (130, .invokevirtual 91, 3), (133, .ifCond .ne 18, 3), (136, .iload 4, 2), (138, .ifCond .eq 17, 3), (141, .aload_n 0, 1), (142, .getfield 31, 3), (145, .iload_n 1, 1), (146, .iaload, 1), (147, .iconst 3, 1), (148, .if_icmp .lt 7, 3), (151, .iconst 1, 1), (152, .goto 4, 3), (155, .iconst 0, 1), (156, .ireturn, 1)]
set_option maxRecDepth 100000 in
theorem ddX3_playHour : dchk cX3_playHour dlX3_playHour = true := by decide +kernel
def dlX3_takings : List (Nat × Instr × Nat) := [(0, .ldc 148, 2), (2, .aload_n 0, 1), (3, .getfield 15, 3), (6, .i2f, 1), (7, .fmul, 1), (8, .aload_n 0, 1), (9, .getfield 41, 3), (12, .iload_n 2, 1), (13, .iaload, 1), (14, .i2f, 1), (15, .fmul, 1), (16, .fconst 1, 1), (17, .aload_n 0, 1), (18, .getfield 31, 3), (21, .iload_n 1, 1), (22, .iaload, 1), (23, .i2f, 1), (24, .fadd, 1), (25, .fdiv, 1), (26, .freturn, 1)]
set_option maxRecDepth 100000 in
theorem ddX3_takings : dchk cX3_takings dlX3_takings = true := by decide +kernel
def dlX4_init : List (Nat × Instr × Nat) := [(0, .aload_n 0, 1), (1, .invokespecial 1, 3), (4, .aload_n 0, 1), (5, .new 7, 3), (8, .dup, 1), (9, .invokespecial 9, 3), (12, .putfield 10, 3), (15, .aload_n 0, 1), (16, .new 7, 3), (19, .dup, 1), (20, .invokespecial 9, 3), (23, .putfield 16, 3), (26, .aload_n 0, 1), (27, .new 7, 3), (30, .dup, 1), (31, .invokespecial 9, 3), (34, .putfield 19, 3), (37, .aload_n 0, 1), (38, .iconst 0, 1), (39, .putfield 22, 3), (42, .aload_n 0, 1), (43, .new 26, 3), (46, .dup, 1), (47, .invokespecial 28, 3), (50, .putfield 29, 3), (53, .aload_n 0, 1), (54, .new 33, 3), (57, .dup, 1), (58, .invokespecial 35, 3), (61, .putfield 36, 3), (64, .aload_n 0, 1), (65, .iconst (-1), 1), (66, .putfield 40, 3), (69, .aload_n 0, 1), (70, .iconst 0, 1), (71, .putfield 44, 3), (74, .aload_n 0, 1), (75, .iconst 0, 1), (76, .putfield 47, 3), (79, .return_, 1)]
set_option maxRecDepth 100000 in
theorem ddX4_init : dchk cX4_init dlX4_init = true := by decide +kernel
def dlX4_crowd : List (Nat × Instr × Nat) := [(0, .iload_n 1, 1), (1, .invokestatic 50, 3), (4, .invokestatic 54, 3), (7, .aload_n 0, 1), (8, .getfield 29, 3), (11, .aload_n 0, 1), (12, .getfield 10, 3), (15, .invokevirtual 58, 3), (18, .aload_n 0, 1), (19, .getfield 10, 3), (22, .getfield 62, 3), (25, .istore_n 2, 1), (26, .aload_n 0, 1), (27, .getfield 10, 3), (30, .iload_n 1, 1), (31, .putfield 62, 3), (34, .iload_n 2, 1), (35, .ireturn, 1)]
set_option maxRecDepth 100000 in
theorem ddX4_crowd : dchk cX4_crowd dlX4_crowd = true := by decide +kernel
def dlX4_limit : List (Nat × Instr × Nat) := [(0, .iload_n 1, 1), (1, .iload_n 2, 1), (2, .invokestatic 65, 3), (5, .invokestatic 54, 3), (8, .aload_n 0, 1), (9, .getfield 29, 3), (12, .aload_n 0, 1), (13, .getfield 10, 3), (16, .invokevirtual 58, 3), (19, .aload_n 0, 1), (20, .getfield 10, 3), (23, .getfield 69, 3), (26, .iload_n 1, 1), (27, .faload, 1), (28, .fstore_n 3, 1), (29, .aload_n 0, 1), (30, .getfield 10, 3), (33, .getfield 69, 3), (36, .iload_n 1, 1), (37, .iload_n 2, 1), (38, .i2f, 1), (39, .fastore, 1), (40, .fload_n 3, 1), (41, .invokestatic 73, 3), (44, .ireturn, 1)]
set_option maxRecDepth 100000 in
theorem ddX4_limit : dchk cX4_limit dlX4_limit = true := by decide +kernel
def dlX4_busker : List (Nat × Instr × Nat) := [(0, .aload_n 0, 1), (1, .iload_n 1, 1), (2, .iload_n 2, 1), (3, .invokevirtual 79, 3), (6, .invokestatic 54, 3), (9, .aload_n 0, 1), (10, .getfield 29, 3), (13, .aload_n 0, 1), (14, .getfield 10, 3), (17, .invokevirtual 58, 3), (20, .aload_n 0, 1), (21, .getfield 10, 3), (24, .iload_n 1, 1), (25, .iload_n 2, 1), (26, .invokevirtual 82, 3), (29, .ireturn, 1)]
set_option maxRecDepth 100000 in
theorem ddX4_busker : dchk cX4_busker dlX4_busker = true := by decide +kernel
def dlX4_buskerOf : List (Nat × Instr × Nat) := [(0, .aload_n 0, 1), (1, .iload_n 1, 1), (2, .invokevirtual 85, 3), (5, .invokestatic 54, 3), (8, .iload_n 2, 1), (9, .tableswitch 113 0 6 #[43, 53, 63, 73, 83, 93, 103], 43), (52, .aload_n 0, 1), (53, .getfield 10, 3), (56, .getfield 88, 3), (59, .iload_n 1, 1), (60, .iaload, 1), (61, .ireturn, 1), (62, .aload_n 0, 1), (63, .getfield 10, 3), (66, .getfield 92, 3), (69, .iload_n 1, 1), (70, .iaload, 1), (71, .ireturn, 1), (72, .aload_n 0, 1), (73, .getfield 10, 3), (76, .getfield 95, 3), (79, .iload_n 1, 1), (80, .iaload, 1), (81, .ireturn, 1), (82, .aload_n 0, 1), (83, .getfield 10, 3), (86, .getfield 98, 3), (89, .iload_n 1, 1), (90, .iaload, 1), (91, .ireturn, 1), (92, .aload_n 0, 1), (93, .getfield 10, 3), (96, .getfield 101, 3), (99, .iload_n 1, 1), (100, .iaload, 1), (101, .ireturn, 1), (102, .aload_n 0, 1), (103, .getfield 10, 3), (106, .getfield 104, 3), (109, .iload_n 1, 1), (110, .iaload, 1), (111, .ireturn, 1), (112, .aload_n 0, 1), (113, .getfield 10, 3), (116, .getfield 107, 3), (119, .iload_n 1, 1), (120, .iaload, 1), (121, .ireturn, 1), (122, .new 110, 3), (125, .dup, 1), (126, .ldc 112, 2), (128, .invokespecial 114, 3), (131, .athrow, 1)]
set_option maxRecDepth 100000 in
theorem ddX4_buskerOf : dchk cX4_buskerOf dlX4_buskerOf = true := by decide +kernel
def dlX4_hat : List (Nat × Instr × Nat) := [(0, .aload_n 0, 1), (1, .iload_n 1, 1), (2, .invokevirtual 85, 3), (5, .invokestatic 54, 3), (8, .aload_n 0, 1), (9, .getfield 10, 3), (12, .getfield 117, 3), (15, .iload_n 1, 1), (16, .faload, 1), (17, .freturn, 1)]
set_option maxRecDepth 100000 in
theorem ddX4_hat : dchk cX4_hat dlX4_hat = true := by decide +kernel
def dlX4_wear : List (Nat × Instr × Nat) := [(0, .aload_n 0, 1), (1, .iload_n 1, 1), (2, .invokevirtual 85, 3), (5, .invokestatic 54, 3), (8, .aload_n 0, 1), (9, .getfield 10, 3), (12, .getfield 120, 3), (15, .iload_n 1, 1), (16, .faload, 1), (17, .invokestatic 73, 3), (20, .ireturn, 1)]
set_option maxRecDepth 100000 in
theorem ddX4_wear : dchk cX4_wear dlX4_wear = true := by decide +kernel
def dlX4_pitchOf : List (Nat × Instr × Nat) := [(0, .iload_n 1, 1), (1, .invokestatic 123, 3), (4, .invokestatic 54, 3), (7, .iload_n 2, 1), (8, .tableswitch 57 0 2 #[28, 37, 47], 28), (36, .aload_n 0, 1), (37, .getfield 10, 3), (40, .iload_n 1, 1), (41, .invokevirtual 126, 3), (44, .ireturn, 1), (45, .aload_n 0, 1), (46, .getfield 10, 3), (49, .getfield 129, 3), (52, .iload_n 1, 1), (53, .iaload, 1), (54, .ireturn, 1), (55, .aload_n 0, 1), (56, .getfield 10, 3), (59, .getfield 132, 3), (62, .iload_n 1, 1), (63, .iaload, 1), (64, .ireturn, 1), (65, .new 110, 3), (68, .dup, 1), (69, .ldc 135, 2), (71, .invokespecial 114, 3), (74, .athrow, 1)]
set_option maxRecDepth 100000 in
theorem ddX4_pitchOf : dchk cX4_pitchOf dlX4_pitchOf = true := by decide +kernel
def dlX4_join : List (Nat × Instr × Nat) := [(0, .aload_n 0, 1), (1, .iload_n 1, 1), (2, .invokevirtual 137, 3), (5, .invokestatic 54, 3), (8, .aload_n 0, 1), (9, .getfield 29, 3), (12, .aload_n 0, 1), (13, .getfield 10, 3), (16, .invokevirtual 58, 3), (19, .aload_n 0, 1), (20, .getfield 10, 3), (23, .iload_n 1, 1), (24, .invokevirtual 140, 3), (27, .ireturn, 1)]
set_option maxRecDepth 100000 in
theorem ddX4_join : dchk cX4_join dlX4_join = true := by decide +kernel
def dlX4_draw : List (Nat × Instr × Nat) := [(0, .aload_n 0, 1), (1, .iload_n 1, 1), (2, .iload_n 2, 1), (3, .invokevirtual 143, 3), (6, .invokestatic 54, 3), (9, .aload_n 0, 1), (10, .getfield 29, 3), (13, .aload_n 0, 1), (14, .getfield 10, 3), (17, .invokevirtual 58, 3), (20, .aload_n 0, 1), (21, .getfield 10, 3), (24, .iload_n 1, 1), (25, .iload_n 2, 1), (26, .invokevirtual 146, 3), (29, .ireturn, 1)]
set_option maxRecDepth 100000 in
theorem ddX4_draw : dchk cX4_draw dlX4_draw = true := by decide +kernel
def dlX4_waiting : List (Nat × Instr × Nat) := [(0, .aload_n 0, 1), (1, .getfield 10, 3), (4, .iload_n 1, 1), (5, .invokevirtual 149, 3), (8, .istore_n 2, 1), (9, .iload_n 2, 1), (10, .iconst (-1), 1), (11, .if_icmp .ne 13, 3), (14, .new 152, 3), (17, .dup, 1), (18, .ldc 154, 2), (20, .invokespecial 156, 3), (23, .athrow, 1), (24, .iload_n 2, 1), (25, .ireturn, 1)]
set_option maxRecDepth 100000 in
theorem ddX4_waiting : dchk cX4_waiting dlX4_waiting = true := by decide +kernel
def dlX4_leave : List (Nat × Instr × Nat) := [(0, .aload_n 0, 1), (1, .iload_n 1, 1), (2, .invokevirtual 157, 3), (5, .invokestatic 54, 3), (8, .aload_n 0, 1), (9, .getfield 29, 3), (12, .aload_n 0, 1), (13, .getfield 10, 3), (16, .invokevirtual 58, 3), (19, .aload_n 0, 1), (20, .getfield 10, 3), (23, .iload_n 1, 1), (24, .invokevirtual 160, 3), (27, .ireturn, 1)]
set_option maxRecDepth 100000 in
theorem ddX4_leave : dchk cX4_leave dlX4_leave = true := by decide +kernel
def dlX4_swap : List (Nat × Instr × Nat) := [(0, .aload_n 0, 1), (1, .iload_n 1, 1), (2, .iload_n 2, 1), (3, .invokevirtual 163, 3), (6, .invokestatic 54, 3), (9, .aload_n 0, 1), (10, .getfield 29, 3), (13, .aload_n 0, 1), (14, .getfield 10, 3), (17, .invokevirtual 58, 3), (20, .aload_n 0, 1), (21, .getfield 10, 3), (24, .iload_n 1, 1), (25, .iload_n 2, 1), (26, .invokevirtual 166, 3), (29, .ireturn, 1)]
set_option maxRecDepth 100000 in
theorem ddX4_swap : dchk cX4_swap dlX4_swap = true := by decide +kernel
def dlX4_noise : List (Nat × Instr × Nat) := [(0, .iload_n 1, 1), (1, .invokestatic 123, 3), (4, .invokestatic 54, 3), (7, .aload_n 0, 1), (8, .getfield 10, 3), (11, .iload_n 1, 1), (12, .invokevirtual 169, 3), (15, .invokestatic 73, 3), (18, .ireturn, 1)]
set_option maxRecDepth 100000 in
theorem ddX4_noise : dchk cX4_noise dlX4_noise = true := by decide +kernel
def dlX4_noiseAgain : List (Nat × Instr × Nat) := [(0, .iload_n 1, 1), (1, .invokestatic 123, 3), (4, .invokestatic 54, 3), (7, .aload_n 0, 1), (8, .getfield 10, 3), (11, .invokevirtual 173, 3), (14, .aload_n 0, 1), (15, .getfield 10, 3), (18, .iload_n 1, 1), (19, .invokevirtual 176, 3), (22, .invokestatic 73, 3), (25, .ireturn, 1)]
set_option maxRecDepth 100000 in
theorem ddX4_noiseAgain : dchk cX4_noiseAgain dlX4_noiseAgain = true := by decide +kernel
def dlX4_below : List (Nat × Instr × Nat) := [(0, .iload_n 1, 1), (1, .invokestatic 123, 3), (4, .invokestatic 54, 3), (7, .aload_n 0, 1), (8, .getfield 10, 3), (11, .getfield 69, 3), (14, .iload_n 1, 1), (15, .faload, 1), (16, .aload_n 0, 1), (17, .getfield 10, 3), (20, .iload_n 1, 1), (21, .invokevirtual 169, 3), (24, .fsub, 1), (25, .freturn, 1)]
set_option maxRecDepth 100000 in
theorem ddX4_below : dchk cX4_below dlX4_below = true := by decide +kernel
def dlX4_noiseWith : List (Nat × Instr × Nat) := [(0, .iload_n 1, 1), (1, .invokestatic 123, 3), (4, .invokestatic 54, 3), (7, .aload_n 0, 1), (8, .iload_n 2, 1), (9, .invokevirtual 85, 3), (12, .invokestatic 54, 3), (15, .aload_n 0, 1), (16, .getfield 10, 3), (19, .iload_n 1, 1), (20, .iload_n 2, 1), (21, .invokevirtual 179, 3), (24, .invokestatic 73, 3), (27, .ireturn, 1)]
set_option maxRecDepth 100000 in
theorem ddX4_noiseWith : dchk cX4_noiseWith dlX4_noiseWith = true := by decide +kernel
def dlX4_quietest : List (Nat × Instr × Nat) := [(0, .aload_n 0, 1), (1, .iload_n 1, 1), (2, .invokevirtual 85, 3), (5, .invokestatic 54, 3), (8, .aload_n 0, 1), (9, .getfield 10, 3), (12, .iload_n 1, 1), (13, .invokevirtual 183, 3), (16, .istore_n 2, 1), (17, .iload_n 2, 1), (18, .iconst (-1), 1), (19, .if_icmp .ne 13, 3), (22, .new 152, 3), (25, .dup, 1), (26, .ldc 186, 2), (28, .invokespecial 156, 3), (31, .athrow, 1), (32, .iload_n 2, 1), (33, .ireturn, 1)]
set_option maxRecDepth 100000 in
theorem ddX4_quietest : dchk cX4_quietest dlX4_quietest = true := by decide +kernel
def dlX4_loudest : List (Nat × Instr × Nat) := [(0, .iconst 0, 1), (1, .istore_n 1, 1), (2, .iconst 1, 1), (3, .istore_n 2, 1), (4, .iload_n 2, 1), (5, .bipush 8, 2), (7, .if_icmp .ge 31, 3), (10, .aload_n 0, 1), (11, .getfield 10, 3), (14, .iload_n 2, 1), (15, .invokevirtual 169, 3), (18, .aload_n 0, 1), (19, .getfield 10, 3), (22, .iload_n 1, 1), (23, .invokevirtual 169, 3), (26, .fcmp .l, 1), (27, .ifCond .le 5, 3), (30, .iload_n 2, 1), (31, .istore_n 1, 1), (32, .iinc 2 1, 3), (35, .goto (-31), 3), (38, .iload_n 1, 1), (39, .ireturn, 1)]
set_option maxRecDepth 100000 in
theorem ddX4_loudest : dchk cX4_loudest dlX4_loudest = true := by decide +kernel
def dlX4_strings : List (Nat × Instr × Nat) := [(0, .aload_n 0, 1), (1, .iload_n 1, 1), (2, .invokevirtual 188, 3), (5, .invokestatic 54, 3), (8, .aload_n 0, 1), (9, .getfield 29, 3), (12, .aload_n 0, 1), (13, .getfield 10, 3), (16, .invokevirtual 58, 3), (19, .aload_n 0, 1), (20, .getfield 10, 3), (23, .iload_n 1, 1), (24, .invokevirtual 191, 3), (27, .aload_n 0, 1), (28, .getfield 10, 3), (31, .getfield 117, 3), (34, .iload_n 1, 1), (35, .faload, 1), (36, .invokestatic 73, 3), (39, .ireturn, 1)]
set_option maxRecDepth 100000 in
theorem ddX4_strings : dchk cX4_strings dlX4_strings = true := by decide +kernel
def dlX4_snapsIn : List (Nat × Instr × Nat) := [(0, .aload_n 0, 1), (1, .iload_n 1, 1), (2, .invokevirtual 85, 3), (5, .invokestatic 54, 3), (8, .aload_n 0, 1), (9, .getfield 10, 3), (12, .getfield 88, 3), (15, .iload_n 1, 1), (16, .iaload, 1), (17, .iconst 1, 1), (18, .if_icmp .ne 13, 3), (21, .new 152, 3), (24, .dup, 1), (25, .ldc 194, 2), (27, .invokespecial 156, 3), (30, .athrow, 1), (31, .aload_n 0, 1), (32, .getfield 10, 3), (35, .iload_n 1, 1), (36, .invokevirtual 196, 3), (39, .ireturn, 1)]
set_option maxRecDepth 100000 in
theorem ddX4_snapsIn : dchk cX4_snapsIn dlX4_snapsIn = true := by decide +kernel
def dlX4_answer : List (Nat × Instr × Nat) := [(0, .aload_n 0, 1), (1, .iload_n 1, 1), (2, .invokevirtual 199, 3), (5, .invokestatic 54, 3), (8, .aload_n 0, 1), (9, .getfield 29, 3), (12, .aload_n 0, 1), (13, .getfield 10, 3), (16, .invokevirtual 58, 3), (19, .aload_n 0, 1), (20, .getfield 10, 3), (23, .iload_n 1, 1), (24, .invokevirtual 202, 3), (27, .ireturn, 1)]
set_option maxRecDepth 100000 in
theorem ddX4_answer : dchk cX4_answer dlX4_answer = true := by decide +kernel
def dlX4_rack : List (Nat × Instr × Nat) := [(0, .aload_n 0, 1), (1, .iload_n 1, 1), (2, .iload_n 2, 1), (3, .invokevirtual 205, 3), (6, .invokestatic 54, 3), (9, .aload_n 0, 1), (10, .getfield 29, 3), (13, .aload_n 0, 1), (14, .getfield 10, 3), (17, .invokevirtual 58, 3), (20, .aload_n 0, 1), (21, .getfield 10, 3), (24, .iload_n 1, 1), (25, .invokevirtual 208, 3), (28, .ireturn, 1)]
set_option maxRecDepth 100000 in
theorem ddX4_rack : dchk cX4_rack dlX4_rack = true := by decide +kernel
def dlX4_unrack : List (Nat × Instr × Nat) := [(0, .aload_n 0, 1), (1, .iload_n 1, 1), (2, .invokevirtual 211, 3), (5, .invokestatic 54, 3), (8, .aload_n 0, 1), (9, .getfield 29, 3), (12, .aload_n 0, 1), (13, .getfield 10, 3), (16, .invokevirtual 58, 3), (19, .aload_n 0, 1), (20, .getfield 10, 3), (23, .getfield 101, 3), (26, .iload_n 1, 1), (27, .iaload, 1), (28, .istore_n 2, 1), (29, .aload_n 0, 1), (30, .getfield 10, 3), (33, .getfield 101, 3), (36, .iload_n 1, 1), (37, .iconst (-1), 1), (38, .iastore, 1), (39, .iload_n 2, 1), (40, .ireturn, 1)]
set_option maxRecDepth 100000 in
theorem ddX4_unrack : dchk cX4_unrack dlX4_unrack = true := by decide +kernel
def dlX4_onRack : List (Nat × Instr × Nat) := [(0, .iload_n 1, 1), (1, .ifCond .lt 17, 3), (4, .iload_n 1, 1), (5, .iconst 2, 1), (6, .if_icmp .ge 12, 3), (9, .iload_n 2, 1), (10, .ifCond .lt 8, 3), (13, .iload_n 2, 1), (14, .iconst 3, 1), (15, .if_icmp .lt 13, 3), (18, .new 214, 3), (21, .dup, 1), (22, .ldc 216, 2), (24, .invokespecial 218, 3), (27, .athrow, 1), (28, .aload_n 0, 1), (29, .getfield 10, 3), (32, .iload_n 1, 1), (33, .iload_n 2, 1), (34, .invokevirtual 219, 3), (37, .istore_n 3, 1), (38, .iload_n 3, 1), (39, .iconst (-1), 1), (40, .if_icmp .ne 13, 3), (43, .new 152, 3), (46, .dup, 1), (47, .ldc 222, 2), (49, .invokespecial 156, 3), (52, .athrow, 1), (53, .iload_n 3, 1), (54, .ireturn, 1)]
set_option maxRecDepth 100000 in
theorem ddX4_onRack : dchk cX4_onRack dlX4_onRack = true := by decide +kernel
def dlX4_ranked : List (Nat × Instr × Nat) := [(0, .iconst 0, 1), (1, .istore_n 2, 1), (2, .iload_n 2, 1), (3, .bipush 8, 2), (5, .if_icmp .ge 34, 3), (8, .aload_n 0, 1), (9, .getfield 10, 3), (12, .iload_n 2, 1), (13, .invokevirtual 224, 3), (16, .ifCond .eq 17, 3), (19, .aload_n 0, 1), (20, .getfield 10, 3), (23, .iload_n 2, 1), (24, .invokevirtual 228, 3), (27, .iload_n 1, 1), (28, .if_icmp .ne 5, 3), (31, .iload_n 2, 1), (32, .ireturn, 1), (33, .iinc 2 1, 3), (36, .goto (-34), 3), (39, .new 152, 3), (42, .dup, 1), (43, .ldc 231, 2), (45, .invokespecial 156, 3), (48, .athrow, 1)]
set_option maxRecDepth 100000 in
theorem ddX4_ranked : dchk cX4_ranked dlX4_ranked = true := by decide +kernel
def dlX4_pass : List (Nat × Instr × Nat) := [(0, .iload_n 1, 1), (1, .invokestatic 233, 3), (4, .invokestatic 54, 3), (7, .aload_n 0, 1), (8, .getfield 29, 3), (11, .aload_n 0, 1), (12, .getfield 10, 3), (15, .invokevirtual 58, 3), (18, .aload_n 0, 1), (19, .getfield 10, 3), (22, .iload_n 1, 1), (23, .invokevirtual 236, 3), (26, .ireturn, 1)]
set_option maxRecDepth 100000 in
theorem ddX4_pass : dchk cX4_pass dlX4_pass = true := by decide +kernel
def dlX4_hatIn : List (Nat × Instr × Nat) := [(0, .aload_n 0, 1), (1, .iload_n 1, 1), (2, .invokevirtual 85, 3), (5, .invokestatic 54, 3), (8, .iload_n 2, 1), (9, .invokestatic 239, 3), (12, .invokestatic 54, 3), (15, .aload_n 0, 1), (16, .getfield 16, 3), (19, .aload_n 0, 1), (20, .getfield 10, 3), (23, .invokevirtual 242, 3), (26, .aload_n 0, 1), (27, .getfield 16, 3), (30, .iload_n 2, 1), (31, .invokevirtual 236, 3), (34, .pop, 1), (35, .aload_n 0, 1), (36, .getfield 16, 3), (39, .getfield 117, 3), (42, .iload_n 1, 1), (43, .faload, 1), (44, .invokestatic 73, 3), (47, .ireturn, 1)]
set_option maxRecDepth 100000 in
theorem ddX4_hatIn : dchk cX4_hatIn dlX4_hatIn = true := by decide +kernel
def dlX4_playingIn : List (Nat × Instr × Nat) := [(0, .iload_n 1, 1), (1, .invokestatic 239, 3), (4, .invokestatic 54, 3), (7, .aload_n 0, 1), (8, .getfield 16, 3), (11, .aload_n 0, 1), (12, .getfield 10, 3), (15, .invokevirtual 242, 3), (18, .aload_n 0, 1), (19, .getfield 16, 3), (22, .iload_n 1, 1), (23, .invokevirtual 236, 3), (26, .pop, 1), (27, .aload_n 0, 1), (28, .getfield 16, 3), (31, .invokevirtual 245, 3), (34, .ireturn, 1)]
set_option maxRecDepth 100000 in
theorem ddX4_playingIn : dchk cX4_playingIn dlX4_playingIn = true := by decide +kernel
def dlX4_sign : List (Nat × Instr × Nat) := [(0, .iload_n 1, 1), (1, .invokestatic 123, 3), (4, .invokestatic 54, 3), (7, .aload_n 0, 1), (8, .getfield 10, 3), (11, .iload_n 1, 1), (12, .invokevirtual 169, 3), (15, .aload_n 0, 1), (16, .getfield 10, 3), (19, .getfield 69, 3), (22, .iload_n 1, 1), (23, .faload, 1), (24, .fcmp .l, 1), (25, .ifCond .le 7, 3), (28, .iconst 1, 1), (29, .goto 4, 3), (32, .iconst 0, 1), (33, .istore_n 2, 1), (34, .aload_n 0, 1), (35, .getfield 10, 3), (38, .iload_n 1, 1), (39, .invokevirtual 126, 3), (42, .istore_n 3, 1), (43, .iload_n 3, 1), (44, .iconst (-1), 1), (45, .if_icmp .ne 15, 3), (48, .iload_n 2, 1), (49, .ifCond .eq 8, 3), (52, .bipush 33, 2), (54, .goto 5, 3), (57, .bipush 46, 2), (59, .ireturn, 1), (60, .aload_n 0, 1), (61, .getfield 10, 3), (64, .getfield 88, 3), (67, .iload_n 3, 1), (68, .iaload, 1), (69, .ifCond .ne 15, 3), (72, .iload_n 2, 1), (73, .ifCond .eq 8, 3), (76, .bipush 70, 2), (78, .goto 5, 3), (81, .bipush 102, 2), (83, .ireturn, 1), (84, .iload_n 2, 1), (85, .ifCond .eq 8, 3), (88, .bipush 65, 2), (90, .goto 5, 3), (93, .bipush 97, 2), (95, .ireturn, 1)]
set_option maxRecDepth 100000 in
theorem ddX4_sign : dchk cX4_sign dlX4_sign = true := by decide +kernel
def dlX4_append : List (Nat × Instr × Nat) := [(0, .aload_n 0, 1), (1, .getfield 36, 3), (4, .getfield 249, 3), (7, .bipush 60, 2), (9, .if_icmp .lt 13, 3), (12, .new 252, 3), (15, .dup, 1), (16, .ldc 254, 2), (18, .invokespecial 256, 3), (21, .athrow, 1), (22, .aload_n 0, 1), (23, .getfield 36, 3), (26, .iload_n 1, 1), (27, .invokevirtual 257, 3), (30, .aload_n 0, 1), (31, .getfield 36, 3), (34, .getfield 249, 3), (37, .ireturn, 1)]
set_option maxRecDepth 100000 in
theorem ddX4_append : dchk cX4_append dlX4_append = true := by decide +kernel
def dlX4_read : List (Nat × Instr × Nat) := [(0, .aload_n 0, 1), (1, .aload_n 0, 1), (2, .getfield 36, 3), (5, .invokevirtual 261, 3), (8, .putfield 40, 3), (11, .aload_n 0, 1), (12, .getfield 16, 3), (15, .aload_n 0, 1), (16, .getfield 10, 3), (19, .invokevirtual 242, 3), (22, .aload_n 0, 1), (23, .getfield 40, 3), (26, .iconst (-1), 1), (27, .if_icmp .ne 10, 3), (30, .aload_n 0, 1), (31, .invokevirtual 264, 3), (34, .goto 5, 3), (37, .bipush (-2), 2), (39, .istore_n 1, 1), (40, .aload_n 0, 1), (41, .getfield 36, 3), (44, .iconst 0, 1), (45, .putfield 249, 3), (48, .iload_n 1, 1), (49, .ifCond .lt 16, 3), (52, .aload_n 0, 1), (53, .getfield 29, 3), (56, .aload_n 0, 1), (57, .getfield 16, 3), (60, .invokevirtual 58, 3), (63, .iload_n 1, 1), (64, .ireturn, 1), (65, .aload_n 0, 1), (66, .getfield 10, 3), (69, .aload_n 0, 1), (70, .getfield 16, 3), (73, .invokevirtual 242, 3), (76, .iload_n 1, 1), (77, .bipush (-3), 2), (79, .if_icmp .ne 14, 3), (82, .new 267, 3), (85, .dup, 1), (86, .ldc_w 269, 3), (89, .invokespecial 271, 3), (92, .athrow, 1), (93, .new 110, 3), (96, .dup, 1), (97, .ldc_w 272, 3), (100, .invokespecial 114, 3), (103, .athrow, 1)]
set_option maxRecDepth 100000 in
theorem ddX4_read : dchk cX4_read dlX4_read = true := by decide +kernel
def dlX4_errorPosition : List (Nat × Instr × Nat) := [(0, .aload_n 0, 1), (1, .getfield 40, 3), (4, .ireturn, 1)]
set_option maxRecDepth 100000 in
theorem ddX4_errorPosition : dchk cX4_errorPosition dlX4_errorPosition = true := by decide +kernel
def dlX4_refusal : List (Nat × Instr × Nat) := [(0, .aload_n 0, 1), (1, .getfield 44, 3), (4, .ifCond .ne 14, 3), (7, .new 152, 3), (10, .dup, 1), (11, .ldc_w 274, 3), (14, .invokespecial 156, 3), (17, .athrow, 1), (18, .iload_n 1, 1), (19, .ifCond .eq 10, 3), (22, .aload_n 0, 1), (23, .getfield 47, 3), (26, .goto 7, 3), (29, .aload_n 0, 1), (30, .getfield 44, 3), (33, .ireturn, 1)]
set_option maxRecDepth 100000 in
theorem ddX4_refusal : dchk cX4_refusal dlX4_refusal = true := by decide +kernel
def dlX4_account : List (Nat × Instr × Nat) := [(0, .iload_n 1, 1), (1, .tableswitch 204 0 14 #[75, 83, 91, 99, 107, 115, 123, 131, 142, 150, 161, 169, 180, 188, 196], 75), (76, .aload_n 0, 1), (77, .getfield 10, 3), (80, .getfield 276, 3), (83, .ireturn, 1), (84, .aload_n 0, 1), (85, .getfield 10, 3), (88, .getfield 62, 3), (91, .ireturn, 1), (92, .aload_n 0, 1), (93, .getfield 10, 3), (96, .getfield 279, 3), (99, .ireturn, 1), (100, .aload_n 0, 1), (101, .getfield 10, 3), (104, .invokevirtual 282, 3), (107, .ireturn, 1), (108, .aload_n 0, 1), (109, .getfield 10, 3), (112, .invokevirtual 285, 3), (115, .ireturn, 1), (116, .aload_n 0, 1), (117, .getfield 10, 3), (120, .invokevirtual 245, 3), (123, .ireturn, 1), (124, .aload_n 0, 1), (125, .getfield 10, 3), (128, .invokevirtual 288, 3), (131, .ireturn, 1), (132, .aload_n 0, 1), (133, .getfield 10, 3), (136, .getfield 129, 3), (139, .invokestatic 291, 3), (142, .ireturn, 1), (143, .aload_n 0, 1), (144, .getfield 10, 3), (147, .getfield 295, 3), (150, .ireturn, 1), (151, .aload_n 0, 1), (152, .getfield 10, 3), (155, .getfield 132, 3), (158, .invokestatic 291, 3), (161, .ireturn, 1), (162, .aload_n 0, 1), (163, .getfield 10, 3), (166, .invokevirtual 298, 3), (169, .ireturn, 1), (170, .aload_n 0, 1), (171, .getfield 10, 3), (174, .getfield 107, 3), (177, .invokestatic 291, 3), (180, .ireturn, 1), (181, .aload_n 0, 1), (182, .getfield 10, 3), (185, .getfield 301, 3), (188, .ireturn, 1), (189, .aload_n 0, 1), (190, .getfield 36, 3), (193, .getfield 249, 3), (196, .ireturn, 1), (197, .aload_n 0, 1), (198, .getfield 29, 3), (201, .getfield 304, 3), (204, .ireturn, 1), (205, .new 110, 3), (208, .dup, 1), (209, .ldc_w 307, 3), (212, .invokespecial 114, 3), (215, .athrow, 1)]
set_option maxRecDepth 100000 in
theorem ddX4_account : dchk cX4_account dlX4_account = true := by decide +kernel
def dlX4_isWell : List (Nat × Instr × Nat) := [(0, .aload_n 0, 1), (1, .invokevirtual 309, 3), (4, .ifCond .eq 78, 3), (7, .aload_n 0, 1), (8, .invokevirtual 313, 3), (11, .ifCond .eq 71, 3), (14, .aload_n 0, 1), (15, .getfield 10, 3), (18, .invokevirtual 282, 3), (21, .aload_n 0, 1), (22, .getfield 10, 3), (25, .invokevirtual 285, 3), (28, .iadd, 1), (29, .aload_n 0, 1), (30, .getfield 10, 3), (33, .invokevirtual 245, 3), (36, .iadd, 1), (37, .aload_n 0, 1), (38, .getfield 10, 3), (41, .getfield 279, 3), (44, .if_icmp .ne 38, 3), (47, .aload_n 0, 1), (48, .getfield 10, 3), (51, .getfield 129, 3), (54, .invokestatic 291, 3), (57, .aload_n 0, 1), (58, .getfield 10, 3), (61, .getfield 295, 3), (64, .iadd, 1), (65, .aload_n 0, 1), (66, .getfield 10, 3), (69, .getfield 132, 3), (72, .invokestatic 291, 3), (75, .if_icmp .ne 7, 3), (78, .iconst 1, 1), (79, .goto 4, 3), (82, .iconst 0, 1), (83, .ireturn, 1)]
set_option maxRecDepth 100000 in
theorem ddX4_isWell : dchk cX4_isWell dlX4_isWell = true := by decide +kernel
def dlX4_meanBits : List (Nat × Instr × Nat) := [(0, .aload_n 0, 1), (1, .getfield 10, 3), (4, .getfield 279, 3), (7, .ifCond .gt 14, 3), (10, .new 316, 3), (13, .dup, 1), (14, .ldc_w 318, 3), (17, .invokespecial 320, 3), (20, .athrow, 1), (21, .dconst 0, 1), (22, .dstore_n 1, 1), (23, .iconst 0, 1), (24, .istore_n 3, 1), (25, .iload_n 3, 1), (26, .bipush 8, 2), (28, .if_icmp .ge 33, 3), (31, .aload_n 0, 1), (32, .getfield 10, 3), (35, .iload_n 3, 1), (36, .invokevirtual 224, 3), (39, .ifCond .eq 16, 3), (42, .dload_n 1, 1), (43, .aload_n 0, 1), (44, .getfield 10, 3), (47, .getfield 117, 3), (50, .iload_n 3, 1), (51, .faload, 1), (52, .f2d, 1), (53, .dadd, 1), (54, .dstore_n 1, 1), (55, .iinc 3 1, 3), (58, .goto (-33), 3), (61, .dload_n 1, 1), (62, .aload_n 0, 1), (63, .getfield 10, 3), (66, .getfield 279, 3), (69, .i2d, 1), (70, .ddiv, 1), (71, .invokestatic 321, 3), (74, .lreturn, 1)]
set_option maxRecDepth 100000 in
theorem ddX4_meanBits : dchk cX4_meanBits dlX4_meanBits = true := by decide +kernel
def dlX4_undo : List (Nat × Instr × Nat) := [(0, .aload_n 0, 1), (1, .getfield 29, 3), (4, .getfield 304, 3), (7, .ifCond .gt 14, 3), (10, .new 252, 3), (13, .dup, 1), (14, .ldc_w 325, 3), (17, .invokespecial 256, 3), (20, .athrow, 1), (21, .aload_n 0, 1), (22, .getfield 29, 3), (25, .aload_n 0, 1), (26, .getfield 10, 3), (29, .invokevirtual 327, 3), (32, .aload_n 0, 1), (33, .getfield 29, 3), (36, .getfield 304, 3), (39, .ireturn, 1)]
set_option maxRecDepth 100000 in
theorem ddX4_undo : dchk cX4_undo dlX4_undo = true := by decide +kernel
def dlX4_save : List (Nat × Instr × Nat) := [(0, .aload_n 0, 1), (1, .getfield 19, 3), (4, .aload_n 0, 1), (5, .getfield 10, 3), (8, .invokevirtual 242, 3), (11, .aload_n 0, 1), (12, .iconst 1, 1), (13, .putfield 22, 3), (16, .aload_n 0, 1), (17, .getfield 10, 3), (20, .getfield 279, 3), (23, .ireturn, 1)]
set_option maxRecDepth 100000 in
theorem ddX4_save : dchk cX4_save dlX4_save = true := by decide +kernel
def dlX4_restore : List (Nat × Instr × Nat) := [(0, .aload_n 0, 1), (1, .getfield 22, 3), (4, .ifCond .ne 14, 3), (7, .new 252, 3), (10, .dup, 1), (11, .ldc_w 330, 3), (14, .invokespecial 256, 3), (17, .athrow, 1), (18, .aload_n 0, 1), (19, .getfield 10, 3), (22, .aload_n 0, 1), (23, .getfield 19, 3), (26, .invokevirtual 242, 3), (29, .aload_n 0, 1), (30, .getfield 29, 3), (33, .iconst 0, 1), (34, .putfield 304, 3), (37, .aload_n 0, 1), (38, .getfield 10, 3), (41, .getfield 279, 3), (44, .ireturn, 1)]
set_option maxRecDepth 100000 in
theorem ddX4_restore : dchk cX4_restore dlX4_restore = true := by decide +kernel
def dlX4_throwFor : List (Nat × Instr × Nat) := [(0, .iload_n 0, 1), (1, .tableswitch 60 1 3 #[27, 38, 49], 27), (28, .new 214, 3), (31, .dup, 1), (32, .ldc_w 332, 3), (35, .invokespecial 218, 3), (38, .athrow, 1), (39, .new 110, 3), (42, .dup, 1), (43, .ldc_w 334, 3), (46, .invokespecial 114, 3), (49, .athrow, 1), (50, .new 267, 3), (53, .dup, 1), (54, .ldc_w 336, 3), (57, .invokespecial 271, 3), (60, .athrow, 1), (61, .return_, 1)]
set_option maxRecDepth 100000 in
theorem ddX4_throwFor : dchk cX4_throwFor dlX4_throwFor = true := by decide +kernel
def dlX4_refuse : List (Nat × Instr × Nat) := [(0, .aload_n 0, 1), (1, .iload_n 1, 1), (2, .putfield 44, 3), (5, .aload_n 0, 1), (6, .iload_n 2, 1), (7, .putfield 47, 3), (10, .iconst 3, 1), (11, .ireturn, 1)]
set_option maxRecDepth 100000 in
theorem ddX4_refuse : dchk cX4_refuse dlX4_refuse = true := by decide +kernel
def dlX4_isPitch : List (Nat × Instr × Nat) := [(0, .iload_n 0, 1), (1, .ifCond .lt 13, 3), (4, .iload_n 0, 1), (5, .bipush 8, 2), (7, .if_icmp .ge 7, 3), (10, .iconst 1, 1), (11, .goto 4, 3), (14, .iconst 0, 1), (15, .ireturn, 1)]
set_option maxRecDepth 100000 in
theorem ddX4_isPitch : dchk cX4_isPitch dlX4_isPitch = true := by decide +kernel
def dlX4_hindranceOfRange : List (Nat × Instr × Nat) := [(0, .iload_n 0, 1), (1, .iload_n 1, 1), (2, .if_icmp .lt 8, 3), (5, .iload_n 0, 1), (6, .iload_n 2, 1), (7, .if_icmp .le 7, 3), (10, .iconst 2, 1), (11, .goto 4, 3), (14, .iconst 0, 1), (15, .ireturn, 1)]
set_option maxRecDepth 100000 in
theorem ddX4_hindranceOfRange : dchk cX4_hindranceOfRange dlX4_hindranceOfRange = true := by decide +kernel
def dlX4_hindranceOfPitchNumber : List (Nat × Instr × Nat) := [(0, .iload_n 0, 1), (1, .invokestatic 338, 3), (4, .ifCond .eq 7, 3), (7, .iconst 0, 1), (8, .goto 4, 3), (11, .iconst 1, 1), (12, .ireturn, 1)]
set_option maxRecDepth 100000 in
theorem ddX4_hindranceOfPitchNumber : dchk cX4_hindranceOfPitchNumber dlX4_hindranceOfPitchNumber = true := by decide +kernel
def dlX4_hindranceOfBuskerNumber : List (Nat × Instr × Nat) := [(0, .aload_n 0, 1), (1, .getfield 10, 3), (4, .iload_n 1, 1), (5, .invokevirtual 224, 3), (8, .ifCond .eq 7, 3), (11, .iconst 0, 1), (12, .goto 4, 3), (15, .iconst 1, 1), (16, .ireturn, 1)]
set_option maxRecDepth 100000 in
theorem ddX4_hindranceOfBuskerNumber : dchk cX4_hindranceOfBuskerNumber dlX4_hindranceOfBuskerNumber = true := by decide +kernel
def dlX4_hindranceOfCrowd : List (Nat × Instr × Nat) := [(0, .iload_n 0, 1), (1, .iconst 0, 1), (2, .bipush 50, 2), (4, .invokestatic 341, 3), (7, .ireturn, 1)]
set_option maxRecDepth 100000 in
theorem ddX4_hindranceOfCrowd : dchk cX4_hindranceOfCrowd dlX4_hindranceOfCrowd = true := by decide +kernel
def dlX4_hindranceOfPass : List (Nat × Instr × Nat) := [(0, .iload_n 0, 1), (1, .iconst 1, 1), (2, .bipush 60, 2), (4, .invokestatic 341, 3), (7, .ireturn, 1)]
set_option maxRecDepth 100000 in
theorem ddX4_hindranceOfPass : dchk cX4_hindranceOfPass dlX4_hindranceOfPass = true := by decide +kernel
def dlX4_hindranceOfLookAhead : List (Nat × Instr × Nat) := [(0, .iload_n 0, 1), (1, .iconst 0, 1), (2, .bipush 60, 2), (4, .invokestatic 341, 3), (7, .ireturn, 1)]
set_option maxRecDepth 100000 in
theorem ddX4_hindranceOfLookAhead : dchk cX4_hindranceOfLookAhead dlX4_hindranceOfLookAhead = true := by decide +kernel
def dlX4_hindranceOfLimit : List (Nat × Instr × Nat) := [(0, .iload_n 0, 1), (1, .invokestatic 338, 3), (4, .ifCond .ne 5, 3), (7, .iconst 1, 1), (8, .ireturn, 1), (9, .iload_n 1, 1), (10, .bipush 40, 2), (12, .bipush 120, 2), (14, .invokestatic 341, 3), (17, .ireturn, 1)]
set_option maxRecDepth 100000 in
theorem ddX4_hindranceOfLimit : dchk cX4_hindranceOfLimit dlX4_hindranceOfLimit = true := by decide +kernel
def dlX4_hindranceOfBusker : List (Nat × Instr × Nat) := [(0, .iload_n 1, 1), (1, .ifCond .eq 10, 3), (4, .iload_n 1, 1), (5, .iconst 1, 1), (6, .if_icmp .eq 5, 3), (9, .iconst 2, 1), (10, .ireturn, 1), (11, .iload_n 2, 1), (12, .iconst 1, 1), (13, .if_icmp .lt 9, 3), (16, .iload_n 2, 1), (17, .bipush 9, 2), (19, .if_icmp .le 5, 3), (22, .iconst 2, 1), (23, .ireturn, 1), (24, .aload_n 0, 1), (25, .getfield 10, 3), (28, .getfield 279, 3), (31, .bipush 8, 2), (33, .if_icmp .lt 11, 3), (36, .aload_n 0, 1), (37, .iconst 1, 1), (38, .bipush 8, 2), (40, .invokevirtual 345, 3), (43, .ireturn, 1), (44, .iconst 0, 1), (45, .ireturn, 1)]
set_option maxRecDepth 100000 in
theorem ddX4_hindranceOfBusker : dchk cX4_hindranceOfBusker dlX4_hindranceOfBusker = true := by decide +kernel
def dlX4_hindranceOfJoin : List (Nat × Instr × Nat) := [(0, .aload_n 0, 1), (1, .getfield 10, 3), (4, .iload_n 1, 1), (5, .invokevirtual 224, 3), (8, .ifCond .ne 5, 3), (11, .iconst 1, 1), (12, .ireturn, 1), (13, .aload_n 0, 1), (14, .getfield 10, 3), (17, .getfield 98, 3), (20, .iload_n 1, 1), (21, .iaload, 1), (22, .iconst (-1), 1), (23, .if_icmp .eq 18, 3), (26, .aload_n 0, 1), (27, .iconst 2, 1), (28, .aload_n 0, 1), (29, .getfield 10, 3), (32, .getfield 98, 3), (35, .iload_n 1, 1), (36, .iaload, 1), (37, .invokevirtual 345, 3), (40, .ireturn, 1), (41, .aload_n 0, 1), (42, .getfield 10, 3), (45, .getfield 95, 3), (48, .iload_n 1, 1), (49, .iaload, 1), (50, .iconst (-1), 1), (51, .if_icmp .eq 18, 3), (54, .aload_n 0, 1), (55, .iconst 3, 1), (56, .aload_n 0, 1), (57, .getfield 10, 3), (60, .getfield 95, 3), (63, .iload_n 1, 1), (64, .iaload, 1), (65, .invokevirtual 345, 3), (68, .ireturn, 1), (69, .aload_n 0, 1), (70, .getfield 10, 3), (73, .iload_n 1, 1), (74, .invokevirtual 348, 3), (77, .ifCond .eq 10, 3), (80, .aload_n 0, 1), (81, .iconst 4, 1), (82, .iload_n 1, 1), (83, .invokevirtual 345, 3), (86, .ireturn, 1), (87, .iconst 0, 1), (88, .ireturn, 1)]
set_option maxRecDepth 100000 in
theorem ddX4_hindranceOfJoin : dchk cX4_hindranceOfJoin dlX4_hindranceOfJoin = true := by decide +kernel
def dlX4_hindranceOfDraw : List (Nat × Instr × Nat) := [(0, .iload_n 1, 1), (1, .invokestatic 338, 3), (4, .ifCond .ne 5, 3), (7, .iconst 1, 1), (8, .ireturn, 1), (9, .iload_n 2, 1), (10, .ifCond .lt 9, 3), (13, .iload_n 2, 1), (14, .bipush 99, 2), (16, .if_icmp .le 5, 3), (19, .iconst 2, 1), (20, .ireturn, 1), (21, .aload_n 0, 1), (22, .getfield 10, 3), (25, .iload_n 1, 1), (26, .invokevirtual 126, 3), (29, .iconst (-1), 1), (30, .if_icmp .eq 17, 3), (33, .aload_n 0, 1), (34, .iconst 5, 1), (35, .aload_n 0, 1), (36, .getfield 10, 3), (39, .iload_n 1, 1), (40, .invokevirtual 126, 3), (43, .invokevirtual 345, 3), (46, .ireturn, 1), (47, .aload_n 0, 1), (48, .getfield 10, 3), (51, .invokevirtual 285, 3), (54, .ifCond .ne 11, 3), (57, .aload_n 0, 1), (58, .bipush 6, 2), (60, .iconst 0, 1), (61, .invokevirtual 345, 3), (64, .ireturn, 1), (65, .iconst 0, 1), (66, .ireturn, 1)]
set_option maxRecDepth 100000 in
theorem ddX4_hindranceOfDraw : dchk cX4_hindranceOfDraw dlX4_hindranceOfDraw = true := by decide +kernel
def dlX4_hindranceOfLeave : List (Nat × Instr × Nat) := [(0, .iload_n 1, 1), (1, .invokestatic 338, 3), (4, .ifCond .ne 5, 3), (7, .iconst 1, 1), (8, .ireturn, 1), (9, .aload_n 0, 1), (10, .getfield 10, 3), (13, .iload_n 1, 1), (14, .invokevirtual 126, 3), (17, .iconst (-1), 1), (18, .if_icmp .ne 13, 3), (21, .aload_n 0, 1), (22, .bipush 7, 2), (24, .iload_n 1, 1), (25, .invokevirtual 345, 3), (28, .goto 4, 3), (31, .iconst 0, 1), (32, .ireturn, 1)]
set_option maxRecDepth 100000 in
theorem ddX4_hindranceOfLeave : dchk cX4_hindranceOfLeave dlX4_hindranceOfLeave = true := by decide +kernel
def dlX4_hindranceOfSwap : List (Nat × Instr × Nat) := [(0, .iload_n 1, 1), (1, .invokestatic 338, 3), (4, .ifCond .eq 10, 3), (7, .iload_n 2, 1), (8, .invokestatic 338, 3), (11, .ifCond .ne 5, 3), (14, .iconst 1, 1), (15, .ireturn, 1), (16, .aload_n 0, 1), (17, .getfield 10, 3), (20, .iload_n 1, 1), (21, .invokevirtual 126, 3), (24, .iconst (-1), 1), (25, .if_icmp .ne 11, 3), (28, .aload_n 0, 1), (29, .bipush 7, 2), (31, .iload_n 1, 1), (32, .invokevirtual 345, 3), (35, .ireturn, 1), (36, .aload_n 0, 1), (37, .getfield 10, 3), (40, .iload_n 2, 1), (41, .invokevirtual 126, 3), (44, .iconst (-1), 1), (45, .if_icmp .ne 13, 3), (48, .aload_n 0, 1), (49, .bipush 7, 2), (51, .iload_n 2, 1), (52, .invokevirtual 345, 3), (55, .goto 4, 3), (58, .iconst 0, 1), (59, .ireturn, 1)]
set_option maxRecDepth 100000 in
theorem ddX4_hindranceOfSwap : dchk cX4_hindranceOfSwap dlX4_hindranceOfSwap = true := by decide +kernel
def dlX4_hindranceOfStrings : List (Nat × Instr × Nat) := [(0, .aload_n 0, 1), (1, .getfield 10, 3), (4, .iload_n 1, 1), (5, .invokevirtual 224, 3), (8, .ifCond .ne 5, 3), (11, .iconst 1, 1), (12, .ireturn, 1), (13, .aload_n 0, 1), (14, .getfield 10, 3), (17, .getfield 117, 3), (20, .iload_n 1, 1), (21, .faload, 1), (22, .fconst 2, 1), (23, .fcmp .g, 1), (24, .ifCond .ge 22, 3), (27, .aload_n 0, 1), (28, .bipush 8, 2), (30, .aload_n 0, 1), (31, .getfield 10, 3), (34, .getfield 117, 3), (37, .iload_n 1, 1), (38, .faload, 1), (39, .f2i, 1), (40, .invokevirtual 345, 3), (43, .goto 4, 3), (46, .iconst 0, 1), (47, .ireturn, 1)]
set_option maxRecDepth 100000 in
theorem ddX4_hindranceOfStrings : dchk cX4_hindranceOfStrings dlX4_hindranceOfStrings = true := by decide +kernel
def dlX4_hindranceOfAnswer : List (Nat × Instr × Nat) := [(0, .iload_n 1, 1), (1, .invokestatic 338, 3), (4, .ifCond .ne 5, 3), (7, .iconst 1, 1), (8, .ireturn, 1), (9, .aload_n 0, 1), (10, .getfield 10, 3), (13, .getfield 129, 3), (16, .iload_n 1, 1), (17, .iaload, 1), (18, .ifCond .ne 13, 3), (21, .aload_n 0, 1), (22, .bipush 9, 2), (24, .iload_n 1, 1), (25, .invokevirtual 345, 3), (28, .goto 4, 3), (31, .iconst 0, 1), (32, .ireturn, 1)]
set_option maxRecDepth 100000 in
theorem ddX4_hindranceOfAnswer : dchk cX4_hindranceOfAnswer dlX4_hindranceOfAnswer = true := by decide +kernel
def dlX4_hindranceOfRack : List (Nat × Instr × Nat) := [(0, .aload_n 0, 1), (1, .getfield 10, 3), (4, .iload_n 1, 1), (5, .invokevirtual 224, 3), (8, .ifCond .eq 12, 3), (11, .iload_n 2, 1), (12, .ifCond .lt 8, 3), (15, .iload_n 2, 1), (16, .iconst 2, 1), (17, .if_icmp .lt 5, 3), (20, .iconst 1, 1), (21, .ireturn, 1), (22, .aload_n 0, 1), (23, .getfield 10, 3), (26, .getfield 101, 3), (29, .iload_n 1, 1), (30, .iaload, 1), (31, .iconst (-1), 1), (32, .if_icmp .eq 19, 3), (35, .aload_n 0, 1), (36, .bipush 10, 2), (38, .aload_n 0, 1), (39, .getfield 10, 3), (42, .getfield 101, 3), (45, .iload_n 1, 1), (46, .iaload, 1), (47, .invokevirtual 345, 3), (50, .ireturn, 1), (51, .aload_n 0, 1), (52, .getfield 10, 3), (55, .iload_n 2, 1), (56, .invokevirtual 351, 3), (59, .iconst (-1), 1), (60, .if_icmp .ne 11, 3), (63, .aload_n 0, 1), (64, .bipush 11, 2), (66, .iload_n 2, 1), (67, .invokevirtual 345, 3), (70, .ireturn, 1), (71, .aload_n 0, 1), (72, .getfield 10, 3), (75, .getfield 88, 3), (78, .iload_n 1, 1), (79, .iaload, 1), (80, .iload_n 2, 1), (81, .if_icmp .ne 7, 3), (84, .iconst 0, 1), (85, .goto 10, 3), (88, .aload_n 0, 1), (89, .bipush 12, 2), (91, .iload_n 2, 1), (92, .invokevirtual 345, 3), (95, .ireturn, 1)]
set_option maxRecDepth 100000 in
theorem ddX4_hindranceOfRack : dchk cX4_hindranceOfRack dlX4_hindranceOfRack = true := by decide +kernel
def dlX4_hindranceOfUnrack : List (Nat × Instr × Nat) := [(0, .aload_n 0, 1), (1, .getfield 10, 3), (4, .iload_n 1, 1), (5, .invokevirtual 224, 3), (8, .ifCond .ne 5, 3), (11, .iconst 1, 1), (12, .ireturn, 1), (13, .aload_n 0, 1), (14, .getfield 10, 3), (17, .getfield 101, 3), (20, .iload_n 1, 1), (21, .iaload, 1), (22, .iconst (-1), 1), (23, .if_icmp .ne 13, 3), (26, .aload_n 0, 1), (27, .bipush 13, 2), (29, .iload_n 1, 1), (30, .invokevirtual 345, 3), (33, .goto 4, 3), (36, .iconst 0, 1), (37, .ireturn, 1)]
set_option maxRecDepth 100000 in
theorem ddX4_hindranceOfUnrack : dchk cX4_hindranceOfUnrack dlX4_hindranceOfUnrack = true := by decide +kernel
def dlX4_carryOut : List (Nat × Instr × Nat) := [(0, .iconst 0, 1), (1, .istore_n 1, 1), (2, .iconst 0, 1), (3, .istore_n 2, 1), (4, .iconst 0, 1), (5, .istore_n 3, 1), (6, .iload_n 3, 1), (7, .aload_n 0, 1), (8, .getfield 36, 3), (11, .getfield 249, 3), (14, .if_icmp .gt 60, 3), (17, .iload_n 3, 1), (18, .aload_n 0, 1), (19, .getfield 36, 3), (22, .getfield 249, 3), (25, .if_icmp .ge 19, 3), (28, .aload_n 0, 1), (29, .getfield 36, 3), (32, .iload_n 3, 1), (33, .invokevirtual 354, 3), (36, .bipush 59, 2), (38, .if_icmp .eq 6, 3), (41, .goto 27, 3), (44, .aload_n 0, 1), (45, .iload_n 2, 1), (46, .iload_n 3, 1), (47, .invokevirtual 358, 3), (50, .istore 4, 2), (52, .iload 4, 2), (54, .ifCond .eq 7, 3), (57, .iload 4, 2), (59, .ineg, 1), (60, .ireturn, 1), (61, .iinc 1 1, 3), (64, .iload_n 3, 1), (65, .iconst 1, 1), (66, .iadd, 1), (67, .istore_n 2, 1), (68, .iinc 3 1, 3), (71, .goto (-65), 3), (74, .iload_n 1, 1), (75, .ireturn, 1)]
set_option maxRecDepth 100000 in
theorem ddX4_carryOut : dchk cX4_carryOut dlX4_carryOut = true := by decide +kernel
def dlX4_carryOutOrder : List (Nat × Instr × Nat) := [(0, .aload_n 0, 1), (1, .getfield 36, 3), (4, .iload_n 1, 1), (5, .invokevirtual 354, 3), (8, .istore_n 3, 1), (9, .iload_n 3, 1), (10, .bipush 100, 2), (12, .if_icmp .ne 32, 3), (15, .aload_n 0, 1), (16, .aload_n 0, 1), (17, .getfield 36, 3), (20, .iload_n 1, 1), (21, .iconst 1, 1), (22, .iadd, 1), (23, .iload_n 1, 1), (24, .iconst 2, 1), (25, .iadd, 1), (26, .invokevirtual 361, 3), (29, .aload_n 0, 1), (30, .getfield 36, 3), (33, .iload_n 1, 1), (34, .iconst 3, 1), (35, .iadd, 1), (36, .iload_n 2, 1), (37, .invokevirtual 361, 3), (40, .invokevirtual 364, 3), (43, .ireturn, 1), (44, .aload_n 0, 1), (45, .getfield 36, 3), (48, .iload_n 1, 1), (49, .iconst 1, 1), (50, .iadd, 1), (51, .iload_n 2, 1), (52, .invokevirtual 361, 3), (55, .istore 4, 2), (57, .aload_n 0, 1), (58, .iload_n 3, 1), (59, .iload 4, 2), (61, .invokevirtual 367, 3), (64, .istore 5, 2), (66, .iload 5, 2), (68, .ifCond .ne 10, 3), (71, .aload_n 0, 1), (72, .iload_n 3, 1), (73, .iload 4, 2), (75, .invokevirtual 371, 3), (78, .iload 5, 2), (80, .ireturn, 1)]
set_option maxRecDepth 100000 in
theorem ddX4_carryOutOrder : dchk cX4_carryOutOrder dlX4_carryOutOrder = true := by decide +kernel
def dlX4_tryDraw : List (Nat × Instr × Nat) := [(0, .aload_n 0, 1), (1, .iload_n 1, 1), (2, .iload_n 2, 1), (3, .invokevirtual 143, 3), (6, .istore_n 3, 1), (7, .iload_n 3, 1), (8, .ifCond .ne 13, 3), (11, .aload_n 0, 1), (12, .getfield 10, 3), (15, .iload_n 1, 1), (16, .iload_n 2, 1), (17, .invokevirtual 146, 3), (20, .pop, 1), (21, .iload_n 3, 1), (22, .ireturn, 1)]
set_option maxRecDepth 100000 in
theorem ddX4_tryDraw : dchk cX4_tryDraw dlX4_tryDraw = true := by decide +kernel
def dlX4_hindranceOfOrder : List (Nat × Instr × Nat) := [(0, .iload_n 1, 1), (1, .lookupswitch 93 #[(97, 77), (99, 83), (112, 88), (115, 71), (119, 59), (120, 65)], 59), (60, .aload_n 0, 1), (61, .iload_n 2, 1), (62, .invokevirtual 137, 3), (65, .ireturn, 1), (66, .aload_n 0, 1), (67, .iload_n 2, 1), (68, .invokevirtual 157, 3), (71, .ireturn, 1), (72, .aload_n 0, 1), (73, .iload_n 2, 1), (74, .invokevirtual 188, 3), (77, .ireturn, 1), (78, .aload_n 0, 1), (79, .iload_n 2, 1), (80, .invokevirtual 199, 3), (83, .ireturn, 1), (84, .iload_n 2, 1), (85, .invokestatic 50, 3), (88, .ireturn, 1), (89, .iload_n 2, 1), (90, .invokestatic 233, 3), (93, .ireturn, 1), (94, .iconst 2, 1), (95, .ireturn, 1)]
set_option maxRecDepth 100000 in
theorem ddX4_hindranceOfOrder : dchk cX4_hindranceOfOrder dlX4_hindranceOfOrder = true := by decide +kernel
def dlX4_doOrder : List (Nat × Instr × Nat) := [(0, .iload_n 1, 1), (1, .lookupswitch 129 #[(97, 94), (99, 106), (112, 117), (115, 83), (119, 59), (120, 71)], 59), (60, .aload_n 0, 1), (61, .getfield 10, 3), (64, .iload_n 2, 1), (65, .invokevirtual 140, 3), (68, .pop, 1), (69, .goto 61, 3), (72, .aload_n 0, 1), (73, .getfield 10, 3), (76, .iload_n 2, 1), (77, .invokevirtual 160, 3), (80, .pop, 1), (81, .goto 49, 3), (84, .aload_n 0, 1), (85, .getfield 10, 3), (88, .iload_n 2, 1), (89, .invokevirtual 191, 3), (92, .goto 38, 3), (95, .aload_n 0, 1), (96, .getfield 10, 3), (99, .iload_n 2, 1), (100, .invokevirtual 202, 3), (103, .pop, 1), (104, .goto 26, 3), (107, .aload_n 0, 1), (108, .getfield 10, 3), (111, .iload_n 2, 1), (112, .putfield 62, 3), (115, .goto 15, 3), (118, .aload_n 0, 1), (119, .getfield 10, 3), (122, .iload_n 2, 1), (123, .invokevirtual 236, 3), (126, .pop, 1), (127, .goto 3, 3), (130, .return_, 1)]
set_option maxRecDepth 100000 in
theorem ddX4_doOrder : dchk cX4_doOrder dlX4_doOrder = true := by decide +kernel
def dlX4_isNoiseTheSameTwice : List (Nat × Instr × Nat) := [(0, .aload_n 0, 1), (1, .getfield 10, 3), (4, .invokevirtual 173, 3), (7, .iconst 0, 1), (8, .istore_n 1, 1), (9, .iload_n 1, 1), (10, .bipush 8, 2), (12, .if_icmp .ge 31, 3), (15, .aload_n 0, 1), (16, .getfield 10, 3), (19, .iload_n 1, 1), (20, .invokevirtual 169, 3), (23, .aload_n 0, 1), (24, .getfield 10, 3), (27, .iload_n 1, 1), (28, .invokevirtual 176, 3), (31, .fcmp .l, 1), (32, .ifCond .eq 5, 3), (35, .iconst 0, 1), (36, .ireturn, 1), (37, .iinc 1 1, 3), (40, .goto (-31), 3), (43, .iconst 1, 1), (44, .ireturn, 1)]
set_option maxRecDepth 100000 in
theorem ddX4_isNoiseTheSameTwice : dchk cX4_isNoiseTheSameTwice dlX4_isNoiseTheSameTwice = true := by decide +kernel
def dlX4_isNobodySharing : List (Nat × Instr × Nat) := [(0, .iconst 0, 1), (1, .istore_n 1, 1), (2, .iload_n 1, 1), (3, .bipush 8, 2), (5, .if_icmp .ge 38, 3), (8, .aload_n 0, 1), (9, .getfield 10, 3), (12, .getfield 95, 3), (15, .iload_n 1, 1), (16, .iaload, 1), (17, .istore_n 2, 1), (18, .iload_n 2, 1), (19, .iconst (-1), 1), (20, .if_icmp .eq 17, 3), (23, .aload_n 0, 1), (24, .getfield 10, 3), (27, .iload_n 2, 1), (28, .invokevirtual 126, 3), (31, .iload_n 1, 1), (32, .if_icmp .eq 5, 3), (35, .iconst 0, 1), (36, .ireturn, 1), (37, .iinc 1 1, 3), (40, .goto (-38), 3), (43, .iconst 1, 1), (44, .ireturn, 1)]
set_option maxRecDepth 100000 in
theorem ddX4_isNobodySharing : dchk cX4_isNobodySharing dlX4_isNobodySharing = true := by decide +kernel
def dlX4_sum : List (Nat × Instr × Nat) := [(0, .iconst 0, 1), (1, .istore_n 1, 1), (2, .aload_n 0, 1), (3, .astore_n 2, 1), (4, .aload_n 2, 1), (5, .arraylength, 1), (6, .istore_n 3, 1), (7, .iconst 0, 1), (8, .istore 4, 2), (10, .iload 4, 2), (12, .iload_n 3, 1), (13, .if_icmp .ge 20, 3), (16, .aload_n 2, 1), (17, .iload 4, 2), (19, .iaload, 1), (20, .istore 5, 2), (22, .iload_n 1, 1), (23, .iload 5, 2), (25, .iadd, 1), (26, .istore_n 1, 1), (27, .iinc 4 1, 3), (30, .goto (-20), 3), (33, .iload_n 1, 1), (34, .ireturn, 1)]
set_option maxRecDepth 100000 in
theorem ddX4_sum : dchk cX4_sum dlX4_sum = true := by decide +kernel
def dlX5_init : List (Nat × Instr × Nat) := [(0, .aload_n 0, 1), (1, .invokespecial 3, 3), (4, .aload_n 0, 1), (5, .bipush 112, 2), (7, .newarray .int, 2), (9, .putfield 9, 3), (12, .aload_n 0, 1), (13, .bipush 112, 2), (15, .newarray .int, 2), (17, .putfield 13, 3), (20, .aload_n 0, 1), (21, .bipush 112, 2), (23, .newarray .int, 2), (25, .putfield 16, 3), (28, .aload_n 0, 1), (29, .bipush 112, 2), (31, .newarray .int, 2), (33, .putfield 19, 3), (36, .aload_n 0, 1), (37, .bipush 8, 2), (39, .bipush 112, 2), (41, .multianewarray 22 2, 4), (45, .putfield 24, 3), (48, .aload_n 0, 1), (49, .bipush 8, 2), (51, .newarray .float, 2), (53, .putfield 27, 3), (56, .aload_n 0, 1), (57, .bipush 10, 2), (59, .newarray .float, 2), (61, .putfield 31, 3), (64, .aload_n 0, 1), (65, .bipush 60, 2), (67, .newarray .char, 2), (69, .putfield 34, 3), (72, .aload_n 0, 1), (73, .iconst (-1), 1), (74, .putfield 38, 3), (77, .aload_n 0, 1), (78, .getfield 9, 3), (81, .iconst 1, 1), (82, .bipush 10, 2), (84, .iastore, 1), (85, .iconst 0, 1), (86, .istore_n 1, 1), (87, .iload_n 1, 1), (88, .bipush 8, 2), (90, .if_icmp .ge 27, 3), (93, .aload_n 0, 1), (94, .iload_n 1, 1), (95, .iconst 0, 1), (96, .ldc 42, 2), (98, .invokestatic 43, 3), (101, .invokevirtual 49, 3), (104, .aload_n 0, 1), (105, .iload_n 1, 1), (106, .iconst 3, 1), (107, .iconst (-1), 1), (108, .invokevirtual 49, 3), (111, .iinc 1 1, 3), (114, .goto (-27), 3), (117, .return_, 1)]
set_option maxRecDepth 100000 in
theorem ddX5_init : dchk cX5_init dlX5_init = true := by decide +kernel
def dlX5_thrown : List (Nat × Instr × Nat) := [(0, .aload_n 0, 1), (1, .getfield 53, 3), (4, .ireturn, 1)]
set_option maxRecDepth 100000 in
theorem ddX5_thrown : dchk cX5_thrown dlX5_thrown = true := by decide +kernel
def dlX5_isBetween : List (Nat × Instr × Nat) := [(0, .iload_n 0, 1), (1, .iload_n 1, 1), (2, .if_icmp .lt 12, 3), (5, .iload_n 0, 1), (6, .iload_n 2, 1), (7, .if_icmp .gt 7, 3), (10, .iconst 1, 1), (11, .goto 4, 3), (14, .iconst 0, 1), (15, .ireturn, 1)]
set_option maxRecDepth 100000 in
theorem ddX5_isBetween : dchk cX5_isBetween dlX5_isBetween = true := by decide +kernel
def dlX5_copyRow : List (Nat × Instr × Nat) := [(0, .iconst 0, 1), (1, .istore_n 2, 1), (2, .iload_n 2, 1), (3, .bipush 112, 2), (5, .if_icmp .ge 15, 3), (8, .aload_n 1, 1), (9, .iload_n 2, 1), (10, .aload_n 0, 1), (11, .iload_n 2, 1), (12, .iaload, 1), (13, .iastore, 1), (14, .iinc 2 1, 3), (17, .goto (-15), 3), (20, .return_, 1)]
set_option maxRecDepth 100000 in
theorem ddX5_copyRow : dchk cX5_copyRow dlX5_copyRow = true := by decide +kernel
def dlX5_fails : List (Nat × Instr × Nat) := [(0, .aload_n 0, 1), (1, .iload_n 2, 1), (2, .ifCond .eq 7, 3), (5, .iload_n 1, 1), (6, .goto 4, 3), (9, .iconst 0, 1), (10, .putfield 53, 3), (13, .iload_n 2, 1), (14, .ireturn, 1)]
set_option maxRecDepth 100000 in
theorem ddX5_fails : dchk cX5_fails dlX5_fails = true := by decide +kernel
def dlX5_refuse : List (Nat × Instr × Nat) := [(0, .iload_n 1, 1), (1, .ifCond .eq 13, 3), (4, .aload_n 0, 1), (5, .iload_n 2, 1), (6, .putfield 56, 3), (9, .aload_n 0, 1), (10, .iload_n 3, 1), (11, .putfield 59, 3), (14, .iload_n 1, 1), (15, .ireturn, 1)]
set_option maxRecDepth 100000 in
theorem ddX5_refuse : dchk cX5_refuse dlX5_refuse = true := by decide +kernel
def dlX5_remember : List (Nat × Instr × Nat) := [(0, .aload_n 0, 1), (1, .getfield 62, 3), (4, .bipush 8, 2), (6, .if_icmp .ne 46, 3), (9, .aload_n 0, 1), (10, .dup, 1), (11, .getfield 62, 3), (14, .iconst 1, 1), (15, .isub, 1), (16, .putfield 62, 3), (19, .iconst 0, 1), (20, .istore_n 2, 1), (21, .iload_n 2, 1), (22, .aload_n 0, 1), (23, .getfield 62, 3), (26, .if_icmp .ge 26, 3), (29, .aload_n 0, 1), (30, .getfield 24, 3), (33, .iload_n 2, 1), (34, .iconst 1, 1), (35, .iadd, 1), (36, .aaload, 1), (37, .aload_n 0, 1), (38, .getfield 24, 3), (41, .iload_n 2, 1), (42, .aaload, 1), (43, .invokestatic 65, 3), (46, .iinc 2 1, 3), (49, .goto (-28), 3), (52, .aload_n 1, 1), (53, .aload_n 0, 1), (54, .getfield 24, 3), (57, .aload_n 0, 1), (58, .getfield 62, 3), (61, .aaload, 1), (62, .invokestatic 65, 3), (65, .aload_n 0, 1), (66, .dup, 1), (67, .getfield 62, 3), (70, .iconst 1, 1), (71, .iadd, 1), (72, .putfield 62, 3), (75, .return_, 1)]
set_option maxRecDepth 100000 in
theorem ddX5_remember : dchk cX5_remember dlX5_remember = true := by decide +kernel
def dlX5_change : List (Nat × Instr × Nat) := [(0, .aload_n 0, 1), (1, .getfield 69, 3), (4, .ifCond .ne 11, 3), (7, .aload_n 0, 1), (8, .aload_n 0, 1), (9, .getfield 9, 3), (12, .invokevirtual 73, 3), (15, .return_, 1)]
set_option maxRecDepth 100000 in
theorem ddX5_change : dchk cX5_change dlX5_change = true := by decide +kernel
def dlX5_crowd : List (Nat × Instr × Nat) := [(0, .aload_n 0, 1), (1, .iconst 1, 1), (2, .iload_n 1, 1), (3, .iconst 0, 1), (4, .bipush 50, 2), (6, .invokestatic 77, 3), (9, .ifCond .ne 7, 3), (12, .iconst 1, 1), (13, .goto 4, 3), (16, .iconst 0, 1), (17, .invokevirtual 81, 3), (20, .ifCond .eq 5, 3), (23, .iconst 0, 1), (24, .ireturn, 1), (25, .aload_n 0, 1), (26, .invokevirtual 85, 3), (29, .aload_n 0, 1), (30, .getfield 9, 3), (33, .iconst 1, 1), (34, .iaload, 1), (35, .istore_n 2, 1), (36, .aload_n 0, 1), (37, .getfield 9, 3), (40, .iconst 1, 1), (41, .iload_n 1, 1), (42, .iastore, 1), (43, .iload_n 2, 1), (44, .ireturn, 1)]
set_option maxRecDepth 100000 in
theorem ddX5_crowd : dchk cX5_crowd dlX5_crowd = true := by decide +kernel
def dlX5_isPitch : List (Nat × Instr × Nat) := [(0, .iload_n 0, 1), (1, .iconst 0, 1), (2, .bipush 7, 2), (4, .invokestatic 77, 3), (7, .ireturn, 1)]
set_option maxRecDepth 100000 in
theorem ddX5_isPitch : dchk cX5_isPitch dlX5_isPitch = true := by decide +kernel
def dlX5_ofPitch : List (Nat × Instr × Nat) := [(0, .aload_n 0, 1), (1, .getfield 9, 3), (4, .bipush 8, 2), (6, .iconst 4, 1), (7, .iload_n 1, 1), (8, .imul, 1), (9, .iadd, 1), (10, .iload_n 2, 1), (11, .iadd, 1), (12, .iaload, 1), (13, .ireturn, 1)]
set_option maxRecDepth 100000 in
theorem ddX5_ofPitch : dchk cX5_ofPitch dlX5_ofPitch = true := by decide +kernel
def dlX5_putPitch : List (Nat × Instr × Nat) := [(0, .aload_n 0, 1), (1, .getfield 9, 3), (4, .bipush 8, 2), (6, .iconst 4, 1), (7, .iload_n 1, 1), (8, .imul, 1), (9, .iadd, 1), (10, .iload_n 2, 1), (11, .iadd, 1), (12, .iload_n 3, 1), (13, .iastore, 1), (14, .return_, 1)]
set_option maxRecDepth 100000 in
theorem ddX5_putPitch : dchk cX5_putPitch dlX5_putPitch = true := by decide +kernel
def dlX5_limitOf : List (Nat × Instr × Nat) := [(0, .aload_n 0, 1), (1, .iload_n 1, 1), (2, .iconst 0, 1), (3, .invokevirtual 88, 3), (6, .invokestatic 92, 3), (9, .freturn, 1)]
set_option maxRecDepth 100000 in
theorem ddX5_limitOf : dchk cX5_limitOf dlX5_limitOf = true := by decide +kernel
def dlX5_limit : List (Nat × Instr × Nat) := [(0, .aload_n 0, 1), (1, .iconst 1, 1), (2, .iload_n 1, 1), (3, .invokestatic 96, 3), (6, .ifCond .ne 7, 3), (9, .iconst 1, 1), (10, .goto 4, 3), (13, .iconst 0, 1), (14, .invokevirtual 81, 3), (17, .ifCond .ne 27, 3), (20, .aload_n 0, 1), (21, .iconst 2, 1), (22, .iload_n 2, 1), (23, .bipush 40, 2), (25, .bipush 120, 2), (27, .invokestatic 77, 3), (30, .ifCond .ne 7, 3), (33, .iconst 1, 1), (34, .goto 4, 3), (37, .iconst 0, 1), (38, .invokevirtual 81, 3), (41, .ifCond .eq 5, 3), (44, .iconst 0, 1), (45, .ireturn, 1), (46, .aload_n 0, 1), (47, .invokevirtual 85, 3), (50, .aload_n 0, 1), (51, .iload_n 1, 1), (52, .iconst 0, 1), (53, .invokevirtual 88, 3), (56, .istore_n 3, 1), (57, .aload_n 0, 1), (58, .iload_n 1, 1), (59, .iconst 0, 1), (60, .iload_n 2, 1), (61, .i2f, 1), (62, .invokestatic 43, 3), (65, .invokevirtual 49, 3), (68, .iload_n 3, 1), (69, .ireturn, 1)]
set_option maxRecDepth 100000 in
theorem ddX5_limit : dchk cX5_limit dlX5_limit = true := by decide +kernel
def dlX5_isBusker : List (Nat × Instr × Nat) := [(0, .iload_n 1, 1), (1, .iconst 0, 1), (2, .aload_n 0, 1), (3, .getfield 9, 3), (6, .iconst 2, 1), (7, .iaload, 1), (8, .iconst 1, 1), (9, .isub, 1), (10, .invokestatic 77, 3), (13, .ireturn, 1)]
set_option maxRecDepth 100000 in
theorem ddX5_isBusker : dchk cX5_isBusker dlX5_isBusker = true := by decide +kernel
def dlX5_of : List (Nat × Instr × Nat) := [(0, .aload_n 0, 1), (1, .getfield 9, 3), (4, .bipush 40, 2), (6, .bipush 8, 2), (8, .iload_n 1, 1), (9, .imul, 1), (10, .iadd, 1), (11, .iload_n 2, 1), (12, .iadd, 1), (13, .iaload, 1), (14, .ireturn, 1)]
set_option maxRecDepth 100000 in
theorem ddX5_of : dchk cX5_of dlX5_of = true := by decide +kernel
def dlX5_put : List (Nat × Instr × Nat) := [(0, .aload_n 0, 1), (1, .getfield 9, 3), (4, .bipush 40, 2), (6, .bipush 8, 2), (8, .iload_n 1, 1), (9, .imul, 1), (10, .iadd, 1), (11, .iload_n 2, 1), (12, .iadd, 1), (13, .iload_n 3, 1), (14, .iastore, 1), (15, .return_, 1)]
set_option maxRecDepth 100000 in
theorem ddX5_put : dchk cX5_put dlX5_put = true := by decide +kernel
def dlX5_floatOf : List (Nat × Instr × Nat) := [(0, .aload_n 0, 1), (1, .iload_n 1, 1), (2, .iload_n 2, 1), (3, .invokevirtual 100, 3), (6, .invokestatic 92, 3), (9, .freturn, 1)]
set_option maxRecDepth 100000 in
theorem ddX5_floatOf : dchk cX5_floatOf dlX5_floatOf = true := by decide +kernel
def dlX5_putFloat : List (Nat × Instr × Nat) := [(0, .aload_n 0, 1), (1, .iload_n 1, 1), (2, .iload_n 2, 1), (3, .fload_n 3, 1), (4, .invokestatic 43, 3), (7, .invokevirtual 103, 3), (10, .return_, 1)]
set_option maxRecDepth 100000 in
theorem ddX5_putFloat : dchk cX5_putFloat dlX5_putFloat = true := by decide +kernel
def dlX5_busker : List (Nat × Instr × Nat) := [(0, .aload_n 0, 1), (1, .iconst 1, 1), (2, .iload_n 1, 1), (3, .iconst 0, 1), (4, .iconst 1, 1), (5, .invokestatic 77, 3), (8, .ifCond .eq 13, 3), (11, .iload_n 2, 1), (12, .iconst 1, 1), (13, .bipush 9, 2), (15, .invokestatic 77, 3), (18, .ifCond .ne 7, 3), (21, .iconst 1, 1), (22, .goto 4, 3), (25, .iconst 0, 1), (26, .invokevirtual 81, 3), (29, .ifCond .ne 34, 3), (32, .aload_n 0, 1), (33, .iconst 2, 1), (34, .aload_n 0, 1), (35, .aload_n 0, 1), (36, .getfield 9, 3), (39, .iconst 2, 1), (40, .iaload, 1), (41, .bipush 8, 2), (43, .if_icmp .ne 7, 3), (46, .iconst 1, 1), (47, .goto 4, 3), (50, .iconst 0, 1), (51, .iconst 1, 1), (52, .bipush 8, 2), (54, .invokevirtual 106, 3), (57, .invokevirtual 81, 3), (60, .ifCond .eq 5, 3), (63, .iconst 0, 1), (64, .ireturn, 1), (65, .aload_n 0, 1), (66, .invokevirtual 85, 3), (69, .aload_n 0, 1), (70, .getfield 9, 3), (73, .iconst 2, 1), (74, .iaload, 1), (75, .istore_n 3, 1), (76, .aload_n 0, 1), (77, .getfield 9, 3), (80, .iconst 2, 1), (81, .dup2, 1), (82, .iaload, 1), (83, .iconst 1, 1), (84, .iadd, 1), (85, .iastore, 1), (86, .aload_n 0, 1), (87, .iload_n 3, 1), (88, .iconst 0, 1), (89, .iload_n 1, 1), (90, .invokevirtual 103, 3), (93, .aload_n 0, 1), (94, .iload_n 3, 1), (95, .iconst 1, 1), (96, .iload_n 2, 1), (97, .invokevirtual 103, 3), (100, .aload_n 0, 1), (101, .iload_n 3, 1), (102, .iconst 2, 1), (103, .fconst 0, 1), (104, .invokevirtual 110, 3), (107, .aload_n 0, 1), (108, .iload_n 3, 1), (109, .iconst 3, 1), (110, .fconst 0, 1), (111, .invokevirtual 110, 3), (114, .aload_n 0, 1), (115, .iload_n 3, 1), (116, .iconst 4, 1), (117, .iconst (-1), 1), (118, .invokevirtual 103, 3), (121, .aload_n 0, 1), (122, .iload_n 3, 1), (123, .iconst 5, 1), (124, .iconst (-1), 1), (125, .invokevirtual 103, 3), (128, .aload_n 0, 1), (129, .iload_n 3, 1), (130, .bipush 6, 2), (132, .iconst 0, 1), (133, .invokevirtual 103, 3), (136, .aload_n 0, 1), (137, .iload_n 3, 1), (138, .bipush 7, 2), (140, .iconst 0, 1), (141, .invokevirtual 103, 3), (144, .iload_n 3, 1), (145, .ireturn, 1)]
set_option maxRecDepth 100000 in
theorem ddX5_busker : dchk cX5_busker dlX5_busker = true := by decide +kernel
def dlX5_placeInLine : List (Nat × Instr × Nat) := [(0, .iconst 0, 1), (1, .istore_n 2, 1), (2, .iload_n 2, 1), (3, .aload_n 0, 1), (4, .getfield 9, 3), (7, .iconst 3, 1), (8, .iaload, 1), (9, .if_icmp .ge 24, 3), (12, .aload_n 0, 1), (13, .getfield 9, 3), (16, .bipush 104, 2), (18, .iload_n 2, 1), (19, .iadd, 1), (20, .iaload, 1), (21, .iload_n 1, 1), (22, .if_icmp .ne 5, 3), (25, .iload_n 2, 1), (26, .ireturn, 1), (27, .iinc 2 1, 3), (30, .goto (-28), 3), (33, .iconst (-1), 1), (34, .ireturn, 1)]
set_option maxRecDepth 100000 in
theorem ddX5_placeInLine : dchk cX5_placeInLine dlX5_placeInLine = true := by decide +kernel
def dlX5_buskerOf : List (Nat × Instr × Nat) := [(0, .aload_n 0, 1), (1, .iconst 1, 1), (2, .aload_n 0, 1), (3, .iload_n 1, 1), (4, .invokevirtual 114, 3), (7, .ifCond .ne 7, 3), (10, .iconst 1, 1), (11, .goto 4, 3), (14, .iconst 0, 1), (15, .invokevirtual 81, 3), (18, .ifCond .ne 26, 3), (21, .aload_n 0, 1), (22, .iconst 2, 1), (23, .iload_n 2, 1), (24, .iconst 0, 1), (25, .bipush 6, 2), (27, .invokestatic 77, 3), (30, .ifCond .ne 7, 3), (33, .iconst 1, 1), (34, .goto 4, 3), (37, .iconst 0, 1), (38, .invokevirtual 81, 3), (41, .ifCond .eq 5, 3), (44, .iconst 0, 1), (45, .ireturn, 1), (46, .iload_n 2, 1), (47, .tableswitch 79 0 5 #[37, 44, 51, 58, 64, 71], 37), (84, .aload_n 0, 1), (85, .iload_n 1, 1), (86, .iconst 0, 1), (87, .invokevirtual 100, 3), (90, .ireturn, 1), (91, .aload_n 0, 1), (92, .iload_n 1, 1), (93, .iconst 1, 1), (94, .invokevirtual 100, 3), (97, .ireturn, 1), (98, .aload_n 0, 1), (99, .iload_n 1, 1), (100, .iconst 4, 1), (101, .invokevirtual 100, 3), (104, .ireturn, 1), (105, .aload_n 0, 1), (106, .iload_n 1, 1), (107, .invokevirtual 117, 3), (110, .ireturn, 1), (111, .aload_n 0, 1), (112, .iload_n 1, 1), (113, .iconst 5, 1), (114, .invokevirtual 100, 3), (117, .ireturn, 1), (118, .aload_n 0, 1), (119, .iload_n 1, 1), (120, .bipush 6, 2), (122, .invokevirtual 100, 3), (125, .ireturn, 1), (126, .aload_n 0, 1), (127, .iload_n 1, 1), (128, .bipush 7, 2), (130, .invokevirtual 100, 3), (133, .ireturn, 1)]
set_option maxRecDepth 100000 in
theorem ddX5_buskerOf : dchk cX5_buskerOf dlX5_buskerOf = true := by decide +kernel
def dlX5_hat : List (Nat × Instr × Nat) := [(0, .aload_n 0, 1), (1, .iconst 1, 1), (2, .aload_n 0, 1), (3, .iload_n 1, 1), (4, .invokevirtual 114, 3), (7, .ifCond .ne 7, 3), (10, .iconst 1, 1), (11, .goto 4, 3), (14, .iconst 0, 1), (15, .invokevirtual 81, 3), (18, .ifCond .eq 7, 3), (21, .fconst 0, 1), (22, .goto 9, 3), (25, .aload_n 0, 1), (26, .iload_n 1, 1), (27, .iconst 2, 1), (28, .invokevirtual 121, 3), (31, .freturn, 1)]
set_option maxRecDepth 100000 in
theorem ddX5_hat : dchk cX5_hat dlX5_hat = true := by decide +kernel
def dlX5_wear : List (Nat × Instr × Nat) := [(0, .aload_n 0, 1), (1, .iconst 1, 1), (2, .aload_n 0, 1), (3, .iload_n 1, 1), (4, .invokevirtual 114, 3), (7, .ifCond .ne 7, 3), (10, .iconst 1, 1), (11, .goto 4, 3), (14, .iconst 0, 1), (15, .invokevirtual 81, 3), (18, .ifCond .eq 7, 3), (21, .iconst 0, 1), (22, .goto 9, 3), (25, .aload_n 0, 1), (26, .iload_n 1, 1), (27, .iconst 3, 1), (28, .invokevirtual 100, 3), (31, .ireturn, 1)]
set_option maxRecDepth 100000 in
theorem ddX5_wear : dchk cX5_wear dlX5_wear = true := by decide +kernel
def dlX5_isSnapped : List (Nat × Instr × Nat) := [(0, .aload_n 0, 1), (1, .iload_n 1, 1), (2, .iconst 3, 1), (3, .invokevirtual 121, 3), (6, .fconst 1, 1), (7, .fcmp .l, 1), (8, .ifCond .lt 7, 3), (11, .iconst 1, 1), (12, .goto 4, 3), (15, .iconst 0, 1), (16, .ireturn, 1)]
set_option maxRecDepth 100000 in
theorem ddX5_isSnapped : dchk cX5_isSnapped dlX5_isSnapped = true := by decide +kernel
def dlX5_pitchOf : List (Nat × Instr × Nat) := [(0, .aload_n 0, 1), (1, .iconst 1, 1), (2, .iload_n 1, 1), (3, .invokestatic 96, 3), (6, .ifCond .ne 7, 3), (9, .iconst 1, 1), (10, .goto 4, 3), (13, .iconst 0, 1), (14, .invokevirtual 81, 3), (17, .ifCond .ne 25, 3), (20, .aload_n 0, 1), (21, .iconst 2, 1), (22, .iload_n 2, 1), (23, .iconst 0, 1), (24, .iconst 2, 1), (25, .invokestatic 77, 3), (28, .ifCond .ne 7, 3), (31, .iconst 1, 1), (32, .goto 4, 3), (35, .iconst 0, 1), (36, .invokevirtual 81, 3), (39, .ifCond .eq 5, 3), (42, .iconst 0, 1), (43, .ireturn, 1), (44, .aload_n 0, 1), (45, .iload_n 1, 1), (46, .iload_n 2, 1), (47, .ifCond .ne 7, 3), (50, .iconst 3, 1), (51, .goto 4, 3), (54, .iload_n 2, 1), (55, .invokevirtual 88, 3), (58, .ireturn, 1)]
set_option maxRecDepth 100000 in
theorem ddX5_pitchOf : dchk cX5_pitchOf dlX5_pitchOf = true := by decide +kernel
def dlX5_isJoinRefused : List (Nat × Instr × Nat) := [(0, .aload_n 0, 1), (1, .iload_n 1, 1), (2, .invokevirtual 117, 3), (5, .istore_n 2, 1), (6, .aload_n 0, 1), (7, .iload_n 1, 1), (8, .iconst 4, 1), (9, .invokevirtual 100, 3), (12, .istore_n 3, 1), (13, .aload_n 0, 1), (14, .iload_n 2, 1), (15, .iconst (-1), 1), (16, .if_icmp .eq 7, 3), (19, .iconst 1, 1), (20, .goto 4, 3), (23, .iconst 0, 1), (24, .iconst 2, 1), (25, .iload_n 2, 1), (26, .invokevirtual 106, 3), (29, .ifCond .ne 36, 3), (32, .aload_n 0, 1), (33, .iload_n 3, 1), (34, .iconst (-1), 1), (35, .if_icmp .eq 7, 3), (38, .iconst 1, 1), (39, .goto 4, 3), (42, .iconst 0, 1), (43, .iconst 3, 1), (44, .iload_n 3, 1), (45, .invokevirtual 106, 3), (48, .ifCond .ne 17, 3), (51, .aload_n 0, 1), (52, .aload_n 0, 1), (53, .iload_n 1, 1), (54, .invokevirtual 125, 3), (57, .iconst 4, 1), (58, .iload_n 1, 1), (59, .invokevirtual 106, 3), (62, .ifCond .eq 7, 3), (65, .iconst 1, 1), (66, .goto 4, 3), (69, .iconst 0, 1), (70, .ireturn, 1)]
set_option maxRecDepth 100000 in
theorem ddX5_isJoinRefused : dchk cX5_isJoinRefused dlX5_isJoinRefused = true := by decide +kernel
def dlX5_join : List (Nat × Instr × Nat) := [(0, .aload_n 0, 1), (1, .iconst 1, 1), (2, .aload_n 0, 1), (3, .iload_n 1, 1), (4, .invokevirtual 114, 3), (7, .ifCond .ne 7, 3), (10, .iconst 1, 1), (11, .goto 4, 3), (14, .iconst 0, 1), (15, .invokevirtual 81, 3), (18, .ifCond .ne 16, 3), (21, .aload_n 0, 1), (22, .iconst 2, 1), (23, .aload_n 0, 1), (24, .iload_n 1, 1), (25, .invokevirtual 128, 3), (28, .invokevirtual 81, 3), (31, .ifCond .eq 5, 3), (34, .iconst 0, 1), (35, .ireturn, 1), (36, .aload_n 0, 1), (37, .invokevirtual 85, 3), (40, .aload_n 0, 1), (41, .getfield 9, 3), (44, .bipush 104, 2), (46, .aload_n 0, 1), (47, .getfield 9, 3), (50, .iconst 3, 1), (51, .iaload, 1), (52, .iadd, 1), (53, .iload_n 1, 1), (54, .iastore, 1), (55, .aload_n 0, 1), (56, .getfield 9, 3), (59, .iconst 3, 1), (60, .dup2, 1), (61, .iaload, 1), (62, .iconst 1, 1), (63, .iadd, 1), (64, .iastore, 1), (65, .aload_n 0, 1), (66, .getfield 9, 3), (69, .iconst 3, 1), (70, .iaload, 1), (71, .ireturn, 1)]
set_option maxRecDepth 100000 in
theorem ddX5_join : dchk cX5_join dlX5_join = true := by decide +kernel
def dlX5_isDrawRefused : List (Nat × Instr × Nat) := [(0, .aload_n 0, 1), (1, .iload_n 1, 1), (2, .iconst 3, 1), (3, .invokevirtual 88, 3), (6, .istore_n 2, 1), (7, .aload_n 0, 1), (8, .iload_n 2, 1), (9, .iconst (-1), 1), (10, .if_icmp .eq 7, 3), (13, .iconst 1, 1), (14, .goto 4, 3), (17, .iconst 0, 1), (18, .iconst 5, 1), (19, .iload_n 2, 1), (20, .invokevirtual 106, 3), (23, .ifCond .ne 27, 3), (26, .aload_n 0, 1), (27, .aload_n 0, 1), (28, .getfield 9, 3), (31, .iconst 3, 1), (32, .iaload, 1), (33, .ifCond .ne 7, 3), (36, .iconst 1, 1), (37, .goto 4, 3), (40, .iconst 0, 1), (41, .bipush 6, 2), (43, .iconst 0, 1), (44, .invokevirtual 106, 3), (47, .ifCond .eq 7, 3), (50, .iconst 1, 1), (51, .goto 4, 3), (54, .iconst 0, 1), (55, .ireturn, 1)]
set_option maxRecDepth 100000 in
theorem ddX5_isDrawRefused : dchk cX5_isDrawRefused dlX5_isDrawRefused = true := by decide +kernel
def dlX5_draw : List (Nat × Instr × Nat) := [(0, .aload_n 0, 1), (1, .iconst 1, 1), (2, .iload_n 1, 1), (3, .invokestatic 96, 3), (6, .ifCond .ne 7, 3), (9, .iconst 1, 1), (10, .goto 4, 3), (13, .iconst 0, 1), (14, .invokevirtual 81, 3), (17, .ifCond .ne 39, 3), (20, .aload_n 0, 1), (21, .iconst 2, 1), (22, .iload_n 2, 1), (23, .iconst 0, 1), (24, .bipush 99, 2), (26, .invokestatic 77, 3), (29, .ifCond .ne 7, 3), (32, .iconst 1, 1), (33, .goto 4, 3), (36, .iconst 0, 1), (37, .invokevirtual 81, 3), (40, .ifCond .ne 16, 3), (43, .aload_n 0, 1), (44, .iconst 3, 1), (45, .aload_n 0, 1), (46, .iload_n 1, 1), (47, .invokevirtual 131, 3), (50, .invokevirtual 81, 3), (53, .ifCond .eq 5, 3), (56, .iconst 0, 1), (57, .ireturn, 1), (58, .aload_n 0, 1), (59, .invokevirtual 85, 3), (62, .iload_n 2, 1), (63, .aload_n 0, 1), (64, .getfield 9, 3), (67, .iconst 3, 1), (68, .iaload, 1), (69, .irem, 1), (70, .istore_n 3, 1), (71, .aload_n 0, 1), (72, .getfield 9, 3), (75, .bipush 104, 2), (77, .iload_n 3, 1), (78, .iadd, 1), (79, .iaload, 1), (80, .istore 4, 2), (82, .aload_n 0, 1), (83, .getfield 9, 3), (86, .iconst 3, 1), (87, .dup2, 1), (88, .iaload, 1), (89, .iconst 1, 1), (90, .isub, 1), (91, .iastore, 1), (92, .iload_n 3, 1), (93, .istore 5, 2), (95, .iload 5, 2), (97, .aload_n 0, 1), (98, .getfield 9, 3), (101, .iconst 3, 1), (102, .iaload, 1), (103, .if_icmp .ge 31, 3), (106, .aload_n 0, 1), (107, .getfield 9, 3), (110, .bipush 104, 2), (112, .iload 5, 2), (114, .iadd, 1), (115, .aload_n 0, 1), (116, .getfield 9, 3), (119, .bipush 104, 2), (121, .iload 5, 2), (123, .iadd, 1), (124, .iconst 1, 1), (125, .iadd, 1), (126, .iaload, 1), (127, .iastore, 1), (128, .iinc 5 1, 3), (131, .goto (-36), 3), (134, .aload_n 0, 1), (135, .iload_n 1, 1), (136, .iconst 3, 1), (137, .iload 4, 2), (139, .invokevirtual 49, 3), (142, .aload_n 0, 1), (143, .iload 4, 2), (145, .iconst 4, 1), (146, .iload_n 1, 1), (147, .invokevirtual 103, 3), (150, .aload_n 0, 1), (151, .getfield 9, 3), (154, .bipush 7, 2), (156, .dup2, 1), (157, .iaload, 1), (158, .iconst 1, 1), (159, .iadd, 1), (160, .iastore, 1), (161, .iload 4, 2), (163, .ireturn, 1)]
set_option maxRecDepth 100000 in
theorem ddX5_draw : dchk cX5_draw dlX5_draw = true := by decide +kernel
def dlX5_waiting : List (Nat × Instr × Nat) := [(0, .aload_n 0, 1), (1, .iconst 1, 1), (2, .iload_n 1, 1), (3, .iconst 0, 1), (4, .aload_n 0, 1), (5, .getfield 9, 3), (8, .iconst 3, 1), (9, .iaload, 1), (10, .iconst 1, 1), (11, .isub, 1), (12, .invokestatic 77, 3), (15, .ifCond .ne 7, 3), (18, .iconst 1, 1), (19, .goto 4, 3), (22, .iconst 0, 1), (23, .invokevirtual 81, 3), (26, .ifCond .eq 7, 3), (29, .iconst 0, 1), (30, .goto 12, 3), (33, .aload_n 0, 1), (34, .getfield 9, 3), (37, .bipush 104, 2), (39, .iload_n 1, 1), (40, .iadd, 1), (41, .iaload, 1), (42, .ireturn, 1)]
set_option maxRecDepth 100000 in
theorem ddX5_waiting : dchk cX5_waiting dlX5_waiting = true := by decide +kernel
def dlX5_goHome : List (Nat × Instr × Nat) := [(0, .aload_n 0, 1), (1, .aload_n 0, 1), (2, .iload_n 1, 1), (3, .iconst 3, 1), (4, .invokevirtual 88, 3), (7, .iconst 4, 1), (8, .iconst (-1), 1), (9, .invokevirtual 103, 3), (12, .aload_n 0, 1), (13, .iload_n 1, 1), (14, .iconst 3, 1), (15, .iconst (-1), 1), (16, .invokevirtual 49, 3), (19, .return_, 1)]
set_option maxRecDepth 100000 in
theorem ddX5_goHome : dchk cX5_goHome dlX5_goHome = true := by decide +kernel
def dlX5_leave : List (Nat × Instr × Nat) := [(0, .aload_n 0, 1), (1, .iconst 1, 1), (2, .iload_n 1, 1), (3, .invokestatic 96, 3), (6, .ifCond .ne 7, 3), (9, .iconst 1, 1), (10, .goto 4, 3), (13, .iconst 0, 1), (14, .invokevirtual 81, 3), (17, .ifCond .ne 33, 3), (20, .aload_n 0, 1), (21, .iconst 2, 1), (22, .aload_n 0, 1), (23, .aload_n 0, 1), (24, .iload_n 1, 1), (25, .iconst 3, 1), (26, .invokevirtual 88, 3), (29, .iconst (-1), 1), (30, .if_icmp .ne 7, 3), (33, .iconst 1, 1), (34, .goto 4, 3), (37, .iconst 0, 1), (38, .bipush 7, 2), (40, .iload_n 1, 1), (41, .invokevirtual 106, 3), (44, .invokevirtual 81, 3), (47, .ifCond .eq 5, 3), (50, .iconst 0, 1), (51, .ireturn, 1), (52, .aload_n 0, 1), (53, .invokevirtual 85, 3), (56, .aload_n 0, 1), (57, .iload_n 1, 1), (58, .iconst 3, 1), (59, .invokevirtual 88, 3), (62, .istore_n 2, 1), (63, .aload_n 0, 1), (64, .iload_n 1, 1), (65, .invokevirtual 134, 3), (68, .iload_n 2, 1), (69, .ireturn, 1)]
set_option maxRecDepth 100000 in
theorem ddX5_leave : dchk cX5_leave dlX5_leave = true := by decide +kernel
def dlX5_isSwapRefused : List (Nat × Instr × Nat) := [(0, .aload_n 0, 1), (1, .aload_n 0, 1), (2, .iload_n 1, 1), (3, .iconst 3, 1), (4, .invokevirtual 88, 3), (7, .iconst (-1), 1), (8, .if_icmp .ne 7, 3), (11, .iconst 1, 1), (12, .goto 4, 3), (15, .iconst 0, 1), (16, .bipush 7, 2), (18, .iload_n 1, 1), (19, .invokevirtual 106, 3), (22, .ifCond .ne 28, 3), (25, .aload_n 0, 1), (26, .aload_n 0, 1), (27, .iload_n 2, 1), (28, .iconst 3, 1), (29, .invokevirtual 88, 3), (32, .iconst (-1), 1), (33, .if_icmp .ne 7, 3), (36, .iconst 1, 1), (37, .goto 4, 3), (40, .iconst 0, 1), (41, .bipush 7, 2), (43, .iload_n 2, 1), (44, .invokevirtual 106, 3), (47, .ifCond .eq 7, 3), (50, .iconst 1, 1), (51, .goto 4, 3), (54, .iconst 0, 1), (55, .ireturn, 1)]
set_option maxRecDepth 100000 in
theorem ddX5_isSwapRefused : dchk cX5_isSwapRefused dlX5_isSwapRefused = true := by decide +kernel
def dlX5_swap : List (Nat × Instr × Nat) := [(0, .aload_n 0, 1), (1, .iconst 1, 1), (2, .iload_n 1, 1), (3, .invokestatic 96, 3), (6, .ifCond .eq 10, 3), (9, .iload_n 2, 1), (10, .invokestatic 96, 3), (13, .ifCond .ne 7, 3), (16, .iconst 1, 1), (17, .goto 4, 3), (20, .iconst 0, 1), (21, .invokevirtual 81, 3), (24, .ifCond .ne 17, 3), (27, .aload_n 0, 1), (28, .iconst 2, 1), (29, .aload_n 0, 1), (30, .iload_n 1, 1), (31, .iload_n 2, 1), (32, .invokevirtual 138, 3), (35, .invokevirtual 81, 3), (38, .ifCond .eq 5, 3), (41, .iconst 0, 1), (42, .ireturn, 1), (43, .aload_n 0, 1), (44, .invokevirtual 85, 3), (47, .aload_n 0, 1), (48, .iload_n 1, 1), (49, .iconst 3, 1), (50, .invokevirtual 88, 3), (53, .istore_n 3, 1), (54, .aload_n 0, 1), (55, .iload_n 2, 1), (56, .iconst 3, 1), (57, .invokevirtual 88, 3), (60, .istore 4, 2), (62, .aload_n 0, 1), (63, .iload_n 1, 1), (64, .iconst 3, 1), (65, .iload 4, 2), (67, .invokevirtual 49, 3), (70, .aload_n 0, 1), (71, .iload_n 2, 1), (72, .iconst 3, 1), (73, .iload_n 3, 1), (74, .invokevirtual 49, 3), (77, .aload_n 0, 1), (78, .iload 4, 2), (80, .iconst 4, 1), (81, .iload_n 1, 1), (82, .invokevirtual 103, 3), (85, .aload_n 0, 1), (86, .iload_n 3, 1), (87, .iconst 4, 1), (88, .iload_n 2, 1), (89, .invokevirtual 103, 3), (92, .iload 4, 2), (94, .ireturn, 1)]
set_option maxRecDepth 100000 in
theorem ddX5_swap : dchk cX5_swap dlX5_swap = true := by decide +kernel
def dlX5_ownOf : List (Nat × Instr × Nat) := [(0, .ldc 142, 2), (2, .ldc 143, 2), (4, .aload_n 0, 1), (5, .iload_n 1, 1), (6, .iconst 1, 1), (7, .invokevirtual 100, 3), (10, .i2f, 1), (11, .fmul, 1), (12, .fadd, 1), (13, .fstore_n 2, 1), (14, .aload_n 0, 1), (15, .iload_n 1, 1), (16, .iconst 0, 1), (17, .invokevirtual 100, 3), (20, .ifCond .ne 7, 3), (23, .fload_n 2, 1), (24, .goto 7, 3), (27, .fload_n 2, 1), (28, .ldc 144, 2), (30, .fadd, 1), (31, .freturn, 1)]
set_option maxRecDepth 100000 in
theorem ddX5_ownOf : dchk cX5_ownOf dlX5_ownOf = true := by decide +kernel
def dlX5_own : List (Nat × Instr × Nat) := [(0, .iload_n 1, 1), (1, .invokestatic 96, 3), (4, .ifCond .eq 13, 3), (7, .aload_n 0, 1), (8, .iload_n 1, 1), (9, .iconst 3, 1), (10, .invokevirtual 88, 3), (13, .iconst (-1), 1), (14, .if_icmp .ne 7, 3), (17, .fconst 0, 1), (18, .goto 13, 3), (21, .aload_n 0, 1), (22, .aload_n 0, 1), (23, .iload_n 1, 1), (24, .iconst 3, 1), (25, .invokevirtual 88, 3), (28, .invokevirtual 145, 3), (31, .freturn, 1)]
set_option maxRecDepth 100000 in
theorem ddX5_own : dchk cX5_own dlX5_own = true := by decide +kernel
def dlX5_noiseBy : List (Nat × Instr × Nat) := [(0, .fload_n 2, 1), (1, .ldc 148, 2), (3, .aload_n 0, 1), (4, .iload_n 1, 1), (5, .iconst 1, 1), (6, .isub, 1), (7, .invokevirtual 149, 3), (10, .fmul, 1), (11, .fadd, 1), (12, .ldc 148, 2), (14, .aload_n 0, 1), (15, .iload_n 1, 1), (16, .iconst 1, 1), (17, .iadd, 1), (18, .invokevirtual 149, 3), (21, .fmul, 1), (22, .fadd, 1), (23, .freturn, 1)]
set_option maxRecDepth 100000 in
theorem ddX5_noiseBy : dchk cX5_noiseBy dlX5_noiseBy = true := by decide +kernel
def dlX5_noiseAt : List (Nat × Instr × Nat) := [(0, .aload_n 0, 1), (1, .iload_n 1, 1), (2, .aload_n 0, 1), (3, .iload_n 1, 1), (4, .invokevirtual 149, 3), (7, .invokevirtual 152, 3), (10, .freturn, 1)]
set_option maxRecDepth 100000 in
theorem ddX5_noiseAt : dchk cX5_noiseAt dlX5_noiseAt = true := by decide +kernel
def dlX5_noise : List (Nat × Instr × Nat) := [(0, .aload_n 0, 1), (1, .iconst 1, 1), (2, .iload_n 1, 1), (3, .invokestatic 96, 3), (6, .ifCond .ne 7, 3), (9, .iconst 1, 1), (10, .goto 4, 3), (13, .iconst 0, 1), (14, .invokevirtual 81, 3), (17, .ifCond .eq 7, 3), (20, .iconst 0, 1), (21, .goto 11, 3), (24, .aload_n 0, 1), (25, .iload_n 1, 1), (26, .invokevirtual 156, 3), (29, .invokestatic 43, 3), (32, .ireturn, 1)]
set_option maxRecDepth 100000 in
theorem ddX5_noise : dchk cX5_noise dlX5_noise = true := by decide +kernel
def dlX5_noiseAgain : List (Nat × Instr × Nat) := [(0, .aload_n 0, 1), (1, .iconst 1, 1), (2, .iload_n 1, 1), (3, .invokestatic 96, 3), (6, .ifCond .ne 7, 3), (9, .iconst 1, 1), (10, .goto 4, 3), (13, .iconst 0, 1), (14, .invokevirtual 81, 3), (17, .ifCond .eq 5, 3), (20, .iconst 0, 1), (21, .ireturn, 1), (22, .iconst (-1), 1), (23, .istore_n 2, 1), (24, .iload_n 2, 1), (25, .bipush 8, 2), (27, .if_icmp .gt 22, 3), (30, .aload_n 0, 1), (31, .getfield 31, 3), (34, .iload_n 2, 1), (35, .iconst 1, 1), (36, .iadd, 1), (37, .aload_n 0, 1), (38, .iload_n 2, 1), (39, .invokevirtual 149, 3), (42, .fastore, 1), (43, .iinc 2 1, 3), (46, .goto (-22), 3), (49, .aload_n 0, 1), (50, .getfield 31, 3), (53, .iload_n 1, 1), (54, .iconst 1, 1), (55, .iadd, 1), (56, .faload, 1), (57, .ldc 148, 2), (59, .aload_n 0, 1), (60, .getfield 31, 3), (63, .iload_n 1, 1), (64, .faload, 1), (65, .fmul, 1), (66, .fadd, 1), (67, .ldc 148, 2), (69, .aload_n 0, 1), (70, .getfield 31, 3), (73, .iload_n 1, 1), (74, .iconst 2, 1), (75, .iadd, 1), (76, .faload, 1), (77, .fmul, 1), (78, .fadd, 1), (79, .invokestatic 43, 3), (82, .ireturn, 1)]
set_option maxRecDepth 100000 in
theorem ddX5_noiseAgain : dchk cX5_noiseAgain dlX5_noiseAgain = true := by decide +kernel
def dlX5_noiseWith : List (Nat × Instr × Nat) := [(0, .aload_n 0, 1), (1, .iconst 1, 1), (2, .iload_n 1, 1), (3, .invokestatic 96, 3), (6, .ifCond .eq 11, 3), (9, .aload_n 0, 1), (10, .iload_n 2, 1), (11, .invokevirtual 114, 3), (14, .ifCond .ne 7, 3), (17, .iconst 1, 1), (18, .goto 4, 3), (21, .iconst 0, 1), (22, .invokevirtual 81, 3), (25, .ifCond .eq 7, 3), (28, .iconst 0, 1), (29, .goto 16, 3), (32, .aload_n 0, 1), (33, .iload_n 1, 1), (34, .aload_n 0, 1), (35, .iload_n 2, 1), (36, .invokevirtual 145, 3), (39, .invokevirtual 152, 3), (42, .invokestatic 43, 3), (45, .ireturn, 1)]
set_option maxRecDepth 100000 in
theorem ddX5_noiseWith : dchk cX5_noiseWith dlX5_noiseWith = true := by decide +kernel
def dlX5_quietest : List (Nat × Instr × Nat) := [(0, .aload_n 0, 1), (1, .iconst 1, 1), (2, .aload_n 0, 1), (3, .iload_n 1, 1), (4, .invokevirtual 114, 3), (7, .ifCond .ne 7, 3), (10, .iconst 1, 1), (11, .goto 4, 3), (14, .iconst 0, 1), (15, .invokevirtual 81, 3), (18, .ifCond .eq 5, 3), (21, .iconst 0, 1), (22, .ireturn, 1), (23, .iconst (-1), 1), (24, .istore_n 2, 1), (25, .fconst 0, 1), (26, .fstore_n 3, 1), (27, .iconst 0, 1), (28, .istore 4, 2), (30, .iload 4, 2), (32, .bipush 8, 2), (34, .if_icmp .ge 100, 3), (37, .aload_n 0, 1), (38, .iload 4, 2), (40, .aload_n 0, 1), (41, .iload_n 1, 1), (42, .invokevirtual 145, 3), (45, .invokevirtual 152, 3), (48, .fstore 5, 2), (50, .aload_n 0, 1), (51, .iload 4, 2), (53, .iconst 3, 1), (54, .invokevirtual 88, 3), (57, .iconst (-1), 1), (58, .if_icmp .ne 19, 3), (61, .fload 5, 2), (63, .aload_n 0, 1), (64, .iload 4, 2), (66, .invokevirtual 159, 3), (69, .fcmp .g, 1), (70, .ifCond .gt 7, 3), (73, .iconst 1, 1), (74, .goto 4, 3), (77, .iconst 0, 1), (78, .istore 6, 2), (80, .iload 6, 2), (82, .ifCond .eq 19, 3), (85, .iload_n 2, 1), (86, .iconst (-1), 1), (87, .if_icmp .eq 10, 3), (90, .fload 5, 2), (92, .fload_n 3, 1), (93, .fcmp .g, 1), (94, .ifCond .ge 7, 3), (97, .iconst 1, 1), (98, .goto 4, 3), (101, .iconst 0, 1), (102, .istore 7, 2), (104, .iload 7, 2), (106, .ifCond .eq 8, 3), (109, .iload 4, 2), (111, .goto 4, 3), (114, .iload_n 2, 1), (115, .istore_n 2, 1), (116, .iload 7, 2), (118, .ifCond .eq 8, 3), (121, .fload 5, 2), (123, .goto 4, 3), (126, .fload_n 3, 1), (127, .fstore_n 3, 1), (128, .iinc 4 1, 3), (131, .goto (-101), 3), (134, .aload_n 0, 1), (135, .iconst 2, 1), (136, .iload_n 2, 1), (137, .iconst (-1), 1), (138, .if_icmp .ne 7, 3), (141, .iconst 1, 1), (142, .goto 4, 3), (145, .iconst 0, 1), (146, .invokevirtual 81, 3), (149, .ifCond .eq 7, 3), (152, .iconst 0, 1), (153, .goto 4, 3), (156, .iload_n 2, 1), (157, .ireturn, 1)]
set_option maxRecDepth 100000 in
theorem ddX5_quietest : dchk cX5_quietest dlX5_quietest = true := by decide +kernel
def dlX5_below : List (Nat × Instr × Nat) := [(0, .aload_n 0, 1), (1, .iconst 1, 1), (2, .iload_n 1, 1), (3, .invokestatic 96, 3), (6, .ifCond .ne 7, 3), (9, .iconst 1, 1), (10, .goto 4, 3), (13, .iconst 0, 1), (14, .invokevirtual 81, 3), (17, .ifCond .eq 7, 3), (20, .fconst 0, 1), (21, .goto 14, 3), (24, .aload_n 0, 1), (25, .iload_n 1, 1), (26, .invokevirtual 159, 3), (29, .aload_n 0, 1), (30, .iload_n 1, 1), (31, .invokevirtual 156, 3), (34, .fsub, 1), (35, .freturn, 1)]
set_option maxRecDepth 100000 in
theorem ddX5_below : dchk cX5_below dlX5_below = true := by decide +kernel
def dlX5_loudest : List (Nat × Instr × Nat) := [(0, .aload_n 0, 1), (1, .iconst 0, 1), (2, .putfield 53, 3), (5, .iconst 0, 1), (6, .istore_n 1, 1), (7, .iconst 1, 1), (8, .istore_n 2, 1), (9, .iload_n 2, 1), (10, .bipush 8, 2), (12, .if_icmp .ge 29, 3), (15, .aload_n 0, 1), (16, .iload_n 2, 1), (17, .invokevirtual 156, 3), (20, .aload_n 0, 1), (21, .iload_n 1, 1), (22, .invokevirtual 156, 3), (25, .fcmp .l, 1), (26, .ifCond .le 7, 3), (29, .iload_n 2, 1), (30, .goto 4, 3), (33, .iload_n 1, 1), (34, .istore_n 1, 1), (35, .iinc 2 1, 3), (38, .goto (-29), 3), (41, .iload_n 1, 1), (42, .ireturn, 1)]
set_option maxRecDepth 100000 in
theorem ddX5_loudest : dchk cX5_loudest dlX5_loudest = true := by decide +kernel
def dlX5_strings : List (Nat × Instr × Nat) := [(0, .aload_n 0, 1), (1, .iconst 1, 1), (2, .aload_n 0, 1), (3, .iload_n 1, 1), (4, .invokevirtual 114, 3), (7, .ifCond .ne 7, 3), (10, .iconst 1, 1), (11, .goto 4, 3), (14, .iconst 0, 1), (15, .invokevirtual 81, 3), (18, .ifCond .eq 5, 3), (21, .iconst 0, 1), (22, .ireturn, 1), (23, .aload_n 0, 1), (24, .iload_n 1, 1), (25, .iconst 2, 1), (26, .invokevirtual 121, 3), (29, .fstore_n 2, 1), (30, .aload_n 0, 1), (31, .iconst 2, 1), (32, .aload_n 0, 1), (33, .fload_n 2, 1), (34, .fconst 2, 1), (35, .fcmp .g, 1), (36, .ifCond .ge 7, 3), (39, .iconst 1, 1), (40, .goto 4, 3), (43, .iconst 0, 1), (44, .bipush 8, 2), (46, .fload_n 2, 1), (47, .f2i, 1), (48, .invokevirtual 106, 3), (51, .invokevirtual 81, 3), (54, .ifCond .eq 5, 3), (57, .iconst 0, 1), (58, .ireturn, 1), (59, .aload_n 0, 1), (60, .invokevirtual 85, 3), (63, .aload_n 0, 1), (64, .iload_n 1, 1), (65, .iconst 2, 1), (66, .fload_n 2, 1), (67, .fconst 2, 1), (68, .fsub, 1), (69, .invokevirtual 110, 3), (72, .aload_n 0, 1), (73, .iload_n 1, 1), (74, .iconst 3, 1), (75, .fconst 0, 1), (76, .invokevirtual 110, 3), (79, .aload_n 0, 1), (80, .iload_n 1, 1), (81, .bipush 7, 2), (83, .aload_n 0, 1), (84, .iload_n 1, 1), (85, .bipush 7, 2), (87, .invokevirtual 100, 3), (90, .iconst 1, 1), (91, .iadd, 1), (92, .invokevirtual 103, 3), (95, .aload_n 0, 1), (96, .getfield 9, 3), (99, .bipush 6, 2), (101, .dup2, 1), (102, .iaload, 1), (103, .iconst 1, 1), (104, .iadd, 1), (105, .iastore, 1), (106, .aload_n 0, 1), (107, .iload_n 1, 1), (108, .iconst 2, 1), (109, .invokevirtual 100, 3), (112, .ireturn, 1)]
set_option maxRecDepth 100000 in
theorem ddX5_strings : dchk cX5_strings dlX5_strings = true := by decide +kernel
def dlX5_snapsIn : List (Nat × Instr × Nat) := [(0, .aload_n 0, 1), (1, .iconst 1, 1), (2, .aload_n 0, 1), (3, .iload_n 1, 1), (4, .invokevirtual 114, 3), (7, .ifCond .ne 7, 3), (10, .iconst 1, 1), (11, .goto 4, 3), (14, .iconst 0, 1), (15, .invokevirtual 81, 3), (18, .ifCond .ne 25, 3), (21, .aload_n 0, 1), (22, .iconst 2, 1), (23, .aload_n 0, 1), (24, .iload_n 1, 1), (25, .iconst 0, 1), (26, .invokevirtual 100, 3), (29, .ifCond .eq 7, 3), (32, .iconst 1, 1), (33, .goto 4, 3), (36, .iconst 0, 1), (37, .invokevirtual 81, 3), (40, .ifCond .eq 5, 3), (43, .iconst 0, 1), (44, .ireturn, 1), (45, .iconst 0, 1), (46, .istore_n 2, 1), (47, .aload_n 0, 1), (48, .iload_n 1, 1), (49, .iconst 3, 1), (50, .invokevirtual 121, 3), (53, .fstore_n 3, 1), (54, .fload_n 3, 1), (55, .fconst 1, 1), (56, .fcmp .g, 1), (57, .ifCond .ge 22, 3), (60, .fload_n 3, 1), (61, .ldc 162, 2), (63, .aload_n 0, 1), (64, .iload_n 1, 1), (65, .iconst 1, 1), (66, .invokevirtual 100, 3), (69, .i2f, 1), (70, .fmul, 1), (71, .fadd, 1), (72, .fstore_n 3, 1), (73, .iinc 2 1, 3), (76, .goto (-22), 3), (79, .iload_n 2, 1), (80, .ireturn, 1)]
set_option maxRecDepth 100000 in
theorem ddX5_snapsIn : dchk cX5_snapsIn dlX5_snapsIn = true := by decide +kernel
def dlX5_answer : List (Nat × Instr × Nat) := [(0, .aload_n 0, 1), (1, .iconst 1, 1), (2, .iload_n 1, 1), (3, .invokestatic 96, 3), (6, .ifCond .ne 7, 3), (9, .iconst 1, 1), (10, .goto 4, 3), (13, .iconst 0, 1), (14, .invokevirtual 81, 3), (17, .ifCond .ne 32, 3), (20, .aload_n 0, 1), (21, .iconst 2, 1), (22, .aload_n 0, 1), (23, .aload_n 0, 1), (24, .iload_n 1, 1), (25, .iconst 1, 1), (26, .invokevirtual 88, 3), (29, .ifCond .ne 7, 3), (32, .iconst 1, 1), (33, .goto 4, 3), (36, .iconst 0, 1), (37, .bipush 9, 2), (39, .iload_n 1, 1), (40, .invokevirtual 106, 3), (43, .invokevirtual 81, 3), (46, .ifCond .eq 5, 3), (49, .iconst 0, 1), (50, .ireturn, 1), (51, .aload_n 0, 1), (52, .invokevirtual 85, 3), (55, .aload_n 0, 1), (56, .iload_n 1, 1), (57, .iconst 1, 1), (58, .invokevirtual 88, 3), (61, .istore_n 2, 1), (62, .aload_n 0, 1), (63, .iload_n 1, 1), (64, .iconst 1, 1), (65, .iconst 0, 1), (66, .invokevirtual 49, 3), (69, .aload_n 0, 1), (70, .getfield 9, 3), (73, .iconst 4, 1), (74, .dup2, 1), (75, .iaload, 1), (76, .iload_n 2, 1), (77, .iadd, 1), (78, .iastore, 1), (79, .iload_n 2, 1), (80, .ireturn, 1)]
set_option maxRecDepth 100000 in
theorem ddX5_answer : dchk cX5_answer dlX5_answer = true := by decide +kernel
def dlX5_isRack : List (Nat × Instr × Nat) := [(0, .iload_n 0, 1), (1, .iconst 0, 1), (2, .iconst 1, 1), (3, .invokestatic 77, 3), (6, .ireturn, 1)]
set_option maxRecDepth 100000 in
theorem ddX5_isRack : dchk cX5_isRack dlX5_isRack = true := by decide +kernel
def dlX5_caseOn : List (Nat × Instr × Nat) := [(0, .iconst 0, 1), (1, .istore_n 3, 1), (2, .iload_n 3, 1), (3, .aload_n 0, 1), (4, .getfield 9, 3), (7, .iconst 2, 1), (8, .iaload, 1), (9, .if_icmp .ge 31, 3), (12, .aload_n 0, 1), (13, .iload_n 3, 1), (14, .iconst 0, 1), (15, .invokevirtual 100, 3), (18, .iload_n 1, 1), (19, .if_icmp .ne 15, 3), (22, .aload_n 0, 1), (23, .iload_n 3, 1), (24, .iconst 5, 1), (25, .invokevirtual 100, 3), (28, .iload_n 2, 1), (29, .if_icmp .ne 5, 3), (32, .iload_n 3, 1), (33, .ireturn, 1), (34, .iinc 3 1, 3), (37, .goto (-35), 3), (40, .iconst (-1), 1), (41, .ireturn, 1)]
set_option maxRecDepth 100000 in
theorem ddX5_caseOn : dchk cX5_caseOn dlX5_caseOn = true := by decide +kernel
def dlX5_freePlace : List (Nat × Instr × Nat) := [(0, .iconst 0, 1), (1, .istore_n 2, 1), (2, .iload_n 2, 1), (3, .iconst 3, 1), (4, .if_icmp .ge 19, 3), (7, .aload_n 0, 1), (8, .iload_n 1, 1), (9, .iload_n 2, 1), (10, .invokevirtual 163, 3), (13, .iconst (-1), 1), (14, .if_icmp .eq 9, 3), (17, .iinc 2 1, 3), (20, .goto (-18), 3), (23, .iload_n 2, 1), (24, .ireturn, 1)]
set_option maxRecDepth 100000 in
theorem ddX5_freePlace : dchk cX5_freePlace dlX5_freePlace = true := by decide +kernel
def dlX5_isRackRefused : List (Nat × Instr × Nat) := [(0, .aload_n 0, 1), (1, .aload_n 0, 1), (2, .iload_n 1, 1), (3, .iconst 5, 1), (4, .invokevirtual 100, 3), (7, .iconst (-1), 1), (8, .if_icmp .eq 7, 3), (11, .iconst 1, 1), (12, .goto 4, 3), (15, .iconst 0, 1), (16, .bipush 10, 2), (18, .aload_n 0, 1), (19, .iload_n 1, 1), (20, .iconst 5, 1), (21, .invokevirtual 100, 3), (24, .invokevirtual 106, 3), (27, .ifCond .ne 27, 3), (30, .aload_n 0, 1), (31, .aload_n 0, 1), (32, .iload_n 2, 1), (33, .invokevirtual 166, 3), (36, .iconst 3, 1), (37, .if_icmp .ne 7, 3), (40, .iconst 1, 1), (41, .goto 4, 3), (44, .iconst 0, 1), (45, .bipush 11, 2), (47, .iload_n 2, 1), (48, .invokevirtual 106, 3), (51, .ifCond .eq 5, 3), (54, .iconst 1, 1), (55, .ireturn, 1), (56, .aload_n 0, 1), (57, .aload_n 0, 1), (58, .iload_n 1, 1), (59, .iconst 0, 1), (60, .invokevirtual 100, 3), (63, .iload_n 2, 1), (64, .if_icmp .eq 7, 3), (67, .iconst 1, 1), (68, .goto 4, 3), (71, .iconst 0, 1), (72, .bipush 12, 2), (74, .iload_n 2, 1), (75, .invokevirtual 106, 3), (78, .ireturn, 1)]
set_option maxRecDepth 100000 in
theorem ddX5_isRackRefused : dchk cX5_isRackRefused dlX5_isRackRefused = true := by decide +kernel
def dlX5_rack : List (Nat × Instr × Nat) := [(0, .aload_n 0, 1), (1, .iconst 1, 1), (2, .aload_n 0, 1), (3, .iload_n 1, 1), (4, .invokevirtual 114, 3), (7, .ifCond .eq 10, 3), (10, .iload_n 2, 1), (11, .invokestatic 169, 3), (14, .ifCond .ne 7, 3), (17, .iconst 1, 1), (18, .goto 4, 3), (21, .iconst 0, 1), (22, .invokevirtual 81, 3), (25, .ifCond .ne 17, 3), (28, .aload_n 0, 1), (29, .iconst 2, 1), (30, .aload_n 0, 1), (31, .iload_n 1, 1), (32, .iload_n 2, 1), (33, .invokevirtual 172, 3), (36, .invokevirtual 81, 3), (39, .ifCond .eq 5, 3), (42, .iconst 0, 1), (43, .ireturn, 1), (44, .aload_n 0, 1), (45, .invokevirtual 85, 3), (48, .aload_n 0, 1), (49, .iload_n 1, 1), (50, .iconst 5, 1), (51, .aload_n 0, 1), (52, .iload_n 2, 1), (53, .invokevirtual 166, 3), (56, .invokevirtual 103, 3), (59, .aload_n 0, 1), (60, .iload_n 1, 1), (61, .iconst 5, 1), (62, .invokevirtual 100, 3), (65, .ireturn, 1)]
set_option maxRecDepth 100000 in
theorem ddX5_rack : dchk cX5_rack dlX5_rack = true := by decide +kernel
def dlX5_unrack : List (Nat × Instr × Nat) := [(0, .aload_n 0, 1), (1, .iconst 1, 1), (2, .aload_n 0, 1), (3, .iload_n 1, 1), (4, .invokevirtual 114, 3), (7, .ifCond .ne 7, 3), (10, .iconst 1, 1), (11, .goto 4, 3), (14, .iconst 0, 1), (15, .invokevirtual 81, 3), (18, .ifCond .ne 33, 3), (21, .aload_n 0, 1), (22, .iconst 2, 1), (23, .aload_n 0, 1), (24, .aload_n 0, 1), (25, .iload_n 1, 1), (26, .iconst 5, 1), (27, .invokevirtual 100, 3), (30, .iconst (-1), 1), (31, .if_icmp .ne 7, 3), (34, .iconst 1, 1), (35, .goto 4, 3), (38, .iconst 0, 1), (39, .bipush 13, 2), (41, .iload_n 1, 1), (42, .invokevirtual 106, 3), (45, .invokevirtual 81, 3), (48, .ifCond .eq 5, 3), (51, .iconst 0, 1), (52, .ireturn, 1), (53, .aload_n 0, 1), (54, .invokevirtual 85, 3), (57, .aload_n 0, 1), (58, .iload_n 1, 1), (59, .iconst 5, 1), (60, .invokevirtual 100, 3), (63, .istore_n 2, 1), (64, .aload_n 0, 1), (65, .iload_n 1, 1), (66, .iconst 5, 1), (67, .iconst (-1), 1), (68, .invokevirtual 103, 3), (71, .iload_n 2, 1), (72, .ireturn, 1)]
set_option maxRecDepth 100000 in
theorem ddX5_unrack : dchk cX5_unrack dlX5_unrack = true := by decide +kernel
def dlX5_onRack : List (Nat × Instr × Nat) := [(0, .aload_n 0, 1), (1, .iconst 1, 1), (2, .iload_n 1, 1), (3, .invokestatic 169, 3), (6, .ifCond .eq 12, 3), (9, .iload_n 2, 1), (10, .iconst 0, 1), (11, .iconst 2, 1), (12, .invokestatic 77, 3), (15, .ifCond .ne 7, 3), (18, .iconst 1, 1), (19, .goto 4, 3), (22, .iconst 0, 1), (23, .invokevirtual 81, 3), (26, .ifCond .ne 26, 3), (29, .aload_n 0, 1), (30, .iconst 2, 1), (31, .aload_n 0, 1), (32, .iload_n 1, 1), (33, .iload_n 2, 1), (34, .invokevirtual 163, 3), (37, .iconst (-1), 1), (38, .if_icmp .ne 7, 3), (41, .iconst 1, 1), (42, .goto 4, 3), (45, .iconst 0, 1), (46, .invokevirtual 81, 3), (49, .ifCond .eq 5, 3), (52, .iconst 0, 1), (53, .ireturn, 1), (54, .aload_n 0, 1), (55, .iload_n 1, 1), (56, .iload_n 2, 1), (57, .invokevirtual 163, 3), (60, .ireturn, 1)]
set_option maxRecDepth 100000 in
theorem ddX5_onRack : dchk cX5_onRack dlX5_onRack = true := by decide +kernel
def dlX5_isAhead : List (Nat × Instr × Nat) := [(0, .aload_n 0, 1), (1, .iload_n 1, 1), (2, .iconst 2, 1), (3, .invokevirtual 121, 3), (6, .fstore_n 3, 1), (7, .aload_n 0, 1), (8, .iload_n 2, 1), (9, .iconst 2, 1), (10, .invokevirtual 121, 3), (13, .fstore 4, 2), (15, .fload_n 3, 1), (16, .fload 4, 2), (18, .fcmp .l, 1), (19, .ifCond .gt 15, 3), (22, .fload_n 3, 1), (23, .fload 4, 2), (25, .fcmp .l, 1), (26, .ifCond .ne 12, 3), (29, .iload_n 1, 1), (30, .iload_n 2, 1), (31, .if_icmp .ge 7, 3), (34, .iconst 1, 1), (35, .goto 4, 3), (38, .iconst 0, 1), (39, .ireturn, 1)]
set_option maxRecDepth 100000 in
theorem ddX5_isAhead : dchk cX5_isAhead dlX5_isAhead = true := by decide +kernel
def dlX5_ranked : List (Nat × Instr × Nat) := [(0, .iconst 0, 1), (1, .istore_n 2, 1), (2, .iload_n 2, 1), (3, .aload_n 0, 1), (4, .getfield 9, 3), (7, .iconst 2, 1), (8, .iaload, 1), (9, .if_icmp .ge 61, 3), (12, .iconst 0, 1), (13, .istore_n 3, 1), (14, .iconst 0, 1), (15, .istore 4, 2), (17, .iload 4, 2), (19, .aload_n 0, 1), (20, .getfield 9, 3), (23, .iconst 2, 1), (24, .iaload, 1), (25, .if_icmp .ge 27, 3), (28, .iload_n 3, 1), (29, .aload_n 0, 1), (30, .iload 4, 2), (32, .iload_n 2, 1), (33, .invokevirtual 175, 3), (36, .ifCond .eq 7, 3), (39, .iconst 1, 1), (40, .goto 4, 3), (43, .iconst 0, 1), (44, .iadd, 1), (45, .istore_n 3, 1), (46, .iinc 4 1, 3), (49, .goto (-32), 3), (52, .iload_n 3, 1), (53, .iload_n 1, 1), (54, .if_icmp .ne 10, 3), (57, .aload_n 0, 1), (58, .iconst 0, 1), (59, .putfield 53, 3), (62, .iload_n 2, 1), (63, .ireturn, 1), (64, .iinc 2 1, 3), (67, .goto (-65), 3), (70, .aload_n 0, 1), (71, .iconst 1, 1), (72, .putfield 53, 3), (75, .iconst 0, 1), (76, .ireturn, 1)]
set_option maxRecDepth 100000 in
theorem ddX5_ranked : dchk cX5_ranked dlX5_ranked = true := by decide +kernel
def dlX5_play : List (Nat × Instr × Nat) := [(0, .aload_n 0, 1), (1, .getfield 27, 3), (4, .iload_n 1, 1), (5, .faload, 1), (6, .aload_n 0, 1), (7, .iload_n 1, 1), (8, .invokevirtual 159, 3), (11, .fcmp .l, 1), (12, .ifCond .le 7, 3), (15, .iconst 1, 1), (16, .goto 4, 3), (19, .iconst 0, 1), (20, .istore_n 3, 1), (21, .aload_n 0, 1), (22, .iload_n 1, 1), (23, .iconst 1, 1), (24, .invokevirtual 88, 3), (27, .istore 4, 2), (29, .iload_n 3, 1), (30, .ifCond .eq 14, 3), (33, .iload 4, 2), (35, .bipush 99, 2), (37, .if_icmp .ge 7, 3), (40, .iconst 1, 1), (41, .goto 4, 3), (44, .iconst 0, 1), (45, .istore 5, 2), (47, .iload 5, 2), (49, .ifCond .eq 38, 3), (52, .iinc 4 1, 3), (55, .aload_n 0, 1), (56, .iload_n 1, 1), (57, .iconst 1, 1), (58, .iload 4, 2), (60, .invokevirtual 49, 3), (63, .aload_n 0, 1), (64, .iload_n 1, 1), (65, .iconst 2, 1), (66, .aload_n 0, 1), (67, .iload_n 1, 1), (68, .iconst 2, 1), (69, .invokevirtual 88, 3), (72, .iconst 1, 1), (73, .iadd, 1), (74, .invokevirtual 49, 3), (77, .aload_n 0, 1), (78, .getfield 9, 3), (81, .iconst 5, 1), (82, .dup2, 1), (83, .iaload, 1), (84, .iconst 1, 1), (85, .iadd, 1), (86, .iastore, 1), (87, .aload_n 0, 1), (88, .iload_n 2, 1), (89, .iconst 1, 1), (90, .invokevirtual 100, 3), (93, .i2f, 1), (94, .fstore 6, 2), (96, .iload_n 3, 1), (97, .ifCond .ne 35, 3), (100, .aload_n 0, 1), (101, .iload_n 2, 1), (102, .iconst 2, 1), (103, .aload_n 0, 1), (104, .iload_n 2, 1), (105, .iconst 2, 1), (106, .invokevirtual 121, 3), (109, .ldc 178, 2), (111, .aload_n 0, 1), (112, .getfield 9, 3), (115, .iconst 1, 1), (116, .iaload, 1), (117, .i2f, 1), (118, .fmul, 1), (119, .fload 6, 2), (121, .fmul, 1), (122, .fconst 1, 1), (123, .iload 4, 2), (125, .i2f, 1), (126, .fadd, 1), (127, .fdiv, 1), (128, .fadd, 1), (129, .invokevirtual 110, 3), (132, .aload_n 0, 1), (133, .iload_n 2, 1), (134, .iconst 0, 1), (135, .invokevirtual 100, 3), (138, .ifCond .ne 21, 3), (141, .aload_n 0, 1), (142, .iload_n 2, 1), (143, .iconst 3, 1), (144, .aload_n 0, 1), (145, .iload_n 2, 1), (146, .iconst 3, 1), (147, .invokevirtual 121, 3), (150, .ldc 162, 2), (152, .fload 6, 2), (154, .fmul, 1), (155, .fadd, 1), (156, .invokevirtual 110, 3), (159, .aload_n 0, 1), (160, .iload_n 2, 1), (161, .bipush 6, 2), (163, .aload_n 0, 1), (164, .iload_n 2, 1), (165, .bipush 6, 2), (167, .invokevirtual 100, 3), (170, .iconst 1, 1), (171, .iadd, 1), (172, .invokevirtual 103, 3), (175, .aload_n 0, 1), (176, .iload_n 2, 1), (177, .invokevirtual 125, 3), (180, .ifCond .ne 14, 3), (183, .iload 5, 2), (185, .ifCond .eq 13, 3), (188, .iload 4, 2), (190, .iconst 3, 1), (191, .if_icmp .lt 7, 3), (194, .iconst 1, 1), (195, .goto 4, 3), (198, .iconst 0, 1), (199, .ireturn, 1)]
set_option maxRecDepth 100000 in
theorem ddX5_play : dchk cX5_play dlX5_play = true := by decide +kernel
def dlX5_goHour : List (Nat × Instr × Nat) := [(0, .iconst 0, 1), (1, .istore_n 1, 1), (2, .iload_n 1, 1), (3, .bipush 8, 2), (5, .if_icmp .ge 20, 3), (8, .aload_n 0, 1), (9, .getfield 27, 3), (12, .iload_n 1, 1), (13, .aload_n 0, 1), (14, .iload_n 1, 1), (15, .invokevirtual 156, 3), (18, .fastore, 1), (19, .iinc 1 1, 3), (22, .goto (-20), 3), (25, .iconst 0, 1), (26, .istore_n 1, 1), (27, .iconst 0, 1), (28, .istore_n 2, 1), (29, .iload_n 2, 1), (30, .bipush 8, 2), (32, .if_icmp .ge 38, 3), (35, .aload_n 0, 1), (36, .iload_n 2, 1), (37, .iconst 3, 1), (38, .invokevirtual 88, 3), (41, .istore_n 3, 1), (42, .iload_n 3, 1), (43, .iconst (-1), 1), (44, .if_icmp .eq 20, 3), (47, .aload_n 0, 1), (48, .iload_n 2, 1), (49, .iload_n 3, 1), (50, .invokevirtual 179, 3), (53, .ifCond .eq 11, 3), (56, .aload_n 0, 1), (57, .iload_n 2, 1), (58, .invokevirtual 134, 3), (61, .iinc 1 1, 3), (64, .iinc 2 1, 3), (67, .goto (-38), 3), (70, .aload_n 0, 1), (71, .getfield 9, 3), (74, .iconst 0, 1), (75, .dup2, 1), (76, .iaload, 1), (77, .iconst 1, 1), (78, .iadd, 1), (79, .iastore, 1), (80, .iload_n 1, 1), (81, .ireturn, 1)]
set_option maxRecDepth 100000 in
theorem ddX5_goHour : dchk cX5_goHour dlX5_goHour = true := by decide +kernel
def dlX5_pass : List (Nat × Instr × Nat) := [(0, .aload_n 0, 1), (1, .iconst 1, 1), (2, .iload_n 1, 1), (3, .iconst 1, 1), (4, .bipush 60, 2), (6, .invokestatic 77, 3), (9, .ifCond .ne 7, 3), (12, .iconst 1, 1), (13, .goto 4, 3), (16, .iconst 0, 1), (17, .invokevirtual 81, 3), (20, .ifCond .eq 5, 3), (23, .iconst 0, 1), (24, .ireturn, 1), (25, .aload_n 0, 1), (26, .invokevirtual 85, 3), (29, .iconst 0, 1), (30, .istore_n 2, 1), (31, .iconst 0, 1), (32, .istore_n 3, 1), (33, .iload_n 3, 1), (34, .iload_n 1, 1), (35, .if_icmp .ge 16, 3), (38, .iload_n 2, 1), (39, .aload_n 0, 1), (40, .invokevirtual 182, 3), (43, .iadd, 1), (44, .istore_n 2, 1), (45, .iinc 3 1, 3), (48, .goto (-15), 3), (51, .iload_n 2, 1), (52, .ireturn, 1)]
set_option maxRecDepth 100000 in
theorem ddX5_pass : dchk cX5_pass dlX5_pass = true := by decide +kernel
def dlX5_hatIn : List (Nat × Instr × Nat) := [(0, .aload_n 0, 1), (1, .iconst 1, 1), (2, .aload_n 0, 1), (3, .iload_n 1, 1), (4, .invokevirtual 114, 3), (7, .ifCond .ne 7, 3), (10, .iconst 1, 1), (11, .goto 4, 3), (14, .iconst 0, 1), (15, .invokevirtual 81, 3), (18, .ifCond .ne 26, 3), (21, .aload_n 0, 1), (22, .iconst 2, 1), (23, .iload_n 2, 1), (24, .iconst 0, 1), (25, .bipush 60, 2), (27, .invokestatic 77, 3), (30, .ifCond .ne 7, 3), (33, .iconst 1, 1), (34, .goto 4, 3), (37, .iconst 0, 1), (38, .invokevirtual 81, 3), (41, .ifCond .eq 5, 3), (44, .iconst 0, 1), (45, .ireturn, 1), (46, .aload_n 0, 1), (47, .getfield 9, 3), (50, .aload_n 0, 1), (51, .getfield 16, 3), (54, .invokestatic 65, 3), (57, .iconst 0, 1), (58, .istore_n 3, 1), (59, .iload_n 3, 1), (60, .iload_n 2, 1), (61, .if_icmp .ge 14, 3), (64, .aload_n 0, 1), (65, .invokevirtual 182, 3), (68, .pop, 1), (69, .iinc 3 1, 3), (72, .goto (-13), 3), (75, .aload_n 0, 1), (76, .iload_n 1, 1), (77, .iconst 2, 1), (78, .invokevirtual 100, 3), (81, .istore_n 3, 1), (82, .aload_n 0, 1), (83, .getfield 16, 3), (86, .aload_n 0, 1), (87, .getfield 9, 3), (90, .invokestatic 65, 3), (93, .iload_n 3, 1), (94, .ireturn, 1)]
set_option maxRecDepth 100000 in
theorem ddX5_hatIn : dchk cX5_hatIn dlX5_hatIn = true := by decide +kernel
def dlX5_playingIn : List (Nat × Instr × Nat) := [(0, .aload_n 0, 1), (1, .iconst 1, 1), (2, .iload_n 1, 1), (3, .iconst 0, 1), (4, .bipush 60, 2), (6, .invokestatic 77, 3), (9, .ifCond .ne 7, 3), (12, .iconst 1, 1), (13, .goto 4, 3), (16, .iconst 0, 1), (17, .invokevirtual 81, 3), (20, .ifCond .eq 5, 3), (23, .iconst 0, 1), (24, .ireturn, 1), (25, .aload_n 0, 1), (26, .getfield 9, 3), (29, .aload_n 0, 1), (30, .getfield 16, 3), (33, .invokestatic 65, 3), (36, .iconst 0, 1), (37, .istore_n 2, 1), (38, .iload_n 2, 1), (39, .iload_n 1, 1), (40, .if_icmp .ge 14, 3), (43, .aload_n 0, 1), (44, .invokevirtual 182, 3), (47, .pop, 1), (48, .iinc 2 1, 3), (51, .goto (-13), 3), (54, .aload_n 0, 1), (55, .invokevirtual 186, 3), (58, .istore_n 2, 1), (59, .aload_n 0, 1), (60, .getfield 16, 3), (63, .aload_n 0, 1), (64, .getfield 9, 3), (67, .invokestatic 65, 3), (70, .iload_n 2, 1), (71, .ireturn, 1)]
set_option maxRecDepth 100000 in
theorem ddX5_playingIn : dchk cX5_playingIn dlX5_playingIn = true := by decide +kernel
def dlX5_sign : List (Nat × Instr × Nat) := [(0, .aload_n 0, 1), (1, .iconst 1, 1), (2, .iload_n 1, 1), (3, .invokestatic 96, 3), (6, .ifCond .ne 7, 3), (9, .iconst 1, 1), (10, .goto 4, 3), (13, .iconst 0, 1), (14, .invokevirtual 81, 3), (17, .ifCond .eq 6, 3), (20, .bipush 32, 2), (22, .ireturn, 1), (23, .aload_n 0, 1), (24, .iload_n 1, 1), (25, .invokevirtual 156, 3), (28, .aload_n 0, 1), (29, .iload_n 1, 1), (30, .invokevirtual 159, 3), (33, .fcmp .l, 1), (34, .ifCond .le 7, 3), (37, .iconst 1, 1), (38, .goto 4, 3), (41, .iconst 0, 1), (42, .istore_n 2, 1), (43, .aload_n 0, 1), (44, .iload_n 1, 1), (45, .iconst 3, 1), (46, .invokevirtual 88, 3), (49, .istore_n 3, 1), (50, .iload_n 3, 1), (51, .iconst (-1), 1), (52, .if_icmp .ne 15, 3), (55, .iload_n 2, 1), (56, .ifCond .eq 8, 3), (59, .bipush 33, 2), (61, .goto 5, 3), (64, .bipush 46, 2), (66, .ireturn, 1), (67, .aload_n 0, 1), (68, .iload_n 3, 1), (69, .iconst 0, 1), (70, .invokevirtual 100, 3), (73, .ifCond .ne 17, 3), (76, .iload_n 2, 1), (77, .ifCond .eq 8, 3), (80, .bipush 70, 2), (82, .goto 19, 3), (85, .bipush 102, 2), (87, .goto 14, 3), (90, .iload_n 2, 1), (91, .ifCond .eq 8, 3), (94, .bipush 65, 2), (96, .goto 5, 3), (99, .bipush 97, 2), (101, .ireturn, 1)]
set_option maxRecDepth 100000 in
theorem ddX5_sign : dchk cX5_sign dlX5_sign = true := by decide +kernel
def dlX5_append : List (Nat × Instr × Nat) := [(0, .aload_n 0, 1), (1, .iconst 1, 1), (2, .aload_n 0, 1), (3, .getfield 189, 3), (6, .bipush 60, 2), (8, .if_icmp .ne 7, 3), (11, .iconst 1, 1), (12, .goto 4, 3), (15, .iconst 0, 1), (16, .invokevirtual 81, 3), (19, .ifCond .eq 5, 3), (22, .iconst 0, 1), (23, .ireturn, 1), (24, .aload_n 0, 1), (25, .getfield 34, 3), (28, .aload_n 0, 1), (29, .getfield 189, 3), (32, .iload_n 1, 1), (33, .castore, 1), (34, .aload_n 0, 1), (35, .dup, 1), (36, .getfield 189, 3), (39, .iconst 1, 1), (40, .iadd, 1), (41, .putfield 189, 3), (44, .aload_n 0, 1), (45, .getfield 189, 3), (48, .ireturn, 1)]
set_option maxRecDepth 100000 in
theorem ddX5_append : dchk cX5_append dlX5_append = true := by decide +kernel
def dlX5_sees : List (Nat × Instr × Nat) := [(0, .aload_n 0, 1), (1, .getfield 192, 3), (4, .ifCond .ne 35, 3), (7, .aload_n 0, 1), (8, .getfield 195, 3), (11, .aload_n 0, 1), (12, .getfield 189, 3), (15, .if_icmp .ge 24, 3), (18, .aload_n 0, 1), (19, .getfield 34, 3), (22, .aload_n 0, 1), (23, .getfield 195, 3), (26, .caload, 1), (27, .iload_n 1, 1), (28, .iload_n 2, 1), (29, .invokestatic 77, 3), (32, .ifCond .eq 7, 3), (35, .iconst 1, 1), (36, .goto 4, 3), (39, .iconst 0, 1), (40, .ireturn, 1)]
set_option maxRecDepth 100000 in
theorem ddX5_sees : dchk cX5_sees dlX5_sees = true := by decide +kernel
def dlX5_must : List (Nat × Instr × Nat) := [(0, .aload_n 0, 1), (1, .dup, 1), (2, .getfield 192, 3), (5, .aload_n 0, 1), (6, .iload_n 1, 1), (7, .iload_n 1, 1), (8, .invokevirtual 198, 3), (11, .ifCond .ne 7, 3), (14, .iconst 1, 1), (15, .goto 4, 3), (18, .iconst 0, 1), (19, .ior, 1), (20, .putfield 192, 3), (23, .aload_n 0, 1), (24, .dup, 1), (25, .getfield 195, 3), (28, .aload_n 0, 1), (29, .getfield 192, 3), (32, .ifCond .eq 7, 3), (35, .iconst 0, 1), (36, .goto 4, 3), (39, .iconst 1, 1), (40, .iadd, 1), (41, .putfield 195, 3), (44, .return_, 1)]
set_option maxRecDepth 100000 in
theorem ddX5_must : dchk cX5_must dlX5_must = true := by decide +kernel
def dlX5_readNumber : List (Nat × Instr × Nat) := [(0, .aload_n 0, 1), (1, .dup, 1), (2, .getfield 192, 3), (5, .aload_n 0, 1), (6, .bipush 48, 2), (8, .bipush 57, 2), (10, .invokevirtual 198, 3), (13, .ifCond .ne 7, 3), (16, .iconst 1, 1), (17, .goto 4, 3), (20, .iconst 0, 1), (21, .ior, 1), (22, .putfield 192, 3), (25, .iconst 0, 1), (26, .istore_n 2, 1), (27, .iconst 0, 1), (28, .istore_n 3, 1), (29, .iload_n 3, 1), (30, .iload_n 1, 1), (31, .if_icmp .ge 48, 3), (34, .aload_n 0, 1), (35, .bipush 48, 2), (37, .bipush 57, 2), (39, .invokevirtual 198, 3), (42, .ifCond .eq 37, 3), (45, .bipush 10, 2), (47, .iload_n 2, 1), (48, .imul, 1), (49, .aload_n 0, 1), (50, .getfield 34, 3), (53, .aload_n 0, 1), (54, .getfield 195, 3), (57, .caload, 1), (58, .iadd, 1), (59, .bipush 48, 2), (61, .isub, 1), (62, .istore_n 2, 1), (63, .aload_n 0, 1), (64, .dup, 1), (65, .getfield 195, 3), (68, .iconst 1, 1), (69, .iadd, 1), (70, .putfield 195, 3), (73, .iinc 3 1, 3), (76, .goto (-47), 3), (79, .iload_n 2, 1), (80, .ireturn, 1)]
set_option maxRecDepth 100000 in
theorem ddX5_readNumber : dchk cX5_readNumber dlX5_readNumber = true := by decide +kernel
def dlX5_isKind : List (Nat × Instr × Nat) := [(0, .iload_n 0, 1), (1, .tableswitch 113 97 120 #[111, 113, 111, 111, 113, 113, 113, 113, 113, 113, 113, 113, 113, 113, 113, 111, 113, 113, 111, 113, 113, 113, 111, 111], 111), (112, .iconst 1, 1), (113, .ireturn, 1), (114, .iconst 0, 1), (115, .ireturn, 1)]
set_option maxRecDepth 100000 in
theorem ddX5_isKind : dchk cX5_isKind dlX5_isKind = true := by decide +kernel
def dlX5_readOrder : List (Nat × Instr × Nat) := [(0, .aload_n 0, 1), (1, .dup, 1), (2, .getfield 192, 3), (5, .aload_n 0, 1), (6, .getfield 195, 3), (9, .aload_n 0, 1), (10, .getfield 189, 3), (13, .if_icmp .ge 18, 3), (16, .aload_n 0, 1), (17, .getfield 34, 3), (20, .aload_n 0, 1), (21, .getfield 195, 3), (24, .caload, 1), (25, .invokestatic 202, 3), (28, .ifCond .ne 7, 3), (31, .iconst 1, 1), (32, .goto 4, 3), (35, .iconst 0, 1), (36, .ior, 1), (37, .putfield 192, 3), (40, .aload_n 0, 1), (41, .getfield 192, 3), (44, .ifCond .eq 4, 3), (47, .return_, 1), (48, .aload_n 0, 1), (49, .aload_n 0, 1), (50, .getfield 34, 3), (53, .aload_n 0, 1), (54, .getfield 195, 3), (57, .caload, 1), (58, .putfield 206, 3), (61, .aload_n 0, 1), (62, .dup, 1), (63, .getfield 195, 3), (66, .iconst 1, 1), (67, .iadd, 1), (68, .putfield 195, 3), (71, .aload_n 0, 1), (72, .aload_n 0, 1), (73, .aload_n 0, 1), (74, .getfield 206, 3), (77, .bipush 99, 2), (79, .if_icmp .eq 12, 3), (82, .aload_n 0, 1), (83, .getfield 206, 3), (86, .bipush 112, 2), (88, .if_icmp .ne 7, 3), (91, .iconst 2, 1), (92, .goto 4, 3), (95, .iconst 1, 1), (96, .invokevirtual 210, 3), (99, .putfield 213, 3), (102, .aload_n 0, 1), (103, .getfield 206, 3), (106, .bipush 100, 2), (108, .if_icmp .ne 18, 3), (111, .aload_n 0, 1), (112, .bipush 35, 2), (114, .invokevirtual 216, 3), (117, .aload_n 0, 1), (118, .aload_n 0, 1), (119, .iconst 2, 1), (120, .invokevirtual 210, 3), (123, .putfield 220, 3), (126, .return_, 1)]
set_option maxRecDepth 100000 in
theorem ddX5_readOrder : dchk cX5_readOrder dlX5_readOrder = true := by decide +kernel
def dlX5_countOrders : List (Nat × Instr × Nat) := [(0, .aload_n 0, 1), (1, .iconst 0, 1), (2, .putfield 195, 3), (5, .aload_n 0, 1), (6, .iconst 0, 1), (7, .putfield 192, 3), (10, .iconst 1, 1), (11, .istore_n 1, 1), (12, .aload_n 0, 1), (13, .invokevirtual 223, 3), (16, .aload_n 0, 1), (17, .getfield 192, 3), (20, .ifCond .ne 30, 3), (23, .aload_n 0, 1), (24, .getfield 195, 3), (27, .aload_n 0, 1), (28, .getfield 189, 3), (31, .if_icmp .ge 19, 3), (34, .aload_n 0, 1), (35, .bipush 59, 2), (37, .invokevirtual 216, 3), (40, .aload_n 0, 1), (41, .invokevirtual 223, 3), (44, .iinc 1 1, 3), (47, .goto (-31), 3), (50, .iload_n 1, 1), (51, .ireturn, 1)]
set_option maxRecDepth 100000 in
theorem ddX5_countOrders : dchk cX5_countOrders dlX5_countOrders = true := by decide +kernel
def dlX5_carryOut : List (Nat × Instr × Nat) := [(0, .aload_n 0, 1), (1, .getfield 206, 3), (4, .lookupswitch 130 #[(97, 108), (99, 119), (100, 71), (115, 97), (119, 60), (120, 86)], 60), (64, .aload_n 0, 1), (65, .aload_n 0, 1), (66, .getfield 213, 3), (69, .invokevirtual 226, 3), (72, .pop, 1), (73, .iconst 2, 1), (74, .ireturn, 1), (75, .aload_n 0, 1), (76, .aload_n 0, 1), (77, .getfield 213, 3), (80, .aload_n 0, 1), (81, .getfield 220, 3), (84, .invokevirtual 229, 3), (87, .pop, 1), (88, .iconst 3, 1), (89, .ireturn, 1), (90, .aload_n 0, 1), (91, .aload_n 0, 1), (92, .getfield 213, 3), (95, .invokevirtual 232, 3), (98, .pop, 1), (99, .iconst 2, 1), (100, .ireturn, 1), (101, .aload_n 0, 1), (102, .aload_n 0, 1), (103, .getfield 213, 3), (106, .invokevirtual 235, 3), (109, .pop, 1), (110, .iconst 2, 1), (111, .ireturn, 1), (112, .aload_n 0, 1), (113, .aload_n 0, 1), (114, .getfield 213, 3), (117, .invokevirtual 238, 3), (120, .pop, 1), (121, .iconst 2, 1), (122, .ireturn, 1), (123, .aload_n 0, 1), (124, .aload_n 0, 1), (125, .getfield 213, 3), (128, .invokevirtual 241, 3), (131, .pop, 1), (132, .iconst (-1), 1), (133, .ireturn, 1), (134, .aload_n 0, 1), (135, .aload_n 0, 1), (136, .getfield 213, 3), (139, .invokevirtual 244, 3), (142, .pop, 1), (143, .iconst (-1), 1), (144, .ireturn, 1)]
set_option maxRecDepth 100000 in
theorem ddX5_carryOut : dchk cX5_carryOut dlX5_carryOut = true := by decide +kernel
def dlX5_read : List (Nat × Instr × Nat) := [(0, .aload_n 0, 1), (1, .invokevirtual 247, 3), (4, .istore_n 1, 1), (5, .aload_n 0, 1), (6, .aload_n 0, 1), (7, .getfield 192, 3), (10, .ifCond .eq 10, 3), (13, .aload_n 0, 1), (14, .getfield 195, 3), (17, .goto 4, 3), (20, .iconst (-1), 1), (21, .putfield 38, 3), (24, .aload_n 0, 1), (25, .getfield 192, 3), (28, .ifCond .eq 15, 3), (31, .aload_n 0, 1), (32, .iconst 0, 1), (33, .putfield 189, 3), (36, .aload_n 0, 1), (37, .iconst 1, 1), (38, .putfield 53, 3), (41, .iconst 0, 1), (42, .ireturn, 1), (43, .aload_n 0, 1), (44, .getfield 9, 3), (47, .aload_n 0, 1), (48, .getfield 19, 3), (51, .invokestatic 65, 3), (54, .aload_n 0, 1), (55, .iconst 1, 1), (56, .putfield 69, 3), (59, .iconst 1, 1), (60, .istore_n 2, 1), (61, .iconst 0, 1), (62, .istore_n 3, 1), (63, .aload_n 0, 1), (64, .iconst 0, 1), (65, .putfield 195, 3), (68, .iconst 0, 1), (69, .istore 4, 2), (71, .iload 4, 2), (73, .iload_n 1, 1), (74, .if_icmp .ge 61, 3), (77, .iload_n 2, 1), (78, .ifCond .eq 57, 3), (81, .aload_n 0, 1), (82, .invokevirtual 223, 3), (85, .aload_n 0, 1), (86, .dup, 1), (87, .getfield 195, 3), (90, .iconst 1, 1), (91, .iadd, 1), (92, .putfield 195, 3), (95, .aload_n 0, 1), (96, .invokevirtual 250, 3), (99, .istore 5, 2), (101, .aload_n 0, 1), (102, .getfield 53, 3), (105, .ifCond .ne 7, 3), (108, .iconst 1, 1), (109, .goto 4, 3), (112, .iconst 0, 1), (113, .istore_n 2, 1), (114, .aload_n 0, 1), (115, .getfield 53, 3), (118, .iload 5, 2), (120, .if_icmp .ne 7, 3), (123, .iconst 1, 1), (124, .goto 4, 3), (127, .iconst 0, 1), (128, .istore_n 3, 1), (129, .iinc 4 1, 3), (132, .goto (-61), 3), (135, .aload_n 0, 1), (136, .iconst 0, 1), (137, .putfield 69, 3), (140, .aload_n 0, 1), (141, .iconst 0, 1), (142, .putfield 189, 3), (145, .iload_n 2, 1), (146, .ifCond .ne 29, 3), (149, .aload_n 0, 1), (150, .getfield 19, 3), (153, .aload_n 0, 1), (154, .getfield 9, 3), (157, .invokestatic 65, 3), (160, .aload_n 0, 1), (161, .iload_n 3, 1), (162, .ifCond .eq 7, 3), (165, .iconst 2, 1), (166, .goto 4, 3), (169, .iconst 1, 1), (170, .putfield 53, 3), (173, .iconst 0, 1), (174, .ireturn, 1), (175, .aload_n 0, 1), (176, .iconst 0, 1), (177, .putfield 53, 3), (180, .aload_n 0, 1), (181, .aload_n 0, 1), (182, .getfield 19, 3), (185, .invokevirtual 73, 3), (188, .iload_n 1, 1), (189, .ireturn, 1)]
set_option maxRecDepth 100000 in
theorem ddX5_read : dchk cX5_read dlX5_read = true := by decide +kernel
def dlX5_errorPosition : List (Nat × Instr × Nat) := [(0, .aload_n 0, 1), (1, .iconst 0, 1), (2, .putfield 53, 3), (5, .aload_n 0, 1), (6, .getfield 38, 3), (9, .ireturn, 1)]
set_option maxRecDepth 100000 in
theorem ddX5_errorPosition : dchk cX5_errorPosition dlX5_errorPosition = true := by decide +kernel
def dlX5_refusal : List (Nat × Instr × Nat) := [(0, .aload_n 0, 1), (1, .iconst 1, 1), (2, .aload_n 0, 1), (3, .getfield 56, 3), (6, .ifCond .ne 7, 3), (9, .iconst 1, 1), (10, .goto 4, 3), (13, .iconst 0, 1), (14, .invokevirtual 81, 3), (17, .ifCond .eq 5, 3), (20, .iconst 0, 1), (21, .ireturn, 1), (22, .iload_n 1, 1), (23, .ifCond .eq 10, 3), (26, .aload_n 0, 1), (27, .getfield 59, 3), (30, .goto 7, 3), (33, .aload_n 0, 1), (34, .getfield 56, 3), (37, .ireturn, 1)]
set_option maxRecDepth 100000 in
theorem ddX5_refusal : dchk cX5_refusal dlX5_refusal = true := by decide +kernel
def dlX5_playing : List (Nat × Instr × Nat) := [(0, .iconst 0, 1), (1, .istore_n 1, 1), (2, .iconst 0, 1), (3, .istore_n 2, 1), (4, .iload_n 2, 1), (5, .aload_n 0, 1), (6, .getfield 9, 3), (9, .iconst 2, 1), (10, .iaload, 1), (11, .if_icmp .ge 27, 3), (14, .iload_n 1, 1), (15, .aload_n 0, 1), (16, .iload_n 2, 1), (17, .iconst 4, 1), (18, .invokevirtual 100, 3), (21, .iconst (-1), 1), (22, .if_icmp .ne 7, 3), (25, .iconst 0, 1), (26, .goto 4, 3), (29, .iconst 1, 1), (30, .iadd, 1), (31, .istore_n 1, 1), (32, .iinc 2 1, 3), (35, .goto (-31), 3), (38, .iload_n 1, 1), (39, .ireturn, 1)]
set_option maxRecDepth 100000 in
theorem ddX5_playing : dchk cX5_playing dlX5_playing = true := by decide +kernel
def dlX5_snapped : List (Nat × Instr × Nat) := [(0, .iconst 0, 1), (1, .istore_n 1, 1), (2, .iconst 0, 1), (3, .istore_n 2, 1), (4, .iload_n 2, 1), (5, .aload_n 0, 1), (6, .getfield 9, 3), (9, .iconst 2, 1), (10, .iaload, 1), (11, .if_icmp .ge 25, 3), (14, .iload_n 1, 1), (15, .aload_n 0, 1), (16, .iload_n 2, 1), (17, .invokevirtual 125, 3), (20, .ifCond .eq 7, 3), (23, .iconst 1, 1), (24, .goto 4, 3), (27, .iconst 0, 1), (28, .iadd, 1), (29, .istore_n 1, 1), (30, .iinc 2 1, 3), (33, .goto (-29), 3), (36, .iload_n 1, 1), (37, .ireturn, 1)]
set_option maxRecDepth 100000 in
theorem ddX5_snapped : dchk cX5_snapped dlX5_snapped = true := by decide +kernel
def dlX5_complaints : List (Nat × Instr × Nat) := [(0, .iconst 0, 1), (1, .istore_n 1, 1), (2, .iconst 0, 1), (3, .istore_n 2, 1), (4, .iload_n 2, 1), (5, .bipush 8, 2), (7, .if_icmp .ge 18, 3), (10, .iload_n 1, 1), (11, .aload_n 0, 1), (12, .iload_n 2, 1), (13, .iconst 1, 1), (14, .invokevirtual 88, 3), (17, .iadd, 1), (18, .istore_n 1, 1), (19, .iinc 2 1, 3), (22, .goto (-18), 3), (25, .iload_n 1, 1), (26, .ireturn, 1)]
set_option maxRecDepth 100000 in
theorem ddX5_complaints : dchk cX5_complaints dlX5_complaints = true := by decide +kernel
def dlX5_cases : List (Nat × Instr × Nat) := [(0, .iconst 0, 1), (1, .istore_n 1, 1), (2, .iconst 0, 1), (3, .istore_n 2, 1), (4, .iload_n 2, 1), (5, .aload_n 0, 1), (6, .getfield 9, 3), (9, .iconst 2, 1), (10, .iaload, 1), (11, .if_icmp .ge 27, 3), (14, .iload_n 1, 1), (15, .aload_n 0, 1), (16, .iload_n 2, 1), (17, .iconst 5, 1), (18, .invokevirtual 100, 3), (21, .iconst (-1), 1), (22, .if_icmp .ne 7, 3), (25, .iconst 0, 1), (26, .goto 4, 3), (29, .iconst 1, 1), (30, .iadd, 1), (31, .istore_n 1, 1), (32, .iinc 2 1, 3), (35, .goto (-31), 3), (38, .iload_n 1, 1), (39, .ireturn, 1)]
set_option maxRecDepth 100000 in
theorem ddX5_cases : dchk cX5_cases dlX5_cases = true := by decide +kernel
def dlX5_otherAccount : List (Nat × Instr × Nat) := [(0, .iload_n 1, 1), (1, .tableswitch 79 8 13 #[39, 46, 53, 58, 66, 74], 39), (40, .aload_n 0, 1), (41, .getfield 9, 3), (44, .iconst 4, 1), (45, .iaload, 1), (46, .ireturn, 1), (47, .aload_n 0, 1), (48, .getfield 9, 3), (51, .iconst 5, 1), (52, .iaload, 1), (53, .ireturn, 1), (54, .aload_n 0, 1), (55, .invokevirtual 253, 3), (58, .ireturn, 1), (59, .aload_n 0, 1), (60, .getfield 9, 3), (63, .bipush 6, 2), (65, .iaload, 1), (66, .ireturn, 1), (67, .aload_n 0, 1), (68, .getfield 9, 3), (71, .bipush 7, 2), (73, .iaload, 1), (74, .ireturn, 1), (75, .aload_n 0, 1), (76, .getfield 189, 3), (79, .ireturn, 1), (80, .aload_n 0, 1), (81, .getfield 62, 3), (84, .ireturn, 1)]
set_option maxRecDepth 100000 in
theorem ddX5_otherAccount : dchk cX5_otherAccount dlX5_otherAccount = true := by decide +kernel
def dlX5_account : List (Nat × Instr × Nat) := [(0, .aload_n 0, 1), (1, .iconst 1, 1), (2, .iload_n 1, 1), (3, .iconst 0, 1), (4, .bipush 14, 2), (6, .invokestatic 77, 3), (9, .ifCond .ne 7, 3), (12, .iconst 1, 1), (13, .goto 4, 3), (16, .iconst 0, 1), (17, .invokevirtual 81, 3), (20, .ifCond .eq 5, 3), (23, .iconst 0, 1), (24, .ireturn, 1), (25, .iload_n 1, 1), (26, .tableswitch 108 0 7 #[46, 53, 60, 67, 86, 93, 98, 103], 46), (72, .aload_n 0, 1), (73, .getfield 9, 3), (76, .iconst 0, 1), (77, .iaload, 1), (78, .ireturn, 1), (79, .aload_n 0, 1), (80, .getfield 9, 3), (83, .iconst 1, 1), (84, .iaload, 1), (85, .ireturn, 1), (86, .aload_n 0, 1), (87, .getfield 9, 3), (90, .iconst 2, 1), (91, .iaload, 1), (92, .ireturn, 1), (93, .aload_n 0, 1), (94, .getfield 9, 3), (97, .iconst 2, 1), (98, .iaload, 1), (99, .aload_n 0, 1), (100, .getfield 9, 3), (103, .iconst 3, 1), (104, .iaload, 1), (105, .isub, 1), (106, .aload_n 0, 1), (107, .invokevirtual 186, 3), (110, .isub, 1), (111, .ireturn, 1), (112, .aload_n 0, 1), (113, .getfield 9, 3), (116, .iconst 3, 1), (117, .iaload, 1), (118, .ireturn, 1), (119, .aload_n 0, 1), (120, .invokevirtual 186, 3), (123, .ireturn, 1), (124, .aload_n 0, 1), (125, .invokevirtual 256, 3), (128, .ireturn, 1), (129, .aload_n 0, 1), (130, .invokevirtual 259, 3), (133, .ireturn, 1), (134, .aload_n 0, 1), (135, .iload_n 1, 1), (136, .invokevirtual 262, 3), (139, .ireturn, 1)]
set_option maxRecDepth 100000 in
theorem ddX5_account : dchk cX5_account dlX5_account = true := by decide +kernel
def dlX5_isWell : List (Nat × Instr × Nat) := [(0, .aload_n 0, 1), (1, .iconst 0, 1), (2, .putfield 53, 3), (5, .aload_n 0, 1), (6, .invokevirtual 259, 3), (9, .aload_n 0, 1), (10, .getfield 9, 3), (13, .iconst 4, 1), (14, .iaload, 1), (15, .iadd, 1), (16, .aload_n 0, 1), (17, .getfield 9, 3), (20, .iconst 5, 1), (21, .iaload, 1), (22, .if_icmp .ne 7, 3), (25, .iconst 1, 1), (26, .goto 4, 3), (29, .iconst 0, 1), (30, .istore_n 1, 1), (31, .iconst 0, 1), (32, .istore_n 2, 1), (33, .iload_n 2, 1), (34, .aload_n 0, 1), (35, .getfield 9, 3), (38, .iconst 2, 1), (39, .iaload, 1), (40, .if_icmp .ge 50, 3), (43, .iload_n 1, 1), (44, .ifCond .eq 46, 3), (47, .aload_n 0, 1), (48, .iload_n 2, 1), (49, .iconst 4, 1), (50, .invokevirtual 100, 3), (53, .istore_n 3, 1), (54, .iload_n 3, 1), (55, .iconst (-1), 1), (56, .if_icmp .eq 22, 3), (59, .aload_n 0, 1), (60, .iload_n 3, 1), (61, .iconst 3, 1), (62, .invokevirtual 88, 3), (65, .iload_n 2, 1), (66, .if_icmp .ne 16, 3), (69, .aload_n 0, 1), (70, .iload_n 2, 1), (71, .invokevirtual 117, 3), (74, .iconst (-1), 1), (75, .if_icmp .ne 7, 3), (78, .iconst 1, 1), (79, .goto 4, 3), (82, .iconst 0, 1), (83, .istore_n 1, 1), (84, .iinc 2 1, 3), (87, .goto (-54), 3), (90, .iconst 0, 1), (91, .istore_n 2, 1), (92, .iload_n 2, 1), (93, .bipush 8, 2), (95, .if_icmp .ge 41, 3), (98, .iload_n 1, 1), (99, .ifCond .eq 37, 3), (102, .aload_n 0, 1), (103, .iload_n 2, 1), (104, .iconst 3, 1), (105, .invokevirtual 88, 3), (108, .istore_n 3, 1), (109, .iload_n 3, 1), (110, .iconst (-1), 1), (111, .if_icmp .eq 13, 3), (114, .aload_n 0, 1), (115, .iload_n 3, 1), (116, .iconst 4, 1), (117, .invokevirtual 100, 3), (120, .iload_n 2, 1), (121, .if_icmp .ne 7, 3), (124, .iconst 1, 1), (125, .goto 4, 3), (128, .iconst 0, 1), (129, .istore_n 1, 1), (130, .iinc 2 1, 3), (133, .goto (-41), 3), (136, .iload_n 1, 1), (137, .ireturn, 1)]
set_option maxRecDepth 100000 in
theorem ddX5_isWell : dchk cX5_isWell dlX5_isWell = true := by decide +kernel
def dlX5_meanBits : List (Nat × Instr × Nat) := [(0, .aload_n 0, 1), (1, .iconst 1, 1), (2, .aload_n 0, 1), (3, .getfield 9, 3), (6, .iconst 2, 1), (7, .iaload, 1), (8, .ifCond .ne 7, 3), (11, .iconst 1, 1), (12, .goto 4, 3), (15, .iconst 0, 1), (16, .invokevirtual 81, 3), (19, .ifCond .eq 5, 3), (22, .lconst 0, 1), (23, .lreturn, 1), (24, .dconst 0, 1), (25, .dstore_n 1, 1), (26, .iconst 0, 1), (27, .istore_n 3, 1), (28, .iload_n 3, 1), (29, .aload_n 0, 1), (30, .getfield 9, 3), (33, .iconst 2, 1), (34, .iaload, 1), (35, .if_icmp .ge 19, 3), (38, .dload_n 1, 1), (39, .aload_n 0, 1), (40, .iload_n 3, 1), (41, .iconst 2, 1), (42, .invokevirtual 121, 3), (45, .f2d, 1), (46, .dadd, 1), (47, .dstore_n 1, 1), (48, .iinc 3 1, 3), (51, .goto (-23), 3), (54, .dload_n 1, 1), (55, .aload_n 0, 1), (56, .getfield 9, 3), (59, .iconst 2, 1), (60, .iaload, 1), (61, .i2d, 1), (62, .ddiv, 1), (63, .invokestatic 265, 3), (66, .lreturn, 1)]
set_option maxRecDepth 100000 in
theorem ddX5_meanBits : dchk cX5_meanBits dlX5_meanBits = true := by decide +kernel
def dlX5_undo : List (Nat × Instr × Nat) := [(0, .aload_n 0, 1), (1, .iconst 1, 1), (2, .aload_n 0, 1), (3, .getfield 62, 3), (6, .ifCond .ne 7, 3), (9, .iconst 1, 1), (10, .goto 4, 3), (13, .iconst 0, 1), (14, .invokevirtual 81, 3), (17, .ifCond .eq 5, 3), (20, .iconst 0, 1), (21, .ireturn, 1), (22, .aload_n 0, 1), (23, .dup, 1), (24, .getfield 62, 3), (27, .iconst 1, 1), (28, .isub, 1), (29, .putfield 62, 3), (32, .aload_n 0, 1), (33, .getfield 24, 3), (36, .aload_n 0, 1), (37, .getfield 62, 3), (40, .aaload, 1), (41, .aload_n 0, 1), (42, .getfield 9, 3), (45, .invokestatic 65, 3), (48, .aload_n 0, 1), (49, .getfield 62, 3), (52, .ireturn, 1)]
set_option maxRecDepth 100000 in
theorem ddX5_undo : dchk cX5_undo dlX5_undo = true := by decide +kernel
def dlX5_save : List (Nat × Instr × Nat) := [(0, .aload_n 0, 1), (1, .iconst 0, 1), (2, .putfield 53, 3), (5, .aload_n 0, 1), (6, .iconst 1, 1), (7, .putfield 271, 3), (10, .aload_n 0, 1), (11, .getfield 9, 3), (14, .aload_n 0, 1), (15, .getfield 13, 3), (18, .invokestatic 65, 3), (21, .aload_n 0, 1), (22, .getfield 9, 3), (25, .iconst 2, 1), (26, .iaload, 1), (27, .ireturn, 1)]
set_option maxRecDepth 100000 in
theorem ddX5_save : dchk cX5_save dlX5_save = true := by decide +kernel
def dlX5_restore : List (Nat × Instr × Nat) := [(0, .aload_n 0, 1), (1, .iconst 1, 1), (2, .aload_n 0, 1), (3, .getfield 271, 3), (6, .ifCond .ne 7, 3), (9, .iconst 1, 1), (10, .goto 4, 3), (13, .iconst 0, 1), (14, .invokevirtual 81, 3), (17, .ifCond .eq 5, 3), (20, .iconst 0, 1), (21, .ireturn, 1), (22, .aload_n 0, 1), (23, .getfield 13, 3), (26, .aload_n 0, 1), (27, .getfield 9, 3), (30, .invokestatic 65, 3), (33, .aload_n 0, 1), (34, .iconst 0, 1), (35, .putfield 62, 3), (38, .aload_n 0, 1), (39, .getfield 9, 3), (42, .iconst 2, 1), (43, .iaload, 1), (44, .ireturn, 1)]
set_option maxRecDepth 100000 in
theorem ddX5_restore : dchk cX5_restore dlX5_restore = true := by decide +kernel
def dlJxe99ae_isNaN_b9ae7 : List (Nat × Instr × Nat) := [(0, .dload_n 0, 1), (1, .dload_n 0, 1), (2, .dcmp .l, 1), (3, .ifCond .eq 7, 3), (6, .iconst 1, 1), (7, .goto 4, 3), (10, .iconst 0, 1), (11, .ireturn, 1)]
set_option maxRecDepth 100000 in
theorem ddJxe99ae_isNaN_b9ae7 : dchk cJxe99ae_isNaN_b9ae7 dlJxe99ae_isNaN_b9ae7 = true := by decide +kernel
def dlJxe99ae_doubleToLongBits_ccdee : List (Nat × Instr × Nat) := [(0, .dload_n 0, 1), (1, .invokestatic 122, 3), (4, .ifCond .ne 8, 3), (7, .dload_n 0, 1), (8, .invokestatic 134, 3), (11, .lreturn, 1), (12, .ldc2_w 137, 3), (15, .lreturn, 1)]
set_option maxRecDepth 100000 in
theorem ddJxe99ae_doubleToLongBits_ccdee : dchk cJxe99ae_doubleToLongBits_ccdee dlJxe99ae_doubleToLongBits_ccdee = true := by decide +kernel
def dlJxf58ca_isNaN_12338 : List (Nat × Instr × Nat) := [(0, .fload_n 0, 1), (1, .fload_n 0, 1), (2, .fcmp .l, 1), (3, .ifCond .eq 7, 3), (6, .iconst 1, 1), (7, .goto 4, 3), (10, .iconst 0, 1), (11, .ireturn, 1)]
set_option maxRecDepth 100000 in
theorem ddJxf58ca_isNaN_12338 : dchk cJxf58ca_isNaN_12338 dlJxf58ca_isNaN_12338 = true := by decide +kernel
def dlJxf58ca_floatToIntBits_5c35a : List (Nat × Instr × Nat) := [(0, .fload_n 0, 1), (1, .invokestatic 59, 3), (4, .ifCond .ne 8, 3), (7, .fload_n 0, 1), (8, .invokestatic 74, 3), (11, .ireturn, 1), (12, .ldc 77, 2), (14, .ireturn, 1)]
set_option maxRecDepth 100000 in
theorem ddJxf58ca_floatToIntBits_5c35a : dchk cJxf58ca_floatToIntBits_5c35a dlJxf58ca_floatToIntBits_5c35a = true := by decide +kernel
def dlJ7_fill_53178 : List (Nat × Instr × Nat) := [(0, .iconst 0, 1), (1, .istore_n 2, 1), (2, .aload_n 0, 1), (3, .arraylength, 1), (4, .istore_n 3, 1), (5, .iload_n 2, 1), (6, .iload_n 3, 1), (7, .if_icmp .ge 13, 3), (10, .aload_n 0, 1), (11, .iload_n 2, 1), (12, .iload_n 1, 1), (13, .iastore, 1), (14, .iinc 2 1, 3), (17, .goto (-12), 3), (20, .return_, 1)]
set_option maxRecDepth 100000 in
theorem ddJ7_fill_53178 : dchk cJ7_fill_53178 dlJ7_fill_53178 = true := by decide +kernel
def dlJ7_fill_e525d : List (Nat × Instr × Nat) := [(0, .iconst 0, 1), (1, .istore_n 2, 1), (2, .aload_n 0, 1), (3, .arraylength, 1), (4, .istore_n 3, 1), (5, .iload_n 2, 1), (6, .iload_n 3, 1), (7, .if_icmp .ge 13, 3), (10, .aload_n 0, 1), (11, .iload_n 2, 1), (12, .fload_n 1, 1), (13, .fastore, 1), (14, .iinc 2 1, 3), (17, .goto (-12), 3), (20, .return_, 1)]
set_option maxRecDepth 100000 in
theorem ddJ7_fill_e525d : dchk cJ7_fill_e525d dlJ7_fill_e525d = true := by decide +kernel
def dlL_crowd : List (Nat × Instr × Nat) := [(0, .aload_n 2, 1), (1, .iconst 0, 1), (2, .aload_n 0, 1), (3, .iload_n 1, 1), (4, .invokevirtual 7, 3), (7, .i2l, 1), (8, .lastore, 1), (9, .goto 6, 3), (12, .astore_n 3, 1), (13, .iconst 1, 1), (14, .ireturn, 1), (15, .iconst 0, 1), (16, .ireturn, 1)]
set_option maxRecDepth 100000 in
theorem ddL_crowd : dchk cL_crowd dlL_crowd = true := by decide +kernel
def dlL_limit : List (Nat × Instr × Nat) := [(0, .aload_n 3, 1), (1, .iconst 0, 1), (2, .aload_n 0, 1), (3, .iload_n 1, 1), (4, .iload_n 2, 1), (5, .invokevirtual 15, 3), (8, .i2l, 1), (9, .lastore, 1), (10, .goto 11, 3), (13, .astore 4, 2), (15, .iconst 1, 1), (16, .ireturn, 1), (17, .astore 4, 2), (19, .iconst 2, 1), (20, .ireturn, 1), (21, .iconst 0, 1), (22, .ireturn, 1)]
set_option maxRecDepth 100000 in
theorem ddL_limit : dchk cL_limit dlL_limit = true := by decide +kernel
def dlL_busker : List (Nat × Instr × Nat) := [(0, .aload_n 3, 1), (1, .iconst 0, 1), (2, .aload_n 0, 1), (3, .iload_n 1, 1), (4, .iload_n 2, 1), (5, .invokevirtual 21, 3), (8, .i2l, 1), (9, .lastore, 1), (10, .goto 11, 3), (13, .astore 4, 2), (15, .iconst 1, 1), (16, .ireturn, 1), (17, .astore 4, 2), (19, .iconst 2, 1), (20, .ireturn, 1), (21, .iconst 0, 1), (22, .ireturn, 1)]
set_option maxRecDepth 100000 in
theorem ddL_busker : dchk cL_busker dlL_busker = true := by decide +kernel
def dlL_buskerOf : List (Nat × Instr × Nat) := [(0, .aload_n 3, 1), (1, .iconst 0, 1), (2, .aload_n 0, 1), (3, .iload_n 1, 1), (4, .iload_n 2, 1), (5, .invokevirtual 26, 3), (8, .i2l, 1), (9, .lastore, 1), (10, .goto 11, 3), (13, .astore 4, 2), (15, .iconst 1, 1), (16, .ireturn, 1), (17, .astore 4, 2), (19, .iconst 2, 1), (20, .ireturn, 1), (21, .iconst 0, 1), (22, .ireturn, 1)]
set_option maxRecDepth 100000 in
theorem ddL_buskerOf : dchk cL_buskerOf dlL_buskerOf = true := by decide +kernel
def dlL_hat : List (Nat × Instr × Nat) := [(0, .aload_n 2, 1), (1, .iconst 0, 1), (2, .aload_n 0, 1), (3, .iload_n 1, 1), (4, .invokevirtual 29, 3), (7, .f2d, 1), (8, .dastore, 1), (9, .goto 6, 3), (12, .astore_n 3, 1), (13, .iconst 1, 1), (14, .ireturn, 1), (15, .iconst 0, 1), (16, .ireturn, 1)]
set_option maxRecDepth 100000 in
theorem ddL_hat : dchk cL_hat dlL_hat = true := by decide +kernel
def dlL_wear : List (Nat × Instr × Nat) := [(0, .aload_n 2, 1), (1, .iconst 0, 1), (2, .aload_n 0, 1), (3, .iload_n 1, 1), (4, .invokevirtual 33, 3), (7, .i2l, 1), (8, .lastore, 1), (9, .goto 6, 3), (12, .astore_n 3, 1), (13, .iconst 1, 1), (14, .ireturn, 1), (15, .iconst 0, 1), (16, .ireturn, 1)]
set_option maxRecDepth 100000 in
theorem ddL_wear : dchk cL_wear dlL_wear = true := by decide +kernel
def dlL_pitchOf : List (Nat × Instr × Nat) := [(0, .aload_n 3, 1), (1, .iconst 0, 1), (2, .aload_n 0, 1), (3, .iload_n 1, 1), (4, .iload_n 2, 1), (5, .invokevirtual 36, 3), (8, .i2l, 1), (9, .lastore, 1), (10, .goto 11, 3), (13, .astore 4, 2), (15, .iconst 1, 1), (16, .ireturn, 1), (17, .astore 4, 2), (19, .iconst 2, 1), (20, .ireturn, 1), (21, .iconst 0, 1), (22, .ireturn, 1)]
set_option maxRecDepth 100000 in
theorem ddL_pitchOf : dchk cL_pitchOf dlL_pitchOf = true := by decide +kernel
def dlL_join : List (Nat × Instr × Nat) := [(0, .aload_n 2, 1), (1, .iconst 0, 1), (2, .aload_n 0, 1), (3, .iload_n 1, 1), (4, .invokevirtual 39, 3), (7, .i2l, 1), (8, .lastore, 1), (9, .goto 9, 3), (12, .astore_n 3, 1), (13, .iconst 1, 1), (14, .ireturn, 1), (15, .astore_n 3, 1), (16, .iconst 2, 1), (17, .ireturn, 1), (18, .iconst 0, 1), (19, .ireturn, 1)]
set_option maxRecDepth 100000 in
theorem ddL_join : dchk cL_join dlL_join = true := by decide +kernel
def dlL_draw : List (Nat × Instr × Nat) := [(0, .aload_n 3, 1), (1, .iconst 0, 1), (2, .aload_n 0, 1), (3, .iload_n 1, 1), (4, .iload_n 2, 1), (5, .invokevirtual 42, 3), (8, .i2l, 1), (9, .lastore, 1), (10, .goto 15, 3), (13, .astore 4, 2), (15, .iconst 1, 1), (16, .ireturn, 1), (17, .astore 4, 2), (19, .iconst 2, 1), (20, .ireturn, 1), (21, .astore 4, 2), (23, .iconst 3, 1), (24, .ireturn, 1), (25, .iconst 0, 1), (26, .ireturn, 1)]
set_option maxRecDepth 100000 in
theorem ddL_draw : dchk cL_draw dlL_draw = true := by decide +kernel
def dlL_waiting : List (Nat × Instr × Nat) := [(0, .aload_n 2, 1), (1, .iconst 0, 1), (2, .aload_n 0, 1), (3, .iload_n 1, 1), (4, .invokevirtual 45, 3), (7, .i2l, 1), (8, .lastore, 1), (9, .goto 6, 3), (12, .astore_n 3, 1), (13, .iconst 1, 1), (14, .ireturn, 1), (15, .iconst 0, 1), (16, .ireturn, 1)]
set_option maxRecDepth 100000 in
theorem ddL_waiting : dchk cL_waiting dlL_waiting = true := by decide +kernel
def dlL_leave : List (Nat × Instr × Nat) := [(0, .aload_n 2, 1), (1, .iconst 0, 1), (2, .aload_n 0, 1), (3, .iload_n 1, 1), (4, .invokevirtual 50, 3), (7, .i2l, 1), (8, .lastore, 1), (9, .goto 9, 3), (12, .astore_n 3, 1), (13, .iconst 1, 1), (14, .ireturn, 1), (15, .astore_n 3, 1), (16, .iconst 2, 1), (17, .ireturn, 1), (18, .iconst 0, 1), (19, .ireturn, 1)]
set_option maxRecDepth 100000 in
theorem ddL_leave : dchk cL_leave dlL_leave = true := by decide +kernel
def dlL_swap : List (Nat × Instr × Nat) := [(0, .aload_n 3, 1), (1, .iconst 0, 1), (2, .aload_n 0, 1), (3, .iload_n 1, 1), (4, .iload_n 2, 1), (5, .invokevirtual 53, 3), (8, .i2l, 1), (9, .lastore, 1), (10, .goto 11, 3), (13, .astore 4, 2), (15, .iconst 1, 1), (16, .ireturn, 1), (17, .astore 4, 2), (19, .iconst 2, 1), (20, .ireturn, 1), (21, .iconst 0, 1), (22, .ireturn, 1)]
set_option maxRecDepth 100000 in
theorem ddL_swap : dchk cL_swap dlL_swap = true := by decide +kernel
def dlL_noise : List (Nat × Instr × Nat) := [(0, .aload_n 2, 1), (1, .iconst 0, 1), (2, .aload_n 0, 1), (3, .iload_n 1, 1), (4, .invokevirtual 56, 3), (7, .i2l, 1), (8, .lastore, 1), (9, .goto 6, 3), (12, .astore_n 3, 1), (13, .iconst 1, 1), (14, .ireturn, 1), (15, .iconst 0, 1), (16, .ireturn, 1)]
set_option maxRecDepth 100000 in
theorem ddL_noise : dchk cL_noise dlL_noise = true := by decide +kernel
def dlL_noiseAgain : List (Nat × Instr × Nat) := [(0, .aload_n 2, 1), (1, .iconst 0, 1), (2, .aload_n 0, 1), (3, .iload_n 1, 1), (4, .invokevirtual 59, 3), (7, .i2l, 1), (8, .lastore, 1), (9, .goto 6, 3), (12, .astore_n 3, 1), (13, .iconst 1, 1), (14, .ireturn, 1), (15, .iconst 0, 1), (16, .ireturn, 1)]
set_option maxRecDepth 100000 in
theorem ddL_noiseAgain : dchk cL_noiseAgain dlL_noiseAgain = true := by decide +kernel
def dlL_below : List (Nat × Instr × Nat) := [(0, .aload_n 2, 1), (1, .iconst 0, 1), (2, .aload_n 0, 1), (3, .iload_n 1, 1), (4, .invokevirtual 62, 3), (7, .f2d, 1), (8, .dastore, 1), (9, .goto 6, 3), (12, .astore_n 3, 1), (13, .iconst 1, 1), (14, .ireturn, 1), (15, .iconst 0, 1), (16, .ireturn, 1)]
set_option maxRecDepth 100000 in
theorem ddL_below : dchk cL_below dlL_below = true := by decide +kernel
def dlL_noiseWith : List (Nat × Instr × Nat) := [(0, .aload_n 3, 1), (1, .iconst 0, 1), (2, .aload_n 0, 1), (3, .iload_n 1, 1), (4, .iload_n 2, 1), (5, .invokevirtual 65, 3), (8, .i2l, 1), (9, .lastore, 1), (10, .goto 7, 3), (13, .astore 4, 2), (15, .iconst 1, 1), (16, .ireturn, 1), (17, .iconst 0, 1), (18, .ireturn, 1)]
set_option maxRecDepth 100000 in
theorem ddL_noiseWith : dchk cL_noiseWith dlL_noiseWith = true := by decide +kernel
def dlL_quietest : List (Nat × Instr × Nat) := [(0, .aload_n 2, 1), (1, .iconst 0, 1), (2, .aload_n 0, 1), (3, .iload_n 1, 1), (4, .invokevirtual 68, 3), (7, .i2l, 1), (8, .lastore, 1), (9, .goto 9, 3), (12, .astore_n 3, 1), (13, .iconst 1, 1), (14, .ireturn, 1), (15, .astore_n 3, 1), (16, .iconst 2, 1), (17, .ireturn, 1), (18, .iconst 0, 1), (19, .ireturn, 1)]
set_option maxRecDepth 100000 in
theorem ddL_quietest : dchk cL_quietest dlL_quietest = true := by decide +kernel
def dlL_strings : List (Nat × Instr × Nat) := [(0, .aload_n 2, 1), (1, .iconst 0, 1), (2, .aload_n 0, 1), (3, .iload_n 1, 1), (4, .invokevirtual 71, 3), (7, .i2l, 1), (8, .lastore, 1), (9, .goto 9, 3), (12, .astore_n 3, 1), (13, .iconst 1, 1), (14, .ireturn, 1), (15, .astore_n 3, 1), (16, .iconst 2, 1), (17, .ireturn, 1), (18, .iconst 0, 1), (19, .ireturn, 1)]
set_option maxRecDepth 100000 in
theorem ddL_strings : dchk cL_strings dlL_strings = true := by decide +kernel
def dlL_snapsIn : List (Nat × Instr × Nat) := [(0, .aload_n 2, 1), (1, .iconst 0, 1), (2, .aload_n 0, 1), (3, .iload_n 1, 1), (4, .invokevirtual 74, 3), (7, .i2l, 1), (8, .lastore, 1), (9, .goto 9, 3), (12, .astore_n 3, 1), (13, .iconst 1, 1), (14, .ireturn, 1), (15, .astore_n 3, 1), (16, .iconst 2, 1), (17, .ireturn, 1), (18, .iconst 0, 1), (19, .ireturn, 1)]
set_option maxRecDepth 100000 in
theorem ddL_snapsIn : dchk cL_snapsIn dlL_snapsIn = true := by decide +kernel
def dlL_answer : List (Nat × Instr × Nat) := [(0, .aload_n 2, 1), (1, .iconst 0, 1), (2, .aload_n 0, 1), (3, .iload_n 1, 1), (4, .invokevirtual 77, 3), (7, .i2l, 1), (8, .lastore, 1), (9, .goto 9, 3), (12, .astore_n 3, 1), (13, .iconst 1, 1), (14, .ireturn, 1), (15, .astore_n 3, 1), (16, .iconst 2, 1), (17, .ireturn, 1), (18, .iconst 0, 1), (19, .ireturn, 1)]
set_option maxRecDepth 100000 in
theorem ddL_answer : dchk cL_answer dlL_answer = true := by decide +kernel
def dlL_rack : List (Nat × Instr × Nat) := [(0, .aload_n 3, 1), (1, .iconst 0, 1), (2, .aload_n 0, 1), (3, .iload_n 1, 1), (4, .iload_n 2, 1), (5, .invokevirtual 80, 3), (8, .i2l, 1), (9, .lastore, 1), (10, .goto 11, 3), (13, .astore 4, 2), (15, .iconst 1, 1), (16, .ireturn, 1), (17, .astore 4, 2), (19, .iconst 2, 1), (20, .ireturn, 1), (21, .iconst 0, 1), (22, .ireturn, 1)]
set_option maxRecDepth 100000 in
theorem ddL_rack : dchk cL_rack dlL_rack = true := by decide +kernel
def dlL_unrack : List (Nat × Instr × Nat) := [(0, .aload_n 2, 1), (1, .iconst 0, 1), (2, .aload_n 0, 1), (3, .iload_n 1, 1), (4, .invokevirtual 83, 3), (7, .i2l, 1), (8, .lastore, 1), (9, .goto 9, 3), (12, .astore_n 3, 1), (13, .iconst 1, 1), (14, .ireturn, 1), (15, .astore_n 3, 1), (16, .iconst 2, 1), (17, .ireturn, 1), (18, .iconst 0, 1), (19, .ireturn, 1)]
set_option maxRecDepth 100000 in
theorem ddL_unrack : dchk cL_unrack dlL_unrack = true := by decide +kernel
def dlL_onRack : List (Nat × Instr × Nat) := [(0, .aload_n 3, 1), (1, .iconst 0, 1), (2, .aload_n 0, 1), (3, .iload_n 1, 1), (4, .iload_n 2, 1), (5, .invokevirtual 86, 3), (8, .i2l, 1), (9, .lastore, 1), (10, .goto 11, 3), (13, .astore 4, 2), (15, .iconst 1, 1), (16, .ireturn, 1), (17, .astore 4, 2), (19, .iconst 2, 1), (20, .ireturn, 1), (21, .iconst 0, 1), (22, .ireturn, 1)]
set_option maxRecDepth 100000 in
theorem ddL_onRack : dchk cL_onRack dlL_onRack = true := by decide +kernel
def dlL_ranked : List (Nat × Instr × Nat) := [(0, .aload_n 2, 1), (1, .iconst 0, 1), (2, .aload_n 0, 1), (3, .iload_n 1, 1), (4, .invokevirtual 89, 3), (7, .i2l, 1), (8, .lastore, 1), (9, .goto 6, 3), (12, .astore_n 3, 1), (13, .iconst 1, 1), (14, .ireturn, 1), (15, .iconst 0, 1), (16, .ireturn, 1)]
set_option maxRecDepth 100000 in
theorem ddL_ranked : dchk cL_ranked dlL_ranked = true := by decide +kernel
def dlL_pass : List (Nat × Instr × Nat) := [(0, .aload_n 2, 1), (1, .iconst 0, 1), (2, .aload_n 0, 1), (3, .iload_n 1, 1), (4, .invokevirtual 92, 3), (7, .i2l, 1), (8, .lastore, 1), (9, .goto 6, 3), (12, .astore_n 3, 1), (13, .iconst 1, 1), (14, .ireturn, 1), (15, .iconst 0, 1), (16, .ireturn, 1)]
set_option maxRecDepth 100000 in
theorem ddL_pass : dchk cL_pass dlL_pass = true := by decide +kernel
def dlL_hatIn : List (Nat × Instr × Nat) := [(0, .aload_n 3, 1), (1, .iconst 0, 1), (2, .aload_n 0, 1), (3, .iload_n 1, 1), (4, .iload_n 2, 1), (5, .invokevirtual 95, 3), (8, .i2l, 1), (9, .lastore, 1), (10, .goto 11, 3), (13, .astore 4, 2), (15, .iconst 1, 1), (16, .ireturn, 1), (17, .astore 4, 2), (19, .iconst 2, 1), (20, .ireturn, 1), (21, .iconst 0, 1), (22, .ireturn, 1)]
set_option maxRecDepth 100000 in
theorem ddL_hatIn : dchk cL_hatIn dlL_hatIn = true := by decide +kernel
def dlL_playingIn : List (Nat × Instr × Nat) := [(0, .aload_n 2, 1), (1, .iconst 0, 1), (2, .aload_n 0, 1), (3, .iload_n 1, 1), (4, .invokevirtual 98, 3), (7, .i2l, 1), (8, .lastore, 1), (9, .goto 6, 3), (12, .astore_n 3, 1), (13, .iconst 1, 1), (14, .ireturn, 1), (15, .iconst 0, 1), (16, .ireturn, 1)]
set_option maxRecDepth 100000 in
theorem ddL_playingIn : dchk cL_playingIn dlL_playingIn = true := by decide +kernel
def dlL_sign : List (Nat × Instr × Nat) := [(0, .aload_n 2, 1), (1, .iconst 0, 1), (2, .aload_n 0, 1), (3, .iload_n 1, 1), (4, .invokevirtual 101, 3), (7, .i2l, 1), (8, .lastore, 1), (9, .goto 6, 3), (12, .astore_n 3, 1), (13, .iconst 1, 1), (14, .ireturn, 1), (15, .iconst 0, 1), (16, .ireturn, 1)]
set_option maxRecDepth 100000 in
theorem ddL_sign : dchk cL_sign dlL_sign = true := by decide +kernel
def dlL_append : List (Nat × Instr × Nat) := [(0, .aload_n 2, 1), (1, .iconst 0, 1), (2, .aload_n 0, 1), (3, .iload_n 1, 1), (4, .invokevirtual 105, 3), (7, .i2l, 1), (8, .lastore, 1), (9, .goto 6, 3), (12, .astore_n 3, 1), (13, .iconst 1, 1), (14, .ireturn, 1), (15, .iconst 0, 1), (16, .ireturn, 1)]
set_option maxRecDepth 100000 in
theorem ddL_append : dchk cL_append dlL_append = true := by decide +kernel
def dlL_read : List (Nat × Instr × Nat) := [(0, .aload_n 1, 1), (1, .iconst 0, 1), (2, .aload_n 0, 1), (3, .invokevirtual 111, 3), (6, .i2l, 1), (7, .lastore, 1), (8, .goto 9, 3), (11, .astore_n 2, 1), (12, .iconst 1, 1), (13, .ireturn, 1), (14, .astore_n 2, 1), (15, .iconst 2, 1), (16, .ireturn, 1), (17, .iconst 0, 1), (18, .ireturn, 1)]
set_option maxRecDepth 100000 in
theorem ddL_read : dchk cL_read dlL_read = true := by decide +kernel
def dlL_refusal : List (Nat × Instr × Nat) := [(0, .aload_n 2, 1), (1, .iconst 0, 1), (2, .aload_n 0, 1), (3, .iload_n 1, 1), (4, .invokevirtual 115, 3), (7, .i2l, 1), (8, .lastore, 1), (9, .goto 6, 3), (12, .astore_n 3, 1), (13, .iconst 1, 1), (14, .ireturn, 1), (15, .iconst 0, 1), (16, .ireturn, 1)]
set_option maxRecDepth 100000 in
theorem ddL_refusal : dchk cL_refusal dlL_refusal = true := by decide +kernel
def dlL_account : List (Nat × Instr × Nat) := [(0, .aload_n 2, 1), (1, .iconst 0, 1), (2, .aload_n 0, 1), (3, .iload_n 1, 1), (4, .invokevirtual 119, 3), (7, .i2l, 1), (8, .lastore, 1), (9, .goto 6, 3), (12, .astore_n 3, 1), (13, .iconst 1, 1), (14, .ireturn, 1), (15, .iconst 0, 1), (16, .ireturn, 1)]
set_option maxRecDepth 100000 in
theorem ddL_account : dchk cL_account dlL_account = true := by decide +kernel
def dlL_meanBits : List (Nat × Instr × Nat) := [(0, .aload_n 1, 1), (1, .iconst 0, 1), (2, .aload_n 0, 1), (3, .invokevirtual 122, 3), (6, .lastore, 1), (7, .goto 6, 3), (10, .astore_n 2, 1), (11, .iconst 1, 1), (12, .ireturn, 1), (13, .iconst 0, 1), (14, .ireturn, 1)]
set_option maxRecDepth 100000 in
theorem ddL_meanBits : dchk cL_meanBits dlL_meanBits = true := by decide +kernel
def dlL_undo : List (Nat × Instr × Nat) := [(0, .aload_n 1, 1), (1, .iconst 0, 1), (2, .aload_n 0, 1), (3, .invokevirtual 128, 3), (6, .i2l, 1), (7, .lastore, 1), (8, .goto 6, 3), (11, .astore_n 2, 1), (12, .iconst 1, 1), (13, .ireturn, 1), (14, .iconst 0, 1), (15, .ireturn, 1)]
set_option maxRecDepth 100000 in
theorem ddL_undo : dchk cL_undo dlL_undo = true := by decide +kernel
def dlL_restore : List (Nat × Instr × Nat) := [(0, .aload_n 1, 1), (1, .iconst 0, 1), (2, .aload_n 0, 1), (3, .invokevirtual 131, 3), (6, .i2l, 1), (7, .lastore, 1), (8, .goto 6, 3), (11, .astore_n 2, 1), (12, .iconst 1, 1), (13, .ireturn, 1), (14, .iconst 0, 1), (15, .ireturn, 1)]
set_option maxRecDepth 100000 in
theorem ddL_restore : dchk cL_restore dlL_restore = true := by decide +kernel
end
section
/-! decode lists of the law, by program -/
def dlL_law0 : List (Nat × Instr × Nat) := [(0, .new 8, 3), (3, .dup, 1), (4, .invokespecial 134, 3), (7, .astore_n 1, 1), (8, .new 135, 3), (11, .dup, 1), (12, .invokespecial 137, 3), (15, .astore_n 2, 1), (16, .iconst 1, 1), (17, .newarray .long, 2), (19, .astore_n 3, 1), (20, .iconst 1, 1), (21, .newarray .double, 2), (23, .astore 4, 2), (25, .iconst 0, 1), (26, .istore 5, 2), (28, .iload 5, 2), (30, .aload_n 0, 1), (31, .arraylength, 1), (32, .iconst 3, 1), (33, .isub, 1), (34, .if_icmp .gt 2333, 3), (37, .aload_n 0, 1), (38, .iload 5, 2), (40, .iaload, 1), (41, .bipush 63, 2), (43, .iand, 1), (44, .tableswitch 2317 0 38 #[172, 228, 296, 364, 432, 510, 566, 634, 690, 758, 814, 870, 938, 994, 1050, 1128, 1196, 1252, 1265, 1321, 1377, 1433, 1501, 1557, 1625, 1681, 1737, 1805, 1861, 1917, 1975, 2019, 2032, 2104, 2160, 2173, 2216, 2260, 2273], 172), (216, .aload_n 1, 1), (217, .aload_n 0, 1), (218, .iload 5, 2), (220, .iconst 1, 1)]
set_option maxRecDepth 100000 in
theorem ddL_law0 : dchk cL_law dlL_law0 = true := by decide +kernel
def dlL_law1 : List (Nat × Instr × Nat) := [(221, .iadd, 1), (222, .iaload, 1), (223, .aload_n 3, 1), (224, .invokestatic 138, 3), (227, .istore 6, 2), (229, .aload_n 2, 1), (230, .aload_n 0, 1), (231, .iload 5, 2), (233, .iconst 1, 1), (234, .iadd, 1), (235, .iaload, 1), (236, .invokevirtual 143, 3), (239, .istore 7, 2), (241, .aload_n 2, 1), (242, .invokevirtual 144, 3), (245, .iload 6, 2), (247, .if_icmp .eq 5, 3), (250, .iconst 0, 1), (251, .ireturn, 1), (252, .iload 6, 2), (254, .ifCond .ne 15, 3), (257, .aload_n 3, 1), (258, .iconst 0, 1), (259, .laload, 1), (260, .iload 7, 2), (262, .i2l, 1), (263, .lcmp, 1), (264, .ifCond .eq 5, 3), (267, .iconst 0, 1), (268, .ireturn, 1), (269, .goto 2092, 3), (272, .aload_n 1, 1)]
set_option maxRecDepth 100000 in
theorem ddL_law1 : dchk cL_law dlL_law1 = true := by decide +kernel
def dlL_law2 : List (Nat × Instr × Nat) := [(273, .aload_n 0, 1), (274, .iload 5, 2), (276, .iconst 1, 1), (277, .iadd, 1), (278, .iaload, 1), (279, .aload_n 0, 1), (280, .iload 5, 2), (282, .iconst 2, 1), (283, .iadd, 1), (284, .iaload, 1), (285, .aload_n 3, 1), (286, .invokestatic 147, 3), (289, .istore 6, 2), (291, .aload_n 2, 1), (292, .aload_n 0, 1), (293, .iload 5, 2), (295, .iconst 1, 1), (296, .iadd, 1), (297, .iaload, 1), (298, .aload_n 0, 1), (299, .iload 5, 2), (301, .iconst 2, 1), (302, .iadd, 1), (303, .iaload, 1), (304, .invokevirtual 150, 3), (307, .istore 7, 2), (309, .aload_n 2, 1), (310, .invokevirtual 144, 3), (313, .iload 6, 2), (315, .if_icmp .eq 5, 3), (318, .iconst 0, 1), (319, .ireturn, 1)]
set_option maxRecDepth 100000 in
theorem ddL_law2 : dchk cL_law dlL_law2 = true := by decide +kernel
def dlL_law3 : List (Nat × Instr × Nat) := [(320, .iload 6, 2), (322, .ifCond .ne 15, 3), (325, .aload_n 3, 1), (326, .iconst 0, 1), (327, .laload, 1), (328, .iload 7, 2), (330, .i2l, 1), (331, .lcmp, 1), (332, .ifCond .eq 5, 3), (335, .iconst 0, 1), (336, .ireturn, 1), (337, .goto 2024, 3), (340, .aload_n 1, 1), (341, .aload_n 0, 1), (342, .iload 5, 2), (344, .iconst 1, 1), (345, .iadd, 1), (346, .iaload, 1), (347, .aload_n 0, 1), (348, .iload 5, 2), (350, .iconst 2, 1), (351, .iadd, 1), (352, .iaload, 1), (353, .aload_n 3, 1), (354, .invokestatic 151, 3), (357, .istore 6, 2), (359, .aload_n 2, 1), (360, .aload_n 0, 1), (361, .iload 5, 2), (363, .iconst 1, 1), (364, .iadd, 1), (365, .iaload, 1)]
set_option maxRecDepth 100000 in
theorem ddL_law3 : dchk cL_law dlL_law3 = true := by decide +kernel
def dlL_law4 : List (Nat × Instr × Nat) := [(366, .aload_n 0, 1), (367, .iload 5, 2), (369, .iconst 2, 1), (370, .iadd, 1), (371, .iaload, 1), (372, .invokevirtual 153, 3), (375, .istore 7, 2), (377, .aload_n 2, 1), (378, .invokevirtual 144, 3), (381, .iload 6, 2), (383, .if_icmp .eq 5, 3), (386, .iconst 0, 1), (387, .ireturn, 1), (388, .iload 6, 2), (390, .ifCond .ne 15, 3), (393, .aload_n 3, 1), (394, .iconst 0, 1), (395, .laload, 1), (396, .iload 7, 2), (398, .i2l, 1), (399, .lcmp, 1), (400, .ifCond .eq 5, 3), (403, .iconst 0, 1), (404, .ireturn, 1), (405, .goto 1956, 3), (408, .aload_n 1, 1), (409, .aload_n 0, 1), (410, .iload 5, 2), (412, .iconst 1, 1), (413, .iadd, 1), (414, .iaload, 1), (415, .aload_n 0, 1)]
set_option maxRecDepth 100000 in
theorem ddL_law4 : dchk cL_law dlL_law4 = true := by decide +kernel
def dlL_law5 : List (Nat × Instr × Nat) := [(416, .iload 5, 2), (418, .iconst 2, 1), (419, .iadd, 1), (420, .iaload, 1), (421, .aload_n 3, 1), (422, .invokestatic 154, 3), (425, .istore 6, 2), (427, .aload_n 2, 1), (428, .aload_n 0, 1), (429, .iload 5, 2), (431, .iconst 1, 1), (432, .iadd, 1), (433, .iaload, 1), (434, .aload_n 0, 1), (435, .iload 5, 2), (437, .iconst 2, 1), (438, .iadd, 1), (439, .iaload, 1), (440, .invokevirtual 156, 3), (443, .istore 7, 2), (445, .aload_n 2, 1), (446, .invokevirtual 144, 3), (449, .iload 6, 2), (451, .if_icmp .eq 5, 3), (454, .iconst 0, 1), (455, .ireturn, 1), (456, .iload 6, 2), (458, .ifCond .ne 15, 3), (461, .aload_n 3, 1), (462, .iconst 0, 1), (463, .laload, 1), (464, .iload 7, 2)]
set_option maxRecDepth 100000 in
theorem ddL_law5 : dchk cL_law dlL_law5 = true := by decide +kernel
def dlL_law6 : List (Nat × Instr × Nat) := [(466, .i2l, 1), (467, .lcmp, 1), (468, .ifCond .eq 5, 3), (471, .iconst 0, 1), (472, .ireturn, 1), (473, .goto 1888, 3), (476, .aload_n 1, 1), (477, .aload_n 0, 1), (478, .iload 5, 2), (480, .iconst 1, 1), (481, .iadd, 1), (482, .iaload, 1), (483, .aload 4, 2), (485, .invokestatic 157, 3), (488, .istore 6, 2), (490, .aload_n 2, 1), (491, .aload_n 0, 1), (492, .iload 5, 2), (494, .iconst 1, 1), (495, .iadd, 1), (496, .iaload, 1), (497, .invokevirtual 160, 3), (500, .fstore 7, 2), (502, .aload_n 2, 1), (503, .invokevirtual 144, 3), (506, .iload 6, 2), (508, .if_icmp .eq 5, 3), (511, .iconst 0, 1), (512, .ireturn, 1), (513, .iload 6, 2), (515, .ifCond .ne 36, 3), (518, .aload 4, 2)]
set_option maxRecDepth 100000 in
theorem ddL_law6 : dchk cL_law dlL_law6 = true := by decide +kernel
def dlL_law7 : List (Nat × Instr × Nat) := [(520, .iconst 0, 1), (521, .daload, 1), (522, .fload 7, 2), (524, .f2d, 1), (525, .dcmp .l, 1), (526, .ifCond .eq 25, 3), (529, .aload 4, 2), (531, .iconst 0, 1), (532, .daload, 1), (533, .aload 4, 2), (535, .iconst 0, 1), (536, .daload, 1), (537, .dcmp .l, 1), (538, .ifCond .eq 11, 3), (541, .fload 7, 2), (543, .fload 7, 2), (545, .fcmp .l, 1), (546, .ifCond .ne 5, 3), (549, .iconst 0, 1), (550, .ireturn, 1), (551, .goto 1810, 3), (554, .aload_n 1, 1), (555, .aload_n 0, 1), (556, .iload 5, 2), (558, .iconst 1, 1), (559, .iadd, 1), (560, .iaload, 1), (561, .aload_n 3, 1), (562, .invokestatic 161, 3), (565, .istore 6, 2), (567, .aload_n 2, 1), (568, .aload_n 0, 1)]
set_option maxRecDepth 100000 in
theorem ddL_law7 : dchk cL_law dlL_law7 = true := by decide +kernel
def dlL_law8 : List (Nat × Instr × Nat) := [(569, .iload 5, 2), (571, .iconst 1, 1), (572, .iadd, 1), (573, .iaload, 1), (574, .invokevirtual 163, 3), (577, .istore 7, 2), (579, .aload_n 2, 1), (580, .invokevirtual 144, 3), (583, .iload 6, 2), (585, .if_icmp .eq 5, 3), (588, .iconst 0, 1), (589, .ireturn, 1), (590, .iload 6, 2), (592, .ifCond .ne 15, 3), (595, .aload_n 3, 1), (596, .iconst 0, 1), (597, .laload, 1), (598, .iload 7, 2), (600, .i2l, 1), (601, .lcmp, 1), (602, .ifCond .eq 5, 3), (605, .iconst 0, 1), (606, .ireturn, 1), (607, .goto 1754, 3), (610, .aload_n 1, 1), (611, .aload_n 0, 1), (612, .iload 5, 2), (614, .iconst 1, 1), (615, .iadd, 1), (616, .iaload, 1), (617, .aload_n 0, 1), (618, .iload 5, 2)]
set_option maxRecDepth 100000 in
theorem ddL_law8 : dchk cL_law dlL_law8 = true := by decide +kernel
def dlL_law9 : List (Nat × Instr × Nat) := [(620, .iconst 2, 1), (621, .iadd, 1), (622, .iaload, 1), (623, .aload_n 3, 1), (624, .invokestatic 164, 3), (627, .istore 6, 2), (629, .aload_n 2, 1), (630, .aload_n 0, 1), (631, .iload 5, 2), (633, .iconst 1, 1), (634, .iadd, 1), (635, .iaload, 1), (636, .aload_n 0, 1), (637, .iload 5, 2), (639, .iconst 2, 1), (640, .iadd, 1), (641, .iaload, 1), (642, .invokevirtual 166, 3), (645, .istore 7, 2), (647, .aload_n 2, 1), (648, .invokevirtual 144, 3), (651, .iload 6, 2), (653, .if_icmp .eq 5, 3), (656, .iconst 0, 1), (657, .ireturn, 1), (658, .iload 6, 2), (660, .ifCond .ne 15, 3), (663, .aload_n 3, 1), (664, .iconst 0, 1), (665, .laload, 1), (666, .iload 7, 2), (668, .i2l, 1)]
set_option maxRecDepth 100000 in
theorem ddL_law9 : dchk cL_law dlL_law9 = true := by decide +kernel
def dlL_law10 : List (Nat × Instr × Nat) := [(669, .lcmp, 1), (670, .ifCond .eq 5, 3), (673, .iconst 0, 1), (674, .ireturn, 1), (675, .goto 1686, 3), (678, .aload_n 1, 1), (679, .aload_n 0, 1), (680, .iload 5, 2), (682, .iconst 1, 1), (683, .iadd, 1), (684, .iaload, 1), (685, .aload_n 3, 1), (686, .invokestatic 167, 3), (689, .istore 6, 2), (691, .aload_n 2, 1), (692, .aload_n 0, 1), (693, .iload 5, 2), (695, .iconst 1, 1), (696, .iadd, 1), (697, .iaload, 1), (698, .invokevirtual 169, 3), (701, .istore 7, 2), (703, .aload_n 2, 1), (704, .invokevirtual 144, 3), (707, .iload 6, 2), (709, .if_icmp .eq 5, 3), (712, .iconst 0, 1), (713, .ireturn, 1), (714, .iload 6, 2), (716, .ifCond .ne 15, 3), (719, .aload_n 3, 1), (720, .iconst 0, 1)]
set_option maxRecDepth 100000 in
theorem ddL_law10 : dchk cL_law dlL_law10 = true := by decide +kernel
def dlL_law11 : List (Nat × Instr × Nat) := [(721, .laload, 1), (722, .iload 7, 2), (724, .i2l, 1), (725, .lcmp, 1), (726, .ifCond .eq 5, 3), (729, .iconst 0, 1), (730, .ireturn, 1), (731, .goto 1630, 3), (734, .aload_n 1, 1), (735, .aload_n 0, 1), (736, .iload 5, 2), (738, .iconst 1, 1), (739, .iadd, 1), (740, .iaload, 1), (741, .aload_n 0, 1), (742, .iload 5, 2), (744, .iconst 2, 1), (745, .iadd, 1), (746, .iaload, 1), (747, .aload_n 3, 1), (748, .invokestatic 170, 3), (751, .istore 6, 2), (753, .aload_n 2, 1), (754, .aload_n 0, 1), (755, .iload 5, 2), (757, .iconst 1, 1), (758, .iadd, 1), (759, .iaload, 1), (760, .aload_n 0, 1), (761, .iload 5, 2), (763, .iconst 2, 1), (764, .iadd, 1)]
set_option maxRecDepth 100000 in
theorem ddL_law11 : dchk cL_law dlL_law11 = true := by decide +kernel
def dlL_law12 : List (Nat × Instr × Nat) := [(765, .iaload, 1), (766, .invokevirtual 172, 3), (769, .istore 7, 2), (771, .aload_n 2, 1), (772, .invokevirtual 144, 3), (775, .iload 6, 2), (777, .if_icmp .eq 5, 3), (780, .iconst 0, 1), (781, .ireturn, 1), (782, .iload 6, 2), (784, .ifCond .ne 15, 3), (787, .aload_n 3, 1), (788, .iconst 0, 1), (789, .laload, 1), (790, .iload 7, 2), (792, .i2l, 1), (793, .lcmp, 1), (794, .ifCond .eq 5, 3), (797, .iconst 0, 1), (798, .ireturn, 1), (799, .goto 1562, 3), (802, .aload_n 1, 1), (803, .aload_n 0, 1), (804, .iload 5, 2), (806, .iconst 1, 1), (807, .iadd, 1), (808, .iaload, 1), (809, .aload_n 3, 1), (810, .invokestatic 173, 3), (813, .istore 6, 2), (815, .aload_n 2, 1), (816, .aload_n 0, 1)]
set_option maxRecDepth 100000 in
theorem ddL_law12 : dchk cL_law dlL_law12 = true := by decide +kernel
def dlL_law13 : List (Nat × Instr × Nat) := [(817, .iload 5, 2), (819, .iconst 1, 1), (820, .iadd, 1), (821, .iaload, 1), (822, .invokevirtual 175, 3), (825, .istore 7, 2), (827, .aload_n 2, 1), (828, .invokevirtual 144, 3), (831, .iload 6, 2), (833, .if_icmp .eq 5, 3), (836, .iconst 0, 1), (837, .ireturn, 1), (838, .iload 6, 2), (840, .ifCond .ne 15, 3), (843, .aload_n 3, 1), (844, .iconst 0, 1), (845, .laload, 1), (846, .iload 7, 2), (848, .i2l, 1), (849, .lcmp, 1), (850, .ifCond .eq 5, 3), (853, .iconst 0, 1), (854, .ireturn, 1), (855, .goto 1506, 3), (858, .aload_n 1, 1), (859, .aload_n 0, 1), (860, .iload 5, 2), (862, .iconst 1, 1), (863, .iadd, 1), (864, .iaload, 1), (865, .aload_n 3, 1), (866, .invokestatic 176, 3)]
set_option maxRecDepth 100000 in
theorem ddL_law13 : dchk cL_law dlL_law13 = true := by decide +kernel
def dlL_law14 : List (Nat × Instr × Nat) := [(869, .istore 6, 2), (871, .aload_n 2, 1), (872, .aload_n 0, 1), (873, .iload 5, 2), (875, .iconst 1, 1), (876, .iadd, 1), (877, .iaload, 1), (878, .invokevirtual 178, 3), (881, .istore 7, 2), (883, .aload_n 2, 1), (884, .invokevirtual 144, 3), (887, .iload 6, 2), (889, .if_icmp .eq 5, 3), (892, .iconst 0, 1), (893, .ireturn, 1), (894, .iload 6, 2), (896, .ifCond .ne 15, 3), (899, .aload_n 3, 1), (900, .iconst 0, 1), (901, .laload, 1), (902, .iload 7, 2), (904, .i2l, 1), (905, .lcmp, 1), (906, .ifCond .eq 5, 3), (909, .iconst 0, 1), (910, .ireturn, 1), (911, .goto 1450, 3), (914, .aload_n 1, 1), (915, .aload_n 0, 1), (916, .iload 5, 2), (918, .iconst 1, 1), (919, .iadd, 1)]
set_option maxRecDepth 100000 in
theorem ddL_law14 : dchk cL_law dlL_law14 = true := by decide +kernel
def dlL_law15 : List (Nat × Instr × Nat) := [(920, .iaload, 1), (921, .aload_n 0, 1), (922, .iload 5, 2), (924, .iconst 2, 1), (925, .iadd, 1), (926, .iaload, 1), (927, .aload_n 3, 1), (928, .invokestatic 179, 3), (931, .istore 6, 2), (933, .aload_n 2, 1), (934, .aload_n 0, 1), (935, .iload 5, 2), (937, .iconst 1, 1), (938, .iadd, 1), (939, .iaload, 1), (940, .aload_n 0, 1), (941, .iload 5, 2), (943, .iconst 2, 1), (944, .iadd, 1), (945, .iaload, 1), (946, .invokevirtual 181, 3), (949, .istore 7, 2), (951, .aload_n 2, 1), (952, .invokevirtual 144, 3), (955, .iload 6, 2), (957, .if_icmp .eq 5, 3), (960, .iconst 0, 1), (961, .ireturn, 1), (962, .iload 6, 2), (964, .ifCond .ne 15, 3), (967, .aload_n 3, 1), (968, .iconst 0, 1)]
set_option maxRecDepth 100000 in
theorem ddL_law15 : dchk cL_law dlL_law15 = true := by decide +kernel
def dlL_law16 : List (Nat × Instr × Nat) := [(969, .laload, 1), (970, .iload 7, 2), (972, .i2l, 1), (973, .lcmp, 1), (974, .ifCond .eq 5, 3), (977, .iconst 0, 1), (978, .ireturn, 1), (979, .goto 1382, 3), (982, .aload_n 1, 1), (983, .aload_n 0, 1), (984, .iload 5, 2), (986, .iconst 1, 1), (987, .iadd, 1), (988, .iaload, 1), (989, .aload_n 3, 1), (990, .invokestatic 182, 3), (993, .istore 6, 2), (995, .aload_n 2, 1), (996, .aload_n 0, 1), (997, .iload 5, 2), (999, .iconst 1, 1), (1000, .iadd, 1), (1001, .iaload, 1), (1002, .invokevirtual 184, 3), (1005, .istore 7, 2), (1007, .aload_n 2, 1), (1008, .invokevirtual 144, 3), (1011, .iload 6, 2), (1013, .if_icmp .eq 5, 3), (1016, .iconst 0, 1), (1017, .ireturn, 1), (1018, .iload 6, 2)]
set_option maxRecDepth 100000 in
theorem ddL_law16 : dchk cL_law dlL_law16 = true := by decide +kernel
def dlL_law17 : List (Nat × Instr × Nat) := [(1020, .ifCond .ne 15, 3), (1023, .aload_n 3, 1), (1024, .iconst 0, 1), (1025, .laload, 1), (1026, .iload 7, 2), (1028, .i2l, 1), (1029, .lcmp, 1), (1030, .ifCond .eq 5, 3), (1033, .iconst 0, 1), (1034, .ireturn, 1), (1035, .goto 1326, 3), (1038, .aload_n 1, 1), (1039, .aload_n 0, 1), (1040, .iload 5, 2), (1042, .iconst 1, 1), (1043, .iadd, 1), (1044, .iaload, 1), (1045, .aload_n 3, 1), (1046, .invokestatic 185, 3), (1049, .istore 6, 2), (1051, .aload_n 2, 1), (1052, .aload_n 0, 1), (1053, .iload 5, 2), (1055, .iconst 1, 1), (1056, .iadd, 1), (1057, .iaload, 1), (1058, .invokevirtual 187, 3), (1061, .istore 7, 2), (1063, .aload_n 2, 1), (1064, .invokevirtual 144, 3), (1067, .iload 6, 2), (1069, .if_icmp .eq 5, 3)]
set_option maxRecDepth 100000 in
theorem ddL_law17 : dchk cL_law dlL_law17 = true := by decide +kernel
def dlL_law18 : List (Nat × Instr × Nat) := [(1072, .iconst 0, 1), (1073, .ireturn, 1), (1074, .iload 6, 2), (1076, .ifCond .ne 15, 3), (1079, .aload_n 3, 1), (1080, .iconst 0, 1), (1081, .laload, 1), (1082, .iload 7, 2), (1084, .i2l, 1), (1085, .lcmp, 1), (1086, .ifCond .eq 5, 3), (1089, .iconst 0, 1), (1090, .ireturn, 1), (1091, .goto 1270, 3), (1094, .aload_n 1, 1), (1095, .aload_n 0, 1), (1096, .iload 5, 2), (1098, .iconst 1, 1), (1099, .iadd, 1), (1100, .iaload, 1), (1101, .aload 4, 2), (1103, .invokestatic 188, 3), (1106, .istore 6, 2), (1108, .aload_n 2, 1), (1109, .aload_n 0, 1), (1110, .iload 5, 2), (1112, .iconst 1, 1), (1113, .iadd, 1), (1114, .iaload, 1), (1115, .invokevirtual 190, 3), (1118, .fstore 7, 2), (1120, .aload_n 2, 1)]
set_option maxRecDepth 100000 in
theorem ddL_law18 : dchk cL_law dlL_law18 = true := by decide +kernel
def dlL_law19 : List (Nat × Instr × Nat) := [(1121, .invokevirtual 144, 3), (1124, .iload 6, 2), (1126, .if_icmp .eq 5, 3), (1129, .iconst 0, 1), (1130, .ireturn, 1), (1131, .iload 6, 2), (1133, .ifCond .ne 36, 3), (1136, .aload 4, 2), (1138, .iconst 0, 1), (1139, .daload, 1), (1140, .fload 7, 2), (1142, .f2d, 1), (1143, .dcmp .l, 1), (1144, .ifCond .eq 25, 3), (1147, .aload 4, 2), (1149, .iconst 0, 1), (1150, .daload, 1), (1151, .aload 4, 2), (1153, .iconst 0, 1), (1154, .daload, 1), (1155, .dcmp .l, 1), (1156, .ifCond .eq 11, 3), (1159, .fload 7, 2), (1161, .fload 7, 2), (1163, .fcmp .l, 1), (1164, .ifCond .ne 5, 3), (1167, .iconst 0, 1), (1168, .ireturn, 1), (1169, .goto 1192, 3), (1172, .aload_n 1, 1), (1173, .aload_n 0, 1), (1174, .iload 5, 2)]
set_option maxRecDepth 100000 in
theorem ddL_law19 : dchk cL_law dlL_law19 = true := by decide +kernel
def dlL_law20 : List (Nat × Instr × Nat) := [(1176, .iconst 1, 1), (1177, .iadd, 1), (1178, .iaload, 1), (1179, .aload_n 0, 1), (1180, .iload 5, 2), (1182, .iconst 2, 1), (1183, .iadd, 1), (1184, .iaload, 1), (1185, .aload_n 3, 1), (1186, .invokestatic 191, 3), (1189, .istore 6, 2), (1191, .aload_n 2, 1), (1192, .aload_n 0, 1), (1193, .iload 5, 2), (1195, .iconst 1, 1), (1196, .iadd, 1), (1197, .iaload, 1), (1198, .aload_n 0, 1), (1199, .iload 5, 2), (1201, .iconst 2, 1), (1202, .iadd, 1), (1203, .iaload, 1), (1204, .invokevirtual 193, 3), (1207, .istore 7, 2), (1209, .aload_n 2, 1), (1210, .invokevirtual 144, 3), (1213, .iload 6, 2), (1215, .if_icmp .eq 5, 3), (1218, .iconst 0, 1), (1219, .ireturn, 1), (1220, .iload 6, 2), (1222, .ifCond .ne 15, 3)]
set_option maxRecDepth 100000 in
theorem ddL_law20 : dchk cL_law dlL_law20 = true := by decide +kernel
def dlL_law21 : List (Nat × Instr × Nat) := [(1225, .aload_n 3, 1), (1226, .iconst 0, 1), (1227, .laload, 1), (1228, .iload 7, 2), (1230, .i2l, 1), (1231, .lcmp, 1), (1232, .ifCond .eq 5, 3), (1235, .iconst 0, 1), (1236, .ireturn, 1), (1237, .goto 1124, 3), (1240, .aload_n 1, 1), (1241, .aload_n 0, 1), (1242, .iload 5, 2), (1244, .iconst 1, 1), (1245, .iadd, 1), (1246, .iaload, 1), (1247, .aload_n 3, 1), (1248, .invokestatic 194, 3), (1251, .istore 6, 2), (1253, .aload_n 2, 1), (1254, .aload_n 0, 1), (1255, .iload 5, 2), (1257, .iconst 1, 1), (1258, .iadd, 1), (1259, .iaload, 1), (1260, .invokevirtual 196, 3), (1263, .istore 7, 2), (1265, .aload_n 2, 1), (1266, .invokevirtual 144, 3), (1269, .iload 6, 2), (1271, .if_icmp .eq 5, 3), (1274, .iconst 0, 1)]
set_option maxRecDepth 100000 in
theorem ddL_law21 : dchk cL_law dlL_law21 = true := by decide +kernel
def dlL_law22 : List (Nat × Instr × Nat) := [(1275, .ireturn, 1), (1276, .iload 6, 2), (1278, .ifCond .ne 15, 3), (1281, .aload_n 3, 1), (1282, .iconst 0, 1), (1283, .laload, 1), (1284, .iload 7, 2), (1286, .i2l, 1), (1287, .lcmp, 1), (1288, .ifCond .eq 5, 3), (1291, .iconst 0, 1), (1292, .ireturn, 1), (1293, .goto 1068, 3), (1296, .aload_n 1, 1), (1297, .invokevirtual 197, 3), (1300, .aload_n 2, 1), (1301, .invokevirtual 200, 3), (1304, .if_icmp .eq 1057, 3), (1307, .iconst 0, 1), (1308, .ireturn, 1), (1309, .aload_n 1, 1), (1310, .aload_n 0, 1), (1311, .iload 5, 2), (1313, .iconst 1, 1), (1314, .iadd, 1), (1315, .iaload, 1), (1316, .aload_n 3, 1), (1317, .invokestatic 201, 3), (1320, .istore 6, 2), (1322, .aload_n 2, 1), (1323, .aload_n 0, 1), (1324, .iload 5, 2)]
set_option maxRecDepth 100000 in
theorem ddL_law22 : dchk cL_law dlL_law22 = true := by decide +kernel
def dlL_law23 : List (Nat × Instr × Nat) := [(1326, .iconst 1, 1), (1327, .iadd, 1), (1328, .iaload, 1), (1329, .invokevirtual 203, 3), (1332, .istore 7, 2), (1334, .aload_n 2, 1), (1335, .invokevirtual 144, 3), (1338, .iload 6, 2), (1340, .if_icmp .eq 5, 3), (1343, .iconst 0, 1), (1344, .ireturn, 1), (1345, .iload 6, 2), (1347, .ifCond .ne 15, 3), (1350, .aload_n 3, 1), (1351, .iconst 0, 1), (1352, .laload, 1), (1353, .iload 7, 2), (1355, .i2l, 1), (1356, .lcmp, 1), (1357, .ifCond .eq 5, 3), (1360, .iconst 0, 1), (1361, .ireturn, 1), (1362, .goto 999, 3), (1365, .aload_n 1, 1), (1366, .aload_n 0, 1), (1367, .iload 5, 2), (1369, .iconst 1, 1), (1370, .iadd, 1), (1371, .iaload, 1), (1372, .aload_n 3, 1), (1373, .invokestatic 204, 3), (1376, .istore 6, 2)]
set_option maxRecDepth 100000 in
theorem ddL_law23 : dchk cL_law dlL_law23 = true := by decide +kernel
def dlL_law24 : List (Nat × Instr × Nat) := [(1378, .aload_n 2, 1), (1379, .aload_n 0, 1), (1380, .iload 5, 2), (1382, .iconst 1, 1), (1383, .iadd, 1), (1384, .iaload, 1), (1385, .invokevirtual 206, 3), (1388, .istore 7, 2), (1390, .aload_n 2, 1), (1391, .invokevirtual 144, 3), (1394, .iload 6, 2), (1396, .if_icmp .eq 5, 3), (1399, .iconst 0, 1), (1400, .ireturn, 1), (1401, .iload 6, 2), (1403, .ifCond .ne 15, 3), (1406, .aload_n 3, 1), (1407, .iconst 0, 1), (1408, .laload, 1), (1409, .iload 7, 2), (1411, .i2l, 1), (1412, .lcmp, 1), (1413, .ifCond .eq 5, 3), (1416, .iconst 0, 1), (1417, .ireturn, 1), (1418, .goto 943, 3), (1421, .aload_n 1, 1), (1422, .aload_n 0, 1), (1423, .iload 5, 2), (1425, .iconst 1, 1), (1426, .iadd, 1), (1427, .iaload, 1)]
set_option maxRecDepth 100000 in
theorem ddL_law24 : dchk cL_law dlL_law24 = true := by decide +kernel
def dlL_law25 : List (Nat × Instr × Nat) := [(1428, .aload_n 3, 1), (1429, .invokestatic 207, 3), (1432, .istore 6, 2), (1434, .aload_n 2, 1), (1435, .aload_n 0, 1), (1436, .iload 5, 2), (1438, .iconst 1, 1), (1439, .iadd, 1), (1440, .iaload, 1), (1441, .invokevirtual 209, 3), (1444, .istore 7, 2), (1446, .aload_n 2, 1), (1447, .invokevirtual 144, 3), (1450, .iload 6, 2), (1452, .if_icmp .eq 5, 3), (1455, .iconst 0, 1), (1456, .ireturn, 1), (1457, .iload 6, 2), (1459, .ifCond .ne 15, 3), (1462, .aload_n 3, 1), (1463, .iconst 0, 1), (1464, .laload, 1), (1465, .iload 7, 2), (1467, .i2l, 1), (1468, .lcmp, 1), (1469, .ifCond .eq 5, 3), (1472, .iconst 0, 1), (1473, .ireturn, 1), (1474, .goto 887, 3), (1477, .aload_n 1, 1), (1478, .aload_n 0, 1), (1479, .iload 5, 2)]
set_option maxRecDepth 100000 in
theorem ddL_law25 : dchk cL_law dlL_law25 = true := by decide +kernel
def dlL_law26 : List (Nat × Instr × Nat) := [(1481, .iconst 1, 1), (1482, .iadd, 1), (1483, .iaload, 1), (1484, .aload_n 0, 1), (1485, .iload 5, 2), (1487, .iconst 2, 1), (1488, .iadd, 1), (1489, .iaload, 1), (1490, .aload_n 3, 1), (1491, .invokestatic 210, 3), (1494, .istore 6, 2), (1496, .aload_n 2, 1), (1497, .aload_n 0, 1), (1498, .iload 5, 2), (1500, .iconst 1, 1), (1501, .iadd, 1), (1502, .iaload, 1), (1503, .aload_n 0, 1), (1504, .iload 5, 2), (1506, .iconst 2, 1), (1507, .iadd, 1), (1508, .iaload, 1), (1509, .invokevirtual 212, 3), (1512, .istore 7, 2), (1514, .aload_n 2, 1), (1515, .invokevirtual 144, 3), (1518, .iload 6, 2), (1520, .if_icmp .eq 5, 3), (1523, .iconst 0, 1), (1524, .ireturn, 1), (1525, .iload 6, 2), (1527, .ifCond .ne 15, 3)]
set_option maxRecDepth 100000 in
theorem ddL_law26 : dchk cL_law dlL_law26 = true := by decide +kernel
def dlL_law27 : List (Nat × Instr × Nat) := [(1530, .aload_n 3, 1), (1531, .iconst 0, 1), (1532, .laload, 1), (1533, .iload 7, 2), (1535, .i2l, 1), (1536, .lcmp, 1), (1537, .ifCond .eq 5, 3), (1540, .iconst 0, 1), (1541, .ireturn, 1), (1542, .goto 819, 3), (1545, .aload_n 1, 1), (1546, .aload_n 0, 1), (1547, .iload 5, 2), (1549, .iconst 1, 1), (1550, .iadd, 1), (1551, .iaload, 1), (1552, .aload_n 3, 1), (1553, .invokestatic 213, 3), (1556, .istore 6, 2), (1558, .aload_n 2, 1), (1559, .aload_n 0, 1), (1560, .iload 5, 2), (1562, .iconst 1, 1), (1563, .iadd, 1), (1564, .iaload, 1), (1565, .invokevirtual 215, 3), (1568, .istore 7, 2), (1570, .aload_n 2, 1), (1571, .invokevirtual 144, 3), (1574, .iload 6, 2), (1576, .if_icmp .eq 5, 3), (1579, .iconst 0, 1)]
set_option maxRecDepth 100000 in
theorem ddL_law27 : dchk cL_law dlL_law27 = true := by decide +kernel
def dlL_law28 : List (Nat × Instr × Nat) := [(1580, .ireturn, 1), (1581, .iload 6, 2), (1583, .ifCond .ne 15, 3), (1586, .aload_n 3, 1), (1587, .iconst 0, 1), (1588, .laload, 1), (1589, .iload 7, 2), (1591, .i2l, 1), (1592, .lcmp, 1), (1593, .ifCond .eq 5, 3), (1596, .iconst 0, 1), (1597, .ireturn, 1), (1598, .goto 763, 3), (1601, .aload_n 1, 1), (1602, .aload_n 0, 1), (1603, .iload 5, 2), (1605, .iconst 1, 1), (1606, .iadd, 1), (1607, .iaload, 1), (1608, .aload_n 0, 1), (1609, .iload 5, 2), (1611, .iconst 2, 1), (1612, .iadd, 1), (1613, .iaload, 1), (1614, .aload_n 3, 1), (1615, .invokestatic 216, 3), (1618, .istore 6, 2), (1620, .aload_n 2, 1), (1621, .aload_n 0, 1), (1622, .iload 5, 2), (1624, .iconst 1, 1), (1625, .iadd, 1)]
set_option maxRecDepth 100000 in
theorem ddL_law28 : dchk cL_law dlL_law28 = true := by decide +kernel
def dlL_law29 : List (Nat × Instr × Nat) := [(1626, .iaload, 1), (1627, .aload_n 0, 1), (1628, .iload 5, 2), (1630, .iconst 2, 1), (1631, .iadd, 1), (1632, .iaload, 1), (1633, .invokevirtual 218, 3), (1636, .istore 7, 2), (1638, .aload_n 2, 1), (1639, .invokevirtual 144, 3), (1642, .iload 6, 2), (1644, .if_icmp .eq 5, 3), (1647, .iconst 0, 1), (1648, .ireturn, 1), (1649, .iload 6, 2), (1651, .ifCond .ne 15, 3), (1654, .aload_n 3, 1), (1655, .iconst 0, 1), (1656, .laload, 1), (1657, .iload 7, 2), (1659, .i2l, 1), (1660, .lcmp, 1), (1661, .ifCond .eq 5, 3), (1664, .iconst 0, 1), (1665, .ireturn, 1), (1666, .goto 695, 3), (1669, .aload_n 1, 1), (1670, .aload_n 0, 1), (1671, .iload 5, 2), (1673, .iconst 1, 1), (1674, .iadd, 1), (1675, .iaload, 1)]
set_option maxRecDepth 100000 in
theorem ddL_law29 : dchk cL_law dlL_law29 = true := by decide +kernel
def dlL_law30 : List (Nat × Instr × Nat) := [(1676, .aload_n 3, 1), (1677, .invokestatic 219, 3), (1680, .istore 6, 2), (1682, .aload_n 2, 1), (1683, .aload_n 0, 1), (1684, .iload 5, 2), (1686, .iconst 1, 1), (1687, .iadd, 1), (1688, .iaload, 1), (1689, .invokevirtual 221, 3), (1692, .istore 7, 2), (1694, .aload_n 2, 1), (1695, .invokevirtual 144, 3), (1698, .iload 6, 2), (1700, .if_icmp .eq 5, 3), (1703, .iconst 0, 1), (1704, .ireturn, 1), (1705, .iload 6, 2), (1707, .ifCond .ne 15, 3), (1710, .aload_n 3, 1), (1711, .iconst 0, 1), (1712, .laload, 1), (1713, .iload 7, 2), (1715, .i2l, 1), (1716, .lcmp, 1), (1717, .ifCond .eq 5, 3), (1720, .iconst 0, 1), (1721, .ireturn, 1), (1722, .goto 639, 3), (1725, .aload_n 1, 1), (1726, .aload_n 0, 1), (1727, .iload 5, 2)]
set_option maxRecDepth 100000 in
theorem ddL_law30 : dchk cL_law dlL_law30 = true := by decide +kernel
def dlL_law31 : List (Nat × Instr × Nat) := [(1729, .iconst 1, 1), (1730, .iadd, 1), (1731, .iaload, 1), (1732, .aload_n 3, 1), (1733, .invokestatic 222, 3), (1736, .istore 6, 2), (1738, .aload_n 2, 1), (1739, .aload_n 0, 1), (1740, .iload 5, 2), (1742, .iconst 1, 1), (1743, .iadd, 1), (1744, .iaload, 1), (1745, .invokevirtual 224, 3), (1748, .istore 7, 2), (1750, .aload_n 2, 1), (1751, .invokevirtual 144, 3), (1754, .iload 6, 2), (1756, .if_icmp .eq 5, 3), (1759, .iconst 0, 1), (1760, .ireturn, 1), (1761, .iload 6, 2), (1763, .ifCond .ne 15, 3), (1766, .aload_n 3, 1), (1767, .iconst 0, 1), (1768, .laload, 1), (1769, .iload 7, 2), (1771, .i2l, 1), (1772, .lcmp, 1), (1773, .ifCond .eq 5, 3), (1776, .iconst 0, 1), (1777, .ireturn, 1), (1778, .goto 583, 3)]
set_option maxRecDepth 100000 in
theorem ddL_law31 : dchk cL_law dlL_law31 = true := by decide +kernel
def dlL_law32 : List (Nat × Instr × Nat) := [(1781, .aload_n 1, 1), (1782, .aload_n 0, 1), (1783, .iload 5, 2), (1785, .iconst 1, 1), (1786, .iadd, 1), (1787, .iaload, 1), (1788, .aload_n 0, 1), (1789, .iload 5, 2), (1791, .iconst 2, 1), (1792, .iadd, 1), (1793, .iaload, 1), (1794, .aload_n 3, 1), (1795, .invokestatic 225, 3), (1798, .istore 6, 2), (1800, .aload_n 2, 1), (1801, .aload_n 0, 1), (1802, .iload 5, 2), (1804, .iconst 1, 1), (1805, .iadd, 1), (1806, .iaload, 1), (1807, .aload_n 0, 1), (1808, .iload 5, 2), (1810, .iconst 2, 1), (1811, .iadd, 1), (1812, .iaload, 1), (1813, .invokevirtual 227, 3), (1816, .istore 7, 2), (1818, .aload_n 2, 1), (1819, .invokevirtual 144, 3), (1822, .iload 6, 2), (1824, .if_icmp .eq 5, 3), (1827, .iconst 0, 1)]
set_option maxRecDepth 100000 in
theorem ddL_law32 : dchk cL_law dlL_law32 = true := by decide +kernel
def dlL_law33 : List (Nat × Instr × Nat) := [(1828, .ireturn, 1), (1829, .iload 6, 2), (1831, .ifCond .ne 15, 3), (1834, .aload_n 3, 1), (1835, .iconst 0, 1), (1836, .laload, 1), (1837, .iload 7, 2), (1839, .i2l, 1), (1840, .lcmp, 1), (1841, .ifCond .eq 5, 3), (1844, .iconst 0, 1), (1845, .ireturn, 1), (1846, .goto 515, 3), (1849, .aload_n 1, 1), (1850, .aload_n 0, 1), (1851, .iload 5, 2), (1853, .iconst 1, 1), (1854, .iadd, 1), (1855, .iaload, 1), (1856, .aload_n 3, 1), (1857, .invokestatic 228, 3), (1860, .istore 6, 2), (1862, .aload_n 2, 1), (1863, .aload_n 0, 1), (1864, .iload 5, 2), (1866, .iconst 1, 1), (1867, .iadd, 1), (1868, .iaload, 1), (1869, .invokevirtual 230, 3), (1872, .istore 7, 2), (1874, .aload_n 2, 1), (1875, .invokevirtual 144, 3)]
set_option maxRecDepth 100000 in
theorem ddL_law33 : dchk cL_law dlL_law33 = true := by decide +kernel
def dlL_law34 : List (Nat × Instr × Nat) := [(1878, .iload 6, 2), (1880, .if_icmp .eq 5, 3), (1883, .iconst 0, 1), (1884, .ireturn, 1), (1885, .iload 6, 2), (1887, .ifCond .ne 15, 3), (1890, .aload_n 3, 1), (1891, .iconst 0, 1), (1892, .laload, 1), (1893, .iload 7, 2), (1895, .i2l, 1), (1896, .lcmp, 1), (1897, .ifCond .eq 5, 3), (1900, .iconst 0, 1), (1901, .ireturn, 1), (1902, .goto 459, 3), (1905, .aload_n 1, 1), (1906, .aload_n 0, 1), (1907, .iload 5, 2), (1909, .iconst 1, 1), (1910, .iadd, 1), (1911, .iaload, 1), (1912, .aload_n 3, 1), (1913, .invokestatic 231, 3), (1916, .istore 6, 2), (1918, .aload_n 2, 1), (1919, .aload_n 0, 1), (1920, .iload 5, 2), (1922, .iconst 1, 1), (1923, .iadd, 1), (1924, .iaload, 1), (1925, .invokevirtual 233, 3)]
set_option maxRecDepth 100000 in
theorem ddL_law34 : dchk cL_law dlL_law34 = true := by decide +kernel
def dlL_law35 : List (Nat × Instr × Nat) := [(1928, .istore 7, 2), (1930, .aload_n 2, 1), (1931, .invokevirtual 144, 3), (1934, .iload 6, 2), (1936, .if_icmp .eq 5, 3), (1939, .iconst 0, 1), (1940, .ireturn, 1), (1941, .iload 6, 2), (1943, .ifCond .ne 15, 3), (1946, .aload_n 3, 1), (1947, .iconst 0, 1), (1948, .laload, 1), (1949, .iload 7, 2), (1951, .i2l, 1), (1952, .lcmp, 1), (1953, .ifCond .eq 5, 3), (1956, .iconst 0, 1), (1957, .ireturn, 1), (1958, .goto 403, 3), (1961, .aload_n 1, 1), (1962, .aload_n 0, 1), (1963, .iload 5, 2), (1965, .iconst 1, 1), (1966, .iadd, 1), (1967, .iaload, 1), (1968, .i2c, 1), (1969, .aload_n 3, 1), (1970, .invokestatic 234, 3), (1973, .istore 6, 2), (1975, .aload_n 2, 1), (1976, .aload_n 0, 1), (1977, .iload 5, 2)]
set_option maxRecDepth 100000 in
theorem ddL_law35 : dchk cL_law dlL_law35 = true := by decide +kernel
def dlL_law36 : List (Nat × Instr × Nat) := [(1979, .iconst 1, 1), (1980, .iadd, 1), (1981, .iaload, 1), (1982, .i2c, 1), (1983, .invokevirtual 237, 3), (1986, .istore 7, 2), (1988, .aload_n 2, 1), (1989, .invokevirtual 144, 3), (1992, .iload 6, 2), (1994, .if_icmp .eq 5, 3), (1997, .iconst 0, 1), (1998, .ireturn, 1), (1999, .iload 6, 2), (2001, .ifCond .ne 15, 3), (2004, .aload_n 3, 1), (2005, .iconst 0, 1), (2006, .laload, 1), (2007, .iload 7, 2), (2009, .i2l, 1), (2010, .lcmp, 1), (2011, .ifCond .eq 5, 3), (2014, .iconst 0, 1), (2015, .ireturn, 1), (2016, .goto 345, 3), (2019, .aload_n 1, 1), (2020, .aload_n 3, 1), (2021, .invokestatic 238, 3), (2024, .istore 6, 2), (2026, .aload_n 2, 1), (2027, .invokevirtual 241, 3), (2030, .istore 7, 2), (2032, .aload_n 2, 1)]
set_option maxRecDepth 100000 in
theorem ddL_law36 : dchk cL_law dlL_law36 = true := by decide +kernel
def dlL_law37 : List (Nat × Instr × Nat) := [(2033, .invokevirtual 144, 3), (2036, .iload 6, 2), (2038, .if_icmp .eq 5, 3), (2041, .iconst 0, 1), (2042, .ireturn, 1), (2043, .iload 6, 2), (2045, .ifCond .ne 15, 3), (2048, .aload_n 3, 1), (2049, .iconst 0, 1), (2050, .laload, 1), (2051, .iload 7, 2), (2053, .i2l, 1), (2054, .lcmp, 1), (2055, .ifCond .eq 5, 3), (2058, .iconst 0, 1), (2059, .ireturn, 1), (2060, .goto 301, 3), (2063, .aload_n 1, 1), (2064, .invokevirtual 242, 3), (2067, .aload_n 2, 1), (2068, .invokevirtual 245, 3), (2071, .if_icmp .eq 290, 3), (2074, .iconst 0, 1), (2075, .ireturn, 1), (2076, .aload_n 1, 1), (2077, .aload_n 0, 1), (2078, .iload 5, 2), (2080, .iconst 1, 1), (2081, .iadd, 1), (2082, .iaload, 1), (2083, .ifCond .eq 7, 3), (2086, .iconst 1, 1)]
set_option maxRecDepth 100000 in
theorem ddL_law37 : dchk cL_law dlL_law37 = true := by decide +kernel
def dlL_law38 : List (Nat × Instr × Nat) := [(2087, .goto 4, 3), (2090, .iconst 0, 1), (2091, .aload_n 3, 1), (2092, .invokestatic 246, 3), (2095, .istore 6, 2), (2097, .aload_n 2, 1), (2098, .aload_n 0, 1), (2099, .iload 5, 2), (2101, .iconst 1, 1), (2102, .iadd, 1), (2103, .iaload, 1), (2104, .ifCond .eq 7, 3), (2107, .iconst 1, 1), (2108, .goto 4, 3), (2111, .iconst 0, 1), (2112, .invokevirtual 249, 3), (2115, .istore 7, 2), (2117, .aload_n 2, 1), (2118, .invokevirtual 144, 3), (2121, .iload 6, 2), (2123, .if_icmp .eq 5, 3), (2126, .iconst 0, 1), (2127, .ireturn, 1), (2128, .iload 6, 2), (2130, .ifCond .ne 15, 3), (2133, .aload_n 3, 1), (2134, .iconst 0, 1), (2135, .laload, 1), (2136, .iload 7, 2), (2138, .i2l, 1), (2139, .lcmp, 1), (2140, .ifCond .eq 5, 3)]
set_option maxRecDepth 100000 in
theorem ddL_law38 : dchk cL_law dlL_law38 = true := by decide +kernel
def dlL_law39 : List (Nat × Instr × Nat) := [(2143, .iconst 0, 1), (2144, .ireturn, 1), (2145, .goto 216, 3), (2148, .aload_n 1, 1), (2149, .aload_n 0, 1), (2150, .iload 5, 2), (2152, .iconst 1, 1), (2153, .iadd, 1), (2154, .iaload, 1), (2155, .aload_n 3, 1), (2156, .invokestatic 250, 3), (2159, .istore 6, 2), (2161, .aload_n 2, 1), (2162, .aload_n 0, 1), (2163, .iload 5, 2), (2165, .iconst 1, 1), (2166, .iadd, 1), (2167, .iaload, 1), (2168, .invokevirtual 252, 3), (2171, .istore 7, 2), (2173, .aload_n 2, 1), (2174, .invokevirtual 144, 3), (2177, .iload 6, 2), (2179, .if_icmp .eq 5, 3), (2182, .iconst 0, 1), (2183, .ireturn, 1), (2184, .iload 6, 2), (2186, .ifCond .ne 15, 3), (2189, .aload_n 3, 1), (2190, .iconst 0, 1), (2191, .laload, 1), (2192, .iload 7, 2)]
set_option maxRecDepth 100000 in
theorem ddL_law39 : dchk cL_law dlL_law39 = true := by decide +kernel
def dlL_law40 : List (Nat × Instr × Nat) := [(2194, .i2l, 1), (2195, .lcmp, 1), (2196, .ifCond .eq 5, 3), (2199, .iconst 0, 1), (2200, .ireturn, 1), (2201, .goto 160, 3), (2204, .aload_n 1, 1), (2205, .invokevirtual 253, 3), (2208, .aload_n 2, 1), (2209, .invokevirtual 257, 3), (2212, .if_icmp .eq 149, 3), (2215, .iconst 0, 1), (2216, .ireturn, 1), (2217, .aload_n 1, 1), (2218, .aload_n 3, 1), (2219, .invokestatic 258, 3), (2222, .istore 6, 2), (2224, .aload_n 2, 1), (2225, .invokevirtual 260, 3), (2228, .lstore 7, 2), (2230, .aload_n 2, 1), (2231, .invokevirtual 144, 3), (2234, .iload 6, 2), (2236, .if_icmp .eq 5, 3), (2239, .iconst 0, 1), (2240, .ireturn, 1), (2241, .iload 6, 2), (2243, .ifCond .ne 14, 3), (2246, .aload_n 3, 1), (2247, .iconst 0, 1), (2248, .laload, 1), (2249, .lload 7, 2)]
set_option maxRecDepth 100000 in
theorem ddL_law40 : dchk cL_law dlL_law40 = true := by decide +kernel
def dlL_law41 : List (Nat × Instr × Nat) := [(2251, .lcmp, 1), (2252, .ifCond .eq 5, 3), (2255, .iconst 0, 1), (2256, .ireturn, 1), (2257, .goto 104, 3), (2260, .aload_n 1, 1), (2261, .aload_n 3, 1), (2262, .invokestatic 261, 3), (2265, .istore 6, 2), (2267, .aload_n 2, 1), (2268, .invokevirtual 263, 3), (2271, .istore 7, 2), (2273, .aload_n 2, 1), (2274, .invokevirtual 144, 3), (2277, .iload 6, 2), (2279, .if_icmp .eq 5, 3), (2282, .iconst 0, 1), (2283, .ireturn, 1), (2284, .iload 6, 2), (2286, .ifCond .ne 15, 3), (2289, .aload_n 3, 1), (2290, .iconst 0, 1), (2291, .laload, 1), (2292, .iload 7, 2), (2294, .i2l, 1), (2295, .lcmp, 1), (2296, .ifCond .eq 5, 3), (2299, .iconst 0, 1), (2300, .ireturn, 1), (2301, .goto 60, 3), (2304, .aload_n 1, 1), (2305, .invokevirtual 264, 3)]
set_option maxRecDepth 100000 in
theorem ddL_law41 : dchk cL_law dlL_law41 = true := by decide +kernel
def dlL_law42 : List (Nat × Instr × Nat) := [(2308, .aload_n 2, 1), (2309, .invokevirtual 267, 3), (2312, .if_icmp .eq 49, 3), (2315, .iconst 0, 1), (2316, .ireturn, 1), (2317, .aload_n 1, 1), (2318, .aload_n 3, 1), (2319, .invokestatic 268, 3), (2322, .istore 6, 2), (2324, .aload_n 2, 1), (2325, .invokevirtual 270, 3), (2328, .istore 7, 2), (2330, .aload_n 2, 1), (2331, .invokevirtual 144, 3), (2334, .iload 6, 2), (2336, .if_icmp .eq 5, 3), (2339, .iconst 0, 1), (2340, .ireturn, 1), (2341, .iload 6, 2), (2343, .ifCond .ne 15, 3), (2346, .aload_n 3, 1), (2347, .iconst 0, 1), (2348, .laload, 1), (2349, .iload 7, 2), (2351, .i2l, 1), (2352, .lcmp, 1), (2353, .ifCond .eq 5, 3), (2356, .iconst 0, 1), (2357, .ireturn, 1), (2358, .goto 3, 3), (2361, .iinc 5 3, 3), (2364, .goto (-2336), 3)]
set_option maxRecDepth 100000 in
theorem ddL_law42 : dchk cL_law dlL_law42 = true := by decide +kernel
def dlL_law43 : List (Nat × Instr × Nat) := [(2367, .iconst 1, 1), (2368, .ireturn, 1)]
set_option maxRecDepth 100000 in
theorem ddL_law43 : dchk cL_law dlL_law43 = true := by decide +kernel
end
section
/-! base: pure programs with a part that fails, and the walk's own rows over one list of words -/
def ob {α β : Type} (x : Option α) (k : α → Option β) : Option β := match x with
  | none => none
  | some a => k a
theorem ob_some {α β : Type} {x : Option α} {k : α → Option β} {y : β} (h : ob x k = some y) : ∃ a, x = some a ∧ k a = some y := by
  cases x with
  | none => cases h
  | some a => exact ⟨a, rfl, h⟩
def og {β : Type} (c : Bool) (k : Option β) : Option β := match c with
  | true => k
  | false => none
theorem og_some {β : Type} {c : Bool} {k : Option β} {y : β} (h : og c k = some y) : c = true ∧ k = some y := by
  cases c with
  | false => cases h
  | true => exact ⟨rfl, h⟩
theorem it_t {c : Prop} [Decidable c] {α : Type} {a b : Option α} {r : α} (hc : c) (h : (if c then a else b) = some r) : a = some r := (if_pos hc).symm.trans h
theorem it_f {c : Prop} [Decidable c] {α : Type} {a b : Option α} {r : α} (hc : ¬ c) (h : (if c then a else b) = some r) : b = some r := (if_neg hc).symm.trans h
def inb (i : Int32) (n : Nat) : Bool := decide (¬ (i < 0 ∨ n ≤ i.toNatClampNeg))
theorem inb_in {i : Int32} {n : Nat} (h : inb i n = true) : vp_in i n := by unfold vp_in; exact of_decide_eq_true h
def n32 (r : UInt32) : Bool := decide (r &&& 0x7fffffff ≤ 0x7f800000)
theorem n32_in {r : UInt32} (h : n32 r = true) : vf_n32 r := by unfold vf_n32; exact of_decide_eq_true h
def n64 (r : UInt64) : Bool := decide (r &&& 0x7fffffffffffffff ≤ 0x7ff0000000000000)
theorem n64_in {r : UInt64} (h : n64 r = true) : vf_n64 r := by unfold vf_n64; exact of_decide_eq_true h
def nz (y : Int32) : Bool := decide (¬ y = 0)
theorem nz_in {y : Int32} (h : nz y = true) : ¬ y = 0 := of_decide_eq_true h
/-- an int that is a boolean's, a char's -/
def isZ (v : Int32) : Bool := decide (narrow .boolean (.int v) = .int v) && fits .boolean (.int v)
def isC (v : Int32) : Bool := decide (narrow .char (.int v) = .int v) && fits .char (.int v)
theorem isZ_n {v : Int32} (h : isZ v = true) : narrow .boolean (.int v) = .int v := of_decide_eq_true (Bool.and_eq_true _ _ ▸ h).1
theorem isZ_f {v : Int32} (h : isZ v = true) : fits .boolean (.int v) = true := (Bool.and_eq_true _ _ ▸ h).2
theorem isC_n {v : Int32} (h : isC v = true) : narrow .char (.int v) = .int v := of_decide_eq_true (Bool.and_eq_true _ _ ▸ h).1
theorem isC_f {v : Int32} (h : isC v = true) : fits .char (.int v) = true := (Bool.and_eq_true _ _ ▸ h).2
/-- the array classes -/
def tyA (cy : Nat → ClassId) : List (ClassId × FieldType) := [(cy 0, .int), (cy 1, .float), (cy 2, .char), (cy 3, .object "BuskPitches$State"), (cy 4, .array .int), (cy 5, .long), (cy 6, .double)]
def nst (U : State) : Prop := va_Nw (.methodLinkNest RX3 84 yX4_isPitch RX4) U
theorem nst_warm {s U : State} (hW : s.WarmedH U.vm) (h : nst s) : nst U := va_Nw.warmM hW h
theorem nst_same {u U : State} (hv : u.vm = U.vm) (h : nst u) : nst U := va_Nw.same rfl hv h
/-- what a walk has at hand -/
def Cx (p : Program) (s : State) (m : MethodId) (c : Code) (args : Array Value) (cc : ByteArray) (R : String) : Prop := p.tables.exec = Jvm.exec ∧ c.code = cc ∧ (∀ w ∈ lw_all, w.before args s = true) ∧ s.vm.findClass R = some m.cls
/-- a method's start: one that reads alone, one that writes -/
def sR (D : va_G) (cy : Nat → ClassId) (ws : va_W) : State → Prop := fun U => va_P D vwCl ws U.heap ∧ va_K D vwCl (tyA cy) U ∧ nst U
def sW (D : va_G) (cy : Nat → ClassId) (ws : va_W) (sz : Nat) : State → Prop := fun U => U.heap.size = sz ∧ va_P D vwCl ws U.heap ∧ va_K D vwCl (tyA cy) U ∧ va_D (fun _ => True) ws ∧ nst U
def qI (D : va_G) (ws : va_W) (x : Int32) (A : Nat → Prop) : Array Value → State → Outcome → State → Prop := va_Qi (S := Unit) (fun r _ => r = x) (fun _ t => va_P D vwCl ws t.heap ∧ va_D A ws) A
def qL (D : va_G) (ws : va_W) (x : Int64) (A : Nat → Prop) : Array Value → State → Outcome → State → Prop := va_Ql (S := Unit) (fun r _ => r = x) (fun _ t => va_P D vwCl ws t.heap ∧ va_D A ws) A
def qF (D : va_G) (ws : va_W) (x : UInt32) (A : Nat → Prop) : Array Value → State → Outcome → State → Prop := va_Qf (S := Unit) (fun r _ => r = x) (fun _ t => va_P D vwCl ws t.heap ∧ va_D A ws) A
def qV (D : va_G) (ws : va_W) (A : Nat → Prop) : Array Value → State → Outcome → State → Prop := va_Qv (S := Unit) (fun _ => True) (fun _ t => va_P D vwCl ws t.heap ∧ va_D A ws) A
/-- a contract from the body's walk, the method plain (its class may be one of those with entries) -/
theorem Met_ofWF {l : Launch} {y : MethodName} {ws ws' : List Cond} {rm : Room} {Pc : Array Value → State → Prop} {Qc : Array Value → State → Outcome → State → Prop} {mc ms : Nat} {free : Addr → Prop} {cc : ByteArray} {maxL : Nat} {ret : Option FieldType}
    (hy : plainFor y = true) (hw : ws = Cond.code y cc maxL ret :: ws')
    (body : ∀ p e s m args below meth c s₁, BodyLoose p l y (headSpec ws rm) cc maxL ret e s m args below meth c s₁ → c.maxLocals = maxL → Pc args s →
      W p l e (headSpec ws rm).room s m args below meth c s.heap [] 0 0 (MQ below Qc args s mc ms free) (entryFrame m args maxL)) : Met l y ws rm Pc Qc mc ms free := by
  refine MetFree.of_bodySF (code := cc) (maxLocals := maxL) (ret := ret) hy ?_ ?_
  · intro args s m h hn
    obtain ⟨meth, c, h1, h2, h3, h4, h5, h6, -, -⟩ := Cond.code_spec hn (atoms_spec (ws := ws) h _ (by rw [hw]; exact List.mem_cons_self))
    exact ⟨meth, c, h1, h2, h3, h4, h5, h6⟩
  · intro p e s m args below meth c s₁ B hml hP _
    have hh0 : s₁.heap = s.heap := by rw [B.state]; rfl
    obtain ⟨t, a1, o, b1, b2, b3⟩ := body p e s m args below meth c s₁ B hml hP s₁ hh0 (Stand.of_body B)
    exact ⟨t, o, a1, b1, b2, ⟨b3.1, b3.2⟩⟩
set_option maxHeartbeats 1000000 in
theorem mk_ro {l : Launch} {y : MethodName} {cc : ByteArray} {maxL : Nat} {ret : Option FieldType} {rm : Room} {av : List Value} {D : va_G} {cy : Nat → ClassId} {ws : va_W} {Qc : Array Value → State → Outcome → State → Prop} {Rc : String}
    (hy : plainFor y = true) (hRc : y.cls = Rc) (hn : (lg_sl av).length ≤ maxL)
    (body : ∀ (p : Program) (e : Env) (s : State) (m : MethodId) (args : Array Value) (below : List Frame) (meth : Method) (c : Code) (ls : Array Slot), Cx p s m c args cc Rc → c.maxLocals = maxL → meth.sig.returnType = ret → meth.locks = false → va_K D vwCl (tyA cy) s → nst s → va_P D vwCl ws s.heap → lv_has ls maxL (lv_args 0 av) →
      W p l e rm s m args below meth c s.heap [] 0 0 (MQ below Qc args s 0 0 (fun _ => False)) (F0 m 0 ls [])) :
    Met l y (.code y cc maxL ret :: lw_all) rm (va_Pc av (sR D cy ws)) Qc 0 0 (fun _ => False) := by
  refine Met_ofWF (cc := cc) (maxL := maxL) (ret := ret) hy rfl ?_
  intro p e s m args below meth c s₁ B hml hv
  obtain ⟨rfl, hP, hK, hN⟩ := hv
  have hts := atoms_spec (ws := .code y cc maxL ret :: lw_all) B.pre
  have hown : s.vm.findClass y.cls = some m.cls := findClass_of_methodNamed B.named
  have hl := lv_entry av (n := maxL) hn
  rw [lg_entry_eq]
  exact body p e s m av.toArray below meth c _ ⟨B.exec, B.bytes, fun w hw => hts w (List.mem_cons_of_mem _ hw), hRc ▸ hown⟩ hml B.returns B.notSynchronized hK hN hP hl
set_option maxHeartbeats 1000000 in
theorem mk_rw {l : Launch} {y : MethodName} {cc : ByteArray} {maxL : Nat} {ret : Option FieldType} {rm : Room} {av : List Value} {D : va_G} {cy : Nat → ClassId} {ws : va_W} {Qc : (Nat → Prop) → Array Value → State → Outcome → State → Prop} {Rc : String} {mc ms sz : Nat}
    (hy : plainFor y = true) (hRc : y.cls = Rc) (hn : (lg_sl av).length ≤ maxL)
    (body : ∀ (p : Program) (e : Env) (s : State) (m : MethodId) (args : Array Value) (below : List Frame) (meth : Method) (c : Code) (ls : Array Slot) (A : Nat → Prop), Cx p s m c args cc Rc → c.maxLocals = maxL → meth.sig.returnType = ret → meth.locks = false → va_K D vwCl (tyA cy) s → nst s → va_P D vwCl ws s.heap → va_D A ws → va_S A s.heap s.heap [] → (∀ q, s.heap.size ≤ q → A q) → lv_has ls maxL (lv_args 0 av) →
      W p l e rm s m args below meth c s.heap [] 0 0 (MQ below (Qc A) args s mc ms A) (F0 m 0 ls [])) :
    Met l y (.code y cc maxL ret :: lw_all) rm (va_Pc av (sW D cy ws sz)) (Qc (va_A ws sz)) mc ms (va_A ws sz) := by
  refine Met_ofWF (cc := cc) (maxL := maxL) (ret := ret) hy rfl ?_
  intro p e s m args below meth c s₁ B hml hv
  obtain ⟨rfl, hsz, hP, hK, hD, hN⟩ := hv
  subst hsz
  have hts := atoms_spec (ws := .code y cc maxL ret :: lw_all) B.pre
  have hown : s.vm.findClass y.cls = some m.cls := findClass_of_methodNamed B.named
  have hl := lv_entry av (n := maxL) hn
  rw [lg_entry_eq]
  exact body p e s m av.toArray below meth c _ _ ⟨B.exec, B.bytes, fun w hw => hts w (List.mem_cons_of_mem _ hw), hRc ▸ hown⟩ hml B.returns B.notSynchronized hK hN hP (hD.self (sz := s.heap.size)) va_S.rf (fun q h => Or.inr h) hl
section BASE
variable {p : Program} {l : Launch} {e : Env} {R : Room} {s : State} {m : MethodId} {args : Array Value} {below : List Frame} {meth : Method} {c : Code} {H : Heap} {locs : List Loc} {cells slots : Nat} {Q : State → Prop}
variable {cc : ByteArray} {pc : Nat} {ls : Array Slot} {rest : List Value} {D : va_G} {A : Nat → Prop} {a : Nat} {ws : va_W} {H0 : Heap} {cy : Nat → ClassId} {own : String}
theorem e_ri {v x : Int32} (CX : Cx p s m c args cc own) (hr : meth.sig.returnType = some .int) (hk : meth.locks = false) (h : v = x) (hdg : decode cc pc = .ok (.ireturn, 1)) : W p l e R s m args below meth c s.heap [] 0 0 (MQ below (vp_Si (fun r => r = x)) args s 0 0 (fun _ => False)) (F0 m pc ls [.int v]) :=
  W.iret CX.1 CX.2.1 hr (fun t ht hW => ⟨v, rfl, h, ht⟩) (fun _ h => by cases h) hdg hk
theorem e_rz {v x : Int32} {ty : FieldType} (CX : Cx p s m c args cc own) (hr : meth.sig.returnType = some ty) (hk : meth.locks = false) (hn : narrow ty (.int v) = .int v) (h : v = x) (hdg : decode cc pc = .ok (.ireturn, 1)) : W p l e R s m args below meth c s.heap [] 0 0 (MQ below (vp_Si (fun r => r = x)) args s 0 0 (fun _ => False)) (F0 m pc ls [.int v]) :=
  W.zret CX.1 CX.2.1 hr hn (fun t ht hW => ⟨v, rfl, h, ht⟩) (fun _ h => by cases h) hdg hk
theorem e_rf {v x : UInt32} (CX : Cx p s m c args cc own) (hr : meth.sig.returnType = some .float) (hk : meth.locks = false) (h : v = x) (hdg : decode cc pc = .ok (.freturn, 1)) : W p l e R s m args below meth c s.heap [] 0 0 (MQ below (vp_Sf (fun r => r = x)) args s 0 0 (fun _ => False)) (F0 m pc ls [.float v]) :=
  W.fret CX.1 CX.2.1 hr (fun t ht hW => ⟨v, rfl, h, ht⟩) (fun _ h => by cases h) hdg hk
theorem e_rl {v x : Int64} (CX : Cx p s m c args cc own) (hr : meth.sig.returnType = some .long) (hk : meth.locks = false) (h : v = x) (hdg : decode cc pc = .ok (.lreturn, 1)) : W p l e R s m args below meth c s.heap [] 0 0 (MQ below (vp_Sl (fun r => r = x)) args s 0 0 (fun _ => False)) (F0 m pc ls [.long v]) :=
  W.lret CX.1 CX.2.1 hr (fun t ht hW => ⟨v, rfl, h, ht⟩) (fun _ h => by cases h) hdg hk
theorem e_wi {v x : Int32} (CX : Cx p s m c args cc own) (hr : meth.sig.returnType = some .int) (hk : meth.locks = false) (h : v = x) (hP : va_P D vwCl ws H) (hD : va_D A ws) (hS : va_S A s.heap H locs) (hdg : decode cc pc = .ok (.ireturn, 1)) : W p l e R s m args below meth c H locs cells slots (MQ below (qI D ws x A) args s cells slots A) (F0 m pc ls [.int v]) :=
  W.iret CX.1 CX.2.1 hr (fun t ht hW => ⟨⟨v, (), rfl, h, by rw [ht]; exact hP, hD⟩, hS.F ht⟩) hS.2.2 hdg hk
theorem e_wz {v x : Int32} {ty : FieldType} (CX : Cx p s m c args cc own) (hr : meth.sig.returnType = some ty) (hk : meth.locks = false) (hn : narrow ty (.int v) = .int v) (h : v = x) (hP : va_P D vwCl ws H) (hD : va_D A ws) (hS : va_S A s.heap H locs) (hdg : decode cc pc = .ok (.ireturn, 1)) : W p l e R s m args below meth c H locs cells slots (MQ below (qI D ws x A) args s cells slots A) (F0 m pc ls [.int v]) :=
  W.zret CX.1 CX.2.1 hr hn (fun t ht hW => ⟨⟨v, (), rfl, h, by rw [ht]; exact hP, hD⟩, hS.F ht⟩) hS.2.2 hdg hk
theorem e_wf {v x : UInt32} (CX : Cx p s m c args cc own) (hr : meth.sig.returnType = some .float) (hk : meth.locks = false) (h : v = x) (hP : va_P D vwCl ws H) (hD : va_D A ws) (hS : va_S A s.heap H locs) (hdg : decode cc pc = .ok (.freturn, 1)) : W p l e R s m args below meth c H locs cells slots (MQ below (qF D ws x A) args s cells slots A) (F0 m pc ls [.float v]) :=
  W.fret CX.1 CX.2.1 hr (fun t ht hW => ⟨⟨v, (), rfl, h, by rw [ht]; exact hP, hD⟩, hS.F ht⟩) hS.2.2 hdg hk
theorem e_wl {v x : Int64} (CX : Cx p s m c args cc own) (hr : meth.sig.returnType = some .long) (hk : meth.locks = false) (h : v = x) (hP : va_P D vwCl ws H) (hD : va_D A ws) (hS : va_S A s.heap H locs) (hdg : decode cc pc = .ok (.lreturn, 1)) : W p l e R s m args below meth c H locs cells slots (MQ below (qL D ws x A) args s cells slots A) (F0 m pc ls [.long v]) :=
  W.lret CX.1 CX.2.1 hr (fun t ht hW => ⟨⟨v, (), rfl, h, by rw [ht]; exact hP, hD⟩, hS.F ht⟩) hS.2.2 hdg hk
theorem e_wv (CX : Cx p s m c args cc own) (hr : meth.sig.returnType = none) (hk : meth.locks = false) (hP : va_P D vwCl ws H) (hD : va_D A ws) (hS : va_S A s.heap H locs) (hdg : decode cc pc = .ok (.return_, 1)) : W p l e R s m args below meth c H locs cells slots (MQ below (qV D ws A) args s cells slots A) (F0 m pc ls []) :=
  W.vret CX.1 CX.2.1 hr (fun t ht hW => ⟨⟨(), rfl, trivial, by rw [ht]; exact hP, hD⟩, hS.F ht⟩) hS.2.2 hdg hk
/-! calls -/
theorem sR_blind (av : List Value) (D : va_G) (cy : Nat → ClassId) (ws : va_W) : FrameBlind (va_Pc av (sR D cy ws)) := fun a U g mk q => ⟨q.1, q.2.1, va_K.moved (u := U) (U := U.calling g mk a) (Vm.Alike.refl U.vm) q.2.2.1, nst_same (u := U) (U := U.calling g mk a) rfl q.2.2.2⟩
theorem sW_blind (av : List Value) (D : va_G) (cy : Nat → ClassId) (ws : va_W) (sz : Nat) : FrameBlind (va_Pc av (sW D cy ws sz)) := fun a U g mk q => ⟨q.1, q.2.1, q.2.2.1, va_K.moved (u := U) (U := U.calling g mk a) (Vm.Alike.refl U.vm) q.2.2.2.1, q.2.2.2.2.1, nst_same (u := U) (U := U.calling g mk a) rfl q.2.2.2.2.2⟩
theorem sR_at {av : List Value} (hP : va_P D vwCl ws H) (hK : va_K D vwCl (tyA cy) s) (hN : nst s) : ∀ U : State, U.heap = H → s.WarmedH U.vm → va_Pc av (sR D cy ws) av.toArray U := fun U hU hW => ⟨rfl, by rw [hU]; exact hP, va_K.moved hW.alike hK, nst_warm hW hN⟩
theorem sW_at {av : List Value} (hP : va_P D vwCl ws H) (hD : va_D A ws) (hK : va_K D vwCl (tyA cy) s) (hN : nst s) : ∀ U : State, U.heap = H → s.WarmedH U.vm → va_Pc av (sW D cy ws H.size) av.toArray U := fun U hU hW => ⟨rfl, by rw [hU], by rw [hU]; exact hP, va_K.moved hW.alike hK, hD.weaken (fun _ _ _ _ => trivial), nst_warm hW hN⟩
def wV (own : String) (idx : Nat) (y : MethodName) (bytes : ByteArray) (maxL : Nat) (ret : Option FieldType) : List Cond := [.methodLink own idx y, .instanceMethod y, .selects y.cls y y, .initialized y.cls, .code y bytes maxL ret]
def wS_ (own : String) (idx : Nat) (y : MethodName) (bytes : ByteArray) (maxL : Nat) (ret : Option FieldType) : List Cond := [.methodLink own idx y, .static y, .initialized y.cls, .code y bytes maxL ret]
def lkV (own : String) (idx : Nat) (y : MethodName) (bytes : ByteArray) (maxL : Nat) (ret : Option FieldType) (n : Nat) (is : List Nat) : Bool := chk (wV own idx y bytes maxL ret) is && (decide (y.cls ≠ "java/lang/invoke/MethodHandle") && (decide (y.cls ≠ "java/lang/invoke/VarHandle") && decide ((parseMethodDescriptor y.desc).map (fun d => d.parameters.length) = some n)))
def lkS (own : String) (idx : Nat) (y : MethodName) (bytes : ByteArray) (maxL : Nat) (ret : Option FieldType) (n : Nat) (is : List Nat) : Bool := chk (wS_ own idx y bytes maxL ret) is && (decide (y.cls ≠ "java/lang/invoke/MethodHandle") && (decide (y.cls ≠ "java/lang/invoke/VarHandle") && decide ((parseMethodDescriptor y.desc).map (fun d => d.parameters.length) = some n)))
theorem lkV_cw {is : List Nat} {idx maxL mc ms n : Nat} {y : MethodName} {bytes : ByteArray} {ret : Option FieldType} {rm : Room} (hk : lkV own idx y bytes maxL ret n is = true) (ht : ∀ w ∈ lw_all, w.before args s = true) (hrc : rm.cells = mc) (hrs : rm.slots = ms) (hR : rm.frames + 1 ≤ R.frames ∧ 8 + (maxL + 11) + rm.locals ≤ R.locals) : CallW R s args own y.cls idx y bytes maxL ret (.code y bytes maxL ret :: lw_all) rm mc ms n := by
  simp only [lkV, Bool.and_eq_true, decide_eq_true_eq] at hk
  have hin := lw_ats (ws := wV own idx y bytes maxL ret) is hk.1
  have hG := lw_gi (wV own idx y bytes maxL ret) hin
  have hG2 : GoodIn lw_all (.code y bytes maxL ret :: lw_all) := lw_gi [.code y bytes maxL ret] (fun w hw => hin w (by rw [List.mem_singleton.mp hw]; simp [wV]))
  have ok : ∀ w ∈ wV own idx y bytes maxL ret, w.before args s = true := fun w h => ht w (hG w (List.mem_append_left _ h)).1
  exact ⟨callB_of n ht hG2 rfl hrc hrs (ok _ (by simp [wV])) (ok _ (by simp [wV])) hk.2 hR, ok _ (by simp [wV]), ok _ (by simp [wV])⟩
theorem lkS_cw {is : List Nat} {idx maxL mc ms n : Nat} {y : MethodName} {bytes : ByteArray} {ret : Option FieldType} {rm : Room} (hk : lkS own idx y bytes maxL ret n is = true) (ht : ∀ w ∈ lw_all, w.before args s = true) (hrc : rm.cells = mc) (hrs : rm.slots = ms) (hR : rm.frames + 1 ≤ R.frames ∧ 8 + (maxL + 11) + rm.locals ≤ R.locals) : CallB R s args own idx y bytes maxL ret (.code y bytes maxL ret :: lw_all) rm mc ms n ∧ (Cond.static y).before args s = true := by
  simp only [lkS, Bool.and_eq_true, decide_eq_true_eq] at hk
  have hin := lw_ats (ws := wS_ own idx y bytes maxL ret) is hk.1
  have hG := lw_gi (wS_ own idx y bytes maxL ret) hin
  have hG2 : GoodIn lw_all (.code y bytes maxL ret :: lw_all) := lw_gi [.code y bytes maxL ret] (fun w hw => hin w (by rw [List.mem_singleton.mp hw]; simp [wS_]))
  have ok : ∀ w ∈ wS_ own idx y bytes maxL ret, w.before args s = true := fun w h => ht w (hG w (List.mem_append_left _ h)).1
  exact ⟨callB_of n ht hG2 rfl hrc hrs (ok _ (by simp [wS_])) (ok _ (by simp [wS_])) hk.2 hR, ok _ (by simp [wS_])⟩
end BASE
end
section
/-! calls: a callee that reads alone, one that writes its world -/
section CALLS
variable {p : Program} {l : Launch} {e : Env} {R : Room} {s : State} {m : MethodId} {args : Array Value} {below : List Frame} {meth : Method} {c : Code} {H : Heap} {locs : List Loc} {Q : State → Prop}
variable {cc : ByteArray} {pc : Nat} {ls : Array Slot} {rest st0 : List Value} {D : va_G} {A : Nat → Prop} {ws : va_W} {cy : Nat → ClassId} {own : String}
variable {is : List Nat} {y : MethodName} {bytes : ByteArray} {maxL n nL idx : Nat} {ret : Option FieldType} {rm : Room} {b ci : Nat} {As fs : List Value}
theorem vaP_nil {D : va_G} {cl : List vw_C} {H : Heap} : va_P D cl [] H := fun k q h => by simp at h
theorem vaD_nil {A : Nat → Prop} : va_D A [] := ⟨fun i j p q h => by simp at h, fun k q h => by simp at h⟩
def lkN (y : MethodName) (bytes : ByteArray) (maxL : Nat) (ret : Option FieldType) (n : Nat) (is : List Nat) : Bool := chk ([.static y, .initialized y.cls, .code y bytes maxL ret] : List Cond) is && (decide (y.cls ≠ "java/lang/invoke/MethodHandle") && (decide (y.cls ≠ "java/lang/invoke/VarHandle") && decide ((parseMethodDescriptor y.desc).map (fun d => d.parameters.length) = some n)))
theorem ne_ti {x k : Int32} {z : Int} (h : ¬ x = k) (hz : k.toInt = z) : x.toInt ≠ z := fun e => h (Int32.toInt_inj.mp (e.trans hz.symm))
theorem rcv_at (hK : va_K D vwCl (tyA cy) s) (hP : va_P D vwCl ws H) (q0 : Nat) (he : ws[q0]? = some (b, .inr (ci, fs))) (hc : (vwCl[ci]?).map (fun r => r.1) = some y.cls) : ∃ cellB : Cell, H[b]? = some cellB ∧ cellB.vm.isStatics = false ∧ s.vm.findClass y.cls = some cellB.cls := by
  cases h : vwCl[ci]? with
  | none => rw [h] at hc; cases hc
  | some r =>
    rw [h] at hc
    have e : r.1 = y.cls := Option.some.inj hc
    have := va_recv hK hP h he
    rw [e] at this
    exact this
theorem fc_of {H0 : Heap} (hD : va_D A ws) (hS : va_S A H0 H locs) (hA : ∀ q, H0.size ≤ q → A q) : ∀ q, va_A ws H.size q → A q := by
  intro q h
  rcases h with ⟨k, e, h⟩ | h
  · exact hD.2 k (q, e) h
  · exact hA q (Nat.le_trans hS.1 h)

theorem cro_vi {x : Int32} (CX : Cx p s m c args cc own) (hml : c.maxLocals = nL) (hM : Met l y (.code y bytes maxL ret :: lw_all) rm (va_Pc (.ref b :: As) (sR D cy ws)) (vp_Si (fun r => r = x)) 0 0 (fun _ => False)) (hk : lkV own idx y bytes maxL ret n is = true) (hrc : rm.cells = 0) (hrs : rm.slots = 0) (hR : rm.frames + 1 ≤ R.frames ∧ 8 + (maxL + 11) + rm.locals ≤ R.locals) (hP : va_P D vwCl ws H) (hK : va_K D vwCl (tyA cy) s) (hN : nst s) (q0 : Nat) (he : ws[q0]? = some (b, .inr (ci, fs))) (hc : (vwCl[ci]?).map (fun r => r.1) = some y.cls) (hn : As.length = n) (hsz : ls.size = nL) (hst : st0 = As.reverse ++ .ref b :: rest) (hW : (rest.map fun v => v.category).sum ≤ 8) (hdg : decode cc pc = .ok (.invokevirtual idx, 3)) (kk : W p l e R s m args below meth c H locs 0 0 Q (F0 m (pc + 3) ls (.int x :: rest))) : W p l e R s m args below meth c H locs 0 0 Q (F0 m pc ls st0) :=
  vp_callSi (W.runV (As := As) (rest := rest) ⟨CX.1, CX.2.1, hml, CX.2.2.2, CX.2.2.1⟩ hM (lkV_cw hk CX.2.2.1 hrc hrs hR) ⟨sR_blind _ _ _ _, rcv_at hK hP q0 he hc, sR_at hP hK hN⟩ rfl hn hsz hst (lv_room hW) hdg ⟨Nat.zero_le _, Nat.zero_le _⟩) (fun r hr => by rw [hr]; exact kk)
theorem cro_si {x : Int32} (CX : Cx p s m c args cc own) (hml : c.maxLocals = nL) (hM : Met l y (.code y bytes maxL ret :: lw_all) rm (va_Pc As (sR D cy ws)) (vp_Si (fun r => r = x)) 0 0 (fun _ => False)) (hk : lkS own idx y bytes maxL ret n is = true) (hrc : rm.cells = 0) (hrs : rm.slots = 0) (hR : rm.frames + 1 ≤ R.frames ∧ 8 + (maxL + 11) + rm.locals ≤ R.locals) (hP : va_P D vwCl ws H) (hK : va_K D vwCl (tyA cy) s) (hN : nst s) (hn : As.length = n) (hsz : ls.size = nL) (hst : st0 = As.reverse ++ rest) (hW : (rest.map fun v => v.category).sum ≤ 8) (hdg : decode cc pc = .ok (.invokestatic idx, 3)) (kk : W p l e R s m args below meth c H locs 0 0 Q (F0 m (pc + 3) ls (.int x :: rest))) : W p l e R s m args below meth c H locs 0 0 Q (F0 m pc ls st0) :=
  vp_callSi (W.runS (As := As) (rest := rest) ⟨CX.1, CX.2.1, hml, CX.2.2.2, CX.2.2.1⟩ hM (lkS_cw hk CX.2.2.1 hrc hrs hR) ⟨sR_blind _ _ _ _, sR_at hP hK hN⟩ rfl hn hsz hst (lv_room hW) hdg ⟨Nat.zero_le _, Nat.zero_le _⟩) (fun r hr => by rw [hr]; exact kk)
theorem cro_vf {x : UInt32} (CX : Cx p s m c args cc own) (hml : c.maxLocals = nL) (hM : Met l y (.code y bytes maxL ret :: lw_all) rm (va_Pc (.ref b :: As) (sR D cy ws)) (vp_Sf (fun r => r = x)) 0 0 (fun _ => False)) (hk : lkV own idx y bytes maxL ret n is = true) (hrc : rm.cells = 0) (hrs : rm.slots = 0) (hR : rm.frames + 1 ≤ R.frames ∧ 8 + (maxL + 11) + rm.locals ≤ R.locals) (hP : va_P D vwCl ws H) (hK : va_K D vwCl (tyA cy) s) (hN : nst s) (q0 : Nat) (he : ws[q0]? = some (b, .inr (ci, fs))) (hc : (vwCl[ci]?).map (fun r => r.1) = some y.cls) (hn : As.length = n) (hsz : ls.size = nL) (hst : st0 = As.reverse ++ .ref b :: rest) (hW : (rest.map fun v => v.category).sum ≤ 8) (hdg : decode cc pc = .ok (.invokevirtual idx, 3)) (kk : W p l e R s m args below meth c H locs 0 0 Q (F0 m (pc + 3) ls (.float x :: rest))) : W p l e R s m args below meth c H locs 0 0 Q (F0 m pc ls st0) :=
  vp_callSf (W.runV (As := As) (rest := rest) ⟨CX.1, CX.2.1, hml, CX.2.2.2, CX.2.2.1⟩ hM (lkV_cw hk CX.2.2.1 hrc hrs hR) ⟨sR_blind _ _ _ _, rcv_at hK hP q0 he hc, sR_at hP hK hN⟩ rfl hn hsz hst (lv_room hW) hdg ⟨Nat.zero_le _, Nat.zero_le _⟩) (fun r hr => by rw [hr]; exact kk)
theorem cro_sf {x : UInt32} (CX : Cx p s m c args cc own) (hml : c.maxLocals = nL) (hM : Met l y (.code y bytes maxL ret :: lw_all) rm (va_Pc As (sR D cy ws)) (vp_Sf (fun r => r = x)) 0 0 (fun _ => False)) (hk : lkS own idx y bytes maxL ret n is = true) (hrc : rm.cells = 0) (hrs : rm.slots = 0) (hR : rm.frames + 1 ≤ R.frames ∧ 8 + (maxL + 11) + rm.locals ≤ R.locals) (hP : va_P D vwCl ws H) (hK : va_K D vwCl (tyA cy) s) (hN : nst s) (hn : As.length = n) (hsz : ls.size = nL) (hst : st0 = As.reverse ++ rest) (hW : (rest.map fun v => v.category).sum ≤ 8) (hdg : decode cc pc = .ok (.invokestatic idx, 3)) (kk : W p l e R s m args below meth c H locs 0 0 Q (F0 m (pc + 3) ls (.float x :: rest))) : W p l e R s m args below meth c H locs 0 0 Q (F0 m pc ls st0) :=
  vp_callSf (W.runS (As := As) (rest := rest) ⟨CX.1, CX.2.1, hml, CX.2.2.2, CX.2.2.1⟩ hM (lkS_cw hk CX.2.2.1 hrc hrs hR) ⟨sR_blind _ _ _ _, sR_at hP hK hN⟩ rfl hn hsz hst (lv_room hW) hdg ⟨Nat.zero_le _, Nat.zero_le _⟩) (fun r hr => by rw [hr]; exact kk)
theorem cro_vl {x : Int64} (CX : Cx p s m c args cc own) (hml : c.maxLocals = nL) (hM : Met l y (.code y bytes maxL ret :: lw_all) rm (va_Pc (.ref b :: As) (sR D cy ws)) (vp_Sl (fun r => r = x)) 0 0 (fun _ => False)) (hk : lkV own idx y bytes maxL ret n is = true) (hrc : rm.cells = 0) (hrs : rm.slots = 0) (hR : rm.frames + 1 ≤ R.frames ∧ 8 + (maxL + 11) + rm.locals ≤ R.locals) (hP : va_P D vwCl ws H) (hK : va_K D vwCl (tyA cy) s) (hN : nst s) (q0 : Nat) (he : ws[q0]? = some (b, .inr (ci, fs))) (hc : (vwCl[ci]?).map (fun r => r.1) = some y.cls) (hn : As.length = n) (hsz : ls.size = nL) (hst : st0 = As.reverse ++ .ref b :: rest) (hW : (rest.map fun v => v.category).sum ≤ 8) (hdg : decode cc pc = .ok (.invokevirtual idx, 3)) (kk : W p l e R s m args below meth c H locs 0 0 Q (F0 m (pc + 3) ls (.long x :: rest))) : W p l e R s m args below meth c H locs 0 0 Q (F0 m pc ls st0) :=
  vp_callSl (W.runV (As := As) (rest := rest) ⟨CX.1, CX.2.1, hml, CX.2.2.2, CX.2.2.1⟩ hM (lkV_cw hk CX.2.2.1 hrc hrs hR) ⟨sR_blind _ _ _ _, rcv_at hK hP q0 he hc, sR_at hP hK hN⟩ rfl hn hsz hst (lv_room hW) hdg ⟨Nat.zero_le _, Nat.zero_le _⟩) (fun r hr => by rw [hr]; exact kk)
theorem cro_sl {x : Int64} (CX : Cx p s m c args cc own) (hml : c.maxLocals = nL) (hM : Met l y (.code y bytes maxL ret :: lw_all) rm (va_Pc As (sR D cy ws)) (vp_Sl (fun r => r = x)) 0 0 (fun _ => False)) (hk : lkS own idx y bytes maxL ret n is = true) (hrc : rm.cells = 0) (hrs : rm.slots = 0) (hR : rm.frames + 1 ≤ R.frames ∧ 8 + (maxL + 11) + rm.locals ≤ R.locals) (hP : va_P D vwCl ws H) (hK : va_K D vwCl (tyA cy) s) (hN : nst s) (hn : As.length = n) (hsz : ls.size = nL) (hst : st0 = As.reverse ++ rest) (hW : (rest.map fun v => v.category).sum ≤ 8) (hdg : decode cc pc = .ok (.invokestatic idx, 3)) (kk : W p l e R s m args below meth c H locs 0 0 Q (F0 m (pc + 3) ls (.long x :: rest))) : W p l e R s m args below meth c H locs 0 0 Q (F0 m pc ls st0) :=
  vp_callSl (W.runS (As := As) (rest := rest) ⟨CX.1, CX.2.1, hml, CX.2.2.2, CX.2.2.1⟩ hM (lkS_cw hk CX.2.2.1 hrc hrs hR) ⟨sR_blind _ _ _ _, sR_at hP hK hN⟩ rfl hn hsz hst (lv_room hW) hdg ⟨Nat.zero_le _, Nat.zero_le _⟩) (fun r hr => by rw [hr]; exact kk)
theorem cro_sni {x : Int32} (CX : Cx p s m c args cc RX3) (hml : c.maxLocals = nL) (hM : Met l yX4_isPitch (.code yX4_isPitch bytes maxL ret :: lw_all) rm (va_Pc As (sR D cy ws)) (vp_Si (fun r => r = x)) 0 0 (fun _ => False)) (hk : lkN yX4_isPitch bytes maxL ret n is = true) (hrc : rm.cells = 0) (hrs : rm.slots = 0) (hR : rm.frames + 1 ≤ R.frames ∧ 8 + (maxL + 11) + rm.locals ≤ R.locals) (hP : va_P D vwCl ws H) (hK : va_K D vwCl (tyA cy) s) (hN : nst s) (hn : As.length = n) (hsz : ls.size = nL) (hst : st0 = As.reverse ++ rest) (hW : (rest.map fun v => v.category).sum ≤ 8) (hdg : decode cc pc = .ok (.invokestatic 84, 3)) (kk : W p l e R s m args below meth c H locs 0 0 Q (F0 m (pc + 3) ls (.int x :: rest))) : W p l e R s m args below meth c H locs 0 0 Q (F0 m pc ls st0) := by
  simp only [lkN, Bool.and_eq_true, decide_eq_true_eq] at hk
  have hin := lw_ats (ws := ([.static yX4_isPitch, .initialized yX4_isPitch.cls, .code yX4_isPitch bytes maxL ret] : List Cond)) is hk.1
  have hG := lw_gi _ hin
  have hG2 : GoodIn lw_all (.code yX4_isPitch bytes maxL ret :: lw_all) := lw_gi [.code yX4_isPitch bytes maxL ret] (fun w hw => hin w (by rw [List.mem_singleton.mp hw]; simp))
  have ok : ∀ w ∈ ([.static yX4_isPitch, .initialized yX4_isPitch.cls, .code yX4_isPitch bytes maxL ret] : List Cond), w.before args s = true := fun w h => CX.2.2.1 w (hG w (List.mem_append_left _ h)).1
  exact vp_callSi (va_Run.run (va_runSN (As := As) (rest := rest) ⟨CX.1, CX.2.1, hml, CX.2.2.2, CX.2.2.1⟩ hM ⟨va_cnB n CX.2.2.1 hG2 rfl hrc hrs hN (ok _ (by simp)) hk.2 hR, ok _ (by simp), trivial⟩ ⟨sR_blind _ _ _ _, sR_at hP hK hN⟩ rfl hn hsz hst (lv_room hW) hdg ⟨Nat.zero_le _, Nat.zero_le _⟩)) (fun r hr => by rw [hr]; exact kk)
theorem crw_vi {x : Int32} {ws' : va_W} (CX : Cx p s m c args cc own) (hml : c.maxLocals = nL) (hM : Met l y (.code y bytes maxL ret :: lw_all) rm (va_Pc (.ref b :: As) (sW D cy ws H.size)) (qI D ws' x (va_A ws H.size)) 0 0 (va_A ws H.size)) (hk : lkV own idx y bytes maxL ret n is = true) (hrc : rm.cells = 0) (hrs : rm.slots = 0) (hR : rm.frames + 1 ≤ R.frames ∧ 8 + (maxL + 11) + rm.locals ≤ R.locals) (hP : va_P D vwCl ws H) (hD : va_D A ws) (hS : va_S A s.heap H locs) (hA : ∀ q, s.heap.size ≤ q → A q) (hK : va_K D vwCl (tyA cy) s) (hN : nst s) (q0 : Nat) (he : ws[q0]? = some (b, .inr (ci, fs))) (hc : (vwCl[ci]?).map (fun r => r.1) = some y.cls) (hn : As.length = n) (hsz : ls.size = nL) (hst : st0 = As.reverse ++ .ref b :: rest) (hW : (rest.map fun v => v.category).sum ≤ 8) (hdg : decode cc pc = .ok (.invokevirtual idx, 3)) (kk : ∀ (H1 : Heap) (locs1 : List Loc), va_P D vwCl ws' H1 → va_D A ws' → va_S A s.heap H1 locs1 → W p l e R s m args below meth c H1 locs1 0 0 Q (F0 m (pc + 3) ls (.int x :: rest))) : W p l e R s m args below meth c H locs 0 0 Q (F0 m pc ls st0) := by
  have hFc := fc_of hD hS hA
  exact va_calli (va_runV (As := As) (rest := rest) ⟨CX.1, CX.2.1, hml, CX.2.2.2, CX.2.2.1⟩ hM (lkV_cw hk CX.2.2.1 hrc hrs hR) ⟨sW_blind _ _ _ _ _, rcv_at hK hP q0 he hc, sW_at hP hD hK hN⟩ rfl hn hsz hst (lv_room hW) hdg ⟨Nat.zero_le _, Nat.zero_le _⟩) hS (fun q _ h => hFc q h) hFc (fun r u t H1 locs1 ht hvm hw hB hz1 hk1 hS1 => by
    rw [hw]
    exact kk H1 locs1 (by rw [← ht]; exact hB.1) (hB.2.weaken (fun _ q _ h => hFc q.1 h)) hS1)
theorem crw_vf {x : UInt32} {ws' : va_W} (CX : Cx p s m c args cc own) (hml : c.maxLocals = nL) (hM : Met l y (.code y bytes maxL ret :: lw_all) rm (va_Pc (.ref b :: As) (sW D cy ws H.size)) (qF D ws' x (va_A ws H.size)) 0 0 (va_A ws H.size)) (hk : lkV own idx y bytes maxL ret n is = true) (hrc : rm.cells = 0) (hrs : rm.slots = 0) (hR : rm.frames + 1 ≤ R.frames ∧ 8 + (maxL + 11) + rm.locals ≤ R.locals) (hP : va_P D vwCl ws H) (hD : va_D A ws) (hS : va_S A s.heap H locs) (hA : ∀ q, s.heap.size ≤ q → A q) (hK : va_K D vwCl (tyA cy) s) (hN : nst s) (q0 : Nat) (he : ws[q0]? = some (b, .inr (ci, fs))) (hc : (vwCl[ci]?).map (fun r => r.1) = some y.cls) (hn : As.length = n) (hsz : ls.size = nL) (hst : st0 = As.reverse ++ .ref b :: rest) (hW : (rest.map fun v => v.category).sum ≤ 8) (hdg : decode cc pc = .ok (.invokevirtual idx, 3)) (kk : ∀ (H1 : Heap) (locs1 : List Loc), va_P D vwCl ws' H1 → va_D A ws' → va_S A s.heap H1 locs1 → W p l e R s m args below meth c H1 locs1 0 0 Q (F0 m (pc + 3) ls (.float x :: rest))) : W p l e R s m args below meth c H locs 0 0 Q (F0 m pc ls st0) := by
  have hFc := fc_of hD hS hA
  exact va_callf (va_runV (As := As) (rest := rest) ⟨CX.1, CX.2.1, hml, CX.2.2.2, CX.2.2.1⟩ hM (lkV_cw hk CX.2.2.1 hrc hrs hR) ⟨sW_blind _ _ _ _ _, rcv_at hK hP q0 he hc, sW_at hP hD hK hN⟩ rfl hn hsz hst (lv_room hW) hdg ⟨Nat.zero_le _, Nat.zero_le _⟩) hS (fun q _ h => hFc q h) hFc (fun r u t H1 locs1 ht hvm hw hB hz1 hk1 hS1 => by
    rw [hw]
    exact kk H1 locs1 (by rw [← ht]; exact hB.1) (hB.2.weaken (fun _ q _ h => hFc q.1 h)) hS1)
theorem crw_vl {x : Int64} {ws' : va_W} (CX : Cx p s m c args cc own) (hml : c.maxLocals = nL) (hM : Met l y (.code y bytes maxL ret :: lw_all) rm (va_Pc (.ref b :: As) (sW D cy ws H.size)) (qL D ws' x (va_A ws H.size)) 0 0 (va_A ws H.size)) (hk : lkV own idx y bytes maxL ret n is = true) (hrc : rm.cells = 0) (hrs : rm.slots = 0) (hR : rm.frames + 1 ≤ R.frames ∧ 8 + (maxL + 11) + rm.locals ≤ R.locals) (hP : va_P D vwCl ws H) (hD : va_D A ws) (hS : va_S A s.heap H locs) (hA : ∀ q, s.heap.size ≤ q → A q) (hK : va_K D vwCl (tyA cy) s) (hN : nst s) (q0 : Nat) (he : ws[q0]? = some (b, .inr (ci, fs))) (hc : (vwCl[ci]?).map (fun r => r.1) = some y.cls) (hn : As.length = n) (hsz : ls.size = nL) (hst : st0 = As.reverse ++ .ref b :: rest) (hW : (rest.map fun v => v.category).sum ≤ 8) (hdg : decode cc pc = .ok (.invokevirtual idx, 3)) (kk : ∀ (H1 : Heap) (locs1 : List Loc), va_P D vwCl ws' H1 → va_D A ws' → va_S A s.heap H1 locs1 → W p l e R s m args below meth c H1 locs1 0 0 Q (F0 m (pc + 3) ls (.long x :: rest))) : W p l e R s m args below meth c H locs 0 0 Q (F0 m pc ls st0) := by
  have hFc := fc_of hD hS hA
  exact va_calll (va_runV (As := As) (rest := rest) ⟨CX.1, CX.2.1, hml, CX.2.2.2, CX.2.2.1⟩ hM (lkV_cw hk CX.2.2.1 hrc hrs hR) ⟨sW_blind _ _ _ _ _, rcv_at hK hP q0 he hc, sW_at hP hD hK hN⟩ rfl hn hsz hst (lv_room hW) hdg ⟨Nat.zero_le _, Nat.zero_le _⟩) hS (fun q _ h => hFc q h) hFc (fun r u t H1 locs1 ht hvm hw hB hz1 hk1 hS1 => by
    rw [hw]
    exact kk H1 locs1 (by rw [← ht]; exact hB.1) (hB.2.weaken (fun _ q _ h => hFc q.1 h)) hS1)
theorem crw_vv {ws' : va_W} (CX : Cx p s m c args cc own) (hml : c.maxLocals = nL) (hM : Met l y (.code y bytes maxL ret :: lw_all) rm (va_Pc (.ref b :: As) (sW D cy ws H.size)) (qV D ws' (va_A ws H.size)) 0 0 (va_A ws H.size)) (hk : lkV own idx y bytes maxL ret n is = true) (hrc : rm.cells = 0) (hrs : rm.slots = 0) (hR : rm.frames + 1 ≤ R.frames ∧ 8 + (maxL + 11) + rm.locals ≤ R.locals) (hP : va_P D vwCl ws H) (hD : va_D A ws) (hS : va_S A s.heap H locs) (hA : ∀ q, s.heap.size ≤ q → A q) (hK : va_K D vwCl (tyA cy) s) (hN : nst s) (q0 : Nat) (he : ws[q0]? = some (b, .inr (ci, fs))) (hc : (vwCl[ci]?).map (fun r => r.1) = some y.cls) (hn : As.length = n) (hsz : ls.size = nL) (hst : st0 = As.reverse ++ .ref b :: rest) (hW : (rest.map fun v => v.category).sum ≤ 8) (hdg : decode cc pc = .ok (.invokevirtual idx, 3)) (kk : ∀ (H1 : Heap) (locs1 : List Loc), va_P D vwCl ws' H1 → va_D A ws' → va_S A s.heap H1 locs1 → W p l e R s m args below meth c H1 locs1 0 0 Q (F0 m (pc + 3) ls rest)) : W p l e R s m args below meth c H locs 0 0 Q (F0 m pc ls st0) := by
  have hFc := fc_of hD hS hA
  exact va_callv (va_runV (As := As) (rest := rest) ⟨CX.1, CX.2.1, hml, CX.2.2.2, CX.2.2.1⟩ hM (lkV_cw hk CX.2.2.1 hrc hrs hR) ⟨sW_blind _ _ _ _ _, rcv_at hK hP q0 he hc, sW_at hP hD hK hN⟩ rfl hn hsz hst (lv_room hW) hdg ⟨Nat.zero_le _, Nat.zero_le _⟩) hS (fun q _ h => hFc q h) hFc (fun u t H1 locs1 ht hvm hw hB hz1 hk1 hS1 => kk H1 locs1 (by rw [← ht]; exact hB.1) (hB.2.weaken (fun _ q _ h => hFc q.1 h)) hS1)
theorem lv_tabD {cells slots : Nat} (hexec : p.tables.exec = Jvm.exec) (hb : c.code = cc) {dflt lo hi : Int} {offs : Array Int} {len : Nat} {x : Int32} {off : Int} {tgt : Nat} (hdg : decode cc pc = .ok (.tableswitch dflt lo hi offs, len)) (h : ((x.toInt < lo ∨ hi < x.toInt) ∧ off = dflt) ∨ (¬ x.toInt < lo ∧ ¬ hi < x.toInt ∧ offs[(x.toInt - lo).toNat]? = some off)) (ht : (pc : Int) + off = (tgt : Int)) (k : W p l e R s m args below meth c H locs cells slots Q (F0 m tgt ls rest)) : W p l e R s m args below meth c H locs cells slots Q (F0 m pc ls (.int x :: rest)) := by
  rcases h with ⟨h, e⟩ | ⟨h1, h2, h3⟩
  · subst e; exact lv_tableOut hexec hb hdg h ht k
  · exact lv_tableIn hexec hb hdg h1 h2 h3 ht k
end CALLS
end
section
/-! static calls over one or two cells of a larger world, rows of arrays of arrays, natives -/
section CALLS2
variable {p : Program} {l : Launch} {e : Env} {R : Room} {s : State} {m : MethodId} {args : Array Value} {below : List Frame} {meth : Method} {c : Code} {H : Heap} {locs : List Loc} {Q : State → Prop}
variable {cc : ByteArray} {pc : Nat} {ls : Array Slot} {rest st0 : List Value} {D : va_G} {A : Nat → Prop} {ws : va_W} {cy : Nat → ClassId} {own : String}
variable {is : List Nat} {y : MethodName} {bytes : ByteArray} {maxL n nL idx : Nat} {ret : Option FieldType} {rm : Room} {As : List Value}
theorem set_back {r : Nat} {e0 e1 : va_E} {w0 : va_W} {k : Nat} {H1 : Heap} (hP : va_P D vwCl ws H) (hD : va_D A ws) (hk : ws[k]? = some (r, e0)) (hw : ∀ q ∈ w0, q ∈ ws) (hq : ∀ q : Nat, q < H.size → ¬ va_A (w0 ++ [(r, e0)]) H.size q → H1[q]? = H[q]?) (hP1 : va_P D vwCl (w0 ++ [(r, e1)]) H1) : va_P D vwCl (ws.set k (r, e1)) H1 := by
  have hlt : k < ws.length := (List.getElem?_eq_some_iff.mp hk).1
  intro i x hx
  by_cases hi : k = i
  · subst hi
    rw [List.getElem?_set_self hlt] at hx
    cases hx
    exact hP1 w0.length (r, e1) (by simp)
  · rw [List.getElem?_set_ne hi] at hx
    by_cases hm : x ∈ w0
    · obtain ⟨j, hj⟩ := List.getElem?_of_mem hm
      exact hP1 j x (by rw [List.getElem?_append_left (List.getElem?_eq_some_iff.mp hj).1]; exact hj)
    · refine (hP i x hx).kept (hq x.1 (hP i x hx).lt (fun h => ?_))
      rcases h with ⟨j, e9, h⟩ | h
      · rcases List.mem_append.mp (List.mem_of_getElem? h) with h2 | h2
        · obtain ⟨i2, hi2⟩ := List.getElem?_of_mem (hw _ h2)
          have e2 := hD.1 i i2 x (x.1, e9) hx hi2 rfl
          subst e2
          have e3 : x = (x.1, e9) := Option.some.inj (hx.symm.trans hi2)
          exact hm (by rw [e3]; exact h2)
        · have e4 : (x.1, e9) = (r, e0) := List.mem_singleton.mp h2
          have e5 : x.1 = r := congrArg Prod.fst e4
          exact hi (hD.1 k i (r, e0) x hk hx e5.symm)
      · exact absurd (hP i x hx).lt (Nat.not_lt.mpr h)
theorem crs1 {r : Nat} {e0 e1 : va_E} {wsn : va_W} {k : Nat} (CX : Cx p s m c args cc own) (hml : c.maxLocals = nL) (hM : Met l y (.code y bytes maxL ret :: lw_all) rm (va_Pc As (sW D cy [(r, e0)] H.size)) (qV D [(r, e1)] (va_A [(r, e0)] H.size)) 0 0 (va_A [(r, e0)] H.size)) (hk : lkS own idx y bytes maxL ret n is = true) (hrc : rm.cells = 0) (hrs : rm.slots = 0) (hR : rm.frames + 1 ≤ R.frames ∧ 8 + (maxL + 11) + rm.locals ≤ R.locals) (hP : va_P D vwCl ws H) (hD : va_D A ws) (hS : va_S A s.heap H locs) (hA : ∀ q, s.heap.size ≤ q → A q) (hK : va_K D vwCl (tyA cy) s) (hN : nst s) (h1 : ws[k]? = some (r, e0)) (hset : ws.set k (r, e1) = wsn) (hn : As.length = n) (hsz : ls.size = nL) (hst : st0 = As.reverse ++ rest) (hW : (rest.map fun v => v.category).sum ≤ 8) (hdg : decode cc pc = .ok (.invokestatic idx, 3)) (kk : ∀ (H1 : Heap) (locs1 : List Loc), va_P D vwCl wsn H1 → va_D A wsn → va_S A s.heap H1 locs1 → W p l e R s m args below meth c H1 locs1 0 0 Q (F0 m (pc + 3) ls rest)) : W p l e R s m args below meth c H locs 0 0 Q (F0 m pc ls st0) := by
  have hPc : va_P D vwCl [(r, e0)] H := fun i x hx => by
    have h0 : i < 1 := (List.getElem?_eq_some_iff.mp hx).1
    rw [show i = 0 by omega] at hx
    cases hx
    exact hP k _ h1
  have hDc : va_D A [(r, e0)] := ⟨fun i j x y hi hj _ => by
    have h0 : i < 1 := (List.getElem?_eq_some_iff.mp hi).1
    have h2 : j < 1 := (List.getElem?_eq_some_iff.mp hj).1
    omega, fun i x hx => by
    have h0 : i < 1 := (List.getElem?_eq_some_iff.mp hx).1
    rw [show i = 0 by omega] at hx
    cases hx
    exact hD.2 k _ h1⟩
  have hFc := fc_of hDc hS hA
  exact va_callv (va_runS (As := As) (rest := rest) ⟨CX.1, CX.2.1, hml, CX.2.2.2, CX.2.2.1⟩ hM (lkS_cw hk CX.2.2.1 hrc hrs hR) ⟨sW_blind _ _ _ _ _, sW_at hPc hDc hK hN⟩ rfl hn hsz hst (lv_room hW) hdg ⟨Nat.zero_le _, Nat.zero_le _⟩) hS (fun q _ h => hFc q h) hFc (fun u t H1 locs1 ht hvm hw hB hz1 hk1 hS1 => by
    have h := set_back (w0 := []) hP hD h1 (by simp) hk1 (by rw [← ht]; exact hB.1)
    rw [hset] at h
    exact kk H1 locs1 h (hset ▸ hD.set h1) hS1)
theorem crs2 {r1 r2 : Nat} {e1 e2 e3 : va_E} {wsn : va_W} {k1 k2 : Nat} (CX : Cx p s m c args cc own) (hml : c.maxLocals = nL) (hM : Met l y (.code y bytes maxL ret :: lw_all) rm (va_Pc As (sW D cy [(r1, e1), (r2, e2)] H.size)) (qV D [(r1, e1), (r2, e3)] (va_A [(r1, e1), (r2, e2)] H.size)) 0 0 (va_A [(r1, e1), (r2, e2)] H.size)) (hk : lkS own idx y bytes maxL ret n is = true) (hrc : rm.cells = 0) (hrs : rm.slots = 0) (hR : rm.frames + 1 ≤ R.frames ∧ 8 + (maxL + 11) + rm.locals ≤ R.locals) (hP : va_P D vwCl ws H) (hD : va_D A ws) (hS : va_S A s.heap H locs) (hA : ∀ q, s.heap.size ≤ q → A q) (hK : va_K D vwCl (tyA cy) s) (hN : nst s) (h1 : ws[k1]? = some (r1, e1)) (h2 : ws[k2]? = some (r2, e2)) (hne : k1 ≠ k2) (hset : ws.set k2 (r2, e3) = wsn) (hn : As.length = n) (hsz : ls.size = nL) (hst : st0 = As.reverse ++ rest) (hW : (rest.map fun v => v.category).sum ≤ 8) (hdg : decode cc pc = .ok (.invokestatic idx, 3)) (kk : ∀ (H1 : Heap) (locs1 : List Loc), va_P D vwCl wsn H1 → va_D A wsn → va_S A s.heap H1 locs1 → W p l e R s m args below meth c H1 locs1 0 0 Q (F0 m (pc + 3) ls rest)) : W p l e R s m args below meth c H locs 0 0 Q (F0 m pc ls st0) := by
  have hcase : ∀ (i : Nat) (x : Nat × va_E), [(r1, e1), (r2, e2)][i]? = some x → (i = 0 ∧ x = (r1, e1)) ∨ (i = 1 ∧ x = (r2, e2)) := fun i x hx => by
    have h0 : i < 2 := (List.getElem?_eq_some_iff.mp hx).1
    rcases (show i = 0 ∨ i = 1 by omega) with h | h
    · subst h; exact Or.inl ⟨rfl, (Option.some.inj hx).symm⟩
    · subst h; exact Or.inr ⟨rfl, (Option.some.inj hx).symm⟩
  have hPc : va_P D vwCl [(r1, e1), (r2, e2)] H := fun i x hx => by
    rcases hcase i x hx with ⟨-, h⟩ | ⟨-, h⟩
    · rw [h]; exact hP k1 _ h1
    · rw [h]; exact hP k2 _ h2
  have hDc : va_D A [(r1, e1), (r2, e2)] := ⟨fun i j x y hi hj hxy => by
    rcases hcase i x hi with ⟨g, h⟩ | ⟨g, h⟩ <;> rcases hcase j y hj with ⟨g2, h3⟩ | ⟨g2, h3⟩
    · omega
    · rw [h, h3] at hxy; exact absurd (hD.1 k1 k2 _ _ h1 h2 hxy) hne
    · rw [h, h3] at hxy; exact absurd (hD.1 k1 k2 _ _ h1 h2 hxy.symm) hne
    · omega, fun i x hx => by
    rcases hcase i x hx with ⟨-, h⟩ | ⟨-, h⟩
    · rw [h]; exact hD.2 k1 _ h1
    · rw [h]; exact hD.2 k2 _ h2⟩
  have hFc := fc_of hDc hS hA
  exact va_callv (va_runS (As := As) (rest := rest) ⟨CX.1, CX.2.1, hml, CX.2.2.2, CX.2.2.1⟩ hM (lkS_cw hk CX.2.2.1 hrc hrs hR) ⟨sW_blind _ _ _ _ _, sW_at hPc hDc hK hN⟩ rfl hn hsz hst (lv_room hW) hdg ⟨Nat.zero_le _, Nat.zero_le _⟩) hS (fun q _ h => hFc q h) hFc (fun u t H1 locs1 ht hvm hw hB hz1 hk1 hS1 => by
    have h := set_back (w0 := [(r1, e1)]) hP hD h2 (fun q hq => by rw [List.mem_singleton.mp hq]; exact List.mem_of_getElem? h1) hk1 (by rw [← ht]; exact hB.1)
    rw [hset] at h
    exact kk H1 locs1 h (hset ▸ hD.set h2) hS1)
theorem va_aldA {cell : Unit} {a : Nat} {cl : List vw_C} {tys : List (ClassId × FieldType)} {cells slots : Nat} (hexec : p.tables.exec = Jvm.exec) (hb : c.code = cc) (hK : va_K D cl tys s) (hP : va_P D cl ws H) (q0 t0 : Nat) {cA : ClassId} {ty : FieldType} {n : Nat} {f : Nat → Option Nat} (ha : ws[q0]? = some (a, .inl (cA, n, .inr (.inr (.inr (.inr f)))))) (ht : tys[t0]? = some (cA, .array ty)) {i : Int32} (hin : vp_in i n) (hdg : decode cc pc = .ok (.aaload, 1))
    (kk : W p l e R s m args below meth c H locs cells slots Q (F0 m (pc + 1) ls (va_rf (f i.toNatClampNeg) :: rest))) : W p l e R s m args below meth c H locs cells slots Q (F0 m pc ls (.int i :: .ref a :: rest)) := by
  have hlt : i.toNatClampNeg < n := Nat.not_le.mp fun q => hin (Or.inr q)
  exact W.aald (v := va_rf (f i.toNatClampNeg)) (ty := .array ty) hexec hb (hP q0 _ ha) ((hK.2 t0 _ ht).1 n (fun j => va_rf (f j))) rfl (fun q => by cases q) (by show ¬ (i < 0 ∨ (arrV _ _ _).slots.size ≤ _); rw [arrV_size]; exact hin) (by show (arrV _ _ _).slots[_]? = _; rw [arrV_read _ _ hlt]) rfl rfl hdg kk
end CALLS2
/-- the natives of Float and Double -/
def nmF2i : MethodName := ⟨"java/lang/Float", "floatToRawIntBits", "(F)I"⟩
def nmI2f : MethodName := ⟨"java/lang/Float", "intBitsToFloat", "(I)F"⟩
def nmD2l : MethodName := ⟨"java/lang/Double", "doubleToRawLongBits", "(D)J"⟩
theorem mNat {w : Cond} (h : w ∈ ([.native nmF2i, .static nmF2i, .initialized "java/lang/Float", .native nmI2f, .static nmI2f, .native nmD2l, .static nmD2l, .initialized "java/lang/Double", .native arraycopyName, .static arraycopyName, .initialized "java/lang/System"] : List Cond)) : w ∈ lw_all := lw_ats [1013, 1012, 70, 1162, 1161, 1422, 1421, 84, 328, 327, 77] (by decide +kernel) w h
def okI (b : Int32) : Bool := !(vn_sni2f b)
theorem okI_in {b : Int32} (h : okI b = true) : vn_sni2f b = false := by
  unfold okI at h
  cases hh : vn_sni2f b with
  | false => rfl
  | true => rw [hh] at h; cases h
theorem inb_lt {i : Int32} {n : Nat} (h : inb i n = true) : i.toNatClampNeg < n := Nat.not_le.mp fun q => inb_in h (Or.inr q)
end
section
/-! by program: worlds -/
def wX3 (q : Nat → Nat) (cy : Nat → ClassId) (v_hour : Int32) (v_crowd : Int32) (v_buskers : Int32) (v_answered : Int32) (v_draws : Int32) (v_lim : Nat → UInt32) (v_cmp : Nat → Int32) (v_sof : Nat → Int32) (v_kin : Nat → Int32) (v_lou : Nat → Int32) (v_pit : Nat → Int32) (v_pla : Nat → Int32) (v_cas : Nat → Int32) (v_hrs : Nat → Int32) (v_nws : Nat → Int32) (v_hat : Nat → UInt32) (v_wea : Nat → UInt32) (v_row : Nat → UInt32) : va_W :=
  [(q 0, .inr (4, [.int v_hour, .int v_crowd, .int v_buskers, .int v_answered, .int v_draws, .ref (q 1), .ref (q 2), .ref (q 3), .ref (q 4), .ref (q 5), .ref (q 6), .ref (q 7), .ref (q 8), .ref (q 9), .ref (q 10), .ref (q 11), .ref (q 12), .ref (q 13)])),
   (q 1, .inl (cy 1, 8, .inr (.inr (.inl v_lim)))),
   (q 2, .inl (cy 0, 8, .inl v_cmp)),
   (q 3, .inl (cy 0, 8, .inl v_sof)),
   (q 4, .inl (cy 0, 8, .inl v_kin)),
   (q 5, .inl (cy 0, 8, .inl v_lou)),
   (q 6, .inl (cy 0, 8, .inl v_pit)),
   (q 7, .inl (cy 0, 8, .inl v_pla)),
   (q 8, .inl (cy 0, 8, .inl v_cas)),
   (q 9, .inl (cy 0, 8, .inl v_hrs)),
   (q 10, .inl (cy 0, 8, .inl v_nws)),
   (q 11, .inl (cy 1, 8, .inr (.inr (.inl v_hat)))),
   (q 12, .inl (cy 1, 8, .inr (.inr (.inl v_wea)))),
   (q 13, .inl (cy 1, 10, .inr (.inr (.inl v_row))))]
def wX2 (q : Nat → Nat) (cy : Nat → ClassId) (v_len : Int32) (v_sig : Nat → Int32) : va_W :=
  [(q 0, .inr (3, [.ref (q 1), .int v_len])),
   (q 1, .inl (cy 2, 60, .inl v_sig))]
def hrows (q : Nat → Nat) (cy : Nat → ClassId) (h : Nat → Nat → Int32) : va_W := (List.range 8).map (fun i => (q (20 + i), .inl (cy 0, 112, .inl (h i))))
def wX5 (q : Nat → Nat) (cy : Nat → ClassId) (m_thr : Int32) (m_kept : Int32) (m_rea : Int32) (m_det : Int32) (m_isv : Int32) (m_iit : Int32) (m_len : Int32) (m_at : Int32) (m_err : Int32) (m_wro : Int32) (m_cmd : Int32) (m_to1 : Int32) (m_to2 : Int32) (m_now : Nat → Int32) (m_sav : Nat → Int32) (m_ahe : Nat → Int32) (m_bef : Nat → Int32) (m_hst : Nat → Nat → Int32) (m_noi : Nat → UInt32) (m_own : Nat → UInt32) (m_inp : Nat → Int32) : va_W :=
  [(q 0, .inr (6, [.int m_thr, .ref (q 1), .ref (q 2), .ref (q 3), .ref (q 4), .ref (q 5), .ref (q 6), .ref (q 7), .int m_kept, .int m_rea, .int m_det, .int m_isv, .int m_iit, .ref (q 8), .int m_len, .int m_at, .int m_err, .int m_wro, .int m_cmd, .int m_to1, .int m_to2])),
   (q 1, .inl (cy 0, 112, .inl m_now)),
   (q 2, .inl (cy 0, 112, .inl m_sav)),
   (q 3, .inl (cy 0, 112, .inl m_ahe)),
   (q 4, .inl (cy 0, 112, .inl m_bef)),
   (q 5, .inl (cy 4, 8, .inr (.inr (.inr (.inr (fun i => some (q (20 + i)))))))),
   (q 6, .inl (cy 1, 8, .inr (.inr (.inl m_noi)))),
   (q 7, .inl (cy 1, 10, .inr (.inr (.inl m_own)))),
   (q 8, .inl (cy 2, 60, .inl m_inp))] ++ hrows q cy m_hst
theorem hrow_at {q : Nat → Nat} {cy : Nat → ClassId} {h : Nat → Nat → Int32} {X : va_W} {i : Nat} (hi : i < 8) (hX : X.length = 9 := by rfl) : (X ++ hrows q cy h)[9 + i]? = some (q (20 + i), .inl (cy 0, 112, .inl (h i))) := by
  rw [List.getElem?_append_right (by omega), show 9 + i - X.length = i by omega]
  unfold hrows
  rw [List.getElem?_map, List.getElem?_range hi]
  rfl
theorem hrow_set {q : Nat → Nat} {cy : Nat → ClassId} {h : Nat → Nat → Int32} {X : va_W} {i : Nat} {v : Nat → Int32} (hi : i < 8) (hX : X.length = 9 := by rfl) : (X ++ hrows q cy h).set (9 + i) (q (20 + i), .inl (cy 0, 112, .inl v)) = X ++ hrows q cy (vf_upd h i v) := by
  rw [List.set_append_right _ _ (by omega), show 9 + i - X.length = i by omega]
  congr 1
  unfold hrows
  apply List.ext_getElem?
  intro j
  rw [List.getElem?_set]
  simp only [List.getElem?_map, List.length_map, List.length_range]
  by_cases hj : i = j
  · subst hj
    simp [hi, vf_upd, List.getElem?_range hi]
  · simp only [if_neg hj]
    by_cases h8 : j < 8
    · rw [List.getElem?_range h8]
      simp [vf_upd, Ne.symm hj]
    · rw [List.getElem?_eq_none (by simp; omega)]
      rfl
end
section
/-! by program: links -/
section LINKS
variable {p : Program} {l : Launch} {e : Env} {R : Room} {s : State} {m : MethodId} {args : Array Value} {below : List Frame} {meth : Method} {c : Code} {H : Heap} {locs : List Loc} {cells slots : Nat} {Q : State → Prop}
variable {cc : ByteArray} {pc : Nat} {ls : Array Slot} {rest : List Value} {D : va_G} {A : Nat → Prop} {a : Nat} {ws : va_W} {H0 : Heap} {cy : Nat → ClassId}
theorem gf_RX3_9 {fs : List Value} {v : Value} (CX : Cx p s m c args cc RX3) (hK : va_K D vwCl (tyA cy) s) (hP : va_P D vwCl ws H) (q0 : Nat) (he : ws[q0]? = some (a, .inr (4, fs))) (hv : fs[0]? = some v) (hdg : decode cc pc = .ok (.getfield 9, 3)) (kk : W p l e R s m args below meth c H locs cells slots Q (F0 m (pc + 3) ls (v :: rest))) : W p l e R s m args below meth c H locs cells slots Q (F0 m pc ls (.ref a :: rest)) :=
  va_get (D := D) (ci := 4) (C := RX3) (T := TX3) (N := 18) CX.1 CX.2.1 CX.2.2.1 inX3 CX.2.2.2 hK hP q0 he rfl 0 (by decide) (CX.2.2.1 (.fieldLink RX3 9 "BuskPitches$State" "hour" "I") (lw_at 106 (by decide +kernel))) (fun _ h9 => h9) hv hdg kk
theorem pf_RX3_9 {fs : List Value} {x : Int32} (CX : Cx p s m c args cc RX3) (hK : va_K D vwCl (tyA cy) s) (hP : va_P D vwCl ws H) (hD : va_D A ws) (hS : va_S A H0 H locs) (q0 : Nat) (he : ws[q0]? = some (a, .inr (4, fs))) (hdg : decode cc pc = .ok (.putfield 9, 3)) (hlen : 0 < fs.length) (kk : ∀ (H1 : Heap) (locs1 : List Loc), va_P D vwCl (ws.set q0 (a, .inr (4, fs.set 0 (.int x)))) H1 → va_D A (ws.set q0 (a, .inr (4, fs.set 0 (.int x)))) → va_S A H0 H1 locs1 → W p l e R s m args below meth c H1 locs1 cells slots Q (F0 m (pc + 3) ls rest)) : W p l e R s m args below meth c H locs cells slots Q (F0 m pc ls (.int x :: .ref a :: rest)) :=
  va_put (D := D) (ci := 4) (ty := .int) (C := RX3) (T := TX3) (N := 18) CX.1 CX.2.1 CX.2.2.1 inX3 tyX3 tyX3_ok nmX3 CX.2.2.2 hK hP hD hS q0 he rfl 0 (by decide) (CX.2.2.1 (.fieldLink RX3 9 "BuskPitches$State" "hour" "I") (lw_at 106 (by decide +kernel))) (fun _ h9 => h9) rfl (by decide +kernel) rfl rfl hlen hdg kk
theorem gf_RX3_15 {fs : List Value} {v : Value} (CX : Cx p s m c args cc RX3) (hK : va_K D vwCl (tyA cy) s) (hP : va_P D vwCl ws H) (q0 : Nat) (he : ws[q0]? = some (a, .inr (4, fs))) (hv : fs[1]? = some v) (hdg : decode cc pc = .ok (.getfield 15, 3)) (kk : W p l e R s m args below meth c H locs cells slots Q (F0 m (pc + 3) ls (v :: rest))) : W p l e R s m args below meth c H locs cells slots Q (F0 m pc ls (.ref a :: rest)) :=
  va_get (D := D) (ci := 4) (C := RX3) (T := TX3) (N := 18) CX.1 CX.2.1 CX.2.2.1 inX3 CX.2.2.2 hK hP q0 he rfl 1 (by decide) (CX.2.2.1 (.fieldLink RX3 15 "BuskPitches$State" "crowd" "I") (lw_at 108 (by decide +kernel))) (fun _ h9 => h9) hv hdg kk
theorem pf_RX3_15 {fs : List Value} {x : Int32} (CX : Cx p s m c args cc RX3) (hK : va_K D vwCl (tyA cy) s) (hP : va_P D vwCl ws H) (hD : va_D A ws) (hS : va_S A H0 H locs) (q0 : Nat) (he : ws[q0]? = some (a, .inr (4, fs))) (hdg : decode cc pc = .ok (.putfield 15, 3)) (hlen : 1 < fs.length) (kk : ∀ (H1 : Heap) (locs1 : List Loc), va_P D vwCl (ws.set q0 (a, .inr (4, fs.set 1 (.int x)))) H1 → va_D A (ws.set q0 (a, .inr (4, fs.set 1 (.int x)))) → va_S A H0 H1 locs1 → W p l e R s m args below meth c H1 locs1 cells slots Q (F0 m (pc + 3) ls rest)) : W p l e R s m args below meth c H locs cells slots Q (F0 m pc ls (.int x :: .ref a :: rest)) :=
  va_put (D := D) (ci := 4) (ty := .int) (C := RX3) (T := TX3) (N := 18) CX.1 CX.2.1 CX.2.2.1 inX3 tyX3 tyX3_ok nmX3 CX.2.2.2 hK hP hD hS q0 he rfl 1 (by decide) (CX.2.2.1 (.fieldLink RX3 15 "BuskPitches$State" "crowd" "I") (lw_at 108 (by decide +kernel))) (fun _ h9 => h9) rfl (by decide +kernel) rfl rfl hlen hdg kk
theorem gf_RX3_18 {fs : List Value} {v : Value} (CX : Cx p s m c args cc RX3) (hK : va_K D vwCl (tyA cy) s) (hP : va_P D vwCl ws H) (q0 : Nat) (he : ws[q0]? = some (a, .inr (4, fs))) (hv : fs[2]? = some v) (hdg : decode cc pc = .ok (.getfield 18, 3)) (kk : W p l e R s m args below meth c H locs cells slots Q (F0 m (pc + 3) ls (v :: rest))) : W p l e R s m args below meth c H locs cells slots Q (F0 m pc ls (.ref a :: rest)) :=
  va_get (D := D) (ci := 4) (C := RX3) (T := TX3) (N := 18) CX.1 CX.2.1 CX.2.2.1 inX3 CX.2.2.2 hK hP q0 he rfl 2 (by decide) (CX.2.2.1 (.fieldLink RX3 18 "BuskPitches$State" "buskers" "I") (lw_at 110 (by decide +kernel))) (fun _ h9 => h9) hv hdg kk
theorem pf_RX3_18 {fs : List Value} {x : Int32} (CX : Cx p s m c args cc RX3) (hK : va_K D vwCl (tyA cy) s) (hP : va_P D vwCl ws H) (hD : va_D A ws) (hS : va_S A H0 H locs) (q0 : Nat) (he : ws[q0]? = some (a, .inr (4, fs))) (hdg : decode cc pc = .ok (.putfield 18, 3)) (hlen : 2 < fs.length) (kk : ∀ (H1 : Heap) (locs1 : List Loc), va_P D vwCl (ws.set q0 (a, .inr (4, fs.set 2 (.int x)))) H1 → va_D A (ws.set q0 (a, .inr (4, fs.set 2 (.int x)))) → va_S A H0 H1 locs1 → W p l e R s m args below meth c H1 locs1 cells slots Q (F0 m (pc + 3) ls rest)) : W p l e R s m args below meth c H locs cells slots Q (F0 m pc ls (.int x :: .ref a :: rest)) :=
  va_put (D := D) (ci := 4) (ty := .int) (C := RX3) (T := TX3) (N := 18) CX.1 CX.2.1 CX.2.2.1 inX3 tyX3 tyX3_ok nmX3 CX.2.2.2 hK hP hD hS q0 he rfl 2 (by decide) (CX.2.2.1 (.fieldLink RX3 18 "BuskPitches$State" "buskers" "I") (lw_at 110 (by decide +kernel))) (fun _ h9 => h9) rfl (by decide +kernel) rfl rfl hlen hdg kk
theorem gf_RX3_21 {fs : List Value} {v : Value} (CX : Cx p s m c args cc RX3) (hK : va_K D vwCl (tyA cy) s) (hP : va_P D vwCl ws H) (q0 : Nat) (he : ws[q0]? = some (a, .inr (4, fs))) (hv : fs[3]? = some v) (hdg : decode cc pc = .ok (.getfield 21, 3)) (kk : W p l e R s m args below meth c H locs cells slots Q (F0 m (pc + 3) ls (v :: rest))) : W p l e R s m args below meth c H locs cells slots Q (F0 m pc ls (.ref a :: rest)) :=
  va_get (D := D) (ci := 4) (C := RX3) (T := TX3) (N := 18) CX.1 CX.2.1 CX.2.2.1 inX3 CX.2.2.2 hK hP q0 he rfl 3 (by decide) (CX.2.2.1 (.fieldLink RX3 21 "BuskPitches$State" "answered" "I") (lw_at 112 (by decide +kernel))) (fun _ h9 => h9) hv hdg kk
theorem pf_RX3_21 {fs : List Value} {x : Int32} (CX : Cx p s m c args cc RX3) (hK : va_K D vwCl (tyA cy) s) (hP : va_P D vwCl ws H) (hD : va_D A ws) (hS : va_S A H0 H locs) (q0 : Nat) (he : ws[q0]? = some (a, .inr (4, fs))) (hdg : decode cc pc = .ok (.putfield 21, 3)) (hlen : 3 < fs.length) (kk : ∀ (H1 : Heap) (locs1 : List Loc), va_P D vwCl (ws.set q0 (a, .inr (4, fs.set 3 (.int x)))) H1 → va_D A (ws.set q0 (a, .inr (4, fs.set 3 (.int x)))) → va_S A H0 H1 locs1 → W p l e R s m args below meth c H1 locs1 cells slots Q (F0 m (pc + 3) ls rest)) : W p l e R s m args below meth c H locs cells slots Q (F0 m pc ls (.int x :: .ref a :: rest)) :=
  va_put (D := D) (ci := 4) (ty := .int) (C := RX3) (T := TX3) (N := 18) CX.1 CX.2.1 CX.2.2.1 inX3 tyX3 tyX3_ok nmX3 CX.2.2.2 hK hP hD hS q0 he rfl 3 (by decide) (CX.2.2.1 (.fieldLink RX3 21 "BuskPitches$State" "answered" "I") (lw_at 112 (by decide +kernel))) (fun _ h9 => h9) rfl (by decide +kernel) rfl rfl hlen hdg kk
theorem gf_RX3_24 {fs : List Value} {v : Value} (CX : Cx p s m c args cc RX3) (hK : va_K D vwCl (tyA cy) s) (hP : va_P D vwCl ws H) (q0 : Nat) (he : ws[q0]? = some (a, .inr (4, fs))) (hv : fs[4]? = some v) (hdg : decode cc pc = .ok (.getfield 24, 3)) (kk : W p l e R s m args below meth c H locs cells slots Q (F0 m (pc + 3) ls (v :: rest))) : W p l e R s m args below meth c H locs cells slots Q (F0 m pc ls (.ref a :: rest)) :=
  va_get (D := D) (ci := 4) (C := RX3) (T := TX3) (N := 18) CX.1 CX.2.1 CX.2.2.1 inX3 CX.2.2.2 hK hP q0 he rfl 4 (by decide) (CX.2.2.1 (.fieldLink RX3 24 "BuskPitches$State" "draws" "I") (lw_at 114 (by decide +kernel))) (fun _ h9 => h9) hv hdg kk
theorem pf_RX3_24 {fs : List Value} {x : Int32} (CX : Cx p s m c args cc RX3) (hK : va_K D vwCl (tyA cy) s) (hP : va_P D vwCl ws H) (hD : va_D A ws) (hS : va_S A H0 H locs) (q0 : Nat) (he : ws[q0]? = some (a, .inr (4, fs))) (hdg : decode cc pc = .ok (.putfield 24, 3)) (hlen : 4 < fs.length) (kk : ∀ (H1 : Heap) (locs1 : List Loc), va_P D vwCl (ws.set q0 (a, .inr (4, fs.set 4 (.int x)))) H1 → va_D A (ws.set q0 (a, .inr (4, fs.set 4 (.int x)))) → va_S A H0 H1 locs1 → W p l e R s m args below meth c H1 locs1 cells slots Q (F0 m (pc + 3) ls rest)) : W p l e R s m args below meth c H locs cells slots Q (F0 m pc ls (.int x :: .ref a :: rest)) :=
  va_put (D := D) (ci := 4) (ty := .int) (C := RX3) (T := TX3) (N := 18) CX.1 CX.2.1 CX.2.2.1 inX3 tyX3 tyX3_ok nmX3 CX.2.2.2 hK hP hD hS q0 he rfl 4 (by decide) (CX.2.2.1 (.fieldLink RX3 24 "BuskPitches$State" "draws" "I") (lw_at 114 (by decide +kernel))) (fun _ h9 => h9) rfl (by decide +kernel) rfl rfl hlen hdg kk
theorem gf_RX3_27 {fs : List Value} {v : Value} (CX : Cx p s m c args cc RX3) (hK : va_K D vwCl (tyA cy) s) (hP : va_P D vwCl ws H) (q0 : Nat) (he : ws[q0]? = some (a, .inr (4, fs))) (hv : fs[5]? = some v) (hdg : decode cc pc = .ok (.getfield 27, 3)) (kk : W p l e R s m args below meth c H locs cells slots Q (F0 m (pc + 3) ls (v :: rest))) : W p l e R s m args below meth c H locs cells slots Q (F0 m pc ls (.ref a :: rest)) :=
  va_get (D := D) (ci := 4) (C := RX3) (T := TX3) (N := 18) CX.1 CX.2.1 CX.2.2.1 inX3 CX.2.2.2 hK hP q0 he rfl 5 (by decide) (CX.2.2.1 (.fieldLink RX3 27 "BuskPitches$State" "limits" "[F") (lw_at 116 (by decide +kernel))) (fun _ h9 => h9) hv hdg kk
theorem gf_RX3_31 {fs : List Value} {v : Value} (CX : Cx p s m c args cc RX3) (hK : va_K D vwCl (tyA cy) s) (hP : va_P D vwCl ws H) (q0 : Nat) (he : ws[q0]? = some (a, .inr (4, fs))) (hv : fs[6]? = some v) (hdg : decode cc pc = .ok (.getfield 31, 3)) (kk : W p l e R s m args below meth c H locs cells slots Q (F0 m (pc + 3) ls (v :: rest))) : W p l e R s m args below meth c H locs cells slots Q (F0 m pc ls (.ref a :: rest)) :=
  va_get (D := D) (ci := 4) (C := RX3) (T := TX3) (N := 18) CX.1 CX.2.1 CX.2.2.1 inX3 CX.2.2.2 hK hP q0 he rfl 6 (by decide) (CX.2.2.1 (.fieldLink RX3 31 "BuskPitches$State" "complaints" "[I") (lw_at 118 (by decide +kernel))) (fun _ h9 => h9) hv hdg kk
theorem gf_RX3_35 {fs : List Value} {v : Value} (CX : Cx p s m c args cc RX3) (hK : va_K D vwCl (tyA cy) s) (hP : va_P D vwCl ws H) (q0 : Nat) (he : ws[q0]? = some (a, .inr (4, fs))) (hv : fs[7]? = some v) (hdg : decode cc pc = .ok (.getfield 35, 3)) (kk : W p l e R s m args below meth c H locs cells slots Q (F0 m (pc + 3) ls (v :: rest))) : W p l e R s m args below meth c H locs cells slots Q (F0 m pc ls (.ref a :: rest)) :=
  va_get (D := D) (ci := 4) (C := RX3) (T := TX3) (N := 18) CX.1 CX.2.1 CX.2.2.1 inX3 CX.2.2.2 hK hP q0 he rfl 7 (by decide) (CX.2.2.1 (.fieldLink RX3 35 "BuskPitches$State" "complaintsSoFar" "[I") (lw_at 120 (by decide +kernel))) (fun _ h9 => h9) hv hdg kk
theorem gf_RX3_38 {fs : List Value} {v : Value} (CX : Cx p s m c args cc RX3) (hK : va_K D vwCl (tyA cy) s) (hP : va_P D vwCl ws H) (q0 : Nat) (he : ws[q0]? = some (a, .inr (4, fs))) (hv : fs[8]? = some v) (hdg : decode cc pc = .ok (.getfield 38, 3)) (kk : W p l e R s m args below meth c H locs cells slots Q (F0 m (pc + 3) ls (v :: rest))) : W p l e R s m args below meth c H locs cells slots Q (F0 m pc ls (.ref a :: rest)) :=
  va_get (D := D) (ci := 4) (C := RX3) (T := TX3) (N := 18) CX.1 CX.2.1 CX.2.2.1 inX3 CX.2.2.2 hK hP q0 he rfl 8 (by decide) (CX.2.2.1 (.fieldLink RX3 38 "BuskPitches$State" "kinds" "[I") (lw_at 122 (by decide +kernel))) (fun _ h9 => h9) hv hdg kk
theorem gf_RX3_41 {fs : List Value} {v : Value} (CX : Cx p s m c args cc RX3) (hK : va_K D vwCl (tyA cy) s) (hP : va_P D vwCl ws H) (q0 : Nat) (he : ws[q0]? = some (a, .inr (4, fs))) (hv : fs[9]? = some v) (hdg : decode cc pc = .ok (.getfield 41, 3)) (kk : W p l e R s m args below meth c H locs cells slots Q (F0 m (pc + 3) ls (v :: rest))) : W p l e R s m args below meth c H locs cells slots Q (F0 m pc ls (.ref a :: rest)) :=
  va_get (D := D) (ci := 4) (C := RX3) (T := TX3) (N := 18) CX.1 CX.2.1 CX.2.2.1 inX3 CX.2.2.2 hK hP q0 he rfl 9 (by decide) (CX.2.2.1 (.fieldLink RX3 41 "BuskPitches$State" "loudnesses" "[I") (lw_at 124 (by decide +kernel))) (fun _ h9 => h9) hv hdg kk
theorem gf_RX3_44 {fs : List Value} {v : Value} (CX : Cx p s m c args cc RX3) (hK : va_K D vwCl (tyA cy) s) (hP : va_P D vwCl ws H) (q0 : Nat) (he : ws[q0]? = some (a, .inr (4, fs))) (hv : fs[10]? = some v) (hdg : decode cc pc = .ok (.getfield 44, 3)) (kk : W p l e R s m args below meth c H locs cells slots Q (F0 m (pc + 3) ls (v :: rest))) : W p l e R s m args below meth c H locs cells slots Q (F0 m pc ls (.ref a :: rest)) :=
  va_get (D := D) (ci := 4) (C := RX3) (T := TX3) (N := 18) CX.1 CX.2.1 CX.2.2.1 inX3 CX.2.2.2 hK hP q0 he rfl 10 (by decide) (CX.2.2.1 (.fieldLink RX3 44 "BuskPitches$State" "pitches" "[I") (lw_at 126 (by decide +kernel))) (fun _ h9 => h9) hv hdg kk
theorem gf_RX3_47 {fs : List Value} {v : Value} (CX : Cx p s m c args cc RX3) (hK : va_K D vwCl (tyA cy) s) (hP : va_P D vwCl ws H) (q0 : Nat) (he : ws[q0]? = some (a, .inr (4, fs))) (hv : fs[11]? = some v) (hdg : decode cc pc = .ok (.getfield 47, 3)) (kk : W p l e R s m args below meth c H locs cells slots Q (F0 m (pc + 3) ls (v :: rest))) : W p l e R s m args below meth c H locs cells slots Q (F0 m pc ls (.ref a :: rest)) :=
  va_get (D := D) (ci := 4) (C := RX3) (T := TX3) (N := 18) CX.1 CX.2.1 CX.2.2.1 inX3 CX.2.2.2 hK hP q0 he rfl 11 (by decide) (CX.2.2.1 (.fieldLink RX3 47 "BuskPitches$State" "places" "[I") (lw_at 128 (by decide +kernel))) (fun _ h9 => h9) hv hdg kk
theorem gf_RX3_50 {fs : List Value} {v : Value} (CX : Cx p s m c args cc RX3) (hK : va_K D vwCl (tyA cy) s) (hP : va_P D vwCl ws H) (q0 : Nat) (he : ws[q0]? = some (a, .inr (4, fs))) (hv : fs[12]? = some v) (hdg : decode cc pc = .ok (.getfield 50, 3)) (kk : W p l e R s m args below meth c H locs cells slots Q (F0 m (pc + 3) ls (v :: rest))) : W p l e R s m args below meth c H locs cells slots Q (F0 m pc ls (.ref a :: rest)) :=
  va_get (D := D) (ci := 4) (C := RX3) (T := TX3) (N := 18) CX.1 CX.2.1 CX.2.2.1 inX3 CX.2.2.2 hK hP q0 he rfl 12 (by decide) (CX.2.2.1 (.fieldLink RX3 50 "BuskPitches$State" "cases" "[I") (lw_at 130 (by decide +kernel))) (fun _ h9 => h9) hv hdg kk
theorem gf_RX3_53 {fs : List Value} {v : Value} (CX : Cx p s m c args cc RX3) (hK : va_K D vwCl (tyA cy) s) (hP : va_P D vwCl ws H) (q0 : Nat) (he : ws[q0]? = some (a, .inr (4, fs))) (hv : fs[13]? = some v) (hdg : decode cc pc = .ok (.getfield 53, 3)) (kk : W p l e R s m args below meth c H locs cells slots Q (F0 m (pc + 3) ls (v :: rest))) : W p l e R s m args below meth c H locs cells slots Q (F0 m pc ls (.ref a :: rest)) :=
  va_get (D := D) (ci := 4) (C := RX3) (T := TX3) (N := 18) CX.1 CX.2.1 CX.2.2.1 inX3 CX.2.2.2 hK hP q0 he rfl 13 (by decide) (CX.2.2.1 (.fieldLink RX3 53 "BuskPitches$State" "hoursPlayed" "[I") (lw_at 132 (by decide +kernel))) (fun _ h9 => h9) hv hdg kk
theorem gf_RX3_56 {fs : List Value} {v : Value} (CX : Cx p s m c args cc RX3) (hK : va_K D vwCl (tyA cy) s) (hP : va_P D vwCl ws H) (q0 : Nat) (he : ws[q0]? = some (a, .inr (4, fs))) (hv : fs[14]? = some v) (hdg : decode cc pc = .ok (.getfield 56, 3)) (kk : W p l e R s m args below meth c H locs cells slots Q (F0 m (pc + 3) ls (v :: rest))) : W p l e R s m args below meth c H locs cells slots Q (F0 m pc ls (.ref a :: rest)) :=
  va_get (D := D) (ci := 4) (C := RX3) (T := TX3) (N := 18) CX.1 CX.2.1 CX.2.2.1 inX3 CX.2.2.2 hK hP q0 he rfl 14 (by decide) (CX.2.2.1 (.fieldLink RX3 56 "BuskPitches$State" "newStrings" "[I") (lw_at 134 (by decide +kernel))) (fun _ h9 => h9) hv hdg kk
theorem gf_RX3_59 {fs : List Value} {v : Value} (CX : Cx p s m c args cc RX3) (hK : va_K D vwCl (tyA cy) s) (hP : va_P D vwCl ws H) (q0 : Nat) (he : ws[q0]? = some (a, .inr (4, fs))) (hv : fs[15]? = some v) (hdg : decode cc pc = .ok (.getfield 59, 3)) (kk : W p l e R s m args below meth c H locs cells slots Q (F0 m (pc + 3) ls (v :: rest))) : W p l e R s m args below meth c H locs cells slots Q (F0 m pc ls (.ref a :: rest)) :=
  va_get (D := D) (ci := 4) (C := RX3) (T := TX3) (N := 18) CX.1 CX.2.1 CX.2.2.1 inX3 CX.2.2.2 hK hP q0 he rfl 15 (by decide) (CX.2.2.1 (.fieldLink RX3 59 "BuskPitches$State" "hats" "[F") (lw_at 136 (by decide +kernel))) (fun _ h9 => h9) hv hdg kk
theorem gf_RX3_62 {fs : List Value} {v : Value} (CX : Cx p s m c args cc RX3) (hK : va_K D vwCl (tyA cy) s) (hP : va_P D vwCl ws H) (q0 : Nat) (he : ws[q0]? = some (a, .inr (4, fs))) (hv : fs[16]? = some v) (hdg : decode cc pc = .ok (.getfield 62, 3)) (kk : W p l e R s m args below meth c H locs cells slots Q (F0 m (pc + 3) ls (v :: rest))) : W p l e R s m args below meth c H locs cells slots Q (F0 m pc ls (.ref a :: rest)) :=
  va_get (D := D) (ci := 4) (C := RX3) (T := TX3) (N := 18) CX.1 CX.2.1 CX.2.2.1 inX3 CX.2.2.2 hK hP q0 he rfl 16 (by decide) (CX.2.2.1 (.fieldLink RX3 62 "BuskPitches$State" "wears" "[F") (lw_at 138 (by decide +kernel))) (fun _ h9 => h9) hv hdg kk
theorem lk_RX3_84 : lkN yX4_isPitch cX4_isPitch 1 (some .boolean) 1 [260, 63, 261] = true := by decide +kernel
theorem lk_RX3_88 : lkV RX3 88 yX3_hasBusker cX3_hasBusker 2 (some .boolean) 1 [303, 304, 305, 64, 306] = true := by decide +kernel
theorem lk_RX3_91 : lkV RX3 91 yX3_isSnapped cX3_isSnapped 2 (some .boolean) 1 [817, 561, 562, 64, 563] = true := by decide +kernel
theorem lk_RX3_94 : lkV RX3 94 yX3_countWaiting cX3_countWaiting 6 (some .int) 0 [568, 308, 309, 64, 310] = true := by decide +kernel
theorem lk_RX3_98 : lkV RX3 98 yX3_waiterAt cX3_waiterAt 3 (some .int) 1 [584, 585, 586, 64, 587] = true := by decide +kernel
theorem lk_RX3_102 : lkV RX3 102 yX3_playerOn cX3_playerOn 3 (some .int) 1 [255, 256, 257, 64, 258] = true := by decide +kernel
theorem lk_RX3_105 : lkV RX3 105 yX3_caseAt cX3_caseAt 4 (some .int) 2 [750, 751, 752, 64, 753] = true := by decide +kernel
theorem lk_RX3_109 : lkV RX3 109 yX3_freePlaceOn cX3_freePlaceOn 3 (some .int) 1 [758, 747, 748, 64, 749] = true := by decide +kernel
theorem lk_RX3_115 : lkV RX3 115 yX3_noiseOfBusker cX3_noiseOfBusker 3 (some .float) 1 [262, 263, 264, 64, 265] = true := by decide +kernel
theorem lk_RX3_120 : lkV RX3 120 yX3_ownNoiseOn cX3_ownNoiseOn 3 (some .float) 1 [251, 252, 253, 64, 254] = true := by decide +kernel
theorem lk_RX3_123 : lkV RX3 123 yX3_noiseAround cX3_noiseAround 3 (some .float) 2 [269, 271, 0, 64, 272] = true := by decide +kernel
theorem gf_RX3_65 {fs : List Value} {v : Value} (CX : Cx p s m c args cc RX3) (hK : va_K D vwCl (tyA cy) s) (hP : va_P D vwCl ws H) (q0 : Nat) (he : ws[q0]? = some (a, .inr (4, fs))) (hv : fs[17]? = some v) (hdg : decode cc pc = .ok (.getfield 65, 3)) (kk : W p l e R s m args below meth c H locs cells slots Q (F0 m (pc + 3) ls (v :: rest))) : W p l e R s m args below meth c H locs cells slots Q (F0 m pc ls (.ref a :: rest)) :=
  va_get (D := D) (ci := 4) (C := RX3) (T := TX3) (N := 18) CX.1 CX.2.1 CX.2.2.1 inX3 CX.2.2.2 hK hP q0 he rfl 17 (by decide) (CX.2.2.1 (.fieldLink RX3 65 "BuskPitches$State" "row" "[F") (lw_at 140 (by decide +kernel))) (fun _ h9 => h9) hv hdg kk
theorem lk_RX3_69 : lkS RX3 69 yJ7_fill_e525d cJ7_fill_e525d 4 none 2 [100, 101, 65, 102] = true := by decide +kernel
theorem lk_RX3_127 : lkV RX3 127 yX3_noiseOf cX3_noiseOf 3 (some .float) 2 [686, 672, 673, 64, 674] = true := by decide +kernel
theorem lk_RX3_132 : lkV RX3 132 yX3_wearOfHour cX3_wearOfHour 2 (some .float) 1 [715, 717, 12, 64, 718] = true := by decide +kernel
theorem lk_RX3_135 : lkV RX3 135 yX3_layRow cX3_layRow 2 none 0 [806, 287, 288, 64, 289] = true := by decide +kernel
theorem lk_RX3_138 : lkV RX3 138 yX3_playHour cX3_playHour 5 (some .boolean) 2 [807, 809, 16, 64, 810] = true := by decide +kernel
theorem lk_RX3_142 : lkV RX3 142 yX3_noiseByRow cX3_noiseByRow 2 (some .float) 1 [811, 291, 292, 64, 293] = true := by decide +kernel
theorem lk_RX3_145 : lkV RX3 145 yX3_takings cX3_takings 3 (some .float) 2 [812, 814, 17, 64, 815] = true := by decide +kernel
theorem gf_RX2_15 {fs : List Value} {v : Value} (CX : Cx p s m c args cc RX2) (hK : va_K D vwCl (tyA cy) s) (hP : va_P D vwCl ws H) (q0 : Nat) (he : ws[q0]? = some (a, .inr (3, fs))) (hv : fs[1]? = some v) (hdg : decode cc pc = .ok (.getfield 15, 3)) (kk : W p l e R s m args below meth c H locs cells slots Q (F0 m (pc + 3) ls (v :: rest))) : W p l e R s m args below meth c H locs cells slots Q (F0 m pc ls (.ref a :: rest)) :=
  va_get (D := D) (ci := 3) (C := RX2) (T := TX2) (N := 2) CX.1 CX.2.1 CX.2.2.1 inX2 CX.2.2.2 hK hP q0 he rfl 1 (by decide) (CX.2.2.1 (.fieldLink RX2 15 "BuskPitches$Input" "length" "I") (lw_at 207 (by decide +kernel))) (fun _ h9 => h9) hv hdg kk
theorem gf_RX2_9 {fs : List Value} {v : Value} (CX : Cx p s m c args cc RX2) (hK : va_K D vwCl (tyA cy) s) (hP : va_P D vwCl ws H) (q0 : Nat) (he : ws[q0]? = some (a, .inr (3, fs))) (hv : fs[0]? = some v) (hdg : decode cc pc = .ok (.getfield 9, 3)) (kk : W p l e R s m args below meth c H locs cells slots Q (F0 m (pc + 3) ls (v :: rest))) : W p l e R s m args below meth c H locs cells slots Q (F0 m pc ls (.ref a :: rest)) :=
  va_get (D := D) (ci := 3) (C := RX2) (T := TX2) (N := 2) CX.1 CX.2.1 CX.2.2.1 inX2 CX.2.2.2 hK hP q0 he rfl 0 (by decide) (CX.2.2.1 (.fieldLink RX2 9 "BuskPitches$Input" "signs" "[C") (lw_at 206 (by decide +kernel))) (fun _ h9 => h9) hv hdg kk
theorem pf_RX2_15 {fs : List Value} {x : Int32} (CX : Cx p s m c args cc RX2) (hK : va_K D vwCl (tyA cy) s) (hP : va_P D vwCl ws H) (hD : va_D A ws) (hS : va_S A H0 H locs) (q0 : Nat) (he : ws[q0]? = some (a, .inr (3, fs))) (hdg : decode cc pc = .ok (.putfield 15, 3)) (hlen : 1 < fs.length) (kk : ∀ (H1 : Heap) (locs1 : List Loc), va_P D vwCl (ws.set q0 (a, .inr (3, fs.set 1 (.int x)))) H1 → va_D A (ws.set q0 (a, .inr (3, fs.set 1 (.int x)))) → va_S A H0 H1 locs1 → W p l e R s m args below meth c H1 locs1 cells slots Q (F0 m (pc + 3) ls rest)) : W p l e R s m args below meth c H locs cells slots Q (F0 m pc ls (.int x :: .ref a :: rest)) :=
  va_put (D := D) (ci := 3) (ty := .int) (C := RX2) (T := TX2) (N := 2) CX.1 CX.2.1 CX.2.2.1 inX2 tyX2 tyX2_ok nmX2 CX.2.2.2 hK hP hD hS q0 he rfl 1 (by decide) (CX.2.2.1 (.fieldLink RX2 15 "BuskPitches$Input" "length" "I") (lw_at 207 (by decide +kernel))) (fun _ h9 => h9) rfl (by decide +kernel) rfl rfl hlen hdg kk
theorem lk_RX2_19 : lkV RX2 19 yX2_signAt cX2_signAt 2 (some .char) 1 [881, 882, 883, 67, 884] = true := by decide +kernel
theorem lk_RX2_23 : lkS RX2 23 yX2_stageAfter cX2_stageAfter 3 (some .int) 2 [885, 886, 67, 887] = true := by decide +kernel
theorem lk_RX2_27 : lkS RX2 27 yX2_stageAfterLetter cX2_stageAfterLetter 1 (some .int) 1 [888, 889, 67, 890] = true := by decide +kernel
theorem lk_RX2_31 : lkS RX2 31 yX2_stageAfterEnd cX2_stageAfterEnd 1 (some .int) 1 [891, 892, 67, 893] = true := by decide +kernel
theorem lk_RJxf58ca_59 : lkS RJxf58ca 59 yJxf58ca_isNaN_12338 cJxf58ca_isNaN_12338 1 (some .boolean) 1 [1008, 1009, 70, 1010] = true := by decide +kernel
theorem lk_RJxe99ae_122 : lkS RJxe99ae 122 yJxe99ae_isNaN_b9ae7 cJxe99ae_isNaN_b9ae7 2 (some .boolean) 1 [1417, 1418, 84, 1419] = true := by decide +kernel
theorem gf_RX5_53 {fs : List Value} {v : Value} (CX : Cx p s m c args cc RX5) (hK : va_K D vwCl (tyA cy) s) (hP : va_P D vwCl ws H) (q0 : Nat) (he : ws[q0]? = some (a, .inr (6, fs))) (hv : fs[0]? = some v) (hdg : decode cc pc = .ok (.getfield 53, 3)) (kk : W p l e R s m args below meth c H locs cells slots Q (F0 m (pc + 3) ls (v :: rest))) : W p l e R s m args below meth c H locs cells slots Q (F0 m pc ls (.ref a :: rest)) :=
  va_get (D := D) (ci := 6) (C := RX5) (T := TX5) (N := 21) CX.1 CX.2.1 CX.2.2.1 inX5 CX.2.2.2 hK hP q0 he rfl 0 (by decide) (CX.2.2.1 (.fieldLink RX5 53 "BuskPitchesModel" "thrown" "I") (lw_at 1019 (by decide +kernel))) (fun _ h9 => h9) hv hdg kk
theorem pf_RX5_53 {fs : List Value} {x : Int32} (CX : Cx p s m c args cc RX5) (hK : va_K D vwCl (tyA cy) s) (hP : va_P D vwCl ws H) (hD : va_D A ws) (hS : va_S A H0 H locs) (q0 : Nat) (he : ws[q0]? = some (a, .inr (6, fs))) (hdg : decode cc pc = .ok (.putfield 53, 3)) (hlen : 0 < fs.length) (kk : ∀ (H1 : Heap) (locs1 : List Loc), va_P D vwCl (ws.set q0 (a, .inr (6, fs.set 0 (.int x)))) H1 → va_D A (ws.set q0 (a, .inr (6, fs.set 0 (.int x)))) → va_S A H0 H1 locs1 → W p l e R s m args below meth c H1 locs1 cells slots Q (F0 m (pc + 3) ls rest)) : W p l e R s m args below meth c H locs cells slots Q (F0 m pc ls (.int x :: .ref a :: rest)) :=
  va_put (D := D) (ci := 6) (ty := .int) (C := RX5) (T := TX5) (N := 21) CX.1 CX.2.1 CX.2.2.1 inX5 tyX5 tyX5_ok nmX5 CX.2.2.2 hK hP hD hS q0 he rfl 0 (by decide) (CX.2.2.1 (.fieldLink RX5 53 "BuskPitchesModel" "thrown" "I") (lw_at 1019 (by decide +kernel))) (fun _ h9 => h9) rfl (by decide +kernel) rfl rfl hlen hdg kk
theorem pf_RX5_56 {fs : List Value} {x : Int32} (CX : Cx p s m c args cc RX5) (hK : va_K D vwCl (tyA cy) s) (hP : va_P D vwCl ws H) (hD : va_D A ws) (hS : va_S A H0 H locs) (q0 : Nat) (he : ws[q0]? = some (a, .inr (6, fs))) (hdg : decode cc pc = .ok (.putfield 56, 3)) (hlen : 9 < fs.length) (kk : ∀ (H1 : Heap) (locs1 : List Loc), va_P D vwCl (ws.set q0 (a, .inr (6, fs.set 9 (.int x)))) H1 → va_D A (ws.set q0 (a, .inr (6, fs.set 9 (.int x)))) → va_S A H0 H1 locs1 → W p l e R s m args below meth c H1 locs1 cells slots Q (F0 m (pc + 3) ls rest)) : W p l e R s m args below meth c H locs cells slots Q (F0 m pc ls (.int x :: .ref a :: rest)) :=
  va_put (D := D) (ci := 6) (ty := .int) (C := RX5) (T := TX5) (N := 21) CX.1 CX.2.1 CX.2.2.1 inX5 tyX5 tyX5_ok nmX5 CX.2.2.2 hK hP hD hS q0 he rfl 9 (by decide) (CX.2.2.1 (.fieldLink RX5 56 "BuskPitchesModel" "reason" "I") (lw_at 1028 (by decide +kernel))) (fun _ h9 => h9) rfl (by decide +kernel) rfl rfl hlen hdg kk
theorem pf_RX5_59 {fs : List Value} {x : Int32} (CX : Cx p s m c args cc RX5) (hK : va_K D vwCl (tyA cy) s) (hP : va_P D vwCl ws H) (hD : va_D A ws) (hS : va_S A H0 H locs) (q0 : Nat) (he : ws[q0]? = some (a, .inr (6, fs))) (hdg : decode cc pc = .ok (.putfield 59, 3)) (hlen : 10 < fs.length) (kk : ∀ (H1 : Heap) (locs1 : List Loc), va_P D vwCl (ws.set q0 (a, .inr (6, fs.set 10 (.int x)))) H1 → va_D A (ws.set q0 (a, .inr (6, fs.set 10 (.int x)))) → va_S A H0 H1 locs1 → W p l e R s m args below meth c H1 locs1 cells slots Q (F0 m (pc + 3) ls rest)) : W p l e R s m args below meth c H locs cells slots Q (F0 m pc ls (.int x :: .ref a :: rest)) :=
  va_put (D := D) (ci := 6) (ty := .int) (C := RX5) (T := TX5) (N := 21) CX.1 CX.2.1 CX.2.2.1 inX5 tyX5 tyX5_ok nmX5 CX.2.2.2 hK hP hD hS q0 he rfl 10 (by decide) (CX.2.2.1 (.fieldLink RX5 59 "BuskPitchesModel" "detail" "I") (lw_at 1029 (by decide +kernel))) (fun _ h9 => h9) rfl (by decide +kernel) rfl rfl hlen hdg kk
theorem gf_RX5_62 {fs : List Value} {v : Value} (CX : Cx p s m c args cc RX5) (hK : va_K D vwCl (tyA cy) s) (hP : va_P D vwCl ws H) (q0 : Nat) (he : ws[q0]? = some (a, .inr (6, fs))) (hv : fs[8]? = some v) (hdg : decode cc pc = .ok (.getfield 62, 3)) (kk : W p l e R s m args below meth c H locs cells slots Q (F0 m (pc + 3) ls (v :: rest))) : W p l e R s m args below meth c H locs cells slots Q (F0 m pc ls (.ref a :: rest)) :=
  va_get (D := D) (ci := 6) (C := RX5) (T := TX5) (N := 21) CX.1 CX.2.1 CX.2.2.1 inX5 CX.2.2.2 hK hP q0 he rfl 8 (by decide) (CX.2.2.1 (.fieldLink RX5 62 "BuskPitchesModel" "kept" "I") (lw_at 1027 (by decide +kernel))) (fun _ h9 => h9) hv hdg kk
theorem pf_RX5_62 {fs : List Value} {x : Int32} (CX : Cx p s m c args cc RX5) (hK : va_K D vwCl (tyA cy) s) (hP : va_P D vwCl ws H) (hD : va_D A ws) (hS : va_S A H0 H locs) (q0 : Nat) (he : ws[q0]? = some (a, .inr (6, fs))) (hdg : decode cc pc = .ok (.putfield 62, 3)) (hlen : 8 < fs.length) (kk : ∀ (H1 : Heap) (locs1 : List Loc), va_P D vwCl (ws.set q0 (a, .inr (6, fs.set 8 (.int x)))) H1 → va_D A (ws.set q0 (a, .inr (6, fs.set 8 (.int x)))) → va_S A H0 H1 locs1 → W p l e R s m args below meth c H1 locs1 cells slots Q (F0 m (pc + 3) ls rest)) : W p l e R s m args below meth c H locs cells slots Q (F0 m pc ls (.int x :: .ref a :: rest)) :=
  va_put (D := D) (ci := 6) (ty := .int) (C := RX5) (T := TX5) (N := 21) CX.1 CX.2.1 CX.2.2.1 inX5 tyX5 tyX5_ok nmX5 CX.2.2.2 hK hP hD hS q0 he rfl 8 (by decide) (CX.2.2.1 (.fieldLink RX5 62 "BuskPitchesModel" "kept" "I") (lw_at 1027 (by decide +kernel))) (fun _ h9 => h9) rfl (by decide +kernel) rfl rfl hlen hdg kk
theorem gf_RX5_24 {fs : List Value} {v : Value} (CX : Cx p s m c args cc RX5) (hK : va_K D vwCl (tyA cy) s) (hP : va_P D vwCl ws H) (q0 : Nat) (he : ws[q0]? = some (a, .inr (6, fs))) (hv : fs[5]? = some v) (hdg : decode cc pc = .ok (.getfield 24, 3)) (kk : W p l e R s m args below meth c H locs cells slots Q (F0 m (pc + 3) ls (v :: rest))) : W p l e R s m args below meth c H locs cells slots Q (F0 m pc ls (.ref a :: rest)) :=
  va_get (D := D) (ci := 6) (C := RX5) (T := TX5) (N := 21) CX.1 CX.2.1 CX.2.2.1 inX5 CX.2.2.2 hK hP q0 he rfl 5 (by decide) (CX.2.2.1 (.fieldLink RX5 24 "BuskPitchesModel" "history" "[[I") (lw_at 1024 (by decide +kernel))) (fun _ h9 => h9) hv hdg kk
theorem lk_RX5_65 : lkS RX5 65 yX5_copyRow cX5_copyRow 3 none 2 [1106, 1107, 68, 1108] = true := by decide +kernel
theorem gf_RX5_69 {fs : List Value} {v : Value} (CX : Cx p s m c args cc RX5) (hK : va_K D vwCl (tyA cy) s) (hP : va_P D vwCl ws H) (q0 : Nat) (he : ws[q0]? = some (a, .inr (6, fs))) (hv : fs[12]? = some v) (hdg : decode cc pc = .ok (.getfield 69, 3)) (kk : W p l e R s m args below meth c H locs cells slots Q (F0 m (pc + 3) ls (v :: rest))) : W p l e R s m args below meth c H locs cells slots Q (F0 m pc ls (.ref a :: rest)) :=
  va_get (D := D) (ci := 6) (C := RX5) (T := TX5) (N := 21) CX.1 CX.2.1 CX.2.2.1 inX5 CX.2.2.2 hK hP q0 he rfl 12 (by decide) (CX.2.2.1 (.fieldLink RX5 69 "BuskPitchesModel" "isInText" "Z") (lw_at 1031 (by decide +kernel))) (fun _ h9 => h9) hv hdg kk
theorem gf_RX5_9 {fs : List Value} {v : Value} (CX : Cx p s m c args cc RX5) (hK : va_K D vwCl (tyA cy) s) (hP : va_P D vwCl ws H) (q0 : Nat) (he : ws[q0]? = some (a, .inr (6, fs))) (hv : fs[1]? = some v) (hdg : decode cc pc = .ok (.getfield 9, 3)) (kk : W p l e R s m args below meth c H locs cells slots Q (F0 m (pc + 3) ls (v :: rest))) : W p l e R s m args below meth c H locs cells slots Q (F0 m pc ls (.ref a :: rest)) :=
  va_get (D := D) (ci := 6) (C := RX5) (T := TX5) (N := 21) CX.1 CX.2.1 CX.2.2.1 inX5 CX.2.2.2 hK hP q0 he rfl 1 (by decide) (CX.2.2.1 (.fieldLink RX5 9 "BuskPitchesModel" "now" "[I") (lw_at 1020 (by decide +kernel))) (fun _ h9 => h9) hv hdg kk
theorem lk_RX5_73 : lkV RX5 73 yX5_remember cX5_remember 3 none 1 [1102, 1104, 26, 68, 1105] = true := by decide +kernel
theorem lk_RX5_77 : lkS RX5 77 yX5_isBetween cX5_isBetween 3 (some .boolean) 3 [1091, 1092, 68, 1093] = true := by decide +kernel
theorem lk_RX5_81 : lkV RX5 81 yX5_fails cX5_fails 3 (some .boolean) 2 [1094, 1096, 24, 68, 1097] = true := by decide +kernel
theorem lk_RX5_85 : lkV RX5 85 yX5_change cX5_change 1 none 0 [1098, 1100, 25, 68, 1101] = true := by decide +kernel
theorem lk_RX5_88 : lkV RX5 88 yX5_ofPitch cX5_ofPitch 3 (some .int) 2 [1116, 1118, 27, 68, 1119] = true := by decide +kernel
theorem lk_RX5_96 : lkS RX5 96 yX5_isPitch cX5_isPitch 1 (some .boolean) 1 [1113, 1114, 68, 1115] = true := by decide +kernel
theorem lk_RX5_43 : lkS RX5 43 yJxf58ca_floatToIntBits_5c35a cJxf58ca_floatToIntBits_5c35a 1 (some .int) 1 [1005, 1006, 70, 1007] = true := by decide +kernel
theorem lk_RX5_49 : lkV RX5 49 yX5_putPitch cX5_putPitch 4 none 3 [1015, 1017, 23, 68, 1018] = true := by decide +kernel
theorem lk_RX5_100 : lkV RX5 100 yX5_of cX5_of 3 (some .int) 2 [1144, 1146, 32, 68, 1147] = true := by decide +kernel
theorem lk_RX5_103 : lkV RX5 103 yX5_put cX5_put 4 none 3 [1128, 1130, 29, 68, 1131] = true := by decide +kernel
theorem lk_RX5_106 : lkV RX5 106 yX5_refuse cX5_refuse 4 (some .boolean) 3 [1124, 1126, 28, 68, 1127] = true := by decide +kernel
theorem lk_RX5_110 : lkV RX5 110 yX5_putFloat cX5_putFloat 4 none 3 [1132, 1134, 30, 68, 1135] = true := by decide +kernel
theorem lk_RX5_114 : lkV RX5 114 yX5_isBusker cX5_isBusker 2 (some .boolean) 1 [1140, 1142, 31, 68, 1143] = true := by decide +kernel
theorem lk_RX5_117 : lkV RX5 117 yX5_placeInLine cX5_placeInLine 3 (some .int) 1 [1148, 1150, 33, 68, 1151] = true := by decide +kernel
theorem lk_RX5_121 : lkV RX5 121 yX5_floatOf cX5_floatOf 3 (some .float) 2 [1156, 1158, 34, 68, 1159] = true := by decide +kernel
theorem lk_RX5_125 : lkV RX5 125 yX5_isSnapped cX5_isSnapped 2 (some .boolean) 1 [1179, 1181, 36, 68, 1182] = true := by decide +kernel
theorem lk_RX5_128 : lkV RX5 128 yX5_isJoinRefused cX5_isJoinRefused 4 (some .boolean) 1 [1175, 1177, 35, 68, 1178] = true := by decide +kernel
theorem lk_RX5_131 : lkV RX5 131 yX5_isDrawRefused cX5_isDrawRefused 3 (some .boolean) 1 [1187, 1189, 37, 68, 1190] = true := by decide +kernel
theorem lk_RX5_134 : lkV RX5 134 yX5_goHome cX5_goHome 2 none 1 [1199, 1201, 38, 68, 1202] = true := by decide +kernel
theorem lk_RX5_138 : lkV RX5 138 yX5_isSwapRefused cX5_isSwapRefused 3 (some .boolean) 2 [1207, 1209, 39, 68, 1210] = true := by decide +kernel
theorem lk_RX5_145 : lkV RX5 145 yX5_ownOf cX5_ownOf 3 (some .float) 1 [1223, 1225, 42, 68, 1226] = true := by decide +kernel
theorem lk_RX5_149 : lkV RX5 149 yX5_own cX5_own 2 (some .float) 1 [1219, 1221, 41, 68, 1222] = true := by decide +kernel
theorem lk_RX5_152 : lkV RX5 152 yX5_noiseBy cX5_noiseBy 3 (some .float) 2 [1230, 1232, 43, 68, 1233] = true := by decide +kernel
theorem lk_RX5_156 : lkV RX5 156 yX5_noiseAt cX5_noiseAt 2 (some .float) 1 [1215, 1217, 40, 68, 1218] = true := by decide +kernel
theorem gf_RX5_31 {fs : List Value} {v : Value} (CX : Cx p s m c args cc RX5) (hK : va_K D vwCl (tyA cy) s) (hP : va_P D vwCl ws H) (q0 : Nat) (he : ws[q0]? = some (a, .inr (6, fs))) (hv : fs[7]? = some v) (hdg : decode cc pc = .ok (.getfield 31, 3)) (kk : W p l e R s m args below meth c H locs cells slots Q (F0 m (pc + 3) ls (v :: rest))) : W p l e R s m args below meth c H locs cells slots Q (F0 m pc ls (.ref a :: rest)) :=
  va_get (D := D) (ci := 6) (C := RX5) (T := TX5) (N := 21) CX.1 CX.2.1 CX.2.2.1 inX5 CX.2.2.2 hK hP q0 he rfl 7 (by decide) (CX.2.2.1 (.fieldLink RX5 31 "BuskPitchesModel" "owns" "[F") (lw_at 1026 (by decide +kernel))) (fun _ h9 => h9) hv hdg kk
theorem lk_RX5_159 : lkV RX5 159 yX5_limitOf cX5_limitOf 2 (some .float) 1 [1247, 1249, 44, 68, 1250] = true := by decide +kernel
theorem lk_RX5_163 : lkV RX5 163 yX5_caseOn cX5_caseOn 4 (some .int) 2 [1287, 1289, 47, 68, 1290] = true := by decide +kernel
theorem lk_RX5_166 : lkV RX5 166 yX5_freePlace cX5_freePlace 3 (some .int) 1 [1283, 1285, 46, 68, 1286] = true := by decide +kernel
theorem lk_RX5_169 : lkS RX5 169 yX5_isRack cX5_isRack 1 (some .boolean) 1 [1276, 1277, 68, 1278] = true := by decide +kernel
theorem lk_RX5_172 : lkV RX5 172 yX5_isRackRefused cX5_isRackRefused 3 (some .boolean) 2 [1279, 1281, 45, 68, 1282] = true := by decide +kernel
theorem lk_RX5_175 : lkV RX5 175 yX5_isAhead cX5_isAhead 5 (some .boolean) 2 [1303, 1305, 48, 68, 1306] = true := by decide +kernel
theorem gf_RX5_27 {fs : List Value} {v : Value} (CX : Cx p s m c args cc RX5) (hK : va_K D vwCl (tyA cy) s) (hP : va_P D vwCl ws H) (q0 : Nat) (he : ws[q0]? = some (a, .inr (6, fs))) (hv : fs[6]? = some v) (hdg : decode cc pc = .ok (.getfield 27, 3)) (kk : W p l e R s m args below meth c H locs cells slots Q (F0 m (pc + 3) ls (v :: rest))) : W p l e R s m args below meth c H locs cells slots Q (F0 m pc ls (.ref a :: rest)) :=
  va_get (D := D) (ci := 6) (C := RX5) (T := TX5) (N := 21) CX.1 CX.2.1 CX.2.2.1 inX5 CX.2.2.2 hK hP q0 he rfl 6 (by decide) (CX.2.2.1 (.fieldLink RX5 27 "BuskPitchesModel" "noises" "[F") (lw_at 1025 (by decide +kernel))) (fun _ h9 => h9) hv hdg kk
theorem lk_RX5_179 : lkV RX5 179 yX5_play cX5_play 7 (some .boolean) 2 [1315, 1317, 50, 68, 1318] = true := by decide +kernel
theorem lk_RX5_182 : lkV RX5 182 yX5_goHour cX5_goHour 4 (some .int) 0 [1311, 1313, 49, 68, 1314] = true := by decide +kernel
theorem gf_RX5_16 {fs : List Value} {v : Value} (CX : Cx p s m c args cc RX5) (hK : va_K D vwCl (tyA cy) s) (hP : va_P D vwCl ws H) (q0 : Nat) (he : ws[q0]? = some (a, .inr (6, fs))) (hv : fs[3]? = some v) (hdg : decode cc pc = .ok (.getfield 16, 3)) (kk : W p l e R s m args below meth c H locs cells slots Q (F0 m (pc + 3) ls (v :: rest))) : W p l e R s m args below meth c H locs cells slots Q (F0 m pc ls (.ref a :: rest)) :=
  va_get (D := D) (ci := 6) (C := RX5) (T := TX5) (N := 21) CX.1 CX.2.1 CX.2.2.1 inX5 CX.2.2.2 hK hP q0 he rfl 3 (by decide) (CX.2.2.1 (.fieldLink RX5 16 "BuskPitchesModel" "ahead" "[I") (lw_at 1022 (by decide +kernel))) (fun _ h9 => h9) hv hdg kk
theorem lk_RX5_186 : lkV RX5 186 yX5_playing cX5_playing 3 (some .int) 0 [1328, 1330, 51, 68, 1331] = true := by decide +kernel
theorem gf_RX5_189 {fs : List Value} {v : Value} (CX : Cx p s m c args cc RX5) (hK : va_K D vwCl (tyA cy) s) (hP : va_P D vwCl ws H) (q0 : Nat) (he : ws[q0]? = some (a, .inr (6, fs))) (hv : fs[14]? = some v) (hdg : decode cc pc = .ok (.getfield 189, 3)) (kk : W p l e R s m args below meth c H locs cells slots Q (F0 m (pc + 3) ls (v :: rest))) : W p l e R s m args below meth c H locs cells slots Q (F0 m pc ls (.ref a :: rest)) :=
  va_get (D := D) (ci := 6) (C := RX5) (T := TX5) (N := 21) CX.1 CX.2.1 CX.2.2.1 inX5 CX.2.2.2 hK hP q0 he rfl 14 (by decide) (CX.2.2.1 (.fieldLink RX5 189 "BuskPitchesModel" "length" "I") (lw_at 1033 (by decide +kernel))) (fun _ h9 => h9) hv hdg kk
theorem gf_RX5_34 {fs : List Value} {v : Value} (CX : Cx p s m c args cc RX5) (hK : va_K D vwCl (tyA cy) s) (hP : va_P D vwCl ws H) (q0 : Nat) (he : ws[q0]? = some (a, .inr (6, fs))) (hv : fs[13]? = some v) (hdg : decode cc pc = .ok (.getfield 34, 3)) (kk : W p l e R s m args below meth c H locs cells slots Q (F0 m (pc + 3) ls (v :: rest))) : W p l e R s m args below meth c H locs cells slots Q (F0 m pc ls (.ref a :: rest)) :=
  va_get (D := D) (ci := 6) (C := RX5) (T := TX5) (N := 21) CX.1 CX.2.1 CX.2.2.1 inX5 CX.2.2.2 hK hP q0 he rfl 13 (by decide) (CX.2.2.1 (.fieldLink RX5 34 "BuskPitchesModel" "input" "[C") (lw_at 1032 (by decide +kernel))) (fun _ h9 => h9) hv hdg kk
theorem pf_RX5_189 {fs : List Value} {x : Int32} (CX : Cx p s m c args cc RX5) (hK : va_K D vwCl (tyA cy) s) (hP : va_P D vwCl ws H) (hD : va_D A ws) (hS : va_S A H0 H locs) (q0 : Nat) (he : ws[q0]? = some (a, .inr (6, fs))) (hdg : decode cc pc = .ok (.putfield 189, 3)) (hlen : 14 < fs.length) (kk : ∀ (H1 : Heap) (locs1 : List Loc), va_P D vwCl (ws.set q0 (a, .inr (6, fs.set 14 (.int x)))) H1 → va_D A (ws.set q0 (a, .inr (6, fs.set 14 (.int x)))) → va_S A H0 H1 locs1 → W p l e R s m args below meth c H1 locs1 cells slots Q (F0 m (pc + 3) ls rest)) : W p l e R s m args below meth c H locs cells slots Q (F0 m pc ls (.int x :: .ref a :: rest)) :=
  va_put (D := D) (ci := 6) (ty := .int) (C := RX5) (T := TX5) (N := 21) CX.1 CX.2.1 CX.2.2.1 inX5 tyX5 tyX5_ok nmX5 CX.2.2.2 hK hP hD hS q0 he rfl 14 (by decide) (CX.2.2.1 (.fieldLink RX5 189 "BuskPitchesModel" "length" "I") (lw_at 1033 (by decide +kernel))) (fun _ h9 => h9) rfl (by decide +kernel) rfl rfl hlen hdg kk
theorem gf_RX5_192 {fs : List Value} {v : Value} (CX : Cx p s m c args cc RX5) (hK : va_K D vwCl (tyA cy) s) (hP : va_P D vwCl ws H) (q0 : Nat) (he : ws[q0]? = some (a, .inr (6, fs))) (hv : fs[17]? = some v) (hdg : decode cc pc = .ok (.getfield 192, 3)) (kk : W p l e R s m args below meth c H locs cells slots Q (F0 m (pc + 3) ls (v :: rest))) : W p l e R s m args below meth c H locs cells slots Q (F0 m pc ls (.ref a :: rest)) :=
  va_get (D := D) (ci := 6) (C := RX5) (T := TX5) (N := 21) CX.1 CX.2.1 CX.2.2.1 inX5 CX.2.2.2 hK hP q0 he rfl 17 (by decide) (CX.2.2.1 (.fieldLink RX5 192 "BuskPitchesModel" "isWrong" "Z") (lw_at 1036 (by decide +kernel))) (fun _ h9 => h9) hv hdg kk
theorem gf_RX5_195 {fs : List Value} {v : Value} (CX : Cx p s m c args cc RX5) (hK : va_K D vwCl (tyA cy) s) (hP : va_P D vwCl ws H) (q0 : Nat) (he : ws[q0]? = some (a, .inr (6, fs))) (hv : fs[15]? = some v) (hdg : decode cc pc = .ok (.getfield 195, 3)) (kk : W p l e R s m args below meth c H locs cells slots Q (F0 m (pc + 3) ls (v :: rest))) : W p l e R s m args below meth c H locs cells slots Q (F0 m pc ls (.ref a :: rest)) :=
  va_get (D := D) (ci := 6) (C := RX5) (T := TX5) (N := 21) CX.1 CX.2.1 CX.2.2.1 inX5 CX.2.2.2 hK hP q0 he rfl 15 (by decide) (CX.2.2.1 (.fieldLink RX5 195 "BuskPitchesModel" "at" "I") (lw_at 1034 (by decide +kernel))) (fun _ h9 => h9) hv hdg kk
theorem lk_RX5_198 : lkV RX5 198 yX5_sees cX5_sees 3 (some .boolean) 2 [1359, 1361, 55, 68, 1362] = true := by decide +kernel
theorem pf_RX5_192 {fs : List Value} {x : Int32} (CX : Cx p s m c args cc RX5) (hK : va_K D vwCl (tyA cy) s) (hP : va_P D vwCl ws H) (hD : va_D A ws) (hS : va_S A H0 H locs) (q0 : Nat) (he : ws[q0]? = some (a, .inr (6, fs))) (hn : narrow .boolean (.int x) = .int x) (hfit : fits .boolean (.int x) = true) (hdg : decode cc pc = .ok (.putfield 192, 3)) (hlen : 17 < fs.length) (kk : ∀ (H1 : Heap) (locs1 : List Loc), va_P D vwCl (ws.set q0 (a, .inr (6, fs.set 17 (.int x)))) H1 → va_D A (ws.set q0 (a, .inr (6, fs.set 17 (.int x)))) → va_S A H0 H1 locs1 → W p l e R s m args below meth c H1 locs1 cells slots Q (F0 m (pc + 3) ls rest)) : W p l e R s m args below meth c H locs cells slots Q (F0 m pc ls (.int x :: .ref a :: rest)) :=
  va_put (D := D) (ci := 6) (ty := .boolean) (C := RX5) (T := TX5) (N := 21) CX.1 CX.2.1 CX.2.2.1 inX5 tyX5 tyX5_ok nmX5 CX.2.2.2 hK hP hD hS q0 he rfl 17 (by decide) (CX.2.2.1 (.fieldLink RX5 192 "BuskPitchesModel" "isWrong" "Z") (lw_at 1036 (by decide +kernel))) (fun _ h9 => h9) rfl (by decide +kernel) hn hfit hlen hdg kk
theorem pf_RX5_195 {fs : List Value} {x : Int32} (CX : Cx p s m c args cc RX5) (hK : va_K D vwCl (tyA cy) s) (hP : va_P D vwCl ws H) (hD : va_D A ws) (hS : va_S A H0 H locs) (q0 : Nat) (he : ws[q0]? = some (a, .inr (6, fs))) (hdg : decode cc pc = .ok (.putfield 195, 3)) (hlen : 15 < fs.length) (kk : ∀ (H1 : Heap) (locs1 : List Loc), va_P D vwCl (ws.set q0 (a, .inr (6, fs.set 15 (.int x)))) H1 → va_D A (ws.set q0 (a, .inr (6, fs.set 15 (.int x)))) → va_S A H0 H1 locs1 → W p l e R s m args below meth c H1 locs1 cells slots Q (F0 m (pc + 3) ls rest)) : W p l e R s m args below meth c H locs cells slots Q (F0 m pc ls (.int x :: .ref a :: rest)) :=
  va_put (D := D) (ci := 6) (ty := .int) (C := RX5) (T := TX5) (N := 21) CX.1 CX.2.1 CX.2.2.1 inX5 tyX5 tyX5_ok nmX5 CX.2.2.2 hK hP hD hS q0 he rfl 15 (by decide) (CX.2.2.1 (.fieldLink RX5 195 "BuskPitchesModel" "at" "I") (lw_at 1034 (by decide +kernel))) (fun _ h9 => h9) rfl (by decide +kernel) rfl rfl hlen hdg kk
theorem lk_RX5_202 : lkS RX5 202 yX5_isKind cX5_isKind 1 (some .boolean) 1 [1352, 1353, 68, 1354] = true := by decide +kernel
theorem pf_RX5_206 {fs : List Value} {x : Int32} (CX : Cx p s m c args cc RX5) (hK : va_K D vwCl (tyA cy) s) (hP : va_P D vwCl ws H) (hD : va_D A ws) (hS : va_S A H0 H locs) (q0 : Nat) (he : ws[q0]? = some (a, .inr (6, fs))) (hn : narrow .char (.int x) = .int x) (hfit : fits .char (.int x) = true) (hdg : decode cc pc = .ok (.putfield 206, 3)) (hlen : 18 < fs.length) (kk : ∀ (H1 : Heap) (locs1 : List Loc), va_P D vwCl (ws.set q0 (a, .inr (6, fs.set 18 (.int x)))) H1 → va_D A (ws.set q0 (a, .inr (6, fs.set 18 (.int x)))) → va_S A H0 H1 locs1 → W p l e R s m args below meth c H1 locs1 cells slots Q (F0 m (pc + 3) ls rest)) : W p l e R s m args below meth c H locs cells slots Q (F0 m pc ls (.int x :: .ref a :: rest)) :=
  va_put (D := D) (ci := 6) (ty := .char) (C := RX5) (T := TX5) (N := 21) CX.1 CX.2.1 CX.2.2.1 inX5 tyX5 tyX5_ok nmX5 CX.2.2.2 hK hP hD hS q0 he rfl 18 (by decide) (CX.2.2.1 (.fieldLink RX5 206 "BuskPitchesModel" "command" "C") (lw_at 1037 (by decide +kernel))) (fun _ h9 => h9) rfl (by decide +kernel) hn hfit hlen hdg kk
theorem gf_RX5_206 {fs : List Value} {v : Value} (CX : Cx p s m c args cc RX5) (hK : va_K D vwCl (tyA cy) s) (hP : va_P D vwCl ws H) (q0 : Nat) (he : ws[q0]? = some (a, .inr (6, fs))) (hv : fs[18]? = some v) (hdg : decode cc pc = .ok (.getfield 206, 3)) (kk : W p l e R s m args below meth c H locs cells slots Q (F0 m (pc + 3) ls (v :: rest))) : W p l e R s m args below meth c H locs cells slots Q (F0 m pc ls (.ref a :: rest)) :=
  va_get (D := D) (ci := 6) (C := RX5) (T := TX5) (N := 21) CX.1 CX.2.1 CX.2.2.1 inX5 CX.2.2.2 hK hP q0 he rfl 18 (by decide) (CX.2.2.1 (.fieldLink RX5 206 "BuskPitchesModel" "command" "C") (lw_at 1037 (by decide +kernel))) (fun _ h9 => h9) hv hdg kk
theorem lk_RX5_210 : lkV RX5 210 yX5_readNumber cX5_readNumber 4 (some .int) 1 [1355, 1357, 54, 68, 1358] = true := by decide +kernel
theorem pf_RX5_213 {fs : List Value} {x : Int32} (CX : Cx p s m c args cc RX5) (hK : va_K D vwCl (tyA cy) s) (hP : va_P D vwCl ws H) (hD : va_D A ws) (hS : va_S A H0 H locs) (q0 : Nat) (he : ws[q0]? = some (a, .inr (6, fs))) (hdg : decode cc pc = .ok (.putfield 213, 3)) (hlen : 19 < fs.length) (kk : ∀ (H1 : Heap) (locs1 : List Loc), va_P D vwCl (ws.set q0 (a, .inr (6, fs.set 19 (.int x)))) H1 → va_D A (ws.set q0 (a, .inr (6, fs.set 19 (.int x)))) → va_S A H0 H1 locs1 → W p l e R s m args below meth c H1 locs1 cells slots Q (F0 m (pc + 3) ls rest)) : W p l e R s m args below meth c H locs cells slots Q (F0 m pc ls (.int x :: .ref a :: rest)) :=
  va_put (D := D) (ci := 6) (ty := .int) (C := RX5) (T := TX5) (N := 21) CX.1 CX.2.1 CX.2.2.1 inX5 tyX5 tyX5_ok nmX5 CX.2.2.2 hK hP hD hS q0 he rfl 19 (by decide) (CX.2.2.1 (.fieldLink RX5 213 "BuskPitchesModel" "toldOne" "I") (lw_at 1038 (by decide +kernel))) (fun _ h9 => h9) rfl (by decide +kernel) rfl rfl hlen hdg kk
theorem lk_RX5_216 : lkV RX5 216 yX5_must cX5_must 2 none 1 [1363, 1365, 56, 68, 1366] = true := by decide +kernel
theorem pf_RX5_220 {fs : List Value} {x : Int32} (CX : Cx p s m c args cc RX5) (hK : va_K D vwCl (tyA cy) s) (hP : va_P D vwCl ws H) (hD : va_D A ws) (hS : va_S A H0 H locs) (q0 : Nat) (he : ws[q0]? = some (a, .inr (6, fs))) (hdg : decode cc pc = .ok (.putfield 220, 3)) (hlen : 20 < fs.length) (kk : ∀ (H1 : Heap) (locs1 : List Loc), va_P D vwCl (ws.set q0 (a, .inr (6, fs.set 20 (.int x)))) H1 → va_D A (ws.set q0 (a, .inr (6, fs.set 20 (.int x)))) → va_S A H0 H1 locs1 → W p l e R s m args below meth c H1 locs1 cells slots Q (F0 m (pc + 3) ls rest)) : W p l e R s m args below meth c H locs cells slots Q (F0 m pc ls (.int x :: .ref a :: rest)) :=
  va_put (D := D) (ci := 6) (ty := .int) (C := RX5) (T := TX5) (N := 21) CX.1 CX.2.1 CX.2.2.1 inX5 tyX5 tyX5_ok nmX5 CX.2.2.2 hK hP hD hS q0 he rfl 20 (by decide) (CX.2.2.1 (.fieldLink RX5 220 "BuskPitchesModel" "toldTwo" "I") (lw_at 1039 (by decide +kernel))) (fun _ h9 => h9) rfl (by decide +kernel) rfl rfl hlen hdg kk
theorem lk_RX5_223 : lkV RX5 223 yX5_readOrder cX5_readOrder 1 none 0 [1348, 1350, 53, 68, 1351] = true := by decide +kernel
theorem gf_RX5_213 {fs : List Value} {v : Value} (CX : Cx p s m c args cc RX5) (hK : va_K D vwCl (tyA cy) s) (hP : va_P D vwCl ws H) (q0 : Nat) (he : ws[q0]? = some (a, .inr (6, fs))) (hv : fs[19]? = some v) (hdg : decode cc pc = .ok (.getfield 213, 3)) (kk : W p l e R s m args below meth c H locs cells slots Q (F0 m (pc + 3) ls (v :: rest))) : W p l e R s m args below meth c H locs cells slots Q (F0 m pc ls (.ref a :: rest)) :=
  va_get (D := D) (ci := 6) (C := RX5) (T := TX5) (N := 21) CX.1 CX.2.1 CX.2.2.1 inX5 CX.2.2.2 hK hP q0 he rfl 19 (by decide) (CX.2.2.1 (.fieldLink RX5 213 "BuskPitchesModel" "toldOne" "I") (lw_at 1038 (by decide +kernel))) (fun _ h9 => h9) hv hdg kk
theorem lk_RX5_226 : lkV RX5 226 yX5_join cX5_join 2 (some .int) 1 [1371, 1172, 1173, 68, 1174] = true := by decide +kernel
theorem gf_RX5_220 {fs : List Value} {v : Value} (CX : Cx p s m c args cc RX5) (hK : va_K D vwCl (tyA cy) s) (hP : va_P D vwCl ws H) (q0 : Nat) (he : ws[q0]? = some (a, .inr (6, fs))) (hv : fs[20]? = some v) (hdg : decode cc pc = .ok (.getfield 220, 3)) (kk : W p l e R s m args below meth c H locs cells slots Q (F0 m (pc + 3) ls (v :: rest))) : W p l e R s m args below meth c H locs cells slots Q (F0 m pc ls (.ref a :: rest)) :=
  va_get (D := D) (ci := 6) (C := RX5) (T := TX5) (N := 21) CX.1 CX.2.1 CX.2.2.1 inX5 CX.2.2.2 hK hP q0 he rfl 20 (by decide) (CX.2.2.1 (.fieldLink RX5 220 "BuskPitchesModel" "toldTwo" "I") (lw_at 1039 (by decide +kernel))) (fun _ h9 => h9) hv hdg kk
theorem lk_RX5_229 : lkV RX5 229 yX5_draw cX5_draw 6 (some .int) 2 [1372, 1184, 1185, 68, 1186] = true := by decide +kernel
theorem lk_RX5_232 : lkV RX5 232 yX5_leave cX5_leave 3 (some .int) 1 [1373, 1196, 1197, 68, 1198] = true := by decide +kernel
theorem lk_RX5_235 : lkV RX5 235 yX5_strings cX5_strings 3 (some .int) 1 [1374, 1260, 1261, 68, 1262] = true := by decide +kernel
theorem lk_RX5_238 : lkV RX5 238 yX5_answer cX5_answer 3 (some .int) 1 [1375, 1269, 1270, 68, 1271] = true := by decide +kernel
theorem lk_RX5_241 : lkV RX5 241 yX5_crowd cX5_crowd 3 (some .int) 1 [1376, 1088, 1089, 68, 1090] = true := by decide +kernel
theorem lk_RX5_244 : lkV RX5 244 yX5_pass cX5_pass 4 (some .int) 1 [1377, 1308, 1309, 68, 1310] = true := by decide +kernel
theorem lk_RX5_247 : lkV RX5 247 yX5_countOrders cX5_countOrders 2 (some .int) 0 [1344, 1346, 52, 68, 1347] = true := by decide +kernel
theorem pf_RX5_38 {fs : List Value} {x : Int32} (CX : Cx p s m c args cc RX5) (hK : va_K D vwCl (tyA cy) s) (hP : va_P D vwCl ws H) (hD : va_D A ws) (hS : va_S A H0 H locs) (q0 : Nat) (he : ws[q0]? = some (a, .inr (6, fs))) (hdg : decode cc pc = .ok (.putfield 38, 3)) (hlen : 16 < fs.length) (kk : ∀ (H1 : Heap) (locs1 : List Loc), va_P D vwCl (ws.set q0 (a, .inr (6, fs.set 16 (.int x)))) H1 → va_D A (ws.set q0 (a, .inr (6, fs.set 16 (.int x)))) → va_S A H0 H1 locs1 → W p l e R s m args below meth c H1 locs1 cells slots Q (F0 m (pc + 3) ls rest)) : W p l e R s m args below meth c H locs cells slots Q (F0 m pc ls (.int x :: .ref a :: rest)) :=
  va_put (D := D) (ci := 6) (ty := .int) (C := RX5) (T := TX5) (N := 21) CX.1 CX.2.1 CX.2.2.1 inX5 tyX5 tyX5_ok nmX5 CX.2.2.2 hK hP hD hS q0 he rfl 16 (by decide) (CX.2.2.1 (.fieldLink RX5 38 "BuskPitchesModel" "error" "I") (lw_at 1035 (by decide +kernel))) (fun _ h9 => h9) rfl (by decide +kernel) rfl rfl hlen hdg kk
theorem gf_RX5_19 {fs : List Value} {v : Value} (CX : Cx p s m c args cc RX5) (hK : va_K D vwCl (tyA cy) s) (hP : va_P D vwCl ws H) (q0 : Nat) (he : ws[q0]? = some (a, .inr (6, fs))) (hv : fs[4]? = some v) (hdg : decode cc pc = .ok (.getfield 19, 3)) (kk : W p l e R s m args below meth c H locs cells slots Q (F0 m (pc + 3) ls (v :: rest))) : W p l e R s m args below meth c H locs cells slots Q (F0 m pc ls (.ref a :: rest)) :=
  va_get (D := D) (ci := 6) (C := RX5) (T := TX5) (N := 21) CX.1 CX.2.1 CX.2.2.1 inX5 CX.2.2.2 hK hP q0 he rfl 4 (by decide) (CX.2.2.1 (.fieldLink RX5 19 "BuskPitchesModel" "before" "[I") (lw_at 1023 (by decide +kernel))) (fun _ h9 => h9) hv hdg kk
theorem pf_RX5_69 {fs : List Value} {x : Int32} (CX : Cx p s m c args cc RX5) (hK : va_K D vwCl (tyA cy) s) (hP : va_P D vwCl ws H) (hD : va_D A ws) (hS : va_S A H0 H locs) (q0 : Nat) (he : ws[q0]? = some (a, .inr (6, fs))) (hn : narrow .boolean (.int x) = .int x) (hfit : fits .boolean (.int x) = true) (hdg : decode cc pc = .ok (.putfield 69, 3)) (hlen : 12 < fs.length) (kk : ∀ (H1 : Heap) (locs1 : List Loc), va_P D vwCl (ws.set q0 (a, .inr (6, fs.set 12 (.int x)))) H1 → va_D A (ws.set q0 (a, .inr (6, fs.set 12 (.int x)))) → va_S A H0 H1 locs1 → W p l e R s m args below meth c H1 locs1 cells slots Q (F0 m (pc + 3) ls rest)) : W p l e R s m args below meth c H locs cells slots Q (F0 m pc ls (.int x :: .ref a :: rest)) :=
  va_put (D := D) (ci := 6) (ty := .boolean) (C := RX5) (T := TX5) (N := 21) CX.1 CX.2.1 CX.2.2.1 inX5 tyX5 tyX5_ok nmX5 CX.2.2.2 hK hP hD hS q0 he rfl 12 (by decide) (CX.2.2.1 (.fieldLink RX5 69 "BuskPitchesModel" "isInText" "Z") (lw_at 1031 (by decide +kernel))) (fun _ h9 => h9) rfl (by decide +kernel) hn hfit hlen hdg kk
theorem lk_RX5_250 : lkV RX5 250 yX5_carryOut cX5_carryOut 1 (some .int) 0 [1367, 1369, 57, 68, 1370] = true := by decide +kernel
theorem gf_RX5_38 {fs : List Value} {v : Value} (CX : Cx p s m c args cc RX5) (hK : va_K D vwCl (tyA cy) s) (hP : va_P D vwCl ws H) (q0 : Nat) (he : ws[q0]? = some (a, .inr (6, fs))) (hv : fs[16]? = some v) (hdg : decode cc pc = .ok (.getfield 38, 3)) (kk : W p l e R s m args below meth c H locs cells slots Q (F0 m (pc + 3) ls (v :: rest))) : W p l e R s m args below meth c H locs cells slots Q (F0 m pc ls (.ref a :: rest)) :=
  va_get (D := D) (ci := 6) (C := RX5) (T := TX5) (N := 21) CX.1 CX.2.1 CX.2.2.1 inX5 CX.2.2.2 hK hP q0 he rfl 16 (by decide) (CX.2.2.1 (.fieldLink RX5 38 "BuskPitchesModel" "error" "I") (lw_at 1035 (by decide +kernel))) (fun _ h9 => h9) hv hdg kk
theorem gf_RX5_56 {fs : List Value} {v : Value} (CX : Cx p s m c args cc RX5) (hK : va_K D vwCl (tyA cy) s) (hP : va_P D vwCl ws H) (q0 : Nat) (he : ws[q0]? = some (a, .inr (6, fs))) (hv : fs[9]? = some v) (hdg : decode cc pc = .ok (.getfield 56, 3)) (kk : W p l e R s m args below meth c H locs cells slots Q (F0 m (pc + 3) ls (v :: rest))) : W p l e R s m args below meth c H locs cells slots Q (F0 m pc ls (.ref a :: rest)) :=
  va_get (D := D) (ci := 6) (C := RX5) (T := TX5) (N := 21) CX.1 CX.2.1 CX.2.2.1 inX5 CX.2.2.2 hK hP q0 he rfl 9 (by decide) (CX.2.2.1 (.fieldLink RX5 56 "BuskPitchesModel" "reason" "I") (lw_at 1028 (by decide +kernel))) (fun _ h9 => h9) hv hdg kk
theorem gf_RX5_59 {fs : List Value} {v : Value} (CX : Cx p s m c args cc RX5) (hK : va_K D vwCl (tyA cy) s) (hP : va_P D vwCl ws H) (q0 : Nat) (he : ws[q0]? = some (a, .inr (6, fs))) (hv : fs[10]? = some v) (hdg : decode cc pc = .ok (.getfield 59, 3)) (kk : W p l e R s m args below meth c H locs cells slots Q (F0 m (pc + 3) ls (v :: rest))) : W p l e R s m args below meth c H locs cells slots Q (F0 m pc ls (.ref a :: rest)) :=
  va_get (D := D) (ci := 6) (C := RX5) (T := TX5) (N := 21) CX.1 CX.2.1 CX.2.2.1 inX5 CX.2.2.2 hK hP q0 he rfl 10 (by decide) (CX.2.2.1 (.fieldLink RX5 59 "BuskPitchesModel" "detail" "I") (lw_at 1029 (by decide +kernel))) (fun _ h9 => h9) hv hdg kk
theorem lk_RX5_253 : lkV RX5 253 yX5_cases cX5_cases 3 (some .int) 0 [1402, 1404, 61, 68, 1405] = true := by decide +kernel
theorem lk_RX5_256 : lkV RX5 256 yX5_snapped cX5_snapped 3 (some .int) 0 [1390, 1392, 58, 68, 1393] = true := by decide +kernel
theorem lk_RX5_259 : lkV RX5 259 yX5_complaints cX5_complaints 3 (some .int) 0 [1394, 1396, 59, 68, 1397] = true := by decide +kernel
theorem lk_RX5_262 : lkV RX5 262 yX5_otherAccount cX5_otherAccount 2 (some .int) 1 [1398, 1400, 60, 68, 1401] = true := by decide +kernel
theorem lk_RX5_265 : lkS RX5 265 yJxe99ae_doubleToLongBits_ccdee cJxe99ae_doubleToLongBits_ccdee 2 (some .long) 1 [1414, 1415, 84, 1416] = true := by decide +kernel
theorem pf_RX5_271 {fs : List Value} {x : Int32} (CX : Cx p s m c args cc RX5) (hK : va_K D vwCl (tyA cy) s) (hP : va_P D vwCl ws H) (hD : va_D A ws) (hS : va_S A H0 H locs) (q0 : Nat) (he : ws[q0]? = some (a, .inr (6, fs))) (hn : narrow .boolean (.int x) = .int x) (hfit : fits .boolean (.int x) = true) (hdg : decode cc pc = .ok (.putfield 271, 3)) (hlen : 11 < fs.length) (kk : ∀ (H1 : Heap) (locs1 : List Loc), va_P D vwCl (ws.set q0 (a, .inr (6, fs.set 11 (.int x)))) H1 → va_D A (ws.set q0 (a, .inr (6, fs.set 11 (.int x)))) → va_S A H0 H1 locs1 → W p l e R s m args below meth c H1 locs1 cells slots Q (F0 m (pc + 3) ls rest)) : W p l e R s m args below meth c H locs cells slots Q (F0 m pc ls (.int x :: .ref a :: rest)) :=
  va_put (D := D) (ci := 6) (ty := .boolean) (C := RX5) (T := TX5) (N := 21) CX.1 CX.2.1 CX.2.2.1 inX5 tyX5 tyX5_ok nmX5 CX.2.2.2 hK hP hD hS q0 he rfl 11 (by decide) (CX.2.2.1 (.fieldLink RX5 271 "BuskPitchesModel" "isSaved" "Z") (lw_at 1030 (by decide +kernel))) (fun _ h9 => h9) rfl (by decide +kernel) hn hfit hlen hdg kk
theorem gf_RX5_13 {fs : List Value} {v : Value} (CX : Cx p s m c args cc RX5) (hK : va_K D vwCl (tyA cy) s) (hP : va_P D vwCl ws H) (q0 : Nat) (he : ws[q0]? = some (a, .inr (6, fs))) (hv : fs[2]? = some v) (hdg : decode cc pc = .ok (.getfield 13, 3)) (kk : W p l e R s m args below meth c H locs cells slots Q (F0 m (pc + 3) ls (v :: rest))) : W p l e R s m args below meth c H locs cells slots Q (F0 m pc ls (.ref a :: rest)) :=
  va_get (D := D) (ci := 6) (C := RX5) (T := TX5) (N := 21) CX.1 CX.2.1 CX.2.2.1 inX5 CX.2.2.2 hK hP q0 he rfl 2 (by decide) (CX.2.2.1 (.fieldLink RX5 13 "BuskPitchesModel" "saved" "[I") (lw_at 1021 (by decide +kernel))) (fun _ h9 => h9) hv hdg kk
theorem gf_RX5_271 {fs : List Value} {v : Value} (CX : Cx p s m c args cc RX5) (hK : va_K D vwCl (tyA cy) s) (hP : va_P D vwCl ws H) (q0 : Nat) (he : ws[q0]? = some (a, .inr (6, fs))) (hv : fs[11]? = some v) (hdg : decode cc pc = .ok (.getfield 271, 3)) (kk : W p l e R s m args below meth c H locs cells slots Q (F0 m (pc + 3) ls (v :: rest))) : W p l e R s m args below meth c H locs cells slots Q (F0 m pc ls (.ref a :: rest)) :=
  va_get (D := D) (ci := 6) (C := RX5) (T := TX5) (N := 21) CX.1 CX.2.1 CX.2.2.1 inX5 CX.2.2.2 hK hP q0 he rfl 11 (by decide) (CX.2.2.1 (.fieldLink RX5 271 "BuskPitchesModel" "isSaved" "Z") (lw_at 1030 (by decide +kernel))) (fun _ h9 => h9) hv hdg kk
end LINKS
end
section
/-! the states as one value each, the worlds of the ring and of the face -/
abbrev SV : Type := Int32 × Int32 × Int32 × Int32 × Int32 × (Nat → UInt32) × (Nat → Int32) × (Nat → Int32) × (Nat → Int32) × (Nat → Int32) × (Nat → Int32) × (Nat → Int32) × (Nat → Int32) × (Nat → Int32) × (Nat → Int32) × (Nat → UInt32) × (Nat → UInt32) × (Nat → UInt32)
def g_hour (σ : SV) : Int32 := σ.1
def g_crowd (σ : SV) : Int32 := σ.2.1
def g_buskers (σ : SV) : Int32 := σ.2.2.1
def g_answered (σ : SV) : Int32 := σ.2.2.2.1
def g_draws (σ : SV) : Int32 := σ.2.2.2.2.1
def g_lim (σ : SV) : Nat → UInt32 := σ.2.2.2.2.2.1
def g_cmp (σ : SV) : Nat → Int32 := σ.2.2.2.2.2.2.1
def g_sof (σ : SV) : Nat → Int32 := σ.2.2.2.2.2.2.2.1
def g_kin (σ : SV) : Nat → Int32 := σ.2.2.2.2.2.2.2.2.1
def g_lou (σ : SV) : Nat → Int32 := σ.2.2.2.2.2.2.2.2.2.1
def g_pit (σ : SV) : Nat → Int32 := σ.2.2.2.2.2.2.2.2.2.2.1
def g_pla (σ : SV) : Nat → Int32 := σ.2.2.2.2.2.2.2.2.2.2.2.1
def g_cas (σ : SV) : Nat → Int32 := σ.2.2.2.2.2.2.2.2.2.2.2.2.1
def g_hrs (σ : SV) : Nat → Int32 := σ.2.2.2.2.2.2.2.2.2.2.2.2.2.1
def g_nws (σ : SV) : Nat → Int32 := σ.2.2.2.2.2.2.2.2.2.2.2.2.2.2.1
def g_hat (σ : SV) : Nat → UInt32 := σ.2.2.2.2.2.2.2.2.2.2.2.2.2.2.2.1
def g_wea (σ : SV) : Nat → UInt32 := σ.2.2.2.2.2.2.2.2.2.2.2.2.2.2.2.2.1
def g_row (σ : SV) : Nat → UInt32 := σ.2.2.2.2.2.2.2.2.2.2.2.2.2.2.2.2.2
def s_hour (σ : SV) (x : Int32) : SV := (x, σ.2)
def s_crowd (σ : SV) (x : Int32) : SV := (σ.1, x, σ.2.2)
def s_buskers (σ : SV) (x : Int32) : SV := (σ.1, σ.2.1, x, σ.2.2.2)
def s_answered (σ : SV) (x : Int32) : SV := (σ.1, σ.2.1, σ.2.2.1, x, σ.2.2.2.2)
def s_draws (σ : SV) (x : Int32) : SV := (σ.1, σ.2.1, σ.2.2.1, σ.2.2.2.1, x, σ.2.2.2.2.2)
def s_lim (σ : SV) (x : Nat → UInt32) : SV := (σ.1, σ.2.1, σ.2.2.1, σ.2.2.2.1, σ.2.2.2.2.1, x, σ.2.2.2.2.2.2)
def s_cmp (σ : SV) (x : Nat → Int32) : SV := (σ.1, σ.2.1, σ.2.2.1, σ.2.2.2.1, σ.2.2.2.2.1, σ.2.2.2.2.2.1, x, σ.2.2.2.2.2.2.2)
def s_sof (σ : SV) (x : Nat → Int32) : SV := (σ.1, σ.2.1, σ.2.2.1, σ.2.2.2.1, σ.2.2.2.2.1, σ.2.2.2.2.2.1, σ.2.2.2.2.2.2.1, x, σ.2.2.2.2.2.2.2.2)
def s_kin (σ : SV) (x : Nat → Int32) : SV := (σ.1, σ.2.1, σ.2.2.1, σ.2.2.2.1, σ.2.2.2.2.1, σ.2.2.2.2.2.1, σ.2.2.2.2.2.2.1, σ.2.2.2.2.2.2.2.1, x, σ.2.2.2.2.2.2.2.2.2)
def s_lou (σ : SV) (x : Nat → Int32) : SV := (σ.1, σ.2.1, σ.2.2.1, σ.2.2.2.1, σ.2.2.2.2.1, σ.2.2.2.2.2.1, σ.2.2.2.2.2.2.1, σ.2.2.2.2.2.2.2.1, σ.2.2.2.2.2.2.2.2.1, x, σ.2.2.2.2.2.2.2.2.2.2)
def s_pit (σ : SV) (x : Nat → Int32) : SV := (σ.1, σ.2.1, σ.2.2.1, σ.2.2.2.1, σ.2.2.2.2.1, σ.2.2.2.2.2.1, σ.2.2.2.2.2.2.1, σ.2.2.2.2.2.2.2.1, σ.2.2.2.2.2.2.2.2.1, σ.2.2.2.2.2.2.2.2.2.1, x, σ.2.2.2.2.2.2.2.2.2.2.2)
def s_pla (σ : SV) (x : Nat → Int32) : SV := (σ.1, σ.2.1, σ.2.2.1, σ.2.2.2.1, σ.2.2.2.2.1, σ.2.2.2.2.2.1, σ.2.2.2.2.2.2.1, σ.2.2.2.2.2.2.2.1, σ.2.2.2.2.2.2.2.2.1, σ.2.2.2.2.2.2.2.2.2.1, σ.2.2.2.2.2.2.2.2.2.2.1, x, σ.2.2.2.2.2.2.2.2.2.2.2.2)
def s_cas (σ : SV) (x : Nat → Int32) : SV := (σ.1, σ.2.1, σ.2.2.1, σ.2.2.2.1, σ.2.2.2.2.1, σ.2.2.2.2.2.1, σ.2.2.2.2.2.2.1, σ.2.2.2.2.2.2.2.1, σ.2.2.2.2.2.2.2.2.1, σ.2.2.2.2.2.2.2.2.2.1, σ.2.2.2.2.2.2.2.2.2.2.1, σ.2.2.2.2.2.2.2.2.2.2.2.1, x, σ.2.2.2.2.2.2.2.2.2.2.2.2.2)
def s_hrs (σ : SV) (x : Nat → Int32) : SV := (σ.1, σ.2.1, σ.2.2.1, σ.2.2.2.1, σ.2.2.2.2.1, σ.2.2.2.2.2.1, σ.2.2.2.2.2.2.1, σ.2.2.2.2.2.2.2.1, σ.2.2.2.2.2.2.2.2.1, σ.2.2.2.2.2.2.2.2.2.1, σ.2.2.2.2.2.2.2.2.2.2.1, σ.2.2.2.2.2.2.2.2.2.2.2.1, σ.2.2.2.2.2.2.2.2.2.2.2.2.1, x, σ.2.2.2.2.2.2.2.2.2.2.2.2.2.2)
def s_nws (σ : SV) (x : Nat → Int32) : SV := (σ.1, σ.2.1, σ.2.2.1, σ.2.2.2.1, σ.2.2.2.2.1, σ.2.2.2.2.2.1, σ.2.2.2.2.2.2.1, σ.2.2.2.2.2.2.2.1, σ.2.2.2.2.2.2.2.2.1, σ.2.2.2.2.2.2.2.2.2.1, σ.2.2.2.2.2.2.2.2.2.2.1, σ.2.2.2.2.2.2.2.2.2.2.2.1, σ.2.2.2.2.2.2.2.2.2.2.2.2.1, σ.2.2.2.2.2.2.2.2.2.2.2.2.2.1, x, σ.2.2.2.2.2.2.2.2.2.2.2.2.2.2.2)
def s_hat (σ : SV) (x : Nat → UInt32) : SV := (σ.1, σ.2.1, σ.2.2.1, σ.2.2.2.1, σ.2.2.2.2.1, σ.2.2.2.2.2.1, σ.2.2.2.2.2.2.1, σ.2.2.2.2.2.2.2.1, σ.2.2.2.2.2.2.2.2.1, σ.2.2.2.2.2.2.2.2.2.1, σ.2.2.2.2.2.2.2.2.2.2.1, σ.2.2.2.2.2.2.2.2.2.2.2.1, σ.2.2.2.2.2.2.2.2.2.2.2.2.1, σ.2.2.2.2.2.2.2.2.2.2.2.2.2.1, σ.2.2.2.2.2.2.2.2.2.2.2.2.2.2.1, x, σ.2.2.2.2.2.2.2.2.2.2.2.2.2.2.2.2)
def s_wea (σ : SV) (x : Nat → UInt32) : SV := (σ.1, σ.2.1, σ.2.2.1, σ.2.2.2.1, σ.2.2.2.2.1, σ.2.2.2.2.2.1, σ.2.2.2.2.2.2.1, σ.2.2.2.2.2.2.2.1, σ.2.2.2.2.2.2.2.2.1, σ.2.2.2.2.2.2.2.2.2.1, σ.2.2.2.2.2.2.2.2.2.2.1, σ.2.2.2.2.2.2.2.2.2.2.2.1, σ.2.2.2.2.2.2.2.2.2.2.2.2.1, σ.2.2.2.2.2.2.2.2.2.2.2.2.2.1, σ.2.2.2.2.2.2.2.2.2.2.2.2.2.2.1, σ.2.2.2.2.2.2.2.2.2.2.2.2.2.2.2.1, x, σ.2.2.2.2.2.2.2.2.2.2.2.2.2.2.2.2.2)
def s_row (σ : SV) (x : Nat → UInt32) : SV := (σ.1, σ.2.1, σ.2.2.1, σ.2.2.2.1, σ.2.2.2.2.1, σ.2.2.2.2.2.1, σ.2.2.2.2.2.2.1, σ.2.2.2.2.2.2.2.1, σ.2.2.2.2.2.2.2.2.1, σ.2.2.2.2.2.2.2.2.2.1, σ.2.2.2.2.2.2.2.2.2.2.1, σ.2.2.2.2.2.2.2.2.2.2.2.1, σ.2.2.2.2.2.2.2.2.2.2.2.2.1, σ.2.2.2.2.2.2.2.2.2.2.2.2.2.1, σ.2.2.2.2.2.2.2.2.2.2.2.2.2.2.1, σ.2.2.2.2.2.2.2.2.2.2.2.2.2.2.2.1, σ.2.2.2.2.2.2.2.2.2.2.2.2.2.2.2.2.1, x)
def wSV (q : Nat → Nat) (cy : Nat → ClassId) (σ : SV) : va_W := wX3 q cy (g_hour σ) (g_crowd σ) (g_buskers σ) (g_answered σ) (g_draws σ) (g_lim σ) (g_cmp σ) (g_sof σ) (g_kin σ) (g_lou σ) (g_pit σ) (g_pla σ) (g_cas σ) (g_hrs σ) (g_nws σ) (g_hat σ) (g_wea σ) (g_row σ)
def srows (q : Nat → Nat → Nat) (cy : Nat → ClassId) (ring : Nat → SV) : va_W := (List.range 8).flatMap (fun i => wSV (q (6 + i)) cy (ring i))
def wX1 (q : Nat → Nat → Nat) (cy : Nat → ClassId) (next count : Int32) (ring : Nat → SV) : va_W :=
  [(q 4 0, .inr (2, [.ref (q 4 1), .int next, .int count])),
   (q 4 1, .inl (cy 3, 8, .inr (.inr (.inr (.inr (fun i => some (q (6 + i) 0)))))))] ++ srows q cy ring
def wX4 (q : Nat → Nat → Nat) (cy : Nat → ClassId) (isv te re de : Int32) (now spare snap : SV) (len : Int32) (sig : Nat → Int32) (next count : Int32) (ring : Nat → SV) : va_W :=
  [(q 0 0, .inr (5, [.ref (q 1 0), .ref (q 2 0), .ref (q 3 0), .int isv, .ref (q 4 0), .ref (q 5 0), .int te, .int re, .int de]))] ++ (wSV (q 1) cy now ++ (wSV (q 2) cy spare ++ (wSV (q 3) cy snap ++ (wX2 (q 5) cy len sig ++ wX1 q cy next count ring))))
theorem vaP_perm {D : va_G} {cl : List vw_C} {ws ws' : va_W} {H : Heap} (h : ws.Perm ws') (hP : va_P D cl ws H) : va_P D cl ws' H := fun k q hk => by
  obtain ⟨i, hi⟩ := List.getElem?_of_mem (h.mem_iff.mpr (List.mem_of_getElem? hk))
  exact hP i q hi
theorem vaP_l {D : va_G} {cl : List vw_C} {a b : va_W} {H : Heap} (hP : va_P D cl (a ++ b) H) : va_P D cl a H := fun k q hk => hP k q (by rw [List.getElem?_append_left (List.getElem?_eq_some_iff.mp hk).1]; exact hk)
theorem vaP_r {D : va_G} {cl : List vw_C} {a b : va_W} {H : Heap} (hP : va_P D cl (a ++ b) H) : va_P D cl b H := fun k q hk => hP (a.length + k) q (by rw [List.getElem?_append_right (by omega)]; rw [show a.length + k - a.length = k by omega]; exact hk)
theorem vaP_1 {D : va_G} {cl : List vw_C} {ws : va_W} {H : Heap} {x : Nat × va_E} (hP : va_P D cl ws H) (k : Nat) (hk : ws[k]? = some x) : va_P D cl [x] H := fun i q hi => by
  have h0 : i < 1 := (List.getElem?_eq_some_iff.mp hi).1
  rw [show i = 0 by omega] at hi
  cases hi
  exact hP k _ hk
theorem vaD_iff {A : Nat → Prop} {ws : va_W} : va_D A ws ↔ (ws.map (fun q => q.1)).Nodup ∧ ∀ q ∈ ws, A q.1 := by
  constructor
  · intro h
    refine ⟨?_, fun q hq => ?_⟩
    · rw [List.nodup_iff_pairwise_ne, List.pairwise_iff_getElem]
      intro i j hi hj hij e
      rw [List.length_map] at hi hj
      rw [List.getElem_map, List.getElem_map] at e
      have := h.1 i j ws[i] ws[j] (List.getElem?_eq_getElem hi) (List.getElem?_eq_getElem hj) e
      omega
    · obtain ⟨k, hk⟩ := List.getElem?_of_mem hq
      exact h.2 k q hk
  · rintro ⟨h1, h2⟩
    refine ⟨fun i j p q hi hj e => ?_, fun k q hk => h2 q (List.mem_of_getElem? hk)⟩
    rw [List.nodup_iff_pairwise_ne, List.pairwise_iff_getElem] at h1
    obtain ⟨hi1, hi2⟩ := List.getElem?_eq_some_iff.mp hi
    obtain ⟨hj1, hj2⟩ := List.getElem?_eq_some_iff.mp hj
    rcases Nat.lt_trichotomy i j with g | g | g
    · exact absurd (by rw [List.getElem_map, List.getElem_map, hi2, hj2]; exact e) (h1 i j (by rw [List.length_map]; exact hi1) (by rw [List.length_map]; exact hj1) g)
    · exact g
    · exact absurd (by rw [List.getElem_map, List.getElem_map, hi2, hj2]; exact e.symm) (h1 j i (by rw [List.length_map]; exact hj1) (by rw [List.length_map]; exact hi1) g)
theorem vaD_perm {A : Nat → Prop} {ws ws' : va_W} (h : ws.Perm ws') (hD : va_D A ws) : va_D A ws' := by
  rw [vaD_iff] at hD ⊢
  exact ⟨(h.map _).nodup_iff.mp hD.1, fun q hq => hD.2 q (h.mem_iff.mpr hq)⟩
theorem vaD_l {A : Nat → Prop} {a b : va_W} (hD : va_D A (a ++ b)) : va_D A a := by
  rw [vaD_iff] at hD ⊢
  rw [List.map_append, List.nodup_append] at hD
  exact ⟨hD.1.1, fun q hq => hD.2 q (List.mem_append_left _ hq)⟩
theorem vaD_r {A : Nat → Prop} {a b : va_W} (hD : va_D A (a ++ b)) : va_D A b := by
  rw [vaD_iff] at hD ⊢
  rw [List.map_append, List.nodup_append] at hD
  exact ⟨hD.1.2.1, fun q hq => hD.2 q (List.mem_append_right _ hq)⟩
/-- behind a call over a part of the world -/
theorem back_part {A : Nat → Prop} {D : va_G} {cl : List vw_C} {wc wr w1 : va_W} {H H1 H0 : Heap} {locs : List Loc} (hP : va_P D cl (wc ++ wr) H) (hD : va_D A (wc ++ wr)) (hS : va_S A H0 H locs) (hA : ∀ q, H0.size ≤ q → A q) (hk : ∀ q : Nat, q < H.size → ¬ va_A wc H.size q → H1[q]? = H[q]?) (hP1 : va_P D cl w1 H1) (hD1 : va_D (va_A wc H.size) w1) : va_P D cl (w1 ++ wr) H1 ∧ va_D A (w1 ++ wr) := by
  have hFc := fc_of (vaD_l hD) hS hA
  have apart : ∀ (k : Nat) (q : Nat × va_E), wr[k]? = some q → q.1 < H.size ∧ ¬ va_A wc H.size q.1 := by
    intro k q hq
    have hl := (vaP_r hP k q hq).lt
    refine ⟨hl, fun h => ?_⟩
    rcases h with ⟨k2, e, h⟩ | h
    · have h1 : (wc ++ wr)[k2]? = some (q.1, e) := by rw [List.getElem?_append_left (List.getElem?_eq_some_iff.mp h).1]; exact h
      have h2 : (wc ++ wr)[wc.length + k]? = some q := by rw [List.getElem?_append_right (by omega), show wc.length + k - wc.length = k by omega]; exact hq
      have := hD.1 k2 (wc.length + k) _ _ h1 h2 rfl
      have h3 := (List.getElem?_eq_some_iff.mp h).1
      omega
    · omega
  refine ⟨hP1.app (fun k q hq => (vaP_r hP k q hq).kept (hk q.1 (apart k q hq).1 (apart k q hq).2)), va_D.app (hD1.weaken (fun k q _ h => hFc q.1 h)) (vaD_r hD) (fun i j x y hx hy hxy => ?_)⟩
  exact (apart j y hy).2 (by rw [← hxy]; exact hD1.2 i x hx)
section PERM
variable (x n s p i h : va_W)
theorem pm_n : (x ++ (n ++ (s ++ (p ++ (i ++ h))))).Perm (n ++ (x ++ (s ++ (p ++ (i ++ h))))) := List.perm_append_comm_assoc _ _ _
theorem pm_s : (x ++ (n ++ (s ++ (p ++ (i ++ h))))).Perm (s ++ (x ++ (n ++ (p ++ (i ++ h))))) := ((List.perm_append_comm_assoc n s _).append_left x).trans (List.perm_append_comm_assoc _ _ _)
theorem pm_p : (x ++ (n ++ (s ++ (p ++ (i ++ h))))).Perm (p ++ (x ++ (n ++ (s ++ (i ++ h))))) := ((((List.perm_append_comm_assoc s p _).append_left n).trans (List.perm_append_comm_assoc _ _ _)).append_left x).trans (List.perm_append_comm_assoc _ _ _)
theorem pm_i : (x ++ (n ++ (s ++ (p ++ (i ++ h))))).Perm (i ++ (x ++ (n ++ (s ++ (p ++ h))))) := ((((((List.perm_append_comm_assoc p i _).append_left s).trans (List.perm_append_comm_assoc _ _ _)).append_left n).trans (List.perm_append_comm_assoc _ _ _)).append_left x).trans (List.perm_append_comm_assoc _ _ _)
theorem pm_h : (x ++ (n ++ (s ++ (p ++ (i ++ h))))).Perm (h ++ (x ++ (n ++ (s ++ (p ++ i))))) := by
  have e : x ++ (n ++ (s ++ (p ++ (i ++ h)))) = (x ++ (n ++ (s ++ (p ++ i)))) ++ h := by simp only [List.append_assoc]
  rw [e]
  exact List.perm_append_comm
theorem pm_sn : (x ++ (n ++ (s ++ (p ++ (i ++ h))))).Perm ((s ++ n) ++ (x ++ (p ++ (i ++ h)))) := by
  rw [List.append_assoc]
  exact (pm_s x n s p i h).trans ((List.perm_append_comm_assoc x n _).append_left s)
theorem pm_ns : (x ++ (n ++ (s ++ (p ++ (i ++ h))))).Perm ((n ++ s) ++ (x ++ (p ++ (i ++ h)))) := (pm_sn x n s p i h).trans (List.perm_append_comm.append_right _)
theorem pm_pn : (x ++ (n ++ (s ++ (p ++ (i ++ h))))).Perm ((p ++ n) ++ (x ++ (s ++ (i ++ h)))) := by
  rw [List.append_assoc]
  exact (pm_p x n s p i h).trans ((List.perm_append_comm_assoc x n _).append_left p)
theorem pm_np : (x ++ (n ++ (s ++ (p ++ (i ++ h))))).Perm ((n ++ p) ++ (x ++ (s ++ (i ++ h)))) := (pm_pn x n s p i h).trans (List.perm_append_comm.append_right _)
theorem pm_hn : (x ++ (n ++ (s ++ (p ++ (i ++ h))))).Perm ((h ++ n) ++ (x ++ (s ++ (p ++ i)))) := by
  rw [List.append_assoc]
  exact (pm_h x n s p i h).trans ((List.perm_append_comm_assoc x n _).append_left h)
theorem pm_hs : (x ++ (n ++ (s ++ (p ++ (i ++ h))))).Perm ((h ++ s) ++ (x ++ (n ++ (p ++ i)))) := by
  rw [List.append_assoc]
  refine (pm_h x n s p i h).trans (List.Perm.append_left h ?_)
  exact ((List.perm_append_comm_assoc n s _).append_left x).trans (List.perm_append_comm_assoc _ _ _)
end PERM
/-- the ring without its place k -/
def srowX (q : Nat → Nat → Nat) (cy : Nat → ClassId) (ring : Nat → SV) (k : Nat) : va_W := ((List.range 8).filter (fun i => decide (¬ i = k))).flatMap (fun i => wSV (q (6 + i)) cy (ring i))
theorem srow_split {q : Nat → Nat → Nat} {cy : Nat → ClassId} {ring : Nat → SV} {k : Nat} (hk : k < 8) : (srows q cy ring).Perm (wSV (q (6 + k)) cy (ring k) ++ srowX q cy ring k) := by
  have h : (List.range 8).Perm (k :: (List.range 8).filter (fun i => decide (¬ i = k))) := by
    rcases (show k = 0 ∨ k = 1 ∨ k = 2 ∨ k = 3 ∨ k = 4 ∨ k = 5 ∨ k = 6 ∨ k = 7 by omega) with rfl | rfl | rfl | rfl | rfl | rfl | rfl | rfl <;> decide
  exact h.flatMap_right _
theorem fm_congr {l : List Nat} {f g : Nat → va_W} (h : ∀ a ∈ l, f a = g a) : l.flatMap f = l.flatMap g := by
  rw [List.flatMap_def, List.flatMap_def, List.map_congr_left h]
theorem srowX_upd {q : Nat → Nat → Nat} {cy : Nat → ClassId} {ring : Nat → SV} {k : Nat} {v : SV} : srowX q cy (vf_upd ring k v) k = srowX q cy ring k := by
  unfold srowX
  refine fm_congr (fun i hi => ?_)
  have h := of_decide_eq_true (List.mem_filter.mp hi).2
  simp only [vf_upd, if_neg h]
def rK (q : Nat → Nat → Nat) (cy : Nat → ClassId) (next count : Int32) (ring : Nat → SV) (k : Nat) : va_W := [(q 4 0, .inr (2, [.ref (q 4 1), .int next, .int count])), (q 4 1, .inl (cy 3, 8, .inr (.inr (.inr (.inr (fun i => some (q (6 + i) 0)))))))] ++ srowX q cy ring k
theorem pk_1 {q : Nat → Nat → Nat} {cy : Nat → ClassId} {next count : Int32} {ring : Nat → SV} {qs : Nat → Nat} {σ : SV} {k : Nat} (hk : k < 8) : (wX1 q cy next count ring ++ wSV qs cy σ).Perm ((wSV (q (6 + k)) cy (ring k) ++ wSV qs cy σ) ++ rK q cy next count ring k) := by
  unfold wX1 rK
  refine ((((srow_split hk).append_left _).append_right _)).trans ?_
  generalize wSV (q (6 + k)) cy (ring k) = a
  generalize srowX q cy ring k = b
  generalize wSV qs cy σ = d
  generalize ([(q 4 0, .inr (2, [.ref (q 4 1), .int next, .int count])), (q 4 1, .inl (cy 3, 8, .inr (.inr (.inr (.inr (fun i => some (q (6 + i) 0)))))))] : va_W) = x
  have e1 : (x ++ (a ++ b)) ++ d = x ++ (a ++ (b ++ d)) := by simp only [List.append_assoc]
  have e2 : (a ++ d) ++ (x ++ b) = a ++ (d ++ (x ++ b)) := by simp only [List.append_assoc]
  rw [e1, e2]
  refine (List.perm_append_comm_assoc x a _).trans (List.Perm.append_left a ?_)
  rw [← List.append_assoc]
  exact List.perm_append_comm
theorem pk_2 {q : Nat → Nat → Nat} {cy : Nat → ClassId} {next count : Int32} {ring : Nat → SV} {qs : Nat → Nat} {σ v : SV} {k : Nat} (hk : k < 8) : ((wSV (q (6 + k)) cy v ++ wSV qs cy σ) ++ rK q cy next count ring k).Perm (wX1 q cy next count (vf_upd ring k v) ++ wSV qs cy σ) := by
  have h := (pk_1 (q := q) (cy := cy) (next := next) (count := count) (ring := vf_upd ring k v) (qs := qs) (σ := σ) hk).symm
  unfold rK at h ⊢
  rw [srowX_upd, show vf_upd ring k v k = v by simp [vf_upd]] at h
  exact h
theorem pk_3 {q : Nat → Nat → Nat} {cy : Nat → ClassId} {next count : Int32} {ring : Nat → SV} {qs : Nat → Nat} {σ : SV} {k : Nat} (hk : k < 8) : (wX1 q cy next count ring ++ wSV qs cy σ).Perm ((wSV qs cy σ ++ wSV (q (6 + k)) cy (ring k)) ++ rK q cy next count ring k) := (pk_1 hk).trans (List.perm_append_comm.append_right _)
theorem vf_same {ring : Nat → SV} {k : Nat} : vf_upd ring k (ring k) = ring := by
  funext j
  unfold vf_upd
  by_cases h : j = k
  · rw [if_pos h, h]
  · rw [if_neg h]
section CRF
variable {p : Program} {l : Launch} {e : Env} {R : Room} {s : State} {m : MethodId} {args : Array Value} {below : List Frame} {meth : Method} {c : Code} {H : Heap} {locs : List Loc} {Q : State → Prop}
variable {cc : ByteArray} {pc : Nat} {ls : Array Slot} {rest st0 : List Value} {D : va_G} {A : Nat → Prop} {ws wsn wc wr ws' : va_W} {cy : Nat → ClassId} {own : String}
variable {is : List Nat} {y : MethodName} {bytes : ByteArray} {maxL n nL idx : Nat} {ret : Option FieldType} {rm : Room} {b ci : Nat} {As fs : List Value}
theorem crf_vi {x : Int32} (CX : Cx p s m c args cc own) (hml : c.maxLocals = nL) (hM : Met l y (.code y bytes maxL ret :: lw_all) rm (va_Pc (.ref b :: As) (sW D cy wc H.size)) (qI D ws' x (va_A wc H.size)) 0 0 (va_A wc H.size)) (hk : lkV own idx y bytes maxL ret n is = true) (hrc : rm.cells = 0) (hrs : rm.slots = 0) (hR : rm.frames + 1 ≤ R.frames ∧ 8 + (maxL + 11) + rm.locals ≤ R.locals) (hP : va_P D vwCl ws H) (hD : va_D A ws) (hS : va_S A s.heap H locs) (hA : ∀ q, s.heap.size ≤ q → A q) (hK : va_K D vwCl (tyA cy) s) (hN : nst s) (hp : ws.Perm (wc ++ wr)) (hp2 : (ws' ++ wr).Perm wsn) (q0 : Nat) (he : wc[q0]? = some (b, .inr (ci, fs))) (hc : (vwCl[ci]?).map (fun r => r.1) = some y.cls) (hn : As.length = n) (hsz : ls.size = nL) (hst : st0 = As.reverse ++ .ref b :: rest) (hW : (rest.map fun v => v.category).sum ≤ 8) (hdg : decode cc pc = .ok (.invokevirtual idx, 3)) (kk : ∀ (H1 : Heap) (locs1 : List Loc), va_P D vwCl wsn H1 → va_D A wsn → va_S A s.heap H1 locs1 → W p l e R s m args below meth c H1 locs1 0 0 Q (F0 m (pc + 3) ls (.int x :: rest))) : W p l e R s m args below meth c H locs 0 0 Q (F0 m pc ls st0) := by
  have hP9 := vaP_perm hp hP
  have hD9 := vaD_perm hp hD
  have hFc := fc_of (vaD_l hD9) hS hA
  exact va_calli (va_runV (As := As) (rest := rest) ⟨CX.1, CX.2.1, hml, CX.2.2.2, CX.2.2.1⟩ hM (lkV_cw hk CX.2.2.1 hrc hrs hR) ⟨sW_blind _ _ _ _ _, rcv_at hK (vaP_l hP9) q0 he hc, sW_at (vaP_l hP9) (vaD_l hD9) hK hN⟩ rfl hn hsz hst (lv_room hW) hdg ⟨Nat.zero_le _, Nat.zero_le _⟩) hS (fun q _ h => hFc q h) hFc (fun r u t H1 locs1 ht hvm hw hB hz1 hk1 hS1 => by
    rw [hw]
    obtain ⟨g1, g2⟩ := back_part hP9 hD9 hS hA hk1 (by rw [← ht]; exact hB.1) hB.2
    exact kk H1 locs1 (vaP_perm hp2 g1) (vaD_perm hp2 g2) hS1)
theorem crf_vf {x : UInt32} (CX : Cx p s m c args cc own) (hml : c.maxLocals = nL) (hM : Met l y (.code y bytes maxL ret :: lw_all) rm (va_Pc (.ref b :: As) (sW D cy wc H.size)) (qF D ws' x (va_A wc H.size)) 0 0 (va_A wc H.size)) (hk : lkV own idx y bytes maxL ret n is = true) (hrc : rm.cells = 0) (hrs : rm.slots = 0) (hR : rm.frames + 1 ≤ R.frames ∧ 8 + (maxL + 11) + rm.locals ≤ R.locals) (hP : va_P D vwCl ws H) (hD : va_D A ws) (hS : va_S A s.heap H locs) (hA : ∀ q, s.heap.size ≤ q → A q) (hK : va_K D vwCl (tyA cy) s) (hN : nst s) (hp : ws.Perm (wc ++ wr)) (hp2 : (ws' ++ wr).Perm wsn) (q0 : Nat) (he : wc[q0]? = some (b, .inr (ci, fs))) (hc : (vwCl[ci]?).map (fun r => r.1) = some y.cls) (hn : As.length = n) (hsz : ls.size = nL) (hst : st0 = As.reverse ++ .ref b :: rest) (hW : (rest.map fun v => v.category).sum ≤ 8) (hdg : decode cc pc = .ok (.invokevirtual idx, 3)) (kk : ∀ (H1 : Heap) (locs1 : List Loc), va_P D vwCl wsn H1 → va_D A wsn → va_S A s.heap H1 locs1 → W p l e R s m args below meth c H1 locs1 0 0 Q (F0 m (pc + 3) ls (.float x :: rest))) : W p l e R s m args below meth c H locs 0 0 Q (F0 m pc ls st0) := by
  have hP9 := vaP_perm hp hP
  have hD9 := vaD_perm hp hD
  have hFc := fc_of (vaD_l hD9) hS hA
  exact va_callf (va_runV (As := As) (rest := rest) ⟨CX.1, CX.2.1, hml, CX.2.2.2, CX.2.2.1⟩ hM (lkV_cw hk CX.2.2.1 hrc hrs hR) ⟨sW_blind _ _ _ _ _, rcv_at hK (vaP_l hP9) q0 he hc, sW_at (vaP_l hP9) (vaD_l hD9) hK hN⟩ rfl hn hsz hst (lv_room hW) hdg ⟨Nat.zero_le _, Nat.zero_le _⟩) hS (fun q _ h => hFc q h) hFc (fun r u t H1 locs1 ht hvm hw hB hz1 hk1 hS1 => by
    rw [hw]
    obtain ⟨g1, g2⟩ := back_part hP9 hD9 hS hA hk1 (by rw [← ht]; exact hB.1) hB.2
    exact kk H1 locs1 (vaP_perm hp2 g1) (vaD_perm hp2 g2) hS1)
theorem crf_vl {x : Int64} (CX : Cx p s m c args cc own) (hml : c.maxLocals = nL) (hM : Met l y (.code y bytes maxL ret :: lw_all) rm (va_Pc (.ref b :: As) (sW D cy wc H.size)) (qL D ws' x (va_A wc H.size)) 0 0 (va_A wc H.size)) (hk : lkV own idx y bytes maxL ret n is = true) (hrc : rm.cells = 0) (hrs : rm.slots = 0) (hR : rm.frames + 1 ≤ R.frames ∧ 8 + (maxL + 11) + rm.locals ≤ R.locals) (hP : va_P D vwCl ws H) (hD : va_D A ws) (hS : va_S A s.heap H locs) (hA : ∀ q, s.heap.size ≤ q → A q) (hK : va_K D vwCl (tyA cy) s) (hN : nst s) (hp : ws.Perm (wc ++ wr)) (hp2 : (ws' ++ wr).Perm wsn) (q0 : Nat) (he : wc[q0]? = some (b, .inr (ci, fs))) (hc : (vwCl[ci]?).map (fun r => r.1) = some y.cls) (hn : As.length = n) (hsz : ls.size = nL) (hst : st0 = As.reverse ++ .ref b :: rest) (hW : (rest.map fun v => v.category).sum ≤ 8) (hdg : decode cc pc = .ok (.invokevirtual idx, 3)) (kk : ∀ (H1 : Heap) (locs1 : List Loc), va_P D vwCl wsn H1 → va_D A wsn → va_S A s.heap H1 locs1 → W p l e R s m args below meth c H1 locs1 0 0 Q (F0 m (pc + 3) ls (.long x :: rest))) : W p l e R s m args below meth c H locs 0 0 Q (F0 m pc ls st0) := by
  have hP9 := vaP_perm hp hP
  have hD9 := vaD_perm hp hD
  have hFc := fc_of (vaD_l hD9) hS hA
  exact va_calll (va_runV (As := As) (rest := rest) ⟨CX.1, CX.2.1, hml, CX.2.2.2, CX.2.2.1⟩ hM (lkV_cw hk CX.2.2.1 hrc hrs hR) ⟨sW_blind _ _ _ _ _, rcv_at hK (vaP_l hP9) q0 he hc, sW_at (vaP_l hP9) (vaD_l hD9) hK hN⟩ rfl hn hsz hst (lv_room hW) hdg ⟨Nat.zero_le _, Nat.zero_le _⟩) hS (fun q _ h => hFc q h) hFc (fun r u t H1 locs1 ht hvm hw hB hz1 hk1 hS1 => by
    rw [hw]
    obtain ⟨g1, g2⟩ := back_part hP9 hD9 hS hA hk1 (by rw [← ht]; exact hB.1) hB.2
    exact kk H1 locs1 (vaP_perm hp2 g1) (vaD_perm hp2 g2) hS1)
theorem crf_vv (CX : Cx p s m c args cc own) (hml : c.maxLocals = nL) (hM : Met l y (.code y bytes maxL ret :: lw_all) rm (va_Pc (.ref b :: As) (sW D cy wc H.size)) (qV D ws' (va_A wc H.size)) 0 0 (va_A wc H.size)) (hk : lkV own idx y bytes maxL ret n is = true) (hrc : rm.cells = 0) (hrs : rm.slots = 0) (hR : rm.frames + 1 ≤ R.frames ∧ 8 + (maxL + 11) + rm.locals ≤ R.locals) (hP : va_P D vwCl ws H) (hD : va_D A ws) (hS : va_S A s.heap H locs) (hA : ∀ q, s.heap.size ≤ q → A q) (hK : va_K D vwCl (tyA cy) s) (hN : nst s) (hp : ws.Perm (wc ++ wr)) (hp2 : (ws' ++ wr).Perm wsn) (q0 : Nat) (he : wc[q0]? = some (b, .inr (ci, fs))) (hc : (vwCl[ci]?).map (fun r => r.1) = some y.cls) (hn : As.length = n) (hsz : ls.size = nL) (hst : st0 = As.reverse ++ .ref b :: rest) (hW : (rest.map fun v => v.category).sum ≤ 8) (hdg : decode cc pc = .ok (.invokevirtual idx, 3)) (kk : ∀ (H1 : Heap) (locs1 : List Loc), va_P D vwCl wsn H1 → va_D A wsn → va_S A s.heap H1 locs1 → W p l e R s m args below meth c H1 locs1 0 0 Q (F0 m (pc + 3) ls (rest))) : W p l e R s m args below meth c H locs 0 0 Q (F0 m pc ls st0) := by
  have hP9 := vaP_perm hp hP
  have hD9 := vaD_perm hp hD
  have hFc := fc_of (vaD_l hD9) hS hA
  exact va_callv (va_runV (As := As) (rest := rest) ⟨CX.1, CX.2.1, hml, CX.2.2.2, CX.2.2.1⟩ hM (lkV_cw hk CX.2.2.1 hrc hrs hR) ⟨sW_blind _ _ _ _ _, rcv_at hK (vaP_l hP9) q0 he hc, sW_at (vaP_l hP9) (vaD_l hD9) hK hN⟩ rfl hn hsz hst (lv_room hW) hdg ⟨Nat.zero_le _, Nat.zero_le _⟩) hS (fun q _ h => hFc q h) hFc (fun u t H1 locs1 ht hvm hw hB hz1 hk1 hS1 => by
    skip
    obtain ⟨g1, g2⟩ := back_part hP9 hD9 hS hA hk1 (by rw [← ht]; exact hB.1) hB.2
    exact kk H1 locs1 (vaP_perm hp2 g1) (vaD_perm hp2 g2) hS1)
end CRF
end
