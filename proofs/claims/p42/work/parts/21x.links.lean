theorem lk_RL_98 : lkV RL 98 yJ0_length_8abf5 cJ0_length_8abf5 1 (some .int) 0 [668, 669, 670, 37, 671] = true := by decide +kernel
theorem lk_RL_103 : lkV RL 103 yJ0_charAt_5068e cJ0_charAt_5068e 2 (some .char) 1 [678, 679, 680, 37, 681] = true := by decide +kernel
theorem lk_RL_107 : lkW RL 107 yL_type cL_type 3 (some .boolean) [(0, 6, 9, 89)] 2 [716, 717, 23, 718] = true := by decide +kernel
theorem lk_RL_111 : lkW RL 111 yL_busker cL_busker 5 (some .int) [(3, 10, 13, 17), (3, 10, 18, 28)] 3 [388, 389, 23, 390] = true := by decide +kernel
theorem lk_RL_114 : lkW RL 114 yL_crowd cL_crowd 4 (some .int) [(3, 9, 12, 17)] 2 [332, 333, 23, 334] = true := by decide +kernel
theorem lk_RL_117 : lkW RL 117 yL_limit cL_limit 5 (some .int) [(3, 10, 13, 23), (3, 10, 18, 17)] 3 [731, 732, 23, 733] = true := by decide +kernel
theorem lk_RL_119 : lkW RL 119 yL_join cL_join 4 (some .int) [(3, 9, 12, 23), (3, 9, 16, 28)] 2 [408, 409, 23, 410] = true := by decide +kernel
theorem lk_RL_121 : lkW RL 121 yL_draw cL_draw 5 (some .int) [(3, 10, 13, 23), (3, 10, 18, 17), (3, 10, 23, 28)] 3 [447, 448, 23, 449] = true := by decide +kernel
theorem lk_RL_123 : lkW RL 123 yL_leave cL_leave 4 (some .int) [(3, 9, 12, 23), (3, 9, 16, 28)] 2 [741, 742, 23, 743] = true := by decide +kernel
theorem lk_RL_125 : lkW RL 125 yL_swap cL_swap 5 (some .int) [(3, 10, 13, 23), (3, 10, 18, 28)] 3 [748, 749, 23, 750] = true := by decide +kernel
theorem lk_RL_127 : lkW RL 127 yL_strings cL_strings 4 (some .int) [(3, 9, 12, 23), (3, 9, 16, 28)] 2 [474, 475, 23, 476] = true := by decide +kernel
theorem lk_RL_129 : lkW RL 129 yL_answer cL_answer 4 (some .int) [(3, 9, 12, 23), (3, 9, 16, 28)] 2 [763, 764, 23, 765] = true := by decide +kernel
theorem lk_RL_131 : lkW RL 131 yL_rack cL_rack 5 (some .int) [(3, 10, 13, 23), (3, 10, 18, 28)] 3 [493, 494, 23, 495] = true := by decide +kernel
theorem lk_RL_133 : lkW RL 133 yL_unrack cL_unrack 4 (some .int) [(3, 9, 12, 23), (3, 9, 16, 28)] 2 [770, 771, 23, 772] = true := by decide +kernel
theorem lk_RL_139 : lkS RL 139 yL_write cL_write 3 (some (.object "BuskPitches")) 2 [665, 666, 23, 667] = true := by decide +kernel
theorem lk_RL_143 : lkW RL 143 yL_read cL_read 3 (some .int) [(3, 8, 11, 17), (3, 8, 15, 28)] 1 [562, 563, 23, 564] = true := by decide +kernel
theorem lk_RL_149 : lkW RL 149 yL_restore cL_restore 3 (some .int) [(3, 8, 11, 89)] 1 [657, 658, 23, 659] = true := by decide +kernel
theorem lk_RL_151 : lkW RL 151 yL_undo cL_undo 3 (some .int) [(3, 8, 11, 89)] 1 [629, 630, 23, 631] = true := by decide +kernel
theorem lk_RL_153 : lkW RL 153 yL_pass cL_pass 4 (some .int) [(3, 9, 12, 17)] 2 [517, 518, 23, 519] = true := by decide +kernel
theorem lk_RL_169 : lkS RL 169 yJxf58ca_floatToIntBits_5c35a cJxf58ca_floatToIntBits_5c35a 1 (some .int) 1 [811, 812, 40, 813] = true := by decide +kernel
theorem lk_RL_187 : lkW RL 187 yL_waiting cL_waiting 4 (some .int) [(3, 9, 12, 39)] 2 [843, 844, 23, 845] = true := by decide +kernel
theorem lk_RL_192 : lkS RL 192 yL_noiseOf cL_noiseOf 2 (some .float) 2 [921, 922, 23, 923] = true := by decide +kernel
theorem lk_RL_212 : lkS RL 212 yL_isPitch cL_isPitch 8 (some .boolean) 2 [918, 919, 23, 920] = true := by decide +kernel
theorem lk_RL_219 : lkS RL 219 yL_limitOf cL_limitOf 3 (some .float) 2 [882, 883, 23, 884] = true := by decide +kernel
theorem lk_RL_222 : lkW RL 222 yL_quietest cL_quietest 4 (some .int) [(4, 10, 13, 23), (4, 10, 18, 39)] 2 [885, 886, 23, 887] = true := by decide +kernel
theorem lk_RL_224 : lkW RL 224 yL_ranked cL_ranked 4 (some .int) [(4, 10, 13, 39)] 2 [946, 947, 23, 948] = true := by decide +kernel
theorem lk_RL_229 : lkW RL 229 yL_onRack cL_onRack 5 (some .int) [(4, 11, 14, 23), (4, 11, 20, 39)] 3 [962, 963, 23, 964] = true := by decide +kernel
theorem lk_RL_231 : lkW RL 231 yL_snapsIn cL_snapsIn 4 (some .int) [(4, 10, 13, 23), (4, 10, 18, 39)] 2 [972, 973, 23, 974] = true := by decide +kernel
theorem lk_RL_233 : lkW RL 233 yL_meanBits cL_meanBits 4 (some .long) [(4, 9, 12, 84)] 1 [987, 988, 23, 989] = true := by decide +kernel
theorem lk_RL_236 : lkS RL 236 yJxe99ae_doubleToLongBits_ccdee cJxe99ae_doubleToLongBits_ccdee 2 (some .long) 1 [1019, 1020, 47, 1021] = true := by decide +kernel
theorem lk_RL_242 : lkS RL 242 yL_arePitches cL_arePitches 6 (some .boolean) 1 [901, 902, 23, 903] = true := by decide +kernel
theorem lk_RL_246 : lkS RL 246 yL_areBuskers cL_areBuskers 11 (some .boolean) 1 [943, 944, 23, 945] = true := by decide +kernel
theorem lk_RL_249 : lkS RL 249 yL_isMean cL_isMean 4 (some .boolean) 1 [984, 985, 23, 986] = true := by decide +kernel
theorem lk_RL_252 : lkS RL 252 yL_digest cL_digest 5 (some .long) 1 [783, 784, 23, 785] = true := by decide +kernel
theorem lk_RL_255 : lkS RL 255 yL_isFit cL_isFit 1 (some .boolean) 1 [898, 899, 23, 900] = true := by decide +kernel
theorem lk_RL_259 : lkS RL 259 yL_cell cL_cell 2 (some .int) 2 [328, 329, 23, 330] = true := by decide +kernel
theorem lk_RL_263 : lkS RL 263 yL_act cL_act 5 (some .int) 2 [728, 729, 23, 730] = true := by decide +kernel
theorem lk_RL_266 : lkS RL 266 yL_isQuietest cL_isQuietest 8 (some .boolean) 2 [868, 869, 23, 870] = true := by decide +kernel
theorem lk_RL_269 : lkS RL 269 yL_isAhead cL_isAhead 11 (some .boolean) 2 [1029, 1030, 23, 1031] = true := by decide +kernel
