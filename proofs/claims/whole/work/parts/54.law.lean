/-! the law: rows, links -/
section LAW
variable {p : Program} {l : Launch} {e : Env} {R : Room} {s : State} {m : MethodId} {args : Array Value} {below : List Frame} {meth : Method} {c : Code} {H : Heap} {locs : List Loc} {cells slots : Nat} {Q : State → Prop}
variable {cc : ByteArray} {pc : Nat} {ls : Array Slot} {rest st0 : List Value} {D : va_G} {A : Nat → Prop} {ws wc wr ws' wsn : va_W} {cy : Nat → ClassId} {own : String}
theorem pL1 {a b : Nat × va_E} {x y : va_W} : (a :: (b :: (x ++ y))).Perm ((a :: x) ++ (b :: y)) := (List.perm_middle.symm).cons a
theorem pL2 {a b : Nat × va_E} {x y : va_W} : (a :: (b :: (x ++ y))).Perm ((b :: x) ++ (a :: y)) := (List.Perm.swap b a _).trans pL1
theorem pL3 {a b : Nat × va_E} {x y : va_W} : (a :: (b :: (x ++ y))).Perm (y ++ (a :: (b :: x))) := (List.perm_append_comm : ((a :: b :: x) ++ y).Perm (y ++ (a :: b :: x)))
theorem pL4 {a b : Nat × va_E} {x y : va_W} : (a :: (b :: (x ++ y))).Perm (x ++ (a :: (b :: y))) := (List.perm_append_comm_assoc [a, b] x y)
theorem crl_i {is : List Nat} {y : MethodName} {bytes : ByteArray} {maxL n nL idx mc ms : Nat} {ret : Option FieldType} {hh : List (Nat × Nat × Nat × Nat)} {rm : Room} {As : List Value} {x : Int32} (CX : Cx p s m c args cc own) (hml : c.maxLocals = nL) (hM : Met l y (.codeWith y bytes maxL ret hh :: lw_all) rm (va_Pc As (sY D cy wc H.size)) (qI D ws' x (va_A wc H.size)) mc ms (va_A wc H.size)) (hk : lkW own idx y bytes maxL ret hh n is = true) (hrc : rm.cells = mc) (hrs : rm.slots = ms) (hR : rm.frames + 1 ≤ R.frames ∧ 8 + (maxL + 11) + rm.locals ≤ R.locals) (hP : va_P D vwCl ws H) (hD : va_D A ws) (hS : va_S A s.heap H locs) (hA : ∀ q, s.heap.size ≤ q → A q) (hK : va_K D vwCl (tyA cy) s) (hN : nst s) (hX : exF A s s.heap) (hC : ncF s) (hp : ws.Perm (wc ++ wr)) (hp2 : (ws' ++ wr).Perm wsn) (hn : As.length = n) (hsz : ls.size = nL) (hst : st0 = As.reverse ++ rest) (hW : (rest.map fun v => v.category).sum ≤ 8) (hcs : cells + mc ≤ R.cells ∧ slots + ms ≤ R.slots) (hdg : decode cc pc = .ok (.invokestatic idx, 3)) (kk : ∀ (H1 : Heap) (locs1 : List Loc), va_P D vwCl wsn H1 → va_D A wsn → va_S A s.heap H1 locs1 → W p l e R s m args below meth c H1 locs1 (cells + mc) (slots + ms) Q (F0 m (pc + 3) ls (.int x :: rest))) : W p l e R s m args below meth c H locs cells slots Q (F0 m pc ls st0) := by
  have hP9 := vaP_perm hp hP
  have hD9 := vaD_perm hp hD
  have hFc := fc_of (vaD_l hD9) hS hA
  exact va_calli (vx_runSW (As := As) (rest := rest) ⟨CX.1, CX.2.1, hml, CX.2.2.2, CX.2.2.1⟩ hM (lkW_cw hk CX.2.2.1 hrc hrs hR) ⟨sY_blind _ _ _ _ _, sY_at (vaP_l hP9) (vaD_l hD9) hK hN hX hC hS hA⟩ rfl hn hsz hst (lv_room hW) hdg hcs) hS (fun q _ h => hFc q h) hFc (fun r u t H1 locs1 ht hvm hw hB hz1 hk1 hS1 => by
    rw [hw]
    obtain ⟨g1, g2⟩ := back_part hP9 hD9 hS hA hk1 (by rw [← ht]; exact hB.1) hB.2
    exact kk H1 locs1 (vaP_perm hp2 g1) (vaD_perm hp2 g2) hS1)
end LAW
theorem lgc0 (x : Int64) : lg_cmp x x = 0 := by simp [lg_cmp]
theorem lk_RL_138 : lkW RL 138 yL_crowd cL_crowd 4 (some .int) [(0, 9, 12, 13)] 3 [329, 330, 62, 331] = true := by decide +kernel
theorem lk_RL_143 : lkV RL 143 yX5_crowd cX5_crowd 3 (some .int) 1 [1087, 1088, 1089, 68, 1090] = true := by decide +kernel
theorem lk_RL_144 : lkV RL 144 yX5_thrown cX5_thrown 1 (some .int) 0 [1083, 1084, 1085, 68, 1086] = true := by decide +kernel
theorem lk_RL_147 : lkW RL 147 yL_limit cL_limit 5 (some .int) [(0, 10, 13, 19), (0, 10, 17, 13)] 4 [455, 456, 62, 457] = true := by decide +kernel
theorem lk_RL_150 : lkV RL 150 yX5_limit cX5_limit 4 (some .int) 2 [1109, 1110, 1111, 68, 1112] = true := by decide +kernel
theorem lk_RL_151 : lkW RL 151 yL_busker cL_busker 5 (some .int) [(0, 10, 13, 13), (0, 10, 17, 24)] 4 [491, 492, 62, 493] = true := by decide +kernel
theorem lk_RL_153 : lkV RL 153 yX5_busker cX5_busker 4 (some .int) 2 [1120, 1121, 1122, 68, 1123] = true := by decide +kernel
theorem lk_RL_154 : lkW RL 154 yL_buskerOf cL_buskerOf 5 (some .int) [(0, 10, 13, 19), (0, 10, 17, 13)] 4 [511, 512, 62, 513] = true := by decide +kernel
theorem lk_RL_156 : lkV RL 156 yX5_buskerOf cX5_buskerOf 3 (some .int) 2 [1136, 1137, 1138, 68, 1139] = true := by decide +kernel
theorem lk_RL_157 : lkW RL 157 yL_hat cL_hat 4 (some .int) [(0, 9, 12, 19)] 3 [524, 525, 62, 526] = true := by decide +kernel
theorem lk_RL_160 : lkV RL 160 yX5_hat cX5_hat 2 (some .float) 1 [1152, 1153, 1154, 68, 1155] = true := by decide +kernel
theorem lk_RL_161 : lkW RL 161 yL_wear cL_wear 4 (some .int) [(0, 9, 12, 19)] 3 [531, 532, 62, 533] = true := by decide +kernel
theorem lk_RL_163 : lkV RL 163 yX5_wear cX5_wear 2 (some .int) 1 [1163, 1164, 1165, 68, 1166] = true := by decide +kernel
theorem lk_RL_164 : lkW RL 164 yL_pitchOf cL_pitchOf 5 (some .int) [(0, 10, 13, 19), (0, 10, 17, 13)] 4 [538, 539, 62, 540] = true := by decide +kernel
theorem lk_RL_166 : lkV RL 166 yX5_pitchOf cX5_pitchOf 3 (some .int) 2 [1167, 1168, 1169, 68, 1170] = true := by decide +kernel
theorem lk_RL_167 : lkW RL 167 yL_join cL_join 4 (some .int) [(0, 9, 12, 19), (0, 9, 15, 24)] 3 [549, 550, 62, 551] = true := by decide +kernel
theorem lk_RL_169 : lkV RL 169 yX5_join cX5_join 2 (some .int) 1 [1171, 1172, 1173, 68, 1174] = true := by decide +kernel
theorem lk_RL_170 : lkW RL 170 yL_draw cL_draw 5 (some .int) [(0, 10, 13, 19), (0, 10, 17, 13), (0, 10, 21, 24)] 4 [569, 570, 62, 571] = true := by decide +kernel
theorem lk_RL_172 : lkV RL 172 yX5_draw cX5_draw 6 (some .int) 2 [1183, 1184, 1185, 68, 1186] = true := by decide +kernel
theorem lk_RL_173 : lkW RL 173 yL_waiting cL_waiting 4 (some .int) [(0, 9, 12, 48)] 3 [588, 589, 62, 590] = true := by decide +kernel
theorem lk_RL_175 : lkV RL 175 yX5_waiting cX5_waiting 2 (some .int) 1 [1191, 1192, 1193, 68, 1194] = true := by decide +kernel
theorem lk_RL_176 : lkW RL 176 yL_leave cL_leave 4 (some .int) [(0, 9, 12, 19), (0, 9, 15, 24)] 3 [613, 614, 62, 615] = true := by decide +kernel
theorem lk_RL_178 : lkV RL 178 yX5_leave cX5_leave 3 (some .int) 1 [1195, 1196, 1197, 68, 1198] = true := by decide +kernel
theorem lk_RL_179 : lkW RL 179 yL_swap cL_swap 5 (some .int) [(0, 10, 13, 19), (0, 10, 17, 24)] 4 [628, 629, 62, 630] = true := by decide +kernel
theorem lk_RL_181 : lkV RL 181 yX5_swap cX5_swap 5 (some .int) 2 [1203, 1204, 1205, 68, 1206] = true := by decide +kernel
theorem lk_RL_182 : lkW RL 182 yL_noise cL_noise 4 (some .int) [(0, 9, 12, 19)] 3 [643, 644, 62, 645] = true := by decide +kernel
theorem lk_RL_184 : lkV RL 184 yX5_noise cX5_noise 2 (some .int) 1 [1211, 1212, 1213, 68, 1214] = true := by decide +kernel
theorem lk_RL_185 : lkW RL 185 yL_noiseAgain cL_noiseAgain 4 (some .int) [(0, 9, 12, 19)] 3 [650, 651, 62, 652] = true := by decide +kernel
theorem lk_RL_187 : lkV RL 187 yX5_noiseAgain cX5_noiseAgain 3 (some .int) 1 [1235, 1236, 1237, 68, 1238] = true := by decide +kernel
theorem lk_RL_188 : lkW RL 188 yL_below cL_below 4 (some .int) [(0, 9, 12, 19)] 3 [657, 658, 62, 659] = true := by decide +kernel
theorem lk_RL_190 : lkV RL 190 yX5_below cX5_below 2 (some .float) 1 [1251, 1252, 1253, 68, 1254] = true := by decide +kernel
theorem lk_RL_191 : lkW RL 191 yL_noiseWith cL_noiseWith 5 (some .int) [(0, 10, 13, 19)] 4 [664, 665, 62, 666] = true := by decide +kernel
theorem lk_RL_193 : lkV RL 193 yX5_noiseWith cX5_noiseWith 3 (some .int) 2 [1239, 1240, 1241, 68, 1242] = true := by decide +kernel
theorem lk_RL_194 : lkW RL 194 yL_quietest cL_quietest 4 (some .int) [(0, 9, 12, 19), (0, 9, 15, 48)] 3 [675, 676, 62, 677] = true := by decide +kernel
theorem lk_RL_196 : lkV RL 196 yX5_quietest cX5_quietest 8 (some .int) 1 [1243, 1244, 1245, 68, 1246] = true := by decide +kernel
theorem lk_RL_197 : lkV RL 197 yX4_loudest cX4_loudest 3 (some .int) 0 [243, 244, 245, 63, 246] = true := by decide +kernel
theorem lk_RL_200 : lkV RL 200 yX5_loudest cX5_loudest 3 (some .int) 0 [1255, 1256, 1257, 68, 1258] = true := by decide +kernel
theorem lk_RL_201 : lkW RL 201 yL_strings cL_strings 4 (some .int) [(0, 9, 12, 19), (0, 9, 15, 24)] 3 [688, 689, 62, 690] = true := by decide +kernel
theorem lk_RL_203 : lkV RL 203 yX5_strings cX5_strings 3 (some .int) 1 [1259, 1260, 1261, 68, 1262] = true := by decide +kernel
theorem lk_RL_204 : lkW RL 204 yL_snapsIn cL_snapsIn 4 (some .int) [(0, 9, 12, 19), (0, 9, 15, 48)] 3 [703, 704, 62, 705] = true := by decide +kernel
theorem lk_RL_206 : lkV RL 206 yX5_snapsIn cX5_snapsIn 4 (some .int) 1 [1263, 1264, 1265, 68, 1266] = true := by decide +kernel
theorem lk_RL_207 : lkW RL 207 yL_answer cL_answer 4 (some .int) [(0, 9, 12, 19), (0, 9, 15, 24)] 3 [720, 721, 62, 722] = true := by decide +kernel
theorem lk_RL_209 : lkV RL 209 yX5_answer cX5_answer 3 (some .int) 1 [1268, 1269, 1270, 68, 1271] = true := by decide +kernel
theorem lk_RL_210 : lkW RL 210 yL_rack cL_rack 5 (some .int) [(0, 10, 13, 19), (0, 10, 17, 24)] 4 [735, 736, 62, 737] = true := by decide +kernel
theorem lk_RL_212 : lkV RL 212 yX5_rack cX5_rack 3 (some .int) 2 [1272, 1273, 1274, 68, 1275] = true := by decide +kernel
theorem lk_RL_213 : lkW RL 213 yL_unrack cL_unrack 4 (some .int) [(0, 9, 12, 19), (0, 9, 15, 24)] 3 [759, 760, 62, 761] = true := by decide +kernel
theorem lk_RL_215 : lkV RL 215 yX5_unrack cX5_unrack 3 (some .int) 1 [1291, 1292, 1293, 68, 1294] = true := by decide +kernel
theorem lk_RL_216 : lkW RL 216 yL_onRack cL_onRack 5 (some .int) [(0, 10, 13, 19), (0, 10, 17, 48)] 4 [770, 771, 62, 772] = true := by decide +kernel
theorem lk_RL_218 : lkV RL 218 yX5_onRack cX5_onRack 3 (some .int) 2 [1295, 1296, 1297, 68, 1298] = true := by decide +kernel
theorem lk_RL_219 : lkW RL 219 yL_ranked cL_ranked 4 (some .int) [(0, 9, 12, 48)] 3 [780, 781, 62, 782] = true := by decide +kernel
theorem lk_RL_221 : lkV RL 221 yX5_ranked cX5_ranked 5 (some .int) 1 [1299, 1300, 1301, 68, 1302] = true := by decide +kernel
theorem lk_RL_222 : lkW RL 222 yL_pass cL_pass 4 (some .int) [(0, 9, 12, 13)] 3 [792, 793, 62, 794] = true := by decide +kernel
theorem lk_RL_224 : lkV RL 224 yX5_pass cX5_pass 4 (some .int) 1 [1307, 1308, 1309, 68, 1310] = true := by decide +kernel
theorem lk_RL_225 : lkW RL 225 yL_hatIn cL_hatIn 5 (some .int) [(0, 10, 13, 19), (0, 10, 17, 13)] 4 [818, 819, 62, 820] = true := by decide +kernel
theorem lk_RL_227 : lkV RL 227 yX5_hatIn cX5_hatIn 4 (some .int) 2 [1320, 1321, 1322, 68, 1323] = true := by decide +kernel
theorem lk_RL_228 : lkW RL 228 yL_playingIn cL_playingIn 4 (some .int) [(0, 9, 12, 13)] 3 [828, 829, 62, 830] = true := by decide +kernel
theorem lk_RL_230 : lkV RL 230 yX5_playingIn cX5_playingIn 3 (some .int) 1 [1324, 1325, 1326, 68, 1327] = true := by decide +kernel
theorem lk_RL_231 : lkW RL 231 yL_sign cL_sign 4 (some .int) [(0, 9, 12, 19)] 3 [835, 836, 62, 837] = true := by decide +kernel
theorem lk_RL_233 : lkV RL 233 yX5_sign cX5_sign 4 (some .char) 1 [1332, 1333, 1334, 68, 1335] = true := by decide +kernel
theorem lk_RL_234 : lkW RL 234 yL_append cL_append 4 (some .int) [(0, 9, 12, 109)] 3 [842, 843, 62, 844] = true := by decide +kernel
theorem lk_RL_237 : lkV RL 237 yX5_append cX5_append 2 (some .int) 1 [1336, 1337, 1338, 68, 1339] = true := by decide +kernel
theorem lk_RL_238 : lkW RL 238 yL_read cL_read 3 (some .int) [(0, 8, 11, 13), (0, 8, 14, 24)] 2 [870, 871, 62, 872] = true := by decide +kernel
theorem lk_RL_241 : lkV RL 241 yX5_read cX5_read 6 (some .int) 0 [1340, 1341, 1342, 68, 1343] = true := by decide +kernel
theorem lk_RL_242 : lkV RL 242 yX4_errorPosition cX4_errorPosition 1 (some .int) 0 [274, 275, 276, 63, 277] = true := by decide +kernel
theorem lk_RL_245 : lkV RL 245 yX5_errorPosition cX5_errorPosition 1 (some .int) 0 [1378, 1379, 1380, 68, 1381] = true := by decide +kernel
theorem lk_RL_246 : lkW RL 246 yL_refusal cL_refusal 4 (some .int) [(0, 9, 12, 48)] 3 [921, 922, 62, 923] = true := by decide +kernel
theorem lk_RL_249 : lkV RL 249 yX5_refusal cX5_refusal 2 (some .int) 1 [1382, 1383, 1384, 68, 1385] = true := by decide +kernel
theorem lk_RL_250 : lkW RL 250 yL_account cL_account 4 (some .int) [(0, 9, 12, 13)] 3 [929, 930, 62, 931] = true := by decide +kernel
theorem lk_RL_252 : lkV RL 252 yX5_account cX5_account 2 (some .int) 1 [1386, 1387, 1388, 68, 1389] = true := by decide +kernel
theorem lk_RL_253 : lkV RL 253 yX4_isWell cX4_isWell 1 (some .boolean) 0 [278, 279, 280, 63, 281] = true := by decide +kernel
theorem lk_RL_257 : lkV RL 257 yX5_isWell cX5_isWell 4 (some .boolean) 0 [1406, 1407, 1408, 68, 1409] = true := by decide +kernel
theorem lk_RL_258 : lkW RL 258 yL_meanBits cL_meanBits 3 (some .int) [(0, 7, 10, 126)] 2 [945, 946, 62, 947] = true := by decide +kernel
theorem lk_RL_260 : lkV RL 260 yX5_meanBits cX5_meanBits 4 (some .long) 0 [1410, 1411, 1412, 68, 1413] = true := by decide +kernel
theorem lk_RL_261 : lkW RL 261 yL_undo cL_undo 3 (some .int) [(0, 8, 11, 109)] 2 [976, 977, 62, 978] = true := by decide +kernel
theorem lk_RL_263 : lkV RL 263 yX5_undo cX5_undo 1 (some .int) 0 [1424, 1425, 1426, 68, 1427] = true := by decide +kernel
theorem lk_RL_264 : lkV RL 264 yX4_save cX4_save 1 (some .int) 0 [318, 319, 320, 63, 321] = true := by decide +kernel
theorem lk_RL_267 : lkV RL 267 yX5_save cX5_save 1 (some .int) 0 [1428, 1429, 1430, 68, 1431] = true := by decide +kernel
theorem lk_RL_268 : lkW RL 268 yL_restore cL_restore 3 (some .int) [(0, 8, 11, 109)] 2 [988, 989, 62, 990] = true := by decide +kernel
theorem lk_RL_270 : lkV RL 270 yX5_restore cX5_restore 1 (some .int) 0 [1432, 1433, 1434, 68, 1435] = true := by decide +kernel
def WL (cy : Nat → ClassId) (q : Nat → Nat → Nat) (qm : Nat → Nat) (ro rd : Nat) (out : Nat → Int64) (outD : Nat → UInt64) (isv : Int32) (te : Int32) (re : Int32) (de : Int32) (now : SV) (spa : SV) (sna : SV) (len : Int32) (sig : (Nat → Int32)) (nxt : Int32) (cnt : Int32) (rng : (Nat → SV)) (thr : Int32) (kept : Int32) (rea : Int32) (det : Int32) (misv : Int32) (iit : Int32) (mlen : Int32) (at_ : Int32) (merr : Int32) (wro : Int32) (cmd : Int32) (to1 : Int32) (to2 : Int32) (mnow : (Nat → Int32)) (msav : (Nat → Int32)) (ahe : (Nat → Int32)) (bef : (Nat → Int32)) (hst : (Nat → Nat → Int32)) (noi : (Nat → UInt32)) (own : (Nat → UInt32)) (inp : (Nat → Int32)) : va_W := (ro, .inl (cy 5, 1, .inr (.inl out))) :: ((rd, .inl (cy 6, 1, .inr (.inr (.inr (.inl outD))))) :: (wX4 q cy isv te re de now spa sna len sig nxt cnt rng ++ wX5 qm cy thr kept rea det misv iit mlen at_ merr wro cmd to1 to2 mnow msav ahe bef hst noi own inp))
def Go (p : Program) (l : Launch) (e : Env) (s : State) (m : MethodId) (args : Array Value) (below : List Frame) (meth : Method) (c : Code) (Q : State → Prop) (D : va_G) (A : Nat → Prop) (cy : Nat → ClassId) (q : Nat → Nat → Nat) (qm : Nat → Nat) (ro rd b : Nat) (i5 : Int32) (cells slots : Nat) : Prop := ∀ (out : Nat → Int64) (outD : Nat → UInt64) (isv : Int32) (te : Int32) (re : Int32) (de : Int32) (now : SV) (spa : SV) (sna : SV) (len : Int32) (sig : (Nat → Int32)) (nxt : Int32) (cnt : Int32) (rng : (Nat → SV)) (thr : Int32) (kept : Int32) (rea : Int32) (det : Int32) (misv : Int32) (iit : Int32) (mlen : Int32) (at_ : Int32) (merr : Int32) (wro : Int32) (cmd : Int32) (to1 : Int32) (to2 : Int32) (mnow : (Nat → Int32)) (msav : (Nat → Int32)) (ahe : (Nat → Int32)) (bef : (Nat → Int32)) (hst : (Nat → Nat → Int32)) (noi : (Nat → UInt32)) (own : (Nat → UInt32)) (inp : (Nat → Int32)) (H : Heap) (locs : List Loc) (ls : Array Slot), GG isv te re de now sna len sig nxt cnt rng kept rea det misv iit mlen merr mnow msav hst inp → lv_has ls 9 [(0, .ref b), (1, .ref (q 0 0)), (2, .ref (qm 0)), (3, .ref ro), (4, .ref rd), (5, .int i5)] → va_P D vwCl (WL cy q qm ro rd out outD isv te re de now spa sna len sig nxt cnt rng thr kept rea det misv iit mlen at_ merr wro cmd to1 to2 mnow msav ahe bef hst noi own inp) H → va_D A (WL cy q qm ro rd out outD isv te re de now spa sna len sig nxt cnt rng thr kept rea det misv iit mlen at_ merr wro cmd to1 to2 mnow msav ahe bef hst noi own inp) → va_S A s.heap H locs → W p l e room_1 s m args below meth c H locs (cells + 2) (slots + 12) Q (F0 m 2361 ls [])
