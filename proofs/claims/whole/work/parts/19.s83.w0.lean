/-! the law: its rows are sound (printed by wip/gen/emitW.py) -/
set_option maxRecDepth 100000 in
theorem mt_P_init : z_nth z_mts 197 = some (⟨"RollPlayer", "<init>", "()V"⟩, prog_1_method_1_code, 1, (none)) := rfl
theorem cw_P_init (own : String) : z_cw own ⟨"RollPlayer", "<init>", "()V"⟩ prog_1_method_1_code 1 (none) 0 := ⟨(z_tb 22 (by decide +kernel)), (z_tb 1 (by decide +kernel)), ⟨by decide +kernel, by decide +kernel⟩, by decide +kernel, by decide⟩
theorem ou_W_9_10 : z_okU1 z_mts "RollPlayerLaw" 9 0 (.invokespecial 9) 10 197 := ⟨_, _, _, _, _, rfl, by decide, mt_P_init, cw_P_init _, Or.inr (Or.inr (Or.inl ⟨rfl, rfl, (z_tb 21 (by decide +kernel)), Or.inl (z_tb 20 (by decide +kernel))⟩)), fun _ => rfl⟩
set_option maxRecDepth 100000 in
theorem mt_Q_init : z_nth z_mts 7 = some (⟨"RollPlayerModel", "<init>", "()V"⟩, prog_14_method_1_code, 1, (none)) := rfl
theorem cw_Q_init (own : String) : z_cw own ⟨"RollPlayerModel", "<init>", "()V"⟩ prog_14_method_1_code 1 (none) 0 := ⟨(z_tb 958 (by decide +kernel)), (z_tb 3 (by decide +kernel)), ⟨by decide +kernel, by decide +kernel⟩, by decide +kernel, by decide⟩
theorem ou_W_12_11 : z_okU1 z_mts "RollPlayerLaw" 12 0 (.invokespecial 12) 11 7 := ⟨_, _, _, _, _, rfl, by decide, mt_Q_init, cw_Q_init _, Or.inr (Or.inr (Or.inl ⟨rfl, rfl, (z_tb 957 (by decide +kernel)), Or.inl (z_tb 956 (by decide +kernel))⟩)), fun _ => rfl⟩
set_option maxRecDepth 100000 in
theorem mt_P_roll : z_nth z_mts 207 = some (⟨"RollPlayer", "roll", "()I"⟩, prog_1_method_11_code, 1, (some (.int))) := rfl
theorem cw_P_roll (own : String) : z_cw own ⟨"RollPlayer", "roll", "()I"⟩ prog_1_method_11_code 1 (some (.int)) 0 := ⟨(z_tb 131 (by decide +kernel)), (z_tb 1 (by decide +kernel)), ⟨by decide +kernel, by decide +kernel⟩, by decide +kernel, by decide⟩
theorem ou_W_13_10 : z_okU1 z_mts "RollPlayerLaw" 13 0 (.invokevirtual 13) 10 207 := ⟨_, _, _, _, _, rfl, by decide, mt_P_roll, cw_P_roll _, Or.inl ⟨rfl, (z_tb 128 (by decide +kernel)), (z_tb 129 (by decide +kernel)), (z_tb 130 (by decide +kernel))⟩, fun h => absurd h (by decide +kernel)⟩
set_option maxRecDepth 100000 in
theorem mt_Q_roll : z_nth z_mts 24 = some (⟨"RollPlayerModel", "roll", "()I"⟩, prog_14_method_19_code, 1, (some (.int))) := rfl
theorem cw_Q_roll (own : String) : z_cw own ⟨"RollPlayerModel", "roll", "()I"⟩ prog_14_method_19_code 1 (some (.int)) 0 := ⟨(z_tb 1173 (by decide +kernel)), (z_tb 3 (by decide +kernel)), ⟨by decide +kernel, by decide +kernel⟩, by decide +kernel, by decide⟩
theorem ou_W_17_11 : z_okU1 z_mts "RollPlayerLaw" 17 0 (.invokevirtual 17) 11 24 := ⟨_, _, _, _, _, rfl, by decide, mt_Q_roll, cw_Q_roll _, Or.inl ⟨rfl, (z_tb 1170 (by decide +kernel)), (z_tb 1171 (by decide +kernel)), (z_tb 1172 (by decide +kernel))⟩, fun h => absurd h (by decide +kernel)⟩
set_option maxRecDepth 100000 in
theorem mt_P_strip : z_nth z_mts 208 = some (⟨"RollPlayer", "strip", "(IIIII)I"⟩, prog_1_method_12_code, 8, (some (.int))) := rfl
theorem cw_P_strip (own : String) : z_cw own ⟨"RollPlayer", "strip", "(IIIII)I"⟩ prog_1_method_12_code 8 (some (.int)) 5 := ⟨(z_tb 158 (by decide +kernel)), (z_tb 1 (by decide +kernel)), ⟨by decide +kernel, by decide +kernel⟩, by decide +kernel, by decide⟩
theorem ou_W_18_10 : z_okU1 z_mts "RollPlayerLaw" 18 5 (.invokevirtual 18) 10 208 := ⟨_, _, _, _, _, rfl, by decide, mt_P_strip, cw_P_strip _, Or.inl ⟨rfl, (z_tb 155 (by decide +kernel)), (z_tb 156 (by decide +kernel)), (z_tb 157 (by decide +kernel))⟩, fun h => absurd h (by decide +kernel)⟩
set_option maxRecDepth 100000 in
theorem mt_Q_strip : z_nth z_mts 25 = some (⟨"RollPlayerModel", "strip", "(IIIII)I"⟩, prog_14_method_20_code, 6, (some (.int))) := rfl
theorem cw_Q_strip (own : String) : z_cw own ⟨"RollPlayerModel", "strip", "(IIIII)I"⟩ prog_14_method_20_code 6 (some (.int)) 5 := ⟨(z_tb 1185 (by decide +kernel)), (z_tb 3 (by decide +kernel)), ⟨by decide +kernel, by decide +kernel⟩, by decide +kernel, by decide⟩
theorem ou_W_22_11 : z_okU1 z_mts "RollPlayerLaw" 22 5 (.invokevirtual 22) 11 25 := ⟨_, _, _, _, _, rfl, by decide, mt_Q_strip, cw_Q_strip _, Or.inl ⟨rfl, (z_tb 1182 (by decide +kernel)), (z_tb 1183 (by decide +kernel)), (z_tb 1184 (by decide +kernel))⟩, fun h => absurd h (by decide +kernel)⟩
set_option maxRecDepth 100000 in
theorem mt_P_punch : z_nth z_mts 209 = some (⟨"RollPlayer", "punch", "(IIII)I"⟩, prog_1_method_13_code, 7, (some (.int))) := rfl
theorem cw_P_punch (own : String) : z_cw own ⟨"RollPlayer", "punch", "(IIII)I"⟩ prog_1_method_13_code 7 (some (.int)) 4 := ⟨(z_tb 237 (by decide +kernel)), (z_tb 1 (by decide +kernel)), ⟨by decide +kernel, by decide +kernel⟩, by decide +kernel, by decide⟩
theorem ou_W_23_10 : z_okU1 z_mts "RollPlayerLaw" 23 4 (.invokevirtual 23) 10 209 := ⟨_, _, _, _, _, rfl, by decide, mt_P_punch, cw_P_punch _, Or.inl ⟨rfl, (z_tb 234 (by decide +kernel)), (z_tb 235 (by decide +kernel)), (z_tb 236 (by decide +kernel))⟩, fun h => absurd h (by decide +kernel)⟩
set_option maxRecDepth 100000 in
theorem mt_Q_punch : z_nth z_mts 27 = some (⟨"RollPlayerModel", "punch", "(IIII)I"⟩, prog_14_method_22_code, 8, (some (.int))) := rfl
theorem cw_Q_punch (own : String) : z_cw own ⟨"RollPlayerModel", "punch", "(IIII)I"⟩ prog_14_method_22_code 8 (some (.int)) 4 := ⟨(z_tb 1215 (by decide +kernel)), (z_tb 3 (by decide +kernel)), ⟨by decide +kernel, by decide +kernel⟩, by decide +kernel, by decide⟩
theorem ou_W_27_11 : z_okU1 z_mts "RollPlayerLaw" 27 4 (.invokevirtual 27) 11 27 := ⟨_, _, _, _, _, rfl, by decide, mt_Q_punch, cw_Q_punch _, Or.inl ⟨rfl, (z_tb 1212 (by decide +kernel)), (z_tb 1213 (by decide +kernel)), (z_tb 1214 (by decide +kernel))⟩, fun h => absurd h (by decide +kernel)⟩
set_option maxRecDepth 100000 in
theorem mt_P_seal : z_nth z_mts 210 = some (⟨"RollPlayer", "seal", "(II)I"⟩, prog_1_method_14_code, 4, (some (.int))) := rfl
theorem cw_P_seal (own : String) : z_cw own ⟨"RollPlayer", "seal", "(II)I"⟩ prog_1_method_14_code 4 (some (.int)) 2 := ⟨(z_tb 262 (by decide +kernel)), (z_tb 1 (by decide +kernel)), ⟨by decide +kernel, by decide +kernel⟩, by decide +kernel, by decide⟩
theorem ou_W_28_10 : z_okU1 z_mts "RollPlayerLaw" 28 2 (.invokevirtual 28) 10 210 := ⟨_, _, _, _, _, rfl, by decide, mt_P_seal, cw_P_seal _, Or.inl ⟨rfl, (z_tb 259 (by decide +kernel)), (z_tb 260 (by decide +kernel)), (z_tb 261 (by decide +kernel))⟩, fun h => absurd h (by decide +kernel)⟩
set_option maxRecDepth 100000 in
theorem mt_Q_seal : z_nth z_mts 28 = some (⟨"RollPlayerModel", "seal", "(II)I"⟩, prog_14_method_23_code, 4, (some (.int))) := rfl
theorem cw_Q_seal (own : String) : z_cw own ⟨"RollPlayerModel", "seal", "(II)I"⟩ prog_14_method_23_code 4 (some (.int)) 2 := ⟨(z_tb 1247 (by decide +kernel)), (z_tb 3 (by decide +kernel)), ⟨by decide +kernel, by decide +kernel⟩, by decide +kernel, by decide⟩
theorem ou_W_32_11 : z_okU1 z_mts "RollPlayerLaw" 32 2 (.invokevirtual 32) 11 28 := ⟨_, _, _, _, _, rfl, by decide, mt_Q_seal, cw_Q_seal _, Or.inl ⟨rfl, (z_tb 1244 (by decide +kernel)), (z_tb 1245 (by decide +kernel)), (z_tb 1246 (by decide +kernel))⟩, fun h => absurd h (by decide +kernel)⟩
set_option maxRecDepth 100000 in
theorem mt_P_lose : z_nth z_mts 211 = some (⟨"RollPlayer", "lose", "(II)I"⟩, prog_1_method_15_code, 4, (some (.int))) := rfl
theorem cw_P_lose (own : String) : z_cw own ⟨"RollPlayer", "lose", "(II)I"⟩ prog_1_method_15_code 4 (some (.int)) 2 := ⟨(z_tb 266 (by decide +kernel)), (z_tb 1 (by decide +kernel)), ⟨by decide +kernel, by decide +kernel⟩, by decide +kernel, by decide⟩
theorem ou_W_33_10 : z_okU1 z_mts "RollPlayerLaw" 33 2 (.invokevirtual 33) 10 211 := ⟨_, _, _, _, _, rfl, by decide, mt_P_lose, cw_P_lose _, Or.inl ⟨rfl, (z_tb 263 (by decide +kernel)), (z_tb 264 (by decide +kernel)), (z_tb 265 (by decide +kernel))⟩, fun h => absurd h (by decide +kernel)⟩
set_option maxRecDepth 100000 in
theorem mt_Q_lose : z_nth z_mts 30 = some (⟨"RollPlayerModel", "lose", "(II)I"⟩, prog_14_method_25_code, 4, (some (.int))) := rfl
theorem cw_Q_lose (own : String) : z_cw own ⟨"RollPlayerModel", "lose", "(II)I"⟩ prog_14_method_25_code 4 (some (.int)) 2 := ⟨(z_tb 1251 (by decide +kernel)), (z_tb 3 (by decide +kernel)), ⟨by decide +kernel, by decide +kernel⟩, by decide +kernel, by decide⟩
theorem ou_W_36_11 : z_okU1 z_mts "RollPlayerLaw" 36 2 (.invokevirtual 36) 11 30 := ⟨_, _, _, _, _, rfl, by decide, mt_Q_lose, cw_Q_lose _, Or.inl ⟨rfl, (z_tb 1248 (by decide +kernel)), (z_tb 1249 (by decide +kernel)), (z_tb 1250 (by decide +kernel))⟩, fun h => absurd h (by decide +kernel)⟩
set_option maxRecDepth 100000 in
theorem mt_P_tear : z_nth z_mts 212 = some (⟨"RollPlayer", "tear", "(III)I"⟩, prog_1_method_16_code, 5, (some (.int))) := rfl
theorem cw_P_tear (own : String) : z_cw own ⟨"RollPlayer", "tear", "(III)I"⟩ prog_1_method_16_code 5 (some (.int)) 3 := ⟨(z_tb 274 (by decide +kernel)), (z_tb 1 (by decide +kernel)), ⟨by decide +kernel, by decide +kernel⟩, by decide +kernel, by decide⟩
theorem ou_W_37_10 : z_okU1 z_mts "RollPlayerLaw" 37 3 (.invokevirtual 37) 10 212 := ⟨_, _, _, _, _, rfl, by decide, mt_P_tear, cw_P_tear _, Or.inl ⟨rfl, (z_tb 271 (by decide +kernel)), (z_tb 272 (by decide +kernel)), (z_tb 273 (by decide +kernel))⟩, fun h => absurd h (by decide +kernel)⟩
set_option maxRecDepth 100000 in
theorem mt_Q_tear : z_nth z_mts 31 = some (⟨"RollPlayerModel", "tear", "(III)I"⟩, prog_14_method_26_code, 8, (some (.int))) := rfl
theorem cw_Q_tear (own : String) : z_cw own ⟨"RollPlayerModel", "tear", "(III)I"⟩ prog_14_method_26_code 8 (some (.int)) 3 := ⟨(z_tb 1259 (by decide +kernel)), (z_tb 3 (by decide +kernel)), ⟨by decide +kernel, by decide +kernel⟩, by decide +kernel, by decide⟩
theorem ou_W_41_11 : z_okU1 z_mts "RollPlayerLaw" 41 3 (.invokevirtual 41) 11 31 := ⟨_, _, _, _, _, rfl, by decide, mt_Q_tear, cw_Q_tear _, Or.inl ⟨rfl, (z_tb 1256 (by decide +kernel)), (z_tb 1257 (by decide +kernel)), (z_tb 1258 (by decide +kernel))⟩, fun h => absurd h (by decide +kernel)⟩
set_option maxRecDepth 100000 in
theorem mt_P_damage : z_nth z_mts 213 = some (⟨"RollPlayer", "damage", "(IIII)I"⟩, prog_1_method_17_code, 6, (some (.int))) := rfl
theorem cw_P_damage (own : String) : z_cw own ⟨"RollPlayer", "damage", "(IIII)I"⟩ prog_1_method_17_code 6 (some (.int)) 4 := ⟨(z_tb 282 (by decide +kernel)), (z_tb 1 (by decide +kernel)), ⟨by decide +kernel, by decide +kernel⟩, by decide +kernel, by decide⟩
theorem ou_W_42_10 : z_okU1 z_mts "RollPlayerLaw" 42 4 (.invokevirtual 42) 10 213 := ⟨_, _, _, _, _, rfl, by decide, mt_P_damage, cw_P_damage _, Or.inl ⟨rfl, (z_tb 279 (by decide +kernel)), (z_tb 280 (by decide +kernel)), (z_tb 281 (by decide +kernel))⟩, fun h => absurd h (by decide +kernel)⟩
set_option maxRecDepth 100000 in
theorem mt_Q_damage : z_nth z_mts 32 = some (⟨"RollPlayerModel", "damage", "(IIII)I"⟩, prog_14_method_27_code, 9, (some (.int))) := rfl
theorem cw_Q_damage (own : String) : z_cw own ⟨"RollPlayerModel", "damage", "(IIII)I"⟩ prog_14_method_27_code 9 (some (.int)) 4 := ⟨(z_tb 1263 (by decide +kernel)), (z_tb 3 (by decide +kernel)), ⟨by decide +kernel, by decide +kernel⟩, by decide +kernel, by decide⟩
theorem ou_W_45_11 : z_okU1 z_mts "RollPlayerLaw" 45 4 (.invokevirtual 45) 11 32 := ⟨_, _, _, _, _, rfl, by decide, mt_Q_damage, cw_Q_damage _, Or.inl ⟨rfl, (z_tb 1260 (by decide +kernel)), (z_tb 1261 (by decide +kernel)), (z_tb 1262 (by decide +kernel))⟩, fun h => absurd h (by decide +kernel)⟩
set_option maxRecDepth 100000 in
theorem mt_P_byteOf : z_nth z_mts 214 = some (⟨"RollPlayer", "byteOf", "(III)I"⟩, prog_1_method_18_code, 5, (some (.int))) := rfl
theorem cw_P_byteOf (own : String) : z_cw own ⟨"RollPlayer", "byteOf", "(III)I"⟩ prog_1_method_18_code 5 (some (.int)) 3 := ⟨(z_tb 286 (by decide +kernel)), (z_tb 1 (by decide +kernel)), ⟨by decide +kernel, by decide +kernel⟩, by decide +kernel, by decide⟩
theorem ou_W_46_10 : z_okU1 z_mts "RollPlayerLaw" 46 3 (.invokevirtual 46) 10 214 := ⟨_, _, _, _, _, rfl, by decide, mt_P_byteOf, cw_P_byteOf _, Or.inl ⟨rfl, (z_tb 283 (by decide +kernel)), (z_tb 284 (by decide +kernel)), (z_tb 285 (by decide +kernel))⟩, fun h => absurd h (by decide +kernel)⟩
set_option maxRecDepth 100000 in
theorem mt_Q_byteOf : z_nth z_mts 34 = some (⟨"RollPlayerModel", "byteOf", "(III)I"⟩, prog_14_method_29_code, 6, (some (.int))) := rfl
theorem cw_Q_byteOf (own : String) : z_cw own ⟨"RollPlayerModel", "byteOf", "(III)I"⟩ prog_14_method_29_code 6 (some (.int)) 3 := ⟨(z_tb 1271 (by decide +kernel)), (z_tb 3 (by decide +kernel)), ⟨by decide +kernel, by decide +kernel⟩, by decide +kernel, by decide⟩
theorem ou_W_49_11 : z_okU1 z_mts "RollPlayerLaw" 49 3 (.invokevirtual 49) 11 34 := ⟨_, _, _, _, _, rfl, by decide, mt_Q_byteOf, cw_Q_byteOf _, Or.inl ⟨rfl, (z_tb 1268 (by decide +kernel)), (z_tb 1269 (by decide +kernel)), (z_tb 1270 (by decide +kernel))⟩, fun h => absurd h (by decide +kernel)⟩
set_option maxRecDepth 100000 in
theorem mt_P_head : z_nth z_mts 215 = some (⟨"RollPlayer", "head", "(III)J"⟩, prog_1_method_19_code, 7, (some (.long))) := rfl
theorem cw_P_head (own : String) : z_cw own ⟨"RollPlayer", "head", "(III)J"⟩ prog_1_method_19_code 7 (some (.long)) 3 := ⟨(z_tb 290 (by decide +kernel)), (z_tb 1 (by decide +kernel)), ⟨by decide +kernel, by decide +kernel⟩, by decide +kernel, by decide⟩
theorem ou_W_50_10 : z_okU1 z_mts "RollPlayerLaw" 50 3 (.invokevirtual 50) 10 215 := ⟨_, _, _, _, _, rfl, by decide, mt_P_head, cw_P_head _, Or.inl ⟨rfl, (z_tb 287 (by decide +kernel)), (z_tb 288 (by decide +kernel)), (z_tb 289 (by decide +kernel))⟩, fun h => absurd h (by decide +kernel)⟩
set_option maxRecDepth 100000 in
theorem mt_Q_head : z_nth z_mts 35 = some (⟨"RollPlayerModel", "head", "(III)J"⟩, prog_14_method_30_code, 6, (some (.long))) := rfl
theorem cw_Q_head (own : String) : z_cw own ⟨"RollPlayerModel", "head", "(III)J"⟩ prog_14_method_30_code 6 (some (.long)) 3 := ⟨(z_tb 1279 (by decide +kernel)), (z_tb 3 (by decide +kernel)), ⟨by decide +kernel, by decide +kernel⟩, by decide +kernel, by decide⟩
theorem ou_W_54_11 : z_okU1 z_mts "RollPlayerLaw" 54 3 (.invokevirtual 54) 11 35 := ⟨_, _, _, _, _, rfl, by decide, mt_Q_head, cw_Q_head _, Or.inl ⟨rfl, (z_tb 1276 (by decide +kernel)), (z_tb 1277 (by decide +kernel)), (z_tb 1278 (by decide +kernel))⟩, fun h => absurd h (by decide +kernel)⟩
set_option maxRecDepth 100000 in
theorem mt_P_sum : z_nth z_mts 216 = some (⟨"RollPlayer", "sum", "(II)J"⟩, prog_1_method_20_code, 4, (some (.long))) := rfl
theorem cw_P_sum (own : String) : z_cw own ⟨"RollPlayer", "sum", "(II)J"⟩ prog_1_method_20_code 4 (some (.long)) 2 := ⟨(z_tb 303 (by decide +kernel)), (z_tb 1 (by decide +kernel)), ⟨by decide +kernel, by decide +kernel⟩, by decide +kernel, by decide⟩
theorem ou_W_55_10 : z_okU1 z_mts "RollPlayerLaw" 55 2 (.invokevirtual 55) 10 216 := ⟨_, _, _, _, _, rfl, by decide, mt_P_sum, cw_P_sum _, Or.inl ⟨rfl, (z_tb 300 (by decide +kernel)), (z_tb 301 (by decide +kernel)), (z_tb 302 (by decide +kernel))⟩, fun h => absurd h (by decide +kernel)⟩
set_option maxRecDepth 100000 in
theorem mt_Q_sum : z_nth z_mts 36 = some (⟨"RollPlayerModel", "sum", "(II)J"⟩, prog_14_method_31_code, 4, (some (.long))) := rfl
theorem cw_Q_sum (own : String) : z_cw own ⟨"RollPlayerModel", "sum", "(II)J"⟩ prog_14_method_31_code 4 (some (.long)) 2 := ⟨(z_tb 1283 (by decide +kernel)), (z_tb 3 (by decide +kernel)), ⟨by decide +kernel, by decide +kernel⟩, by decide +kernel, by decide⟩
theorem ou_W_59_11 : z_okU1 z_mts "RollPlayerLaw" 59 2 (.invokevirtual 59) 11 36 := ⟨_, _, _, _, _, rfl, by decide, mt_Q_sum, cw_Q_sum _, Or.inl ⟨rfl, (z_tb 1280 (by decide +kernel)), (z_tb 1281 (by decide +kernel)), (z_tb 1282 (by decide +kernel))⟩, fun h => absurd h (by decide +kernel)⟩
set_option maxRecDepth 100000 in
theorem mt_P_read : z_nth z_mts 217 = some (⟨"RollPlayer", "read", "(II)I"⟩, prog_1_method_21_code, 5, (some (.int))) := rfl
theorem cw_P_read (own : String) : z_cw own ⟨"RollPlayer", "read", "(II)I"⟩ prog_1_method_21_code 5 (some (.int)) 2 := ⟨(z_tb 308 (by decide +kernel)), (z_tb 1 (by decide +kernel)), ⟨by decide +kernel, by decide +kernel⟩, by decide +kernel, by decide⟩
theorem ou_W_60_10 : z_okU1 z_mts "RollPlayerLaw" 60 2 (.invokevirtual 60) 10 217 := ⟨_, _, _, _, _, rfl, by decide, mt_P_read, cw_P_read _, Or.inl ⟨rfl, (z_tb 305 (by decide +kernel)), (z_tb 306 (by decide +kernel)), (z_tb 307 (by decide +kernel))⟩, fun h => absurd h (by decide +kernel)⟩
set_option maxRecDepth 100000 in
theorem mt_Q_read : z_nth z_mts 37 = some (⟨"RollPlayerModel", "read", "(II)I"⟩, prog_14_method_32_code, 4, (some (.int))) := rfl
theorem cw_Q_read (own : String) : z_cw own ⟨"RollPlayerModel", "read", "(II)I"⟩ prog_14_method_32_code 4 (some (.int)) 2 := ⟨(z_tb 1287 (by decide +kernel)), (z_tb 3 (by decide +kernel)), ⟨by decide +kernel, by decide +kernel⟩, by decide +kernel, by decide⟩
theorem ou_W_63_11 : z_okU1 z_mts "RollPlayerLaw" 63 2 (.invokevirtual 63) 11 37 := ⟨_, _, _, _, _, rfl, by decide, mt_Q_read, cw_Q_read _, Or.inl ⟨rfl, (z_tb 1284 (by decide +kernel)), (z_tb 1285 (by decide +kernel)), (z_tb 1286 (by decide +kernel))⟩, fun h => absurd h (by decide +kernel)⟩
set_option maxRecDepth 100000 in
theorem mt_P_whole : z_nth z_mts 218 = some (⟨"RollPlayer", "whole", "(I)I"⟩, prog_1_method_22_code, 5, (some (.int))) := rfl
theorem cw_P_whole (own : String) : z_cw own ⟨"RollPlayer", "whole", "(I)I"⟩ prog_1_method_22_code 5 (some (.int)) 1 := ⟨(z_tb 312 (by decide +kernel)), (z_tb 1 (by decide +kernel)), ⟨by decide +kernel, by decide +kernel⟩, by decide +kernel, by decide⟩
theorem ou_W_64_10 : z_okU1 z_mts "RollPlayerLaw" 64 1 (.invokevirtual 64) 10 218 := ⟨_, _, _, _, _, rfl, by decide, mt_P_whole, cw_P_whole _, Or.inl ⟨rfl, (z_tb 309 (by decide +kernel)), (z_tb 310 (by decide +kernel)), (z_tb 311 (by decide +kernel))⟩, fun h => absurd h (by decide +kernel)⟩
set_option maxRecDepth 100000 in
theorem mt_Q_whole : z_nth z_mts 38 = some (⟨"RollPlayerModel", "whole", "(I)I"⟩, prog_14_method_33_code, 4, (some (.int))) := rfl
theorem cw_Q_whole (own : String) : z_cw own ⟨"RollPlayerModel", "whole", "(I)I"⟩ prog_14_method_33_code 4 (some (.int)) 1 := ⟨(z_tb 1291 (by decide +kernel)), (z_tb 3 (by decide +kernel)), ⟨by decide +kernel, by decide +kernel⟩, by decide +kernel, by decide⟩
theorem ou_W_68_11 : z_okU1 z_mts "RollPlayerLaw" 68 1 (.invokevirtual 68) 11 38 := ⟨_, _, _, _, _, rfl, by decide, mt_Q_whole, cw_Q_whole _, Or.inl ⟨rfl, (z_tb 1288 (by decide +kernel)), (z_tb 1289 (by decide +kernel)), (z_tb 1290 (by decide +kernel))⟩, fun h => absurd h (by decide +kernel)⟩
set_option maxRecDepth 100000 in
theorem mt_P_finding : z_nth z_mts 219 = some (⟨"RollPlayer", "finding", "(II)I"⟩, prog_1_method_23_code, 6, (some (.int))) := rfl
theorem cw_P_finding (own : String) : z_cw own ⟨"RollPlayer", "finding", "(II)I"⟩ prog_1_method_23_code 6 (some (.int)) 2 := ⟨(z_tb 322 (by decide +kernel)), (z_tb 1 (by decide +kernel)), ⟨by decide +kernel, by decide +kernel⟩, by decide +kernel, by decide⟩
theorem ou_W_69_10 : z_okU1 z_mts "RollPlayerLaw" 69 2 (.invokevirtual 69) 10 219 := ⟨_, _, _, _, _, rfl, by decide, mt_P_finding, cw_P_finding _, Or.inl ⟨rfl, (z_tb 319 (by decide +kernel)), (z_tb 320 (by decide +kernel)), (z_tb 321 (by decide +kernel))⟩, fun h => absurd h (by decide +kernel)⟩
set_option maxRecDepth 100000 in
theorem mt_Q_finding : z_nth z_mts 39 = some (⟨"RollPlayerModel", "finding", "(II)I"⟩, prog_14_method_34_code, 5, (some (.int))) := rfl
theorem cw_Q_finding (own : String) : z_cw own ⟨"RollPlayerModel", "finding", "(II)I"⟩ prog_14_method_34_code 5 (some (.int)) 2 := ⟨(z_tb 1295 (by decide +kernel)), (z_tb 3 (by decide +kernel)), ⟨by decide +kernel, by decide +kernel⟩, by decide +kernel, by decide⟩
theorem ou_W_72_11 : z_okU1 z_mts "RollPlayerLaw" 72 2 (.invokevirtual 72) 11 39 := ⟨_, _, _, _, _, rfl, by decide, mt_Q_finding, cw_Q_finding _, Or.inl ⟨rfl, (z_tb 1292 (by decide +kernel)), (z_tb 1293 (by decide +kernel)), (z_tb 1294 (by decide +kernel))⟩, fun h => absurd h (by decide +kernel)⟩
set_option maxRecDepth 100000 in
theorem mt_P_told : z_nth z_mts 220 = some (⟨"RollPlayer", "told", "(III)I"⟩, prog_1_method_24_code, 5, (some (.int))) := rfl
theorem cw_P_told (own : String) : z_cw own ⟨"RollPlayer", "told", "(III)I"⟩ prog_1_method_24_code 5 (some (.int)) 3 := ⟨(z_tb 330 (by decide +kernel)), (z_tb 1 (by decide +kernel)), ⟨by decide +kernel, by decide +kernel⟩, by decide +kernel, by decide⟩
theorem ou_W_73_10 : z_okU1 z_mts "RollPlayerLaw" 73 3 (.invokevirtual 73) 10 220 := ⟨_, _, _, _, _, rfl, by decide, mt_P_told, cw_P_told _, Or.inl ⟨rfl, (z_tb 327 (by decide +kernel)), (z_tb 328 (by decide +kernel)), (z_tb 329 (by decide +kernel))⟩, fun h => absurd h (by decide +kernel)⟩
set_option maxRecDepth 100000 in
theorem mt_Q_told : z_nth z_mts 40 = some (⟨"RollPlayerModel", "told", "(III)I"⟩, prog_14_method_35_code, 5, (some (.int))) := rfl
theorem cw_Q_told (own : String) : z_cw own ⟨"RollPlayerModel", "told", "(III)I"⟩ prog_14_method_35_code 5 (some (.int)) 3 := ⟨(z_tb 1299 (by decide +kernel)), (z_tb 3 (by decide +kernel)), ⟨by decide +kernel, by decide +kernel⟩, by decide +kernel, by decide⟩
theorem ou_W_76_11 : z_okU1 z_mts "RollPlayerLaw" 76 3 (.invokevirtual 76) 11 40 := ⟨_, _, _, _, _, rfl, by decide, mt_Q_told, cw_Q_told _, Or.inl ⟨rfl, (z_tb 1296 (by decide +kernel)), (z_tb 1297 (by decide +kernel)), (z_tb 1298 (by decide +kernel))⟩, fun h => absurd h (by decide +kernel)⟩
set_option maxRecDepth 100000 in
theorem mt_P_instrument : z_nth z_mts 221 = some (⟨"RollPlayer", "instrument", "(I)I"⟩, prog_1_method_25_code, 2, (some (.int))) := rfl
theorem cw_P_instrument (own : String) : z_cw own ⟨"RollPlayer", "instrument", "(I)I"⟩ prog_1_method_25_code 2 (some (.int)) 1 := ⟨(z_tb 334 (by decide +kernel)), (z_tb 1 (by decide +kernel)), ⟨by decide +kernel, by decide +kernel⟩, by decide +kernel, by decide⟩
theorem ou_W_77_10 : z_okU1 z_mts "RollPlayerLaw" 77 1 (.invokevirtual 77) 10 221 := ⟨_, _, _, _, _, rfl, by decide, mt_P_instrument, cw_P_instrument _, Or.inl ⟨rfl, (z_tb 331 (by decide +kernel)), (z_tb 332 (by decide +kernel)), (z_tb 333 (by decide +kernel))⟩, fun h => absurd h (by decide +kernel)⟩
set_option maxRecDepth 100000 in
theorem mt_Q_instrument : z_nth z_mts 42 = some (⟨"RollPlayerModel", "instrument", "(I)I"⟩, prog_14_method_37_code, 2, (some (.int))) := rfl
theorem cw_Q_instrument (own : String) : z_cw own ⟨"RollPlayerModel", "instrument", "(I)I"⟩ prog_14_method_37_code 2 (some (.int)) 1 := ⟨(z_tb 1303 (by decide +kernel)), (z_tb 3 (by decide +kernel)), ⟨by decide +kernel, by decide +kernel⟩, by decide +kernel, by decide⟩
theorem ou_W_80_11 : z_okU1 z_mts "RollPlayerLaw" 80 1 (.invokevirtual 80) 11 42 := ⟨_, _, _, _, _, rfl, by decide, mt_Q_instrument, cw_Q_instrument _, Or.inl ⟨rfl, (z_tb 1300 (by decide +kernel)), (z_tb 1301 (by decide +kernel)), (z_tb 1302 (by decide +kernel))⟩, fun h => absurd h (by decide +kernel)⟩
set_option maxRecDepth 100000 in
theorem mt_P_couple : z_nth z_mts 222 = some (⟨"RollPlayer", "couple", "(II)I"⟩, prog_1_method_26_code, 6, (some (.int))) := rfl
theorem cw_P_couple (own : String) : z_cw own ⟨"RollPlayer", "couple", "(II)I"⟩ prog_1_method_26_code 6 (some (.int)) 2 := ⟨(z_tb 459 (by decide +kernel)), (z_tb 1 (by decide +kernel)), ⟨by decide +kernel, by decide +kernel⟩, by decide +kernel, by decide⟩
theorem ou_W_81_10 : z_okU1 z_mts "RollPlayerLaw" 81 2 (.invokevirtual 81) 10 222 := ⟨_, _, _, _, _, rfl, by decide, mt_P_couple, cw_P_couple _, Or.inl ⟨rfl, (z_tb 456 (by decide +kernel)), (z_tb 457 (by decide +kernel)), (z_tb 458 (by decide +kernel))⟩, fun h => absurd h (by decide +kernel)⟩
set_option maxRecDepth 100000 in
theorem mt_Q_couple : z_nth z_mts 45 = some (⟨"RollPlayerModel", "couple", "(II)I"⟩, prog_14_method_40_code, 4, (some (.int))) := rfl
theorem cw_Q_couple (own : String) : z_cw own ⟨"RollPlayerModel", "couple", "(II)I"⟩ prog_14_method_40_code 4 (some (.int)) 2 := ⟨(z_tb 1307 (by decide +kernel)), (z_tb 3 (by decide +kernel)), ⟨by decide +kernel, by decide +kernel⟩, by decide +kernel, by decide⟩
theorem ou_W_84_11 : z_okU1 z_mts "RollPlayerLaw" 84 2 (.invokevirtual 84) 11 45 := ⟨_, _, _, _, _, rfl, by decide, mt_Q_couple, cw_Q_couple _, Or.inl ⟨rfl, (z_tb 1304 (by decide +kernel)), (z_tb 1305 (by decide +kernel)), (z_tb 1306 (by decide +kernel))⟩, fun h => absurd h (by decide +kernel)⟩
set_option maxRecDepth 100000 in
theorem mt_P_chest : z_nth z_mts 223 = some (⟨"RollPlayer", "chest", "(II)I"⟩, prog_1_method_27_code, 3, (some (.int))) := rfl
theorem cw_P_chest (own : String) : z_cw own ⟨"RollPlayer", "chest", "(II)I"⟩ prog_1_method_27_code 3 (some (.int)) 2 := ⟨(z_tb 496 (by decide +kernel)), (z_tb 1 (by decide +kernel)), ⟨by decide +kernel, by decide +kernel⟩, by decide +kernel, by decide⟩
theorem ou_W_85_10 : z_okU1 z_mts "RollPlayerLaw" 85 2 (.invokevirtual 85) 10 223 := ⟨_, _, _, _, _, rfl, by decide, mt_P_chest, cw_P_chest _, Or.inl ⟨rfl, (z_tb 493 (by decide +kernel)), (z_tb 494 (by decide +kernel)), (z_tb 495 (by decide +kernel))⟩, fun h => absurd h (by decide +kernel)⟩
set_option maxRecDepth 100000 in
theorem mt_Q_chest : z_nth z_mts 46 = some (⟨"RollPlayerModel", "chest", "(II)I"⟩, prog_14_method_41_code, 4, (some (.int))) := rfl
theorem cw_Q_chest (own : String) : z_cw own ⟨"RollPlayerModel", "chest", "(II)I"⟩ prog_14_method_41_code 4 (some (.int)) 2 := ⟨(z_tb 1323 (by decide +kernel)), (z_tb 3 (by decide +kernel)), ⟨by decide +kernel, by decide +kernel⟩, by decide +kernel, by decide⟩
theorem ou_W_88_11 : z_okU1 z_mts "RollPlayerLaw" 88 2 (.invokevirtual 88) 11 46 := ⟨_, _, _, _, _, rfl, by decide, mt_Q_chest, cw_Q_chest _, Or.inl ⟨rfl, (z_tb 1320 (by decide +kernel)), (z_tb 1321 (by decide +kernel)), (z_tb 1322 (by decide +kernel))⟩, fun h => absurd h (by decide +kernel)⟩
set_option maxRecDepth 100000 in
theorem mt_P_place : z_nth z_mts 224 = some (⟨"RollPlayer", "place", "(III)I"⟩, prog_1_method_28_code, 6, (some (.int))) := rfl
theorem cw_P_place (own : String) : z_cw own ⟨"RollPlayer", "place", "(III)I"⟩ prog_1_method_28_code 6 (some (.int)) 3 := ⟨(z_tb 511 (by decide +kernel)), (z_tb 1 (by decide +kernel)), ⟨by decide +kernel, by decide +kernel⟩, by decide +kernel, by decide⟩
theorem ou_W_89_10 : z_okU1 z_mts "RollPlayerLaw" 89 3 (.invokevirtual 89) 10 224 := ⟨_, _, _, _, _, rfl, by decide, mt_P_place, cw_P_place _, Or.inl ⟨rfl, (z_tb 508 (by decide +kernel)), (z_tb 509 (by decide +kernel)), (z_tb 510 (by decide +kernel))⟩, fun h => absurd h (by decide +kernel)⟩
set_option maxRecDepth 100000 in
theorem mt_Q_place : z_nth z_mts 48 = some (⟨"RollPlayerModel", "place", "(III)I"⟩, prog_14_method_43_code, 4, (some (.int))) := rfl
theorem cw_Q_place (own : String) : z_cw own ⟨"RollPlayerModel", "place", "(III)I"⟩ prog_14_method_43_code 4 (some (.int)) 3 := ⟨(z_tb 1327 (by decide +kernel)), (z_tb 3 (by decide +kernel)), ⟨by decide +kernel, by decide +kernel⟩, by decide +kernel, by decide⟩
theorem ou_W_92_11 : z_okU1 z_mts "RollPlayerLaw" 92 3 (.invokevirtual 92) 11 48 := ⟨_, _, _, _, _, rfl, by decide, mt_Q_place, cw_Q_place _, Or.inl ⟨rfl, (z_tb 1324 (by decide +kernel)), (z_tb 1325 (by decide +kernel)), (z_tb 1326 (by decide +kernel))⟩, fun h => absurd h (by decide +kernel)⟩
set_option maxRecDepth 100000 in
theorem mt_P_wire : z_nth z_mts 225 = some (⟨"RollPlayer", "wire", "(III)I"⟩, prog_1_method_29_code, 4, (some (.int))) := rfl
theorem cw_P_wire (own : String) : z_cw own ⟨"RollPlayer", "wire", "(III)I"⟩ prog_1_method_29_code 4 (some (.int)) 3 := ⟨(z_tb 535 (by decide +kernel)), (z_tb 1 (by decide +kernel)), ⟨by decide +kernel, by decide +kernel⟩, by decide +kernel, by decide⟩
theorem ou_W_93_10 : z_okU1 z_mts "RollPlayerLaw" 93 3 (.invokevirtual 93) 10 225 := ⟨_, _, _, _, _, rfl, by decide, mt_P_wire, cw_P_wire _, Or.inl ⟨rfl, (z_tb 532 (by decide +kernel)), (z_tb 533 (by decide +kernel)), (z_tb 534 (by decide +kernel))⟩, fun h => absurd h (by decide +kernel)⟩
set_option maxRecDepth 100000 in
theorem mt_Q_wire : z_nth z_mts 49 = some (⟨"RollPlayerModel", "wire", "(III)I"⟩, prog_14_method_44_code, 4, (some (.int))) := rfl
theorem cw_Q_wire (own : String) : z_cw own ⟨"RollPlayerModel", "wire", "(III)I"⟩ prog_14_method_44_code 4 (some (.int)) 3 := ⟨(z_tb 1334 (by decide +kernel)), (z_tb 3 (by decide +kernel)), ⟨by decide +kernel, by decide +kernel⟩, by decide +kernel, by decide⟩
theorem ou_W_96_11 : z_okU1 z_mts "RollPlayerLaw" 96 3 (.invokevirtual 96) 11 49 := ⟨_, _, _, _, _, rfl, by decide, mt_Q_wire, cw_Q_wire _, Or.inl ⟨rfl, (z_tb 1331 (by decide +kernel)), (z_tb 1332 (by decide +kernel)), (z_tb 1333 (by decide +kernel))⟩, fun h => absurd h (by decide +kernel)⟩
set_option maxRecDepth 100000 in
theorem mt_P_spoil : z_nth z_mts 226 = some (⟨"RollPlayer", "spoil", "(II)I"⟩, prog_1_method_30_code, 4, (some (.int))) := rfl
theorem cw_P_spoil (own : String) : z_cw own ⟨"RollPlayer", "spoil", "(II)I"⟩ prog_1_method_30_code 4 (some (.int)) 2 := ⟨(z_tb 539 (by decide +kernel)), (z_tb 1 (by decide +kernel)), ⟨by decide +kernel, by decide +kernel⟩, by decide +kernel, by decide⟩
theorem ou_W_97_10 : z_okU1 z_mts "RollPlayerLaw" 97 2 (.invokevirtual 97) 10 226 := ⟨_, _, _, _, _, rfl, by decide, mt_P_spoil, cw_P_spoil _, Or.inl ⟨rfl, (z_tb 536 (by decide +kernel)), (z_tb 537 (by decide +kernel)), (z_tb 538 (by decide +kernel))⟩, fun h => absurd h (by decide +kernel)⟩
set_option maxRecDepth 100000 in
theorem mt_Q_spoil : z_nth z_mts 50 = some (⟨"RollPlayerModel", "spoil", "(II)I"⟩, prog_14_method_45_code, 4, (some (.int))) := rfl
theorem cw_Q_spoil (own : String) : z_cw own ⟨"RollPlayerModel", "spoil", "(II)I"⟩ prog_14_method_45_code 4 (some (.int)) 2 := ⟨(z_tb 1338 (by decide +kernel)), (z_tb 3 (by decide +kernel)), ⟨by decide +kernel, by decide +kernel⟩, by decide +kernel, by decide⟩
theorem ou_W_100_11 : z_okU1 z_mts "RollPlayerLaw" 100 2 (.invokevirtual 100) 11 50 := ⟨_, _, _, _, _, rfl, by decide, mt_Q_spoil, cw_Q_spoil _, Or.inl ⟨rfl, (z_tb 1335 (by decide +kernel)), (z_tb 1336 (by decide +kernel)), (z_tb 1337 (by decide +kernel))⟩, fun h => absurd h (by decide +kernel)⟩
set_option maxRecDepth 100000 in
theorem mt_P_tune : z_nth z_mts 227 = some (⟨"RollPlayer", "tune", "(III)I"⟩, prog_1_method_31_code, 5, (some (.int))) := rfl
theorem cw_P_tune (own : String) : z_cw own ⟨"RollPlayer", "tune", "(III)I"⟩ prog_1_method_31_code 5 (some (.int)) 3 := ⟨(z_tb 543 (by decide +kernel)), (z_tb 1 (by decide +kernel)), ⟨by decide +kernel, by decide +kernel⟩, by decide +kernel, by decide⟩
theorem ou_W_101_10 : z_okU1 z_mts "RollPlayerLaw" 101 3 (.invokevirtual 101) 10 227 := ⟨_, _, _, _, _, rfl, by decide, mt_P_tune, cw_P_tune _, Or.inl ⟨rfl, (z_tb 540 (by decide +kernel)), (z_tb 541 (by decide +kernel)), (z_tb 542 (by decide +kernel))⟩, fun h => absurd h (by decide +kernel)⟩
set_option maxRecDepth 100000 in
theorem mt_Q_tune : z_nth z_mts 51 = some (⟨"RollPlayerModel", "tune", "(III)I"⟩, prog_14_method_46_code, 4, (some (.int))) := rfl
theorem cw_Q_tune (own : String) : z_cw own ⟨"RollPlayerModel", "tune", "(III)I"⟩ prog_14_method_46_code 4 (some (.int)) 3 := ⟨(z_tb 1342 (by decide +kernel)), (z_tb 3 (by decide +kernel)), ⟨by decide +kernel, by decide +kernel⟩, by decide +kernel, by decide⟩
theorem ou_W_104_11 : z_okU1 z_mts "RollPlayerLaw" 104 3 (.invokevirtual 104) 11 51 := ⟨_, _, _, _, _, rfl, by decide, mt_Q_tune, cw_Q_tune _, Or.inl ⟨rfl, (z_tb 1339 (by decide +kernel)), (z_tb 1340 (by decide +kernel)), (z_tb 1341 (by decide +kernel))⟩, fun h => absurd h (by decide +kernel)⟩
set_option maxRecDepth 100000 in
theorem mt_P_base : z_nth z_mts 228 = some (⟨"RollPlayer", "base", "(I)I"⟩, prog_1_method_32_code, 2, (some (.int))) := rfl
theorem cw_P_base (own : String) : z_cw own ⟨"RollPlayer", "base", "(I)I"⟩ prog_1_method_32_code 2 (some (.int)) 1 := ⟨(z_tb 547 (by decide +kernel)), (z_tb 1 (by decide +kernel)), ⟨by decide +kernel, by decide +kernel⟩, by decide +kernel, by decide⟩
theorem ou_W_105_10 : z_okU1 z_mts "RollPlayerLaw" 105 1 (.invokevirtual 105) 10 228 := ⟨_, _, _, _, _, rfl, by decide, mt_P_base, cw_P_base _, Or.inl ⟨rfl, (z_tb 544 (by decide +kernel)), (z_tb 545 (by decide +kernel)), (z_tb 546 (by decide +kernel))⟩, fun h => absurd h (by decide +kernel)⟩
set_option maxRecDepth 100000 in
theorem mt_Q_base : z_nth z_mts 52 = some (⟨"RollPlayerModel", "base", "(I)I"⟩, prog_14_method_47_code, 2, (some (.int))) := rfl
theorem cw_Q_base (own : String) : z_cw own ⟨"RollPlayerModel", "base", "(I)I"⟩ prog_14_method_47_code 2 (some (.int)) 1 := ⟨(z_tb 1346 (by decide +kernel)), (z_tb 3 (by decide +kernel)), ⟨by decide +kernel, by decide +kernel⟩, by decide +kernel, by decide⟩
theorem ou_W_108_11 : z_okU1 z_mts "RollPlayerLaw" 108 1 (.invokevirtual 108) 11 52 := ⟨_, _, _, _, _, rfl, by decide, mt_Q_base, cw_Q_base _, Or.inl ⟨rfl, (z_tb 1343 (by decide +kernel)), (z_tb 1344 (by decide +kernel)), (z_tb 1345 (by decide +kernel))⟩, fun h => absurd h (by decide +kernel)⟩
set_option maxRecDepth 100000 in
theorem mt_P_frequency : z_nth z_mts 229 = some (⟨"RollPlayer", "frequency", "(I)J"⟩, prog_1_method_33_code, 3, (some (.long))) := rfl
theorem cw_P_frequency (own : String) : z_cw own ⟨"RollPlayer", "frequency", "(I)J"⟩ prog_1_method_33_code 3 (some (.long)) 1 := ⟨(z_tb 551 (by decide +kernel)), (z_tb 1 (by decide +kernel)), ⟨by decide +kernel, by decide +kernel⟩, by decide +kernel, by decide⟩
theorem ou_W_109_10 : z_okU1 z_mts "RollPlayerLaw" 109 1 (.invokevirtual 109) 10 229 := ⟨_, _, _, _, _, rfl, by decide, mt_P_frequency, cw_P_frequency _, Or.inl ⟨rfl, (z_tb 548 (by decide +kernel)), (z_tb 549 (by decide +kernel)), (z_tb 550 (by decide +kernel))⟩, fun h => absurd h (by decide +kernel)⟩
set_option maxRecDepth 100000 in
theorem mt_Q_frequency : z_nth z_mts 58 = some (⟨"RollPlayerModel", "frequency", "(I)J"⟩, prog_14_method_53_code, 4, (some (.long))) := rfl
theorem cw_Q_frequency (own : String) : z_cw own ⟨"RollPlayerModel", "frequency", "(I)J"⟩ prog_14_method_53_code 4 (some (.long)) 1 := ⟨(z_tb 1351 (by decide +kernel)), (z_tb 3 (by decide +kernel)), ⟨by decide +kernel, by decide +kernel⟩, by decide +kernel, by decide⟩
theorem ou_W_113_11 : z_okU1 z_mts "RollPlayerLaw" 113 1 (.invokevirtual 113) 11 58 := ⟨_, _, _, _, _, rfl, by decide, mt_Q_frequency, cw_Q_frequency _, Or.inl ⟨rfl, (z_tb 1348 (by decide +kernel)), (z_tb 1349 (by decide +kernel)), (z_tb 1350 (by decide +kernel))⟩, fun h => absurd h (by decide +kernel)⟩
set_option maxRecDepth 100000 in
theorem mt_P_mute : z_nth z_mts 231 = some (⟨"RollPlayer", "mute", "(I)I"⟩, prog_1_method_35_code, 3, (some (.int))) := rfl
theorem cw_P_mute (own : String) : z_cw own ⟨"RollPlayer", "mute", "(I)I"⟩ prog_1_method_35_code 3 (some (.int)) 1 := ⟨(z_tb 616 (by decide +kernel)), (z_tb 1 (by decide +kernel)), ⟨by decide +kernel, by decide +kernel⟩, by decide +kernel, by decide⟩
theorem ou_W_114_10 : z_okU1 z_mts "RollPlayerLaw" 114 1 (.invokevirtual 114) 10 231 := ⟨_, _, _, _, _, rfl, by decide, mt_P_mute, cw_P_mute _, Or.inl ⟨rfl, (z_tb 613 (by decide +kernel)), (z_tb 614 (by decide +kernel)), (z_tb 615 (by decide +kernel))⟩, fun h => absurd h (by decide +kernel)⟩
set_option maxRecDepth 100000 in
theorem mt_Q_mute : z_nth z_mts 59 = some (⟨"RollPlayerModel", "mute", "(I)I"⟩, prog_14_method_54_code, 5, (some (.int))) := rfl
theorem cw_Q_mute (own : String) : z_cw own ⟨"RollPlayerModel", "mute", "(I)I"⟩ prog_14_method_54_code 5 (some (.int)) 1 := ⟨(z_tb 1390 (by decide +kernel)), (z_tb 3 (by decide +kernel)), ⟨by decide +kernel, by decide +kernel⟩, by decide +kernel, by decide⟩
theorem ou_W_117_11 : z_okU1 z_mts "RollPlayerLaw" 117 1 (.invokevirtual 117) 11 59 := ⟨_, _, _, _, _, rfl, by decide, mt_Q_mute, cw_Q_mute _, Or.inl ⟨rfl, (z_tb 1387 (by decide +kernel)), (z_tb 1388 (by decide +kernel)), (z_tb 1389 (by decide +kernel))⟩, fun h => absurd h (by decide +kernel)⟩
set_option maxRecDepth 100000 in
theorem mt_P_higher : z_nth z_mts 232 = some (⟨"RollPlayer", "higher", "(II)I"⟩, prog_1_method_36_code, 9, (some (.int))) := rfl
theorem cw_P_higher (own : String) : z_cw own ⟨"RollPlayer", "higher", "(II)I"⟩ prog_1_method_36_code 9 (some (.int)) 2 := ⟨(z_tb 620 (by decide +kernel)), (z_tb 1 (by decide +kernel)), ⟨by decide +kernel, by decide +kernel⟩, by decide +kernel, by decide⟩
theorem ou_W_118_10 : z_okU1 z_mts "RollPlayerLaw" 118 2 (.invokevirtual 118) 10 232 := ⟨_, _, _, _, _, rfl, by decide, mt_P_higher, cw_P_higher _, Or.inl ⟨rfl, (z_tb 617 (by decide +kernel)), (z_tb 618 (by decide +kernel)), (z_tb 619 (by decide +kernel))⟩, fun h => absurd h (by decide +kernel)⟩
set_option maxRecDepth 100000 in
theorem mt_Q_higher : z_nth z_mts 60 = some (⟨"RollPlayerModel", "higher", "(II)I"⟩, prog_14_method_55_code, 8, (some (.int))) := rfl
theorem cw_Q_higher (own : String) : z_cw own ⟨"RollPlayerModel", "higher", "(II)I"⟩ prog_14_method_55_code 8 (some (.int)) 2 := ⟨(z_tb 1394 (by decide +kernel)), (z_tb 3 (by decide +kernel)), ⟨by decide +kernel, by decide +kernel⟩, by decide +kernel, by decide⟩
theorem ou_W_121_11 : z_okU1 z_mts "RollPlayerLaw" 121 2 (.invokevirtual 121) 11 60 := ⟨_, _, _, _, _, rfl, by decide, mt_Q_higher, cw_Q_higher _, Or.inl ⟨rfl, (z_tb 1391 (by decide +kernel)), (z_tb 1392 (by decide +kernel)), (z_tb 1393 (by decide +kernel))⟩, fun h => absurd h (by decide +kernel)⟩
set_option maxRecDepth 100000 in
theorem mt_P_play : z_nth z_mts 233 = some (⟨"RollPlayer", "play", "(I)I"⟩, prog_1_method_37_code, 3, (some (.int))) := rfl
theorem cw_P_play (own : String) : z_cw own ⟨"RollPlayer", "play", "(I)I"⟩ prog_1_method_37_code 3 (some (.int)) 1 := ⟨(z_tb 624 (by decide +kernel)), (z_tb 1 (by decide +kernel)), ⟨by decide +kernel, by decide +kernel⟩, by decide +kernel, by decide⟩
theorem ou_W_122_10 : z_okU1 z_mts "RollPlayerLaw" 122 1 (.invokevirtual 122) 10 233 := ⟨_, _, _, _, _, rfl, by decide, mt_P_play, cw_P_play _, Or.inl ⟨rfl, (z_tb 621 (by decide +kernel)), (z_tb 622 (by decide +kernel)), (z_tb 623 (by decide +kernel))⟩, fun h => absurd h (by decide +kernel)⟩
set_option maxRecDepth 100000 in
theorem mt_Q_play : z_nth z_mts 73 = some (⟨"RollPlayerModel", "play", "(I)I"⟩, prog_14_method_68_code, 3, (some (.int))) := rfl
theorem cw_Q_play (own : String) : z_cw own ⟨"RollPlayerModel", "play", "(I)I"⟩ prog_14_method_68_code 3 (some (.int)) 1 := ⟨(z_tb 1398 (by decide +kernel)), (z_tb 3 (by decide +kernel)), ⟨by decide +kernel, by decide +kernel⟩, by decide +kernel, by decide⟩
theorem ou_W_125_11 : z_okU1 z_mts "RollPlayerLaw" 125 1 (.invokevirtual 125) 11 73 := ⟨_, _, _, _, _, rfl, by decide, mt_Q_play, cw_Q_play _, Or.inl ⟨rfl, (z_tb 1395 (by decide +kernel)), (z_tb 1396 (by decide +kernel)), (z_tb 1397 (by decide +kernel))⟩, fun h => absurd h (by decide +kernel)⟩
set_option maxRecDepth 100000 in
theorem mt_P_tick : z_nth z_mts 234 = some (⟨"RollPlayer", "tick", "(I)I"⟩, prog_1_method_38_code, 3, (some (.int))) := rfl
theorem cw_P_tick (own : String) : z_cw own ⟨"RollPlayer", "tick", "(I)I"⟩ prog_1_method_38_code 3 (some (.int)) 1 := ⟨(z_tb 646 (by decide +kernel)), (z_tb 1 (by decide +kernel)), ⟨by decide +kernel, by decide +kernel⟩, by decide +kernel, by decide⟩
theorem ou_W_126_10 : z_okU1 z_mts "RollPlayerLaw" 126 1 (.invokevirtual 126) 10 234 := ⟨_, _, _, _, _, rfl, by decide, mt_P_tick, cw_P_tick _, Or.inl ⟨rfl, (z_tb 643 (by decide +kernel)), (z_tb 644 (by decide +kernel)), (z_tb 645 (by decide +kernel))⟩, fun h => absurd h (by decide +kernel)⟩
set_option maxRecDepth 100000 in
theorem mt_Q_tick : z_nth z_mts 74 = some (⟨"RollPlayerModel", "tick", "(I)I"⟩, prog_14_method_69_code, 4, (some (.int))) := rfl
theorem cw_Q_tick (own : String) : z_cw own ⟨"RollPlayerModel", "tick", "(I)I"⟩ prog_14_method_69_code 4 (some (.int)) 1 := ⟨(z_tb 1406 (by decide +kernel)), (z_tb 3 (by decide +kernel)), ⟨by decide +kernel, by decide +kernel⟩, by decide +kernel, by decide⟩
theorem ou_W_129_11 : z_okU1 z_mts "RollPlayerLaw" 129 1 (.invokevirtual 129) 11 74 := ⟨_, _, _, _, _, rfl, by decide, mt_Q_tick, cw_Q_tick _, Or.inl ⟨rfl, (z_tb 1403 (by decide +kernel)), (z_tb 1404 (by decide +kernel)), (z_tb 1405 (by decide +kernel))⟩, fun h => absurd h (by decide +kernel)⟩
set_option maxRecDepth 100000 in
theorem mt_P_halt : z_nth z_mts 235 = some (⟨"RollPlayer", "halt", "()I"⟩, prog_1_method_39_code, 2, (some (.int))) := rfl
theorem cw_P_halt (own : String) : z_cw own ⟨"RollPlayer", "halt", "()I"⟩ prog_1_method_39_code 2 (some (.int)) 0 := ⟨(z_tb 730 (by decide +kernel)), (z_tb 1 (by decide +kernel)), ⟨by decide +kernel, by decide +kernel⟩, by decide +kernel, by decide⟩
theorem ou_W_130_10 : z_okU1 z_mts "RollPlayerLaw" 130 0 (.invokevirtual 130) 10 235 := ⟨_, _, _, _, _, rfl, by decide, mt_P_halt, cw_P_halt _, Or.inl ⟨rfl, (z_tb 727 (by decide +kernel)), (z_tb 728 (by decide +kernel)), (z_tb 729 (by decide +kernel))⟩, fun h => absurd h (by decide +kernel)⟩
set_option maxRecDepth 100000 in
theorem mt_Q_halt : z_nth z_mts 75 = some (⟨"RollPlayerModel", "halt", "()I"⟩, prog_14_method_70_code, 2, (some (.int))) := rfl
theorem cw_Q_halt (own : String) : z_cw own ⟨"RollPlayerModel", "halt", "()I"⟩ prog_14_method_70_code 2 (some (.int)) 0 := ⟨(z_tb 1457 (by decide +kernel)), (z_tb 3 (by decide +kernel)), ⟨by decide +kernel, by decide +kernel⟩, by decide +kernel, by decide⟩
theorem ou_W_133_11 : z_okU1 z_mts "RollPlayerLaw" 133 0 (.invokevirtual 133) 11 75 := ⟨_, _, _, _, _, rfl, by decide, mt_Q_halt, cw_Q_halt _, Or.inl ⟨rfl, (z_tb 1454 (by decide +kernel)), (z_tb 1455 (by decide +kernel)), (z_tb 1456 (by decide +kernel))⟩, fun h => absurd h (by decide +kernel)⟩
set_option maxRecDepth 100000 in
theorem mt_P_back : z_nth z_mts 236 = some (⟨"RollPlayer", "back", "(I)I"⟩, prog_1_method_40_code, 2, (some (.int))) := rfl
theorem cw_P_back (own : String) : z_cw own ⟨"RollPlayer", "back", "(I)I"⟩ prog_1_method_40_code 2 (some (.int)) 1 := ⟨(z_tb 735 (by decide +kernel)), (z_tb 1 (by decide +kernel)), ⟨by decide +kernel, by decide +kernel⟩, by decide +kernel, by decide⟩
theorem ou_W_134_10 : z_okU1 z_mts "RollPlayerLaw" 134 1 (.invokevirtual 134) 10 236 := ⟨_, _, _, _, _, rfl, by decide, mt_P_back, cw_P_back _, Or.inl ⟨rfl, (z_tb 732 (by decide +kernel)), (z_tb 733 (by decide +kernel)), (z_tb 734 (by decide +kernel))⟩, fun h => absurd h (by decide +kernel)⟩
set_option maxRecDepth 100000 in
theorem mt_Q_back : z_nth z_mts 78 = some (⟨"RollPlayerModel", "back", "(I)I"⟩, prog_14_method_73_code, 2, (some (.int))) := rfl
theorem cw_Q_back (own : String) : z_cw own ⟨"RollPlayerModel", "back", "(I)I"⟩ prog_14_method_73_code 2 (some (.int)) 1 := ⟨(z_tb 1461 (by decide +kernel)), (z_tb 3 (by decide +kernel)), ⟨by decide +kernel, by decide +kernel⟩, by decide +kernel, by decide⟩
theorem ou_W_137_11 : z_okU1 z_mts "RollPlayerLaw" 137 1 (.invokevirtual 137) 11 78 := ⟨_, _, _, _, _, rfl, by decide, mt_Q_back, cw_Q_back _, Or.inl ⟨rfl, (z_tb 1458 (by decide +kernel)), (z_tb 1459 (by decide +kernel)), (z_tb 1460 (by decide +kernel))⟩, fun h => absurd h (by decide +kernel)⟩
set_option maxRecDepth 100000 in
theorem mt_P_open : z_nth z_mts 237 = some (⟨"RollPlayer", "open", "(I)I"⟩, prog_1_method_41_code, 2, (some (.int))) := rfl
theorem cw_P_open (own : String) : z_cw own ⟨"RollPlayer", "open", "(I)I"⟩ prog_1_method_41_code 2 (some (.int)) 1 := ⟨(z_tb 743 (by decide +kernel)), (z_tb 1 (by decide +kernel)), ⟨by decide +kernel, by decide +kernel⟩, by decide +kernel, by decide⟩
theorem ou_W_138_10 : z_okU1 z_mts "RollPlayerLaw" 138 1 (.invokevirtual 138) 10 237 := ⟨_, _, _, _, _, rfl, by decide, mt_P_open, cw_P_open _, Or.inl ⟨rfl, (z_tb 740 (by decide +kernel)), (z_tb 741 (by decide +kernel)), (z_tb 742 (by decide +kernel))⟩, fun h => absurd h (by decide +kernel)⟩
set_option maxRecDepth 100000 in
theorem mt_Q_open : z_nth z_mts 79 = some (⟨"RollPlayerModel", "open", "(I)I"⟩, prog_14_method_74_code, 4, (some (.int))) := rfl
theorem cw_Q_open (own : String) : z_cw own ⟨"RollPlayerModel", "open", "(I)I"⟩ prog_14_method_74_code 4 (some (.int)) 1 := ⟨(z_tb 1469 (by decide +kernel)), (z_tb 3 (by decide +kernel)), ⟨by decide +kernel, by decide +kernel⟩, by decide +kernel, by decide⟩
theorem ou_W_141_11 : z_okU1 z_mts "RollPlayerLaw" 141 1 (.invokevirtual 141) 11 79 := ⟨_, _, _, _, _, rfl, by decide, mt_Q_open, cw_Q_open _, Or.inl ⟨rfl, (z_tb 1466 (by decide +kernel)), (z_tb 1467 (by decide +kernel)), (z_tb 1468 (by decide +kernel))⟩, fun h => absurd h (by decide +kernel)⟩
set_option maxRecDepth 100000 in
theorem mt_P_sounding : z_nth z_mts 238 = some (⟨"RollPlayer", "sounding", "(II)I"⟩, prog_1_method_42_code, 4, (some (.int))) := rfl
theorem cw_P_sounding (own : String) : z_cw own ⟨"RollPlayer", "sounding", "(II)I"⟩ prog_1_method_42_code 4 (some (.int)) 2 := ⟨(z_tb 752 (by decide +kernel)), (z_tb 1 (by decide +kernel)), ⟨by decide +kernel, by decide +kernel⟩, by decide +kernel, by decide⟩
theorem ou_W_142_10 : z_okU1 z_mts "RollPlayerLaw" 142 2 (.invokevirtual 142) 10 238 := ⟨_, _, _, _, _, rfl, by decide, mt_P_sounding, cw_P_sounding _, Or.inl ⟨rfl, (z_tb 749 (by decide +kernel)), (z_tb 750 (by decide +kernel)), (z_tb 751 (by decide +kernel))⟩, fun h => absurd h (by decide +kernel)⟩
set_option maxRecDepth 100000 in
theorem mt_Q_sounding : z_nth z_mts 80 = some (⟨"RollPlayerModel", "sounding", "(II)I"⟩, prog_14_method_75_code, 3, (some (.int))) := rfl
theorem cw_Q_sounding (own : String) : z_cw own ⟨"RollPlayerModel", "sounding", "(II)I"⟩ prog_14_method_75_code 3 (some (.int)) 2 := ⟨(z_tb 1473 (by decide +kernel)), (z_tb 3 (by decide +kernel)), ⟨by decide +kernel, by decide +kernel⟩, by decide +kernel, by decide⟩
theorem ou_W_145_11 : z_okU1 z_mts "RollPlayerLaw" 145 2 (.invokevirtual 145) 11 80 := ⟨_, _, _, _, _, rfl, by decide, mt_Q_sounding, cw_Q_sounding _, Or.inl ⟨rfl, (z_tb 1470 (by decide +kernel)), (z_tb 1471 (by decide +kernel)), (z_tb 1472 (by decide +kernel))⟩, fun h => absurd h (by decide +kernel)⟩
set_option maxRecDepth 100000 in
theorem mt_P_loud : z_nth z_mts 239 = some (⟨"RollPlayer", "loud", "(I)I"⟩, prog_1_method_43_code, 6, (some (.int))) := rfl
theorem cw_P_loud (own : String) : z_cw own ⟨"RollPlayer", "loud", "(I)I"⟩ prog_1_method_43_code 6 (some (.int)) 1 := ⟨(z_tb 763 (by decide +kernel)), (z_tb 1 (by decide +kernel)), ⟨by decide +kernel, by decide +kernel⟩, by decide +kernel, by decide⟩
theorem ou_W_146_10 : z_okU1 z_mts "RollPlayerLaw" 146 1 (.invokevirtual 146) 10 239 := ⟨_, _, _, _, _, rfl, by decide, mt_P_loud, cw_P_loud _, Or.inl ⟨rfl, (z_tb 760 (by decide +kernel)), (z_tb 761 (by decide +kernel)), (z_tb 762 (by decide +kernel))⟩, fun h => absurd h (by decide +kernel)⟩
set_option maxRecDepth 100000 in
theorem mt_Q_loud : z_nth z_mts 83 = some (⟨"RollPlayerModel", "loud", "(I)I"⟩, prog_14_method_78_code, 6, (some (.int))) := rfl
theorem cw_Q_loud (own : String) : z_cw own ⟨"RollPlayerModel", "loud", "(I)I"⟩ prog_14_method_78_code 6 (some (.int)) 1 := ⟨(z_tb 1477 (by decide +kernel)), (z_tb 3 (by decide +kernel)), ⟨by decide +kernel, by decide +kernel⟩, by decide +kernel, by decide⟩
theorem ou_W_149_11 : z_okU1 z_mts "RollPlayerLaw" 149 1 (.invokevirtual 149) 11 83 := ⟨_, _, _, _, _, rfl, by decide, mt_Q_loud, cw_Q_loud _, Or.inl ⟨rfl, (z_tb 1474 (by decide +kernel)), (z_tb 1475 (by decide +kernel)), (z_tb 1476 (by decide +kernel))⟩, fun h => absurd h (by decide +kernel)⟩
set_option maxRecDepth 100000 in
theorem mt_P_level : z_nth z_mts 240 = some (⟨"RollPlayer", "level", "(I)I"⟩, prog_1_method_44_code, 2, (some (.int))) := rfl
theorem cw_P_level (own : String) : z_cw own ⟨"RollPlayer", "level", "(I)I"⟩ prog_1_method_44_code 2 (some (.int)) 1 := ⟨(z_tb 810 (by decide +kernel)), (z_tb 1 (by decide +kernel)), ⟨by decide +kernel, by decide +kernel⟩, by decide +kernel, by decide⟩
theorem ou_W_150_10 : z_okU1 z_mts "RollPlayerLaw" 150 1 (.invokevirtual 150) 10 240 := ⟨_, _, _, _, _, rfl, by decide, mt_P_level, cw_P_level _, Or.inl ⟨rfl, (z_tb 807 (by decide +kernel)), (z_tb 808 (by decide +kernel)), (z_tb 809 (by decide +kernel))⟩, fun h => absurd h (by decide +kernel)⟩
set_option maxRecDepth 100000 in
theorem mt_Q_level : z_nth z_mts 84 = some (⟨"RollPlayerModel", "level", "(I)I"⟩, prog_14_method_79_code, 2, (some (.int))) := rfl
theorem cw_Q_level (own : String) : z_cw own ⟨"RollPlayerModel", "level", "(I)I"⟩ prog_14_method_79_code 2 (some (.int)) 1 := ⟨(z_tb 1489 (by decide +kernel)), (z_tb 3 (by decide +kernel)), ⟨by decide +kernel, by decide +kernel⟩, by decide +kernel, by decide⟩
theorem ou_W_153_11 : z_okU1 z_mts "RollPlayerLaw" 153 1 (.invokevirtual 153) 11 84 := ⟨_, _, _, _, _, rfl, by decide, mt_Q_level, cw_Q_level _, Or.inl ⟨rfl, (z_tb 1486 (by decide +kernel)), (z_tb 1487 (by decide +kernel)), (z_tb 1488 (by decide +kernel))⟩, fun h => absurd h (by decide +kernel)⟩
set_option maxRecDepth 100000 in
theorem mt_P_stop : z_nth z_mts 241 = some (⟨"RollPlayer", "stop", "(I)I"⟩, prog_1_method_45_code, 2, (some (.int))) := rfl
theorem cw_P_stop (own : String) : z_cw own ⟨"RollPlayer", "stop", "(I)I"⟩ prog_1_method_45_code 2 (some (.int)) 1 := ⟨(z_tb 814 (by decide +kernel)), (z_tb 1 (by decide +kernel)), ⟨by decide +kernel, by decide +kernel⟩, by decide +kernel, by decide⟩
theorem ou_W_154_10 : z_okU1 z_mts "RollPlayerLaw" 154 1 (.invokevirtual 154) 10 241 := ⟨_, _, _, _, _, rfl, by decide, mt_P_stop, cw_P_stop _, Or.inl ⟨rfl, (z_tb 811 (by decide +kernel)), (z_tb 812 (by decide +kernel)), (z_tb 813 (by decide +kernel))⟩, fun h => absurd h (by decide +kernel)⟩
set_option maxRecDepth 100000 in
theorem mt_Q_stop : z_nth z_mts 85 = some (⟨"RollPlayerModel", "stop", "(I)I"⟩, prog_14_method_80_code, 2, (some (.int))) := rfl
theorem cw_Q_stop (own : String) : z_cw own ⟨"RollPlayerModel", "stop", "(I)I"⟩ prog_14_method_80_code 2 (some (.int)) 1 := ⟨(z_tb 1493 (by decide +kernel)), (z_tb 3 (by decide +kernel)), ⟨by decide +kernel, by decide +kernel⟩, by decide +kernel, by decide⟩
theorem ou_W_157_11 : z_okU1 z_mts "RollPlayerLaw" 157 1 (.invokevirtual 157) 11 85 := ⟨_, _, _, _, _, rfl, by decide, mt_Q_stop, cw_Q_stop _, Or.inl ⟨rfl, (z_tb 1490 (by decide +kernel)), (z_tb 1491 (by decide +kernel)), (z_tb 1492 (by decide +kernel))⟩, fun h => absurd h (by decide +kernel)⟩
set_option maxRecDepth 100000 in
theorem mt_P_at : z_nth z_mts 242 = some (⟨"RollPlayer", "at", "(I)I"⟩, prog_1_method_46_code, 2, (some (.int))) := rfl
theorem cw_P_at (own : String) : z_cw own ⟨"RollPlayer", "at", "(I)I"⟩ prog_1_method_46_code 2 (some (.int)) 1 := ⟨(z_tb 818 (by decide +kernel)), (z_tb 1 (by decide +kernel)), ⟨by decide +kernel, by decide +kernel⟩, by decide +kernel, by decide⟩
theorem ou_W_158_10 : z_okU1 z_mts "RollPlayerLaw" 158 1 (.invokevirtual 158) 10 242 := ⟨_, _, _, _, _, rfl, by decide, mt_P_at, cw_P_at _, Or.inl ⟨rfl, (z_tb 815 (by decide +kernel)), (z_tb 816 (by decide +kernel)), (z_tb 817 (by decide +kernel))⟩, fun h => absurd h (by decide +kernel)⟩
set_option maxRecDepth 100000 in
theorem mt_Q_at : z_nth z_mts 86 = some (⟨"RollPlayerModel", "at", "(I)I"⟩, prog_14_method_81_code, 2, (some (.int))) := rfl
theorem cw_Q_at (own : String) : z_cw own ⟨"RollPlayerModel", "at", "(I)I"⟩ prog_14_method_81_code 2 (some (.int)) 1 := ⟨(z_tb 1497 (by decide +kernel)), (z_tb 3 (by decide +kernel)), ⟨by decide +kernel, by decide +kernel⟩, by decide +kernel, by decide⟩
theorem ou_W_161_11 : z_okU1 z_mts "RollPlayerLaw" 161 1 (.invokevirtual 161) 11 86 := ⟨_, _, _, _, _, rfl, by decide, mt_Q_at, cw_Q_at _, Or.inl ⟨rfl, (z_tb 1494 (by decide +kernel)), (z_tb 1495 (by decide +kernel)), (z_tb 1496 (by decide +kernel))⟩, fun h => absurd h (by decide +kernel)⟩
set_option maxRecDepth 100000 in
theorem mt_P_times : z_nth z_mts 243 = some (⟨"RollPlayer", "times", "(II)I"⟩, prog_1_method_47_code, 3, (some (.int))) := rfl
theorem cw_P_times (own : String) : z_cw own ⟨"RollPlayer", "times", "(II)I"⟩ prog_1_method_47_code 3 (some (.int)) 2 := ⟨(z_tb 822 (by decide +kernel)), (z_tb 1 (by decide +kernel)), ⟨by decide +kernel, by decide +kernel⟩, by decide +kernel, by decide⟩
theorem ou_W_162_10 : z_okU1 z_mts "RollPlayerLaw" 162 2 (.invokevirtual 162) 10 243 := ⟨_, _, _, _, _, rfl, by decide, mt_P_times, cw_P_times _, Or.inl ⟨rfl, (z_tb 819 (by decide +kernel)), (z_tb 820 (by decide +kernel)), (z_tb 821 (by decide +kernel))⟩, fun h => absurd h (by decide +kernel)⟩
set_option maxRecDepth 100000 in
theorem mt_Q_times : z_nth z_mts 87 = some (⟨"RollPlayerModel", "times", "(II)I"⟩, prog_14_method_82_code, 3, (some (.int))) := rfl
theorem cw_Q_times (own : String) : z_cw own ⟨"RollPlayerModel", "times", "(II)I"⟩ prog_14_method_82_code 3 (some (.int)) 2 := ⟨(z_tb 1501 (by decide +kernel)), (z_tb 3 (by decide +kernel)), ⟨by decide +kernel, by decide +kernel⟩, by decide +kernel, by decide⟩
theorem ou_W_165_11 : z_okU1 z_mts "RollPlayerLaw" 165 2 (.invokevirtual 165) 11 87 := ⟨_, _, _, _, _, rfl, by decide, mt_Q_times, cw_Q_times _, Or.inl ⟨rfl, (z_tb 1498 (by decide +kernel)), (z_tb 1499 (by decide +kernel)), (z_tb 1500 (by decide +kernel))⟩, fun h => absurd h (by decide +kernel)⟩
set_option maxRecDepth 100000 in
theorem mt_P_event : z_nth z_mts 244 = some (⟨"RollPlayer", "event", "(II)I"⟩, prog_1_method_48_code, 3, (some (.int))) := rfl
theorem cw_P_event (own : String) : z_cw own ⟨"RollPlayer", "event", "(II)I"⟩ prog_1_method_48_code 3 (some (.int)) 2 := ⟨(z_tb 826 (by decide +kernel)), (z_tb 1 (by decide +kernel)), ⟨by decide +kernel, by decide +kernel⟩, by decide +kernel, by decide⟩
theorem ou_W_166_10 : z_okU1 z_mts "RollPlayerLaw" 166 2 (.invokevirtual 166) 10 244 := ⟨_, _, _, _, _, rfl, by decide, mt_P_event, cw_P_event _, Or.inl ⟨rfl, (z_tb 823 (by decide +kernel)), (z_tb 824 (by decide +kernel)), (z_tb 825 (by decide +kernel))⟩, fun h => absurd h (by decide +kernel)⟩
set_option maxRecDepth 100000 in
theorem mt_Q_event : z_nth z_mts 88 = some (⟨"RollPlayerModel", "event", "(II)I"⟩, prog_14_method_83_code, 3, (some (.int))) := rfl
theorem cw_Q_event (own : String) : z_cw own ⟨"RollPlayerModel", "event", "(II)I"⟩ prog_14_method_83_code 3 (some (.int)) 2 := ⟨(z_tb 1505 (by decide +kernel)), (z_tb 3 (by decide +kernel)), ⟨by decide +kernel, by decide +kernel⟩, by decide +kernel, by decide⟩
theorem ou_W_169_11 : z_okU1 z_mts "RollPlayerLaw" 169 2 (.invokevirtual 169) 11 88 := ⟨_, _, _, _, _, rfl, by decide, mt_Q_event, cw_Q_event _, Or.inl ⟨rfl, (z_tb 1502 (by decide +kernel)), (z_tb 1503 (by decide +kernel)), (z_tb 1504 (by decide +kernel))⟩, fun h => absurd h (by decide +kernel)⟩
set_option maxRecDepth 100000 in
theorem mt_P_cut : z_nth z_mts 245 = some (⟨"RollPlayer", "cut", "(II)I"⟩, prog_1_method_49_code, 4, (some (.int))) := rfl
theorem cw_P_cut (own : String) : z_cw own ⟨"RollPlayer", "cut", "(II)I"⟩ prog_1_method_49_code 4 (some (.int)) 2 := ⟨(z_tb 830 (by decide +kernel)), (z_tb 1 (by decide +kernel)), ⟨by decide +kernel, by decide +kernel⟩, by decide +kernel, by decide⟩
theorem ou_W_170_10 : z_okU1 z_mts "RollPlayerLaw" 170 2 (.invokevirtual 170) 10 245 := ⟨_, _, _, _, _, rfl, by decide, mt_P_cut, cw_P_cut _, Or.inl ⟨rfl, (z_tb 827 (by decide +kernel)), (z_tb 828 (by decide +kernel)), (z_tb 829 (by decide +kernel))⟩, fun h => absurd h (by decide +kernel)⟩
set_option maxRecDepth 100000 in
theorem mt_Q_cut : z_nth z_mts 89 = some (⟨"RollPlayerModel", "cut", "(II)I"⟩, prog_14_method_84_code, 4, (some (.int))) := rfl
theorem cw_Q_cut (own : String) : z_cw own ⟨"RollPlayerModel", "cut", "(II)I"⟩ prog_14_method_84_code 4 (some (.int)) 2 := ⟨(z_tb 1509 (by decide +kernel)), (z_tb 3 (by decide +kernel)), ⟨by decide +kernel, by decide +kernel⟩, by decide +kernel, by decide⟩
theorem ou_W_173_11 : z_okU1 z_mts "RollPlayerLaw" 173 2 (.invokevirtual 173) 11 89 := ⟨_, _, _, _, _, rfl, by decide, mt_Q_cut, cw_Q_cut _, Or.inl ⟨rfl, (z_tb 1506 (by decide +kernel)), (z_tb 1507 (by decide +kernel)), (z_tb 1508 (by decide +kernel))⟩, fun h => absurd h (by decide +kernel)⟩
set_option maxRecDepth 100000 in
theorem mt_P_join : z_nth z_mts 246 = some (⟨"RollPlayer", "join", "(II)I"⟩, prog_1_method_50_code, 5, (some (.int))) := rfl
theorem cw_P_join (own : String) : z_cw own ⟨"RollPlayer", "join", "(II)I"⟩ prog_1_method_50_code 5 (some (.int)) 2 := ⟨(z_tb 843 (by decide +kernel)), (z_tb 1 (by decide +kernel)), ⟨by decide +kernel, by decide +kernel⟩, by decide +kernel, by decide⟩
theorem ou_W_174_10 : z_okU1 z_mts "RollPlayerLaw" 174 2 (.invokevirtual 174) 10 246 := ⟨_, _, _, _, _, rfl, by decide, mt_P_join, cw_P_join _, Or.inl ⟨rfl, (z_tb 840 (by decide +kernel)), (z_tb 841 (by decide +kernel)), (z_tb 842 (by decide +kernel))⟩, fun h => absurd h (by decide +kernel)⟩
set_option maxRecDepth 100000 in
theorem mt_Q_join : z_nth z_mts 93 = some (⟨"RollPlayerModel", "join", "(II)I"⟩, prog_14_method_88_code, 5, (some (.int))) := rfl
theorem cw_Q_join (own : String) : z_cw own ⟨"RollPlayerModel", "join", "(II)I"⟩ prog_14_method_88_code 5 (some (.int)) 2 := ⟨(z_tb 1513 (by decide +kernel)), (z_tb 3 (by decide +kernel)), ⟨by decide +kernel, by decide +kernel⟩, by decide +kernel, by decide⟩
theorem ou_W_177_11 : z_okU1 z_mts "RollPlayerLaw" 177 2 (.invokevirtual 177) 11 93 := ⟨_, _, _, _, _, rfl, by decide, mt_Q_join, cw_Q_join _, Or.inl ⟨rfl, (z_tb 1510 (by decide +kernel)), (z_tb 1511 (by decide +kernel)), (z_tb 1512 (by decide +kernel))⟩, fun h => absurd h (by decide +kernel)⟩
set_option maxRecDepth 100000 in
theorem mt_P_repeat : z_nth z_mts 247 = some (⟨"RollPlayer", "repeat", "(III)I"⟩, prog_1_method_51_code, 5, (some (.int))) := rfl
theorem cw_P_repeat (own : String) : z_cw own ⟨"RollPlayer", "repeat", "(III)I"⟩ prog_1_method_51_code 5 (some (.int)) 3 := ⟨(z_tb 875 (by decide +kernel)), (z_tb 1 (by decide +kernel)), ⟨by decide +kernel, by decide +kernel⟩, by decide +kernel, by decide⟩
theorem ou_W_178_10 : z_okU1 z_mts "RollPlayerLaw" 178 3 (.invokevirtual 178) 10 247 := ⟨_, _, _, _, _, rfl, by decide, mt_P_repeat, cw_P_repeat _, Or.inl ⟨rfl, (z_tb 872 (by decide +kernel)), (z_tb 873 (by decide +kernel)), (z_tb 874 (by decide +kernel))⟩, fun h => absurd h (by decide +kernel)⟩
set_option maxRecDepth 100000 in
theorem mt_Q_repeat : z_nth z_mts 94 = some (⟨"RollPlayerModel", "repeat", "(III)I"⟩, prog_14_method_89_code, 5, (some (.int))) := rfl
theorem cw_Q_repeat (own : String) : z_cw own ⟨"RollPlayerModel", "repeat", "(III)I"⟩ prog_14_method_89_code 5 (some (.int)) 3 := ⟨(z_tb 1529 (by decide +kernel)), (z_tb 3 (by decide +kernel)), ⟨by decide +kernel, by decide +kernel⟩, by decide +kernel, by decide⟩
theorem ou_W_181_11 : z_okU1 z_mts "RollPlayerLaw" 181 3 (.invokevirtual 181) 11 94 := ⟨_, _, _, _, _, rfl, by decide, mt_Q_repeat, cw_Q_repeat _, Or.inl ⟨rfl, (z_tb 1526 (by decide +kernel)), (z_tb 1527 (by decide +kernel)), (z_tb 1528 (by decide +kernel))⟩, fun h => absurd h (by decide +kernel)⟩
set_option maxRecDepth 100000 in
theorem mt_P_move : z_nth z_mts 249 = some (⟨"RollPlayer", "move", "(IIIII)I"⟩, prog_1_method_53_code, 10, (some (.int))) := rfl
theorem cw_P_move (own : String) : z_cw own ⟨"RollPlayer", "move", "(IIIII)I"⟩ prog_1_method_53_code 10 (some (.int)) 5 := ⟨(z_tb 879 (by decide +kernel)), (z_tb 1 (by decide +kernel)), ⟨by decide +kernel, by decide +kernel⟩, by decide +kernel, by decide⟩
theorem ou_W_182_10 : z_okU1 z_mts "RollPlayerLaw" 182 5 (.invokevirtual 182) 10 249 := ⟨_, _, _, _, _, rfl, by decide, mt_P_move, cw_P_move _, Or.inl ⟨rfl, (z_tb 876 (by decide +kernel)), (z_tb 877 (by decide +kernel)), (z_tb 878 (by decide +kernel))⟩, fun h => absurd h (by decide +kernel)⟩
set_option maxRecDepth 100000 in
theorem mt_Q_move : z_nth z_mts 95 = some (⟨"RollPlayerModel", "move", "(IIIII)I"⟩, prog_14_method_90_code, 8, (some (.int))) := rfl
theorem cw_Q_move (own : String) : z_cw own ⟨"RollPlayerModel", "move", "(IIIII)I"⟩ prog_14_method_90_code 8 (some (.int)) 5 := ⟨(z_tb 1533 (by decide +kernel)), (z_tb 3 (by decide +kernel)), ⟨by decide +kernel, by decide +kernel⟩, by decide +kernel, by decide⟩
theorem ou_W_185_11 : z_okU1 z_mts "RollPlayerLaw" 185 5 (.invokevirtual 185) 11 95 := ⟨_, _, _, _, _, rfl, by decide, mt_Q_move, cw_Q_move _, Or.inl ⟨rfl, (z_tb 1530 (by decide +kernel)), (z_tb 1531 (by decide +kernel)), (z_tb 1532 (by decide +kernel))⟩, fun h => absurd h (by decide +kernel)⟩
set_option maxRecDepth 100000 in
theorem mt_P_copy : z_nth z_mts 252 = some (⟨"RollPlayer", "copy", "(IIIIIII)I"⟩, prog_1_method_56_code, 10, (some (.int))) := rfl
theorem cw_P_copy (own : String) : z_cw own ⟨"RollPlayer", "copy", "(IIIIIII)I"⟩ prog_1_method_56_code 10 (some (.int)) 7 := ⟨(z_tb 892 (by decide +kernel)), (z_tb 1 (by decide +kernel)), ⟨by decide +kernel, by decide +kernel⟩, by decide +kernel, by decide⟩
theorem ou_W_186_10 : z_okU1 z_mts "RollPlayerLaw" 186 7 (.invokevirtual 186) 10 252 := ⟨_, _, _, _, _, rfl, by decide, mt_P_copy, cw_P_copy _, Or.inl ⟨rfl, (z_tb 889 (by decide +kernel)), (z_tb 890 (by decide +kernel)), (z_tb 891 (by decide +kernel))⟩, fun h => absurd h (by decide +kernel)⟩
set_option maxRecDepth 100000 in
theorem mt_Q_copy : z_nth z_mts 97 = some (⟨"RollPlayerModel", "copy", "(IIIIIII)I"⟩, prog_14_method_92_code, 11, (some (.int))) := rfl
theorem cw_Q_copy (own : String) : z_cw own ⟨"RollPlayerModel", "copy", "(IIIIIII)I"⟩ prog_14_method_92_code 11 (some (.int)) 7 := ⟨(z_tb 1541 (by decide +kernel)), (z_tb 3 (by decide +kernel)), ⟨by decide +kernel, by decide +kernel⟩, by decide +kernel, by decide⟩
theorem ou_W_190_11 : z_okU1 z_mts "RollPlayerLaw" 190 7 (.invokevirtual 190) 11 97 := ⟨_, _, _, _, _, rfl, by decide, mt_Q_copy, cw_Q_copy _, Or.inl ⟨rfl, (z_tb 1538 (by decide +kernel)), (z_tb 1539 (by decide +kernel)), (z_tb 1540 (by decide +kernel))⟩, fun h => absurd h (by decide +kernel)⟩
set_option maxRecDepth 100000 in
theorem mt_P_transpose : z_nth z_mts 253 = some (⟨"RollPlayer", "transpose", "(III)I"⟩, prog_1_method_57_code, 8, (some (.int))) := rfl
theorem cw_P_transpose (own : String) : z_cw own ⟨"RollPlayer", "transpose", "(III)I"⟩ prog_1_method_57_code 8 (some (.int)) 3 := ⟨(z_tb 904 (by decide +kernel)), (z_tb 1 (by decide +kernel)), ⟨by decide +kernel, by decide +kernel⟩, by decide +kernel, by decide⟩
theorem ou_W_191_10 : z_okU1 z_mts "RollPlayerLaw" 191 3 (.invokevirtual 191) 10 253 := ⟨_, _, _, _, _, rfl, by decide, mt_P_transpose, cw_P_transpose _, Or.inl ⟨rfl, (z_tb 901 (by decide +kernel)), (z_tb 902 (by decide +kernel)), (z_tb 903 (by decide +kernel))⟩, fun h => absurd h (by decide +kernel)⟩
set_option maxRecDepth 100000 in
theorem mt_Q_transpose : z_nth z_mts 98 = some (⟨"RollPlayerModel", "transpose", "(III)I"⟩, prog_14_method_93_code, 9, (some (.int))) := rfl
theorem cw_Q_transpose (own : String) : z_cw own ⟨"RollPlayerModel", "transpose", "(III)I"⟩ prog_14_method_93_code 9 (some (.int)) 3 := ⟨(z_tb 1545 (by decide +kernel)), (z_tb 3 (by decide +kernel)), ⟨by decide +kernel, by decide +kernel⟩, by decide +kernel, by decide⟩
theorem ou_W_194_11 : z_okU1 z_mts "RollPlayerLaw" 194 3 (.invokevirtual 194) 11 98 := ⟨_, _, _, _, _, rfl, by decide, mt_Q_transpose, cw_Q_transpose _, Or.inl ⟨rfl, (z_tb 1542 (by decide +kernel)), (z_tb 1543 (by decide +kernel)), (z_tb 1544 (by decide +kernel))⟩, fun h => absurd h (by decide +kernel)⟩
set_option maxRecDepth 100000 in
theorem mt_P_fallen : z_nth z_mts 255 = some (⟨"RollPlayer", "fallen", "(II)I"⟩, prog_1_method_59_code, 3, (some (.int))) := rfl
theorem cw_P_fallen (own : String) : z_cw own ⟨"RollPlayer", "fallen", "(II)I"⟩ prog_1_method_59_code 3 (some (.int)) 2 := ⟨(z_tb 913 (by decide +kernel)), (z_tb 1 (by decide +kernel)), ⟨by decide +kernel, by decide +kernel⟩, by decide +kernel, by decide⟩
theorem ou_W_195_10 : z_okU1 z_mts "RollPlayerLaw" 195 2 (.invokevirtual 195) 10 255 := ⟨_, _, _, _, _, rfl, by decide, mt_P_fallen, cw_P_fallen _, Or.inl ⟨rfl, (z_tb 910 (by decide +kernel)), (z_tb 911 (by decide +kernel)), (z_tb 912 (by decide +kernel))⟩, fun h => absurd h (by decide +kernel)⟩
set_option maxRecDepth 100000 in
theorem mt_Q_fallen : z_nth z_mts 99 = some (⟨"RollPlayerModel", "fallen", "(II)I"⟩, prog_14_method_94_code, 3, (some (.int))) := rfl
theorem cw_Q_fallen (own : String) : z_cw own ⟨"RollPlayerModel", "fallen", "(II)I"⟩ prog_14_method_94_code 3 (some (.int)) 2 := ⟨(z_tb 1549 (by decide +kernel)), (z_tb 3 (by decide +kernel)), ⟨by decide +kernel, by decide +kernel⟩, by decide +kernel, by decide⟩
theorem ou_W_198_11 : z_okU1 z_mts "RollPlayerLaw" 198 2 (.invokevirtual 198) 11 99 := ⟨_, _, _, _, _, rfl, by decide, mt_Q_fallen, cw_Q_fallen _, Or.inl ⟨rfl, (z_tb 1546 (by decide +kernel)), (z_tb 1547 (by decide +kernel)), (z_tb 1548 (by decide +kernel))⟩, fun h => absurd h (by decide +kernel)⟩
set_option maxRecDepth 100000 in
theorem mt_P_mend : z_nth z_mts 256 = some (⟨"RollPlayer", "mend", "(III)I"⟩, prog_1_method_60_code, 8, (some (.int))) := rfl
theorem cw_P_mend (own : String) : z_cw own ⟨"RollPlayer", "mend", "(III)I"⟩ prog_1_method_60_code 8 (some (.int)) 3 := ⟨(z_tb 917 (by decide +kernel)), (z_tb 1 (by decide +kernel)), ⟨by decide +kernel, by decide +kernel⟩, by decide +kernel, by decide⟩
theorem ou_W_199_10 : z_okU1 z_mts "RollPlayerLaw" 199 3 (.invokevirtual 199) 10 256 := ⟨_, _, _, _, _, rfl, by decide, mt_P_mend, cw_P_mend _, Or.inl ⟨rfl, (z_tb 914 (by decide +kernel)), (z_tb 915 (by decide +kernel)), (z_tb 916 (by decide +kernel))⟩, fun h => absurd h (by decide +kernel)⟩
set_option maxRecDepth 100000 in
theorem mt_Q_mend : z_nth z_mts 100 = some (⟨"RollPlayerModel", "mend", "(III)I"⟩, prog_14_method_95_code, 7, (some (.int))) := rfl
theorem cw_Q_mend (own : String) : z_cw own ⟨"RollPlayerModel", "mend", "(III)I"⟩ prog_14_method_95_code 7 (some (.int)) 3 := ⟨(z_tb 1553 (by decide +kernel)), (z_tb 3 (by decide +kernel)), ⟨by decide +kernel, by decide +kernel⟩, by decide +kernel, by decide⟩
theorem ou_W_202_11 : z_okU1 z_mts "RollPlayerLaw" 202 3 (.invokevirtual 202) 11 100 := ⟨_, _, _, _, _, rfl, by decide, mt_Q_mend, cw_Q_mend _, Or.inl ⟨rfl, (z_tb 1550 (by decide +kernel)), (z_tb 1551 (by decide +kernel)), (z_tb 1552 (by decide +kernel))⟩, fun h => absurd h (by decide +kernel)⟩
set_option maxRecDepth 100000 in
theorem mt_P_equal : z_nth z_mts 257 = some (⟨"RollPlayer", "equal", "(II)I"⟩, prog_1_method_61_code, 8, (some (.int))) := rfl
theorem cw_P_equal (own : String) : z_cw own ⟨"RollPlayer", "equal", "(II)I"⟩ prog_1_method_61_code 8 (some (.int)) 2 := ⟨(z_tb 921 (by decide +kernel)), (z_tb 1 (by decide +kernel)), ⟨by decide +kernel, by decide +kernel⟩, by decide +kernel, by decide⟩
theorem ou_W_203_10 : z_okU1 z_mts "RollPlayerLaw" 203 2 (.invokevirtual 203) 10 257 := ⟨_, _, _, _, _, rfl, by decide, mt_P_equal, cw_P_equal _, Or.inl ⟨rfl, (z_tb 918 (by decide +kernel)), (z_tb 919 (by decide +kernel)), (z_tb 920 (by decide +kernel))⟩, fun h => absurd h (by decide +kernel)⟩
set_option maxRecDepth 100000 in
theorem mt_Q_equal : z_nth z_mts 102 = some (⟨"RollPlayerModel", "equal", "(II)I"⟩, prog_14_method_97_code, 5, (some (.int))) := rfl
theorem cw_Q_equal (own : String) : z_cw own ⟨"RollPlayerModel", "equal", "(II)I"⟩ prog_14_method_97_code 5 (some (.int)) 2 := ⟨(z_tb 1557 (by decide +kernel)), (z_tb 3 (by decide +kernel)), ⟨by decide +kernel, by decide +kernel⟩, by decide +kernel, by decide⟩
theorem ou_W_206_11 : z_okU1 z_mts "RollPlayerLaw" 206 2 (.invokevirtual 206) 11 102 := ⟨_, _, _, _, _, rfl, by decide, mt_Q_equal, cw_Q_equal _, Or.inl ⟨rfl, (z_tb 1554 (by decide +kernel)), (z_tb 1555 (by decide +kernel)), (z_tb 1556 (by decide +kernel))⟩, fun h => absurd h (by decide +kernel)⟩
set_option maxRecDepth 100000 in
theorem mt_P_digest : z_nth z_mts 258 = some (⟨"RollPlayer", "digest", "(I)J"⟩, prog_1_method_62_code, 6, (some (.long))) := rfl
theorem cw_P_digest (own : String) : z_cw own ⟨"RollPlayer", "digest", "(I)J"⟩ prog_1_method_62_code 6 (some (.long)) 1 := ⟨(z_tb 929 (by decide +kernel)), (z_tb 1 (by decide +kernel)), ⟨by decide +kernel, by decide +kernel⟩, by decide +kernel, by decide⟩
theorem ou_W_207_10 : z_okU1 z_mts "RollPlayerLaw" 207 1 (.invokevirtual 207) 10 258 := ⟨_, _, _, _, _, rfl, by decide, mt_P_digest, cw_P_digest _, Or.inl ⟨rfl, (z_tb 926 (by decide +kernel)), (z_tb 927 (by decide +kernel)), (z_tb 928 (by decide +kernel))⟩, fun h => absurd h (by decide +kernel)⟩
set_option maxRecDepth 100000 in
theorem mt_Q_digest : z_nth z_mts 103 = some (⟨"RollPlayerModel", "digest", "(I)J"⟩, prog_14_method_98_code, 6, (some (.long))) := rfl
theorem cw_Q_digest (own : String) : z_cw own ⟨"RollPlayerModel", "digest", "(I)J"⟩ prog_14_method_98_code 6 (some (.long)) 1 := ⟨(z_tb 1565 (by decide +kernel)), (z_tb 3 (by decide +kernel)), ⟨by decide +kernel, by decide +kernel⟩, by decide +kernel, by decide⟩
theorem ou_W_210_11 : z_okU1 z_mts "RollPlayerLaw" 210 1 (.invokevirtual 210) 11 103 := ⟨_, _, _, _, _, rfl, by decide, mt_Q_digest, cw_Q_digest _, Or.inl ⟨rfl, (z_tb 1562 (by decide +kernel)), (z_tb 1563 (by decide +kernel)), (z_tb 1564 (by decide +kernel))⟩, fun h => absurd h (by decide +kernel)⟩
set_option maxRecDepth 100000 in
theorem mt_P_count : z_nth z_mts 259 = some (⟨"RollPlayer", "count", "(I)I"⟩, prog_1_method_63_code, 2, (some (.int))) := rfl
theorem cw_P_count (own : String) : z_cw own ⟨"RollPlayer", "count", "(I)I"⟩ prog_1_method_63_code 2 (some (.int)) 1 := ⟨(z_tb 937 (by decide +kernel)), (z_tb 1 (by decide +kernel)), ⟨by decide +kernel, by decide +kernel⟩, by decide +kernel, by decide⟩
theorem ou_W_211_10 : z_okU1 z_mts "RollPlayerLaw" 211 1 (.invokevirtual 211) 10 259 := ⟨_, _, _, _, _, rfl, by decide, mt_P_count, cw_P_count _, Or.inl ⟨rfl, (z_tb 934 (by decide +kernel)), (z_tb 935 (by decide +kernel)), (z_tb 936 (by decide +kernel))⟩, fun h => absurd h (by decide +kernel)⟩
set_option maxRecDepth 100000 in
theorem mt_Q_count : z_nth z_mts 104 = some (⟨"RollPlayerModel", "count", "(I)I"⟩, prog_14_method_99_code, 2, (some (.int))) := rfl
theorem cw_Q_count (own : String) : z_cw own ⟨"RollPlayerModel", "count", "(I)I"⟩ prog_14_method_99_code 2 (some (.int)) 1 := ⟨(z_tb 1569 (by decide +kernel)), (z_tb 3 (by decide +kernel)), ⟨by decide +kernel, by decide +kernel⟩, by decide +kernel, by decide⟩
theorem ou_W_214_11 : z_okU1 z_mts "RollPlayerLaw" 214 1 (.invokevirtual 214) 11 104 := ⟨_, _, _, _, _, rfl, by decide, mt_Q_count, cw_Q_count _, Or.inl ⟨rfl, (z_tb 1566 (by decide +kernel)), (z_tb 1567 (by decide +kernel)), (z_tb 1568 (by decide +kernel))⟩, fun h => absurd h (by decide +kernel)⟩
set_option maxRecDepth 100000 in
theorem mt_P_strips : z_nth z_mts 260 = some (⟨"RollPlayer", "strips", "(I)I"⟩, prog_1_method_64_code, 3, (some (.int))) := rfl
theorem cw_P_strips (own : String) : z_cw own ⟨"RollPlayer", "strips", "(I)I"⟩ prog_1_method_64_code 3 (some (.int)) 1 := ⟨(z_tb 941 (by decide +kernel)), (z_tb 1 (by decide +kernel)), ⟨by decide +kernel, by decide +kernel⟩, by decide +kernel, by decide⟩
theorem ou_W_215_10 : z_okU1 z_mts "RollPlayerLaw" 215 1 (.invokevirtual 215) 10 260 := ⟨_, _, _, _, _, rfl, by decide, mt_P_strips, cw_P_strips _, Or.inl ⟨rfl, (z_tb 938 (by decide +kernel)), (z_tb 939 (by decide +kernel)), (z_tb 940 (by decide +kernel))⟩, fun h => absurd h (by decide +kernel)⟩
set_option maxRecDepth 100000 in
theorem mt_Q_strips : z_nth z_mts 105 = some (⟨"RollPlayerModel", "strips", "(I)I"⟩, prog_14_method_100_code, 2, (some (.int))) := rfl
theorem cw_Q_strips (own : String) : z_cw own ⟨"RollPlayerModel", "strips", "(I)I"⟩ prog_14_method_100_code 2 (some (.int)) 1 := ⟨(z_tb 1573 (by decide +kernel)), (z_tb 3 (by decide +kernel)), ⟨by decide +kernel, by decide +kernel⟩, by decide +kernel, by decide⟩
theorem ou_W_218_11 : z_okU1 z_mts "RollPlayerLaw" 218 1 (.invokevirtual 218) 11 105 := ⟨_, _, _, _, _, rfl, by decide, mt_Q_strips, cw_Q_strips _, Or.inl ⟨rfl, (z_tb 1570 (by decide +kernel)), (z_tb 1571 (by decide +kernel)), (z_tb 1572 (by decide +kernel))⟩, fun h => absurd h (by decide +kernel)⟩
set_option maxRecDepth 100000 in
theorem mt_P_members : z_nth z_mts 261 = some (⟨"RollPlayer", "members", "(I)I"⟩, prog_1_method_65_code, 4, (some (.int))) := rfl
theorem cw_P_members (own : String) : z_cw own ⟨"RollPlayer", "members", "(I)I"⟩ prog_1_method_65_code 4 (some (.int)) 1 := ⟨(z_tb 945 (by decide +kernel)), (z_tb 1 (by decide +kernel)), ⟨by decide +kernel, by decide +kernel⟩, by decide +kernel, by decide⟩
theorem ou_W_219_10 : z_okU1 z_mts "RollPlayerLaw" 219 1 (.invokevirtual 219) 10 261 := ⟨_, _, _, _, _, rfl, by decide, mt_P_members, cw_P_members _, Or.inl ⟨rfl, (z_tb 942 (by decide +kernel)), (z_tb 943 (by decide +kernel)), (z_tb 944 (by decide +kernel))⟩, fun h => absurd h (by decide +kernel)⟩
set_option maxRecDepth 100000 in
theorem mt_Q_members : z_nth z_mts 106 = some (⟨"RollPlayerModel", "members", "(I)I"⟩, prog_14_method_101_code, 2, (some (.int))) := rfl
theorem cw_Q_members (own : String) : z_cw own ⟨"RollPlayerModel", "members", "(I)I"⟩ prog_14_method_101_code 2 (some (.int)) 1 := ⟨(z_tb 1577 (by decide +kernel)), (z_tb 3 (by decide +kernel)), ⟨by decide +kernel, by decide +kernel⟩, by decide +kernel, by decide⟩
theorem ou_W_222_11 : z_okU1 z_mts "RollPlayerLaw" 222 1 (.invokevirtual 222) 11 106 := ⟨_, _, _, _, _, rfl, by decide, mt_Q_members, cw_Q_members _, Or.inl ⟨rfl, (z_tb 1574 (by decide +kernel)), (z_tb 1575 (by decide +kernel)), (z_tb 1576 (by decide +kernel))⟩, fun h => absurd h (by decide +kernel)⟩
set_option maxRecDepth 100000 in
theorem mt_P_trace : z_nth z_mts 262 = some (⟨"RollPlayer", "trace", "(I)I"⟩, prog_1_method_66_code, 2, (some (.int))) := rfl
theorem cw_P_trace (own : String) : z_cw own ⟨"RollPlayer", "trace", "(I)I"⟩ prog_1_method_66_code 2 (some (.int)) 1 := ⟨(z_tb 949 (by decide +kernel)), (z_tb 1 (by decide +kernel)), ⟨by decide +kernel, by decide +kernel⟩, by decide +kernel, by decide⟩
theorem ou_W_223_10 : z_okU1 z_mts "RollPlayerLaw" 223 1 (.invokevirtual 223) 10 262 := ⟨_, _, _, _, _, rfl, by decide, mt_P_trace, cw_P_trace _, Or.inl ⟨rfl, (z_tb 946 (by decide +kernel)), (z_tb 947 (by decide +kernel)), (z_tb 948 (by decide +kernel))⟩, fun h => absurd h (by decide +kernel)⟩
set_option maxRecDepth 100000 in
theorem mt_Q_trace : z_nth z_mts 107 = some (⟨"RollPlayerModel", "trace", "(I)I"⟩, prog_14_method_102_code, 2, (some (.int))) := rfl
theorem cw_Q_trace (own : String) : z_cw own ⟨"RollPlayerModel", "trace", "(I)I"⟩ prog_14_method_102_code 2 (some (.int)) 1 := ⟨(z_tb 1581 (by decide +kernel)), (z_tb 3 (by decide +kernel)), ⟨by decide +kernel, by decide +kernel⟩, by decide +kernel, by decide⟩
theorem ou_W_226_11 : z_okU1 z_mts "RollPlayerLaw" 226 1 (.invokevirtual 226) 11 107 := ⟨_, _, _, _, _, rfl, by decide, mt_Q_trace, cw_Q_trace _, Or.inl ⟨rfl, (z_tb 1578 (by decide +kernel)), (z_tb 1579 (by decide +kernel)), (z_tb 1580 (by decide +kernel))⟩, fun h => absurd h (by decide +kernel)⟩
set_option maxRecDepth 100000 in
theorem mt_P_status : z_nth z_mts 263 = some (⟨"RollPlayer", "status", "()I"⟩, prog_1_method_67_code, 1, (some (.int))) := rfl
theorem cw_P_status (own : String) : z_cw own ⟨"RollPlayer", "status", "()I"⟩ prog_1_method_67_code 1 (some (.int)) 0 := ⟨(z_tb 953 (by decide +kernel)), (z_tb 1 (by decide +kernel)), ⟨by decide +kernel, by decide +kernel⟩, by decide +kernel, by decide⟩
theorem ou_W_227_10 : z_okU1 z_mts "RollPlayerLaw" 227 0 (.invokevirtual 227) 10 263 := ⟨_, _, _, _, _, rfl, by decide, mt_P_status, cw_P_status _, Or.inl ⟨rfl, (z_tb 950 (by decide +kernel)), (z_tb 951 (by decide +kernel)), (z_tb 952 (by decide +kernel))⟩, fun h => absurd h (by decide +kernel)⟩
set_option maxRecDepth 100000 in
theorem mt_Q_status : z_nth z_mts 108 = some (⟨"RollPlayerModel", "status", "()I"⟩, prog_14_method_103_code, 1, (some (.int))) := rfl
theorem cw_Q_status (own : String) : z_cw own ⟨"RollPlayerModel", "status", "()I"⟩ prog_14_method_103_code 1 (some (.int)) 0 := ⟨(z_tb 1585 (by decide +kernel)), (z_tb 3 (by decide +kernel)), ⟨by decide +kernel, by decide +kernel⟩, by decide +kernel, by decide⟩
theorem ou_W_230_11 : z_okU1 z_mts "RollPlayerLaw" 230 0 (.invokevirtual 230) 11 108 := ⟨_, _, _, _, _, rfl, by decide, mt_Q_status, cw_Q_status _, Or.inl ⟨rfl, (z_tb 1582 (by decide +kernel)), (z_tb 1583 (by decide +kernel)), (z_tb 1584 (by decide +kernel))⟩, fun h => absurd h (by decide +kernel)⟩
set_option maxRecDepth 100000 in
theorem mt_W_law : z_nth z_mts 264 = some (⟨"RollPlayerLaw", "law", "([I)Z"⟩, code, 4, (some (.boolean))) := rfl
theorem z_alls_app {P : Nat → zA → Prop} : ∀ (a b : List (Nat × zA)), z_alls P a → z_alls P b → z_alls P (a ++ b)
  | [], _, _, hb => hb
  | _ :: r, b, ha, hb => ⟨ha.1, z_alls_app r b ha.2 hb⟩
