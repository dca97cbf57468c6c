/-! PART A of the skeleton, and the names that the kit prints for this claim (kit/laws/SKELETON.whole, claim/NAMES.whole): starting texts, as they stand there. -/
-- ===== PART A: goes FIRST, ahead of the names: the tables' words, and 'selects' of the private methods out of them =====
/-- a private method of a class that the tables say can be made, by its rows of tables_1 -/
def lw_okq (q : MethodName × Nat) : Prop := (q.1.cls ≠ "java/lang/invoke/MethodHandle" ∧ q.1.cls ≠ "java/lang/invoke/VarHandle") ∧ Cond.instantiable q.1.cls q.2 ∈ tables_1 ∧ Cond.privateMethod q.1 ∈ tables_1 ∧ Cond.instanceMethod q.1 ∈ tables_1
theorem lw_p0 : lw_okq (⟨"RollPlayer", "refuse", "(I)I"⟩, 8) := ⟨⟨by decide +kernel, by decide +kernel⟩, List.mem_of_getElem? (i := 19) (by decide +kernel), List.mem_of_getElem? (i := 133) (by decide +kernel), List.mem_of_getElem? (i := 134) (by decide +kernel)⟩
theorem lw_p1 : lw_okq (⟨"RollPlayer", "done", "(I)I"⟩, 8) := ⟨⟨by decide +kernel, by decide +kernel⟩, List.mem_of_getElem? (i := 19) (by decide +kernel), List.mem_of_getElem? (i := 152) (by decide +kernel), List.mem_of_getElem? (i := 153) (by decide +kernel)⟩
theorem lw_p2 : lw_okq (⟨"RollPlayer", "rollAt", "(I)LRollPlayer$Roll;"⟩, 8) := ⟨⟨by decide +kernel, by decide +kernel⟩, List.mem_of_getElem? (i := 19) (by decide +kernel), List.mem_of_getElem? (i := 160) (by decide +kernel), List.mem_of_getElem? (i := 161) (by decide +kernel)⟩
theorem lw_p3 : lw_okq (⟨"RollPlayer", "tooManyElements", "(I)Z"⟩, 8) := ⟨⟨by decide +kernel, by decide +kernel⟩, List.mem_of_getElem? (i := 19) (by decide +kernel), List.mem_of_getElem? (i := 164) (by decide +kernel), List.mem_of_getElem? (i := 165) (by decide +kernel)⟩
theorem lw_p4 : lw_okq (⟨"RollPlayer", "found", "(I)I"⟩, 8) := ⟨⟨by decide +kernel, by decide +kernel⟩, List.mem_of_getElem? (i := 19) (by decide +kernel), List.mem_of_getElem? (i := 168) (by decide +kernel), List.mem_of_getElem? (i := 169) (by decide +kernel)⟩
theorem lw_p5 : lw_okq (⟨"RollPlayer", "stripAt", "(II)LRollPlayer$Strip;"⟩, 8) := ⟨⟨by decide +kernel, by decide +kernel⟩, List.mem_of_getElem? (i := 19) (by decide +kernel), List.mem_of_getElem? (i := 239) (by decide +kernel), List.mem_of_getElem? (i := 240) (by decide +kernel)⟩
theorem lw_p6 : lw_okq (⟨"RollPlayer", "refuseLong", "(I)J"⟩, 8) := ⟨⟨by decide +kernel, by decide +kernel⟩, List.mem_of_getElem? (i := 19) (by decide +kernel), List.mem_of_getElem? (i := 292) (by decide +kernel), List.mem_of_getElem? (i := 293) (by decide +kernel)⟩
theorem lw_p7 : lw_okq (⟨"RollPlayer", "doneLong", "(J)J"⟩, 8) := ⟨⟨by decide +kernel, by decide +kernel⟩, List.mem_of_getElem? (i := 19) (by decide +kernel), List.mem_of_getElem? (i := 297) (by decide +kernel), List.mem_of_getElem? (i := 298) (by decide +kernel)⟩
theorem lw_p8 : lw_okq (⟨"RollPlayer", "nothingThere", "()I"⟩, 8) := ⟨⟨by decide +kernel, by decide +kernel⟩, List.mem_of_getElem? (i := 19) (by decide +kernel), List.mem_of_getElem? (i := 324) (by decide +kernel), List.mem_of_getElem? (i := 325) (by decide +kernel)⟩
theorem lw_p9 : lw_okq (⟨"RollPlayer$Organ", "keep", "()V"⟩, 17) := ⟨⟨by decide +kernel, by decide +kernel⟩, List.mem_of_getElem? (i := 29) (by decide +kernel), List.mem_of_getElem? (i := 631) (by decide +kernel), List.mem_of_getElem? (i := 632) (by decide +kernel)⟩
theorem lw_p10 : lw_okq (⟨"RollPlayer$Organ", "beginStrip", "(LRollPlayer$Strip;I)V"⟩, 17) := ⟨⟨by decide +kernel, by decide +kernel⟩, List.mem_of_getElem? (i := 29) (by decide +kernel), List.mem_of_getElem? (i := 653) (by decide +kernel), List.mem_of_getElem? (i := 654) (by decide +kernel)⟩
theorem lw_p11 : lw_okq (⟨"RollPlayer$Organ", "log", "(III)V"⟩, 17) := ⟨⟨by decide +kernel, by decide +kernel⟩, List.mem_of_getElem? (i := 29) (by decide +kernel), List.mem_of_getElem? (i := 658) (by decide +kernel), List.mem_of_getElem? (i := 659) (by decide +kernel)⟩
theorem lw_p12 : lw_okq (⟨"RollPlayer$Organ", "endDownTo", "(I)V"⟩, 17) := ⟨⟨by decide +kernel, by decide +kernel⟩, List.mem_of_getElem? (i := 29) (by decide +kernel), List.mem_of_getElem? (i := 666) (by decide +kernel), List.mem_of_getElem? (i := 667) (by decide +kernel)⟩
theorem lw_p13 : lw_okq (⟨"RollPlayer$Organ", "noteEnd", "(I)V"⟩, 17) := ⟨⟨by decide +kernel, by decide +kernel⟩, List.mem_of_getElem? (i := 29) (by decide +kernel), List.mem_of_getElem? (i := 674) (by decide +kernel), List.mem_of_getElem? (i := 675) (by decide +kernel)⟩
theorem lw_p14 : lw_okq (⟨"RollPlayer$Organ", "doElement", "(LRollPlayer$Strip;I)V"⟩, 17) := ⟨⟨by decide +kernel, by decide +kernel⟩, List.mem_of_getElem? (i := 29) (by decide +kernel), List.mem_of_getElem? (i := 685) (by decide +kernel), List.mem_of_getElem? (i := 686) (by decide +kernel)⟩
theorem lw_p15 : lw_okq (⟨"RollPlayer$Organ", "doHole", "(IZ)V"⟩, 17) := ⟨⟨by decide +kernel, by decide +kernel⟩, List.mem_of_getElem? (i := 29) (by decide +kernel), List.mem_of_getElem? (i := 694) (by decide +kernel), List.mem_of_getElem? (i := 695) (by decide +kernel)⟩
def lw_privs_1 : List (MethodName × Nat) := [(⟨"RollPlayer", "refuse", "(I)I"⟩, 8), (⟨"RollPlayer", "done", "(I)I"⟩, 8), (⟨"RollPlayer", "rollAt", "(I)LRollPlayer$Roll;"⟩, 8), (⟨"RollPlayer", "tooManyElements", "(I)Z"⟩, 8), (⟨"RollPlayer", "found", "(I)I"⟩, 8), (⟨"RollPlayer", "stripAt", "(II)LRollPlayer$Strip;"⟩, 8), (⟨"RollPlayer", "refuseLong", "(I)J"⟩, 8), (⟨"RollPlayer", "doneLong", "(J)J"⟩, 8), (⟨"RollPlayer", "nothingThere", "()I"⟩, 8), (⟨"RollPlayer$Organ", "keep", "()V"⟩, 17), (⟨"RollPlayer$Organ", "beginStrip", "(LRollPlayer$Strip;I)V"⟩, 17), (⟨"RollPlayer$Organ", "log", "(III)V"⟩, 17), (⟨"RollPlayer$Organ", "endDownTo", "(I)V"⟩, 17), (⟨"RollPlayer$Organ", "noteEnd", "(I)V"⟩, 17), (⟨"RollPlayer$Organ", "doElement", "(LRollPlayer$Strip;I)V"⟩, 17), (⟨"RollPlayer$Organ", "doHole", "(IZ)V"⟩, 17)]
theorem lw_r1 : ∀ q ∈ lw_privs_1, lw_okq q := List.forall_mem_cons.mpr ⟨lw_p0, List.forall_mem_cons.mpr ⟨lw_p1, List.forall_mem_cons.mpr ⟨lw_p2, List.forall_mem_cons.mpr ⟨lw_p3, List.forall_mem_cons.mpr ⟨lw_p4, List.forall_mem_cons.mpr ⟨lw_p5, List.forall_mem_cons.mpr ⟨lw_p6, List.forall_mem_cons.mpr ⟨lw_p7, List.forall_mem_cons.mpr ⟨lw_p8, List.forall_mem_cons.mpr ⟨lw_p9, List.forall_mem_cons.mpr ⟨lw_p10, List.forall_mem_cons.mpr ⟨lw_p11, List.forall_mem_cons.mpr ⟨lw_p12, List.forall_mem_cons.mpr ⟨lw_p13, List.forall_mem_cons.mpr ⟨lw_p14, List.forall_mem_cons.mpr ⟨lw_p15, fun _ h => absurd h List.not_mem_nil⟩⟩⟩⟩⟩⟩⟩⟩⟩⟩⟩⟩⟩⟩⟩⟩
theorem lw_p16 : lw_okq (⟨"RollPlayer$Organ", "endTrack", "(I)V"⟩, 17) := ⟨⟨by decide +kernel, by decide +kernel⟩, List.mem_of_getElem? (i := 29) (by decide +kernel), List.mem_of_getElem? (i := 702) (by decide +kernel), List.mem_of_getElem? (i := 703) (by decide +kernel)⟩
theorem lw_p17 : lw_okq (⟨"RollPlayer$Organ", "startSound", "(LRollPlayer$Instrument;II)Z"⟩, 17) := ⟨⟨by decide +kernel, by decide +kernel⟩, List.mem_of_getElem? (i := 29) (by decide +kernel), List.mem_of_getElem? (i := 707) (by decide +kernel), List.mem_of_getElem? (i := 708) (by decide +kernel)⟩
theorem lw_p18 : lw_okq (⟨"RollPlayer$Organ", "setTempo", "(II)V"⟩, 17) := ⟨⟨by decide +kernel, by decide +kernel⟩, List.mem_of_getElem? (i := 29) (by decide +kernel), List.mem_of_getElem? (i := 712) (by decide +kernel), List.mem_of_getElem? (i := 713) (by decide +kernel)⟩
theorem lw_p19 : lw_okq (⟨"RollPlayer$Organ", "goOnWithTempo", "()V"⟩, 17) := ⟨⟨by decide +kernel, by decide +kernel⟩, List.mem_of_getElem? (i := 29) (by decide +kernel), List.mem_of_getElem? (i := 720) (by decide +kernel), List.mem_of_getElem? (i := 721) (by decide +kernel)⟩
theorem lw_p20 : lw_okq (⟨"RollPlayer", "addCopies", "(LRollPlayer$Roll;ILRollPlayer$Roll;II)I"⟩, 8) := ⟨⟨by decide +kernel, by decide +kernel⟩, List.mem_of_getElem? (i := 19) (by decide +kernel), List.mem_of_getElem? (i := 845) (by decide +kernel), List.mem_of_getElem? (i := 846) (by decide +kernel)⟩
theorem lw_p21 : lw_okq (⟨"RollPlayer", "moveOne", "(LRollPlayer$Strip;LRollPlayer$Strip;)I"⟩, 8) := ⟨⟨by decide +kernel, by decide +kernel⟩, List.mem_of_getElem? (i := 19) (by decide +kernel), List.mem_of_getElem? (i := 881) (by decide +kernel), List.mem_of_getElem? (i := 882) (by decide +kernel)⟩
theorem lw_p22 : lw_okq (⟨"RollPlayer", "replaceBytes", "(LRollPlayer$Strip;LRollPlayer$Strip;)Z"⟩, 8) := ⟨⟨by decide +kernel, by decide +kernel⟩, List.mem_of_getElem? (i := 19) (by decide +kernel), List.mem_of_getElem? (i := 885) (by decide +kernel), List.mem_of_getElem? (i := 886) (by decide +kernel)⟩
theorem lw_p23 : lw_okq (⟨"RollPlayer", "noteFallen", "(III)V"⟩, 8) := ⟨⟨by decide +kernel, by decide +kernel⟩, List.mem_of_getElem? (i := 19) (by decide +kernel), List.mem_of_getElem? (i := 907) (by decide +kernel), List.mem_of_getElem? (i := 908) (by decide +kernel)⟩
theorem lw_p24 : lw_okq (⟨"RollPlayerModel", "no", "(I)I"⟩, 68) := ⟨⟨by decide +kernel, by decide +kernel⟩, List.mem_of_getElem? (i := 955) (by decide +kernel), List.mem_of_getElem? (i := 1175) (by decide +kernel), List.mem_of_getElem? (i := 1176) (by decide +kernel)⟩
theorem lw_p25 : lw_okq (⟨"RollPlayerModel", "well", "(I)I"⟩, 68) := ⟨⟨by decide +kernel, by decide +kernel⟩, List.mem_of_getElem? (i := 955) (by decide +kernel), List.mem_of_getElem? (i := 1179) (by decide +kernel), List.mem_of_getElem? (i := 1180) (by decide +kernel)⟩
theorem lw_p26 : lw_okq (⟨"RollPlayerModel", "isRoll", "(I)Z"⟩, 68) := ⟨⟨by decide +kernel, by decide +kernel⟩, List.mem_of_getElem? (i := 955) (by decide +kernel), List.mem_of_getElem? (i := 1187) (by decide +kernel), List.mem_of_getElem? (i := 1188) (by decide +kernel)⟩
theorem lw_p27 : lw_okq (⟨"RollPlayerModel", "finds", "(I)I"⟩, 68) := ⟨⟨by decide +kernel, by decide +kernel⟩, List.mem_of_getElem? (i := 955) (by decide +kernel), List.mem_of_getElem? (i := 1194) (by decide +kernel), List.mem_of_getElem? (i := 1195) (by decide +kernel)⟩
theorem lw_p28 : lw_okq (⟨"RollPlayerModel", "sealIt", "(I)V"⟩, 68) := ⟨⟨by decide +kernel, by decide +kernel⟩, List.mem_of_getElem? (i := 955) (by decide +kernel), List.mem_of_getElem? (i := 1198) (by decide +kernel), List.mem_of_getElem? (i := 1199) (by decide +kernel)⟩
theorem lw_p29 : lw_okq (⟨"RollPlayerModel", "sumOf", "(I)I"⟩, 68) := ⟨⟨by decide +kernel, by decide +kernel⟩, List.mem_of_getElem? (i := 955) (by decide +kernel), List.mem_of_getElem? (i := 1202) (by decide +kernel), List.mem_of_getElem? (i := 1203) (by decide +kernel)⟩
theorem lw_p30 : lw_okq (⟨"RollPlayerModel", "byteAt", "(II)I"⟩, 68) := ⟨⟨by decide +kernel, by decide +kernel⟩, List.mem_of_getElem? (i := 955) (by decide +kernel), List.mem_of_getElem? (i := 1209) (by decide +kernel), List.mem_of_getElem? (i := 1210) (by decide +kernel)⟩
theorem lw_p31 : lw_okq (⟨"RollPlayerModel", "bars", "(II)I"⟩, 68) := ⟨⟨by decide +kernel, by decide +kernel⟩, List.mem_of_getElem? (i := 955) (by decide +kernel), List.mem_of_getElem? (i := 1217) (by decide +kernel), List.mem_of_getElem? (i := 1218) (by decide +kernel)⟩
def lw_privs_2 : List (MethodName × Nat) := [(⟨"RollPlayer$Organ", "endTrack", "(I)V"⟩, 17), (⟨"RollPlayer$Organ", "startSound", "(LRollPlayer$Instrument;II)Z"⟩, 17), (⟨"RollPlayer$Organ", "setTempo", "(II)V"⟩, 17), (⟨"RollPlayer$Organ", "goOnWithTempo", "()V"⟩, 17), (⟨"RollPlayer", "addCopies", "(LRollPlayer$Roll;ILRollPlayer$Roll;II)I"⟩, 8), (⟨"RollPlayer", "moveOne", "(LRollPlayer$Strip;LRollPlayer$Strip;)I"⟩, 8), (⟨"RollPlayer", "replaceBytes", "(LRollPlayer$Strip;LRollPlayer$Strip;)Z"⟩, 8), (⟨"RollPlayer", "noteFallen", "(III)V"⟩, 8), (⟨"RollPlayerModel", "no", "(I)I"⟩, 68), (⟨"RollPlayerModel", "well", "(I)I"⟩, 68), (⟨"RollPlayerModel", "isRoll", "(I)Z"⟩, 68), (⟨"RollPlayerModel", "finds", "(I)I"⟩, 68), (⟨"RollPlayerModel", "sealIt", "(I)V"⟩, 68), (⟨"RollPlayerModel", "sumOf", "(I)I"⟩, 68), (⟨"RollPlayerModel", "byteAt", "(II)I"⟩, 68), (⟨"RollPlayerModel", "bars", "(II)I"⟩, 68)]
theorem lw_r2 : ∀ q ∈ lw_privs_2, lw_okq q := List.forall_mem_cons.mpr ⟨lw_p16, List.forall_mem_cons.mpr ⟨lw_p17, List.forall_mem_cons.mpr ⟨lw_p18, List.forall_mem_cons.mpr ⟨lw_p19, List.forall_mem_cons.mpr ⟨lw_p20, List.forall_mem_cons.mpr ⟨lw_p21, List.forall_mem_cons.mpr ⟨lw_p22, List.forall_mem_cons.mpr ⟨lw_p23, List.forall_mem_cons.mpr ⟨lw_p24, List.forall_mem_cons.mpr ⟨lw_p25, List.forall_mem_cons.mpr ⟨lw_p26, List.forall_mem_cons.mpr ⟨lw_p27, List.forall_mem_cons.mpr ⟨lw_p28, List.forall_mem_cons.mpr ⟨lw_p29, List.forall_mem_cons.mpr ⟨lw_p30, List.forall_mem_cons.mpr ⟨lw_p31, fun _ h => absurd h List.not_mem_nil⟩⟩⟩⟩⟩⟩⟩⟩⟩⟩⟩⟩⟩⟩⟩⟩
theorem lw_p32 : lw_okq (⟨"RollPlayerModel", "isStrip", "(II)Z"⟩, 68) := ⟨⟨by decide +kernel, by decide +kernel⟩, List.mem_of_getElem? (i := 955) (by decide +kernel), List.mem_of_getElem? (i := 1221) (by decide +kernel), List.mem_of_getElem? (i := 1222) (by decide +kernel)⟩
theorem lw_p33 : lw_okq (⟨"RollPlayerModel", "poolOf", "(II)I"⟩, 68) := ⟨⟨by decide +kernel, by decide +kernel⟩, List.mem_of_getElem? (i := 955) (by decide +kernel), List.mem_of_getElem? (i := 1225) (by decide +kernel), List.mem_of_getElem? (i := 1226) (by decide +kernel)⟩
theorem lw_p34 : lw_okq (⟨"RollPlayerModel", "findingOf", "(I)I"⟩, 68) := ⟨⟨by decide +kernel, by decide +kernel⟩, List.mem_of_getElem? (i := 955) (by decide +kernel), List.mem_of_getElem? (i := 1229) (by decide +kernel), List.mem_of_getElem? (i := 1230) (by decide +kernel)⟩
theorem lw_p35 : lw_okq (⟨"RollPlayerModel", "headShort", "(II)I"⟩, 68) := ⟨⟨by decide +kernel, by decide +kernel⟩, List.mem_of_getElem? (i := 955) (by decide +kernel), List.mem_of_getElem? (i := 1233) (by decide +kernel), List.mem_of_getElem? (i := 1234) (by decide +kernel)⟩
theorem lw_p36 : lw_okq (⟨"RollPlayerModel", "headSum", "(I)I"⟩, 68) := ⟨⟨by decide +kernel, by decide +kernel⟩, List.mem_of_getElem? (i := 955) (by decide +kernel), List.mem_of_getElem? (i := 1237) (by decide +kernel), List.mem_of_getElem? (i := 1238) (by decide +kernel)⟩
theorem lw_p37 : lw_okq (⟨"RollPlayerModel", "empty", "(I)V"⟩, 68) := ⟨⟨by decide +kernel, by decide +kernel⟩, List.mem_of_getElem? (i := 955) (by decide +kernel), List.mem_of_getElem? (i := 1253) (by decide +kernel), List.mem_of_getElem? (i := 1254) (by decide +kernel)⟩
theorem lw_p38 : lw_okq (⟨"RollPlayerModel", "bytesOf", "(I)I"⟩, 68) := ⟨⟨by decide +kernel, by decide +kernel⟩, List.mem_of_getElem? (i := 955) (by decide +kernel), List.mem_of_getElem? (i := 1265) (by decide +kernel), List.mem_of_getElem? (i := 1266) (by decide +kernel)⟩
theorem lw_p39 : lw_okq (⟨"RollPlayerModel", "asks", "(II)I"⟩, 68) := ⟨⟨by decide +kernel, by decide +kernel⟩, List.mem_of_getElem? (i := 955) (by decide +kernel), List.mem_of_getElem? (i := 1273) (by decide +kernel), List.mem_of_getElem? (i := 1274) (by decide +kernel)⟩
theorem lw_p40 : lw_okq (⟨"RollPlayerModel", "isInstrument", "(I)Z"⟩, 68) := ⟨⟨by decide +kernel, by decide +kernel⟩, List.mem_of_getElem? (i := 955) (by decide +kernel), List.mem_of_getElem? (i := 1309) (by decide +kernel), List.mem_of_getElem? (i := 1310) (by decide +kernel)⟩
theorem lw_p41 : lw_okq (⟨"RollPlayerModel", "reaches", "(II)Z"⟩, 68) := ⟨⟨by decide +kernel, by decide +kernel⟩, List.mem_of_getElem? (i := 955) (by decide +kernel), List.mem_of_getElem? (i := 1313) (by decide +kernel), List.mem_of_getElem? (i := 1314) (by decide +kernel)⟩
theorem lw_p42 : lw_okq (⟨"RollPlayerModel", "reckon", "()Z"⟩, 68) := ⟨⟨by decide +kernel, by decide +kernel⟩, List.mem_of_getElem? (i := 955) (by decide +kernel), List.mem_of_getElem? (i := 1317) (by decide +kernel), List.mem_of_getElem? (i := 1318) (by decide +kernel)⟩
theorem lw_p43 : lw_okq (⟨"RollPlayerModel", "tones", "(I)I"⟩, 68) := ⟨⟨by decide +kernel, by decide +kernel⟩, List.mem_of_getElem? (i := 955) (by decide +kernel), List.mem_of_getElem? (i := 1353) (by decide +kernel), List.mem_of_getElem? (i := 1354) (by decide +kernel)⟩
theorem lw_p44 : lw_okq (⟨"RollPlayerModel", "frequencyOf", "(I)D"⟩, 68) := ⟨⟨by decide +kernel, by decide +kernel⟩, List.mem_of_getElem? (i := 955) (by decide +kernel), List.mem_of_getElem? (i := 1357) (by decide +kernel), List.mem_of_getElem? (i := 1358) (by decide +kernel)⟩
theorem lw_p45 : lw_okq (⟨"RollPlayerModel", "plainOf", "(I)D"⟩, 68) := ⟨⟨by decide +kernel, by decide +kernel⟩, List.mem_of_getElem? (i := 955) (by decide +kernel), List.mem_of_getElem? (i := 1361) (by decide +kernel), List.mem_of_getElem? (i := 1362) (by decide +kernel)⟩
theorem lw_p46 : lw_okq (⟨"RollPlayerModel", "layAside", "()V"⟩, 68) := ⟨⟨by decide +kernel, by decide +kernel⟩, List.mem_of_getElem? (i := 955) (by decide +kernel), List.mem_of_getElem? (i := 1400) (by decide +kernel), List.mem_of_getElem? (i := 1401) (by decide +kernel)⟩
theorem lw_p47 : lw_okq (⟨"RollPlayerModel", "comes", "()Z"⟩, 68) := ⟨⟨by decide +kernel, by decide +kernel⟩, List.mem_of_getElem? (i := 955) (by decide +kernel), List.mem_of_getElem? (i := 1408) (by decide +kernel), List.mem_of_getElem? (i := 1409) (by decide +kernel)⟩
def lw_privs_3 : List (MethodName × Nat) := [(⟨"RollPlayerModel", "isStrip", "(II)Z"⟩, 68), (⟨"RollPlayerModel", "poolOf", "(II)I"⟩, 68), (⟨"RollPlayerModel", "findingOf", "(I)I"⟩, 68), (⟨"RollPlayerModel", "headShort", "(II)I"⟩, 68), (⟨"RollPlayerModel", "headSum", "(I)I"⟩, 68), (⟨"RollPlayerModel", "empty", "(I)V"⟩, 68), (⟨"RollPlayerModel", "bytesOf", "(I)I"⟩, 68), (⟨"RollPlayerModel", "asks", "(II)I"⟩, 68), (⟨"RollPlayerModel", "isInstrument", "(I)Z"⟩, 68), (⟨"RollPlayerModel", "reaches", "(II)Z"⟩, 68), (⟨"RollPlayerModel", "reckon", "()Z"⟩, 68), (⟨"RollPlayerModel", "tones", "(I)I"⟩, 68), (⟨"RollPlayerModel", "frequencyOf", "(I)D"⟩, 68), (⟨"RollPlayerModel", "plainOf", "(I)D"⟩, 68), (⟨"RollPlayerModel", "layAside", "()V"⟩, 68), (⟨"RollPlayerModel", "comes", "()Z"⟩, 68)]
theorem lw_r3 : ∀ q ∈ lw_privs_3, lw_okq q := List.forall_mem_cons.mpr ⟨lw_p32, List.forall_mem_cons.mpr ⟨lw_p33, List.forall_mem_cons.mpr ⟨lw_p34, List.forall_mem_cons.mpr ⟨lw_p35, List.forall_mem_cons.mpr ⟨lw_p36, List.forall_mem_cons.mpr ⟨lw_p37, List.forall_mem_cons.mpr ⟨lw_p38, List.forall_mem_cons.mpr ⟨lw_p39, List.forall_mem_cons.mpr ⟨lw_p40, List.forall_mem_cons.mpr ⟨lw_p41, List.forall_mem_cons.mpr ⟨lw_p42, List.forall_mem_cons.mpr ⟨lw_p43, List.forall_mem_cons.mpr ⟨lw_p44, List.forall_mem_cons.mpr ⟨lw_p45, List.forall_mem_cons.mpr ⟨lw_p46, List.forall_mem_cons.mpr ⟨lw_p47, fun _ h => absurd h List.not_mem_nil⟩⟩⟩⟩⟩⟩⟩⟩⟩⟩⟩⟩⟩⟩⟩⟩
theorem lw_p48 : lw_okq (⟨"RollPlayerModel", "endAll", "()V"⟩, 68) := ⟨⟨by decide +kernel, by decide +kernel⟩, List.mem_of_getElem? (i := 955) (by decide +kernel), List.mem_of_getElem? (i := 1412) (by decide +kernel), List.mem_of_getElem? (i := 1413) (by decide +kernel)⟩
theorem lw_p49 : lw_okq (⟨"RollPlayerModel", "end", "(I)V"⟩, 68) := ⟨⟨by decide +kernel, by decide +kernel⟩, List.mem_of_getElem? (i := 955) (by decide +kernel), List.mem_of_getElem? (i := 1416) (by decide +kernel), List.mem_of_getElem? (i := 1417) (by decide +kernel)⟩
theorem lw_p50 : lw_okq (⟨"RollPlayerModel", "tell", "(III)V"⟩, 68) := ⟨⟨by decide +kernel, by decide +kernel⟩, List.mem_of_getElem? (i := 955) (by decide +kernel), List.mem_of_getElem? (i := 1420) (by decide +kernel), List.mem_of_getElem? (i := 1421) (by decide +kernel)⟩
theorem lw_p51 : lw_okq (⟨"RollPlayerModel", "does", "(II)V"⟩, 68) := ⟨⟨by decide +kernel, by decide +kernel⟩, List.mem_of_getElem? (i := 955) (by decide +kernel), List.mem_of_getElem? (i := 1424) (by decide +kernel), List.mem_of_getElem? (i := 1425) (by decide +kernel)⟩
theorem lw_p52 : lw_okq (⟨"RollPlayerModel", "openHole", "(I)V"⟩, 68) := ⟨⟨by decide +kernel, by decide +kernel⟩, List.mem_of_getElem? (i := 955) (by decide +kernel), List.mem_of_getElem? (i := 1428) (by decide +kernel), List.mem_of_getElem? (i := 1429) (by decide +kernel)⟩
theorem lw_p53 : lw_okq (⟨"RollPlayerModel", "opens", "(II)Z"⟩, 68) := ⟨⟨by decide +kernel, by decide +kernel⟩, List.mem_of_getElem? (i := 955) (by decide +kernel), List.mem_of_getElem? (i := 1432) (by decide +kernel), List.mem_of_getElem? (i := 1433) (by decide +kernel)⟩
theorem lw_p54 : lw_okq (⟨"RollPlayerModel", "begins", "(II)Z"⟩, 68) := ⟨⟨by decide +kernel, by decide +kernel⟩, List.mem_of_getElem? (i := 955) (by decide +kernel), List.mem_of_getElem? (i := 1436) (by decide +kernel), List.mem_of_getElem? (i := 1437) (by decide +kernel)⟩
theorem lw_p55 : lw_okq (⟨"RollPlayerModel", "shutHole", "(I)V"⟩, 68) := ⟨⟨by decide +kernel, by decide +kernel⟩, List.mem_of_getElem? (i := 955) (by decide +kernel), List.mem_of_getElem? (i := 1440) (by decide +kernel), List.mem_of_getElem? (i := 1441) (by decide +kernel)⟩
theorem lw_p56 : lw_okq (⟨"RollPlayerModel", "tempoTo", "(II)V"⟩, 68) := ⟨⟨by decide +kernel, by decide +kernel⟩, List.mem_of_getElem? (i := 955) (by decide +kernel), List.mem_of_getElem? (i := 1444) (by decide +kernel), List.mem_of_getElem? (i := 1445) (by decide +kernel)⟩
theorem lw_p57 : lw_okq (⟨"RollPlayerModel", "tempoGoesOn", "()V"⟩, 68) := ⟨⟨by decide +kernel, by decide +kernel⟩, List.mem_of_getElem? (i := 955) (by decide +kernel), List.mem_of_getElem? (i := 1448) (by decide +kernel), List.mem_of_getElem? (i := 1449) (by decide +kernel)⟩
theorem lw_p58 : lw_okq (⟨"RollPlayerModel", "becomes", "(I)V"⟩, 68) := ⟨⟨by decide +kernel, by decide +kernel⟩, List.mem_of_getElem? (i := 955) (by decide +kernel), List.mem_of_getElem? (i := 1463) (by decide +kernel), List.mem_of_getElem? (i := 1464) (by decide +kernel)⟩
theorem lw_p59 : lw_okq (⟨"RollPlayerModel", "loudOf", "(III)I"⟩, 68) := ⟨⟨by decide +kernel, by decide +kernel⟩, List.mem_of_getElem? (i := 955) (by decide +kernel), List.mem_of_getElem? (i := 1479) (by decide +kernel), List.mem_of_getElem? (i := 1480) (by decide +kernel)⟩
theorem lw_p60 : lw_okq (⟨"RollPlayerModel", "airOf", "(I)I"⟩, 68) := ⟨⟨by decide +kernel, by decide +kernel⟩, List.mem_of_getElem? (i := 955) (by decide +kernel), List.mem_of_getElem? (i := 1483) (by decide +kernel), List.mem_of_getElem? (i := 1484) (by decide +kernel)⟩
theorem lw_p61 : lw_okq (⟨"RollPlayerModel", "elementsOf", "(III)I"⟩, 68) := ⟨⟨by decide +kernel, by decide +kernel⟩, List.mem_of_getElem? (i := 955) (by decide +kernel), List.mem_of_getElem? (i := 1515) (by decide +kernel), List.mem_of_getElem? (i := 1516) (by decide +kernel)⟩
theorem lw_p62 : lw_okq (⟨"RollPlayerModel", "copyOf", "(I)I"⟩, 68) := ⟨⟨by decide +kernel, by decide +kernel⟩, List.mem_of_getElem? (i := 955) (by decide +kernel), List.mem_of_getElem? (i := 1519) (by decide +kernel), List.mem_of_getElem? (i := 1520) (by decide +kernel)⟩
theorem lw_p63 : lw_okq (⟨"RollPlayerModel", "copies", "(II)V"⟩, 68) := ⟨⟨by decide +kernel, by decide +kernel⟩, List.mem_of_getElem? (i := 955) (by decide +kernel), List.mem_of_getElem? (i := 1523) (by decide +kernel), List.mem_of_getElem? (i := 1524) (by decide +kernel)⟩
def lw_privs_4 : List (MethodName × Nat) := [(⟨"RollPlayerModel", "endAll", "()V"⟩, 68), (⟨"RollPlayerModel", "end", "(I)V"⟩, 68), (⟨"RollPlayerModel", "tell", "(III)V"⟩, 68), (⟨"RollPlayerModel", "does", "(II)V"⟩, 68), (⟨"RollPlayerModel", "openHole", "(I)V"⟩, 68), (⟨"RollPlayerModel", "opens", "(II)Z"⟩, 68), (⟨"RollPlayerModel", "begins", "(II)Z"⟩, 68), (⟨"RollPlayerModel", "shutHole", "(I)V"⟩, 68), (⟨"RollPlayerModel", "tempoTo", "(II)V"⟩, 68), (⟨"RollPlayerModel", "tempoGoesOn", "()V"⟩, 68), (⟨"RollPlayerModel", "becomes", "(I)V"⟩, 68), (⟨"RollPlayerModel", "loudOf", "(III)I"⟩, 68), (⟨"RollPlayerModel", "airOf", "(I)I"⟩, 68), (⟨"RollPlayerModel", "elementsOf", "(III)I"⟩, 68), (⟨"RollPlayerModel", "copyOf", "(I)I"⟩, 68), (⟨"RollPlayerModel", "copies", "(II)V"⟩, 68)]
theorem lw_r4 : ∀ q ∈ lw_privs_4, lw_okq q := List.forall_mem_cons.mpr ⟨lw_p48, List.forall_mem_cons.mpr ⟨lw_p49, List.forall_mem_cons.mpr ⟨lw_p50, List.forall_mem_cons.mpr ⟨lw_p51, List.forall_mem_cons.mpr ⟨lw_p52, List.forall_mem_cons.mpr ⟨lw_p53, List.forall_mem_cons.mpr ⟨lw_p54, List.forall_mem_cons.mpr ⟨lw_p55, List.forall_mem_cons.mpr ⟨lw_p56, List.forall_mem_cons.mpr ⟨lw_p57, List.forall_mem_cons.mpr ⟨lw_p58, List.forall_mem_cons.mpr ⟨lw_p59, List.forall_mem_cons.mpr ⟨lw_p60, List.forall_mem_cons.mpr ⟨lw_p61, List.forall_mem_cons.mpr ⟨lw_p62, List.forall_mem_cons.mpr ⟨lw_p63, fun _ h => absurd h List.not_mem_nil⟩⟩⟩⟩⟩⟩⟩⟩⟩⟩⟩⟩⟩⟩⟩⟩
theorem lw_p64 : lw_okq (⟨"RollPlayerModel", "hinders", "(IIII)I"⟩, 68) := ⟨⟨by decide +kernel, by decide +kernel⟩, List.mem_of_getElem? (i := 955) (by decide +kernel), List.mem_of_getElem? (i := 1535) (by decide +kernel), List.mem_of_getElem? (i := 1536) (by decide +kernel)⟩
theorem lw_p65 : lw_okq (⟨"RollPlayerModel", "areAlike", "(II)Z"⟩, 68) := ⟨⟨by decide +kernel, by decide +kernel⟩, List.mem_of_getElem? (i := 955) (by decide +kernel), List.mem_of_getElem? (i := 1559) (by decide +kernel), List.mem_of_getElem? (i := 1560) (by decide +kernel)⟩
def lw_privs_5 : List (MethodName × Nat) := [(⟨"RollPlayerModel", "hinders", "(IIII)I"⟩, 68), (⟨"RollPlayerModel", "areAlike", "(II)Z"⟩, 68)]
theorem lw_r5 : ∀ q ∈ lw_privs_5, lw_okq q := List.forall_mem_cons.mpr ⟨lw_p64, List.forall_mem_cons.mpr ⟨lw_p65, fun _ h => absurd h List.not_mem_nil⟩⟩
def lw_privs : List (MethodName × Nat) := lw_privs_1 ++ (lw_privs_2 ++ (lw_privs_3 ++ (lw_privs_4 ++ (lw_privs_5))))
def lw_tbl : List Cond := k2_sels lw_privs ++ tables_1
theorem lw_privs_ok : ∀ q ∈ lw_privs, lw_okq q := by
  show ∀ q ∈ lw_privs_1 ++ (lw_privs_2 ++ (lw_privs_3 ++ (lw_privs_4 ++ (lw_privs_5)))), lw_okq q
  exact List.forall_mem_append.mpr ⟨lw_r1, List.forall_mem_append.mpr ⟨lw_r2, List.forall_mem_append.mpr ⟨lw_r3, List.forall_mem_append.mpr ⟨lw_r4, lw_r5⟩⟩⟩⟩
/-- the streams that the claim lets the run draw from -/
abbrev lw_cs : List Choice := [Jvm.Choice.named "NaN.bits"]
theorem lw_bits : nanBits ∈ lw_cs := by first | decide | exact List.mem_cons_self | simp [lw_cs, nanBits]
def RX0 : String := "RollPlayer$Bass"
def TX0 : u_T := fun k => match k with
  | 0 => ("RollPlayer$Instrument", "number", "I", true)
  | 1 => ("RollPlayer$Instrument", "kind", "I", true)
  | 2 => ("RollPlayer$Instrument", "size", "I", false)
  | 3 => ("RollPlayer$Instrument", "p", "I", false)
  | _ => ("RollPlayer$Instrument", "q", "I", false)
def tyX0 : Nat → FieldType := fun k => match k with
  | 0 => .int
  | 1 => .int
  | 2 => .int
  | 3 => .int
  | _ => .int
abbrev wsX00 : List Cond := u_ws RX0 TX0 5
theorem nmX0 : ∀ a, a < 5 → ∀ b, b < 5 → a ≠ b → (TX0 a).2.1 ≠ (TX0 b).2.1 := by decide +kernel
theorem tyX0_ok : ∀ k, k < 5 → parseFieldDescriptor (TX0 k).2.2.1 = some (tyX0 k) := by decide +kernel
abbrev cX0_init : ByteArray := prog_2_method_1_code
def yX0_init : MethodName := ⟨RX0, "<init>", "(I)V"⟩
abbrev cX0_air : ByteArray := prog_2_method_2_code
def yX0_air : MethodName := ⟨RX0, "air", "(I[I)I"⟩
abbrev cX0_pitch : ByteArray := prog_2_method_3_code
def yX0_pitch : MethodName := ⟨RX0, "pitch", "(D[II)D"⟩
def RX1 : String := "RollPlayer$Bell"
def TX1 : u_T := fun k => match k with
  | 0 => ("RollPlayer$Instrument", "number", "I", true)
  | 1 => ("RollPlayer$Instrument", "kind", "I", true)
  | 2 => ("RollPlayer$Instrument", "size", "I", false)
  | 3 => ("RollPlayer$Instrument", "p", "I", false)
  | _ => ("RollPlayer$Instrument", "q", "I", false)
def tyX1 : Nat → FieldType := fun k => match k with
  | 0 => .int
  | 1 => .int
  | 2 => .int
  | 3 => .int
  | _ => .int
abbrev wsX10 : List Cond := u_ws RX1 TX1 5
theorem nmX1 : ∀ a, a < 5 → ∀ b, b < 5 → a ≠ b → (TX1 a).2.1 ≠ (TX1 b).2.1 := by decide +kernel
theorem tyX1_ok : ∀ k, k < 5 → parseFieldDescriptor (TX1 k).2.2.1 = some (tyX1 k) := by decide +kernel
abbrev cX1_init : ByteArray := prog_3_method_1_code
def yX1_init : MethodName := ⟨RX1, "<init>", "(I)V"⟩
abbrev cX1_loudness : ByteArray := prog_3_method_2_code
def yX1_loudness : MethodName := ⟨RX1, "loudness", "(III[I)I"⟩
abbrev cX1_pitch : ByteArray := prog_3_method_3_code
def yX1_pitch : MethodName := ⟨RX1, "pitch", "(D[II)D"⟩
def RX2 : String := "RollPlayer$Coupler"
def TX2 : u_T := fun k => match k with
  | 0 => ("RollPlayer$Instrument", "number", "I", true)
  | 1 => ("RollPlayer$Instrument", "kind", "I", true)
  | 2 => ("RollPlayer$Instrument", "size", "I", false)
  | 3 => ("RollPlayer$Instrument", "p", "I", false)
  | 4 => ("RollPlayer$Instrument", "q", "I", false)
  | 5 => ("RollPlayer$Coupler", "parts", "[LRollPlayer$Instrument;", true)
  | _ => ("RollPlayer$Coupler", "memberCount", "I", false)
def tyX2 : Nat → FieldType := fun k => match k with
  | 0 => .int
  | 1 => .int
  | 2 => .int
  | 3 => .int
  | 4 => .int
  | 5 => .array (.object "RollPlayer$Instrument")
  | _ => .int
abbrev wsX20 : List Cond := u_ws RX2 TX2 7
theorem nmX2 : ∀ a, a < 7 → ∀ b, b < 7 → a ≠ b → (TX2 a).2.1 ≠ (TX2 b).2.1 := by decide +kernel
theorem tyX2_ok : ∀ k, k < 7 → parseFieldDescriptor (TX2 k).2.2.1 = some (tyX2 k) := by decide +kernel
abbrev cX2_init : ByteArray := prog_4_method_1_code
def yX2_init : MethodName := ⟨RX2, "<init>", "(I)V"⟩
abbrev cX2_partAt : ByteArray := prog_4_method_2_code
def yX2_partAt : MethodName := ⟨RX2, "partAt", "(I)LRollPlayer$Instrument;"⟩
abbrev cX2_append : ByteArray := prog_4_method_3_code
def yX2_append : MethodName := ⟨RX2, "append", "(LRollPlayer$Instrument;)V"⟩
abbrev cX2_loudness : ByteArray := prog_4_method_4_code
def yX2_loudness : MethodName := ⟨RX2, "loudness", "(III[I)I"⟩
abbrev cX2_pitch : ByteArray := prog_4_method_5_code
def yX2_pitch : MethodName := ⟨RX2, "pitch", "(D[II)D"⟩
abbrev cX2_timesWithin : ByteArray := prog_4_method_6_code
def yX2_timesWithin : MethodName := ⟨RX2, "timesWithin", "(II)I"⟩
def RX3 : String := "RollPlayer$Drum"
def TX3 : u_T := fun k => match k with
  | 0 => ("RollPlayer$Instrument", "number", "I", true)
  | 1 => ("RollPlayer$Instrument", "kind", "I", true)
  | 2 => ("RollPlayer$Instrument", "size", "I", false)
  | 3 => ("RollPlayer$Instrument", "p", "I", false)
  | _ => ("RollPlayer$Instrument", "q", "I", false)
def tyX3 : Nat → FieldType := fun k => match k with
  | 0 => .int
  | 1 => .int
  | 2 => .int
  | 3 => .int
  | _ => .int
abbrev wsX30 : List Cond := u_ws RX3 TX3 5
theorem nmX3 : ∀ a, a < 5 → ∀ b, b < 5 → a ≠ b → (TX3 a).2.1 ≠ (TX3 b).2.1 := by decide +kernel
theorem tyX3_ok : ∀ k, k < 5 → parseFieldDescriptor (TX3 k).2.2.1 = some (tyX3 k) := by decide +kernel
abbrev cX3_init : ByteArray := prog_5_method_1_code
def yX3_init : MethodName := ⟨RX3, "<init>", "(I)V"⟩
abbrev cX3_loudness : ByteArray := prog_5_method_2_code
def yX3_loudness : MethodName := ⟨RX3, "loudness", "(III[I)I"⟩
def RX4 : String := "RollPlayer$Instrument"
def TX4 : u_T := fun k => match k with
  | _ => ("", "", "", false)
def tyX4 : Nat → FieldType := fun k => match k with
  | _ => .int
abbrev wsX40 : List Cond := u_ws RX4 TX4 0
theorem nmX4 : ∀ a, a < 0 → ∀ b, b < 0 → a ≠ b → (TX4 a).2.1 ≠ (TX4 b).2.1 := by decide +kernel
theorem tyX4_ok : ∀ k, k < 0 → parseFieldDescriptor (TX4 k).2.2.1 = some (tyX4 k) := by decide +kernel
abbrev cX4_init : ByteArray := prog_6_method_1_code
def yX4_init : MethodName := ⟨RX4, "<init>", "(II)V"⟩
abbrev cX4_pitch : ByteArray := prog_6_method_3_code
def yX4_pitch : MethodName := ⟨RX4, "pitch", "(D[II)D"⟩
abbrev cX4_ratioOf : ByteArray := prog_6_method_4_code
def yX4_ratioOf : MethodName := ⟨RX4, "ratioOf", "(D)D"⟩
abbrev cX4_isOf : ByteArray := prog_6_method_5_code
def yX4_isOf : MethodName := ⟨RX4, "isOf", "(I)Z"⟩
abbrev cX4_timesWithin : ByteArray := prog_6_method_6_code
def yX4_timesWithin : MethodName := ⟨RX4, "timesWithin", "(II)I"⟩
def RX5 : String := "RollPlayer$Organ"
def TX5 : u_T := fun k => match k with
  | 0 => ("RollPlayer$Organ", "instruments", "[LRollPlayer$Instrument;", true)
  | 1 => ("RollPlayer$Organ", "chestKinds", "[I", true)
  | 2 => ("RollPlayer$Organ", "chestStarts", "[I", true)
  | 3 => ("RollPlayer$Organ", "places", "[I", true)
  | 4 => ("RollPlayer$Organ", "wireChests", "[I", true)
  | 5 => ("RollPlayer$Organ", "wirePlaces", "[I", true)
  | 6 => ("RollPlayer$Organ", "traces", "[I", true)
  | 7 => ("RollPlayer$Organ", "now", "[I", true)
  | 8 => ("RollPlayer$Organ", "kept", "[[I", true)
  | 9 => ("RollPlayer$Organ", "events", "[I", true)
  | 10 => ("RollPlayer$Organ", "instrumentCount", "I", false)
  | 11 => ("RollPlayer$Organ", "chestCount", "I", false)
  | 12 => ("RollPlayer$Organ", "baseSixteenths", "I", false)
  | 13 => ("RollPlayer$Organ", "oldestKept", "I", false)
  | 14 => ("RollPlayer$Organ", "ticksUsed", "I", false)
  | 15 => ("RollPlayer$Organ", "playing", "Z", false)
  | _ => ("RollPlayer$Organ", "played", "LRollPlayer$Roll;", false)
def tyX5 : Nat → FieldType := fun k => match k with
  | 0 => .array (.object "RollPlayer$Instrument")
  | 1 => .array .int
  | 2 => .array .int
  | 3 => .array .int
  | 4 => .array .int
  | 5 => .array .int
  | 6 => .array .int
  | 7 => .array .int
  | 8 => .array (.array .int)
  | 9 => .array .int
  | 10 => .int
  | 11 => .int
  | 12 => .int
  | 13 => .int
  | 14 => .int
  | 15 => .boolean
  | _ => .object "RollPlayer$Roll"
abbrev wsX50 : List Cond := u_ws RX5 TX5 17
theorem nmX5 : ∀ a, a < 17 → ∀ b, b < 17 → a ≠ b → (TX5 a).2.1 ≠ (TX5 b).2.1 := by decide +kernel
theorem tyX5_ok : ∀ k, k < 17 → parseFieldDescriptor (TX5 k).2.2.1 = some (tyX5 k) := by decide +kernel
abbrev cX5_init : ByteArray := prog_7_method_1_code
def yX5_init : MethodName := ⟨RX5, "<init>", "()V"⟩
abbrev cX5_instrumentAt : ByteArray := prog_7_method_2_code
def yX5_instrumentAt : MethodName := ⟨RX5, "instrumentAt", "(I)LRollPlayer$Instrument;"⟩
abbrev cX5_addInstrument : ByteArray := prog_7_method_3_code
def yX5_addInstrument : MethodName := ⟨RX5, "addInstrument", "(I)I"⟩
abbrev cX5_made : ByteArray := prog_7_method_4_code
def yX5_made : MethodName := ⟨RX5, "made", "(II)LRollPlayer$Instrument;"⟩
abbrev cX5_grow : ByteArray := prog_7_method_5_code
def yX5_grow : MethodName := ⟨RX5, "grow", "(II)Z"⟩
abbrev cX5_pitchOf : ByteArray := prog_7_method_6_code
def yX5_pitchOf : MethodName := ⟨RX5, "pitchOf", "(LRollPlayer$Instrument;)D"⟩
abbrev cX5_hasChest : ByteArray := prog_7_method_7_code
def yX5_hasChest : MethodName := ⟨RX5, "hasChest", "(I)Z"⟩
abbrev cX5_placeCount : ByteArray := prog_7_method_8_code
def yX5_placeCount : MethodName := ⟨RX5, "placeCount", "()I"⟩
abbrev cX5_addChest : ByteArray := prog_7_method_9_code
def yX5_addChest : MethodName := ⟨RX5, "addChest", "(II)I"⟩
abbrev cX5_whereIs : ByteArray := prog_7_method_10_code
def yX5_whereIs : MethodName := ⟨RX5, "whereIs", "(II)I"⟩
abbrev cX5_instrumentOf : ByteArray := prog_7_method_11_code
def yX5_instrumentOf : MethodName := ⟨RX5, "instrumentOf", "(I)I"⟩
abbrev cX5_trackOf : ByteArray := prog_7_method_12_code
def yX5_trackOf : MethodName := ⟨RX5, "trackOf", "(I)I"⟩
abbrev cX5_ageOf : ByteArray := prog_7_method_13_code
def yX5_ageOf : MethodName := ⟨RX5, "ageOf", "(I)I"⟩
abbrev cX5_soundAt : ByteArray := prog_7_method_14_code
def yX5_soundAt : MethodName := ⟨RX5, "soundAt", "(I)I"⟩
abbrev cX5_countOfTrack : ByteArray := prog_7_method_15_code
def yX5_countOfTrack : MethodName := ⟨RX5, "countOfTrack", "(I)I"⟩
abbrev cX5_isOpen : ByteArray := prog_7_method_16_code
def yX5_isOpen : MethodName := ⟨RX5, "isOpen", "(I)Z"⟩
abbrev cX5_log : ByteArray := prog_7_method_17_code
def yX5_log : MethodName := ⟨RX5, "log", "(III)V"⟩
abbrev cX5_startSound : ByteArray := prog_7_method_18_code
def yX5_startSound : MethodName := ⟨RX5, "startSound", "(LRollPlayer$Instrument;II)Z"⟩
abbrev cX5_noteEnd : ByteArray := prog_7_method_19_code
def yX5_noteEnd : MethodName := ⟨RX5, "noteEnd", "(I)V"⟩
abbrev cX5_endDownTo : ByteArray := prog_7_method_20_code
def yX5_endDownTo : MethodName := ⟨RX5, "endDownTo", "(I)V"⟩
abbrev cX5_endTrack : ByteArray := prog_7_method_21_code
def yX5_endTrack : MethodName := ⟨RX5, "endTrack", "(I)V"⟩
abbrev cX5_silence : ByteArray := prog_7_method_22_code
def yX5_silence : MethodName := ⟨RX5, "silence", "()V"⟩
abbrev cX5_begin : ByteArray := prog_7_method_23_code
def yX5_begin : MethodName := ⟨RX5, "begin", "(LRollPlayer$Roll;)V"⟩
abbrev cX5_keep : ByteArray := prog_7_method_24_code
def yX5_keep : MethodName := ⟨RX5, "keep", "()V"⟩
abbrev cX5_usedOf : ByteArray := prog_7_method_25_code
def yX5_usedOf : MethodName := ⟨RX5, "usedOf", "([I)I"⟩
abbrev cX5_goBack : ByteArray := prog_7_method_26_code
def yX5_goBack : MethodName := ⟨RX5, "goBack", "(I)Z"⟩
abbrev cX5_reachStrip : ByteArray := prog_7_method_27_code
def yX5_reachStrip : MethodName := ⟨RX5, "reachStrip", "()Z"⟩
abbrev cX5_beginStrip : ByteArray := prog_7_method_28_code
def yX5_beginStrip : MethodName := ⟨RX5, "beginStrip", "(LRollPlayer$Strip;I)V"⟩
abbrev cX5_passTick : ByteArray := prog_7_method_29_code
def yX5_passTick : MethodName := ⟨RX5, "passTick", "()V"⟩
abbrev cX5_doElement : ByteArray := prog_7_method_30_code
def yX5_doElement : MethodName := ⟨RX5, "doElement", "(LRollPlayer$Strip;I)V"⟩
abbrev cX5_doHole : ByteArray := prog_7_method_31_code
def yX5_doHole : MethodName := ⟨RX5, "doHole", "(IZ)V"⟩
abbrev cX5_setTempo : ByteArray := prog_7_method_32_code
def yX5_setTempo : MethodName := ⟨RX5, "setTempo", "(II)V"⟩
abbrev cX5_goOnWithTempo : ByteArray := prog_7_method_33_code
def yX5_goOnWithTempo : MethodName := ⟨RX5, "goOnWithTempo", "()V"⟩
def RX6 : String := "RollPlayer$Pipe"
def TX6 : u_T := fun k => match k with
  | 0 => ("RollPlayer$Instrument", "number", "I", true)
  | 1 => ("RollPlayer$Instrument", "kind", "I", true)
  | 2 => ("RollPlayer$Instrument", "size", "I", false)
  | 3 => ("RollPlayer$Instrument", "p", "I", false)
  | _ => ("RollPlayer$Instrument", "q", "I", false)
def tyX6 : Nat → FieldType := fun k => match k with
  | 0 => .int
  | 1 => .int
  | 2 => .int
  | 3 => .int
  | _ => .int
abbrev wsX60 : List Cond := u_ws RX6 TX6 5
theorem nmX6 : ∀ a, a < 5 → ∀ b, b < 5 → a ≠ b → (TX6 a).2.1 ≠ (TX6 b).2.1 := by decide +kernel
theorem tyX6_ok : ∀ k, k < 5 → parseFieldDescriptor (TX6 k).2.2.1 = some (tyX6 k) := by decide +kernel
abbrev cX6_init : ByteArray := prog_8_method_1_code
def yX6_init : MethodName := ⟨RX6, "<init>", "(II)V"⟩
abbrev cX6_air : ByteArray := prog_8_method_2_code
def yX6_air : MethodName := ⟨RX6, "air", "(I[I)I"⟩
abbrev cX6_loudness : ByteArray := prog_8_method_3_code
def yX6_loudness : MethodName := ⟨RX6, "loudness", "(III[I)I"⟩
abbrev cX6_pitch : ByteArray := prog_8_method_4_code
def yX6_pitch : MethodName := ⟨RX6, "pitch", "(D[II)D"⟩
def RX7 : String := "RollPlayer$Plucked"
def TX7 : u_T := fun k => match k with
  | 0 => ("RollPlayer$Instrument", "number", "I", true)
  | 1 => ("RollPlayer$Instrument", "kind", "I", true)
  | 2 => ("RollPlayer$Instrument", "size", "I", false)
  | 3 => ("RollPlayer$Instrument", "p", "I", false)
  | _ => ("RollPlayer$Instrument", "q", "I", false)
def tyX7 : Nat → FieldType := fun k => match k with
  | 0 => .int
  | 1 => .int
  | 2 => .int
  | 3 => .int
  | _ => .int
abbrev wsX70 : List Cond := u_ws RX7 TX7 5
theorem nmX7 : ∀ a, a < 5 → ∀ b, b < 5 → a ≠ b → (TX7 a).2.1 ≠ (TX7 b).2.1 := by decide +kernel
theorem tyX7_ok : ∀ k, k < 5 → parseFieldDescriptor (TX7 k).2.2.1 = some (tyX7 k) := by decide +kernel
abbrev cX7_init : ByteArray := prog_9_method_1_code
def yX7_init : MethodName := ⟨RX7, "<init>", "(II)V"⟩
abbrev cX7_loudness : ByteArray := prog_9_method_2_code
def yX7_loudness : MethodName := ⟨RX7, "loudness", "(III[I)I"⟩
abbrev cX7_pitch : ByteArray := prog_9_method_3_code
def yX7_pitch : MethodName := ⟨RX7, "pitch", "(D[II)D"⟩
abbrev cX7_nearest : ByteArray := prog_9_method_4_code
def yX7_nearest : MethodName := ⟨RX7, "nearest", "(D)D"⟩
def RX8 : String := "RollPlayer$Reed"
def TX8 : u_T := fun k => match k with
  | 0 => ("RollPlayer$Instrument", "number", "I", true)
  | 1 => ("RollPlayer$Instrument", "kind", "I", true)
  | 2 => ("RollPlayer$Instrument", "size", "I", false)
  | 3 => ("RollPlayer$Instrument", "p", "I", false)
  | _ => ("RollPlayer$Instrument", "q", "I", false)
def tyX8 : Nat → FieldType := fun k => match k with
  | 0 => .int
  | 1 => .int
  | 2 => .int
  | 3 => .int
  | _ => .int
abbrev wsX80 : List Cond := u_ws RX8 TX8 5
theorem nmX8 : ∀ a, a < 5 → ∀ b, b < 5 → a ≠ b → (TX8 a).2.1 ≠ (TX8 b).2.1 := by decide +kernel
theorem tyX8_ok : ∀ k, k < 5 → parseFieldDescriptor (TX8 k).2.2.1 = some (tyX8 k) := by decide +kernel
abbrev cX8_init : ByteArray := prog_10_method_1_code
def yX8_init : MethodName := ⟨RX8, "<init>", "(II)V"⟩
abbrev cX8_loudness : ByteArray := prog_10_method_2_code
def yX8_loudness : MethodName := ⟨RX8, "loudness", "(III[I)I"⟩
abbrev cX8_pitch : ByteArray := prog_10_method_3_code
def yX8_pitch : MethodName := ⟨RX8, "pitch", "(D[II)D"⟩
def RX9 : String := "RollPlayer$Roll"
def TX9 : u_T := fun k => match k with
  | 0 => ("RollPlayer$Roll", "strips", "[LRollPlayer$Strip;", true)
  | _ => ("RollPlayer$Roll", "count", "I", false)
def tyX9 : Nat → FieldType := fun k => match k with
  | 0 => .array (.object "RollPlayer$Strip")
  | _ => .int
abbrev wsX90 : List Cond := u_ws RX9 TX9 2
theorem nmX9 : ∀ a, a < 2 → ∀ b, b < 2 → a ≠ b → (TX9 a).2.1 ≠ (TX9 b).2.1 := by decide +kernel
theorem tyX9_ok : ∀ k, k < 2 → parseFieldDescriptor (TX9 k).2.2.1 = some (tyX9 k) := by decide +kernel
abbrev cX9_init : ByteArray := prog_11_method_1_code
def yX9_init : MethodName := ⟨RX9, "<init>", "()V"⟩
abbrev cX9_stripAt : ByteArray := prog_11_method_2_code
def yX9_stripAt : MethodName := ⟨RX9, "stripAt", "(I)LRollPlayer$Strip;"⟩
abbrev cX9_isWhole : ByteArray := prog_11_method_3_code
def yX9_isWhole : MethodName := ⟨RX9, "isWhole", "(I)Z"⟩
abbrev cX9_append : ByteArray := prog_11_method_4_code
def yX9_append : MethodName := ⟨RX9, "append", "(LRollPlayer$Strip;)V"⟩
abbrev cX9_put : ByteArray := prog_11_method_5_code
def yX9_put : MethodName := ⟨RX9, "put", "(ILRollPlayer$Strip;)V"⟩
abbrev cX9_makeRoom : ByteArray := prog_11_method_6_code
def yX9_makeRoom : MethodName := ⟨RX9, "makeRoom", "(II)V"⟩
abbrev cX9_elementsIn : ByteArray := prog_11_method_7_code
def yX9_elementsIn : MethodName := ⟨RX9, "elementsIn", "(II)I"⟩
abbrev cX9_splitAt : ByteArray := prog_11_method_8_code
def yX9_splitAt : MethodName := ⟨RX9, "splitAt", "(I)LRollPlayer$Roll;"⟩
def RX10 : String := "RollPlayer$Strip"
def TX10 : u_T := fun k => match k with
  | 0 => ("RollPlayer$Strip", "kind", "I", true)
  | 1 => ("RollPlayer$Strip", "number", "I", true)
  | 2 => ("RollPlayer$Strip", "ticks", "I", true)
  | 3 => ("RollPlayer$Strip", "widthBits", "I", true)
  | 4 => ("RollPlayer$Strip", "bytes", "[B", false)
  | 5 => ("RollPlayer$Strip", "length", "I", false)
  | _ => ("RollPlayer$Strip", "lost", "Z", false)
def tyX10 : Nat → FieldType := fun k => match k with
  | 0 => .int
  | 1 => .int
  | 2 => .int
  | 3 => .int
  | 4 => .array .byte
  | 5 => .int
  | _ => .boolean
abbrev wsX100 : List Cond := u_ws RX10 TX10 7
theorem nmX10 : ∀ a, a < 7 → ∀ b, b < 7 → a ≠ b → (TX10 a).2.1 ≠ (TX10 b).2.1 := by decide +kernel
theorem tyX10_ok : ∀ k, k < 7 → parseFieldDescriptor (TX10 k).2.2.1 = some (tyX10 k) := by decide +kernel
abbrev cX10_init : ByteArray := prog_12_method_1_code
def yX10_init : MethodName := ⟨RX10, "<init>", "(IIII)V"⟩
abbrev cX10_elements : ByteArray := prog_12_method_2_code
def yX10_elements : MethodName := ⟨RX10, "elements", "()I"⟩
abbrev cX10_numberAt : ByteArray := prog_12_method_3_code
def yX10_numberAt : MethodName := ⟨RX10, "numberAt", "(II)I"⟩
abbrev cX10_writeNumber : ByteArray := prog_12_method_4_code
def yX10_writeNumber : MethodName := ⟨RX10, "writeNumber", "(III)V"⟩
abbrev cX10_elementAt : ByteArray := prog_12_method_5_code
def yX10_elementAt : MethodName := ⟨RX10, "elementAt", "(I)I"⟩
abbrev cX10_putElement : ByteArray := prog_12_method_6_code
def yX10_putElement : MethodName := ⟨RX10, "putElement", "(II)V"⟩
abbrev cX10_sumNow : ByteArray := prog_12_method_7_code
def yX10_sumNow : MethodName := ⟨RX10, "sumNow", "()I"⟩
abbrev cX10_writeHead : ByteArray := prog_12_method_8_code
def yX10_writeHead : MethodName := ⟨RX10, "writeHead", "()V"⟩
abbrev cX10_verdict : ByteArray := prog_12_method_9_code
def yX10_verdict : MethodName := ⟨RX10, "verdict", "()I"⟩
abbrev cX10_dropAll : ByteArray := prog_12_method_10_code
def yX10_dropAll : MethodName := ⟨RX10, "dropAll", "()V"⟩
abbrev cX10_keepFirst : ByteArray := prog_12_method_11_code
def yX10_keepFirst : MethodName := ⟨RX10, "keepFirst", "(I)V"⟩
abbrev cX10_takeBytes : ByteArray := prog_12_method_12_code
def yX10_takeBytes : MethodName := ⟨RX10, "takeBytes", "(LRollPlayer$Strip;)V"⟩
abbrev cX10_twin : ByteArray := prog_12_method_13_code
def yX10_twin : MethodName := ⟨RX10, "twin", "()LRollPlayer$Strip;"⟩
abbrev cX10_hasSpan : ByteArray := prog_12_method_14_code
def yX10_hasSpan : MethodName := ⟨RX10, "hasSpan", "(II)Z"⟩
abbrev cX10_takeElements : ByteArray := prog_12_method_15_code
def yX10_takeElements : MethodName := ⟨RX10, "takeElements", "(ILRollPlayer$Strip;II)V"⟩
abbrev cX10_isLike : ByteArray := prog_12_method_16_code
def yX10_isLike : MethodName := ⟨RX10, "isLike", "(LRollPlayer$Strip;)Z"⟩
abbrev cX10_digestOnto : ByteArray := prog_12_method_17_code
def yX10_digestOnto : MethodName := ⟨RX10, "digestOnto", "(I)I"⟩
def RX11 : String := "RollPlayer"
def TX11 : u_T := fun k => match k with
  | 0 => ("RollPlayer", "rolls", "[LRollPlayer$Roll;", true)
  | 1 => ("RollPlayer", "organ", "LRollPlayer$Organ;", true)
  | 2 => ("RollPlayer", "fallOff", "[I", true)
  | 3 => ("RollPlayer", "rollCount", "I", false)
  | 4 => ("RollPlayer", "stripCount", "I", false)
  | 5 => ("RollPlayer", "elementCount", "I", false)
  | 6 => ("RollPlayer", "fallCount", "I", false)
  | _ => ("RollPlayer", "latest", "I", false)
def tyX11 : Nat → FieldType := fun k => match k with
  | 0 => .array (.object "RollPlayer$Roll")
  | 1 => .object "RollPlayer$Organ"
  | 2 => .array .int
  | 3 => .int
  | 4 => .int
  | 5 => .int
  | 6 => .int
  | _ => .int
abbrev wsX110 : List Cond := u_ws RX11 TX11 8
theorem nmX11 : ∀ a, a < 8 → ∀ b, b < 8 → a ≠ b → (TX11 a).2.1 ≠ (TX11 b).2.1 := by decide +kernel
theorem tyX11_ok : ∀ k, k < 8 → parseFieldDescriptor (TX11 k).2.2.1 = some (tyX11 k) := by decide +kernel
abbrev cX11_init : ByteArray := prog_1_method_1_code
def yX11_init : MethodName := ⟨RX11, "<init>", "()V"⟩
abbrev cX11_done : ByteArray := prog_1_method_2_code
def yX11_done : MethodName := ⟨RX11, "done", "(I)I"⟩
abbrev cX11_refuse : ByteArray := prog_1_method_3_code
def yX11_refuse : MethodName := ⟨RX11, "refuse", "(I)I"⟩
abbrev cX11_found : ByteArray := prog_1_method_4_code
def yX11_found : MethodName := ⟨RX11, "found", "(I)I"⟩
abbrev cX11_nothingThere : ByteArray := prog_1_method_5_code
def yX11_nothingThere : MethodName := ⟨RX11, "nothingThere", "()I"⟩
abbrev cX11_refuseLong : ByteArray := prog_1_method_6_code
def yX11_refuseLong : MethodName := ⟨RX11, "refuseLong", "(I)J"⟩
abbrev cX11_doneLong : ByteArray := prog_1_method_7_code
def yX11_doneLong : MethodName := ⟨RX11, "doneLong", "(J)J"⟩
abbrev cX11_rollAt : ByteArray := prog_1_method_8_code
def yX11_rollAt : MethodName := ⟨RX11, "rollAt", "(I)LRollPlayer$Roll;"⟩
abbrev cX11_stripAt : ByteArray := prog_1_method_9_code
def yX11_stripAt : MethodName := ⟨RX11, "stripAt", "(II)LRollPlayer$Strip;"⟩
abbrev cX11_tooManyElements : ByteArray := prog_1_method_10_code
def yX11_tooManyElements : MethodName := ⟨RX11, "tooManyElements", "(I)Z"⟩
abbrev cX11_roll : ByteArray := prog_1_method_11_code
def yX11_roll : MethodName := ⟨RX11, "roll", "()I"⟩
abbrev cX11_strip : ByteArray := prog_1_method_12_code
def yX11_strip : MethodName := ⟨RX11, "strip", "(IIIII)I"⟩
abbrev cX11_punch : ByteArray := prog_1_method_13_code
def yX11_punch : MethodName := ⟨RX11, "punch", "(IIII)I"⟩
abbrev cX11_seal : ByteArray := prog_1_method_14_code
def yX11_seal : MethodName := ⟨RX11, "seal", "(II)I"⟩
abbrev cX11_lose : ByteArray := prog_1_method_15_code
def yX11_lose : MethodName := ⟨RX11, "lose", "(II)I"⟩
abbrev cX11_tear : ByteArray := prog_1_method_16_code
def yX11_tear : MethodName := ⟨RX11, "tear", "(III)I"⟩
abbrev cX11_damage : ByteArray := prog_1_method_17_code
def yX11_damage : MethodName := ⟨RX11, "damage", "(IIII)I"⟩
abbrev cX11_byteOf : ByteArray := prog_1_method_18_code
def yX11_byteOf : MethodName := ⟨RX11, "byteOf", "(III)I"⟩
abbrev cX11_head : ByteArray := prog_1_method_19_code
def yX11_head : MethodName := ⟨RX11, "head", "(III)J"⟩
abbrev cX11_sum : ByteArray := prog_1_method_20_code
def yX11_sum : MethodName := ⟨RX11, "sum", "(II)J"⟩
abbrev cX11_read : ByteArray := prog_1_method_21_code
def yX11_read : MethodName := ⟨RX11, "read", "(II)I"⟩
abbrev cX11_whole : ByteArray := prog_1_method_22_code
def yX11_whole : MethodName := ⟨RX11, "whole", "(I)I"⟩
abbrev cX11_finding : ByteArray := prog_1_method_23_code
def yX11_finding : MethodName := ⟨RX11, "finding", "(II)I"⟩
abbrev cX11_told : ByteArray := prog_1_method_24_code
def yX11_told : MethodName := ⟨RX11, "told", "(III)I"⟩
abbrev cX11_instrument : ByteArray := prog_1_method_25_code
def yX11_instrument : MethodName := ⟨RX11, "instrument", "(I)I"⟩
abbrev cX11_couple : ByteArray := prog_1_method_26_code
def yX11_couple : MethodName := ⟨RX11, "couple", "(II)I"⟩
abbrev cX11_chest : ByteArray := prog_1_method_27_code
def yX11_chest : MethodName := ⟨RX11, "chest", "(II)I"⟩
abbrev cX11_place : ByteArray := prog_1_method_28_code
def yX11_place : MethodName := ⟨RX11, "place", "(III)I"⟩
abbrev cX11_wire : ByteArray := prog_1_method_29_code
def yX11_wire : MethodName := ⟨RX11, "wire", "(III)I"⟩
abbrev cX11_spoil : ByteArray := prog_1_method_30_code
def yX11_spoil : MethodName := ⟨RX11, "spoil", "(II)I"⟩
abbrev cX11_tune : ByteArray := prog_1_method_31_code
def yX11_tune : MethodName := ⟨RX11, "tune", "(III)I"⟩
abbrev cX11_base : ByteArray := prog_1_method_32_code
def yX11_base : MethodName := ⟨RX11, "base", "(I)I"⟩
abbrev cX11_frequency : ByteArray := prog_1_method_33_code
def yX11_frequency : MethodName := ⟨RX11, "frequency", "(I)J"⟩
abbrev cX11_bitsOf : ByteArray := prog_1_method_34_code
def yX11_bitsOf : MethodName := ⟨RX11, "bitsOf", "(D)J"⟩
abbrev cX11_mute : ByteArray := prog_1_method_35_code
def yX11_mute : MethodName := ⟨RX11, "mute", "(I)I"⟩
abbrev cX11_higher : ByteArray := prog_1_method_36_code
def yX11_higher : MethodName := ⟨RX11, "higher", "(II)I"⟩
abbrev cX11_play : ByteArray := prog_1_method_37_code
def yX11_play : MethodName := ⟨RX11, "play", "(I)I"⟩
abbrev cX11_tick : ByteArray := prog_1_method_38_code
def yX11_tick : MethodName := ⟨RX11, "tick", "(I)I"⟩
abbrev cX11_halt : ByteArray := prog_1_method_39_code
def yX11_halt : MethodName := ⟨RX11, "halt", "()I"⟩
abbrev cX11_back : ByteArray := prog_1_method_40_code
def yX11_back : MethodName := ⟨RX11, "back", "(I)I"⟩
abbrev cX11_open : ByteArray := prog_1_method_41_code
def yX11_open : MethodName := ⟨RX11, "open", "(I)I"⟩
abbrev cX11_sounding : ByteArray := prog_1_method_42_code
def yX11_sounding : MethodName := ⟨RX11, "sounding", "(II)I"⟩
abbrev cX11_loud : ByteArray := prog_1_method_43_code
def yX11_loud : MethodName := ⟨RX11, "loud", "(I)I"⟩
abbrev cX11_level : ByteArray := prog_1_method_44_code
def yX11_level : MethodName := ⟨RX11, "level", "(I)I"⟩
abbrev cX11_stop : ByteArray := prog_1_method_45_code
def yX11_stop : MethodName := ⟨RX11, "stop", "(I)I"⟩
abbrev cX11_at : ByteArray := prog_1_method_46_code
def yX11_at : MethodName := ⟨RX11, "at", "(I)I"⟩
abbrev cX11_times : ByteArray := prog_1_method_47_code
def yX11_times : MethodName := ⟨RX11, "times", "(II)I"⟩
abbrev cX11_event : ByteArray := prog_1_method_48_code
def yX11_event : MethodName := ⟨RX11, "event", "(II)I"⟩
abbrev cX11_cut : ByteArray := prog_1_method_49_code
def yX11_cut : MethodName := ⟨RX11, "cut", "(II)I"⟩
abbrev cX11_join : ByteArray := prog_1_method_50_code
def yX11_join : MethodName := ⟨RX11, "join", "(II)I"⟩
abbrev cX11_repeat : ByteArray := prog_1_method_51_code
def yX11_repeat : MethodName := ⟨RX11, "repeat", "(III)I"⟩
abbrev cX11_addCopies : ByteArray := prog_1_method_52_code
def yX11_addCopies : MethodName := ⟨RX11, "addCopies", "(LRollPlayer$Roll;ILRollPlayer$Roll;II)I"⟩
abbrev cX11_move : ByteArray := prog_1_method_53_code
def yX11_move : MethodName := ⟨RX11, "move", "(IIIII)I"⟩
abbrev cX11_moveOne : ByteArray := prog_1_method_54_code
def yX11_moveOne : MethodName := ⟨RX11, "moveOne", "(LRollPlayer$Strip;LRollPlayer$Strip;)I"⟩
abbrev cX11_replaceBytes : ByteArray := prog_1_method_55_code
def yX11_replaceBytes : MethodName := ⟨RX11, "replaceBytes", "(LRollPlayer$Strip;LRollPlayer$Strip;)Z"⟩
abbrev cX11_copy : ByteArray := prog_1_method_56_code
def yX11_copy : MethodName := ⟨RX11, "copy", "(IIIIIII)I"⟩
abbrev cX11_transpose : ByteArray := prog_1_method_57_code
def yX11_transpose : MethodName := ⟨RX11, "transpose", "(III)I"⟩
abbrev cX11_noteFallen : ByteArray := prog_1_method_58_code
def yX11_noteFallen : MethodName := ⟨RX11, "noteFallen", "(III)V"⟩
abbrev cX11_fallen : ByteArray := prog_1_method_59_code
def yX11_fallen : MethodName := ⟨RX11, "fallen", "(II)I"⟩
abbrev cX11_mend : ByteArray := prog_1_method_60_code
def yX11_mend : MethodName := ⟨RX11, "mend", "(III)I"⟩
abbrev cX11_equal : ByteArray := prog_1_method_61_code
def yX11_equal : MethodName := ⟨RX11, "equal", "(II)I"⟩
abbrev cX11_digest : ByteArray := prog_1_method_62_code
def yX11_digest : MethodName := ⟨RX11, "digest", "(I)J"⟩
abbrev cX11_count : ByteArray := prog_1_method_63_code
def yX11_count : MethodName := ⟨RX11, "count", "(I)I"⟩
abbrev cX11_strips : ByteArray := prog_1_method_64_code
def yX11_strips : MethodName := ⟨RX11, "strips", "(I)I"⟩
abbrev cX11_members : ByteArray := prog_1_method_65_code
def yX11_members : MethodName := ⟨RX11, "members", "(I)I"⟩
abbrev cX11_trace : ByteArray := prog_1_method_66_code
def yX11_trace : MethodName := ⟨RX11, "trace", "(I)I"⟩
abbrev cX11_status : ByteArray := prog_1_method_67_code
def yX11_status : MethodName := ⟨RX11, "status", "()I"⟩
def RX12 : String := "RollPlayerModel"
def TX12 : u_T := fun k => match k with
  | 0 => ("RollPlayerModel", "status", "I", false)
  | 1 => ("RollPlayerModel", "rolls", "I", false)
  | 2 => ("RollPlayerModel", "sizeOf", "[I", true)
  | 3 => ("RollPlayerModel", "order", "[I", true)
  | 4 => ("RollPlayerModel", "strips", "I", false)
  | 5 => ("RollPlayerModel", "kindOf", "[I", true)
  | 6 => ("RollPlayerModel", "numberOf", "[I", true)
  | 7 => ("RollPlayerModel", "ticksOf", "[I", true)
  | 8 => ("RollPlayerModel", "isLost", "[Z", true)
  | 9 => ("RollPlayerModel", "headSize", "[I", true)
  | 10 => ("RollPlayerModel", "head", "[I", true)
  | 11 => ("RollPlayerModel", "size", "[I", true)
  | 12 => ("RollPlayerModel", "element", "[I", true)
  | 13 => ("RollPlayerModel", "elements", "I", false)
  | 14 => ("RollPlayerModel", "instruments", "I", false)
  | 15 => ("RollPlayerModel", "sort", "[I", true)
  | 16 => ("RollPlayerModel", "memberMany", "[I", true)
  | 17 => ("RollPlayerModel", "member", "[I", true)
  | 18 => ("RollPlayerModel", "together", "[I", true)
  | 19 => ("RollPlayerModel", "spoiling", "[I", true)
  | 20 => ("RollPlayerModel", "hasNoRatio", "[Z", true)
  | 21 => ("RollPlayerModel", "ratio", "[D", true)
  | 22 => ("RollPlayerModel", "base", "D", false)
  | 23 => ("RollPlayerModel", "chests", "I", false)
  | 24 => ("RollPlayerModel", "chestKind", "[I", true)
  | 25 => ("RollPlayerModel", "chestSize", "[I", true)
  | 26 => ("RollPlayerModel", "chestFrom", "[I", true)
  | 27 => ("RollPlayerModel", "placeMany", "I", false)
  | 28 => ("RollPlayerModel", "holds", "[I", true)
  | 29 => ("RollPlayerModel", "wireTo", "[I", true)
  | 30 => ("RollPlayerModel", "wirePlace", "[I", true)
  | 31 => ("RollPlayerModel", "trace", "[I", true)
  | 32 => ("RollPlayerModel", "way", "[I", true)
  | 33 => ("RollPlayerModel", "next", "[I", true)
  | 34 => ("RollPlayerModel", "has", "[Z", true)
  | 35 => ("RollPlayerModel", "isNone", "Z", false)
  | 36 => ("RollPlayerModel", "isPlayed", "Z", false)
  | 37 => ("RollPlayerModel", "played", "I", false)
  | 38 => ("RollPlayerModel", "isOpen", "[Z", true)
  | 39 => ("RollPlayerModel", "levels", "[I", true)
  | 40 => ("RollPlayerModel", "drawn", "[Z", true)
  | 41 => ("RollPlayerModel", "tempo", "I", false)
  | 42 => ("RollPlayerModel", "goesFrom", "I", false)
  | 43 => ("RollPlayerModel", "goesTo", "I", false)
  | 44 => ("RollPlayerModel", "goesIn", "I", false)
  | 45 => ("RollPlayerModel", "gone", "I", false)
  | 46 => ("RollPlayerModel", "beat", "I", false)
  | 47 => ("RollPlayerModel", "phase", "I", false)
  | 48 => ("RollPlayerModel", "ticks", "I", false)
  | 49 => ("RollPlayerModel", "place", "I", false)
  | 50 => ("RollPlayerModel", "over", "I", false)
  | 51 => ("RollPlayerModel", "isWhole", "Z", false)
  | 52 => ("RollPlayerModel", "sounds", "I", false)
  | 53 => ("RollPlayerModel", "soundOf", "[I", true)
  | 54 => ("RollPlayerModel", "trackOf", "[I", true)
  | 55 => ("RollPlayerModel", "sinceOf", "[I", true)
  | 56 => ("RollPlayerModel", "opened", "[I", true)
  | 57 => ("RollPlayerModel", "ended", "[I", true)
  | 58 => ("RollPlayerModel", "events", "I", false)
  | 59 => ("RollPlayerModel", "event", "[I", true)
  | 60 => ("RollPlayerModel", "all", "I", false)
  | 61 => ("RollPlayerModel", "was", "[I", true)
  | 62 => ("RollPlayerModel", "wasAt", "I", false)
  | 63 => ("RollPlayerModel", "wasMany", "I", false)
  | 64 => ("RollPlayerModel", "spare", "[I", true)
  | 65 => ("RollPlayerModel", "fallenMany", "I", false)
  | 66 => ("RollPlayerModel", "fallenElement", "[I", true)
  | _ => ("RollPlayerModel", "fallenTrack", "[I", true)
def tyX12 : Nat → FieldType := fun k => match k with
  | 0 => .int
  | 1 => .int
  | 2 => .array .int
  | 3 => .array .int
  | 4 => .int
  | 5 => .array .int
  | 6 => .array .int
  | 7 => .array .int
  | 8 => .array .boolean
  | 9 => .array .int
  | 10 => .array .int
  | 11 => .array .int
  | 12 => .array .int
  | 13 => .int
  | 14 => .int
  | 15 => .array .int
  | 16 => .array .int
  | 17 => .array .int
  | 18 => .array .int
  | 19 => .array .int
  | 20 => .array .boolean
  | 21 => .array .double
  | 22 => .double
  | 23 => .int
  | 24 => .array .int
  | 25 => .array .int
  | 26 => .array .int
  | 27 => .int
  | 28 => .array .int
  | 29 => .array .int
  | 30 => .array .int
  | 31 => .array .int
  | 32 => .array .int
  | 33 => .array .int
  | 34 => .array .boolean
  | 35 => .boolean
  | 36 => .boolean
  | 37 => .int
  | 38 => .array .boolean
  | 39 => .array .int
  | 40 => .array .boolean
  | 41 => .int
  | 42 => .int
  | 43 => .int
  | 44 => .int
  | 45 => .int
  | 46 => .int
  | 47 => .int
  | 48 => .int
  | 49 => .int
  | 50 => .int
  | 51 => .boolean
  | 52 => .int
  | 53 => .array .int
  | 54 => .array .int
  | 55 => .array .int
  | 56 => .array .int
  | 57 => .array .int
  | 58 => .int
  | 59 => .array .int
  | 60 => .int
  | 61 => .array .int
  | 62 => .int
  | 63 => .int
  | 64 => .array .int
  | 65 => .int
  | 66 => .array .int
  | _ => .array .int
abbrev wsX120 : List Cond := u_ws RX12 TX12 68
theorem nmX12 : ∀ a, a < 68 → ∀ b, b < 68 → a ≠ b → (TX12 a).2.1 ≠ (TX12 b).2.1 := by decide +kernel
theorem tyX12_ok : ∀ k, k < 68 → parseFieldDescriptor (TX12 k).2.2.1 = some (tyX12 k) := by decide +kernel
abbrev cX12_init : ByteArray := prog_14_method_1_code
def yX12_init : MethodName := ⟨RX12, "<init>", "()V"⟩
abbrev cX12_within : ByteArray := prog_14_method_3_code
def yX12_within : MethodName := ⟨RX12, "within", "(III)Z"⟩
abbrev cX12_no : ByteArray := prog_14_method_4_code
def yX12_no : MethodName := ⟨RX12, "no", "(I)I"⟩
abbrev cX12_finds : ByteArray := prog_14_method_5_code
def yX12_finds : MethodName := ⟨RX12, "finds", "(I)I"⟩
abbrev cX12_well : ByteArray := prog_14_method_6_code
def yX12_well : MethodName := ⟨RX12, "well", "(I)I"⟩
abbrev cX12_isRoll : ByteArray := prog_14_method_7_code
def yX12_isRoll : MethodName := ⟨RX12, "isRoll", "(I)Z"⟩
abbrev cX12_isStrip : ByteArray := prog_14_method_8_code
def yX12_isStrip : MethodName := ⟨RX12, "isStrip", "(II)Z"⟩
abbrev cX12_poolOf : ByteArray := prog_14_method_9_code
def yX12_poolOf : MethodName := ⟨RX12, "poolOf", "(II)I"⟩
abbrev cX12_width : ByteArray := prog_14_method_10_code
def yX12_width : MethodName := ⟨RX12, "width", "(I)I"⟩
abbrev cX12_low : ByteArray := prog_14_method_11_code
def yX12_low : MethodName := ⟨RX12, "low", "(II)I"⟩
abbrev cX12_bytesOf : ByteArray := prog_14_method_12_code
def yX12_bytesOf : MethodName := ⟨RX12, "bytesOf", "(I)I"⟩
abbrev cX12_byteAt : ByteArray := prog_14_method_13_code
def yX12_byteAt : MethodName := ⟨RX12, "byteAt", "(II)I"⟩
abbrev cX12_sumOf : ByteArray := prog_14_method_14_code
def yX12_sumOf : MethodName := ⟨RX12, "sumOf", "(I)I"⟩
abbrev cX12_headShort : ByteArray := prog_14_method_15_code
def yX12_headShort : MethodName := ⟨RX12, "headShort", "(II)I"⟩
abbrev cX12_headSum : ByteArray := prog_14_method_16_code
def yX12_headSum : MethodName := ⟨RX12, "headSum", "(I)I"⟩
abbrev cX12_sealIt : ByteArray := prog_14_method_17_code
def yX12_sealIt : MethodName := ⟨RX12, "sealIt", "(I)V"⟩
abbrev cX12_findingOf : ByteArray := prog_14_method_18_code
def yX12_findingOf : MethodName := ⟨RX12, "findingOf", "(I)I"⟩
abbrev cX12_roll : ByteArray := prog_14_method_19_code
def yX12_roll : MethodName := ⟨RX12, "roll", "()I"⟩
abbrev cX12_strip : ByteArray := prog_14_method_20_code
def yX12_strip : MethodName := ⟨RX12, "strip", "(IIIII)I"⟩
abbrev cX12_bars : ByteArray := prog_14_method_21_code
def yX12_bars : MethodName := ⟨RX12, "bars", "(II)I"⟩
abbrev cX12_punch : ByteArray := prog_14_method_22_code
def yX12_punch : MethodName := ⟨RX12, "punch", "(IIII)I"⟩
abbrev cX12_seal : ByteArray := prog_14_method_23_code
def yX12_seal : MethodName := ⟨RX12, "seal", "(II)I"⟩
abbrev cX12_empty : ByteArray := prog_14_method_24_code
def yX12_empty : MethodName := ⟨RX12, "empty", "(I)V"⟩
abbrev cX12_lose : ByteArray := prog_14_method_25_code
def yX12_lose : MethodName := ⟨RX12, "lose", "(II)I"⟩
abbrev cX12_tear : ByteArray := prog_14_method_26_code
def yX12_tear : MethodName := ⟨RX12, "tear", "(III)I"⟩
abbrev cX12_damage : ByteArray := prog_14_method_27_code
def yX12_damage : MethodName := ⟨RX12, "damage", "(IIII)I"⟩
abbrev cX12_asks : ByteArray := prog_14_method_28_code
def yX12_asks : MethodName := ⟨RX12, "asks", "(II)I"⟩
abbrev cX12_byteOf : ByteArray := prog_14_method_29_code
def yX12_byteOf : MethodName := ⟨RX12, "byteOf", "(III)I"⟩
abbrev cX12_head : ByteArray := prog_14_method_30_code
def yX12_head : MethodName := ⟨RX12, "head", "(III)J"⟩
abbrev cX12_sum : ByteArray := prog_14_method_31_code
def yX12_sum : MethodName := ⟨RX12, "sum", "(II)J"⟩
abbrev cX12_read : ByteArray := prog_14_method_32_code
def yX12_read : MethodName := ⟨RX12, "read", "(II)I"⟩
abbrev cX12_whole : ByteArray := prog_14_method_33_code
def yX12_whole : MethodName := ⟨RX12, "whole", "(I)I"⟩
abbrev cX12_finding : ByteArray := prog_14_method_34_code
def yX12_finding : MethodName := ⟨RX12, "finding", "(II)I"⟩
abbrev cX12_told : ByteArray := prog_14_method_35_code
def yX12_told : MethodName := ⟨RX12, "told", "(III)I"⟩
abbrev cX12_isInstrument : ByteArray := prog_14_method_36_code
def yX12_isInstrument : MethodName := ⟨RX12, "isInstrument", "(I)Z"⟩
abbrev cX12_instrument : ByteArray := prog_14_method_37_code
def yX12_instrument : MethodName := ⟨RX12, "instrument", "(I)I"⟩
abbrev cX12_reaches : ByteArray := prog_14_method_38_code
def yX12_reaches : MethodName := ⟨RX12, "reaches", "(II)Z"⟩
abbrev cX12_reckon : ByteArray := prog_14_method_39_code
def yX12_reckon : MethodName := ⟨RX12, "reckon", "()Z"⟩
abbrev cX12_couple : ByteArray := prog_14_method_40_code
def yX12_couple : MethodName := ⟨RX12, "couple", "(II)I"⟩
abbrev cX12_chest : ByteArray := prog_14_method_41_code
def yX12_chest : MethodName := ⟨RX12, "chest", "(II)I"⟩
abbrev cX12_takes : ByteArray := prog_14_method_42_code
def yX12_takes : MethodName := ⟨RX12, "takes", "(II)Z"⟩
abbrev cX12_place : ByteArray := prog_14_method_43_code
def yX12_place : MethodName := ⟨RX12, "place", "(III)I"⟩
abbrev cX12_wire : ByteArray := prog_14_method_44_code
def yX12_wire : MethodName := ⟨RX12, "wire", "(III)I"⟩
abbrev cX12_spoil : ByteArray := prog_14_method_45_code
def yX12_spoil : MethodName := ⟨RX12, "spoil", "(II)I"⟩
abbrev cX12_tune : ByteArray := prog_14_method_46_code
def yX12_tune : MethodName := ⟨RX12, "tune", "(III)I"⟩
abbrev cX12_base : ByteArray := prog_14_method_47_code
def yX12_base : MethodName := ⟨RX12, "base", "(I)I"⟩
abbrev cX12_floor : ByteArray := prog_14_method_48_code
def yX12_floor : MethodName := ⟨RX12, "floor", "(D)D"⟩
abbrev cX12_nearest : ByteArray := prog_14_method_49_code
def yX12_nearest : MethodName := ⟨RX12, "nearest", "(D)D"⟩
abbrev cX12_plainOf : ByteArray := prog_14_method_50_code
def yX12_plainOf : MethodName := ⟨RX12, "plainOf", "(I)D"⟩
abbrev cX12_frequencyOf : ByteArray := prog_14_method_51_code
def yX12_frequencyOf : MethodName := ⟨RX12, "frequencyOf", "(I)D"⟩
abbrev cX12_tones : ByteArray := prog_14_method_52_code
def yX12_tones : MethodName := ⟨RX12, "tones", "(I)I"⟩
abbrev cX12_frequency : ByteArray := prog_14_method_53_code
def yX12_frequency : MethodName := ⟨RX12, "frequency", "(I)J"⟩
abbrev cX12_mute : ByteArray := prog_14_method_54_code
def yX12_mute : MethodName := ⟨RX12, "mute", "(I)I"⟩
abbrev cX12_higher : ByteArray := prog_14_method_55_code
def yX12_higher : MethodName := ⟨RX12, "higher", "(II)I"⟩
abbrev cX12_tell : ByteArray := prog_14_method_56_code
def yX12_tell : MethodName := ⟨RX12, "tell", "(III)V"⟩
abbrev cX12_end : ByteArray := prog_14_method_57_code
def yX12_end : MethodName := ⟨RX12, "end", "(I)V"⟩
abbrev cX12_endAll : ByteArray := prog_14_method_58_code
def yX12_endAll : MethodName := ⟨RX12, "endAll", "()V"⟩
abbrev cX12_begins : ByteArray := prog_14_method_59_code
def yX12_begins : MethodName := ⟨RX12, "begins", "(II)Z"⟩
abbrev cX12_opens : ByteArray := prog_14_method_60_code
def yX12_opens : MethodName := ⟨RX12, "opens", "(II)Z"⟩
abbrev cX12_openHole : ByteArray := prog_14_method_61_code
def yX12_openHole : MethodName := ⟨RX12, "openHole", "(I)V"⟩
abbrev cX12_shutHole : ByteArray := prog_14_method_62_code
def yX12_shutHole : MethodName := ⟨RX12, "shutHole", "(I)V"⟩
abbrev cX12_does : ByteArray := prog_14_method_63_code
def yX12_does : MethodName := ⟨RX12, "does", "(II)V"⟩
abbrev cX12_tempoTo : ByteArray := prog_14_method_64_code
def yX12_tempoTo : MethodName := ⟨RX12, "tempoTo", "(II)V"⟩
abbrev cX12_down : ByteArray := prog_14_method_65_code
def yX12_down : MethodName := ⟨RX12, "down", "(JJ)J"⟩
abbrev cX12_tempoGoesOn : ByteArray := prog_14_method_66_code
def yX12_tempoGoesOn : MethodName := ⟨RX12, "tempoGoesOn", "()V"⟩
abbrev cX12_comes : ByteArray := prog_14_method_67_code
def yX12_comes : MethodName := ⟨RX12, "comes", "()Z"⟩
abbrev cX12_play : ByteArray := prog_14_method_68_code
def yX12_play : MethodName := ⟨RX12, "play", "(I)I"⟩
abbrev cX12_tick : ByteArray := prog_14_method_69_code
def yX12_tick : MethodName := ⟨RX12, "tick", "(I)I"⟩
abbrev cX12_halt : ByteArray := prog_14_method_70_code
def yX12_halt : MethodName := ⟨RX12, "halt", "()I"⟩
abbrev cX12_layAside : ByteArray := prog_14_method_71_code
def yX12_layAside : MethodName := ⟨RX12, "layAside", "()V"⟩
abbrev cX12_becomes : ByteArray := prog_14_method_72_code
def yX12_becomes : MethodName := ⟨RX12, "becomes", "(I)V"⟩
abbrev cX12_back : ByteArray := prog_14_method_73_code
def yX12_back : MethodName := ⟨RX12, "back", "(I)I"⟩
abbrev cX12_open : ByteArray := prog_14_method_74_code
def yX12_open : MethodName := ⟨RX12, "open", "(I)I"⟩
abbrev cX12_sounding : ByteArray := prog_14_method_75_code
def yX12_sounding : MethodName := ⟨RX12, "sounding", "(II)I"⟩
abbrev cX12_airOf : ByteArray := prog_14_method_76_code
def yX12_airOf : MethodName := ⟨RX12, "airOf", "(I)I"⟩
abbrev cX12_loudOf : ByteArray := prog_14_method_77_code
def yX12_loudOf : MethodName := ⟨RX12, "loudOf", "(III)I"⟩
abbrev cX12_loud : ByteArray := prog_14_method_78_code
def yX12_loud : MethodName := ⟨RX12, "loud", "(I)I"⟩
abbrev cX12_level : ByteArray := prog_14_method_79_code
def yX12_level : MethodName := ⟨RX12, "level", "(I)I"⟩
abbrev cX12_stop : ByteArray := prog_14_method_80_code
def yX12_stop : MethodName := ⟨RX12, "stop", "(I)I"⟩
abbrev cX12_at : ByteArray := prog_14_method_81_code
def yX12_at : MethodName := ⟨RX12, "at", "(I)I"⟩
abbrev cX12_times : ByteArray := prog_14_method_82_code
def yX12_times : MethodName := ⟨RX12, "times", "(II)I"⟩
abbrev cX12_event : ByteArray := prog_14_method_83_code
def yX12_event : MethodName := ⟨RX12, "event", "(II)I"⟩
abbrev cX12_cut : ByteArray := prog_14_method_84_code
def yX12_cut : MethodName := ⟨RX12, "cut", "(II)I"⟩
abbrev cX12_copies : ByteArray := prog_14_method_85_code
def yX12_copies : MethodName := ⟨RX12, "copies", "(II)V"⟩
abbrev cX12_copyOf : ByteArray := prog_14_method_86_code
def yX12_copyOf : MethodName := ⟨RX12, "copyOf", "(I)I"⟩
abbrev cX12_elementsOf : ByteArray := prog_14_method_87_code
def yX12_elementsOf : MethodName := ⟨RX12, "elementsOf", "(III)I"⟩
abbrev cX12_join : ByteArray := prog_14_method_88_code
def yX12_join : MethodName := ⟨RX12, "join", "(II)I"⟩
abbrev cX12_repeat : ByteArray := prog_14_method_89_code
def yX12_repeat : MethodName := ⟨RX12, "repeat", "(III)I"⟩
abbrev cX12_move : ByteArray := prog_14_method_90_code
def yX12_move : MethodName := ⟨RX12, "move", "(IIIII)I"⟩
abbrev cX12_hinders : ByteArray := prog_14_method_91_code
def yX12_hinders : MethodName := ⟨RX12, "hinders", "(IIII)I"⟩
abbrev cX12_copy : ByteArray := prog_14_method_92_code
def yX12_copy : MethodName := ⟨RX12, "copy", "(IIIIIII)I"⟩
abbrev cX12_transpose : ByteArray := prog_14_method_93_code
def yX12_transpose : MethodName := ⟨RX12, "transpose", "(III)I"⟩
abbrev cX12_fallen : ByteArray := prog_14_method_94_code
def yX12_fallen : MethodName := ⟨RX12, "fallen", "(II)I"⟩
abbrev cX12_mend : ByteArray := prog_14_method_95_code
def yX12_mend : MethodName := ⟨RX12, "mend", "(III)I"⟩
abbrev cX12_areAlike : ByteArray := prog_14_method_96_code
def yX12_areAlike : MethodName := ⟨RX12, "areAlike", "(II)Z"⟩
abbrev cX12_equal : ByteArray := prog_14_method_97_code
def yX12_equal : MethodName := ⟨RX12, "equal", "(II)I"⟩
abbrev cX12_digest : ByteArray := prog_14_method_98_code
def yX12_digest : MethodName := ⟨RX12, "digest", "(I)J"⟩
abbrev cX12_count : ByteArray := prog_14_method_99_code
def yX12_count : MethodName := ⟨RX12, "count", "(I)I"⟩
abbrev cX12_strips : ByteArray := prog_14_method_100_code
def yX12_strips : MethodName := ⟨RX12, "strips", "(I)I"⟩
abbrev cX12_members : ByteArray := prog_14_method_101_code
def yX12_members : MethodName := ⟨RX12, "members", "(I)I"⟩
abbrev cX12_trace : ByteArray := prog_14_method_102_code
def yX12_trace : MethodName := ⟨RX12, "trace", "(I)I"⟩
abbrev cX12_status : ByteArray := prog_14_method_103_code
def yX12_status : MethodName := ⟨RX12, "status", "()I"⟩
def RJxe99ae : String := "java/lang/Double"
abbrev cJxe99ae_isNaN_b9ae7 : ByteArray := prog_15_method_6_code
def yJxe99ae_isNaN_b9ae7 : MethodName := ⟨RJxe99ae, "isNaN", "(D)Z"⟩
abbrev cJxe99ae_doubleToLongBits_ccdee : ByteArray := prog_15_method_23_code
def yJxe99ae_doubleToLongBits_ccdee : MethodName := ⟨RJxe99ae, "doubleToLongBits", "(D)J"⟩
def RJ6 : String := "java/lang/Integer"
abbrev cJ6_bitCount_0f7a4 : ByteArray := prog_16_method_49_code
def yJ6_bitCount_0f7a4 : MethodName := ⟨RJ6, "bitCount", "(I)I"⟩
def RJ9 : String := "java/lang/Math"
abbrev cJ9_floorDiv_f86c9 : ByteArray := prog_17_method_49_code
def yJ9_floorDiv_f86c9 : MethodName := ⟨RJ9, "floorDiv", "(JJ)J"⟩
abbrev cJ9_floorMod_7cf53 : ByteArray := prog_17_method_50_code
def yJ9_floorMod_7cf53 : MethodName := ⟨RJ9, "floorMod", "(II)I"⟩
abbrev cJ9_max_7cf53 : ByteArray := prog_17_method_65_code
def yJ9_max_7cf53 : MethodName := ⟨RJ9, "max", "(II)I"⟩
abbrev cJ9_min_7cf53 : ByteArray := prog_17_method_69_code
def yJ9_min_7cf53 : MethodName := ⟨RJ9, "min", "(II)I"⟩
def RJ10 : String := "java/lang/System"
def RL : String := "RollPlayerLaw"
abbrev cL_law : ByteArray := code
def yL_law : MethodName := ⟨RL, "law", "([I)Z"⟩
abbrev vwCl : List vw_C := [(RX0, TX0, 5), (RX1, TX1, 5), (RX2, TX2, 7), (RX3, TX3, 5), (RX5, TX5, 17), (RX6, TX6, 5), (RX7, TX7, 5), (RX8, TX8, 5), (RX9, TX9, 2), (RX10, TX10, 7), (RX11, TX11, 8), (RX12, TX12, 68)]
