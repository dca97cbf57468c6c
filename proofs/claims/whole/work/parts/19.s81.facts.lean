/-! THE METHODS: names, code, rows of the tables (printed by wip/gen/emitS.py) -/
theorem z_tb (i : Nat) {w : Cond} (h : tables_1[i]? = some w) : w ∈ lw_tbl := List.mem_append_right _ (List.mem_of_getElem? h)
def z_alls (P : Nat → zA → Prop) : List (Nat × zA) → Prop
  | [] => True
  | q :: r => P q.1 q.2 ∧ z_alls P r
theorem z_alls_mem {P : Nat → zA → Prop} : ∀ (t : List (Nat × zA)), z_alls P t → ∀ q ∈ t, P q.1 q.2
  | [], _, q, h => by cases h
  | x :: r, h, q, hq => by
    rcases List.mem_cons.mp hq with rfl | hq
    · exact h.1
    · exact z_alls_mem r h.2 q hq
noncomputable def z_mts : List (MethodName × ByteArray × Nat × Option FieldType) := [
  (⟨"java/lang/Math", "floorDiv", "(JJ)J"⟩, prog_17_method_49_code, 6, (some (.long))),
  (⟨"java/lang/Math", "floorMod", "(II)I"⟩, prog_17_method_50_code, 3, (some (.int))),
  (⟨"java/lang/Math", "max", "(II)I"⟩, prog_17_method_65_code, 2, (some (.int))),
  (⟨"java/lang/Math", "min", "(II)I"⟩, prog_17_method_69_code, 2, (some (.int))),
  (⟨"java/lang/Double", "isNaN", "(D)Z"⟩, prog_15_method_6_code, 2, (some (.boolean))),
  (⟨"java/lang/Double", "doubleToLongBits", "(D)J"⟩, prog_15_method_23_code, 2, (some (.long))),
  (⟨"java/lang/Integer", "bitCount", "(I)I"⟩, prog_16_method_49_code, 1, (some (.int))),
  (⟨"RollPlayerModel", "<init>", "()V"⟩, prog_14_method_1_code, 1, (none)),
  (⟨"RollPlayerModel", "within", "(III)Z"⟩, prog_14_method_3_code, 3, (some (.boolean))),
  (⟨"RollPlayerModel", "no", "(I)I"⟩, prog_14_method_4_code, 2, (some (.int))),
  (⟨"RollPlayerModel", "finds", "(I)I"⟩, prog_14_method_5_code, 2, (some (.int))),
  (⟨"RollPlayerModel", "well", "(I)I"⟩, prog_14_method_6_code, 2, (some (.int))),
  (⟨"RollPlayerModel", "isRoll", "(I)Z"⟩, prog_14_method_7_code, 2, (some (.boolean))),
  (⟨"RollPlayerModel", "isStrip", "(II)Z"⟩, prog_14_method_8_code, 3, (some (.boolean))),
  (⟨"RollPlayerModel", "poolOf", "(II)I"⟩, prog_14_method_9_code, 3, (some (.int))),
  (⟨"RollPlayerModel", "width", "(I)I"⟩, prog_14_method_10_code, 1, (some (.int))),
  (⟨"RollPlayerModel", "low", "(II)I"⟩, prog_14_method_11_code, 2, (some (.int))),
  (⟨"RollPlayerModel", "bytesOf", "(I)I"⟩, prog_14_method_12_code, 2, (some (.int))),
  (⟨"RollPlayerModel", "byteAt", "(II)I"⟩, prog_14_method_13_code, 4, (some (.int))),
  (⟨"RollPlayerModel", "sumOf", "(I)I"⟩, prog_14_method_14_code, 5, (some (.int))),
  (⟨"RollPlayerModel", "headShort", "(II)I"⟩, prog_14_method_15_code, 3, (some (.int))),
  (⟨"RollPlayerModel", "headSum", "(I)I"⟩, prog_14_method_16_code, 2, (some (.int))),
  (⟨"RollPlayerModel", "sealIt", "(I)V"⟩, prog_14_method_17_code, 4, (none)),
  (⟨"RollPlayerModel", "findingOf", "(I)I"⟩, prog_14_method_18_code, 3, (some (.int))),
  (⟨"RollPlayerModel", "roll", "()I"⟩, prog_14_method_19_code, 1, (some (.int))),
  (⟨"RollPlayerModel", "strip", "(IIIII)I"⟩, prog_14_method_20_code, 6, (some (.int))),
  (⟨"RollPlayerModel", "bars", "(II)I"⟩, prog_14_method_21_code, 3, (some (.int))),
  (⟨"RollPlayerModel", "punch", "(IIII)I"⟩, prog_14_method_22_code, 8, (some (.int))),
  (⟨"RollPlayerModel", "seal", "(II)I"⟩, prog_14_method_23_code, 4, (some (.int))),
  (⟨"RollPlayerModel", "empty", "(I)V"⟩, prog_14_method_24_code, 2, (none)),
  (⟨"RollPlayerModel", "lose", "(II)I"⟩, prog_14_method_25_code, 4, (some (.int))),
  (⟨"RollPlayerModel", "tear", "(III)I"⟩, prog_14_method_26_code, 8, (some (.int))),
  (⟨"RollPlayerModel", "damage", "(IIII)I"⟩, prog_14_method_27_code, 9, (some (.int))),
  (⟨"RollPlayerModel", "asks", "(II)I"⟩, prog_14_method_28_code, 3, (some (.int))),
  (⟨"RollPlayerModel", "byteOf", "(III)I"⟩, prog_14_method_29_code, 6, (some (.int))),
  (⟨"RollPlayerModel", "head", "(III)J"⟩, prog_14_method_30_code, 6, (some (.long))),
  (⟨"RollPlayerModel", "sum", "(II)J"⟩, prog_14_method_31_code, 4, (some (.long))),
  (⟨"RollPlayerModel", "read", "(II)I"⟩, prog_14_method_32_code, 4, (some (.int))),
  (⟨"RollPlayerModel", "whole", "(I)I"⟩, prog_14_method_33_code, 4, (some (.int))),
  (⟨"RollPlayerModel", "finding", "(II)I"⟩, prog_14_method_34_code, 5, (some (.int))),
  (⟨"RollPlayerModel", "told", "(III)I"⟩, prog_14_method_35_code, 5, (some (.int))),
  (⟨"RollPlayerModel", "isInstrument", "(I)Z"⟩, prog_14_method_36_code, 2, (some (.boolean))),
  (⟨"RollPlayerModel", "instrument", "(I)I"⟩, prog_14_method_37_code, 2, (some (.int))),
  (⟨"RollPlayerModel", "reaches", "(II)Z"⟩, prog_14_method_38_code, 6, (some (.boolean))),
  (⟨"RollPlayerModel", "reckon", "()Z"⟩, prog_14_method_39_code, 6, (some (.boolean))),
  (⟨"RollPlayerModel", "couple", "(II)I"⟩, prog_14_method_40_code, 4, (some (.int))),
  (⟨"RollPlayerModel", "chest", "(II)I"⟩, prog_14_method_41_code, 4, (some (.int))),
  (⟨"RollPlayerModel", "takes", "(II)Z"⟩, prog_14_method_42_code, 2, (some (.boolean))),
  (⟨"RollPlayerModel", "place", "(III)I"⟩, prog_14_method_43_code, 4, (some (.int))),
  (⟨"RollPlayerModel", "wire", "(III)I"⟩, prog_14_method_44_code, 4, (some (.int))),
  (⟨"RollPlayerModel", "spoil", "(II)I"⟩, prog_14_method_45_code, 4, (some (.int))),
  (⟨"RollPlayerModel", "tune", "(III)I"⟩, prog_14_method_46_code, 4, (some (.int))),
  (⟨"RollPlayerModel", "base", "(I)I"⟩, prog_14_method_47_code, 2, (some (.int))),
  (⟨"RollPlayerModel", "floor", "(D)D"⟩, prog_14_method_48_code, 2, (some (.double))),
  (⟨"RollPlayerModel", "nearest", "(D)D"⟩, prog_14_method_49_code, 7, (some (.double))),
  (⟨"RollPlayerModel", "plainOf", "(I)D"⟩, prog_14_method_50_code, 4, (some (.double))),
  (⟨"RollPlayerModel", "frequencyOf", "(I)D"⟩, prog_14_method_51_code, 8, (some (.double))),
  (⟨"RollPlayerModel", "tones", "(I)I"⟩, prog_14_method_52_code, 2, (some (.int))),
  (⟨"RollPlayerModel", "frequency", "(I)J"⟩, prog_14_method_53_code, 4, (some (.long))),
  (⟨"RollPlayerModel", "mute", "(I)I"⟩, prog_14_method_54_code, 5, (some (.int))),
  (⟨"RollPlayerModel", "higher", "(II)I"⟩, prog_14_method_55_code, 8, (some (.int))),
  (⟨"RollPlayerModel", "tell", "(III)V"⟩, prog_14_method_56_code, 4, (none)),
  (⟨"RollPlayerModel", "end", "(I)V"⟩, prog_14_method_57_code, 3, (none)),
  (⟨"RollPlayerModel", "endAll", "()V"⟩, prog_14_method_58_code, 2, (none)),
  (⟨"RollPlayerModel", "begins", "(II)Z"⟩, prog_14_method_59_code, 3, (some (.boolean))),
  (⟨"RollPlayerModel", "opens", "(II)Z"⟩, prog_14_method_60_code, 8, (some (.boolean))),
  (⟨"RollPlayerModel", "openHole", "(I)V"⟩, prog_14_method_61_code, 4, (none)),
  (⟨"RollPlayerModel", "shutHole", "(I)V"⟩, prog_14_method_62_code, 3, (none)),
  (⟨"RollPlayerModel", "does", "(II)V"⟩, prog_14_method_63_code, 5, (none)),
  (⟨"RollPlayerModel", "tempoTo", "(II)V"⟩, prog_14_method_64_code, 3, (none)),
  (⟨"RollPlayerModel", "down", "(JJ)J"⟩, prog_14_method_65_code, 6, (some (.long))),
  (⟨"RollPlayerModel", "tempoGoesOn", "()V"⟩, prog_14_method_66_code, 1, (none)),
  (⟨"RollPlayerModel", "comes", "()Z"⟩, prog_14_method_67_code, 5, (some (.boolean))),
  (⟨"RollPlayerModel", "play", "(I)I"⟩, prog_14_method_68_code, 3, (some (.int))),
  (⟨"RollPlayerModel", "tick", "(I)I"⟩, prog_14_method_69_code, 4, (some (.int))),
  (⟨"RollPlayerModel", "halt", "()I"⟩, prog_14_method_70_code, 2, (some (.int))),
  (⟨"RollPlayerModel", "layAside", "()V"⟩, prog_14_method_71_code, 3, (none)),
  (⟨"RollPlayerModel", "becomes", "(I)V"⟩, prog_14_method_72_code, 3, (none)),
  (⟨"RollPlayerModel", "back", "(I)I"⟩, prog_14_method_73_code, 2, (some (.int))),
  (⟨"RollPlayerModel", "open", "(I)I"⟩, prog_14_method_74_code, 4, (some (.int))),
  (⟨"RollPlayerModel", "sounding", "(II)I"⟩, prog_14_method_75_code, 3, (some (.int))),
  (⟨"RollPlayerModel", "airOf", "(I)I"⟩, prog_14_method_76_code, 4, (some (.int))),
  (⟨"RollPlayerModel", "loudOf", "(III)I"⟩, prog_14_method_77_code, 5, (some (.int))),
  (⟨"RollPlayerModel", "loud", "(I)I"⟩, prog_14_method_78_code, 6, (some (.int))),
  (⟨"RollPlayerModel", "level", "(I)I"⟩, prog_14_method_79_code, 2, (some (.int))),
  (⟨"RollPlayerModel", "stop", "(I)I"⟩, prog_14_method_80_code, 2, (some (.int))),
  (⟨"RollPlayerModel", "at", "(I)I"⟩, prog_14_method_81_code, 2, (some (.int))),
  (⟨"RollPlayerModel", "times", "(II)I"⟩, prog_14_method_82_code, 3, (some (.int))),
  (⟨"RollPlayerModel", "event", "(II)I"⟩, prog_14_method_83_code, 3, (some (.int))),
  (⟨"RollPlayerModel", "cut", "(II)I"⟩, prog_14_method_84_code, 4, (some (.int))),
  (⟨"RollPlayerModel", "copies", "(II)V"⟩, prog_14_method_85_code, 4, (none)),
  (⟨"RollPlayerModel", "copyOf", "(I)I"⟩, prog_14_method_86_code, 2, (some (.int))),
  (⟨"RollPlayerModel", "elementsOf", "(III)I"⟩, prog_14_method_87_code, 6, (some (.int))),
  (⟨"RollPlayerModel", "join", "(II)I"⟩, prog_14_method_88_code, 5, (some (.int))),
  (⟨"RollPlayerModel", "repeat", "(III)I"⟩, prog_14_method_89_code, 5, (some (.int))),
  (⟨"RollPlayerModel", "move", "(IIIII)I"⟩, prog_14_method_90_code, 8, (some (.int))),
  (⟨"RollPlayerModel", "hinders", "(IIII)I"⟩, prog_14_method_91_code, 7, (some (.int))),
  (⟨"RollPlayerModel", "copy", "(IIIIIII)I"⟩, prog_14_method_92_code, 11, (some (.int))),
  (⟨"RollPlayerModel", "transpose", "(III)I"⟩, prog_14_method_93_code, 9, (some (.int))),
  (⟨"RollPlayerModel", "fallen", "(II)I"⟩, prog_14_method_94_code, 3, (some (.int))),
  (⟨"RollPlayerModel", "mend", "(III)I"⟩, prog_14_method_95_code, 7, (some (.int))),
  (⟨"RollPlayerModel", "areAlike", "(II)Z"⟩, prog_14_method_96_code, 5, (some (.boolean))),
  (⟨"RollPlayerModel", "equal", "(II)I"⟩, prog_14_method_97_code, 5, (some (.int))),
  (⟨"RollPlayerModel", "digest", "(I)J"⟩, prog_14_method_98_code, 6, (some (.long))),
  (⟨"RollPlayerModel", "count", "(I)I"⟩, prog_14_method_99_code, 2, (some (.int))),
  (⟨"RollPlayerModel", "strips", "(I)I"⟩, prog_14_method_100_code, 2, (some (.int))),
  (⟨"RollPlayerModel", "members", "(I)I"⟩, prog_14_method_101_code, 2, (some (.int))),
  (⟨"RollPlayerModel", "trace", "(I)I"⟩, prog_14_method_102_code, 2, (some (.int))),
  (⟨"RollPlayerModel", "status", "()I"⟩, prog_14_method_103_code, 1, (some (.int))),
  (⟨"RollPlayer$Strip", "<init>", "(IIII)V"⟩, prog_12_method_1_code, 6, (none)),
  (⟨"RollPlayer$Strip", "elements", "()I"⟩, prog_12_method_2_code, 1, (some (.int))),
  (⟨"RollPlayer$Strip", "numberAt", "(II)I"⟩, prog_12_method_3_code, 5, (some (.int))),
  (⟨"RollPlayer$Strip", "writeNumber", "(III)V"⟩, prog_12_method_4_code, 6, (none)),
  (⟨"RollPlayer$Strip", "elementAt", "(I)I"⟩, prog_12_method_5_code, 3, (some (.int))),
  (⟨"RollPlayer$Strip", "putElement", "(II)V"⟩, prog_12_method_6_code, 3, (none)),
  (⟨"RollPlayer$Strip", "sumNow", "()I"⟩, prog_12_method_7_code, 3, (some (.int))),
  (⟨"RollPlayer$Strip", "writeHead", "()V"⟩, prog_12_method_8_code, 1, (none)),
  (⟨"RollPlayer$Strip", "verdict", "()I"⟩, prog_12_method_9_code, 2, (some (.int))),
  (⟨"RollPlayer$Strip", "dropAll", "()V"⟩, prog_12_method_10_code, 1, (none)),
  (⟨"RollPlayer$Strip", "keepFirst", "(I)V"⟩, prog_12_method_11_code, 2, (none)),
  (⟨"RollPlayer$Strip", "takeBytes", "(LRollPlayer$Strip;)V"⟩, prog_12_method_12_code, 2, (none)),
  (⟨"RollPlayer$Strip", "twin", "()LRollPlayer$Strip;"⟩, prog_12_method_13_code, 2, (some (.object "RollPlayer$Strip"))),
  (⟨"RollPlayer$Strip", "hasSpan", "(II)Z"⟩, prog_12_method_14_code, 3, (some (.boolean))),
  (⟨"RollPlayer$Strip", "takeElements", "(ILRollPlayer$Strip;II)V"⟩, prog_12_method_15_code, 5, (none)),
  (⟨"RollPlayer$Strip", "isLike", "(LRollPlayer$Strip;)Z"⟩, prog_12_method_16_code, 3, (some (.boolean))),
  (⟨"RollPlayer$Strip", "digestOnto", "(I)I"⟩, prog_12_method_17_code, 4, (some (.int))),
  (⟨"RollPlayer$Roll", "<init>", "()V"⟩, prog_11_method_1_code, 1, (none)),
  (⟨"RollPlayer$Roll", "stripAt", "(I)LRollPlayer$Strip;"⟩, prog_11_method_2_code, 2, (some (.object "RollPlayer$Strip"))),
  (⟨"RollPlayer$Roll", "isWhole", "(I)Z"⟩, prog_11_method_3_code, 3, (some (.boolean))),
  (⟨"RollPlayer$Roll", "append", "(LRollPlayer$Strip;)V"⟩, prog_11_method_4_code, 2, (none)),
  (⟨"RollPlayer$Roll", "put", "(ILRollPlayer$Strip;)V"⟩, prog_11_method_5_code, 3, (none)),
  (⟨"RollPlayer$Roll", "makeRoom", "(II)V"⟩, prog_11_method_6_code, 4, (none)),
  (⟨"RollPlayer$Roll", "elementsIn", "(II)I"⟩, prog_11_method_7_code, 6, (some (.int))),
  (⟨"RollPlayer$Roll", "splitAt", "(I)LRollPlayer$Roll;"⟩, prog_11_method_8_code, 5, (some (.object "RollPlayer$Roll"))),
  (⟨"RollPlayer$Instrument", "<init>", "(II)V"⟩, prog_6_method_1_code, 3, (none)),
  (⟨"RollPlayer$Instrument", "pitch", "(D[II)D"⟩, prog_6_method_3_code, 5, (some (.double))),
  (⟨"RollPlayer$Instrument", "ratioOf", "(D)D"⟩, prog_6_method_4_code, 3, (some (.double))),
  (⟨"RollPlayer$Instrument", "isOf", "(I)Z"⟩, prog_6_method_5_code, 2, (some (.boolean))),
  (⟨"RollPlayer$Instrument", "timesWithin", "(II)I"⟩, prog_6_method_6_code, 3, (some (.int))),
  (⟨"RollPlayer$Pipe", "<init>", "(II)V"⟩, prog_8_method_1_code, 3, (none)),
  (⟨"RollPlayer$Pipe", "air", "(I[I)I"⟩, prog_8_method_2_code, 3, (some (.int))),
  (⟨"RollPlayer$Pipe", "loudness", "(III[I)I"⟩, prog_8_method_3_code, 5, (some (.int))),
  (⟨"RollPlayer$Pipe", "pitch", "(D[II)D"⟩, prog_8_method_4_code, 5, (some (.double))),
  (⟨"RollPlayer$Reed", "<init>", "(II)V"⟩, prog_10_method_1_code, 3, (none)),
  (⟨"RollPlayer$Reed", "loudness", "(III[I)I"⟩, prog_10_method_2_code, 5, (some (.int))),
  (⟨"RollPlayer$Reed", "pitch", "(D[II)D"⟩, prog_10_method_3_code, 7, (some (.double))),
  (⟨"RollPlayer$Bass", "<init>", "(I)V"⟩, prog_2_method_1_code, 2, (none)),
  (⟨"RollPlayer$Bass", "air", "(I[I)I"⟩, prog_2_method_2_code, 3, (some (.int))),
  (⟨"RollPlayer$Bass", "pitch", "(D[II)D"⟩, prog_2_method_3_code, 7, (some (.double))),
  (⟨"RollPlayer$Drum", "<init>", "(I)V"⟩, prog_5_method_1_code, 2, (none)),
  (⟨"RollPlayer$Drum", "loudness", "(III[I)I"⟩, prog_5_method_2_code, 5, (some (.int))),
  (⟨"RollPlayer$Plucked", "<init>", "(II)V"⟩, prog_9_method_1_code, 3, (none)),
  (⟨"RollPlayer$Plucked", "loudness", "(III[I)I"⟩, prog_9_method_2_code, 5, (some (.int))),
  (⟨"RollPlayer$Plucked", "pitch", "(D[II)D"⟩, prog_9_method_3_code, 7, (some (.double))),
  (⟨"RollPlayer$Plucked", "nearest", "(D)D"⟩, prog_9_method_4_code, 7, (some (.double))),
  (⟨"RollPlayer$Bell", "<init>", "(I)V"⟩, prog_3_method_1_code, 2, (none)),
  (⟨"RollPlayer$Bell", "loudness", "(III[I)I"⟩, prog_3_method_2_code, 5, (some (.int))),
  (⟨"RollPlayer$Bell", "pitch", "(D[II)D"⟩, prog_3_method_3_code, 7, (some (.double))),
  (⟨"RollPlayer$Coupler", "<init>", "(I)V"⟩, prog_4_method_1_code, 2, (none)),
  (⟨"RollPlayer$Coupler", "partAt", "(I)LRollPlayer$Instrument;"⟩, prog_4_method_2_code, 2, (some (.object "RollPlayer$Instrument"))),
  (⟨"RollPlayer$Coupler", "append", "(LRollPlayer$Instrument;)V"⟩, prog_4_method_3_code, 2, (none)),
  (⟨"RollPlayer$Coupler", "loudness", "(III[I)I"⟩, prog_4_method_4_code, 5, (some (.int))),
  (⟨"RollPlayer$Coupler", "pitch", "(D[II)D"⟩, prog_4_method_5_code, 11, (some (.double))),
  (⟨"RollPlayer$Coupler", "timesWithin", "(II)I"⟩, prog_4_method_6_code, 6, (some (.int))),
  (⟨"RollPlayer$Organ", "<init>", "()V"⟩, prog_7_method_1_code, 1, (none)),
  (⟨"RollPlayer$Organ", "instrumentAt", "(I)LRollPlayer$Instrument;"⟩, prog_7_method_2_code, 2, (some (.object "RollPlayer$Instrument"))),
  (⟨"RollPlayer$Organ", "addInstrument", "(I)I"⟩, prog_7_method_3_code, 3, (some (.int))),
  (⟨"RollPlayer$Organ", "made", "(II)LRollPlayer$Instrument;"⟩, prog_7_method_4_code, 2, (some (.object "RollPlayer$Instrument"))),
  (⟨"RollPlayer$Organ", "grow", "(II)Z"⟩, prog_7_method_5_code, 5, (some (.boolean))),
  (⟨"RollPlayer$Organ", "pitchOf", "(LRollPlayer$Instrument;)D"⟩, prog_7_method_6_code, 2, (some (.double))),
  (⟨"RollPlayer$Organ", "hasChest", "(I)Z"⟩, prog_7_method_7_code, 2, (some (.boolean))),
  (⟨"RollPlayer$Organ", "placeCount", "()I"⟩, prog_7_method_8_code, 1, (some (.int))),
  (⟨"RollPlayer$Organ", "addChest", "(II)I"⟩, prog_7_method_9_code, 6, (some (.int))),
  (⟨"RollPlayer$Organ", "whereIs", "(II)I"⟩, prog_7_method_10_code, 3, (some (.int))),
  (⟨"RollPlayer$Organ", "instrumentOf", "(I)I"⟩, prog_7_method_11_code, 1, (some (.int))),
  (⟨"RollPlayer$Organ", "trackOf", "(I)I"⟩, prog_7_method_12_code, 1, (some (.int))),
  (⟨"RollPlayer$Organ", "ageOf", "(I)I"⟩, prog_7_method_13_code, 2, (some (.int))),
  (⟨"RollPlayer$Organ", "soundAt", "(I)I"⟩, prog_7_method_14_code, 2, (some (.int))),
  (⟨"RollPlayer$Organ", "countOfTrack", "(I)I"⟩, prog_7_method_15_code, 4, (some (.int))),
  (⟨"RollPlayer$Organ", "isOpen", "(I)Z"⟩, prog_7_method_16_code, 2, (some (.boolean))),
  (⟨"RollPlayer$Organ", "log", "(III)V"⟩, prog_7_method_17_code, 5, (none)),
  (⟨"RollPlayer$Organ", "startSound", "(LRollPlayer$Instrument;II)Z"⟩, prog_7_method_18_code, 9, (some (.boolean))),
  (⟨"RollPlayer$Organ", "noteEnd", "(I)V"⟩, prog_7_method_19_code, 2, (none)),
  (⟨"RollPlayer$Organ", "endDownTo", "(I)V"⟩, prog_7_method_20_code, 3, (none)),
  (⟨"RollPlayer$Organ", "endTrack", "(I)V"⟩, prog_7_method_21_code, 5, (none)),
  (⟨"RollPlayer$Organ", "silence", "()V"⟩, prog_7_method_22_code, 1, (none)),
  (⟨"RollPlayer$Organ", "begin", "(LRollPlayer$Roll;)V"⟩, prog_7_method_23_code, 3, (none)),
  (⟨"RollPlayer$Organ", "keep", "()V"⟩, prog_7_method_24_code, 4, (none)),
  (⟨"RollPlayer$Organ", "usedOf", "([I)I"⟩, prog_7_method_25_code, 1, (some (.int))),
  (⟨"RollPlayer$Organ", "goBack", "(I)Z"⟩, prog_7_method_26_code, 4, (some (.boolean))),
  (⟨"RollPlayer$Organ", "reachStrip", "()Z"⟩, prog_7_method_27_code, 7, (some (.boolean))),
  (⟨"RollPlayer$Organ", "beginStrip", "(LRollPlayer$Strip;I)V"⟩, prog_7_method_28_code, 4, (none)),
  (⟨"RollPlayer$Organ", "passTick", "()V"⟩, prog_7_method_29_code, 3, (none)),
  (⟨"RollPlayer$Organ", "doElement", "(LRollPlayer$Strip;I)V"⟩, prog_7_method_30_code, 5, (none)),
  (⟨"RollPlayer$Organ", "doHole", "(IZ)V"⟩, prog_7_method_31_code, 6, (none)),
  (⟨"RollPlayer$Organ", "setTempo", "(II)V"⟩, prog_7_method_32_code, 3, (none)),
  (⟨"RollPlayer$Organ", "goOnWithTempo", "()V"⟩, prog_7_method_33_code, 6, (none)),
  (⟨"RollPlayer", "<init>", "()V"⟩, prog_1_method_1_code, 1, (none)),
  (⟨"RollPlayer", "done", "(I)I"⟩, prog_1_method_2_code, 2, (some (.int))),
  (⟨"RollPlayer", "refuse", "(I)I"⟩, prog_1_method_3_code, 2, (some (.int))),
  (⟨"RollPlayer", "found", "(I)I"⟩, prog_1_method_4_code, 2, (some (.int))),
  (⟨"RollPlayer", "nothingThere", "()I"⟩, prog_1_method_5_code, 1, (some (.int))),
  (⟨"RollPlayer", "refuseLong", "(I)J"⟩, prog_1_method_6_code, 2, (some (.long))),
  (⟨"RollPlayer", "doneLong", "(J)J"⟩, prog_1_method_7_code, 3, (some (.long))),
  (⟨"RollPlayer", "rollAt", "(I)LRollPlayer$Roll;"⟩, prog_1_method_8_code, 2, (some (.object "RollPlayer$Roll"))),
  (⟨"RollPlayer", "stripAt", "(II)LRollPlayer$Strip;"⟩, prog_1_method_9_code, 4, (some (.object "RollPlayer$Strip"))),
  (⟨"RollPlayer", "tooManyElements", "(I)Z"⟩, prog_1_method_10_code, 2, (some (.boolean))),
  (⟨"RollPlayer", "roll", "()I"⟩, prog_1_method_11_code, 1, (some (.int))),
  (⟨"RollPlayer", "strip", "(IIIII)I"⟩, prog_1_method_12_code, 8, (some (.int))),
  (⟨"RollPlayer", "punch", "(IIII)I"⟩, prog_1_method_13_code, 7, (some (.int))),
  (⟨"RollPlayer", "seal", "(II)I"⟩, prog_1_method_14_code, 4, (some (.int))),
  (⟨"RollPlayer", "lose", "(II)I"⟩, prog_1_method_15_code, 4, (some (.int))),
  (⟨"RollPlayer", "tear", "(III)I"⟩, prog_1_method_16_code, 5, (some (.int))),
  (⟨"RollPlayer", "damage", "(IIII)I"⟩, prog_1_method_17_code, 6, (some (.int))),
  (⟨"RollPlayer", "byteOf", "(III)I"⟩, prog_1_method_18_code, 5, (some (.int))),
  (⟨"RollPlayer", "head", "(III)J"⟩, prog_1_method_19_code, 7, (some (.long))),
  (⟨"RollPlayer", "sum", "(II)J"⟩, prog_1_method_20_code, 4, (some (.long))),
  (⟨"RollPlayer", "read", "(II)I"⟩, prog_1_method_21_code, 5, (some (.int))),
  (⟨"RollPlayer", "whole", "(I)I"⟩, prog_1_method_22_code, 5, (some (.int))),
  (⟨"RollPlayer", "finding", "(II)I"⟩, prog_1_method_23_code, 6, (some (.int))),
  (⟨"RollPlayer", "told", "(III)I"⟩, prog_1_method_24_code, 5, (some (.int))),
  (⟨"RollPlayer", "instrument", "(I)I"⟩, prog_1_method_25_code, 2, (some (.int))),
  (⟨"RollPlayer", "couple", "(II)I"⟩, prog_1_method_26_code, 6, (some (.int))),
  (⟨"RollPlayer", "chest", "(II)I"⟩, prog_1_method_27_code, 3, (some (.int))),
  (⟨"RollPlayer", "place", "(III)I"⟩, prog_1_method_28_code, 6, (some (.int))),
  (⟨"RollPlayer", "wire", "(III)I"⟩, prog_1_method_29_code, 4, (some (.int))),
  (⟨"RollPlayer", "spoil", "(II)I"⟩, prog_1_method_30_code, 4, (some (.int))),
  (⟨"RollPlayer", "tune", "(III)I"⟩, prog_1_method_31_code, 5, (some (.int))),
  (⟨"RollPlayer", "base", "(I)I"⟩, prog_1_method_32_code, 2, (some (.int))),
  (⟨"RollPlayer", "frequency", "(I)J"⟩, prog_1_method_33_code, 3, (some (.long))),
  (⟨"RollPlayer", "bitsOf", "(D)J"⟩, prog_1_method_34_code, 7, (some (.long))),
  (⟨"RollPlayer", "mute", "(I)I"⟩, prog_1_method_35_code, 3, (some (.int))),
  (⟨"RollPlayer", "higher", "(II)I"⟩, prog_1_method_36_code, 9, (some (.int))),
  (⟨"RollPlayer", "play", "(I)I"⟩, prog_1_method_37_code, 3, (some (.int))),
  (⟨"RollPlayer", "tick", "(I)I"⟩, prog_1_method_38_code, 3, (some (.int))),
  (⟨"RollPlayer", "halt", "()I"⟩, prog_1_method_39_code, 2, (some (.int))),
  (⟨"RollPlayer", "back", "(I)I"⟩, prog_1_method_40_code, 2, (some (.int))),
  (⟨"RollPlayer", "open", "(I)I"⟩, prog_1_method_41_code, 2, (some (.int))),
  (⟨"RollPlayer", "sounding", "(II)I"⟩, prog_1_method_42_code, 4, (some (.int))),
  (⟨"RollPlayer", "loud", "(I)I"⟩, prog_1_method_43_code, 6, (some (.int))),
  (⟨"RollPlayer", "level", "(I)I"⟩, prog_1_method_44_code, 2, (some (.int))),
  (⟨"RollPlayer", "stop", "(I)I"⟩, prog_1_method_45_code, 2, (some (.int))),
  (⟨"RollPlayer", "at", "(I)I"⟩, prog_1_method_46_code, 2, (some (.int))),
  (⟨"RollPlayer", "times", "(II)I"⟩, prog_1_method_47_code, 3, (some (.int))),
  (⟨"RollPlayer", "event", "(II)I"⟩, prog_1_method_48_code, 3, (some (.int))),
  (⟨"RollPlayer", "cut", "(II)I"⟩, prog_1_method_49_code, 4, (some (.int))),
  (⟨"RollPlayer", "join", "(II)I"⟩, prog_1_method_50_code, 5, (some (.int))),
  (⟨"RollPlayer", "repeat", "(III)I"⟩, prog_1_method_51_code, 5, (some (.int))),
  (⟨"RollPlayer", "addCopies", "(LRollPlayer$Roll;ILRollPlayer$Roll;II)I"⟩, prog_1_method_52_code, 9, (some (.int))),
  (⟨"RollPlayer", "move", "(IIIII)I"⟩, prog_1_method_53_code, 10, (some (.int))),
  (⟨"RollPlayer", "moveOne", "(LRollPlayer$Strip;LRollPlayer$Strip;)I"⟩, prog_1_method_54_code, 3, (some (.int))),
  (⟨"RollPlayer", "replaceBytes", "(LRollPlayer$Strip;LRollPlayer$Strip;)Z"⟩, prog_1_method_55_code, 4, (some (.boolean))),
  (⟨"RollPlayer", "copy", "(IIIIIII)I"⟩, prog_1_method_56_code, 10, (some (.int))),
  (⟨"RollPlayer", "transpose", "(III)I"⟩, prog_1_method_57_code, 8, (some (.int))),
  (⟨"RollPlayer", "noteFallen", "(III)V"⟩, prog_1_method_58_code, 6, (none)),
  (⟨"RollPlayer", "fallen", "(II)I"⟩, prog_1_method_59_code, 3, (some (.int))),
  (⟨"RollPlayer", "mend", "(III)I"⟩, prog_1_method_60_code, 8, (some (.int))),
  (⟨"RollPlayer", "equal", "(II)I"⟩, prog_1_method_61_code, 8, (some (.int))),
  (⟨"RollPlayer", "digest", "(I)J"⟩, prog_1_method_62_code, 6, (some (.long))),
  (⟨"RollPlayer", "count", "(I)I"⟩, prog_1_method_63_code, 2, (some (.int))),
  (⟨"RollPlayer", "strips", "(I)I"⟩, prog_1_method_64_code, 3, (some (.int))),
  (⟨"RollPlayer", "members", "(I)I"⟩, prog_1_method_65_code, 4, (some (.int))),
  (⟨"RollPlayer", "trace", "(I)I"⟩, prog_1_method_66_code, 2, (some (.int))),
  (⟨"RollPlayer", "status", "()I"⟩, prog_1_method_67_code, 1, (some (.int))),
  (⟨"RollPlayerLaw", "law", "([I)Z"⟩, code, 4, (some (.boolean)))]
set_option maxRecDepth 100000 in
theorem mt_Jd_isNaN : z_nth z_mts 4 = some (⟨"java/lang/Double", "isNaN", "(D)Z"⟩, prog_15_method_6_code, 2, (some (.boolean))) := rfl
theorem cw_Jd_isNaN (own : String) : z_cw own ⟨"java/lang/Double", "isNaN", "(D)Z"⟩ prog_15_method_6_code 2 (some (.boolean)) 1 := ⟨(z_tb 1382 (by decide +kernel)), (z_tb 15 (by decide +kernel)), ⟨by decide +kernel, by decide +kernel⟩, by decide +kernel, by decide⟩
theorem fp_Q_7_true : [11].all (fun t => z_fb t 2 "RollPlayerModel" "sizeOf" "[I" 1 true && z_fw true "RollPlayerModel" t 2 true) = true := by decide +kernel
theorem fl_Q_7 : Cond.fieldLink "RollPlayerModel" 7 "RollPlayerModel" "sizeOf" "[I" ∈ lw_tbl := z_tb 965 (by decide +kernel)
theorem fp_Q_13_true : [11].all (fun t => z_fb t 3 "RollPlayerModel" "order" "[I" 1 true && z_fw true "RollPlayerModel" t 3 true) = true := by decide +kernel
theorem fl_Q_13 : Cond.fieldLink "RollPlayerModel" 13 "RollPlayerModel" "order" "[I" ∈ lw_tbl := z_tb 966 (by decide +kernel)
theorem fp_Q_16_true : [11].all (fun t => z_fb t 5 "RollPlayerModel" "kindOf" "[I" 1 true && z_fw true "RollPlayerModel" t 5 true) = true := by decide +kernel
theorem fl_Q_16 : Cond.fieldLink "RollPlayerModel" 16 "RollPlayerModel" "kindOf" "[I" ∈ lw_tbl := z_tb 968 (by decide +kernel)
theorem fp_Q_19_true : [11].all (fun t => z_fb t 6 "RollPlayerModel" "numberOf" "[I" 1 true && z_fw true "RollPlayerModel" t 6 true) = true := by decide +kernel
theorem fl_Q_19 : Cond.fieldLink "RollPlayerModel" 19 "RollPlayerModel" "numberOf" "[I" ∈ lw_tbl := z_tb 969 (by decide +kernel)
theorem fp_Q_22_true : [11].all (fun t => z_fb t 7 "RollPlayerModel" "ticksOf" "[I" 1 true && z_fw true "RollPlayerModel" t 7 true) = true := by decide +kernel
theorem fl_Q_22 : Cond.fieldLink "RollPlayerModel" 22 "RollPlayerModel" "ticksOf" "[I" ∈ lw_tbl := z_tb 970 (by decide +kernel)
theorem fp_Q_25_true : [11].all (fun t => z_fb t 8 "RollPlayerModel" "isLost" "[Z" 1 true && z_fw true "RollPlayerModel" t 8 true) = true := by decide +kernel
theorem fl_Q_25 : Cond.fieldLink "RollPlayerModel" 25 "RollPlayerModel" "isLost" "[Z" ∈ lw_tbl := z_tb 971 (by decide +kernel)
theorem fp_Q_29_true : [11].all (fun t => z_fb t 9 "RollPlayerModel" "headSize" "[I" 1 true && z_fw true "RollPlayerModel" t 9 true) = true := by decide +kernel
theorem fl_Q_29 : Cond.fieldLink "RollPlayerModel" 29 "RollPlayerModel" "headSize" "[I" ∈ lw_tbl := z_tb 972 (by decide +kernel)
theorem fp_Q_32_true : [11].all (fun t => z_fb t 10 "RollPlayerModel" "head" "[I" 1 true && z_fw true "RollPlayerModel" t 10 true) = true := by decide +kernel
theorem fl_Q_32 : Cond.fieldLink "RollPlayerModel" 32 "RollPlayerModel" "head" "[I" ∈ lw_tbl := z_tb 973 (by decide +kernel)
theorem fp_Q_35_true : [11].all (fun t => z_fb t 11 "RollPlayerModel" "size" "[I" 1 true && z_fw true "RollPlayerModel" t 11 true) = true := by decide +kernel
theorem fl_Q_35 : Cond.fieldLink "RollPlayerModel" 35 "RollPlayerModel" "size" "[I" ∈ lw_tbl := z_tb 974 (by decide +kernel)
theorem fp_Q_39_true : [11].all (fun t => z_fb t 12 "RollPlayerModel" "element" "[I" 1 true && z_fw true "RollPlayerModel" t 12 true) = true := by decide +kernel
theorem fl_Q_39 : Cond.fieldLink "RollPlayerModel" 39 "RollPlayerModel" "element" "[I" ∈ lw_tbl := z_tb 975 (by decide +kernel)
theorem fp_Q_42_true : [11].all (fun t => z_fb t 15 "RollPlayerModel" "sort" "[I" 1 true && z_fw true "RollPlayerModel" t 15 true) = true := by decide +kernel
theorem fl_Q_42 : Cond.fieldLink "RollPlayerModel" 42 "RollPlayerModel" "sort" "[I" ∈ lw_tbl := z_tb 978 (by decide +kernel)
theorem fp_Q_45_true : [11].all (fun t => z_fb t 16 "RollPlayerModel" "memberMany" "[I" 1 true && z_fw true "RollPlayerModel" t 16 true) = true := by decide +kernel
theorem fl_Q_45 : Cond.fieldLink "RollPlayerModel" 45 "RollPlayerModel" "memberMany" "[I" ∈ lw_tbl := z_tb 979 (by decide +kernel)
theorem fp_Q_48_true : [11].all (fun t => z_fb t 17 "RollPlayerModel" "member" "[I" 1 true && z_fw true "RollPlayerModel" t 17 true) = true := by decide +kernel
theorem fl_Q_48 : Cond.fieldLink "RollPlayerModel" 48 "RollPlayerModel" "member" "[I" ∈ lw_tbl := z_tb 980 (by decide +kernel)
theorem fp_Q_51_true : [11].all (fun t => z_fb t 18 "RollPlayerModel" "together" "[I" 1 true && z_fw true "RollPlayerModel" t 18 true) = true := by decide +kernel
theorem fl_Q_51 : Cond.fieldLink "RollPlayerModel" 51 "RollPlayerModel" "together" "[I" ∈ lw_tbl := z_tb 981 (by decide +kernel)
theorem fp_Q_54_true : [11].all (fun t => z_fb t 19 "RollPlayerModel" "spoiling" "[I" 1 true && z_fw true "RollPlayerModel" t 19 true) = true := by decide +kernel
theorem fl_Q_54 : Cond.fieldLink "RollPlayerModel" 54 "RollPlayerModel" "spoiling" "[I" ∈ lw_tbl := z_tb 982 (by decide +kernel)
theorem fp_Q_57_true : [11].all (fun t => z_fb t 20 "RollPlayerModel" "hasNoRatio" "[Z" 1 true && z_fw true "RollPlayerModel" t 20 true) = true := by decide +kernel
theorem fl_Q_57 : Cond.fieldLink "RollPlayerModel" 57 "RollPlayerModel" "hasNoRatio" "[Z" ∈ lw_tbl := z_tb 983 (by decide +kernel)
theorem fp_Q_60_true : [11].all (fun t => z_fb t 21 "RollPlayerModel" "ratio" "[D" 1 true && z_fw true "RollPlayerModel" t 21 true) = true := by decide +kernel
theorem fl_Q_60 : Cond.fieldLink "RollPlayerModel" 60 "RollPlayerModel" "ratio" "[D" ∈ lw_tbl := z_tb 984 (by decide +kernel)
theorem fp_Q_64_true : [11].all (fun t => z_fb t 24 "RollPlayerModel" "chestKind" "[I" 1 true && z_fw true "RollPlayerModel" t 24 true) = true := by decide +kernel
theorem fl_Q_64 : Cond.fieldLink "RollPlayerModel" 64 "RollPlayerModel" "chestKind" "[I" ∈ lw_tbl := z_tb 987 (by decide +kernel)
theorem fp_Q_67_true : [11].all (fun t => z_fb t 25 "RollPlayerModel" "chestSize" "[I" 1 true && z_fw true "RollPlayerModel" t 25 true) = true := by decide +kernel
theorem fl_Q_67 : Cond.fieldLink "RollPlayerModel" 67 "RollPlayerModel" "chestSize" "[I" ∈ lw_tbl := z_tb 988 (by decide +kernel)
theorem fp_Q_70_true : [11].all (fun t => z_fb t 26 "RollPlayerModel" "chestFrom" "[I" 1 true && z_fw true "RollPlayerModel" t 26 true) = true := by decide +kernel
theorem fl_Q_70 : Cond.fieldLink "RollPlayerModel" 70 "RollPlayerModel" "chestFrom" "[I" ∈ lw_tbl := z_tb 989 (by decide +kernel)
theorem fp_Q_73_true : [11].all (fun t => z_fb t 28 "RollPlayerModel" "holds" "[I" 1 true && z_fw true "RollPlayerModel" t 28 true) = true := by decide +kernel
theorem fl_Q_73 : Cond.fieldLink "RollPlayerModel" 73 "RollPlayerModel" "holds" "[I" ∈ lw_tbl := z_tb 991 (by decide +kernel)
theorem fp_Q_76_true : [11].all (fun t => z_fb t 29 "RollPlayerModel" "wireTo" "[I" 1 true && z_fw true "RollPlayerModel" t 29 true) = true := by decide +kernel
theorem fl_Q_76 : Cond.fieldLink "RollPlayerModel" 76 "RollPlayerModel" "wireTo" "[I" ∈ lw_tbl := z_tb 992 (by decide +kernel)
theorem fp_Q_79_true : [11].all (fun t => z_fb t 30 "RollPlayerModel" "wirePlace" "[I" 1 true && z_fw true "RollPlayerModel" t 30 true) = true := by decide +kernel
theorem fl_Q_79 : Cond.fieldLink "RollPlayerModel" 79 "RollPlayerModel" "wirePlace" "[I" ∈ lw_tbl := z_tb 993 (by decide +kernel)
theorem fp_Q_82_true : [11].all (fun t => z_fb t 31 "RollPlayerModel" "trace" "[I" 1 true && z_fw true "RollPlayerModel" t 31 true) = true := by decide +kernel
theorem fl_Q_82 : Cond.fieldLink "RollPlayerModel" 82 "RollPlayerModel" "trace" "[I" ∈ lw_tbl := z_tb 994 (by decide +kernel)
theorem fp_Q_85_true : [11].all (fun t => z_fb t 32 "RollPlayerModel" "way" "[I" 1 true && z_fw true "RollPlayerModel" t 32 true) = true := by decide +kernel
theorem fl_Q_85 : Cond.fieldLink "RollPlayerModel" 85 "RollPlayerModel" "way" "[I" ∈ lw_tbl := z_tb 995 (by decide +kernel)
theorem fp_Q_88_true : [11].all (fun t => z_fb t 33 "RollPlayerModel" "next" "[I" 1 true && z_fw true "RollPlayerModel" t 33 true) = true := by decide +kernel
theorem fl_Q_88 : Cond.fieldLink "RollPlayerModel" 88 "RollPlayerModel" "next" "[I" ∈ lw_tbl := z_tb 996 (by decide +kernel)
theorem fp_Q_91_true : [11].all (fun t => z_fb t 34 "RollPlayerModel" "has" "[Z" 1 true && z_fw true "RollPlayerModel" t 34 true) = true := by decide +kernel
theorem fl_Q_91 : Cond.fieldLink "RollPlayerModel" 91 "RollPlayerModel" "has" "[Z" ∈ lw_tbl := z_tb 997 (by decide +kernel)
theorem fp_Q_94_true : [11].all (fun t => z_fb t 38 "RollPlayerModel" "isOpen" "[Z" 1 true && z_fw true "RollPlayerModel" t 38 true) = true := by decide +kernel
theorem fl_Q_94 : Cond.fieldLink "RollPlayerModel" 94 "RollPlayerModel" "isOpen" "[Z" ∈ lw_tbl := z_tb 1001 (by decide +kernel)
theorem fp_Q_97_true : [11].all (fun t => z_fb t 39 "RollPlayerModel" "levels" "[I" 1 true && z_fw true "RollPlayerModel" t 39 true) = true := by decide +kernel
theorem fl_Q_97 : Cond.fieldLink "RollPlayerModel" 97 "RollPlayerModel" "levels" "[I" ∈ lw_tbl := z_tb 1002 (by decide +kernel)
theorem fp_Q_100_true : [11].all (fun t => z_fb t 40 "RollPlayerModel" "drawn" "[Z" 1 true && z_fw true "RollPlayerModel" t 40 true) = true := by decide +kernel
theorem fl_Q_100 : Cond.fieldLink "RollPlayerModel" 100 "RollPlayerModel" "drawn" "[Z" ∈ lw_tbl := z_tb 1003 (by decide +kernel)
theorem fp_Q_103_true : [11].all (fun t => z_fb t 53 "RollPlayerModel" "soundOf" "[I" 1 true && z_fw true "RollPlayerModel" t 53 true) = true := by decide +kernel
theorem fl_Q_103 : Cond.fieldLink "RollPlayerModel" 103 "RollPlayerModel" "soundOf" "[I" ∈ lw_tbl := z_tb 1016 (by decide +kernel)
theorem fp_Q_106_true : [11].all (fun t => z_fb t 54 "RollPlayerModel" "trackOf" "[I" 1 true && z_fw true "RollPlayerModel" t 54 true) = true := by decide +kernel
theorem fl_Q_106 : Cond.fieldLink "RollPlayerModel" 106 "RollPlayerModel" "trackOf" "[I" ∈ lw_tbl := z_tb 1017 (by decide +kernel)
theorem fp_Q_109_true : [11].all (fun t => z_fb t 55 "RollPlayerModel" "sinceOf" "[I" 1 true && z_fw true "RollPlayerModel" t 55 true) = true := by decide +kernel
theorem fl_Q_109 : Cond.fieldLink "RollPlayerModel" 109 "RollPlayerModel" "sinceOf" "[I" ∈ lw_tbl := z_tb 1018 (by decide +kernel)
theorem fp_Q_112_true : [11].all (fun t => z_fb t 56 "RollPlayerModel" "opened" "[I" 1 true && z_fw true "RollPlayerModel" t 56 true) = true := by decide +kernel
theorem fl_Q_112 : Cond.fieldLink "RollPlayerModel" 112 "RollPlayerModel" "opened" "[I" ∈ lw_tbl := z_tb 1019 (by decide +kernel)
theorem fp_Q_115_true : [11].all (fun t => z_fb t 57 "RollPlayerModel" "ended" "[I" 1 true && z_fw true "RollPlayerModel" t 57 true) = true := by decide +kernel
theorem fl_Q_115 : Cond.fieldLink "RollPlayerModel" 115 "RollPlayerModel" "ended" "[I" ∈ lw_tbl := z_tb 1020 (by decide +kernel)
theorem fp_Q_118_true : [11].all (fun t => z_fb t 59 "RollPlayerModel" "event" "[I" 1 true && z_fw true "RollPlayerModel" t 59 true) = true := by decide +kernel
theorem fl_Q_118 : Cond.fieldLink "RollPlayerModel" 118 "RollPlayerModel" "event" "[I" ∈ lw_tbl := z_tb 1022 (by decide +kernel)
theorem fp_Q_122_true : [11].all (fun t => z_fb t 61 "RollPlayerModel" "was" "[I" 1 true && z_fw true "RollPlayerModel" t 61 true) = true := by decide +kernel
theorem fl_Q_122 : Cond.fieldLink "RollPlayerModel" 122 "RollPlayerModel" "was" "[I" ∈ lw_tbl := z_tb 1024 (by decide +kernel)
theorem fp_Q_125_true : [11].all (fun t => z_fb t 64 "RollPlayerModel" "spare" "[I" 1 true && z_fw true "RollPlayerModel" t 64 true) = true := by decide +kernel
theorem fl_Q_125 : Cond.fieldLink "RollPlayerModel" 125 "RollPlayerModel" "spare" "[I" ∈ lw_tbl := z_tb 1027 (by decide +kernel)
theorem fp_Q_128_true : [11].all (fun t => z_fb t 66 "RollPlayerModel" "fallenElement" "[I" 1 true && z_fw true "RollPlayerModel" t 66 true) = true := by decide +kernel
theorem fl_Q_128 : Cond.fieldLink "RollPlayerModel" 128 "RollPlayerModel" "fallenElement" "[I" ∈ lw_tbl := z_tb 1029 (by decide +kernel)
theorem fp_Q_131_true : [11].all (fun t => z_fb t 67 "RollPlayerModel" "fallenTrack" "[I" 1 true && z_fw true "RollPlayerModel" t 67 true) = true := by decide +kernel
theorem fl_Q_131 : Cond.fieldLink "RollPlayerModel" 131 "RollPlayerModel" "fallenTrack" "[I" ∈ lw_tbl := z_tb 1030 (by decide +kernel)
theorem fp_Q_136_true : [11].all (fun t => z_fb t 22 "RollPlayerModel" "base" "D" 2 false && z_fw true "RollPlayerModel" t 22 false) = true := by decide +kernel
theorem fl_Q_136 : Cond.fieldLink "RollPlayerModel" 136 "RollPlayerModel" "base" "D" ∈ lw_tbl := z_tb 985 (by decide +kernel)
theorem fp_Q_140_true : [11].all (fun t => z_fb t 49 "RollPlayerModel" "place" "I" 0 false && z_fw true "RollPlayerModel" t 49 false) = true := by decide +kernel
theorem fl_Q_140 : Cond.fieldLink "RollPlayerModel" 140 "RollPlayerModel" "place" "I" ∈ lw_tbl := z_tb 1012 (by decide +kernel)
theorem fp_Q_144_false : [11].all (fun t => z_fb t 0 "RollPlayerModel" "status" "I" 0 false && z_fw false "RollPlayerModel" t 0 false) = true := by decide +kernel
theorem fl_Q_144 : Cond.fieldLink "RollPlayerModel" 144 "RollPlayerModel" "status" "I" ∈ lw_tbl := z_tb 963 (by decide +kernel)
theorem fl_Q_147 : Cond.fieldLink "RollPlayerModel" 147 "RollPlayerModel" "rolls" "I" ∈ lw_tbl := z_tb 964 (by decide +kernel)
theorem fg_Q_147 : [11].all (fun t => z_fb t 1 "RollPlayerModel" "rolls" "I" 0 false) = true := by decide +kernel
set_option maxRecDepth 100000 in
theorem mt_Q_within : z_nth z_mts 8 = some (⟨"RollPlayerModel", "within", "(III)Z"⟩, prog_14_method_3_code, 3, (some (.boolean))) := rfl
theorem cw_Q_within (own : String) : z_cw own ⟨"RollPlayerModel", "within", "(III)Z"⟩ prog_14_method_3_code 3 (some (.boolean)) 3 := ⟨(z_tb 1192 (by decide +kernel)), (z_tb 3 (by decide +kernel)), ⟨by decide +kernel, by decide +kernel⟩, by decide +kernel, by decide⟩
theorem sl_Q_isRoll : Cond.selects "RollPlayerModel" ⟨"RollPlayerModel", "isRoll", "(I)Z"⟩ ⟨"RollPlayerModel", "isRoll", "(I)Z"⟩ ∈ lw_tbl := by decide +kernel
set_option maxRecDepth 100000 in
theorem mt_Q_isRoll : z_nth z_mts 12 = some (⟨"RollPlayerModel", "isRoll", "(I)Z"⟩, prog_14_method_7_code, 2, (some (.boolean))) := rfl
theorem cw_Q_isRoll (own : String) : z_cw own ⟨"RollPlayerModel", "isRoll", "(I)Z"⟩ prog_14_method_7_code 2 (some (.boolean)) 1 := ⟨(z_tb 1189 (by decide +kernel)), (z_tb 3 (by decide +kernel)), ⟨by decide +kernel, by decide +kernel⟩, by decide +kernel, by decide⟩
theorem ou_Q_154_11 : z_okU1 z_mts "RollPlayerModel" 154 1 (.invokevirtual 154) 11 12 := ⟨_, _, _, _, _, rfl, by decide, mt_Q_isRoll, cw_Q_isRoll _, Or.inl ⟨rfl, (z_tb 1186 (by decide +kernel)), (z_tb 1188 (by decide +kernel)), sl_Q_isRoll⟩, fun h => absurd h (by decide +kernel)⟩
theorem fg_Q_7 : [11].all (fun t => z_fb t 2 "RollPlayerModel" "sizeOf" "[I" 1 true) = true := by decide +kernel
theorem fg_Q_13 : [11].all (fun t => z_fb t 3 "RollPlayerModel" "order" "[I" 1 true) = true := by decide +kernel
theorem fg_Q_29 : [11].all (fun t => z_fb t 9 "RollPlayerModel" "headSize" "[I" 1 true) = true := by decide +kernel
theorem fg_Q_35 : [11].all (fun t => z_fb t 11 "RollPlayerModel" "size" "[I" 1 true) = true := by decide +kernel
theorem fg_Q_16 : [11].all (fun t => z_fb t 5 "RollPlayerModel" "kindOf" "[I" 1 true) = true := by decide +kernel
set_option maxRecDepth 100000 in
theorem mt_Q_width : z_nth z_mts 15 = some (⟨"RollPlayerModel", "width", "(I)I"⟩, prog_14_method_10_code, 1, (some (.int))) := rfl
theorem cw_Q_width (own : String) : z_cw own ⟨"RollPlayerModel", "width", "(I)I"⟩ prog_14_method_10_code 1 (some (.int)) 1 := ⟨(z_tb 1207 (by decide +kernel)), (z_tb 3 (by decide +kernel)), ⟨by decide +kernel, by decide +kernel⟩, by decide +kernel, by decide⟩
theorem fg_Q_32 : [11].all (fun t => z_fb t 10 "RollPlayerModel" "head" "[I" 1 true) = true := by decide +kernel
theorem fg_Q_39 : [11].all (fun t => z_fb t 12 "RollPlayerModel" "element" "[I" 1 true) = true := by decide +kernel
theorem sl_Q_byteAt : Cond.selects "RollPlayerModel" ⟨"RollPlayerModel", "byteAt", "(II)I"⟩ ⟨"RollPlayerModel", "byteAt", "(II)I"⟩ ∈ lw_tbl := by decide +kernel
set_option maxRecDepth 100000 in
theorem mt_Q_byteAt : z_nth z_mts 18 = some (⟨"RollPlayerModel", "byteAt", "(II)I"⟩, prog_14_method_13_code, 4, (some (.int))) := rfl
theorem cw_Q_byteAt (own : String) : z_cw own ⟨"RollPlayerModel", "byteAt", "(II)I"⟩ prog_14_method_13_code 4 (some (.int)) 2 := ⟨(z_tb 1211 (by decide +kernel)), (z_tb 3 (by decide +kernel)), ⟨by decide +kernel, by decide +kernel⟩, by decide +kernel, by decide⟩
theorem ou_Q_163_11 : z_okU1 z_mts "RollPlayerModel" 163 2 (.invokevirtual 163) 11 18 := ⟨_, _, _, _, _, rfl, by decide, mt_Q_byteAt, cw_Q_byteAt _, Or.inl ⟨rfl, (z_tb 1208 (by decide +kernel)), (z_tb 1210 (by decide +kernel)), sl_Q_byteAt⟩, fun h => absurd h (by decide +kernel)⟩
theorem fg_Q_19 : [11].all (fun t => z_fb t 6 "RollPlayerModel" "numberOf" "[I" 1 true) = true := by decide +kernel
theorem sl_Q_sumOf : Cond.selects "RollPlayerModel" ⟨"RollPlayerModel", "sumOf", "(I)I"⟩ ⟨"RollPlayerModel", "sumOf", "(I)I"⟩ ∈ lw_tbl := by decide +kernel
set_option maxRecDepth 100000 in
theorem mt_Q_sumOf : z_nth z_mts 19 = some (⟨"RollPlayerModel", "sumOf", "(I)I"⟩, prog_14_method_14_code, 5, (some (.int))) := rfl
theorem cw_Q_sumOf (own : String) : z_cw own ⟨"RollPlayerModel", "sumOf", "(I)I"⟩ prog_14_method_14_code 5 (some (.int)) 1 := ⟨(z_tb 1204 (by decide +kernel)), (z_tb 3 (by decide +kernel)), ⟨by decide +kernel, by decide +kernel⟩, by decide +kernel, by decide⟩
theorem ou_Q_167_11 : z_okU1 z_mts "RollPlayerModel" 167 1 (.invokevirtual 167) 11 19 := ⟨_, _, _, _, _, rfl, by decide, mt_Q_sumOf, cw_Q_sumOf _, Or.inl ⟨rfl, (z_tb 1201 (by decide +kernel)), (z_tb 1203 (by decide +kernel)), sl_Q_sumOf⟩, fun h => absurd h (by decide +kernel)⟩
theorem fg_Q_25 : [11].all (fun t => z_fb t 8 "RollPlayerModel" "isLost" "[Z" 1 true) = true := by decide +kernel
theorem sl_Q_headShort : Cond.selects "RollPlayerModel" ⟨"RollPlayerModel", "headShort", "(II)I"⟩ ⟨"RollPlayerModel", "headShort", "(II)I"⟩ ∈ lw_tbl := by decide +kernel
set_option maxRecDepth 100000 in
theorem mt_Q_headShort : z_nth z_mts 20 = some (⟨"RollPlayerModel", "headShort", "(II)I"⟩, prog_14_method_15_code, 3, (some (.int))) := rfl
theorem cw_Q_headShort (own : String) : z_cw own ⟨"RollPlayerModel", "headShort", "(II)I"⟩ prog_14_method_15_code 3 (some (.int)) 2 := ⟨(z_tb 1235 (by decide +kernel)), (z_tb 3 (by decide +kernel)), ⟨by decide +kernel, by decide +kernel⟩, by decide +kernel, by decide⟩
theorem ou_Q_170_11 : z_okU1 z_mts "RollPlayerModel" 170 2 (.invokevirtual 170) 11 20 := ⟨_, _, _, _, _, rfl, by decide, mt_Q_headShort, cw_Q_headShort _, Or.inl ⟨rfl, (z_tb 1232 (by decide +kernel)), (z_tb 1234 (by decide +kernel)), sl_Q_headShort⟩, fun h => absurd h (by decide +kernel)⟩
theorem sl_Q_headSum : Cond.selects "RollPlayerModel" ⟨"RollPlayerModel", "headSum", "(I)I"⟩ ⟨"RollPlayerModel", "headSum", "(I)I"⟩ ∈ lw_tbl := by decide +kernel
set_option maxRecDepth 100000 in
theorem mt_Q_headSum : z_nth z_mts 21 = some (⟨"RollPlayerModel", "headSum", "(I)I"⟩, prog_14_method_16_code, 2, (some (.int))) := rfl
theorem cw_Q_headSum (own : String) : z_cw own ⟨"RollPlayerModel", "headSum", "(I)I"⟩ prog_14_method_16_code 2 (some (.int)) 1 := ⟨(z_tb 1239 (by decide +kernel)), (z_tb 3 (by decide +kernel)), ⟨by decide +kernel, by decide +kernel⟩, by decide +kernel, by decide⟩
theorem ou_Q_173_11 : z_okU1 z_mts "RollPlayerModel" 173 1 (.invokevirtual 173) 11 21 := ⟨_, _, _, _, _, rfl, by decide, mt_Q_headSum, cw_Q_headSum _, Or.inl ⟨rfl, (z_tb 1236 (by decide +kernel)), (z_tb 1238 (by decide +kernel)), sl_Q_headSum⟩, fun h => absurd h (by decide +kernel)⟩
theorem fl_Q_176 : Cond.fieldLink "RollPlayerModel" 176 "RollPlayerModel" "isPlayed" "Z" ∈ lw_tbl := z_tb 999 (by decide +kernel)
theorem fg_Q_176 : [11].all (fun t => z_fb t 36 "RollPlayerModel" "isPlayed" "Z" 0 false) = true := by decide +kernel
theorem sl_Q_no : Cond.selects "RollPlayerModel" ⟨"RollPlayerModel", "no", "(I)I"⟩ ⟨"RollPlayerModel", "no", "(I)I"⟩ ∈ lw_tbl := by decide +kernel
set_option maxRecDepth 100000 in
theorem mt_Q_no : z_nth z_mts 9 = some (⟨"RollPlayerModel", "no", "(I)I"⟩, prog_14_method_4_code, 2, (some (.int))) := rfl
theorem cw_Q_no (own : String) : z_cw own ⟨"RollPlayerModel", "no", "(I)I"⟩ prog_14_method_4_code 2 (some (.int)) 1 := ⟨(z_tb 1177 (by decide +kernel)), (z_tb 3 (by decide +kernel)), ⟨by decide +kernel, by decide +kernel⟩, by decide +kernel, by decide⟩
theorem ou_Q_180_11 : z_okU1 z_mts "RollPlayerModel" 180 1 (.invokevirtual 180) 11 9 := ⟨_, _, _, _, _, rfl, by decide, mt_Q_no, cw_Q_no _, Or.inl ⟨rfl, (z_tb 1174 (by decide +kernel)), (z_tb 1176 (by decide +kernel)), sl_Q_no⟩, fun h => absurd h (by decide +kernel)⟩
theorem fp_Q_147_false : [11].all (fun t => z_fb t 1 "RollPlayerModel" "rolls" "I" 0 false && z_fw false "RollPlayerModel" t 1 false) = true := by decide +kernel
theorem sl_Q_well : Cond.selects "RollPlayerModel" ⟨"RollPlayerModel", "well", "(I)I"⟩ ⟨"RollPlayerModel", "well", "(I)I"⟩ ∈ lw_tbl := by decide +kernel
set_option maxRecDepth 100000 in
theorem mt_Q_well : z_nth z_mts 11 = some (⟨"RollPlayerModel", "well", "(I)I"⟩, prog_14_method_6_code, 2, (some (.int))) := rfl
theorem cw_Q_well (own : String) : z_cw own ⟨"RollPlayerModel", "well", "(I)I"⟩ prog_14_method_6_code 2 (some (.int)) 1 := ⟨(z_tb 1181 (by decide +kernel)), (z_tb 3 (by decide +kernel)), ⟨by decide +kernel, by decide +kernel⟩, by decide +kernel, by decide⟩
theorem ou_Q_183_11 : z_okU1 z_mts "RollPlayerModel" 183 1 (.invokevirtual 183) 11 11 := ⟨_, _, _, _, _, rfl, by decide, mt_Q_well, cw_Q_well _, Or.inl ⟨rfl, (z_tb 1178 (by decide +kernel)), (z_tb 1180 (by decide +kernel)), sl_Q_well⟩, fun h => absurd h (by decide +kernel)⟩
theorem fl_Q_186 : Cond.fieldLink "RollPlayerModel" 186 "RollPlayerModel" "strips" "I" ∈ lw_tbl := z_tb 967 (by decide +kernel)
theorem fg_Q_186 : [11].all (fun t => z_fb t 4 "RollPlayerModel" "strips" "I" 0 false) = true := by decide +kernel
theorem fl_Q_189 : Cond.fieldLink "RollPlayerModel" 189 "RollPlayerModel" "elements" "I" ∈ lw_tbl := z_tb 976 (by decide +kernel)
theorem fg_Q_189 : [11].all (fun t => z_fb t 13 "RollPlayerModel" "elements" "I" 0 false) = true := by decide +kernel
theorem sl_Q_finds : Cond.selects "RollPlayerModel" ⟨"RollPlayerModel", "finds", "(I)I"⟩ ⟨"RollPlayerModel", "finds", "(I)I"⟩ ∈ lw_tbl := by decide +kernel
set_option maxRecDepth 100000 in
theorem mt_Q_finds : z_nth z_mts 10 = some (⟨"RollPlayerModel", "finds", "(I)I"⟩, prog_14_method_5_code, 2, (some (.int))) := rfl
theorem cw_Q_finds (own : String) : z_cw own ⟨"RollPlayerModel", "finds", "(I)I"⟩ prog_14_method_5_code 2 (some (.int)) 1 := ⟨(z_tb 1196 (by decide +kernel)), (z_tb 3 (by decide +kernel)), ⟨by decide +kernel, by decide +kernel⟩, by decide +kernel, by decide⟩
theorem ou_Q_192_11 : z_okU1 z_mts "RollPlayerModel" 192 1 (.invokevirtual 192) 11 10 := ⟨_, _, _, _, _, rfl, by decide, mt_Q_finds, cw_Q_finds _, Or.inl ⟨rfl, (z_tb 1193 (by decide +kernel)), (z_tb 1195 (by decide +kernel)), sl_Q_finds⟩, fun h => absurd h (by decide +kernel)⟩
theorem fg_Q_22 : [11].all (fun t => z_fb t 7 "RollPlayerModel" "ticksOf" "[I" 1 true) = true := by decide +kernel
theorem fp_Q_189_false : [11].all (fun t => z_fb t 13 "RollPlayerModel" "elements" "I" 0 false && z_fw false "RollPlayerModel" t 13 false) = true := by decide +kernel
theorem sl_Q_sealIt : Cond.selects "RollPlayerModel" ⟨"RollPlayerModel", "sealIt", "(I)V"⟩ ⟨"RollPlayerModel", "sealIt", "(I)V"⟩ ∈ lw_tbl := by decide +kernel
set_option maxRecDepth 100000 in
theorem mt_Q_sealIt : z_nth z_mts 22 = some (⟨"RollPlayerModel", "sealIt", "(I)V"⟩, prog_14_method_17_code, 4, (none)) := rfl
theorem cw_Q_sealIt (own : String) : z_cw own ⟨"RollPlayerModel", "sealIt", "(I)V"⟩ prog_14_method_17_code 4 (none) 1 := ⟨(z_tb 1200 (by decide +kernel)), (z_tb 3 (by decide +kernel)), ⟨by decide +kernel, by decide +kernel⟩, by decide +kernel, by decide⟩
theorem ou_Q_195_11 : z_okU1 z_mts "RollPlayerModel" 195 1 (.invokevirtual 195) 11 22 := ⟨_, _, _, _, _, rfl, by decide, mt_Q_sealIt, cw_Q_sealIt _, Or.inl ⟨rfl, (z_tb 1197 (by decide +kernel)), (z_tb 1199 (by decide +kernel)), sl_Q_sealIt⟩, fun h => absurd h (by decide +kernel)⟩
theorem fp_Q_186_false : [11].all (fun t => z_fb t 4 "RollPlayerModel" "strips" "I" 0 false && z_fw false "RollPlayerModel" t 4 false) = true := by decide +kernel
theorem sl_Q_isStrip : Cond.selects "RollPlayerModel" ⟨"RollPlayerModel", "isStrip", "(II)Z"⟩ ⟨"RollPlayerModel", "isStrip", "(II)Z"⟩ ∈ lw_tbl := by decide +kernel
set_option maxRecDepth 100000 in
theorem mt_Q_isStrip : z_nth z_mts 13 = some (⟨"RollPlayerModel", "isStrip", "(II)Z"⟩, prog_14_method_8_code, 3, (some (.boolean))) := rfl
theorem cw_Q_isStrip (own : String) : z_cw own ⟨"RollPlayerModel", "isStrip", "(II)Z"⟩ prog_14_method_8_code 3 (some (.boolean)) 2 := ⟨(z_tb 1223 (by decide +kernel)), (z_tb 3 (by decide +kernel)), ⟨by decide +kernel, by decide +kernel⟩, by decide +kernel, by decide⟩
theorem ou_Q_199_11 : z_okU1 z_mts "RollPlayerModel" 199 2 (.invokevirtual 199) 11 13 := ⟨_, _, _, _, _, rfl, by decide, mt_Q_isStrip, cw_Q_isStrip _, Or.inl ⟨rfl, (z_tb 1220 (by decide +kernel)), (z_tb 1222 (by decide +kernel)), sl_Q_isStrip⟩, fun h => absurd h (by decide +kernel)⟩
theorem sl_Q_poolOf : Cond.selects "RollPlayerModel" ⟨"RollPlayerModel", "poolOf", "(II)I"⟩ ⟨"RollPlayerModel", "poolOf", "(II)I"⟩ ∈ lw_tbl := by decide +kernel
set_option maxRecDepth 100000 in
theorem mt_Q_poolOf : z_nth z_mts 14 = some (⟨"RollPlayerModel", "poolOf", "(II)I"⟩, prog_14_method_9_code, 3, (some (.int))) := rfl
theorem cw_Q_poolOf (own : String) : z_cw own ⟨"RollPlayerModel", "poolOf", "(II)I"⟩ prog_14_method_9_code 3 (some (.int)) 2 := ⟨(z_tb 1227 (by decide +kernel)), (z_tb 3 (by decide +kernel)), ⟨by decide +kernel, by decide +kernel⟩, by decide +kernel, by decide⟩
theorem ou_Q_203_11 : z_okU1 z_mts "RollPlayerModel" 203 2 (.invokevirtual 203) 11 14 := ⟨_, _, _, _, _, rfl, by decide, mt_Q_poolOf, cw_Q_poolOf _, Or.inl ⟨rfl, (z_tb 1224 (by decide +kernel)), (z_tb 1226 (by decide +kernel)), sl_Q_poolOf⟩, fun h => absurd h (by decide +kernel)⟩
theorem sl_Q_bars : Cond.selects "RollPlayerModel" ⟨"RollPlayerModel", "bars", "(II)I"⟩ ⟨"RollPlayerModel", "bars", "(II)I"⟩ ∈ lw_tbl := by decide +kernel
set_option maxRecDepth 100000 in
theorem mt_Q_bars : z_nth z_mts 26 = some (⟨"RollPlayerModel", "bars", "(II)I"⟩, prog_14_method_21_code, 3, (some (.int))) := rfl
theorem cw_Q_bars (own : String) : z_cw own ⟨"RollPlayerModel", "bars", "(II)I"⟩ prog_14_method_21_code 3 (some (.int)) 2 := ⟨(z_tb 1219 (by decide +kernel)), (z_tb 3 (by decide +kernel)), ⟨by decide +kernel, by decide +kernel⟩, by decide +kernel, by decide⟩
theorem ou_Q_206_11 : z_okU1 z_mts "RollPlayerModel" 206 2 (.invokevirtual 206) 11 26 := ⟨_, _, _, _, _, rfl, by decide, mt_Q_bars, cw_Q_bars _, Or.inl ⟨rfl, (z_tb 1216 (by decide +kernel)), (z_tb 1218 (by decide +kernel)), sl_Q_bars⟩, fun h => absurd h (by decide +kernel)⟩
theorem sl_Q_findingOf : Cond.selects "RollPlayerModel" ⟨"RollPlayerModel", "findingOf", "(I)I"⟩ ⟨"RollPlayerModel", "findingOf", "(I)I"⟩ ∈ lw_tbl := by decide +kernel
set_option maxRecDepth 100000 in
theorem mt_Q_findingOf : z_nth z_mts 23 = some (⟨"RollPlayerModel", "findingOf", "(I)I"⟩, prog_14_method_18_code, 3, (some (.int))) := rfl
theorem cw_Q_findingOf (own : String) : z_cw own ⟨"RollPlayerModel", "findingOf", "(I)I"⟩ prog_14_method_18_code 3 (some (.int)) 1 := ⟨(z_tb 1231 (by decide +kernel)), (z_tb 3 (by decide +kernel)), ⟨by decide +kernel, by decide +kernel⟩, by decide +kernel, by decide⟩
theorem ou_Q_209_11 : z_okU1 z_mts "RollPlayerModel" 209 1 (.invokevirtual 209) 11 23 := ⟨_, _, _, _, _, rfl, by decide, mt_Q_findingOf, cw_Q_findingOf _, Or.inl ⟨rfl, (z_tb 1228 (by decide +kernel)), (z_tb 1230 (by decide +kernel)), sl_Q_findingOf⟩, fun h => absurd h (by decide +kernel)⟩
set_option maxRecDepth 100000 in
theorem mt_Q_low : z_nth z_mts 16 = some (⟨"RollPlayerModel", "low", "(II)I"⟩, prog_14_method_11_code, 2, (some (.int))) := rfl
theorem cw_Q_low (own : String) : z_cw own ⟨"RollPlayerModel", "low", "(II)I"⟩ prog_14_method_11_code 2 (some (.int)) 2 := ⟨(z_tb 1242 (by decide +kernel)), (z_tb 3 (by decide +kernel)), ⟨by decide +kernel, by decide +kernel⟩, by decide +kernel, by decide⟩
theorem sl_Q_empty : Cond.selects "RollPlayerModel" ⟨"RollPlayerModel", "empty", "(I)V"⟩ ⟨"RollPlayerModel", "empty", "(I)V"⟩ ∈ lw_tbl := by decide +kernel
set_option maxRecDepth 100000 in
theorem mt_Q_empty : z_nth z_mts 29 = some (⟨"RollPlayerModel", "empty", "(I)V"⟩, prog_14_method_24_code, 2, (none)) := rfl
theorem cw_Q_empty (own : String) : z_cw own ⟨"RollPlayerModel", "empty", "(I)V"⟩ prog_14_method_24_code 2 (none) 1 := ⟨(z_tb 1255 (by decide +kernel)), (z_tb 3 (by decide +kernel)), ⟨by decide +kernel, by decide +kernel⟩, by decide +kernel, by decide⟩
theorem ou_Q_215_11 : z_okU1 z_mts "RollPlayerModel" 215 1 (.invokevirtual 215) 11 29 := ⟨_, _, _, _, _, rfl, by decide, mt_Q_empty, cw_Q_empty _, Or.inl ⟨rfl, (z_tb 1252 (by decide +kernel)), (z_tb 1254 (by decide +kernel)), sl_Q_empty⟩, fun h => absurd h (by decide +kernel)⟩
theorem sl_Q_bytesOf : Cond.selects "RollPlayerModel" ⟨"RollPlayerModel", "bytesOf", "(I)I"⟩ ⟨"RollPlayerModel", "bytesOf", "(I)I"⟩ ∈ lw_tbl := by decide +kernel
set_option maxRecDepth 100000 in
theorem mt_Q_bytesOf : z_nth z_mts 17 = some (⟨"RollPlayerModel", "bytesOf", "(I)I"⟩, prog_14_method_12_code, 2, (some (.int))) := rfl
theorem cw_Q_bytesOf (own : String) : z_cw own ⟨"RollPlayerModel", "bytesOf", "(I)I"⟩ prog_14_method_12_code 2 (some (.int)) 1 := ⟨(z_tb 1267 (by decide +kernel)), (z_tb 3 (by decide +kernel)), ⟨by decide +kernel, by decide +kernel⟩, by decide +kernel, by decide⟩
theorem ou_Q_218_11 : z_okU1 z_mts "RollPlayerModel" 218 1 (.invokevirtual 218) 11 17 := ⟨_, _, _, _, _, rfl, by decide, mt_Q_bytesOf, cw_Q_bytesOf _, Or.inl ⟨rfl, (z_tb 1264 (by decide +kernel)), (z_tb 1266 (by decide +kernel)), sl_Q_bytesOf⟩, fun h => absurd h (by decide +kernel)⟩
theorem sl_Q_asks : Cond.selects "RollPlayerModel" ⟨"RollPlayerModel", "asks", "(II)I"⟩ ⟨"RollPlayerModel", "asks", "(II)I"⟩ ∈ lw_tbl := by decide +kernel
set_option maxRecDepth 100000 in
theorem mt_Q_asks : z_nth z_mts 33 = some (⟨"RollPlayerModel", "asks", "(II)I"⟩, prog_14_method_28_code, 3, (some (.int))) := rfl
theorem cw_Q_asks (own : String) : z_cw own ⟨"RollPlayerModel", "asks", "(II)I"⟩ prog_14_method_28_code 3 (some (.int)) 2 := ⟨(z_tb 1275 (by decide +kernel)), (z_tb 3 (by decide +kernel)), ⟨by decide +kernel, by decide +kernel⟩, by decide +kernel, by decide⟩
theorem ou_Q_221_11 : z_okU1 z_mts "RollPlayerModel" 221 2 (.invokevirtual 221) 11 33 := ⟨_, _, _, _, _, rfl, by decide, mt_Q_asks, cw_Q_asks _, Or.inl ⟨rfl, (z_tb 1272 (by decide +kernel)), (z_tb 1274 (by decide +kernel)), sl_Q_asks⟩, fun h => absurd h (by decide +kernel)⟩
theorem fl_Q_224 : Cond.fieldLink "RollPlayerModel" 224 "RollPlayerModel" "instruments" "I" ∈ lw_tbl := z_tb 977 (by decide +kernel)
theorem fg_Q_224 : [11].all (fun t => z_fb t 14 "RollPlayerModel" "instruments" "I" 0 false) = true := by decide +kernel
theorem fg_Q_42 : [11].all (fun t => z_fb t 15 "RollPlayerModel" "sort" "[I" 1 true) = true := by decide +kernel
theorem fg_Q_60 : [11].all (fun t => z_fb t 21 "RollPlayerModel" "ratio" "[D" 1 true) = true := by decide +kernel
theorem fg_Q_51 : [11].all (fun t => z_fb t 18 "RollPlayerModel" "together" "[I" 1 true) = true := by decide +kernel
theorem fp_Q_224_false : [11].all (fun t => z_fb t 14 "RollPlayerModel" "instruments" "I" 0 false && z_fw false "RollPlayerModel" t 14 false) = true := by decide +kernel
theorem fg_Q_91 : [11].all (fun t => z_fb t 34 "RollPlayerModel" "has" "[Z" 1 true) = true := by decide +kernel
theorem fg_Q_45 : [11].all (fun t => z_fb t 16 "RollPlayerModel" "memberMany" "[I" 1 true) = true := by decide +kernel
theorem fg_Q_48 : [11].all (fun t => z_fb t 17 "RollPlayerModel" "member" "[I" 1 true) = true := by decide +kernel
theorem sl_Q_isInstrument : Cond.selects "RollPlayerModel" ⟨"RollPlayerModel", "isInstrument", "(I)Z"⟩ ⟨"RollPlayerModel", "isInstrument", "(I)Z"⟩ ∈ lw_tbl := by decide +kernel
set_option maxRecDepth 100000 in
theorem mt_Q_isInstrument : z_nth z_mts 41 = some (⟨"RollPlayerModel", "isInstrument", "(I)Z"⟩, prog_14_method_36_code, 2, (some (.boolean))) := rfl
theorem cw_Q_isInstrument (own : String) : z_cw own ⟨"RollPlayerModel", "isInstrument", "(I)Z"⟩ prog_14_method_36_code 2 (some (.boolean)) 1 := ⟨(z_tb 1311 (by decide +kernel)), (z_tb 3 (by decide +kernel)), ⟨by decide +kernel, by decide +kernel⟩, by decide +kernel, by decide⟩
theorem ou_Q_227_11 : z_okU1 z_mts "RollPlayerModel" 227 1 (.invokevirtual 227) 11 41 := ⟨_, _, _, _, _, rfl, by decide, mt_Q_isInstrument, cw_Q_isInstrument _, Or.inl ⟨rfl, (z_tb 1308 (by decide +kernel)), (z_tb 1310 (by decide +kernel)), sl_Q_isInstrument⟩, fun h => absurd h (by decide +kernel)⟩
theorem sl_Q_reaches : Cond.selects "RollPlayerModel" ⟨"RollPlayerModel", "reaches", "(II)Z"⟩ ⟨"RollPlayerModel", "reaches", "(II)Z"⟩ ∈ lw_tbl := by decide +kernel
set_option maxRecDepth 100000 in
theorem mt_Q_reaches : z_nth z_mts 43 = some (⟨"RollPlayerModel", "reaches", "(II)Z"⟩, prog_14_method_38_code, 6, (some (.boolean))) := rfl
theorem cw_Q_reaches (own : String) : z_cw own ⟨"RollPlayerModel", "reaches", "(II)Z"⟩ prog_14_method_38_code 6 (some (.boolean)) 2 := ⟨(z_tb 1315 (by decide +kernel)), (z_tb 3 (by decide +kernel)), ⟨by decide +kernel, by decide +kernel⟩, by decide +kernel, by decide⟩
theorem ou_Q_230_11 : z_okU1 z_mts "RollPlayerModel" 230 2 (.invokevirtual 230) 11 43 := ⟨_, _, _, _, _, rfl, by decide, mt_Q_reaches, cw_Q_reaches _, Or.inl ⟨rfl, (z_tb 1312 (by decide +kernel)), (z_tb 1314 (by decide +kernel)), sl_Q_reaches⟩, fun h => absurd h (by decide +kernel)⟩
theorem sl_Q_reckon : Cond.selects "RollPlayerModel" ⟨"RollPlayerModel", "reckon", "()Z"⟩ ⟨"RollPlayerModel", "reckon", "()Z"⟩ ∈ lw_tbl := by decide +kernel
set_option maxRecDepth 100000 in
theorem mt_Q_reckon : z_nth z_mts 44 = some (⟨"RollPlayerModel", "reckon", "()Z"⟩, prog_14_method_39_code, 6, (some (.boolean))) := rfl
theorem cw_Q_reckon (own : String) : z_cw own ⟨"RollPlayerModel", "reckon", "()Z"⟩ prog_14_method_39_code 6 (some (.boolean)) 0 := ⟨(z_tb 1319 (by decide +kernel)), (z_tb 3 (by decide +kernel)), ⟨by decide +kernel, by decide +kernel⟩, by decide +kernel, by decide⟩
theorem ou_Q_233_11 : z_okU1 z_mts "RollPlayerModel" 233 0 (.invokevirtual 233) 11 44 := ⟨_, _, _, _, _, rfl, by decide, mt_Q_reckon, cw_Q_reckon _, Or.inl ⟨rfl, (z_tb 1316 (by decide +kernel)), (z_tb 1318 (by decide +kernel)), sl_Q_reckon⟩, fun h => absurd h (by decide +kernel)⟩
theorem fl_Q_237 : Cond.fieldLink "RollPlayerModel" 237 "RollPlayerModel" "chests" "I" ∈ lw_tbl := z_tb 986 (by decide +kernel)
theorem fg_Q_237 : [11].all (fun t => z_fb t 23 "RollPlayerModel" "chests" "I" 0 false) = true := by decide +kernel
theorem fl_Q_240 : Cond.fieldLink "RollPlayerModel" 240 "RollPlayerModel" "placeMany" "I" ∈ lw_tbl := z_tb 990 (by decide +kernel)
theorem fg_Q_240 : [11].all (fun t => z_fb t 27 "RollPlayerModel" "placeMany" "I" 0 false) = true := by decide +kernel
theorem fg_Q_64 : [11].all (fun t => z_fb t 24 "RollPlayerModel" "chestKind" "[I" 1 true) = true := by decide +kernel
theorem fg_Q_67 : [11].all (fun t => z_fb t 25 "RollPlayerModel" "chestSize" "[I" 1 true) = true := by decide +kernel
theorem fg_Q_70 : [11].all (fun t => z_fb t 26 "RollPlayerModel" "chestFrom" "[I" 1 true) = true := by decide +kernel
theorem fg_Q_73 : [11].all (fun t => z_fb t 28 "RollPlayerModel" "holds" "[I" 1 true) = true := by decide +kernel
theorem fp_Q_240_false : [11].all (fun t => z_fb t 27 "RollPlayerModel" "placeMany" "I" 0 false && z_fw false "RollPlayerModel" t 27 false) = true := by decide +kernel
theorem fp_Q_237_false : [11].all (fun t => z_fb t 23 "RollPlayerModel" "chests" "I" 0 false && z_fw false "RollPlayerModel" t 23 false) = true := by decide +kernel
set_option maxRecDepth 100000 in
theorem mt_Q_takes : z_nth z_mts 47 = some (⟨"RollPlayerModel", "takes", "(II)Z"⟩, prog_14_method_42_code, 2, (some (.boolean))) := rfl
theorem cw_Q_takes (own : String) : z_cw own ⟨"RollPlayerModel", "takes", "(II)Z"⟩ prog_14_method_42_code 2 (some (.boolean)) 2 := ⟨(z_tb 1330 (by decide +kernel)), (z_tb 3 (by decide +kernel)), ⟨by decide +kernel, by decide +kernel⟩, by decide +kernel, by decide⟩
theorem fg_Q_76 : [11].all (fun t => z_fb t 29 "RollPlayerModel" "wireTo" "[I" 1 true) = true := by decide +kernel
theorem fg_Q_79 : [11].all (fun t => z_fb t 30 "RollPlayerModel" "wirePlace" "[I" 1 true) = true := by decide +kernel
theorem fg_Q_54 : [11].all (fun t => z_fb t 19 "RollPlayerModel" "spoiling" "[I" 1 true) = true := by decide +kernel
theorem fg_Q_57 : [11].all (fun t => z_fb t 20 "RollPlayerModel" "hasNoRatio" "[Z" 1 true) = true := by decide +kernel
theorem fp_Q_136_false : [11].all (fun t => z_fb t 22 "RollPlayerModel" "base" "D" 2 false && z_fw false "RollPlayerModel" t 22 false) = true := by decide +kernel
set_option maxRecDepth 100000 in
theorem mt_Q_floor : z_nth z_mts 53 = some (⟨"RollPlayerModel", "floor", "(D)D"⟩, prog_14_method_48_code, 2, (some (.double))) := rfl
theorem cw_Q_floor (own : String) : z_cw own ⟨"RollPlayerModel", "floor", "(D)D"⟩ prog_14_method_48_code 2 (some (.double)) 1 := ⟨(z_tb 1368 (by decide +kernel)), (z_tb 3 (by decide +kernel)), ⟨by decide +kernel, by decide +kernel⟩, by decide +kernel, by decide⟩
theorem fg_Q_136 : [11].all (fun t => z_fb t 22 "RollPlayerModel" "base" "D" 2 false) = true := by decide +kernel
theorem fg_Q_82 : [11].all (fun t => z_fb t 31 "RollPlayerModel" "trace" "[I" 1 true) = true := by decide +kernel
set_option maxRecDepth 100000 in
theorem mt_Q_nearest : z_nth z_mts 54 = some (⟨"RollPlayerModel", "nearest", "(D)D"⟩, prog_14_method_49_code, 7, (some (.double))) := rfl
theorem cw_Q_nearest (own : String) : z_cw own ⟨"RollPlayerModel", "nearest", "(D)D"⟩ prog_14_method_49_code 7 (some (.double)) 1 := ⟨(z_tb 1372 (by decide +kernel)), (z_tb 3 (by decide +kernel)), ⟨by decide +kernel, by decide +kernel⟩, by decide +kernel, by decide⟩
theorem fp_Q_267_false : [11].all (fun t => z_fb t 35 "RollPlayerModel" "isNone" "Z" 0 false && z_fw false "RollPlayerModel" t 35 false) = true := by decide +kernel
theorem fl_Q_267 : Cond.fieldLink "RollPlayerModel" 267 "RollPlayerModel" "isNone" "Z" ∈ lw_tbl := z_tb 998 (by decide +kernel)
theorem fg_Q_85 : [11].all (fun t => z_fb t 32 "RollPlayerModel" "way" "[I" 1 true) = true := by decide +kernel
theorem sl_Q_plainOf : Cond.selects "RollPlayerModel" ⟨"RollPlayerModel", "plainOf", "(I)D"⟩ ⟨"RollPlayerModel", "plainOf", "(I)D"⟩ ∈ lw_tbl := by decide +kernel
set_option maxRecDepth 100000 in
theorem mt_Q_plainOf : z_nth z_mts 55 = some (⟨"RollPlayerModel", "plainOf", "(I)D"⟩, prog_14_method_50_code, 4, (some (.double))) := rfl
theorem cw_Q_plainOf (own : String) : z_cw own ⟨"RollPlayerModel", "plainOf", "(I)D"⟩ prog_14_method_50_code 4 (some (.double)) 1 := ⟨(z_tb 1363 (by decide +kernel)), (z_tb 3 (by decide +kernel)), ⟨by decide +kernel, by decide +kernel⟩, by decide +kernel, by decide⟩
theorem ou_Q_270_11 : z_okU1 z_mts "RollPlayerModel" 270 1 (.invokevirtual 270) 11 55 := ⟨_, _, _, _, _, rfl, by decide, mt_Q_plainOf, cw_Q_plainOf _, Or.inl ⟨rfl, (z_tb 1360 (by decide +kernel)), (z_tb 1362 (by decide +kernel)), sl_Q_plainOf⟩, fun h => absurd h (by decide +kernel)⟩
theorem fg_Q_267 : [11].all (fun t => z_fb t 35 "RollPlayerModel" "isNone" "Z" 0 false) = true := by decide +kernel
theorem sl_Q_tones : Cond.selects "RollPlayerModel" ⟨"RollPlayerModel", "tones", "(I)I"⟩ ⟨"RollPlayerModel", "tones", "(I)I"⟩ ∈ lw_tbl := by decide +kernel
set_option maxRecDepth 100000 in
theorem mt_Q_tones : z_nth z_mts 57 = some (⟨"RollPlayerModel", "tones", "(I)I"⟩, prog_14_method_52_code, 2, (some (.int))) := rfl
theorem cw_Q_tones (own : String) : z_cw own ⟨"RollPlayerModel", "tones", "(I)I"⟩ prog_14_method_52_code 2 (some (.int)) 1 := ⟨(z_tb 1355 (by decide +kernel)), (z_tb 3 (by decide +kernel)), ⟨by decide +kernel, by decide +kernel⟩, by decide +kernel, by decide⟩
theorem ou_Q_274_11 : z_okU1 z_mts "RollPlayerModel" 274 1 (.invokevirtual 274) 11 57 := ⟨_, _, _, _, _, rfl, by decide, mt_Q_tones, cw_Q_tones _, Or.inl ⟨rfl, (z_tb 1352 (by decide +kernel)), (z_tb 1354 (by decide +kernel)), sl_Q_tones⟩, fun h => absurd h (by decide +kernel)⟩
theorem sl_Q_frequencyOf : Cond.selects "RollPlayerModel" ⟨"RollPlayerModel", "frequencyOf", "(I)D"⟩ ⟨"RollPlayerModel", "frequencyOf", "(I)D"⟩ ∈ lw_tbl := by decide +kernel
set_option maxRecDepth 100000 in
theorem mt_Q_frequencyOf : z_nth z_mts 56 = some (⟨"RollPlayerModel", "frequencyOf", "(I)D"⟩, prog_14_method_51_code, 8, (some (.double))) := rfl
theorem cw_Q_frequencyOf (own : String) : z_cw own ⟨"RollPlayerModel", "frequencyOf", "(I)D"⟩ prog_14_method_51_code 8 (some (.double)) 1 := ⟨(z_tb 1359 (by decide +kernel)), (z_tb 3 (by decide +kernel)), ⟨by decide +kernel, by decide +kernel⟩, by decide +kernel, by decide⟩
theorem ou_Q_277_11 : z_okU1 z_mts "RollPlayerModel" 277 1 (.invokevirtual 277) 11 56 := ⟨_, _, _, _, _, rfl, by decide, mt_Q_frequencyOf, cw_Q_frequencyOf _, Or.inl ⟨rfl, (z_tb 1356 (by decide +kernel)), (z_tb 1358 (by decide +kernel)), sl_Q_frequencyOf⟩, fun h => absurd h (by decide +kernel)⟩
set_option maxRecDepth 100000 in
theorem mt_Jd_doubleToLongBits : z_nth z_mts 5 = some (⟨"java/lang/Double", "doubleToLongBits", "(D)J"⟩, prog_15_method_23_code, 2, (some (.long))) := rfl
theorem cw_Jd_doubleToLongBits (own : String) : z_cw own ⟨"java/lang/Double", "doubleToLongBits", "(D)J"⟩ prog_15_method_23_code 2 (some (.long)) 1 := ⟨(z_tb 1379 (by decide +kernel)), (z_tb 15 (by decide +kernel)), ⟨by decide +kernel, by decide +kernel⟩, by decide +kernel, by decide⟩
theorem fl_Q_288 : Cond.fieldLink "RollPlayerModel" 288 "RollPlayerModel" "events" "I" ∈ lw_tbl := z_tb 1021 (by decide +kernel)
theorem fg_Q_288 : [11].all (fun t => z_fb t 58 "RollPlayerModel" "events" "I" 0 false) = true := by decide +kernel
theorem fg_Q_118 : [11].all (fun t => z_fb t 59 "RollPlayerModel" "event" "[I" 1 true) = true := by decide +kernel
theorem fl_Q_291 : Cond.fieldLink "RollPlayerModel" 291 "RollPlayerModel" "ticks" "I" ∈ lw_tbl := z_tb 1011 (by decide +kernel)
theorem fg_Q_291 : [11].all (fun t => z_fb t 48 "RollPlayerModel" "ticks" "I" 0 false) = true := by decide +kernel
theorem fp_Q_288_false : [11].all (fun t => z_fb t 58 "RollPlayerModel" "events" "I" 0 false && z_fw false "RollPlayerModel" t 58 false) = true := by decide +kernel
theorem fg_Q_115 : [11].all (fun t => z_fb t 57 "RollPlayerModel" "ended" "[I" 1 true) = true := by decide +kernel
theorem fg_Q_103 : [11].all (fun t => z_fb t 53 "RollPlayerModel" "soundOf" "[I" 1 true) = true := by decide +kernel
theorem fg_Q_106 : [11].all (fun t => z_fb t 54 "RollPlayerModel" "trackOf" "[I" 1 true) = true := by decide +kernel
theorem sl_Q_tell : Cond.selects "RollPlayerModel" ⟨"RollPlayerModel", "tell", "(III)V"⟩ ⟨"RollPlayerModel", "tell", "(III)V"⟩ ∈ lw_tbl := by decide +kernel
set_option maxRecDepth 100000 in
theorem mt_Q_tell : z_nth z_mts 61 = some (⟨"RollPlayerModel", "tell", "(III)V"⟩, prog_14_method_56_code, 4, (none)) := rfl
theorem cw_Q_tell (own : String) : z_cw own ⟨"RollPlayerModel", "tell", "(III)V"⟩ prog_14_method_56_code 4 (none) 3 := ⟨(z_tb 1422 (by decide +kernel)), (z_tb 3 (by decide +kernel)), ⟨by decide +kernel, by decide +kernel⟩, by decide +kernel, by decide⟩
theorem ou_Q_294_11 : z_okU1 z_mts "RollPlayerModel" 294 3 (.invokevirtual 294) 11 61 := ⟨_, _, _, _, _, rfl, by decide, mt_Q_tell, cw_Q_tell _, Or.inl ⟨rfl, (z_tb 1419 (by decide +kernel)), (z_tb 1421 (by decide +kernel)), sl_Q_tell⟩, fun h => absurd h (by decide +kernel)⟩
theorem fl_Q_298 : Cond.fieldLink "RollPlayerModel" 298 "RollPlayerModel" "sounds" "I" ∈ lw_tbl := z_tb 1015 (by decide +kernel)
theorem fg_Q_298 : [11].all (fun t => z_fb t 52 "RollPlayerModel" "sounds" "I" 0 false) = true := by decide +kernel
theorem fp_Q_298_false : [11].all (fun t => z_fb t 52 "RollPlayerModel" "sounds" "I" 0 false && z_fw false "RollPlayerModel" t 52 false) = true := by decide +kernel
theorem fg_Q_109 : [11].all (fun t => z_fb t 55 "RollPlayerModel" "sinceOf" "[I" 1 true) = true := by decide +kernel
theorem sl_Q_end : Cond.selects "RollPlayerModel" ⟨"RollPlayerModel", "end", "(I)V"⟩ ⟨"RollPlayerModel", "end", "(I)V"⟩ ∈ lw_tbl := by decide +kernel
set_option maxRecDepth 100000 in
theorem mt_Q_end : z_nth z_mts 62 = some (⟨"RollPlayerModel", "end", "(I)V"⟩, prog_14_method_57_code, 3, (none)) := rfl
theorem cw_Q_end (own : String) : z_cw own ⟨"RollPlayerModel", "end", "(I)V"⟩ prog_14_method_57_code 3 (none) 1 := ⟨(z_tb 1418 (by decide +kernel)), (z_tb 3 (by decide +kernel)), ⟨by decide +kernel, by decide +kernel⟩, by decide +kernel, by decide⟩
theorem ou_Q_301_11 : z_okU1 z_mts "RollPlayerModel" 301 1 (.invokevirtual 301) 11 62 := ⟨_, _, _, _, _, rfl, by decide, mt_Q_end, cw_Q_end _, Or.inl ⟨rfl, (z_tb 1415 (by decide +kernel)), (z_tb 1417 (by decide +kernel)), sl_Q_end⟩, fun h => absurd h (by decide +kernel)⟩
theorem fg_Q_94 : [11].all (fun t => z_fb t 38 "RollPlayerModel" "isOpen" "[Z" 1 true) = true := by decide +kernel
theorem fg_Q_112 : [11].all (fun t => z_fb t 56 "RollPlayerModel" "opened" "[I" 1 true) = true := by decide +kernel
theorem sl_Q_begins : Cond.selects "RollPlayerModel" ⟨"RollPlayerModel", "begins", "(II)Z"⟩ ⟨"RollPlayerModel", "begins", "(II)Z"⟩ ∈ lw_tbl := by decide +kernel
set_option maxRecDepth 100000 in
theorem mt_Q_begins : z_nth z_mts 64 = some (⟨"RollPlayerModel", "begins", "(II)Z"⟩, prog_14_method_59_code, 3, (some (.boolean))) := rfl
theorem cw_Q_begins (own : String) : z_cw own ⟨"RollPlayerModel", "begins", "(II)Z"⟩ prog_14_method_59_code 3 (some (.boolean)) 2 := ⟨(z_tb 1438 (by decide +kernel)), (z_tb 3 (by decide +kernel)), ⟨by decide +kernel, by decide +kernel⟩, by decide +kernel, by decide⟩
theorem ou_Q_304_11 : z_okU1 z_mts "RollPlayerModel" 304 2 (.invokevirtual 304) 11 64 := ⟨_, _, _, _, _, rfl, by decide, mt_Q_begins, cw_Q_begins _, Or.inl ⟨rfl, (z_tb 1435 (by decide +kernel)), (z_tb 1437 (by decide +kernel)), sl_Q_begins⟩, fun h => absurd h (by decide +kernel)⟩
theorem fg_Q_88 : [11].all (fun t => z_fb t 33 "RollPlayerModel" "next" "[I" 1 true) = true := by decide +kernel
theorem fg_Q_100 : [11].all (fun t => z_fb t 40 "RollPlayerModel" "drawn" "[Z" 1 true) = true := by decide +kernel
theorem sl_Q_opens : Cond.selects "RollPlayerModel" ⟨"RollPlayerModel", "opens", "(II)Z"⟩ ⟨"RollPlayerModel", "opens", "(II)Z"⟩ ∈ lw_tbl := by decide +kernel
set_option maxRecDepth 100000 in
theorem mt_Q_opens : z_nth z_mts 65 = some (⟨"RollPlayerModel", "opens", "(II)Z"⟩, prog_14_method_60_code, 8, (some (.boolean))) := rfl
theorem cw_Q_opens (own : String) : z_cw own ⟨"RollPlayerModel", "opens", "(II)Z"⟩ prog_14_method_60_code 8 (some (.boolean)) 2 := ⟨(z_tb 1434 (by decide +kernel)), (z_tb 3 (by decide +kernel)), ⟨by decide +kernel, by decide +kernel⟩, by decide +kernel, by decide⟩
theorem ou_Q_307_11 : z_okU1 z_mts "RollPlayerModel" 307 2 (.invokevirtual 307) 11 65 := ⟨_, _, _, _, _, rfl, by decide, mt_Q_opens, cw_Q_opens _, Or.inl ⟨rfl, (z_tb 1431 (by decide +kernel)), (z_tb 1433 (by decide +kernel)), sl_Q_opens⟩, fun h => absurd h (by decide +kernel)⟩
theorem sl_Q_openHole : Cond.selects "RollPlayerModel" ⟨"RollPlayerModel", "openHole", "(I)V"⟩ ⟨"RollPlayerModel", "openHole", "(I)V"⟩ ∈ lw_tbl := by decide +kernel
set_option maxRecDepth 100000 in
theorem mt_Q_openHole : z_nth z_mts 66 = some (⟨"RollPlayerModel", "openHole", "(I)V"⟩, prog_14_method_61_code, 4, (none)) := rfl
theorem cw_Q_openHole (own : String) : z_cw own ⟨"RollPlayerModel", "openHole", "(I)V"⟩ prog_14_method_61_code 4 (none) 1 := ⟨(z_tb 1430 (by decide +kernel)), (z_tb 3 (by decide +kernel)), ⟨by decide +kernel, by decide +kernel⟩, by decide +kernel, by decide⟩
theorem ou_Q_310_11 : z_okU1 z_mts "RollPlayerModel" 310 1 (.invokevirtual 310) 11 66 := ⟨_, _, _, _, _, rfl, by decide, mt_Q_openHole, cw_Q_openHole _, Or.inl ⟨rfl, (z_tb 1427 (by decide +kernel)), (z_tb 1429 (by decide +kernel)), sl_Q_openHole⟩, fun h => absurd h (by decide +kernel)⟩
theorem sl_Q_shutHole : Cond.selects "RollPlayerModel" ⟨"RollPlayerModel", "shutHole", "(I)V"⟩ ⟨"RollPlayerModel", "shutHole", "(I)V"⟩ ∈ lw_tbl := by decide +kernel
set_option maxRecDepth 100000 in
theorem mt_Q_shutHole : z_nth z_mts 67 = some (⟨"RollPlayerModel", "shutHole", "(I)V"⟩, prog_14_method_62_code, 3, (none)) := rfl
theorem cw_Q_shutHole (own : String) : z_cw own ⟨"RollPlayerModel", "shutHole", "(I)V"⟩ prog_14_method_62_code 3 (none) 1 := ⟨(z_tb 1442 (by decide +kernel)), (z_tb 3 (by decide +kernel)), ⟨by decide +kernel, by decide +kernel⟩, by decide +kernel, by decide⟩
theorem ou_Q_313_11 : z_okU1 z_mts "RollPlayerModel" 313 1 (.invokevirtual 313) 11 67 := ⟨_, _, _, _, _, rfl, by decide, mt_Q_shutHole, cw_Q_shutHole _, Or.inl ⟨rfl, (z_tb 1439 (by decide +kernel)), (z_tb 1441 (by decide +kernel)), sl_Q_shutHole⟩, fun h => absurd h (by decide +kernel)⟩
theorem fg_Q_97 : [11].all (fun t => z_fb t 39 "RollPlayerModel" "levels" "[I" 1 true) = true := by decide +kernel
theorem sl_Q_tempoTo : Cond.selects "RollPlayerModel" ⟨"RollPlayerModel", "tempoTo", "(II)V"⟩ ⟨"RollPlayerModel", "tempoTo", "(II)V"⟩ ∈ lw_tbl := by decide +kernel
set_option maxRecDepth 100000 in
theorem mt_Q_tempoTo : z_nth z_mts 69 = some (⟨"RollPlayerModel", "tempoTo", "(II)V"⟩, prog_14_method_64_code, 3, (none)) := rfl
theorem cw_Q_tempoTo (own : String) : z_cw own ⟨"RollPlayerModel", "tempoTo", "(II)V"⟩ prog_14_method_64_code 3 (none) 2 := ⟨(z_tb 1446 (by decide +kernel)), (z_tb 3 (by decide +kernel)), ⟨by decide +kernel, by decide +kernel⟩, by decide +kernel, by decide⟩
theorem ou_Q_316_11 : z_okU1 z_mts "RollPlayerModel" 316 2 (.invokevirtual 316) 11 69 := ⟨_, _, _, _, _, rfl, by decide, mt_Q_tempoTo, cw_Q_tempoTo _, Or.inl ⟨rfl, (z_tb 1443 (by decide +kernel)), (z_tb 1445 (by decide +kernel)), sl_Q_tempoTo⟩, fun h => absurd h (by decide +kernel)⟩
theorem fp_Q_320_false : [11].all (fun t => z_fb t 41 "RollPlayerModel" "tempo" "I" 0 false && z_fw false "RollPlayerModel" t 41 false) = true := by decide +kernel
theorem fl_Q_320 : Cond.fieldLink "RollPlayerModel" 320 "RollPlayerModel" "tempo" "I" ∈ lw_tbl := z_tb 1004 (by decide +kernel)
theorem fp_Q_323_false : [11].all (fun t => z_fb t 44 "RollPlayerModel" "goesIn" "I" 0 false && z_fw false "RollPlayerModel" t 44 false) = true := by decide +kernel
theorem fl_Q_323 : Cond.fieldLink "RollPlayerModel" 323 "RollPlayerModel" "goesIn" "I" ∈ lw_tbl := z_tb 1007 (by decide +kernel)
theorem fp_Q_326_false : [11].all (fun t => z_fb t 45 "RollPlayerModel" "gone" "I" 0 false && z_fw false "RollPlayerModel" t 45 false) = true := by decide +kernel
theorem fl_Q_326 : Cond.fieldLink "RollPlayerModel" 326 "RollPlayerModel" "gone" "I" ∈ lw_tbl := z_tb 1008 (by decide +kernel)
theorem fg_Q_320 : [11].all (fun t => z_fb t 41 "RollPlayerModel" "tempo" "I" 0 false) = true := by decide +kernel
theorem fp_Q_329_false : [11].all (fun t => z_fb t 42 "RollPlayerModel" "goesFrom" "I" 0 false && z_fw false "RollPlayerModel" t 42 false) = true := by decide +kernel
theorem fl_Q_329 : Cond.fieldLink "RollPlayerModel" 329 "RollPlayerModel" "goesFrom" "I" ∈ lw_tbl := z_tb 1005 (by decide +kernel)
theorem fp_Q_332_false : [11].all (fun t => z_fb t 43 "RollPlayerModel" "goesTo" "I" 0 false && z_fw false "RollPlayerModel" t 43 false) = true := by decide +kernel
theorem fl_Q_332 : Cond.fieldLink "RollPlayerModel" 332 "RollPlayerModel" "goesTo" "I" ∈ lw_tbl := z_tb 1006 (by decide +kernel)
theorem fg_Q_326 : [11].all (fun t => z_fb t 45 "RollPlayerModel" "gone" "I" 0 false) = true := by decide +kernel
theorem fg_Q_323 : [11].all (fun t => z_fb t 44 "RollPlayerModel" "goesIn" "I" 0 false) = true := by decide +kernel
theorem fg_Q_329 : [11].all (fun t => z_fb t 42 "RollPlayerModel" "goesFrom" "I" 0 false) = true := by decide +kernel
theorem fg_Q_332 : [11].all (fun t => z_fb t 43 "RollPlayerModel" "goesTo" "I" 0 false) = true := by decide +kernel
set_option maxRecDepth 100000 in
theorem mt_Q_down : z_nth z_mts 70 = some (⟨"RollPlayerModel", "down", "(JJ)J"⟩, prog_14_method_65_code, 6, (some (.long))) := rfl
theorem cw_Q_down (own : String) : z_cw own ⟨"RollPlayerModel", "down", "(JJ)J"⟩ prog_14_method_65_code 6 (some (.long)) 2 := ⟨(z_tb 1453 (by decide +kernel)), (z_tb 3 (by decide +kernel)), ⟨by decide +kernel, by decide +kernel⟩, by decide +kernel, by decide⟩
theorem fl_Q_339 : Cond.fieldLink "RollPlayerModel" 339 "RollPlayerModel" "phase" "I" ∈ lw_tbl := z_tb 1010 (by decide +kernel)
theorem fg_Q_339 : [11].all (fun t => z_fb t 47 "RollPlayerModel" "phase" "I" 0 false) = true := by decide +kernel
theorem fp_Q_339_false : [11].all (fun t => z_fb t 47 "RollPlayerModel" "phase" "I" 0 false && z_fw false "RollPlayerModel" t 47 false) = true := by decide +kernel
theorem fl_Q_342 : Cond.fieldLink "RollPlayerModel" 342 "RollPlayerModel" "beat" "I" ∈ lw_tbl := z_tb 1009 (by decide +kernel)
theorem fg_Q_342 : [11].all (fun t => z_fb t 46 "RollPlayerModel" "beat" "I" 0 false) = true := by decide +kernel
theorem fp_Q_342_false : [11].all (fun t => z_fb t 46 "RollPlayerModel" "beat" "I" 0 false && z_fw false "RollPlayerModel" t 46 false) = true := by decide +kernel
theorem fg_Q_140 : [11].all (fun t => z_fb t 49 "RollPlayerModel" "place" "I" 0 false) = true := by decide +kernel
theorem fl_Q_345 : Cond.fieldLink "RollPlayerModel" 345 "RollPlayerModel" "over" "I" ∈ lw_tbl := z_tb 1013 (by decide +kernel)
theorem fg_Q_345 : [11].all (fun t => z_fb t 50 "RollPlayerModel" "over" "I" 0 false) = true := by decide +kernel
theorem fl_Q_348 : Cond.fieldLink "RollPlayerModel" 348 "RollPlayerModel" "played" "I" ∈ lw_tbl := z_tb 1000 (by decide +kernel)
theorem fg_Q_348 : [11].all (fun t => z_fb t 37 "RollPlayerModel" "played" "I" 0 false) = true := by decide +kernel
theorem sl_Q_endAll : Cond.selects "RollPlayerModel" ⟨"RollPlayerModel", "endAll", "()V"⟩ ⟨"RollPlayerModel", "endAll", "()V"⟩ ∈ lw_tbl := by decide +kernel
set_option maxRecDepth 100000 in
theorem mt_Q_endAll : z_nth z_mts 63 = some (⟨"RollPlayerModel", "endAll", "()V"⟩, prog_14_method_58_code, 2, (none)) := rfl
theorem cw_Q_endAll (own : String) : z_cw own ⟨"RollPlayerModel", "endAll", "()V"⟩ prog_14_method_58_code 2 (none) 0 := ⟨(z_tb 1414 (by decide +kernel)), (z_tb 3 (by decide +kernel)), ⟨by decide +kernel, by decide +kernel⟩, by decide +kernel, by decide⟩
theorem ou_Q_351_11 : z_okU1 z_mts "RollPlayerModel" 351 0 (.invokevirtual 351) 11 63 := ⟨_, _, _, _, _, rfl, by decide, mt_Q_endAll, cw_Q_endAll _, Or.inl ⟨rfl, (z_tb 1411 (by decide +kernel)), (z_tb 1413 (by decide +kernel)), sl_Q_endAll⟩, fun h => absurd h (by decide +kernel)⟩
theorem fp_Q_176_false : [11].all (fun t => z_fb t 36 "RollPlayerModel" "isPlayed" "Z" 0 false && z_fw false "RollPlayerModel" t 36 false) = true := by decide +kernel
theorem fp_Q_140_false : [11].all (fun t => z_fb t 49 "RollPlayerModel" "place" "I" 0 false && z_fw false "RollPlayerModel" t 49 false) = true := by decide +kernel
theorem fp_Q_345_false : [11].all (fun t => z_fb t 50 "RollPlayerModel" "over" "I" 0 false && z_fw false "RollPlayerModel" t 50 false) = true := by decide +kernel
theorem fp_Q_354_false : [11].all (fun t => z_fb t 51 "RollPlayerModel" "isWhole" "Z" 0 false && z_fw false "RollPlayerModel" t 51 false) = true := by decide +kernel
theorem fl_Q_354 : Cond.fieldLink "RollPlayerModel" 354 "RollPlayerModel" "isWhole" "Z" ∈ lw_tbl := z_tb 1014 (by decide +kernel)
theorem fg_Q_354 : [11].all (fun t => z_fb t 51 "RollPlayerModel" "isWhole" "Z" 0 false) = true := by decide +kernel
theorem sl_Q_does : Cond.selects "RollPlayerModel" ⟨"RollPlayerModel", "does", "(II)V"⟩ ⟨"RollPlayerModel", "does", "(II)V"⟩ ∈ lw_tbl := by decide +kernel
set_option maxRecDepth 100000 in
theorem mt_Q_does : z_nth z_mts 68 = some (⟨"RollPlayerModel", "does", "(II)V"⟩, prog_14_method_63_code, 5, (none)) := rfl
theorem cw_Q_does (own : String) : z_cw own ⟨"RollPlayerModel", "does", "(II)V"⟩ prog_14_method_63_code 5 (none) 2 := ⟨(z_tb 1426 (by decide +kernel)), (z_tb 3 (by decide +kernel)), ⟨by decide +kernel, by decide +kernel⟩, by decide +kernel, by decide⟩
theorem ou_Q_357_11 : z_okU1 z_mts "RollPlayerModel" 357 2 (.invokevirtual 357) 11 68 := ⟨_, _, _, _, _, rfl, by decide, mt_Q_does, cw_Q_does _, Or.inl ⟨rfl, (z_tb 1423 (by decide +kernel)), (z_tb 1425 (by decide +kernel)), sl_Q_does⟩, fun h => absurd h (by decide +kernel)⟩
theorem fp_Q_348_false : [11].all (fun t => z_fb t 37 "RollPlayerModel" "played" "I" 0 false && z_fw false "RollPlayerModel" t 37 false) = true := by decide +kernel
theorem fp_Q_291_false : [11].all (fun t => z_fb t 48 "RollPlayerModel" "ticks" "I" 0 false && z_fw false "RollPlayerModel" t 48 false) = true := by decide +kernel
theorem fp_Q_360_false : [11].all (fun t => z_fb t 63 "RollPlayerModel" "wasMany" "I" 0 false && z_fw false "RollPlayerModel" t 63 false) = true := by decide +kernel
theorem fl_Q_360 : Cond.fieldLink "RollPlayerModel" 360 "RollPlayerModel" "wasMany" "I" ∈ lw_tbl := z_tb 1026 (by decide +kernel)
theorem fp_Q_363_false : [11].all (fun t => z_fb t 62 "RollPlayerModel" "wasAt" "I" 0 false && z_fw false "RollPlayerModel" t 62 false) = true := by decide +kernel
theorem fl_Q_363 : Cond.fieldLink "RollPlayerModel" 363 "RollPlayerModel" "wasAt" "I" ∈ lw_tbl := z_tb 1025 (by decide +kernel)
theorem sl_Q_layAside : Cond.selects "RollPlayerModel" ⟨"RollPlayerModel", "layAside", "()V"⟩ ⟨"RollPlayerModel", "layAside", "()V"⟩ ∈ lw_tbl := by decide +kernel
set_option maxRecDepth 100000 in
theorem mt_Q_layAside : z_nth z_mts 76 = some (⟨"RollPlayerModel", "layAside", "()V"⟩, prog_14_method_71_code, 3, (none)) := rfl
theorem cw_Q_layAside (own : String) : z_cw own ⟨"RollPlayerModel", "layAside", "()V"⟩ prog_14_method_71_code 3 (none) 0 := ⟨(z_tb 1402 (by decide +kernel)), (z_tb 3 (by decide +kernel)), ⟨by decide +kernel, by decide +kernel⟩, by decide +kernel, by decide⟩
theorem ou_Q_366_11 : z_okU1 z_mts "RollPlayerModel" 366 0 (.invokevirtual 366) 11 76 := ⟨_, _, _, _, _, rfl, by decide, mt_Q_layAside, cw_Q_layAside _, Or.inl ⟨rfl, (z_tb 1399 (by decide +kernel)), (z_tb 1401 (by decide +kernel)), sl_Q_layAside⟩, fun h => absurd h (by decide +kernel)⟩
theorem fl_Q_369 : Cond.fieldLink "RollPlayerModel" 369 "RollPlayerModel" "all" "I" ∈ lw_tbl := z_tb 1023 (by decide +kernel)
theorem fg_Q_369 : [11].all (fun t => z_fb t 60 "RollPlayerModel" "all" "I" 0 false) = true := by decide +kernel
theorem sl_Q_comes : Cond.selects "RollPlayerModel" ⟨"RollPlayerModel", "comes", "()Z"⟩ ⟨"RollPlayerModel", "comes", "()Z"⟩ ∈ lw_tbl := by decide +kernel
set_option maxRecDepth 100000 in
theorem mt_Q_comes : z_nth z_mts 72 = some (⟨"RollPlayerModel", "comes", "()Z"⟩, prog_14_method_67_code, 5, (some (.boolean))) := rfl
theorem cw_Q_comes (own : String) : z_cw own ⟨"RollPlayerModel", "comes", "()Z"⟩ prog_14_method_67_code 5 (some (.boolean)) 0 := ⟨(z_tb 1410 (by decide +kernel)), (z_tb 3 (by decide +kernel)), ⟨by decide +kernel, by decide +kernel⟩, by decide +kernel, by decide⟩
theorem ou_Q_372_11 : z_okU1 z_mts "RollPlayerModel" 372 0 (.invokevirtual 372) 11 72 := ⟨_, _, _, _, _, rfl, by decide, mt_Q_comes, cw_Q_comes _, Or.inl ⟨rfl, (z_tb 1407 (by decide +kernel)), (z_tb 1409 (by decide +kernel)), sl_Q_comes⟩, fun h => absurd h (by decide +kernel)⟩
theorem sl_Q_tempoGoesOn : Cond.selects "RollPlayerModel" ⟨"RollPlayerModel", "tempoGoesOn", "()V"⟩ ⟨"RollPlayerModel", "tempoGoesOn", "()V"⟩ ∈ lw_tbl := by decide +kernel
set_option maxRecDepth 100000 in
theorem mt_Q_tempoGoesOn : z_nth z_mts 71 = some (⟨"RollPlayerModel", "tempoGoesOn", "()V"⟩, prog_14_method_66_code, 1, (none)) := rfl
theorem cw_Q_tempoGoesOn (own : String) : z_cw own ⟨"RollPlayerModel", "tempoGoesOn", "()V"⟩ prog_14_method_66_code 1 (none) 0 := ⟨(z_tb 1450 (by decide +kernel)), (z_tb 3 (by decide +kernel)), ⟨by decide +kernel, by decide +kernel⟩, by decide +kernel, by decide⟩
theorem ou_Q_375_11 : z_okU1 z_mts "RollPlayerModel" 375 0 (.invokevirtual 375) 11 71 := ⟨_, _, _, _, _, rfl, by decide, mt_Q_tempoGoesOn, cw_Q_tempoGoesOn _, Or.inl ⟨rfl, (z_tb 1447 (by decide +kernel)), (z_tb 1449 (by decide +kernel)), sl_Q_tempoGoesOn⟩, fun h => absurd h (by decide +kernel)⟩
theorem fp_Q_369_false : [11].all (fun t => z_fb t 60 "RollPlayerModel" "all" "I" 0 false && z_fw false "RollPlayerModel" t 60 false) = true := by decide +kernel
theorem fg_Q_363 : [11].all (fun t => z_fb t 62 "RollPlayerModel" "wasAt" "I" 0 false) = true := by decide +kernel
theorem fg_Q_360 : [11].all (fun t => z_fb t 63 "RollPlayerModel" "wasMany" "I" 0 false) = true := by decide +kernel
theorem fg_Q_122 : [11].all (fun t => z_fb t 61 "RollPlayerModel" "was" "[I" 1 true) = true := by decide +kernel
theorem sl_Q_becomes : Cond.selects "RollPlayerModel" ⟨"RollPlayerModel", "becomes", "(I)V"⟩ ⟨"RollPlayerModel", "becomes", "(I)V"⟩ ∈ lw_tbl := by decide +kernel
set_option maxRecDepth 100000 in
theorem mt_Q_becomes : z_nth z_mts 77 = some (⟨"RollPlayerModel", "becomes", "(I)V"⟩, prog_14_method_72_code, 3, (none)) := rfl
theorem cw_Q_becomes (own : String) : z_cw own ⟨"RollPlayerModel", "becomes", "(I)V"⟩ prog_14_method_72_code 3 (none) 1 := ⟨(z_tb 1465 (by decide +kernel)), (z_tb 3 (by decide +kernel)), ⟨by decide +kernel, by decide +kernel⟩, by decide +kernel, by decide⟩
theorem ou_Q_378_11 : z_okU1 z_mts "RollPlayerModel" 378 1 (.invokevirtual 378) 11 77 := ⟨_, _, _, _, _, rfl, by decide, mt_Q_becomes, cw_Q_becomes _, Or.inl ⟨rfl, (z_tb 1462 (by decide +kernel)), (z_tb 1464 (by decide +kernel)), sl_Q_becomes⟩, fun h => absurd h (by decide +kernel)⟩
theorem sl_Q_airOf : Cond.selects "RollPlayerModel" ⟨"RollPlayerModel", "airOf", "(I)I"⟩ ⟨"RollPlayerModel", "airOf", "(I)I"⟩ ∈ lw_tbl := by decide +kernel
set_option maxRecDepth 100000 in
theorem mt_Q_airOf : z_nth z_mts 81 = some (⟨"RollPlayerModel", "airOf", "(I)I"⟩, prog_14_method_76_code, 4, (some (.int))) := rfl
theorem cw_Q_airOf (own : String) : z_cw own ⟨"RollPlayerModel", "airOf", "(I)I"⟩ prog_14_method_76_code 4 (some (.int)) 1 := ⟨(z_tb 1485 (by decide +kernel)), (z_tb 3 (by decide +kernel)), ⟨by decide +kernel, by decide +kernel⟩, by decide +kernel, by decide⟩
theorem ou_Q_381_11 : z_okU1 z_mts "RollPlayerModel" 381 1 (.invokevirtual 381) 11 81 := ⟨_, _, _, _, _, rfl, by decide, mt_Q_airOf, cw_Q_airOf _, Or.inl ⟨rfl, (z_tb 1482 (by decide +kernel)), (z_tb 1484 (by decide +kernel)), sl_Q_airOf⟩, fun h => absurd h (by decide +kernel)⟩
theorem sl_Q_loudOf : Cond.selects "RollPlayerModel" ⟨"RollPlayerModel", "loudOf", "(III)I"⟩ ⟨"RollPlayerModel", "loudOf", "(III)I"⟩ ∈ lw_tbl := by decide +kernel
set_option maxRecDepth 100000 in
theorem mt_Q_loudOf : z_nth z_mts 82 = some (⟨"RollPlayerModel", "loudOf", "(III)I"⟩, prog_14_method_77_code, 5, (some (.int))) := rfl
theorem cw_Q_loudOf (own : String) : z_cw own ⟨"RollPlayerModel", "loudOf", "(III)I"⟩ prog_14_method_77_code 5 (some (.int)) 3 := ⟨(z_tb 1481 (by decide +kernel)), (z_tb 3 (by decide +kernel)), ⟨by decide +kernel, by decide +kernel⟩, by decide +kernel, by decide⟩
theorem ou_Q_384_11 : z_okU1 z_mts "RollPlayerModel" 384 3 (.invokevirtual 384) 11 82 := ⟨_, _, _, _, _, rfl, by decide, mt_Q_loudOf, cw_Q_loudOf _, Or.inl ⟨rfl, (z_tb 1478 (by decide +kernel)), (z_tb 1480 (by decide +kernel)), sl_Q_loudOf⟩, fun h => absurd h (by decide +kernel)⟩
theorem sl_Q_copies : Cond.selects "RollPlayerModel" ⟨"RollPlayerModel", "copies", "(II)V"⟩ ⟨"RollPlayerModel", "copies", "(II)V"⟩ ∈ lw_tbl := by decide +kernel
set_option maxRecDepth 100000 in
theorem mt_Q_copies : z_nth z_mts 90 = some (⟨"RollPlayerModel", "copies", "(II)V"⟩, prog_14_method_85_code, 4, (none)) := rfl
theorem cw_Q_copies (own : String) : z_cw own ⟨"RollPlayerModel", "copies", "(II)V"⟩ prog_14_method_85_code 4 (none) 2 := ⟨(z_tb 1525 (by decide +kernel)), (z_tb 3 (by decide +kernel)), ⟨by decide +kernel, by decide +kernel⟩, by decide +kernel, by decide⟩
theorem ou_Q_388_11 : z_okU1 z_mts "RollPlayerModel" 388 2 (.invokevirtual 388) 11 90 := ⟨_, _, _, _, _, rfl, by decide, mt_Q_copies, cw_Q_copies _, Or.inl ⟨rfl, (z_tb 1522 (by decide +kernel)), (z_tb 1524 (by decide +kernel)), sl_Q_copies⟩, fun h => absurd h (by decide +kernel)⟩
theorem sl_Q_elementsOf : Cond.selects "RollPlayerModel" ⟨"RollPlayerModel", "elementsOf", "(III)I"⟩ ⟨"RollPlayerModel", "elementsOf", "(III)I"⟩ ∈ lw_tbl := by decide +kernel
set_option maxRecDepth 100000 in
theorem mt_Q_elementsOf : z_nth z_mts 92 = some (⟨"RollPlayerModel", "elementsOf", "(III)I"⟩, prog_14_method_87_code, 6, (some (.int))) := rfl
theorem cw_Q_elementsOf (own : String) : z_cw own ⟨"RollPlayerModel", "elementsOf", "(III)I"⟩ prog_14_method_87_code 6 (some (.int)) 3 := ⟨(z_tb 1517 (by decide +kernel)), (z_tb 3 (by decide +kernel)), ⟨by decide +kernel, by decide +kernel⟩, by decide +kernel, by decide⟩
theorem ou_Q_391_11 : z_okU1 z_mts "RollPlayerModel" 391 3 (.invokevirtual 391) 11 92 := ⟨_, _, _, _, _, rfl, by decide, mt_Q_elementsOf, cw_Q_elementsOf _, Or.inl ⟨rfl, (z_tb 1514 (by decide +kernel)), (z_tb 1516 (by decide +kernel)), sl_Q_elementsOf⟩, fun h => absurd h (by decide +kernel)⟩
theorem sl_Q_copyOf : Cond.selects "RollPlayerModel" ⟨"RollPlayerModel", "copyOf", "(I)I"⟩ ⟨"RollPlayerModel", "copyOf", "(I)I"⟩ ∈ lw_tbl := by decide +kernel
set_option maxRecDepth 100000 in
theorem mt_Q_copyOf : z_nth z_mts 91 = some (⟨"RollPlayerModel", "copyOf", "(I)I"⟩, prog_14_method_86_code, 2, (some (.int))) := rfl
theorem cw_Q_copyOf (own : String) : z_cw own ⟨"RollPlayerModel", "copyOf", "(I)I"⟩ prog_14_method_86_code 2 (some (.int)) 1 := ⟨(z_tb 1521 (by decide +kernel)), (z_tb 3 (by decide +kernel)), ⟨by decide +kernel, by decide +kernel⟩, by decide +kernel, by decide⟩
theorem ou_Q_394_11 : z_okU1 z_mts "RollPlayerModel" 394 1 (.invokevirtual 394) 11 91 := ⟨_, _, _, _, _, rfl, by decide, mt_Q_copyOf, cw_Q_copyOf _, Or.inl ⟨rfl, (z_tb 1518 (by decide +kernel)), (z_tb 1520 (by decide +kernel)), sl_Q_copyOf⟩, fun h => absurd h (by decide +kernel)⟩
theorem sl_Q_hinders : Cond.selects "RollPlayerModel" ⟨"RollPlayerModel", "hinders", "(IIII)I"⟩ ⟨"RollPlayerModel", "hinders", "(IIII)I"⟩ ∈ lw_tbl := by decide +kernel
set_option maxRecDepth 100000 in
theorem mt_Q_hinders : z_nth z_mts 96 = some (⟨"RollPlayerModel", "hinders", "(IIII)I"⟩, prog_14_method_91_code, 7, (some (.int))) := rfl
theorem cw_Q_hinders (own : String) : z_cw own ⟨"RollPlayerModel", "hinders", "(IIII)I"⟩ prog_14_method_91_code 7 (some (.int)) 4 := ⟨(z_tb 1537 (by decide +kernel)), (z_tb 3 (by decide +kernel)), ⟨by decide +kernel, by decide +kernel⟩, by decide +kernel, by decide⟩
theorem ou_Q_397_11 : z_okU1 z_mts "RollPlayerModel" 397 4 (.invokevirtual 397) 11 96 := ⟨_, _, _, _, _, rfl, by decide, mt_Q_hinders, cw_Q_hinders _, Or.inl ⟨rfl, (z_tb 1534 (by decide +kernel)), (z_tb 1536 (by decide +kernel)), sl_Q_hinders⟩, fun h => absurd h (by decide +kernel)⟩
theorem fg_Q_125 : [11].all (fun t => z_fb t 64 "RollPlayerModel" "spare" "[I" 1 true) = true := by decide +kernel
theorem fp_Q_401_false : [11].all (fun t => z_fb t 65 "RollPlayerModel" "fallenMany" "I" 0 false && z_fw false "RollPlayerModel" t 65 false) = true := by decide +kernel
theorem fl_Q_401 : Cond.fieldLink "RollPlayerModel" 401 "RollPlayerModel" "fallenMany" "I" ∈ lw_tbl := z_tb 1028 (by decide +kernel)
theorem fg_Q_128 : [11].all (fun t => z_fb t 66 "RollPlayerModel" "fallenElement" "[I" 1 true) = true := by decide +kernel
theorem fg_Q_401 : [11].all (fun t => z_fb t 65 "RollPlayerModel" "fallenMany" "I" 0 false) = true := by decide +kernel
theorem fg_Q_131 : [11].all (fun t => z_fb t 67 "RollPlayerModel" "fallenTrack" "[I" 1 true) = true := by decide +kernel
theorem sl_Q_areAlike : Cond.selects "RollPlayerModel" ⟨"RollPlayerModel", "areAlike", "(II)Z"⟩ ⟨"RollPlayerModel", "areAlike", "(II)Z"⟩ ∈ lw_tbl := by decide +kernel
set_option maxRecDepth 100000 in
theorem mt_Q_areAlike : z_nth z_mts 101 = some (⟨"RollPlayerModel", "areAlike", "(II)Z"⟩, prog_14_method_96_code, 5, (some (.boolean))) := rfl
theorem cw_Q_areAlike (own : String) : z_cw own ⟨"RollPlayerModel", "areAlike", "(II)Z"⟩ prog_14_method_96_code 5 (some (.boolean)) 2 := ⟨(z_tb 1561 (by decide +kernel)), (z_tb 3 (by decide +kernel)), ⟨by decide +kernel, by decide +kernel⟩, by decide +kernel, by decide⟩
theorem ou_Q_404_11 : z_okU1 z_mts "RollPlayerModel" 404 2 (.invokevirtual 404) 11 101 := ⟨_, _, _, _, _, rfl, by decide, mt_Q_areAlike, cw_Q_areAlike _, Or.inl ⟨rfl, (z_tb 1558 (by decide +kernel)), (z_tb 1560 (by decide +kernel)), sl_Q_areAlike⟩, fun h => absurd h (by decide +kernel)⟩
theorem fg_Q_144 : [11].all (fun t => z_fb t 0 "RollPlayerModel" "status" "I" 0 false) = true := by decide +kernel
theorem fp_S_9_true : [9].all (fun t => z_fb t 6 "RollPlayer$Strip" "lost" "Z" 0 false && z_fw true "RollPlayer$Strip" t 6 false) = true := by decide +kernel
theorem fl_S_9 : Cond.fieldLink "RollPlayer$Strip" 9 "RollPlayer$Strip" "lost" "Z" ∈ lw_tbl := z_tb 196 (by decide +kernel)
set_option maxRecDepth 100000 in
theorem mt_Jm_min : z_nth z_mts 3 = some (⟨"java/lang/Math", "min", "(II)I"⟩, prog_17_method_69_code, 2, (some (.int))) := rfl
theorem cw_Jm_min (own : String) : z_cw own ⟨"java/lang/Math", "min", "(II)I"⟩ prog_17_method_69_code 2 (some (.int)) 2 := ⟨(z_tb 179 (by decide +kernel)), (z_tb 6 (by decide +kernel)), ⟨by decide +kernel, by decide +kernel⟩, by decide +kernel, by decide⟩
set_option maxRecDepth 100000 in
theorem mt_Jm_max : z_nth z_mts 2 = some (⟨"java/lang/Math", "max", "(II)I"⟩, prog_17_method_65_code, 2, (some (.int))) := rfl
theorem cw_Jm_max (own : String) : z_cw own ⟨"java/lang/Math", "max", "(II)I"⟩ prog_17_method_65_code 2 (some (.int)) 2 := ⟨(z_tb 182 (by decide +kernel)), (z_tb 6 (by decide +kernel)), ⟨by decide +kernel, by decide +kernel⟩, by decide +kernel, by decide⟩
theorem fp_S_24_true : [9].all (fun t => z_fb t 0 "RollPlayer$Strip" "kind" "I" 0 true && z_fw true "RollPlayer$Strip" t 0 true) = true := by decide +kernel
theorem fl_S_24 : Cond.fieldLink "RollPlayer$Strip" 24 "RollPlayer$Strip" "kind" "I" ∈ lw_tbl := z_tb 183 (by decide +kernel)
theorem fp_S_28_true : [9].all (fun t => z_fb t 1 "RollPlayer$Strip" "number" "I" 0 true && z_fw true "RollPlayer$Strip" t 1 true) = true := by decide +kernel
theorem fl_S_28 : Cond.fieldLink "RollPlayer$Strip" 28 "RollPlayer$Strip" "number" "I" ∈ lw_tbl := z_tb 186 (by decide +kernel)
theorem fp_S_31_true : [9].all (fun t => z_fb t 2 "RollPlayer$Strip" "ticks" "I" 0 true && z_fw true "RollPlayer$Strip" t 2 true) = true := by decide +kernel
theorem fl_S_31 : Cond.fieldLink "RollPlayer$Strip" 31 "RollPlayer$Strip" "ticks" "I" ∈ lw_tbl := z_tb 188 (by decide +kernel)
theorem fp_S_34_true : [9].all (fun t => z_fb t 3 "RollPlayer$Strip" "widthBits" "I" 0 true && z_fw true "RollPlayer$Strip" t 3 true) = true := by decide +kernel
theorem fl_S_34 : Cond.fieldLink "RollPlayer$Strip" 34 "RollPlayer$Strip" "widthBits" "I" ∈ lw_tbl := z_tb 191 (by decide +kernel)
theorem fg_S_34 : [9].all (fun t => z_fb t 3 "RollPlayer$Strip" "widthBits" "I" 0 true) = true := by decide +kernel
theorem fp_S_37_true : [9].all (fun t => z_fb t 5 "RollPlayer$Strip" "length" "I" 0 false && z_fw true "RollPlayer$Strip" t 5 false) = true := by decide +kernel
theorem fl_S_37 : Cond.fieldLink "RollPlayer$Strip" 37 "RollPlayer$Strip" "length" "I" ∈ lw_tbl := z_tb 194 (by decide +kernel)
theorem fg_S_37 : [9].all (fun t => z_fb t 5 "RollPlayer$Strip" "length" "I" 0 false) = true := by decide +kernel
theorem fp_S_40_true : [9].all (fun t => z_fb t 4 "RollPlayer$Strip" "bytes" "[B" 1 false && z_fw true "RollPlayer$Strip" t 4 false) = true := by decide +kernel
theorem fl_S_40 : Cond.fieldLink "RollPlayer$Strip" 40 "RollPlayer$Strip" "bytes" "[B" ∈ lw_tbl := z_tb 192 (by decide +kernel)
theorem fg_S_40 : [9].all (fun t => z_fb t 4 "RollPlayer$Strip" "bytes" "[B" 1 false) = true := by decide +kernel
set_option maxRecDepth 100000 in
theorem mt_S_numberAt : z_nth z_mts 111 = some (⟨"RollPlayer$Strip", "numberAt", "(II)I"⟩, prog_12_method_3_code, 5, (some (.int))) := rfl
theorem cw_S_numberAt (own : String) : z_cw own ⟨"RollPlayer$Strip", "numberAt", "(II)I"⟩ prog_12_method_3_code 5 (some (.int)) 2 := ⟨(z_tb 254 (by decide +kernel)), (z_tb 5 (by decide +kernel)), ⟨by decide +kernel, by decide +kernel⟩, by decide +kernel, by decide⟩
theorem ou_S_44_9 : z_okU1 z_mts "RollPlayer$Strip" 44 2 (.invokevirtual 44) 9 111 := ⟨_, _, _, _, _, rfl, by decide, mt_S_numberAt, cw_S_numberAt _, Or.inl ⟨rfl, (z_tb 251 (by decide +kernel)), (z_tb 252 (by decide +kernel)), (z_tb 253 (by decide +kernel))⟩, fun h => absurd h (by decide +kernel)⟩
theorem fg_S_24 : [9].all (fun t => z_fb t 0 "RollPlayer$Strip" "kind" "I" 0 true) = true := by decide +kernel
set_option maxRecDepth 100000 in
theorem mt_S_writeNumber : z_nth z_mts 112 = some (⟨"RollPlayer$Strip", "writeNumber", "(III)V"⟩, prog_12_method_4_code, 6, (none)) := rfl
theorem cw_S_writeNumber (own : String) : z_cw own ⟨"RollPlayer$Strip", "writeNumber", "(III)V"⟩ prog_12_method_4_code 6 (none) 3 := ⟨(z_tb 221 (by decide +kernel)), (z_tb 5 (by decide +kernel)), ⟨by decide +kernel, by decide +kernel⟩, by decide +kernel, by decide⟩
theorem ou_S_48_9 : z_okU1 z_mts "RollPlayer$Strip" 48 3 (.invokevirtual 48) 9 112 := ⟨_, _, _, _, _, rfl, by decide, mt_S_writeNumber, cw_S_writeNumber _, Or.inl ⟨rfl, (z_tb 218 (by decide +kernel)), (z_tb 219 (by decide +kernel)), (z_tb 220 (by decide +kernel))⟩, fun h => absurd h (by decide +kernel)⟩
theorem fp_S_37_false : [9].all (fun t => z_fb t 5 "RollPlayer$Strip" "length" "I" 0 false && z_fw false "RollPlayer$Strip" t 5 false) = true := by decide +kernel
theorem fg_S_28 : [9].all (fun t => z_fb t 1 "RollPlayer$Strip" "number" "I" 0 true) = true := by decide +kernel
set_option maxRecDepth 100000 in
theorem mt_S_elements : z_nth z_mts 110 = some (⟨"RollPlayer$Strip", "elements", "()I"⟩, prog_12_method_2_code, 1, (some (.int))) := rfl
theorem cw_S_elements (own : String) : z_cw own ⟨"RollPlayer$Strip", "elements", "()I"⟩ prog_12_method_2_code 1 (some (.int)) 0 := ⟨(z_tb 225 (by decide +kernel)), (z_tb 5 (by decide +kernel)), ⟨by decide +kernel, by decide +kernel⟩, by decide +kernel, by decide⟩
theorem ou_S_52_9 : z_okU1 z_mts "RollPlayer$Strip" 52 0 (.invokevirtual 52) 9 110 := ⟨_, _, _, _, _, rfl, by decide, mt_S_elements, cw_S_elements _, Or.inl ⟨rfl, (z_tb 222 (by decide +kernel)), (z_tb 223 (by decide +kernel)), (z_tb 224 (by decide +kernel))⟩, fun h => absurd h (by decide +kernel)⟩
set_option maxRecDepth 100000 in
theorem mt_S_sumNow : z_nth z_mts 115 = some (⟨"RollPlayer$Strip", "sumNow", "()I"⟩, prog_12_method_7_code, 3, (some (.int))) := rfl
theorem cw_S_sumNow (own : String) : z_cw own ⟨"RollPlayer$Strip", "sumNow", "()I"⟩ prog_12_method_7_code 3 (some (.int)) 0 := ⟨(z_tb 229 (by decide +kernel)), (z_tb 5 (by decide +kernel)), ⟨by decide +kernel, by decide +kernel⟩, by decide +kernel, by decide⟩
theorem ou_S_56_9 : z_okU1 z_mts "RollPlayer$Strip" 56 0 (.invokevirtual 56) 9 115 := ⟨_, _, _, _, _, rfl, by decide, mt_S_sumNow, cw_S_sumNow _, Or.inl ⟨rfl, (z_tb 226 (by decide +kernel)), (z_tb 227 (by decide +kernel)), (z_tb 228 (by decide +kernel))⟩, fun h => absurd h (by decide +kernel)⟩
theorem fg_S_9 : [9].all (fun t => z_fb t 6 "RollPlayer$Strip" "lost" "Z" 0 false) = true := by decide +kernel
theorem fp_S_9_false : [9].all (fun t => z_fb t 6 "RollPlayer$Strip" "lost" "Z" 0 false && z_fw false "RollPlayer$Strip" t 6 false) = true := by decide +kernel
theorem fp_S_40_false : [9].all (fun t => z_fb t 4 "RollPlayer$Strip" "bytes" "[B" 1 false && z_fw false "RollPlayer$Strip" t 4 false) = true := by decide +kernel
theorem fg_S_31 : [9].all (fun t => z_fb t 2 "RollPlayer$Strip" "ticks" "I" 0 true) = true := by decide +kernel
set_option maxRecDepth 100000 in
theorem mt_S_init : z_nth z_mts 109 = some (⟨"RollPlayer$Strip", "<init>", "(IIII)V"⟩, prog_12_method_1_code, 6, (none)) := rfl
theorem cw_S_init (own : String) : z_cw own ⟨"RollPlayer$Strip", "<init>", "(IIII)V"⟩ prog_12_method_1_code 6 (none) 4 := ⟨(z_tb 175 (by decide +kernel)), (z_tb 5 (by decide +kernel)), ⟨by decide +kernel, by decide +kernel⟩, by decide +kernel, by decide⟩
theorem ou_S_65_9 : z_okU1 z_mts "RollPlayer$Strip" 65 4 (.invokespecial 65) 9 109 := ⟨_, _, _, _, _, rfl, by decide, mt_S_init, cw_S_init _, Or.inr (Or.inr (Or.inl ⟨rfl, rfl, (z_tb 174 (by decide +kernel)), Or.inl (z_tb 862 (by decide +kernel))⟩)), fun _ => rfl⟩
set_option maxRecDepth 100000 in
theorem mt_S_takeBytes : z_nth z_mts 120 = some (⟨"RollPlayer$Strip", "takeBytes", "(LRollPlayer$Strip;)V"⟩, prog_12_method_12_code, 2, (none)) := rfl
theorem cw_S_takeBytes (own : String) : z_cw own ⟨"RollPlayer$Strip", "takeBytes", "(LRollPlayer$Strip;)V"⟩ prog_12_method_12_code 2 (none) 1 := ⟨(z_tb 866 (by decide +kernel)), (z_tb 5 (by decide +kernel)), ⟨by decide +kernel, by decide +kernel⟩, by decide +kernel, by decide⟩
theorem ou_S_68_9 : z_okU1 z_mts "RollPlayer$Strip" 68 1 (.invokevirtual 68) 9 120 := ⟨_, _, _, _, _, rfl, by decide, mt_S_takeBytes, cw_S_takeBytes _, Or.inl ⟨rfl, (z_tb 863 (by decide +kernel)), (z_tb 864 (by decide +kernel)), (z_tb 865 (by decide +kernel))⟩, fun h => absurd h (by decide +kernel)⟩
theorem fp_L_11_true : [8].all (fun t => z_fb t 0 "RollPlayer$Roll" "strips" "[LRollPlayer$Strip;" 1 true && z_fw true "RollPlayer$Roll" t 0 true) = true := by decide +kernel
theorem fl_L_11 : Cond.fieldLink "RollPlayer$Roll" 11 "RollPlayer$Roll" "strips" "[LRollPlayer$Strip;" ∈ lw_tbl := z_tb 143 (by decide +kernel)
theorem fp_L_17_true : [8].all (fun t => z_fb t 1 "RollPlayer$Roll" "count" "I" 0 false && z_fw true "RollPlayer$Roll" t 1 false) = true := by decide +kernel
theorem fl_L_17 : Cond.fieldLink "RollPlayer$Roll" 17 "RollPlayer$Roll" "count" "I" ∈ lw_tbl := z_tb 144 (by decide +kernel)
theorem fg_L_17 : [8].all (fun t => z_fb t 1 "RollPlayer$Roll" "count" "I" 0 false) = true := by decide +kernel
theorem fg_L_11 : [8].all (fun t => z_fb t 0 "RollPlayer$Roll" "strips" "[LRollPlayer$Strip;" 1 true) = true := by decide +kernel
set_option maxRecDepth 100000 in
theorem mt_L_stripAt : z_nth z_mts 127 = some (⟨"RollPlayer$Roll", "stripAt", "(I)LRollPlayer$Strip;"⟩, prog_11_method_2_code, 2, (some (.object "RollPlayer$Strip"))) := rfl
theorem cw_L_stripAt (own : String) : z_cw own ⟨"RollPlayer$Roll", "stripAt", "(I)LRollPlayer$Strip;"⟩ prog_11_method_2_code 2 (some (.object "RollPlayer$Strip")) 1 := ⟨(z_tb 245 (by decide +kernel)), (z_tb 4 (by decide +kernel)), ⟨by decide +kernel, by decide +kernel⟩, by decide +kernel, by decide⟩
theorem ou_L_21_8 : z_okU1 z_mts "RollPlayer$Roll" 21 1 (.invokevirtual 21) 8 127 := ⟨_, _, _, _, _, rfl, by decide, mt_L_stripAt, cw_L_stripAt _, Or.inl ⟨rfl, (z_tb 317 (by decide +kernel)), (z_tb 243 (by decide +kernel)), (z_tb 244 (by decide +kernel))⟩, fun h => absurd h (by decide +kernel)⟩
set_option maxRecDepth 100000 in
theorem mt_S_verdict : z_nth z_mts 117 = some (⟨"RollPlayer$Strip", "verdict", "()I"⟩, prog_12_method_9_code, 2, (some (.int))) := rfl
theorem cw_S_verdict (own : String) : z_cw own ⟨"RollPlayer$Strip", "verdict", "()I"⟩ prog_12_method_9_code 2 (some (.int)) 0 := ⟨(z_tb 250 (by decide +kernel)), (z_tb 5 (by decide +kernel)), ⟨by decide +kernel, by decide +kernel⟩, by decide +kernel, by decide⟩
theorem ou_L_25_9 : z_okU1 z_mts "RollPlayer$Roll" 25 0 (.invokevirtual 25) 9 117 := ⟨_, _, _, _, _, rfl, by decide, mt_S_verdict, cw_S_verdict _, Or.inl ⟨rfl, (z_tb 318 (by decide +kernel)), (z_tb 248 (by decide +kernel)), (z_tb 249 (by decide +kernel))⟩, fun h => absurd h (by decide +kernel)⟩
theorem fp_L_17_false : [8].all (fun t => z_fb t 1 "RollPlayer$Roll" "count" "I" 0 false && z_fw false "RollPlayer$Roll" t 1 false) = true := by decide +kernel
theorem ou_L_29_9 : z_okU1 z_mts "RollPlayer$Roll" 29 0 (.invokevirtual 29) 9 110 := ⟨_, _, _, _, _, rfl, by decide, mt_S_elements, cw_S_elements _, Or.inl ⟨rfl, (z_tb 852 (by decide +kernel)), (z_tb 223 (by decide +kernel)), (z_tb 224 (by decide +kernel))⟩, fun h => absurd h (by decide +kernel)⟩
set_option maxRecDepth 100000 in
theorem mt_L_init : z_nth z_mts 126 = some (⟨"RollPlayer$Roll", "<init>", "()V"⟩, prog_11_method_1_code, 1, (none)) := rfl
theorem cw_L_init (own : String) : z_cw own ⟨"RollPlayer$Roll", "<init>", "()V"⟩ prog_11_method_1_code 1 (none) 0 := ⟨(z_tb 139 (by decide +kernel)), (z_tb 4 (by decide +kernel)), ⟨by decide +kernel, by decide +kernel⟩, by decide +kernel, by decide⟩
theorem ou_L_32_8 : z_okU1 z_mts "RollPlayer$Roll" 32 0 (.invokespecial 32) 8 126 := ⟨_, _, _, _, _, rfl, by decide, mt_L_init, cw_L_init _, Or.inr (Or.inr (Or.inl ⟨rfl, rfl, (z_tb 138 (by decide +kernel)), Or.inl (z_tb 836 (by decide +kernel))⟩)), fun _ => rfl⟩
set_option maxRecDepth 100000 in
theorem mt_L_append : z_nth z_mts 129 = some (⟨"RollPlayer$Roll", "append", "(LRollPlayer$Strip;)V"⟩, prog_11_method_4_code, 2, (none)) := rfl
theorem cw_L_append (own : String) : z_cw own ⟨"RollPlayer$Roll", "append", "(LRollPlayer$Strip;)V"⟩ prog_11_method_4_code 2 (none) 1 := ⟨(z_tb 233 (by decide +kernel)), (z_tb 4 (by decide +kernel)), ⟨by decide +kernel, by decide +kernel⟩, by decide +kernel, by decide⟩
theorem ou_L_39_8 : z_okU1 z_mts "RollPlayer$Roll" 39 1 (.invokevirtual 39) 8 129 := ⟨_, _, _, _, _, rfl, by decide, mt_L_append, cw_L_append _, Or.inl ⟨rfl, (z_tb 838 (by decide +kernel)), (z_tb 231 (by decide +kernel)), (z_tb 232 (by decide +kernel))⟩, fun h => absurd h (by decide +kernel)⟩
theorem fp_N_9_true : [0, 1, 2, 3, 5, 6, 7].all (fun t => z_fb t 2 "RollPlayer$Instrument" "size" "I" 0 false && z_fw true "RollPlayer$Instrument" t 2 false) = true := by decide +kernel
theorem fl_N_9 : Cond.fieldLink "RollPlayer$Instrument" 9 "RollPlayer$Instrument" "size" "I" ∈ lw_tbl := z_tb 357 (by decide +kernel)
theorem fp_N_15_true : [0, 1, 2, 3, 5, 6, 7].all (fun t => z_fb t 3 "RollPlayer$Instrument" "p" "I" 0 false && z_fw true "RollPlayer$Instrument" t 3 false) = true := by decide +kernel
theorem fl_N_15 : Cond.fieldLink "RollPlayer$Instrument" 15 "RollPlayer$Instrument" "p" "I" ∈ lw_tbl := z_tb 360 (by decide +kernel)
theorem fp_N_18_true : [0, 1, 2, 3, 5, 6, 7].all (fun t => z_fb t 4 "RollPlayer$Instrument" "q" "I" 0 false && z_fw true "RollPlayer$Instrument" t 4 false) = true := by decide +kernel
theorem fl_N_18 : Cond.fieldLink "RollPlayer$Instrument" 18 "RollPlayer$Instrument" "q" "I" ∈ lw_tbl := z_tb 362 (by decide +kernel)
theorem fp_N_21_true : [0, 1, 2, 3, 5, 6, 7].all (fun t => z_fb t 0 "RollPlayer$Instrument" "number" "I" 0 true && z_fw true "RollPlayer$Instrument" t 0 true) = true := by decide +kernel
theorem fl_N_21 : Cond.fieldLink "RollPlayer$Instrument" 21 "RollPlayer$Instrument" "number" "I" ∈ lw_tbl := z_tb 351 (by decide +kernel)
theorem fp_N_24_true : [0, 1, 2, 3, 5, 6, 7].all (fun t => z_fb t 1 "RollPlayer$Instrument" "kind" "I" 0 true && z_fw true "RollPlayer$Instrument" t 1 true) = true := by decide +kernel
theorem fl_N_24 : Cond.fieldLink "RollPlayer$Instrument" 24 "RollPlayer$Instrument" "kind" "I" ∈ lw_tbl := z_tb 355 (by decide +kernel)
theorem fg_N_18 : [0, 1, 2, 3, 5, 6, 7].all (fun t => z_fb t 4 "RollPlayer$Instrument" "q" "I" 0 false) = true := by decide +kernel
theorem fg_N_15 : [0, 1, 2, 3, 5, 6, 7].all (fun t => z_fb t 3 "RollPlayer$Instrument" "p" "I" 0 false) = true := by decide +kernel
theorem fg_N_24 : [0, 1, 2, 3, 5, 6, 7].all (fun t => z_fb t 1 "RollPlayer$Instrument" "kind" "I" 0 true) = true := by decide +kernel
theorem fg_N_21 : [0, 1, 2, 3, 5, 6, 7].all (fun t => z_fb t 0 "RollPlayer$Instrument" "number" "I" 0 true) = true := by decide +kernel
set_option maxRecDepth 100000 in
theorem mt_N_init : z_nth z_mts 134 = some (⟨"RollPlayer$Instrument", "<init>", "(II)V"⟩, prog_6_method_1_code, 3, (none)) := rfl
theorem cw_N_init (own : String) : z_cw own ⟨"RollPlayer$Instrument", "<init>", "(II)V"⟩ prog_6_method_1_code 3 (none) 2 := ⟨(z_tb 349 (by decide +kernel)), (z_tb 7 (by decide +kernel)), ⟨by decide +kernel, by decide +kernel⟩, by decide +kernel, by decide⟩
theorem ou_Pipe_3_7 : z_okU1 z_mts "RollPlayer$Pipe" 3 2 (.invokespecial 3) 7 134 := ⟨_, _, _, _, _, rfl, by decide, mt_N_init, cw_N_init _, Or.inr (Or.inr (Or.inl ⟨rfl, rfl, (z_tb 348 (by decide +kernel)), Or.inl (z_tb 347 (by decide +kernel))⟩)), fun _ => rfl⟩
theorem ou_Pipe_3_6 : z_okU1 z_mts "RollPlayer$Pipe" 3 2 (.invokespecial 3) 6 134 := ⟨_, _, _, _, _, rfl, by decide, mt_N_init, cw_N_init _, Or.inr (Or.inr (Or.inl ⟨rfl, rfl, (z_tb 348 (by decide +kernel)), Or.inl (z_tb 347 (by decide +kernel))⟩)), fun _ => rfl⟩
theorem ou_Pipe_3_5 : z_okU1 z_mts "RollPlayer$Pipe" 3 2 (.invokespecial 3) 5 134 := ⟨_, _, _, _, _, rfl, by decide, mt_N_init, cw_N_init _, Or.inr (Or.inr (Or.inl ⟨rfl, rfl, (z_tb 348 (by decide +kernel)), Or.inl (z_tb 347 (by decide +kernel))⟩)), fun _ => rfl⟩
theorem ou_Pipe_3_3 : z_okU1 z_mts "RollPlayer$Pipe" 3 2 (.invokespecial 3) 3 134 := ⟨_, _, _, _, _, rfl, by decide, mt_N_init, cw_N_init _, Or.inr (Or.inr (Or.inl ⟨rfl, rfl, (z_tb 348 (by decide +kernel)), Or.inl (z_tb 347 (by decide +kernel))⟩)), fun _ => rfl⟩
theorem ou_Pipe_3_2 : z_okU1 z_mts "RollPlayer$Pipe" 3 2 (.invokespecial 3) 2 134 := ⟨_, _, _, _, _, rfl, by decide, mt_N_init, cw_N_init _, Or.inr (Or.inr (Or.inl ⟨rfl, rfl, (z_tb 348 (by decide +kernel)), Or.inl (z_tb 347 (by decide +kernel))⟩)), fun _ => rfl⟩
theorem ou_Pipe_3_1 : z_okU1 z_mts "RollPlayer$Pipe" 3 2 (.invokespecial 3) 1 134 := ⟨_, _, _, _, _, rfl, by decide, mt_N_init, cw_N_init _, Or.inr (Or.inr (Or.inl ⟨rfl, rfl, (z_tb 348 (by decide +kernel)), Or.inl (z_tb 347 (by decide +kernel))⟩)), fun _ => rfl⟩
theorem ou_Pipe_3_0 : z_okU1 z_mts "RollPlayer$Pipe" 3 2 (.invokespecial 3) 0 134 := ⟨_, _, _, _, _, rfl, by decide, mt_N_init, cw_N_init _, Or.inr (Or.inr (Or.inl ⟨rfl, rfl, (z_tb 348 (by decide +kernel)), Or.inl (z_tb 347 (by decide +kernel))⟩)), fun _ => rfl⟩
set_option maxRecDepth 100000 in
theorem mt_Pipe_air : z_nth z_mts 140 = some (⟨"RollPlayer$Pipe", "air", "(I[I)I"⟩, prog_8_method_2_code, 3, (some (.int))) := rfl
theorem cw_Pipe_air (own : String) : z_cw own ⟨"RollPlayer$Pipe", "air", "(I[I)I"⟩ prog_8_method_2_code 3 (some (.int)) 2 := ⟨(z_tb 790 (by decide +kernel)), (z_tb 8 (by decide +kernel)), ⟨by decide +kernel, by decide +kernel⟩, by decide +kernel, by decide⟩
theorem ou_Pipe_9_7 : z_okU1 z_mts "RollPlayer$Pipe" 9 2 (.invokevirtual 9) 7 140 := ⟨_, _, _, _, _, rfl, by decide, mt_Pipe_air, cw_Pipe_air _, Or.inl ⟨rfl, (z_tb 779 (by decide +kernel)), (z_tb 780 (by decide +kernel)), (z_tb 789 (by decide +kernel))⟩, fun h => absurd h (by decide +kernel)⟩
theorem ou_Pipe_9_5 : z_okU1 z_mts "RollPlayer$Pipe" 9 2 (.invokevirtual 9) 5 140 := ⟨_, _, _, _, _, rfl, by decide, mt_Pipe_air, cw_Pipe_air _, Or.inl ⟨rfl, (z_tb 779 (by decide +kernel)), (z_tb 780 (by decide +kernel)), (z_tb 781 (by decide +kernel))⟩, fun h => absurd h (by decide +kernel)⟩
set_option maxRecDepth 100000 in
theorem mt_Bass_air : z_nth z_mts 147 = some (⟨"RollPlayer$Bass", "air", "(I[I)I"⟩, prog_2_method_2_code, 3, (some (.int))) := rfl
theorem cw_Bass_air (own : String) : z_cw own ⟨"RollPlayer$Bass", "air", "(I[I)I"⟩ prog_2_method_2_code 3 (some (.int)) 2 := ⟨(z_tb 785 (by decide +kernel)), (z_tb 10 (by decide +kernel)), ⟨by decide +kernel, by decide +kernel⟩, by decide +kernel, by decide⟩
theorem ou_Pipe_9_0 : z_okU1 z_mts "RollPlayer$Pipe" 9 2 (.invokevirtual 9) 0 147 := ⟨_, _, _, _, _, rfl, by decide, mt_Bass_air, cw_Bass_air _, Or.inr (Or.inl ⟨rfl, ⟨"RollPlayer$Pipe", "air", "(I[I)I"⟩, "RollPlayer$Pipe", rfl, (z_tb 779 (by decide +kernel)), (z_tb 782 (by decide +kernel)), ⟨by decide +kernel, by decide +kernel⟩, Or.inl ⟨(z_tb 780 (by decide +kernel)), prog_8_method_2_code, 3, (some (.int)), (z_tb 790 (by decide +kernel))⟩, (z_tb 783 (by decide +kernel)), (z_tb 784 (by decide +kernel))⟩), fun h => absurd h (by decide +kernel)⟩
set_option maxRecDepth 100000 in
theorem mt_N_ratioOf : z_nth z_mts 136 = some (⟨"RollPlayer$Instrument", "ratioOf", "(D)D"⟩, prog_6_method_4_code, 3, (some (.double))) := rfl
theorem cw_N_ratioOf (own : String) : z_cw own ⟨"RollPlayer$Instrument", "ratioOf", "(D)D"⟩ prog_6_method_4_code 3 (some (.double)) 1 := ⟨(z_tb 576 (by decide +kernel)), (z_tb 7 (by decide +kernel)), ⟨by decide +kernel, by decide +kernel⟩, by decide +kernel, by decide⟩
theorem ou_Pipe_15_7 : z_okU1 z_mts "RollPlayer$Pipe" 15 1 (.invokevirtual 15) 7 136 := ⟨_, _, _, _, _, rfl, by decide, mt_N_ratioOf, cw_N_ratioOf _, Or.inr (Or.inl ⟨rfl, ⟨"RollPlayer$Pipe", "ratioOf", "(D)D"⟩, "RollPlayer$Instrument", rfl, (z_tb 569 (by decide +kernel)), (z_tb 570 (by decide +kernel)), ⟨by decide +kernel, by decide +kernel⟩, Or.inl ⟨(z_tb 575 (by decide +kernel)), prog_6_method_4_code, 3, (some (.double)), (z_tb 576 (by decide +kernel))⟩, (z_tb 574 (by decide +kernel)), (z_tb 575 (by decide +kernel))⟩), fun h => absurd h (by decide +kernel)⟩
theorem ou_Pipe_15_5 : z_okU1 z_mts "RollPlayer$Pipe" 15 1 (.invokevirtual 15) 5 136 := ⟨_, _, _, _, _, rfl, by decide, mt_N_ratioOf, cw_N_ratioOf _, Or.inr (Or.inl ⟨rfl, ⟨"RollPlayer$Pipe", "ratioOf", "(D)D"⟩, "RollPlayer$Instrument", rfl, (z_tb 569 (by decide +kernel)), (z_tb 570 (by decide +kernel)), ⟨by decide +kernel, by decide +kernel⟩, Or.inl ⟨(z_tb 575 (by decide +kernel)), prog_6_method_4_code, 3, (some (.double)), (z_tb 576 (by decide +kernel))⟩, (z_tb 573 (by decide +kernel)), (z_tb 575 (by decide +kernel))⟩), fun h => absurd h (by decide +kernel)⟩
theorem ou_Pipe_15_0 : z_okU1 z_mts "RollPlayer$Pipe" 15 1 (.invokevirtual 15) 0 136 := ⟨_, _, _, _, _, rfl, by decide, mt_N_ratioOf, cw_N_ratioOf _, Or.inr (Or.inl ⟨rfl, ⟨"RollPlayer$Pipe", "ratioOf", "(D)D"⟩, "RollPlayer$Instrument", rfl, (z_tb 569 (by decide +kernel)), (z_tb 570 (by decide +kernel)), ⟨by decide +kernel, by decide +kernel⟩, Or.inl ⟨(z_tb 575 (by decide +kernel)), prog_6_method_4_code, 3, (some (.double)), (z_tb 576 (by decide +kernel))⟩, (z_tb 572 (by decide +kernel)), (z_tb 575 (by decide +kernel))⟩), fun h => absurd h (by decide +kernel)⟩
set_option maxRecDepth 100000 in
theorem mt_Pipe_init : z_nth z_mts 139 = some (⟨"RollPlayer$Pipe", "<init>", "(II)V"⟩, prog_8_method_1_code, 3, (none)) := rfl
theorem cw_Pipe_init (own : String) : z_cw own ⟨"RollPlayer$Pipe", "<init>", "(II)V"⟩ prog_8_method_1_code 3 (none) 2 := ⟨(z_tb 346 (by decide +kernel)), (z_tb 8 (by decide +kernel)), ⟨by decide +kernel, by decide +kernel⟩, by decide +kernel, by decide⟩
theorem ou_Reed_3_7 : z_okU1 z_mts "RollPlayer$Reed" 3 2 (.invokespecial 3) 7 139 := ⟨_, _, _, _, _, rfl, by decide, mt_Pipe_init, cw_Pipe_init _, Or.inr (Or.inr (Or.inl ⟨rfl, rfl, (z_tb 345 (by decide +kernel)), Or.inl (z_tb 380 (by decide +kernel))⟩)), fun _ => rfl⟩
theorem ou_Reed_3_5 : z_okU1 z_mts "RollPlayer$Reed" 3 2 (.invokespecial 3) 5 139 := ⟨_, _, _, _, _, rfl, by decide, mt_Pipe_init, cw_Pipe_init _, Or.inr (Or.inr (Or.inl ⟨rfl, rfl, (z_tb 345 (by decide +kernel)), Or.inl (z_tb 380 (by decide +kernel))⟩)), fun _ => rfl⟩
theorem ou_Reed_3_0 : z_okU1 z_mts "RollPlayer$Reed" 3 2 (.invokespecial 3) 0 139 := ⟨_, _, _, _, _, rfl, by decide, mt_Pipe_init, cw_Pipe_init _, Or.inr (Or.inr (Or.inl ⟨rfl, rfl, (z_tb 345 (by decide +kernel)), Or.inl (z_tb 380 (by decide +kernel))⟩)), fun _ => rfl⟩
set_option maxRecDepth 100000 in
theorem mt_Pipe_loudness : z_nth z_mts 141 = some (⟨"RollPlayer$Pipe", "loudness", "(III[I)I"⟩, prog_8_method_3_code, 5, (some (.int))) := rfl
theorem cw_Pipe_loudness (own : String) : z_cw own ⟨"RollPlayer$Pipe", "loudness", "(III[I)I"⟩ prog_8_method_3_code 5 (some (.int)) 4 := ⟨(z_tb 778 (by decide +kernel)), (z_tb 8 (by decide +kernel)), ⟨by decide +kernel, by decide +kernel⟩, by decide +kernel, by decide⟩
theorem ou_Reed_9_7 : z_okU1 z_mts "RollPlayer$Reed" 9 4 (.invokespecial 9) 7 141 := ⟨_, _, _, _, _, rfl, by decide, mt_Pipe_loudness, cw_Pipe_loudness _, Or.inr (Or.inr (Or.inr ⟨rfl, by decide +kernel, "RollPlayer$Pipe", (z_tb 776 (by decide +kernel)), (z_tb 1589 (by decide +kernel)), (z_tb 386 (by decide +kernel)), Or.inl rfl, (z_tb 777 (by decide +kernel))⟩)), fun h => absurd h (by decide +kernel)⟩
theorem ou_Reed_9_5 : z_okU1 z_mts "RollPlayer$Reed" 9 4 (.invokespecial 9) 5 141 := ⟨_, _, _, _, _, rfl, by decide, mt_Pipe_loudness, cw_Pipe_loudness _, Or.inr (Or.inr (Or.inr ⟨rfl, by decide +kernel, "RollPlayer$Pipe", (z_tb 776 (by decide +kernel)), (z_tb 1589 (by decide +kernel)), (z_tb 386 (by decide +kernel)), Or.inl rfl, (z_tb 777 (by decide +kernel))⟩)), fun h => absurd h (by decide +kernel)⟩
theorem ou_Reed_9_0 : z_okU1 z_mts "RollPlayer$Reed" 9 4 (.invokespecial 9) 0 141 := ⟨_, _, _, _, _, rfl, by decide, mt_Pipe_loudness, cw_Pipe_loudness _, Or.inr (Or.inr (Or.inr ⟨rfl, by decide +kernel, "RollPlayer$Pipe", (z_tb 776 (by decide +kernel)), (z_tb 1589 (by decide +kernel)), (z_tb 386 (by decide +kernel)), Or.inl rfl, (z_tb 777 (by decide +kernel))⟩)), fun h => absurd h (by decide +kernel)⟩
set_option maxRecDepth 100000 in
theorem mt_Pipe_pitch : z_nth z_mts 142 = some (⟨"RollPlayer$Pipe", "pitch", "(D[II)D"⟩, prog_8_method_4_code, 5, (some (.double))) := rfl
theorem cw_Pipe_pitch (own : String) : z_cw own ⟨"RollPlayer$Pipe", "pitch", "(D[II)D"⟩ prog_8_method_4_code 5 (some (.double)) 3 := ⟨(z_tb 568 (by decide +kernel)), (z_tb 8 (by decide +kernel)), ⟨by decide +kernel, by decide +kernel⟩, by decide +kernel, by decide⟩
theorem ou_Reed_13_7 : z_okU1 z_mts "RollPlayer$Reed" 13 3 (.invokespecial 13) 7 142 := ⟨_, _, _, _, _, rfl, by decide, mt_Pipe_pitch, cw_Pipe_pitch _, Or.inr (Or.inr (Or.inr ⟨rfl, by decide +kernel, "RollPlayer$Pipe", (z_tb 566 (by decide +kernel)), (z_tb 1587 (by decide +kernel)), (z_tb 386 (by decide +kernel)), Or.inl rfl, (z_tb 567 (by decide +kernel))⟩)), fun h => absurd h (by decide +kernel)⟩
theorem ou_Reed_13_5 : z_okU1 z_mts "RollPlayer$Reed" 13 3 (.invokespecial 13) 5 142 := ⟨_, _, _, _, _, rfl, by decide, mt_Pipe_pitch, cw_Pipe_pitch _, Or.inr (Or.inr (Or.inr ⟨rfl, by decide +kernel, "RollPlayer$Pipe", (z_tb 566 (by decide +kernel)), (z_tb 1587 (by decide +kernel)), (z_tb 386 (by decide +kernel)), Or.inl rfl, (z_tb 567 (by decide +kernel))⟩)), fun h => absurd h (by decide +kernel)⟩
theorem ou_Reed_13_0 : z_okU1 z_mts "RollPlayer$Reed" 13 3 (.invokespecial 13) 0 142 := ⟨_, _, _, _, _, rfl, by decide, mt_Pipe_pitch, cw_Pipe_pitch _, Or.inr (Or.inr (Or.inr ⟨rfl, by decide +kernel, "RollPlayer$Pipe", (z_tb 566 (by decide +kernel)), (z_tb 1587 (by decide +kernel)), (z_tb 386 (by decide +kernel)), Or.inl rfl, (z_tb 567 (by decide +kernel))⟩)), fun h => absurd h (by decide +kernel)⟩
set_option maxRecDepth 100000 in
theorem mt_Reed_init : z_nth z_mts 143 = some (⟨"RollPlayer$Reed", "<init>", "(II)V"⟩, prog_10_method_1_code, 3, (none)) := rfl
theorem cw_Reed_init (own : String) : z_cw own ⟨"RollPlayer$Reed", "<init>", "(II)V"⟩ prog_10_method_1_code 3 (none) 2 := ⟨(z_tb 379 (by decide +kernel)), (z_tb 9 (by decide +kernel)), ⟨by decide +kernel, by decide +kernel⟩, by decide +kernel, by decide⟩
theorem ou_Bass_3_7 : z_okU1 z_mts "RollPlayer$Bass" 3 2 (.invokespecial 3) 7 143 := ⟨_, _, _, _, _, rfl, by decide, mt_Reed_init, cw_Reed_init _, Or.inr (Or.inr (Or.inl ⟨rfl, rfl, (z_tb 378 (by decide +kernel)), Or.inl (z_tb 392 (by decide +kernel))⟩)), fun _ => rfl⟩
theorem ou_Bass_3_0 : z_okU1 z_mts "RollPlayer$Bass" 3 2 (.invokespecial 3) 0 143 := ⟨_, _, _, _, _, rfl, by decide, mt_Reed_init, cw_Reed_init _, Or.inr (Or.inr (Or.inl ⟨rfl, rfl, (z_tb 378 (by decide +kernel)), Or.inl (z_tb 392 (by decide +kernel))⟩)), fun _ => rfl⟩
theorem ou_Bass_9_7 : z_okU1 z_mts "RollPlayer$Bass" 9 2 (.invokespecial 9) 7 140 := ⟨_, _, _, _, _, rfl, by decide, mt_Pipe_air, cw_Pipe_air _, Or.inr (Or.inr (Or.inr ⟨rfl, by decide +kernel, "RollPlayer$Reed", (z_tb 786 (by decide +kernel)), (z_tb 787 (by decide +kernel)), (z_tb 398 (by decide +kernel)), Or.inr (z_tb 386 (by decide +kernel)), (z_tb 780 (by decide +kernel))⟩)), fun h => absurd h (by decide +kernel)⟩
theorem ou_Bass_9_0 : z_okU1 z_mts "RollPlayer$Bass" 9 2 (.invokespecial 9) 0 140 := ⟨_, _, _, _, _, rfl, by decide, mt_Pipe_air, cw_Pipe_air _, Or.inr (Or.inr (Or.inr ⟨rfl, by decide +kernel, "RollPlayer$Reed", (z_tb 786 (by decide +kernel)), (z_tb 787 (by decide +kernel)), (z_tb 398 (by decide +kernel)), Or.inr (z_tb 386 (by decide +kernel)), (z_tb 780 (by decide +kernel))⟩)), fun h => absurd h (by decide +kernel)⟩
set_option maxRecDepth 100000 in
theorem mt_Reed_pitch : z_nth z_mts 145 = some (⟨"RollPlayer$Reed", "pitch", "(D[II)D"⟩, prog_10_method_3_code, 7, (some (.double))) := rfl
theorem cw_Reed_pitch (own : String) : z_cw own ⟨"RollPlayer$Reed", "pitch", "(D[II)D"⟩ prog_10_method_3_code 7 (some (.double)) 3 := ⟨(z_tb 565 (by decide +kernel)), (z_tb 9 (by decide +kernel)), ⟨by decide +kernel, by decide +kernel⟩, by decide +kernel, by decide⟩
theorem ou_Bass_13_7 : z_okU1 z_mts "RollPlayer$Bass" 13 3 (.invokespecial 13) 7 145 := ⟨_, _, _, _, _, rfl, by decide, mt_Reed_pitch, cw_Reed_pitch _, Or.inr (Or.inr (Or.inr ⟨rfl, by decide +kernel, "RollPlayer$Reed", (z_tb 563 (by decide +kernel)), (z_tb 1586 (by decide +kernel)), (z_tb 398 (by decide +kernel)), Or.inl rfl, (z_tb 564 (by decide +kernel))⟩)), fun h => absurd h (by decide +kernel)⟩
theorem ou_Bass_13_0 : z_okU1 z_mts "RollPlayer$Bass" 13 3 (.invokespecial 13) 0 145 := ⟨_, _, _, _, _, rfl, by decide, mt_Reed_pitch, cw_Reed_pitch _, Or.inr (Or.inr (Or.inr ⟨rfl, by decide +kernel, "RollPlayer$Reed", (z_tb 563 (by decide +kernel)), (z_tb 1586 (by decide +kernel)), (z_tb 398 (by decide +kernel)), Or.inl rfl, (z_tb 564 (by decide +kernel))⟩)), fun h => absurd h (by decide +kernel)⟩
theorem ou_Drum_3_7 : z_okU1 z_mts "RollPlayer$Drum" 3 2 (.invokespecial 3) 7 134 := ⟨_, _, _, _, _, rfl, by decide, mt_N_init, cw_N_init _, Or.inr (Or.inr (Or.inl ⟨rfl, rfl, (z_tb 348 (by decide +kernel)), Or.inl (z_tb 404 (by decide +kernel))⟩)), fun _ => rfl⟩
theorem ou_Drum_3_6 : z_okU1 z_mts "RollPlayer$Drum" 3 2 (.invokespecial 3) 6 134 := ⟨_, _, _, _, _, rfl, by decide, mt_N_init, cw_N_init _, Or.inr (Or.inr (Or.inl ⟨rfl, rfl, (z_tb 348 (by decide +kernel)), Or.inl (z_tb 404 (by decide +kernel))⟩)), fun _ => rfl⟩
theorem ou_Drum_3_5 : z_okU1 z_mts "RollPlayer$Drum" 3 2 (.invokespecial 3) 5 134 := ⟨_, _, _, _, _, rfl, by decide, mt_N_init, cw_N_init _, Or.inr (Or.inr (Or.inl ⟨rfl, rfl, (z_tb 348 (by decide +kernel)), Or.inl (z_tb 404 (by decide +kernel))⟩)), fun _ => rfl⟩
theorem ou_Drum_3_3 : z_okU1 z_mts "RollPlayer$Drum" 3 2 (.invokespecial 3) 3 134 := ⟨_, _, _, _, _, rfl, by decide, mt_N_init, cw_N_init _, Or.inr (Or.inr (Or.inl ⟨rfl, rfl, (z_tb 348 (by decide +kernel)), Or.inl (z_tb 404 (by decide +kernel))⟩)), fun _ => rfl⟩
theorem ou_Drum_3_2 : z_okU1 z_mts "RollPlayer$Drum" 3 2 (.invokespecial 3) 2 134 := ⟨_, _, _, _, _, rfl, by decide, mt_N_init, cw_N_init _, Or.inr (Or.inr (Or.inl ⟨rfl, rfl, (z_tb 348 (by decide +kernel)), Or.inl (z_tb 404 (by decide +kernel))⟩)), fun _ => rfl⟩
theorem ou_Drum_3_1 : z_okU1 z_mts "RollPlayer$Drum" 3 2 (.invokespecial 3) 1 134 := ⟨_, _, _, _, _, rfl, by decide, mt_N_init, cw_N_init _, Or.inr (Or.inr (Or.inl ⟨rfl, rfl, (z_tb 348 (by decide +kernel)), Or.inl (z_tb 404 (by decide +kernel))⟩)), fun _ => rfl⟩
theorem ou_Drum_3_0 : z_okU1 z_mts "RollPlayer$Drum" 3 2 (.invokespecial 3) 0 134 := ⟨_, _, _, _, _, rfl, by decide, mt_N_init, cw_N_init _, Or.inr (Or.inr (Or.inl ⟨rfl, rfl, (z_tb 348 (by decide +kernel)), Or.inl (z_tb 404 (by decide +kernel))⟩)), fun _ => rfl⟩
theorem ou_Pluck_3_7 : z_okU1 z_mts "RollPlayer$Plucked" 3 2 (.invokespecial 3) 7 134 := ⟨_, _, _, _, _, rfl, by decide, mt_N_init, cw_N_init _, Or.inr (Or.inr (Or.inl ⟨rfl, rfl, (z_tb 348 (by decide +kernel)), Or.inl (z_tb 416 (by decide +kernel))⟩)), fun _ => rfl⟩
theorem ou_Pluck_3_6 : z_okU1 z_mts "RollPlayer$Plucked" 3 2 (.invokespecial 3) 6 134 := ⟨_, _, _, _, _, rfl, by decide, mt_N_init, cw_N_init _, Or.inr (Or.inr (Or.inl ⟨rfl, rfl, (z_tb 348 (by decide +kernel)), Or.inl (z_tb 416 (by decide +kernel))⟩)), fun _ => rfl⟩
theorem ou_Pluck_3_5 : z_okU1 z_mts "RollPlayer$Plucked" 3 2 (.invokespecial 3) 5 134 := ⟨_, _, _, _, _, rfl, by decide, mt_N_init, cw_N_init _, Or.inr (Or.inr (Or.inl ⟨rfl, rfl, (z_tb 348 (by decide +kernel)), Or.inl (z_tb 416 (by decide +kernel))⟩)), fun _ => rfl⟩
theorem ou_Pluck_3_3 : z_okU1 z_mts "RollPlayer$Plucked" 3 2 (.invokespecial 3) 3 134 := ⟨_, _, _, _, _, rfl, by decide, mt_N_init, cw_N_init _, Or.inr (Or.inr (Or.inl ⟨rfl, rfl, (z_tb 348 (by decide +kernel)), Or.inl (z_tb 416 (by decide +kernel))⟩)), fun _ => rfl⟩
theorem ou_Pluck_3_2 : z_okU1 z_mts "RollPlayer$Plucked" 3 2 (.invokespecial 3) 2 134 := ⟨_, _, _, _, _, rfl, by decide, mt_N_init, cw_N_init _, Or.inr (Or.inr (Or.inl ⟨rfl, rfl, (z_tb 348 (by decide +kernel)), Or.inl (z_tb 416 (by decide +kernel))⟩)), fun _ => rfl⟩
theorem ou_Pluck_3_1 : z_okU1 z_mts "RollPlayer$Plucked" 3 2 (.invokespecial 3) 1 134 := ⟨_, _, _, _, _, rfl, by decide, mt_N_init, cw_N_init _, Or.inr (Or.inr (Or.inl ⟨rfl, rfl, (z_tb 348 (by decide +kernel)), Or.inl (z_tb 416 (by decide +kernel))⟩)), fun _ => rfl⟩
theorem ou_Pluck_3_0 : z_okU1 z_mts "RollPlayer$Plucked" 3 2 (.invokespecial 3) 0 134 := ⟨_, _, _, _, _, rfl, by decide, mt_N_init, cw_N_init _, Or.inr (Or.inr (Or.inl ⟨rfl, rfl, (z_tb 348 (by decide +kernel)), Or.inl (z_tb 416 (by decide +kernel))⟩)), fun _ => rfl⟩
theorem ou_Pluck_15_6 : z_okU1 z_mts "RollPlayer$Plucked" 15 1 (.invokevirtual 15) 6 136 := ⟨_, _, _, _, _, rfl, by decide, mt_N_ratioOf, cw_N_ratioOf _, Or.inr (Or.inl ⟨rfl, ⟨"RollPlayer$Plucked", "ratioOf", "(D)D"⟩, "RollPlayer$Instrument", rfl, (z_tb 586 (by decide +kernel)), (z_tb 587 (by decide +kernel)), ⟨by decide +kernel, by decide +kernel⟩, Or.inl ⟨(z_tb 575 (by decide +kernel)), prog_6_method_4_code, 3, (some (.double)), (z_tb 576 (by decide +kernel))⟩, (z_tb 589 (by decide +kernel)), (z_tb 575 (by decide +kernel))⟩), fun h => absurd h (by decide +kernel)⟩
theorem ou_Pluck_15_1 : z_okU1 z_mts "RollPlayer$Plucked" 15 1 (.invokevirtual 15) 1 136 := ⟨_, _, _, _, _, rfl, by decide, mt_N_ratioOf, cw_N_ratioOf _, Or.inr (Or.inl ⟨rfl, ⟨"RollPlayer$Plucked", "ratioOf", "(D)D"⟩, "RollPlayer$Instrument", rfl, (z_tb 586 (by decide +kernel)), (z_tb 587 (by decide +kernel)), ⟨by decide +kernel, by decide +kernel⟩, Or.inl ⟨(z_tb 575 (by decide +kernel)), prog_6_method_4_code, 3, (some (.double)), (z_tb 576 (by decide +kernel))⟩, (z_tb 588 (by decide +kernel)), (z_tb 575 (by decide +kernel))⟩), fun h => absurd h (by decide +kernel)⟩
set_option maxRecDepth 100000 in
theorem mt_Pluck_nearest : z_nth z_mts 154 = some (⟨"RollPlayer$Plucked", "nearest", "(D)D"⟩, prog_9_method_4_code, 7, (some (.double))) := rfl
theorem cw_Pluck_nearest (own : String) : z_cw own ⟨"RollPlayer$Plucked", "nearest", "(D)D"⟩ prog_9_method_4_code 7 (some (.double)) 1 := ⟨(z_tb 593 (by decide +kernel)), (z_tb 12 (by decide +kernel)), ⟨by decide +kernel, by decide +kernel⟩, by decide +kernel, by decide⟩
set_option maxRecDepth 100000 in
theorem mt_Pluck_init : z_nth z_mts 151 = some (⟨"RollPlayer$Plucked", "<init>", "(II)V"⟩, prog_9_method_1_code, 3, (none)) := rfl
theorem cw_Pluck_init (own : String) : z_cw own ⟨"RollPlayer$Plucked", "<init>", "(II)V"⟩ prog_9_method_1_code 3 (none) 2 := ⟨(z_tb 415 (by decide +kernel)), (z_tb 12 (by decide +kernel)), ⟨by decide +kernel, by decide +kernel⟩, by decide +kernel, by decide⟩
theorem ou_Bell_3_6 : z_okU1 z_mts "RollPlayer$Bell" 3 2 (.invokespecial 3) 6 151 := ⟨_, _, _, _, _, rfl, by decide, mt_Pluck_init, cw_Pluck_init _, Or.inr (Or.inr (Or.inl ⟨rfl, rfl, (z_tb 414 (by decide +kernel)), Or.inl (z_tb 428 (by decide +kernel))⟩)), fun _ => rfl⟩
theorem ou_Bell_3_1 : z_okU1 z_mts "RollPlayer$Bell" 3 2 (.invokespecial 3) 1 151 := ⟨_, _, _, _, _, rfl, by decide, mt_Pluck_init, cw_Pluck_init _, Or.inr (Or.inr (Or.inl ⟨rfl, rfl, (z_tb 414 (by decide +kernel)), Or.inl (z_tb 428 (by decide +kernel))⟩)), fun _ => rfl⟩
set_option maxRecDepth 100000 in
theorem mt_Pluck_loudness : z_nth z_mts 152 = some (⟨"RollPlayer$Plucked", "loudness", "(III[I)I"⟩, prog_9_method_2_code, 5, (some (.int))) := rfl
theorem cw_Pluck_loudness (own : String) : z_cw own ⟨"RollPlayer$Plucked", "loudness", "(III[I)I"⟩ prog_9_method_2_code 5 (some (.int)) 4 := ⟨(z_tb 796 (by decide +kernel)), (z_tb 12 (by decide +kernel)), ⟨by decide +kernel, by decide +kernel⟩, by decide +kernel, by decide⟩
theorem ou_Bell_9_6 : z_okU1 z_mts "RollPlayer$Bell" 9 4 (.invokespecial 9) 6 152 := ⟨_, _, _, _, _, rfl, by decide, mt_Pluck_loudness, cw_Pluck_loudness _, Or.inr (Or.inr (Or.inr ⟨rfl, by decide +kernel, "RollPlayer$Plucked", (z_tb 794 (by decide +kernel)), (z_tb 1590 (by decide +kernel)), (z_tb 434 (by decide +kernel)), Or.inl rfl, (z_tb 795 (by decide +kernel))⟩)), fun h => absurd h (by decide +kernel)⟩
theorem ou_Bell_9_1 : z_okU1 z_mts "RollPlayer$Bell" 9 4 (.invokespecial 9) 1 152 := ⟨_, _, _, _, _, rfl, by decide, mt_Pluck_loudness, cw_Pluck_loudness _, Or.inr (Or.inr (Or.inr ⟨rfl, by decide +kernel, "RollPlayer$Plucked", (z_tb 794 (by decide +kernel)), (z_tb 1590 (by decide +kernel)), (z_tb 434 (by decide +kernel)), Or.inl rfl, (z_tb 795 (by decide +kernel))⟩)), fun h => absurd h (by decide +kernel)⟩
set_option maxRecDepth 100000 in
theorem mt_Pluck_pitch : z_nth z_mts 153 = some (⟨"RollPlayer$Plucked", "pitch", "(D[II)D"⟩, prog_9_method_3_code, 7, (some (.double))) := rfl
theorem cw_Pluck_pitch (own : String) : z_cw own ⟨"RollPlayer$Plucked", "pitch", "(D[II)D"⟩ prog_9_method_3_code 7 (some (.double)) 3 := ⟨(z_tb 585 (by decide +kernel)), (z_tb 12 (by decide +kernel)), ⟨by decide +kernel, by decide +kernel⟩, by decide +kernel, by decide⟩
theorem ou_Bell_13_6 : z_okU1 z_mts "RollPlayer$Bell" 13 3 (.invokespecial 13) 6 153 := ⟨_, _, _, _, _, rfl, by decide, mt_Pluck_pitch, cw_Pluck_pitch _, Or.inr (Or.inr (Or.inr ⟨rfl, by decide +kernel, "RollPlayer$Plucked", (z_tb 583 (by decide +kernel)), (z_tb 1588 (by decide +kernel)), (z_tb 434 (by decide +kernel)), Or.inl rfl, (z_tb 584 (by decide +kernel))⟩)), fun h => absurd h (by decide +kernel)⟩
theorem ou_Bell_13_1 : z_okU1 z_mts "RollPlayer$Bell" 13 3 (.invokespecial 13) 1 153 := ⟨_, _, _, _, _, rfl, by decide, mt_Pluck_pitch, cw_Pluck_pitch _, Or.inr (Or.inr (Or.inr ⟨rfl, by decide +kernel, "RollPlayer$Plucked", (z_tb 583 (by decide +kernel)), (z_tb 1588 (by decide +kernel)), (z_tb 434 (by decide +kernel)), Or.inl rfl, (z_tb 584 (by decide +kernel))⟩)), fun h => absurd h (by decide +kernel)⟩
theorem ou_Coup_3_7 : z_okU1 z_mts "RollPlayer$Coupler" 3 2 (.invokespecial 3) 7 134 := ⟨_, _, _, _, _, rfl, by decide, mt_N_init, cw_N_init _, Or.inr (Or.inr (Or.inl ⟨rfl, rfl, (z_tb 348 (by decide +kernel)), Or.inl (z_tb 440 (by decide +kernel))⟩)), fun _ => rfl⟩
theorem ou_Coup_3_6 : z_okU1 z_mts "RollPlayer$Coupler" 3 2 (.invokespecial 3) 6 134 := ⟨_, _, _, _, _, rfl, by decide, mt_N_init, cw_N_init _, Or.inr (Or.inr (Or.inl ⟨rfl, rfl, (z_tb 348 (by decide +kernel)), Or.inl (z_tb 440 (by decide +kernel))⟩)), fun _ => rfl⟩
theorem ou_Coup_3_5 : z_okU1 z_mts "RollPlayer$Coupler" 3 2 (.invokespecial 3) 5 134 := ⟨_, _, _, _, _, rfl, by decide, mt_N_init, cw_N_init _, Or.inr (Or.inr (Or.inl ⟨rfl, rfl, (z_tb 348 (by decide +kernel)), Or.inl (z_tb 440 (by decide +kernel))⟩)), fun _ => rfl⟩
theorem ou_Coup_3_3 : z_okU1 z_mts "RollPlayer$Coupler" 3 2 (.invokespecial 3) 3 134 := ⟨_, _, _, _, _, rfl, by decide, mt_N_init, cw_N_init _, Or.inr (Or.inr (Or.inl ⟨rfl, rfl, (z_tb 348 (by decide +kernel)), Or.inl (z_tb 440 (by decide +kernel))⟩)), fun _ => rfl⟩
theorem ou_Coup_3_2 : z_okU1 z_mts "RollPlayer$Coupler" 3 2 (.invokespecial 3) 2 134 := ⟨_, _, _, _, _, rfl, by decide, mt_N_init, cw_N_init _, Or.inr (Or.inr (Or.inl ⟨rfl, rfl, (z_tb 348 (by decide +kernel)), Or.inl (z_tb 440 (by decide +kernel))⟩)), fun _ => rfl⟩
theorem ou_Coup_3_1 : z_okU1 z_mts "RollPlayer$Coupler" 3 2 (.invokespecial 3) 1 134 := ⟨_, _, _, _, _, rfl, by decide, mt_N_init, cw_N_init _, Or.inr (Or.inr (Or.inl ⟨rfl, rfl, (z_tb 348 (by decide +kernel)), Or.inl (z_tb 440 (by decide +kernel))⟩)), fun _ => rfl⟩
theorem ou_Coup_3_0 : z_okU1 z_mts "RollPlayer$Coupler" 3 2 (.invokespecial 3) 0 134 := ⟨_, _, _, _, _, rfl, by decide, mt_N_init, cw_N_init _, Or.inr (Or.inr (Or.inl ⟨rfl, rfl, (z_tb 348 (by decide +kernel)), Or.inl (z_tb 440 (by decide +kernel))⟩)), fun _ => rfl⟩
theorem fp_Coup_9_true : [2].all (fun t => z_fb t 5 "RollPlayer$Coupler" "parts" "[LRollPlayer$Instrument;" 1 true && z_fw true "RollPlayer$Coupler" t 5 true) = true := by decide +kernel
theorem fl_Coup_9 : Cond.fieldLink "RollPlayer$Coupler" 9 "RollPlayer$Coupler" "parts" "[LRollPlayer$Instrument;" ∈ lw_tbl := z_tb 442 (by decide +kernel)
theorem fp_Coup_15_true : [2].all (fun t => z_fb t 6 "RollPlayer$Coupler" "memberCount" "I" 0 false && z_fw true "RollPlayer$Coupler" t 6 false) = true := by decide +kernel
theorem fl_Coup_15 : Cond.fieldLink "RollPlayer$Coupler" 15 "RollPlayer$Coupler" "memberCount" "I" ∈ lw_tbl := z_tb 443 (by decide +kernel)
theorem fg_Coup_15 : [2].all (fun t => z_fb t 6 "RollPlayer$Coupler" "memberCount" "I" 0 false) = true := by decide +kernel
theorem fg_Coup_9 : [2].all (fun t => z_fb t 5 "RollPlayer$Coupler" "parts" "[LRollPlayer$Instrument;" 1 true) = true := by decide +kernel
theorem fp_Coup_15_false : [2].all (fun t => z_fb t 6 "RollPlayer$Coupler" "memberCount" "I" 0 false && z_fw false "RollPlayer$Coupler" t 6 false) = true := by decide +kernel
set_option maxRecDepth 100000 in
theorem mt_Coup_partAt : z_nth z_mts 159 = some (⟨"RollPlayer$Coupler", "partAt", "(I)LRollPlayer$Instrument;"⟩, prog_4_method_2_code, 2, (some (.object "RollPlayer$Instrument"))) := rfl
theorem cw_Coup_partAt (own : String) : z_cw own ⟨"RollPlayer$Coupler", "partAt", "(I)LRollPlayer$Instrument;"⟩ prog_4_method_2_code 2 (some (.object "RollPlayer$Instrument")) 1 := ⟨(z_tb 475 (by decide +kernel)), (z_tb 14 (by decide +kernel)), ⟨by decide +kernel, by decide +kernel⟩, by decide +kernel, by decide⟩
theorem ou_Coup_21_2 : z_okU1 z_mts "RollPlayer$Coupler" 21 1 (.invokevirtual 21) 2 159 := ⟨_, _, _, _, _, rfl, by decide, mt_Coup_partAt, cw_Coup_partAt _, Or.inl ⟨rfl, (z_tb 472 (by decide +kernel)), (z_tb 473 (by decide +kernel)), (z_tb 474 (by decide +kernel))⟩, fun h => absurd h (by decide +kernel)⟩
theorem ou_Coup_25_7 : z_okU1 z_mts "RollPlayer$Coupler" 25 3 (.invokevirtual 25) 7 145 := ⟨_, _, _, _, _, rfl, by decide, mt_Reed_pitch, cw_Reed_pitch _, Or.inr (Or.inl ⟨rfl, ⟨"RollPlayer$Instrument", "pitch", "(D[II)D"⟩, "RollPlayer$Instrument", rfl, (z_tb 600 (by decide +kernel)), (z_tb 559 (by decide +kernel)), ⟨by decide +kernel, by decide +kernel⟩, Or.inl ⟨(z_tb 558 (by decide +kernel)), prog_6_method_3_code, 5, (some (.double)), (z_tb 605 (by decide +kernel))⟩, (z_tb 604 (by decide +kernel)), (z_tb 564 (by decide +kernel))⟩), fun h => absurd h (by decide +kernel)⟩
theorem ou_Coup_25_6 : z_okU1 z_mts "RollPlayer$Coupler" 25 3 (.invokevirtual 25) 6 153 := ⟨_, _, _, _, _, rfl, by decide, mt_Pluck_pitch, cw_Pluck_pitch _, Or.inr (Or.inl ⟨rfl, ⟨"RollPlayer$Instrument", "pitch", "(D[II)D"⟩, "RollPlayer$Instrument", rfl, (z_tb 600 (by decide +kernel)), (z_tb 559 (by decide +kernel)), ⟨by decide +kernel, by decide +kernel⟩, Or.inl ⟨(z_tb 558 (by decide +kernel)), prog_6_method_3_code, 5, (some (.double)), (z_tb 605 (by decide +kernel))⟩, (z_tb 603 (by decide +kernel)), (z_tb 584 (by decide +kernel))⟩), fun h => absurd h (by decide +kernel)⟩
theorem ou_Coup_25_5 : z_okU1 z_mts "RollPlayer$Coupler" 25 3 (.invokevirtual 25) 5 142 := ⟨_, _, _, _, _, rfl, by decide, mt_Pipe_pitch, cw_Pipe_pitch _, Or.inr (Or.inl ⟨rfl, ⟨"RollPlayer$Instrument", "pitch", "(D[II)D"⟩, "RollPlayer$Instrument", rfl, (z_tb 600 (by decide +kernel)), (z_tb 559 (by decide +kernel)), ⟨by decide +kernel, by decide +kernel⟩, Or.inl ⟨(z_tb 558 (by decide +kernel)), prog_6_method_3_code, 5, (some (.double)), (z_tb 605 (by decide +kernel))⟩, (z_tb 602 (by decide +kernel)), (z_tb 567 (by decide +kernel))⟩), fun h => absurd h (by decide +kernel)⟩
set_option maxRecDepth 100000 in
theorem mt_N_pitch : z_nth z_mts 135 = some (⟨"RollPlayer$Instrument", "pitch", "(D[II)D"⟩, prog_6_method_3_code, 5, (some (.double))) := rfl
theorem cw_N_pitch (own : String) : z_cw own ⟨"RollPlayer$Instrument", "pitch", "(D[II)D"⟩ prog_6_method_3_code 5 (some (.double)) 3 := ⟨(z_tb 605 (by decide +kernel)), (z_tb 7 (by decide +kernel)), ⟨by decide +kernel, by decide +kernel⟩, by decide +kernel, by decide⟩
theorem ou_Coup_25_3 : z_okU1 z_mts "RollPlayer$Coupler" 25 3 (.invokevirtual 25) 3 135 := ⟨_, _, _, _, _, rfl, by decide, mt_N_pitch, cw_N_pitch _, Or.inl ⟨rfl, (z_tb 600 (by decide +kernel)), (z_tb 558 (by decide +kernel)), (z_tb 601 (by decide +kernel))⟩, fun h => absurd h (by decide +kernel)⟩
set_option maxRecDepth 100000 in
theorem mt_Coup_pitch : z_nth z_mts 162 = some (⟨"RollPlayer$Coupler", "pitch", "(D[II)D"⟩, prog_4_method_5_code, 11, (some (.double))) := rfl
theorem cw_Coup_pitch (own : String) : z_cw own ⟨"RollPlayer$Coupler", "pitch", "(D[II)D"⟩ prog_4_method_5_code 11 (some (.double)) 3 := ⟨(z_tb 598 (by decide +kernel)), (z_tb 14 (by decide +kernel)), ⟨by decide +kernel, by decide +kernel⟩, by decide +kernel, by decide⟩
theorem ou_Coup_25_2 : z_okU1 z_mts "RollPlayer$Coupler" 25 3 (.invokevirtual 25) 2 162 := ⟨_, _, _, _, _, rfl, by decide, mt_Coup_pitch, cw_Coup_pitch _, Or.inr (Or.inl ⟨rfl, ⟨"RollPlayer$Instrument", "pitch", "(D[II)D"⟩, "RollPlayer$Instrument", rfl, (z_tb 600 (by decide +kernel)), (z_tb 559 (by decide +kernel)), ⟨by decide +kernel, by decide +kernel⟩, Or.inl ⟨(z_tb 558 (by decide +kernel)), prog_6_method_3_code, 5, (some (.double)), (z_tb 605 (by decide +kernel))⟩, (z_tb 596 (by decide +kernel)), (z_tb 597 (by decide +kernel))⟩), fun h => absurd h (by decide +kernel)⟩
set_option maxRecDepth 100000 in
theorem mt_Bell_pitch : z_nth z_mts 157 = some (⟨"RollPlayer$Bell", "pitch", "(D[II)D"⟩, prog_3_method_3_code, 7, (some (.double))) := rfl
theorem cw_Bell_pitch (own : String) : z_cw own ⟨"RollPlayer$Bell", "pitch", "(D[II)D"⟩ prog_3_method_3_code 7 (some (.double)) 3 := ⟨(z_tb 582 (by decide +kernel)), (z_tb 13 (by decide +kernel)), ⟨by decide +kernel, by decide +kernel⟩, by decide +kernel, by decide⟩
theorem ou_Coup_25_1 : z_okU1 z_mts "RollPlayer$Coupler" 25 3 (.invokevirtual 25) 1 157 := ⟨_, _, _, _, _, rfl, by decide, mt_Bell_pitch, cw_Bell_pitch _, Or.inr (Or.inl ⟨rfl, ⟨"RollPlayer$Instrument", "pitch", "(D[II)D"⟩, "RollPlayer$Instrument", rfl, (z_tb 600 (by decide +kernel)), (z_tb 559 (by decide +kernel)), ⟨by decide +kernel, by decide +kernel⟩, Or.inl ⟨(z_tb 558 (by decide +kernel)), prog_6_method_3_code, 5, (some (.double)), (z_tb 605 (by decide +kernel))⟩, (z_tb 580 (by decide +kernel)), (z_tb 581 (by decide +kernel))⟩), fun h => absurd h (by decide +kernel)⟩
set_option maxRecDepth 100000 in
theorem mt_Bass_pitch : z_nth z_mts 148 = some (⟨"RollPlayer$Bass", "pitch", "(D[II)D"⟩, prog_2_method_3_code, 7, (some (.double))) := rfl
theorem cw_Bass_pitch (own : String) : z_cw own ⟨"RollPlayer$Bass", "pitch", "(D[II)D"⟩ prog_2_method_3_code 7 (some (.double)) 3 := ⟨(z_tb 562 (by decide +kernel)), (z_tb 10 (by decide +kernel)), ⟨by decide +kernel, by decide +kernel⟩, by decide +kernel, by decide⟩
theorem ou_Coup_25_0 : z_okU1 z_mts "RollPlayer$Coupler" 25 3 (.invokevirtual 25) 0 148 := ⟨_, _, _, _, _, rfl, by decide, mt_Bass_pitch, cw_Bass_pitch _, Or.inr (Or.inl ⟨rfl, ⟨"RollPlayer$Instrument", "pitch", "(D[II)D"⟩, "RollPlayer$Instrument", rfl, (z_tb 600 (by decide +kernel)), (z_tb 559 (by decide +kernel)), ⟨by decide +kernel, by decide +kernel⟩, Or.inl ⟨(z_tb 558 (by decide +kernel)), prog_6_method_3_code, 5, (some (.double)), (z_tb 605 (by decide +kernel))⟩, (z_tb 560 (by decide +kernel)), (z_tb 561 (by decide +kernel))⟩), fun h => absurd h (by decide +kernel)⟩
theorem fl_Coup_29 : Cond.fieldLink "RollPlayer$Coupler" 29 "RollPlayer$Coupler" "number" "I" ∈ lw_tbl := z_tb 352 (by decide +kernel)
theorem fg_Coup_29 : [2].all (fun t => z_fb t 0 "RollPlayer$Coupler" "number" "I" 0 true) = true := by decide +kernel
set_option maxRecDepth 100000 in
theorem mt_N_timesWithin : z_nth z_mts 138 = some (⟨"RollPlayer$Instrument", "timesWithin", "(II)I"⟩, prog_6_method_6_code, 3, (some (.int))) := rfl
theorem cw_N_timesWithin (own : String) : z_cw own ⟨"RollPlayer$Instrument", "timesWithin", "(II)I"⟩ prog_6_method_6_code 3 (some (.int)) 2 := ⟨(z_tb 481 (by decide +kernel)), (z_tb 7 (by decide +kernel)), ⟨by decide +kernel, by decide +kernel⟩, by decide +kernel, by decide⟩
theorem ou_Coup_32_7 : z_okU1 z_mts "RollPlayer$Coupler" 32 2 (.invokevirtual 32) 7 138 := ⟨_, _, _, _, _, rfl, by decide, mt_N_timesWithin, cw_N_timesWithin _, Or.inl ⟨rfl, (z_tb 476 (by decide +kernel)), (z_tb 465 (by decide +kernel)), (z_tb 480 (by decide +kernel))⟩, fun h => absurd h (by decide +kernel)⟩
theorem ou_Coup_32_6 : z_okU1 z_mts "RollPlayer$Coupler" 32 2 (.invokevirtual 32) 6 138 := ⟨_, _, _, _, _, rfl, by decide, mt_N_timesWithin, cw_N_timesWithin _, Or.inl ⟨rfl, (z_tb 476 (by decide +kernel)), (z_tb 465 (by decide +kernel)), (z_tb 479 (by decide +kernel))⟩, fun h => absurd h (by decide +kernel)⟩
theorem ou_Coup_32_5 : z_okU1 z_mts "RollPlayer$Coupler" 32 2 (.invokevirtual 32) 5 138 := ⟨_, _, _, _, _, rfl, by decide, mt_N_timesWithin, cw_N_timesWithin _, Or.inl ⟨rfl, (z_tb 476 (by decide +kernel)), (z_tb 465 (by decide +kernel)), (z_tb 478 (by decide +kernel))⟩, fun h => absurd h (by decide +kernel)⟩
theorem ou_Coup_32_3 : z_okU1 z_mts "RollPlayer$Coupler" 32 2 (.invokevirtual 32) 3 138 := ⟨_, _, _, _, _, rfl, by decide, mt_N_timesWithin, cw_N_timesWithin _, Or.inl ⟨rfl, (z_tb 476 (by decide +kernel)), (z_tb 465 (by decide +kernel)), (z_tb 477 (by decide +kernel))⟩, fun h => absurd h (by decide +kernel)⟩
set_option maxRecDepth 100000 in
theorem mt_Coup_timesWithin : z_nth z_mts 163 = some (⟨"RollPlayer$Coupler", "timesWithin", "(II)I"⟩, prog_4_method_6_code, 6, (some (.int))) := rfl
theorem cw_Coup_timesWithin (own : String) : z_cw own ⟨"RollPlayer$Coupler", "timesWithin", "(II)I"⟩ prog_4_method_6_code 6 (some (.int)) 2 := ⟨(z_tb 471 (by decide +kernel)), (z_tb 14 (by decide +kernel)), ⟨by decide +kernel, by decide +kernel⟩, by decide +kernel, by decide⟩
theorem ou_Coup_32_2 : z_okU1 z_mts "RollPlayer$Coupler" 32 2 (.invokevirtual 32) 2 163 := ⟨_, _, _, _, _, rfl, by decide, mt_Coup_timesWithin, cw_Coup_timesWithin _, Or.inr (Or.inl ⟨rfl, ⟨"RollPlayer$Instrument", "timesWithin", "(II)I"⟩, "RollPlayer$Instrument", rfl, (z_tb 476 (by decide +kernel)), (z_tb 466 (by decide +kernel)), ⟨by decide +kernel, by decide +kernel⟩, Or.inl ⟨(z_tb 465 (by decide +kernel)), prog_6_method_6_code, 3, (some (.int)), (z_tb 481 (by decide +kernel))⟩, (z_tb 469 (by decide +kernel)), (z_tb 470 (by decide +kernel))⟩), fun h => absurd h (by decide +kernel)⟩
theorem ou_Coup_32_1 : z_okU1 z_mts "RollPlayer$Coupler" 32 2 (.invokevirtual 32) 1 138 := ⟨_, _, _, _, _, rfl, by decide, mt_N_timesWithin, cw_N_timesWithin _, Or.inl ⟨rfl, (z_tb 476 (by decide +kernel)), (z_tb 465 (by decide +kernel)), (z_tb 468 (by decide +kernel))⟩, fun h => absurd h (by decide +kernel)⟩
theorem ou_Coup_32_0 : z_okU1 z_mts "RollPlayer$Coupler" 32 2 (.invokevirtual 32) 0 138 := ⟨_, _, _, _, _, rfl, by decide, mt_N_timesWithin, cw_N_timesWithin _, Or.inl ⟨rfl, (z_tb 476 (by decide +kernel)), (z_tb 465 (by decide +kernel)), (z_tb 467 (by decide +kernel))⟩, fun h => absurd h (by decide +kernel)⟩
theorem fp_O_11_true : [4].all (fun t => z_fb t 0 "RollPlayer$Organ" "instruments" "[LRollPlayer$Instrument;" 1 true && z_fw true "RollPlayer$Organ" t 0 true) = true := by decide +kernel
theorem fl_O_11 : Cond.fieldLink "RollPlayer$Organ" 11 "RollPlayer$Organ" "instruments" "[LRollPlayer$Instrument;" ∈ lw_tbl := z_tb 38 (by decide +kernel)
theorem fp_O_17_true : [4].all (fun t => z_fb t 1 "RollPlayer$Organ" "chestKinds" "[I" 1 true && z_fw true "RollPlayer$Organ" t 1 true) = true := by decide +kernel
theorem fl_O_17 : Cond.fieldLink "RollPlayer$Organ" 17 "RollPlayer$Organ" "chestKinds" "[I" ∈ lw_tbl := z_tb 39 (by decide +kernel)
theorem fp_O_21_true : [4].all (fun t => z_fb t 2 "RollPlayer$Organ" "chestStarts" "[I" 1 true && z_fw true "RollPlayer$Organ" t 2 true) = true := by decide +kernel
theorem fl_O_21 : Cond.fieldLink "RollPlayer$Organ" 21 "RollPlayer$Organ" "chestStarts" "[I" ∈ lw_tbl := z_tb 41 (by decide +kernel)
theorem fp_O_24_true : [4].all (fun t => z_fb t 3 "RollPlayer$Organ" "places" "[I" 1 true && z_fw true "RollPlayer$Organ" t 3 true) = true := by decide +kernel
theorem fl_O_24 : Cond.fieldLink "RollPlayer$Organ" 24 "RollPlayer$Organ" "places" "[I" ∈ lw_tbl := z_tb 42 (by decide +kernel)
theorem fp_O_27_true : [4].all (fun t => z_fb t 4 "RollPlayer$Organ" "wireChests" "[I" 1 true && z_fw true "RollPlayer$Organ" t 4 true) = true := by decide +kernel
theorem fl_O_27 : Cond.fieldLink "RollPlayer$Organ" 27 "RollPlayer$Organ" "wireChests" "[I" ∈ lw_tbl := z_tb 44 (by decide +kernel)
theorem fp_O_30_true : [4].all (fun t => z_fb t 5 "RollPlayer$Organ" "wirePlaces" "[I" 1 true && z_fw true "RollPlayer$Organ" t 5 true) = true := by decide +kernel
theorem fl_O_30 : Cond.fieldLink "RollPlayer$Organ" 30 "RollPlayer$Organ" "wirePlaces" "[I" ∈ lw_tbl := z_tb 46 (by decide +kernel)
theorem fp_O_33_true : [4].all (fun t => z_fb t 6 "RollPlayer$Organ" "traces" "[I" 1 true && z_fw true "RollPlayer$Organ" t 6 true) = true := by decide +kernel
theorem fl_O_33 : Cond.fieldLink "RollPlayer$Organ" 33 "RollPlayer$Organ" "traces" "[I" ∈ lw_tbl := z_tb 48 (by decide +kernel)
theorem fp_O_36_true : [4].all (fun t => z_fb t 7 "RollPlayer$Organ" "now" "[I" 1 true && z_fw true "RollPlayer$Organ" t 7 true) = true := by decide +kernel
theorem fl_O_36 : Cond.fieldLink "RollPlayer$Organ" 36 "RollPlayer$Organ" "now" "[I" ∈ lw_tbl := z_tb 50 (by decide +kernel)
theorem fp_O_40_true : [4].all (fun t => z_fb t 8 "RollPlayer$Organ" "kept" "[[I" 1 true && z_fw true "RollPlayer$Organ" t 8 true) = true := by decide +kernel
theorem fl_O_40 : Cond.fieldLink "RollPlayer$Organ" 40 "RollPlayer$Organ" "kept" "[[I" ∈ lw_tbl := z_tb 52 (by decide +kernel)
theorem fp_O_44_true : [4].all (fun t => z_fb t 9 "RollPlayer$Organ" "events" "[I" 1 true && z_fw true "RollPlayer$Organ" t 9 true) = true := by decide +kernel
theorem fl_O_44 : Cond.fieldLink "RollPlayer$Organ" 44 "RollPlayer$Organ" "events" "[I" ∈ lw_tbl := z_tb 53 (by decide +kernel)
theorem fp_O_47_true : [4].all (fun t => z_fb t 10 "RollPlayer$Organ" "instrumentCount" "I" 0 false && z_fw true "RollPlayer$Organ" t 10 false) = true := by decide +kernel
theorem fl_O_47 : Cond.fieldLink "RollPlayer$Organ" 47 "RollPlayer$Organ" "instrumentCount" "I" ∈ lw_tbl := z_tb 55 (by decide +kernel)
theorem fp_O_51_true : [4].all (fun t => z_fb t 11 "RollPlayer$Organ" "chestCount" "I" 0 false && z_fw true "RollPlayer$Organ" t 11 false) = true := by decide +kernel
theorem fl_O_51 : Cond.fieldLink "RollPlayer$Organ" 51 "RollPlayer$Organ" "chestCount" "I" ∈ lw_tbl := z_tb 57 (by decide +kernel)
theorem fp_O_54_true : [4].all (fun t => z_fb t 12 "RollPlayer$Organ" "baseSixteenths" "I" 0 false && z_fw true "RollPlayer$Organ" t 12 false) = true := by decide +kernel
theorem fl_O_54 : Cond.fieldLink "RollPlayer$Organ" 54 "RollPlayer$Organ" "baseSixteenths" "I" ∈ lw_tbl := z_tb 59 (by decide +kernel)
theorem fp_O_57_true : [4].all (fun t => z_fb t 13 "RollPlayer$Organ" "oldestKept" "I" 0 false && z_fw true "RollPlayer$Organ" t 13 false) = true := by decide +kernel
theorem fl_O_57 : Cond.fieldLink "RollPlayer$Organ" 57 "RollPlayer$Organ" "oldestKept" "I" ∈ lw_tbl := z_tb 61 (by decide +kernel)
theorem fp_O_60_true : [4].all (fun t => z_fb t 14 "RollPlayer$Organ" "ticksUsed" "I" 0 false && z_fw true "RollPlayer$Organ" t 14 false) = true := by decide +kernel
theorem fl_O_60 : Cond.fieldLink "RollPlayer$Organ" 60 "RollPlayer$Organ" "ticksUsed" "I" ∈ lw_tbl := z_tb 62 (by decide +kernel)
theorem fp_O_63_true : [4].all (fun t => z_fb t 15 "RollPlayer$Organ" "playing" "Z" 0 false && z_fw true "RollPlayer$Organ" t 15 false) = true := by decide +kernel
theorem fl_O_63 : Cond.fieldLink "RollPlayer$Organ" 63 "RollPlayer$Organ" "playing" "Z" ∈ lw_tbl := z_tb 64 (by decide +kernel)
theorem fp_O_67_true : [4].all (fun t => z_fb t 16 "RollPlayer$Organ" "played" "LRollPlayer$Roll;" 1 false && z_fw true "RollPlayer$Organ" t 16 false) = true := by decide +kernel
theorem fl_O_67 : Cond.fieldLink "RollPlayer$Organ" 67 "RollPlayer$Organ" "played" "LRollPlayer$Roll;" ∈ lw_tbl := z_tb 66 (by decide +kernel)
theorem fg_O_36 : [4].all (fun t => z_fb t 7 "RollPlayer$Organ" "now" "[I" 1 true) = true := by decide +kernel
theorem fg_O_11 : [4].all (fun t => z_fb t 0 "RollPlayer$Organ" "instruments" "[LRollPlayer$Instrument;" 1 true) = true := by decide +kernel
theorem fg_O_47 : [4].all (fun t => z_fb t 10 "RollPlayer$Organ" "instrumentCount" "I" 0 false) = true := by decide +kernel
set_option maxRecDepth 100000 in
theorem mt_O_made : z_nth z_mts 167 = some (⟨"RollPlayer$Organ", "made", "(II)LRollPlayer$Instrument;"⟩, prog_7_method_4_code, 2, (some (.object "RollPlayer$Instrument"))) := rfl
theorem cw_O_made (own : String) : z_cw own ⟨"RollPlayer$Organ", "made", "(II)LRollPlayer$Instrument;"⟩ prog_7_method_4_code 2 (some (.object "RollPlayer$Instrument")) 2 := ⟨(z_tb 341 (by decide +kernel)), (z_tb 2 (by decide +kernel)), ⟨by decide +kernel, by decide +kernel⟩, by decide +kernel, by decide⟩
theorem fp_O_47_false : [4].all (fun t => z_fb t 10 "RollPlayer$Organ" "instrumentCount" "I" 0 false && z_fw false "RollPlayer$Organ" t 10 false) = true := by decide +kernel
theorem ou_O_77_7 : z_okU1 z_mts "RollPlayer$Organ" 77 2 (.invokespecial 77) 7 139 := ⟨_, _, _, _, _, rfl, by decide, mt_Pipe_init, cw_Pipe_init _, Or.inr (Or.inr (Or.inl ⟨rfl, rfl, (z_tb 345 (by decide +kernel)), Or.inl (z_tb 344 (by decide +kernel))⟩)), fun _ => rfl⟩
theorem ou_O_77_5 : z_okU1 z_mts "RollPlayer$Organ" 77 2 (.invokespecial 77) 5 139 := ⟨_, _, _, _, _, rfl, by decide, mt_Pipe_init, cw_Pipe_init _, Or.inr (Or.inr (Or.inl ⟨rfl, rfl, (z_tb 345 (by decide +kernel)), Or.inl (z_tb 344 (by decide +kernel))⟩)), fun _ => rfl⟩
theorem ou_O_77_0 : z_okU1 z_mts "RollPlayer$Organ" 77 2 (.invokespecial 77) 0 139 := ⟨_, _, _, _, _, rfl, by decide, mt_Pipe_init, cw_Pipe_init _, Or.inr (Or.inr (Or.inl ⟨rfl, rfl, (z_tb 345 (by decide +kernel)), Or.inl (z_tb 344 (by decide +kernel))⟩)), fun _ => rfl⟩
theorem ou_O_82_7 : z_okU1 z_mts "RollPlayer$Organ" 82 2 (.invokespecial 82) 7 143 := ⟨_, _, _, _, _, rfl, by decide, mt_Reed_init, cw_Reed_init _, Or.inr (Or.inr (Or.inl ⟨rfl, rfl, (z_tb 378 (by decide +kernel)), Or.inl (z_tb 377 (by decide +kernel))⟩)), fun _ => rfl⟩
theorem ou_O_82_0 : z_okU1 z_mts "RollPlayer$Organ" 82 2 (.invokespecial 82) 0 143 := ⟨_, _, _, _, _, rfl, by decide, mt_Reed_init, cw_Reed_init _, Or.inr (Or.inr (Or.inl ⟨rfl, rfl, (z_tb 378 (by decide +kernel)), Or.inl (z_tb 377 (by decide +kernel))⟩)), fun _ => rfl⟩
set_option maxRecDepth 100000 in
theorem mt_Bass_init : z_nth z_mts 146 = some (⟨"RollPlayer$Bass", "<init>", "(I)V"⟩, prog_2_method_1_code, 2, (none)) := rfl
theorem cw_Bass_init (own : String) : z_cw own ⟨"RollPlayer$Bass", "<init>", "(I)V"⟩ prog_2_method_1_code 2 (none) 1 := ⟨(z_tb 391 (by decide +kernel)), (z_tb 10 (by decide +kernel)), ⟨by decide +kernel, by decide +kernel⟩, by decide +kernel, by decide⟩
theorem ou_O_85_0 : z_okU1 z_mts "RollPlayer$Organ" 85 1 (.invokespecial 85) 0 146 := ⟨_, _, _, _, _, rfl, by decide, mt_Bass_init, cw_Bass_init _, Or.inr (Or.inr (Or.inl ⟨rfl, rfl, (z_tb 390 (by decide +kernel)), Or.inl (z_tb 389 (by decide +kernel))⟩)), fun _ => rfl⟩
set_option maxRecDepth 100000 in
theorem mt_Drum_init : z_nth z_mts 149 = some (⟨"RollPlayer$Drum", "<init>", "(I)V"⟩, prog_5_method_1_code, 2, (none)) := rfl
theorem cw_Drum_init (own : String) : z_cw own ⟨"RollPlayer$Drum", "<init>", "(I)V"⟩ prog_5_method_1_code 2 (none) 1 := ⟨(z_tb 403 (by decide +kernel)), (z_tb 11 (by decide +kernel)), ⟨by decide +kernel, by decide +kernel⟩, by decide +kernel, by decide⟩
theorem ou_O_90_3 : z_okU1 z_mts "RollPlayer$Organ" 90 1 (.invokespecial 90) 3 149 := ⟨_, _, _, _, _, rfl, by decide, mt_Drum_init, cw_Drum_init _, Or.inr (Or.inr (Or.inl ⟨rfl, rfl, (z_tb 402 (by decide +kernel)), Or.inl (z_tb 401 (by decide +kernel))⟩)), fun _ => rfl⟩
theorem ou_O_93_6 : z_okU1 z_mts "RollPlayer$Organ" 93 2 (.invokespecial 93) 6 151 := ⟨_, _, _, _, _, rfl, by decide, mt_Pluck_init, cw_Pluck_init _, Or.inr (Or.inr (Or.inl ⟨rfl, rfl, (z_tb 414 (by decide +kernel)), Or.inl (z_tb 413 (by decide +kernel))⟩)), fun _ => rfl⟩
theorem ou_O_93_1 : z_okU1 z_mts "RollPlayer$Organ" 93 2 (.invokespecial 93) 1 151 := ⟨_, _, _, _, _, rfl, by decide, mt_Pluck_init, cw_Pluck_init _, Or.inr (Or.inr (Or.inl ⟨rfl, rfl, (z_tb 414 (by decide +kernel)), Or.inl (z_tb 413 (by decide +kernel))⟩)), fun _ => rfl⟩
set_option maxRecDepth 100000 in
theorem mt_Bell_init : z_nth z_mts 155 = some (⟨"RollPlayer$Bell", "<init>", "(I)V"⟩, prog_3_method_1_code, 2, (none)) := rfl
theorem cw_Bell_init (own : String) : z_cw own ⟨"RollPlayer$Bell", "<init>", "(I)V"⟩ prog_3_method_1_code 2 (none) 1 := ⟨(z_tb 427 (by decide +kernel)), (z_tb 13 (by decide +kernel)), ⟨by decide +kernel, by decide +kernel⟩, by decide +kernel, by decide⟩
theorem ou_O_96_1 : z_okU1 z_mts "RollPlayer$Organ" 96 1 (.invokespecial 96) 1 155 := ⟨_, _, _, _, _, rfl, by decide, mt_Bell_init, cw_Bell_init _, Or.inr (Or.inr (Or.inl ⟨rfl, rfl, (z_tb 426 (by decide +kernel)), Or.inl (z_tb 425 (by decide +kernel))⟩)), fun _ => rfl⟩
set_option maxRecDepth 100000 in
theorem mt_Coup_init : z_nth z_mts 158 = some (⟨"RollPlayer$Coupler", "<init>", "(I)V"⟩, prog_4_method_1_code, 2, (none)) := rfl
theorem cw_Coup_init (own : String) : z_cw own ⟨"RollPlayer$Coupler", "<init>", "(I)V"⟩ prog_4_method_1_code 2 (none) 1 := ⟨(z_tb 439 (by decide +kernel)), (z_tb 14 (by decide +kernel)), ⟨by decide +kernel, by decide +kernel⟩, by decide +kernel, by decide⟩
theorem ou_O_99_2 : z_okU1 z_mts "RollPlayer$Organ" 99 1 (.invokespecial 99) 2 158 := ⟨_, _, _, _, _, rfl, by decide, mt_Coup_init, cw_Coup_init _, Or.inr (Or.inr (Or.inl ⟨rfl, rfl, (z_tb 438 (by decide +kernel)), Or.inl (z_tb 437 (by decide +kernel))⟩)), fun _ => rfl⟩
set_option maxRecDepth 100000 in
theorem mt_O_instrumentAt : z_nth z_mts 165 = some (⟨"RollPlayer$Organ", "instrumentAt", "(I)LRollPlayer$Instrument;"⟩, prog_7_method_2_code, 2, (some (.object "RollPlayer$Instrument"))) := rfl
theorem cw_O_instrumentAt (own : String) : z_cw own ⟨"RollPlayer$Organ", "instrumentAt", "(I)LRollPlayer$Instrument;"⟩ prog_7_method_2_code 2 (some (.object "RollPlayer$Instrument")) 1 := ⟨(z_tb 463 (by decide +kernel)), (z_tb 2 (by decide +kernel)), ⟨by decide +kernel, by decide +kernel⟩, by decide +kernel, by decide⟩
theorem ou_O_100_4 : z_okU1 z_mts "RollPlayer$Organ" 100 1 (.invokevirtual 100) 4 165 := ⟨_, _, _, _, _, rfl, by decide, mt_O_instrumentAt, cw_O_instrumentAt _, Or.inl ⟨rfl, (z_tb 487 (by decide +kernel)), (z_tb 461 (by decide +kernel)), (z_tb 462 (by decide +kernel))⟩, fun h => absurd h (by decide +kernel)⟩
theorem fl_O_104 : Cond.fieldLink "RollPlayer$Organ" 104 "RollPlayer$Instrument" "size" "I" ∈ lw_tbl := z_tb 358 (by decide +kernel)
theorem fg_O_104 : [0, 1, 2, 3, 5, 6, 7].all (fun t => z_fb t 2 "RollPlayer$Instrument" "size" "I" 0 false) = true := by decide +kernel
theorem ou_O_107_7 : z_okU1 z_mts "RollPlayer$Organ" 107 2 (.invokevirtual 107) 7 138 := ⟨_, _, _, _, _, rfl, by decide, mt_N_timesWithin, cw_N_timesWithin _, Or.inl ⟨rfl, (z_tb 488 (by decide +kernel)), (z_tb 465 (by decide +kernel)), (z_tb 480 (by decide +kernel))⟩, fun h => absurd h (by decide +kernel)⟩
theorem ou_O_107_6 : z_okU1 z_mts "RollPlayer$Organ" 107 2 (.invokevirtual 107) 6 138 := ⟨_, _, _, _, _, rfl, by decide, mt_N_timesWithin, cw_N_timesWithin _, Or.inl ⟨rfl, (z_tb 488 (by decide +kernel)), (z_tb 465 (by decide +kernel)), (z_tb 479 (by decide +kernel))⟩, fun h => absurd h (by decide +kernel)⟩
theorem ou_O_107_5 : z_okU1 z_mts "RollPlayer$Organ" 107 2 (.invokevirtual 107) 5 138 := ⟨_, _, _, _, _, rfl, by decide, mt_N_timesWithin, cw_N_timesWithin _, Or.inl ⟨rfl, (z_tb 488 (by decide +kernel)), (z_tb 465 (by decide +kernel)), (z_tb 478 (by decide +kernel))⟩, fun h => absurd h (by decide +kernel)⟩
theorem ou_O_107_3 : z_okU1 z_mts "RollPlayer$Organ" 107 2 (.invokevirtual 107) 3 138 := ⟨_, _, _, _, _, rfl, by decide, mt_N_timesWithin, cw_N_timesWithin _, Or.inl ⟨rfl, (z_tb 488 (by decide +kernel)), (z_tb 465 (by decide +kernel)), (z_tb 477 (by decide +kernel))⟩, fun h => absurd h (by decide +kernel)⟩
theorem ou_O_107_2 : z_okU1 z_mts "RollPlayer$Organ" 107 2 (.invokevirtual 107) 2 163 := ⟨_, _, _, _, _, rfl, by decide, mt_Coup_timesWithin, cw_Coup_timesWithin _, Or.inr (Or.inl ⟨rfl, ⟨"RollPlayer$Instrument", "timesWithin", "(II)I"⟩, "RollPlayer$Instrument", rfl, (z_tb 488 (by decide +kernel)), (z_tb 466 (by decide +kernel)), ⟨by decide +kernel, by decide +kernel⟩, Or.inl ⟨(z_tb 465 (by decide +kernel)), prog_6_method_6_code, 3, (some (.int)), (z_tb 481 (by decide +kernel))⟩, (z_tb 469 (by decide +kernel)), (z_tb 470 (by decide +kernel))⟩), fun h => absurd h (by decide +kernel)⟩
theorem ou_O_107_1 : z_okU1 z_mts "RollPlayer$Organ" 107 2 (.invokevirtual 107) 1 138 := ⟨_, _, _, _, _, rfl, by decide, mt_N_timesWithin, cw_N_timesWithin _, Or.inl ⟨rfl, (z_tb 488 (by decide +kernel)), (z_tb 465 (by decide +kernel)), (z_tb 468 (by decide +kernel))⟩, fun h => absurd h (by decide +kernel)⟩
theorem ou_O_107_0 : z_okU1 z_mts "RollPlayer$Organ" 107 2 (.invokevirtual 107) 0 138 := ⟨_, _, _, _, _, rfl, by decide, mt_N_timesWithin, cw_N_timesWithin _, Or.inl ⟨rfl, (z_tb 488 (by decide +kernel)), (z_tb 465 (by decide +kernel)), (z_tb 467 (by decide +kernel))⟩, fun h => absurd h (by decide +kernel)⟩
theorem fp_O_104_false : [0, 1, 2, 3, 5, 6, 7].all (fun t => z_fb t 2 "RollPlayer$Instrument" "size" "I" 0 false && z_fw false "RollPlayer$Organ" t 2 false) = true := by decide +kernel
theorem fg_O_54 : [4].all (fun t => z_fb t 12 "RollPlayer$Organ" "baseSixteenths" "I" 0 false) = true := by decide +kernel
theorem fg_O_33 : [4].all (fun t => z_fb t 6 "RollPlayer$Organ" "traces" "[I" 1 true) = true := by decide +kernel
theorem ou_O_113_7 : z_okU1 z_mts "RollPlayer$Organ" 113 3 (.invokevirtual 113) 7 145 := ⟨_, _, _, _, _, rfl, by decide, mt_Reed_pitch, cw_Reed_pitch _, Or.inr (Or.inl ⟨rfl, ⟨"RollPlayer$Instrument", "pitch", "(D[II)D"⟩, "RollPlayer$Instrument", rfl, (z_tb 557 (by decide +kernel)), (z_tb 559 (by decide +kernel)), ⟨by decide +kernel, by decide +kernel⟩, Or.inl ⟨(z_tb 558 (by decide +kernel)), prog_6_method_3_code, 5, (some (.double)), (z_tb 605 (by decide +kernel))⟩, (z_tb 604 (by decide +kernel)), (z_tb 564 (by decide +kernel))⟩), fun h => absurd h (by decide +kernel)⟩
theorem ou_O_113_6 : z_okU1 z_mts "RollPlayer$Organ" 113 3 (.invokevirtual 113) 6 153 := ⟨_, _, _, _, _, rfl, by decide, mt_Pluck_pitch, cw_Pluck_pitch _, Or.inr (Or.inl ⟨rfl, ⟨"RollPlayer$Instrument", "pitch", "(D[II)D"⟩, "RollPlayer$Instrument", rfl, (z_tb 557 (by decide +kernel)), (z_tb 559 (by decide +kernel)), ⟨by decide +kernel, by decide +kernel⟩, Or.inl ⟨(z_tb 558 (by decide +kernel)), prog_6_method_3_code, 5, (some (.double)), (z_tb 605 (by decide +kernel))⟩, (z_tb 603 (by decide +kernel)), (z_tb 584 (by decide +kernel))⟩), fun h => absurd h (by decide +kernel)⟩
theorem ou_O_113_5 : z_okU1 z_mts "RollPlayer$Organ" 113 3 (.invokevirtual 113) 5 142 := ⟨_, _, _, _, _, rfl, by decide, mt_Pipe_pitch, cw_Pipe_pitch _, Or.inr (Or.inl ⟨rfl, ⟨"RollPlayer$Instrument", "pitch", "(D[II)D"⟩, "RollPlayer$Instrument", rfl, (z_tb 557 (by decide +kernel)), (z_tb 559 (by decide +kernel)), ⟨by decide +kernel, by decide +kernel⟩, Or.inl ⟨(z_tb 558 (by decide +kernel)), prog_6_method_3_code, 5, (some (.double)), (z_tb 605 (by decide +kernel))⟩, (z_tb 602 (by decide +kernel)), (z_tb 567 (by decide +kernel))⟩), fun h => absurd h (by decide +kernel)⟩
theorem ou_O_113_3 : z_okU1 z_mts "RollPlayer$Organ" 113 3 (.invokevirtual 113) 3 135 := ⟨_, _, _, _, _, rfl, by decide, mt_N_pitch, cw_N_pitch _, Or.inl ⟨rfl, (z_tb 557 (by decide +kernel)), (z_tb 558 (by decide +kernel)), (z_tb 601 (by decide +kernel))⟩, fun h => absurd h (by decide +kernel)⟩
theorem ou_O_113_2 : z_okU1 z_mts "RollPlayer$Organ" 113 3 (.invokevirtual 113) 2 162 := ⟨_, _, _, _, _, rfl, by decide, mt_Coup_pitch, cw_Coup_pitch _, Or.inr (Or.inl ⟨rfl, ⟨"RollPlayer$Instrument", "pitch", "(D[II)D"⟩, "RollPlayer$Instrument", rfl, (z_tb 557 (by decide +kernel)), (z_tb 559 (by decide +kernel)), ⟨by decide +kernel, by decide +kernel⟩, Or.inl ⟨(z_tb 558 (by decide +kernel)), prog_6_method_3_code, 5, (some (.double)), (z_tb 605 (by decide +kernel))⟩, (z_tb 596 (by decide +kernel)), (z_tb 597 (by decide +kernel))⟩), fun h => absurd h (by decide +kernel)⟩
theorem ou_O_113_1 : z_okU1 z_mts "RollPlayer$Organ" 113 3 (.invokevirtual 113) 1 157 := ⟨_, _, _, _, _, rfl, by decide, mt_Bell_pitch, cw_Bell_pitch _, Or.inr (Or.inl ⟨rfl, ⟨"RollPlayer$Instrument", "pitch", "(D[II)D"⟩, "RollPlayer$Instrument", rfl, (z_tb 557 (by decide +kernel)), (z_tb 559 (by decide +kernel)), ⟨by decide +kernel, by decide +kernel⟩, Or.inl ⟨(z_tb 558 (by decide +kernel)), prog_6_method_3_code, 5, (some (.double)), (z_tb 605 (by decide +kernel))⟩, (z_tb 580 (by decide +kernel)), (z_tb 581 (by decide +kernel))⟩), fun h => absurd h (by decide +kernel)⟩
theorem ou_O_113_0 : z_okU1 z_mts "RollPlayer$Organ" 113 3 (.invokevirtual 113) 0 148 := ⟨_, _, _, _, _, rfl, by decide, mt_Bass_pitch, cw_Bass_pitch _, Or.inr (Or.inl ⟨rfl, ⟨"RollPlayer$Instrument", "pitch", "(D[II)D"⟩, "RollPlayer$Instrument", rfl, (z_tb 557 (by decide +kernel)), (z_tb 559 (by decide +kernel)), ⟨by decide +kernel, by decide +kernel⟩, Or.inl ⟨(z_tb 558 (by decide +kernel)), prog_6_method_3_code, 5, (some (.double)), (z_tb 605 (by decide +kernel))⟩, (z_tb 560 (by decide +kernel)), (z_tb 561 (by decide +kernel))⟩), fun h => absurd h (by decide +kernel)⟩
theorem fg_O_51 : [4].all (fun t => z_fb t 11 "RollPlayer$Organ" "chestCount" "I" 0 false) = true := by decide +kernel
theorem fg_O_21 : [4].all (fun t => z_fb t 2 "RollPlayer$Organ" "chestStarts" "[I" 1 true) = true := by decide +kernel
set_option maxRecDepth 100000 in
theorem mt_O_placeCount : z_nth z_mts 171 = some (⟨"RollPlayer$Organ", "placeCount", "()I"⟩, prog_7_method_8_code, 1, (some (.int))) := rfl
theorem cw_O_placeCount (own : String) : z_cw own ⟨"RollPlayer$Organ", "placeCount", "()I"⟩ prog_7_method_8_code 1 (some (.int)) 0 := ⟨(z_tb 500 (by decide +kernel)), (z_tb 2 (by decide +kernel)), ⟨by decide +kernel, by decide +kernel⟩, by decide +kernel, by decide⟩
theorem ou_O_125_4 : z_okU1 z_mts "RollPlayer$Organ" 125 0 (.invokevirtual 125) 4 171 := ⟨_, _, _, _, _, rfl, by decide, mt_O_placeCount, cw_O_placeCount _, Or.inl ⟨rfl, (z_tb 507 (by decide +kernel)), (z_tb 498 (by decide +kernel)), (z_tb 499 (by decide +kernel))⟩, fun h => absurd h (by decide +kernel)⟩
theorem fg_O_17 : [4].all (fun t => z_fb t 1 "RollPlayer$Organ" "chestKinds" "[I" 1 true) = true := by decide +kernel
theorem fg_O_24 : [4].all (fun t => z_fb t 3 "RollPlayer$Organ" "places" "[I" 1 true) = true := by decide +kernel
theorem fp_O_51_false : [4].all (fun t => z_fb t 11 "RollPlayer$Organ" "chestCount" "I" 0 false && z_fw false "RollPlayer$Organ" t 11 false) = true := by decide +kernel
set_option maxRecDepth 100000 in
theorem mt_O_hasChest : z_nth z_mts 170 = some (⟨"RollPlayer$Organ", "hasChest", "(I)Z"⟩, prog_7_method_7_code, 2, (some (.boolean))) := rfl
theorem cw_O_hasChest (own : String) : z_cw own ⟨"RollPlayer$Organ", "hasChest", "(I)Z"⟩ prog_7_method_7_code 2 (some (.boolean)) 1 := ⟨(z_tb 515 (by decide +kernel)), (z_tb 2 (by decide +kernel)), ⟨by decide +kernel, by decide +kernel⟩, by decide +kernel, by decide⟩
theorem ou_O_129_4 : z_okU1 z_mts "RollPlayer$Organ" 129 1 (.invokevirtual 129) 4 170 := ⟨_, _, _, _, _, rfl, by decide, mt_O_hasChest, cw_O_hasChest _, Or.inl ⟨rfl, (z_tb 520 (by decide +kernel)), (z_tb 513 (by decide +kernel)), (z_tb 514 (by decide +kernel))⟩, fun h => absurd h (by decide +kernel)⟩
set_option maxRecDepth 100000 in
theorem mt_O_soundAt : z_nth z_mts 177 = some (⟨"RollPlayer$Organ", "soundAt", "(I)I"⟩, prog_7_method_14_code, 2, (some (.int))) := rfl
theorem cw_O_soundAt (own : String) : z_cw own ⟨"RollPlayer$Organ", "soundAt", "(I)I"⟩ prog_7_method_14_code 2 (some (.int)) 1 := ⟨(z_tb 672 (by decide +kernel)), (z_tb 2 (by decide +kernel)), ⟨by decide +kernel, by decide +kernel⟩, by decide +kernel, by decide⟩
theorem ou_O_133_4 : z_okU1 z_mts "RollPlayer$Organ" 133 1 (.invokevirtual 133) 4 177 := ⟨_, _, _, _, _, rfl, by decide, mt_O_soundAt, cw_O_soundAt _, Or.inl ⟨rfl, (z_tb 669 (by decide +kernel)), (z_tb 670 (by decide +kernel)), (z_tb 671 (by decide +kernel))⟩, fun h => absurd h (by decide +kernel)⟩
set_option maxRecDepth 100000 in
theorem mt_O_trackOf : z_nth z_mts 175 = some (⟨"RollPlayer$Organ", "trackOf", "(I)I"⟩, prog_7_method_12_code, 1, (some (.int))) := rfl
theorem cw_O_trackOf (own : String) : z_cw own ⟨"RollPlayer$Organ", "trackOf", "(I)I"⟩ prog_7_method_12_code 1 (some (.int)) 1 := ⟨(z_tb 682 (by decide +kernel)), (z_tb 2 (by decide +kernel)), ⟨by decide +kernel, by decide +kernel⟩, by decide +kernel, by decide⟩
theorem fg_O_44 : [4].all (fun t => z_fb t 9 "RollPlayer$Organ" "events" "[I" 1 true) = true := by decide +kernel
theorem fl_O_140 : Cond.fieldLink "RollPlayer$Organ" 140 "RollPlayer$Instrument" "number" "I" ∈ lw_tbl := z_tb 354 (by decide +kernel)
theorem fg_O_140 : [0, 1, 2, 3, 5, 6, 7].all (fun t => z_fb t 0 "RollPlayer$Instrument" "number" "I" 0 true) = true := by decide +kernel
theorem sl_O_log : Cond.selects "RollPlayer$Organ" ⟨"RollPlayer$Organ", "log", "(III)V"⟩ ⟨"RollPlayer$Organ", "log", "(III)V"⟩ ∈ lw_tbl := by decide +kernel
set_option maxRecDepth 100000 in
theorem mt_O_log : z_nth z_mts 180 = some (⟨"RollPlayer$Organ", "log", "(III)V"⟩, prog_7_method_17_code, 5, (none)) := rfl
theorem cw_O_log (own : String) : z_cw own ⟨"RollPlayer$Organ", "log", "(III)V"⟩ prog_7_method_17_code 5 (none) 3 := ⟨(z_tb 660 (by decide +kernel)), (z_tb 2 (by decide +kernel)), ⟨by decide +kernel, by decide +kernel⟩, by decide +kernel, by decide⟩
theorem ou_O_143_4 : z_okU1 z_mts "RollPlayer$Organ" 143 3 (.invokevirtual 143) 4 180 := ⟨_, _, _, _, _, rfl, by decide, mt_O_log, cw_O_log _, Or.inl ⟨rfl, (z_tb 657 (by decide +kernel)), (z_tb 659 (by decide +kernel)), sl_O_log⟩, fun h => absurd h (by decide +kernel)⟩
theorem fl_O_147 : Cond.fieldLink "RollPlayer$Organ" 147 "RollPlayer$Coupler" "memberCount" "I" ∈ lw_tbl := z_tb 444 (by decide +kernel)
theorem fg_O_147 : [2].all (fun t => z_fb t 6 "RollPlayer$Coupler" "memberCount" "I" 0 false) = true := by decide +kernel
theorem ou_O_150_2 : z_okU1 z_mts "RollPlayer$Organ" 150 1 (.invokevirtual 150) 2 159 := ⟨_, _, _, _, _, rfl, by decide, mt_Coup_partAt, cw_Coup_partAt _, Or.inl ⟨rfl, (z_tb 710 (by decide +kernel)), (z_tb 473 (by decide +kernel)), (z_tb 474 (by decide +kernel))⟩, fun h => absurd h (by decide +kernel)⟩
theorem sl_O_startSound : Cond.selects "RollPlayer$Organ" ⟨"RollPlayer$Organ", "startSound", "(LRollPlayer$Instrument;II)Z"⟩ ⟨"RollPlayer$Organ", "startSound", "(LRollPlayer$Instrument;II)Z"⟩ ∈ lw_tbl := by decide +kernel
set_option maxRecDepth 100000 in
theorem mt_O_startSound : z_nth z_mts 181 = some (⟨"RollPlayer$Organ", "startSound", "(LRollPlayer$Instrument;II)Z"⟩, prog_7_method_18_code, 9, (some (.boolean))) := rfl
theorem cw_O_startSound (own : String) : z_cw own ⟨"RollPlayer$Organ", "startSound", "(LRollPlayer$Instrument;II)Z"⟩ prog_7_method_18_code 9 (some (.boolean)) 3 := ⟨(z_tb 709 (by decide +kernel)), (z_tb 2 (by decide +kernel)), ⟨by decide +kernel, by decide +kernel⟩, by decide +kernel, by decide⟩
theorem ou_O_153_4 : z_okU1 z_mts "RollPlayer$Organ" 153 3 (.invokevirtual 153) 4 181 := ⟨_, _, _, _, _, rfl, by decide, mt_O_startSound, cw_O_startSound _, Or.inl ⟨rfl, (z_tb 706 (by decide +kernel)), (z_tb 708 (by decide +kernel)), sl_O_startSound⟩, fun h => absurd h (by decide +kernel)⟩
theorem sl_O_endDownTo : Cond.selects "RollPlayer$Organ" ⟨"RollPlayer$Organ", "endDownTo", "(I)V"⟩ ⟨"RollPlayer$Organ", "endDownTo", "(I)V"⟩ ∈ lw_tbl := by decide +kernel
set_option maxRecDepth 100000 in
theorem mt_O_endDownTo : z_nth z_mts 183 = some (⟨"RollPlayer$Organ", "endDownTo", "(I)V"⟩, prog_7_method_20_code, 3, (none)) := rfl
theorem cw_O_endDownTo (own : String) : z_cw own ⟨"RollPlayer$Organ", "endDownTo", "(I)V"⟩ prog_7_method_20_code 3 (none) 1 := ⟨(z_tb 668 (by decide +kernel)), (z_tb 2 (by decide +kernel)), ⟨by decide +kernel, by decide +kernel⟩, by decide +kernel, by decide⟩
theorem ou_O_157_4 : z_okU1 z_mts "RollPlayer$Organ" 157 1 (.invokevirtual 157) 4 183 := ⟨_, _, _, _, _, rfl, by decide, mt_O_endDownTo, cw_O_endDownTo _, Or.inl ⟨rfl, (z_tb 665 (by decide +kernel)), (z_tb 667 (by decide +kernel)), sl_O_endDownTo⟩, fun h => absurd h (by decide +kernel)⟩
set_option maxRecDepth 100000 in
theorem mt_O_instrumentOf : z_nth z_mts 174 = some (⟨"RollPlayer$Organ", "instrumentOf", "(I)I"⟩, prog_7_method_11_code, 1, (some (.int))) := rfl
theorem cw_O_instrumentOf (own : String) : z_cw own ⟨"RollPlayer$Organ", "instrumentOf", "(I)I"⟩ prog_7_method_11_code 1 (some (.int)) 1 := ⟨(z_tb 679 (by decide +kernel)), (z_tb 2 (by decide +kernel)), ⟨by decide +kernel, by decide +kernel⟩, by decide +kernel, by decide⟩
theorem sl_O_noteEnd : Cond.selects "RollPlayer$Organ" ⟨"RollPlayer$Organ", "noteEnd", "(I)V"⟩ ⟨"RollPlayer$Organ", "noteEnd", "(I)V"⟩ ∈ lw_tbl := by decide +kernel
set_option maxRecDepth 100000 in
theorem mt_O_noteEnd : z_nth z_mts 182 = some (⟨"RollPlayer$Organ", "noteEnd", "(I)V"⟩, prog_7_method_19_code, 2, (none)) := rfl
theorem cw_O_noteEnd (own : String) : z_cw own ⟨"RollPlayer$Organ", "noteEnd", "(I)V"⟩ prog_7_method_19_code 2 (none) 1 := ⟨(z_tb 676 (by decide +kernel)), (z_tb 2 (by decide +kernel)), ⟨by decide +kernel, by decide +kernel⟩, by decide +kernel, by decide⟩
theorem ou_O_163_4 : z_okU1 z_mts "RollPlayer$Organ" 163 1 (.invokevirtual 163) 4 182 := ⟨_, _, _, _, _, rfl, by decide, mt_O_noteEnd, cw_O_noteEnd _, Or.inl ⟨rfl, (z_tb 673 (by decide +kernel)), (z_tb 675 (by decide +kernel)), sl_O_noteEnd⟩, fun h => absurd h (by decide +kernel)⟩
theorem fp_O_67_false : [4].all (fun t => z_fb t 16 "RollPlayer$Organ" "played" "LRollPlayer$Roll;" 1 false && z_fw false "RollPlayer$Organ" t 16 false) = true := by decide +kernel
theorem fp_O_63_false : [4].all (fun t => z_fb t 15 "RollPlayer$Organ" "playing" "Z" 0 false && z_fw false "RollPlayer$Organ" t 15 false) = true := by decide +kernel
theorem fp_O_57_false : [4].all (fun t => z_fb t 13 "RollPlayer$Organ" "oldestKept" "I" 0 false && z_fw false "RollPlayer$Organ" t 13 false) = true := by decide +kernel
theorem sl_O_keep : Cond.selects "RollPlayer$Organ" ⟨"RollPlayer$Organ", "keep", "()V"⟩ ⟨"RollPlayer$Organ", "keep", "()V"⟩ ∈ lw_tbl := by decide +kernel
set_option maxRecDepth 100000 in
theorem mt_O_keep : z_nth z_mts 187 = some (⟨"RollPlayer$Organ", "keep", "()V"⟩, prog_7_method_24_code, 4, (none)) := rfl
theorem cw_O_keep (own : String) : z_cw own ⟨"RollPlayer$Organ", "keep", "()V"⟩ prog_7_method_24_code 4 (none) 0 := ⟨(z_tb 633 (by decide +kernel)), (z_tb 2 (by decide +kernel)), ⟨by decide +kernel, by decide +kernel⟩, by decide +kernel, by decide⟩
theorem ou_O_167_4 : z_okU1 z_mts "RollPlayer$Organ" 167 0 (.invokevirtual 167) 4 187 := ⟨_, _, _, _, _, rfl, by decide, mt_O_keep, cw_O_keep _, Or.inl ⟨rfl, (z_tb 630 (by decide +kernel)), (z_tb 632 (by decide +kernel)), sl_O_keep⟩, fun h => absurd h (by decide +kernel)⟩
set_option maxRecDepth 100000 in
theorem mt_Jm_floorMod : z_nth z_mts 1 = some (⟨"java/lang/Math", "floorMod", "(II)I"⟩, prog_17_method_50_code, 3, (some (.int))) := rfl
theorem cw_Jm_floorMod (own : String) : z_cw own ⟨"java/lang/Math", "floorMod", "(II)I"⟩ prog_17_method_50_code 3 (some (.int)) 2 := ⟨(z_tb 636 (by decide +kernel)), (z_tb 6 (by decide +kernel)), ⟨by decide +kernel, by decide +kernel⟩, by decide +kernel, by decide⟩
theorem fg_O_40 : [4].all (fun t => z_fb t 8 "RollPlayer$Organ" "kept" "[[I" 1 true) = true := by decide +kernel
set_option maxRecDepth 100000 in
theorem mt_O_usedOf : z_nth z_mts 188 = some (⟨"RollPlayer$Organ", "usedOf", "([I)I"⟩, prog_7_method_25_code, 1, (some (.int))) := rfl
theorem cw_O_usedOf (own : String) : z_cw own ⟨"RollPlayer$Organ", "usedOf", "([I)I"⟩ prog_7_method_25_code 1 (some (.int)) 1 := ⟨(z_tb 639 (by decide +kernel)), (z_tb 2 (by decide +kernel)), ⟨by decide +kernel, by decide +kernel⟩, by decide +kernel, by decide⟩
theorem fg_O_57 : [4].all (fun t => z_fb t 13 "RollPlayer$Organ" "oldestKept" "I" 0 false) = true := by decide +kernel
theorem fg_O_67 : [4].all (fun t => z_fb t 16 "RollPlayer$Organ" "played" "LRollPlayer$Roll;" 1 false) = true := by decide +kernel
theorem ou_O_183_8 : z_okU1 z_mts "RollPlayer$Organ" 183 1 (.invokevirtual 183) 8 127 := ⟨_, _, _, _, _, rfl, by decide, mt_L_stripAt, cw_L_stripAt _, Or.inl ⟨rfl, (z_tb 651 (by decide +kernel)), (z_tb 243 (by decide +kernel)), (z_tb 244 (by decide +kernel))⟩, fun h => absurd h (by decide +kernel)⟩
theorem fl_O_189 : Cond.fieldLink "RollPlayer$Organ" 189 "RollPlayer$Strip" "ticks" "I" ∈ lw_tbl := z_tb 190 (by decide +kernel)
theorem fg_O_189 : [9].all (fun t => z_fb t 2 "RollPlayer$Strip" "ticks" "I" 0 true) = true := by decide +kernel
theorem sl_O_beginStrip : Cond.selects "RollPlayer$Organ" ⟨"RollPlayer$Organ", "beginStrip", "(LRollPlayer$Strip;I)V"⟩ ⟨"RollPlayer$Organ", "beginStrip", "(LRollPlayer$Strip;I)V"⟩ ∈ lw_tbl := by decide +kernel
set_option maxRecDepth 100000 in
theorem mt_O_beginStrip : z_nth z_mts 191 = some (⟨"RollPlayer$Organ", "beginStrip", "(LRollPlayer$Strip;I)V"⟩, prog_7_method_28_code, 4, (none)) := rfl
theorem cw_O_beginStrip (own : String) : z_cw own ⟨"RollPlayer$Organ", "beginStrip", "(LRollPlayer$Strip;I)V"⟩ prog_7_method_28_code 4 (none) 2 := ⟨(z_tb 655 (by decide +kernel)), (z_tb 2 (by decide +kernel)), ⟨by decide +kernel, by decide +kernel⟩, by decide +kernel, by decide⟩
theorem ou_O_194_4 : z_okU1 z_mts "RollPlayer$Organ" 194 2 (.invokevirtual 194) 4 191 := ⟨_, _, _, _, _, rfl, by decide, mt_O_beginStrip, cw_O_beginStrip _, Or.inl ⟨rfl, (z_tb 652 (by decide +kernel)), (z_tb 654 (by decide +kernel)), sl_O_beginStrip⟩, fun h => absurd h (by decide +kernel)⟩
theorem ou_O_198_9 : z_okU1 z_mts "RollPlayer$Organ" 198 0 (.invokevirtual 198) 9 110 := ⟨_, _, _, _, _, rfl, by decide, mt_S_elements, cw_S_elements _, Or.inl ⟨rfl, (z_tb 683 (by decide +kernel)), (z_tb 223 (by decide +kernel)), (z_tb 224 (by decide +kernel))⟩, fun h => absurd h (by decide +kernel)⟩
theorem sl_O_doElement : Cond.selects "RollPlayer$Organ" ⟨"RollPlayer$Organ", "doElement", "(LRollPlayer$Strip;I)V"⟩ ⟨"RollPlayer$Organ", "doElement", "(LRollPlayer$Strip;I)V"⟩ ∈ lw_tbl := by decide +kernel
set_option maxRecDepth 100000 in
theorem mt_O_doElement : z_nth z_mts 193 = some (⟨"RollPlayer$Organ", "doElement", "(LRollPlayer$Strip;I)V"⟩, prog_7_method_30_code, 5, (none)) := rfl
theorem cw_O_doElement (own : String) : z_cw own ⟨"RollPlayer$Organ", "doElement", "(LRollPlayer$Strip;I)V"⟩ prog_7_method_30_code 5 (none) 2 := ⟨(z_tb 687 (by decide +kernel)), (z_tb 2 (by decide +kernel)), ⟨by decide +kernel, by decide +kernel⟩, by decide +kernel, by decide⟩
theorem ou_O_201_4 : z_okU1 z_mts "RollPlayer$Organ" 201 2 (.invokevirtual 201) 4 193 := ⟨_, _, _, _, _, rfl, by decide, mt_O_doElement, cw_O_doElement _, Or.inl ⟨rfl, (z_tb 684 (by decide +kernel)), (z_tb 686 (by decide +kernel)), sl_O_doElement⟩, fun h => absurd h (by decide +kernel)⟩
set_option maxRecDepth 100000 in
theorem mt_O_silence : z_nth z_mts 185 = some (⟨"RollPlayer$Organ", "silence", "()V"⟩, prog_7_method_22_code, 1, (none)) := rfl
theorem cw_O_silence (own : String) : z_cw own ⟨"RollPlayer$Organ", "silence", "()V"⟩ prog_7_method_22_code 1 (none) 0 := ⟨(z_tb 664 (by decide +kernel)), (z_tb 2 (by decide +kernel)), ⟨by decide +kernel, by decide +kernel⟩, by decide +kernel, by decide⟩
theorem ou_O_204_4 : z_okU1 z_mts "RollPlayer$Organ" 204 0 (.invokevirtual 204) 4 185 := ⟨_, _, _, _, _, rfl, by decide, mt_O_silence, cw_O_silence _, Or.inl ⟨rfl, (z_tb 661 (by decide +kernel)), (z_tb 662 (by decide +kernel)), (z_tb 663 (by decide +kernel))⟩, fun h => absurd h (by decide +kernel)⟩
theorem ou_O_207_9 : z_okU1 z_mts "RollPlayer$Organ" 207 0 (.invokevirtual 207) 9 117 := ⟨_, _, _, _, _, rfl, by decide, mt_S_verdict, cw_S_verdict _, Or.inl ⟨rfl, (z_tb 656 (by decide +kernel)), (z_tb 248 (by decide +kernel)), (z_tb 249 (by decide +kernel))⟩, fun h => absurd h (by decide +kernel)⟩
theorem sl_O_goOnWithTempo : Cond.selects "RollPlayer$Organ" ⟨"RollPlayer$Organ", "goOnWithTempo", "()V"⟩ ⟨"RollPlayer$Organ", "goOnWithTempo", "()V"⟩ ∈ lw_tbl := by decide +kernel
set_option maxRecDepth 100000 in
theorem mt_O_goOnWithTempo : z_nth z_mts 196 = some (⟨"RollPlayer$Organ", "goOnWithTempo", "()V"⟩, prog_7_method_33_code, 6, (none)) := rfl
theorem cw_O_goOnWithTempo (own : String) : z_cw own ⟨"RollPlayer$Organ", "goOnWithTempo", "()V"⟩ prog_7_method_33_code 6 (none) 0 := ⟨(z_tb 722 (by decide +kernel)), (z_tb 2 (by decide +kernel)), ⟨by decide +kernel, by decide +kernel⟩, by decide +kernel, by decide⟩
theorem ou_O_210_4 : z_okU1 z_mts "RollPlayer$Organ" 210 0 (.invokevirtual 210) 4 196 := ⟨_, _, _, _, _, rfl, by decide, mt_O_goOnWithTempo, cw_O_goOnWithTempo _, Or.inl ⟨rfl, (z_tb 719 (by decide +kernel)), (z_tb 721 (by decide +kernel)), sl_O_goOnWithTempo⟩, fun h => absurd h (by decide +kernel)⟩
theorem fg_O_60 : [4].all (fun t => z_fb t 14 "RollPlayer$Organ" "ticksUsed" "I" 0 false) = true := by decide +kernel
theorem fp_O_60_false : [4].all (fun t => z_fb t 14 "RollPlayer$Organ" "ticksUsed" "I" 0 false && z_fw false "RollPlayer$Organ" t 14 false) = true := by decide +kernel
set_option maxRecDepth 100000 in
theorem mt_S_elementAt : z_nth z_mts 113 = some (⟨"RollPlayer$Strip", "elementAt", "(I)I"⟩, prog_12_method_5_code, 3, (some (.int))) := rfl
theorem cw_S_elementAt (own : String) : z_cw own ⟨"RollPlayer$Strip", "elementAt", "(I)I"⟩ prog_12_method_5_code 3 (some (.int)) 1 := ⟨(z_tb 691 (by decide +kernel)), (z_tb 5 (by decide +kernel)), ⟨by decide +kernel, by decide +kernel⟩, by decide +kernel, by decide⟩
theorem ou_O_213_9 : z_okU1 z_mts "RollPlayer$Organ" 213 1 (.invokevirtual 213) 9 113 := ⟨_, _, _, _, _, rfl, by decide, mt_S_elementAt, cw_S_elementAt _, Or.inl ⟨rfl, (z_tb 688 (by decide +kernel)), (z_tb 689 (by decide +kernel)), (z_tb 690 (by decide +kernel))⟩, fun h => absurd h (by decide +kernel)⟩
theorem fl_O_216 : Cond.fieldLink "RollPlayer$Organ" 216 "RollPlayer$Strip" "kind" "I" ∈ lw_tbl := z_tb 185 (by decide +kernel)
theorem fg_O_216 : [9].all (fun t => z_fb t 0 "RollPlayer$Strip" "kind" "I" 0 true) = true := by decide +kernel
theorem sl_O_doHole : Cond.selects "RollPlayer$Organ" ⟨"RollPlayer$Organ", "doHole", "(IZ)V"⟩ ⟨"RollPlayer$Organ", "doHole", "(IZ)V"⟩ ∈ lw_tbl := by decide +kernel
set_option maxRecDepth 100000 in
theorem mt_O_doHole : z_nth z_mts 194 = some (⟨"RollPlayer$Organ", "doHole", "(IZ)V"⟩, prog_7_method_31_code, 6, (none)) := rfl
theorem cw_O_doHole (own : String) : z_cw own ⟨"RollPlayer$Organ", "doHole", "(IZ)V"⟩ prog_7_method_31_code 6 (none) 2 := ⟨(z_tb 696 (by decide +kernel)), (z_tb 2 (by decide +kernel)), ⟨by decide +kernel, by decide +kernel⟩, by decide +kernel, by decide⟩
theorem ou_O_219_4 : z_okU1 z_mts "RollPlayer$Organ" 219 2 (.invokevirtual 219) 4 194 := ⟨_, _, _, _, _, rfl, by decide, mt_O_doHole, cw_O_doHole _, Or.inl ⟨rfl, (z_tb 693 (by decide +kernel)), (z_tb 695 (by decide +kernel)), sl_O_doHole⟩, fun h => absurd h (by decide +kernel)⟩
theorem sl_O_setTempo : Cond.selects "RollPlayer$Organ" ⟨"RollPlayer$Organ", "setTempo", "(II)V"⟩ ⟨"RollPlayer$Organ", "setTempo", "(II)V"⟩ ∈ lw_tbl := by decide +kernel
set_option maxRecDepth 100000 in
theorem mt_O_setTempo : z_nth z_mts 195 = some (⟨"RollPlayer$Organ", "setTempo", "(II)V"⟩, prog_7_method_32_code, 3, (none)) := rfl
theorem cw_O_setTempo (own : String) : z_cw own ⟨"RollPlayer$Organ", "setTempo", "(II)V"⟩ prog_7_method_32_code 3 (none) 2 := ⟨(z_tb 714 (by decide +kernel)), (z_tb 2 (by decide +kernel)), ⟨by decide +kernel, by decide +kernel⟩, by decide +kernel, by decide⟩
theorem ou_O_223_4 : z_okU1 z_mts "RollPlayer$Organ" 223 2 (.invokevirtual 223) 4 195 := ⟨_, _, _, _, _, rfl, by decide, mt_O_setTempo, cw_O_setTempo _, Or.inl ⟨rfl, (z_tb 711 (by decide +kernel)), (z_tb 713 (by decide +kernel)), sl_O_setTempo⟩, fun h => absurd h (by decide +kernel)⟩
set_option maxRecDepth 100000 in
theorem mt_O_isOpen : z_nth z_mts 179 = some (⟨"RollPlayer$Organ", "isOpen", "(I)Z"⟩, prog_7_method_16_code, 2, (some (.boolean))) := rfl
theorem cw_O_isOpen (own : String) : z_cw own ⟨"RollPlayer$Organ", "isOpen", "(I)Z"⟩ prog_7_method_16_code 2 (some (.boolean)) 1 := ⟨(z_tb 700 (by decide +kernel)), (z_tb 2 (by decide +kernel)), ⟨by decide +kernel, by decide +kernel⟩, by decide +kernel, by decide⟩
theorem ou_O_226_4 : z_okU1 z_mts "RollPlayer$Organ" 226 1 (.invokevirtual 226) 4 179 := ⟨_, _, _, _, _, rfl, by decide, mt_O_isOpen, cw_O_isOpen _, Or.inl ⟨rfl, (z_tb 697 (by decide +kernel)), (z_tb 698 (by decide +kernel)), (z_tb 699 (by decide +kernel))⟩, fun h => absurd h (by decide +kernel)⟩
theorem sl_O_endTrack : Cond.selects "RollPlayer$Organ" ⟨"RollPlayer$Organ", "endTrack", "(I)V"⟩ ⟨"RollPlayer$Organ", "endTrack", "(I)V"⟩ ∈ lw_tbl := by decide +kernel
set_option maxRecDepth 100000 in
theorem mt_O_endTrack : z_nth z_mts 184 = some (⟨"RollPlayer$Organ", "endTrack", "(I)V"⟩, prog_7_method_21_code, 5, (none)) := rfl
theorem cw_O_endTrack (own : String) : z_cw own ⟨"RollPlayer$Organ", "endTrack", "(I)V"⟩ prog_7_method_21_code 5 (none) 1 := ⟨(z_tb 704 (by decide +kernel)), (z_tb 2 (by decide +kernel)), ⟨by decide +kernel, by decide +kernel⟩, by decide +kernel, by decide⟩
theorem ou_O_229_4 : z_okU1 z_mts "RollPlayer$Organ" 229 1 (.invokevirtual 229) 4 184 := ⟨_, _, _, _, _, rfl, by decide, mt_O_endTrack, cw_O_endTrack _, Or.inl ⟨rfl, (z_tb 701 (by decide +kernel)), (z_tb 703 (by decide +kernel)), sl_O_endTrack⟩, fun h => absurd h (by decide +kernel)⟩
theorem fg_O_27 : [4].all (fun t => z_fb t 4 "RollPlayer$Organ" "wireChests" "[I" 1 true) = true := by decide +kernel
theorem fg_O_30 : [4].all (fun t => z_fb t 5 "RollPlayer$Organ" "wirePlaces" "[I" 1 true) = true := by decide +kernel
set_option maxRecDepth 100000 in
theorem mt_O_whereIs : z_nth z_mts 173 = some (⟨"RollPlayer$Organ", "whereIs", "(II)I"⟩, prog_7_method_10_code, 3, (some (.int))) := rfl
theorem cw_O_whereIs (own : String) : z_cw own ⟨"RollPlayer$Organ", "whereIs", "(II)I"⟩ prog_7_method_10_code 3 (some (.int)) 2 := ⟨(z_tb 519 (by decide +kernel)), (z_tb 2 (by decide +kernel)), ⟨by decide +kernel, by decide +kernel⟩, by decide +kernel, by decide⟩
theorem ou_O_232_4 : z_okU1 z_mts "RollPlayer$Organ" 232 2 (.invokevirtual 232) 4 173 := ⟨_, _, _, _, _, rfl, by decide, mt_O_whereIs, cw_O_whereIs _, Or.inl ⟨rfl, (z_tb 705 (by decide +kernel)), (z_tb 517 (by decide +kernel)), (z_tb 518 (by decide +kernel))⟩, fun h => absurd h (by decide +kernel)⟩
set_option maxRecDepth 100000 in
theorem mt_Jm_floorDiv : z_nth z_mts 0 = some (⟨"java/lang/Math", "floorDiv", "(JJ)J"⟩, prog_17_method_49_code, 6, (some (.long))) := rfl
theorem cw_Jm_floorDiv (own : String) : z_cw own ⟨"java/lang/Math", "floorDiv", "(JJ)J"⟩ prog_17_method_49_code 6 (some (.long)) 2 := ⟨(z_tb 726 (by decide +kernel)), (z_tb 6 (by decide +kernel)), ⟨by decide +kernel, by decide +kernel⟩, by decide +kernel, by decide⟩
theorem fp_P_11_true : [10].all (fun t => z_fb t 0 "RollPlayer" "rolls" "[LRollPlayer$Roll;" 1 true && z_fw true "RollPlayer" t 0 true) = true := by decide +kernel
theorem fl_P_11 : Cond.fieldLink "RollPlayer" 11 "RollPlayer" "rolls" "[LRollPlayer$Roll;" ∈ lw_tbl := z_tb 103 (by decide +kernel)
set_option maxRecDepth 100000 in
theorem mt_O_init : z_nth z_mts 164 = some (⟨"RollPlayer$Organ", "<init>", "()V"⟩, prog_7_method_1_code, 1, (none)) := rfl
theorem cw_O_init (own : String) : z_cw own ⟨"RollPlayer$Organ", "<init>", "()V"⟩ prog_7_method_1_code 1 (none) 0 := ⟨(z_tb 32 (by decide +kernel)), (z_tb 2 (by decide +kernel)), ⟨by decide +kernel, by decide +kernel⟩, by decide +kernel, by decide⟩
theorem ou_P_17_4 : z_okU1 z_mts "RollPlayer" 17 0 (.invokespecial 17) 4 164 := ⟨_, _, _, _, _, rfl, by decide, mt_O_init, cw_O_init _, Or.inr (Or.inr (Or.inl ⟨rfl, rfl, (z_tb 31 (by decide +kernel)), Or.inl (z_tb 30 (by decide +kernel))⟩)), fun _ => rfl⟩
theorem fp_P_18_true : [10].all (fun t => z_fb t 1 "RollPlayer" "organ" "LRollPlayer$Organ;" 1 true && z_fw true "RollPlayer" t 1 true) = true := by decide +kernel
theorem fl_P_18 : Cond.fieldLink "RollPlayer" 18 "RollPlayer" "organ" "LRollPlayer$Organ;" ∈ lw_tbl := z_tb 104 (by decide +kernel)
theorem fp_P_22_true : [10].all (fun t => z_fb t 2 "RollPlayer" "fallOff" "[I" 1 true && z_fw true "RollPlayer" t 2 true) = true := by decide +kernel
theorem fl_P_22 : Cond.fieldLink "RollPlayer" 22 "RollPlayer" "fallOff" "[I" ∈ lw_tbl := z_tb 105 (by decide +kernel)
theorem fp_P_26_true : [10].all (fun t => z_fb t 3 "RollPlayer" "rollCount" "I" 0 false && z_fw true "RollPlayer" t 3 false) = true := by decide +kernel
theorem fl_P_26 : Cond.fieldLink "RollPlayer" 26 "RollPlayer" "rollCount" "I" ∈ lw_tbl := z_tb 106 (by decide +kernel)
theorem fp_P_30_true : [10].all (fun t => z_fb t 4 "RollPlayer" "stripCount" "I" 0 false && z_fw true "RollPlayer" t 4 false) = true := by decide +kernel
theorem fl_P_30 : Cond.fieldLink "RollPlayer" 30 "RollPlayer" "stripCount" "I" ∈ lw_tbl := z_tb 107 (by decide +kernel)
theorem fp_P_33_true : [10].all (fun t => z_fb t 5 "RollPlayer" "elementCount" "I" 0 false && z_fw true "RollPlayer" t 5 false) = true := by decide +kernel
theorem fl_P_33 : Cond.fieldLink "RollPlayer" 33 "RollPlayer" "elementCount" "I" ∈ lw_tbl := z_tb 108 (by decide +kernel)
theorem fp_P_36_true : [10].all (fun t => z_fb t 6 "RollPlayer" "fallCount" "I" 0 false && z_fw true "RollPlayer" t 6 false) = true := by decide +kernel
theorem fl_P_36 : Cond.fieldLink "RollPlayer" 36 "RollPlayer" "fallCount" "I" ∈ lw_tbl := z_tb 109 (by decide +kernel)
theorem fp_P_39_true : [10].all (fun t => z_fb t 7 "RollPlayer" "latest" "I" 0 false && z_fw true "RollPlayer" t 7 false) = true := by decide +kernel
theorem fl_P_39 : Cond.fieldLink "RollPlayer" 39 "RollPlayer" "latest" "I" ∈ lw_tbl := z_tb 110 (by decide +kernel)
theorem fp_P_39_false : [10].all (fun t => z_fb t 7 "RollPlayer" "latest" "I" 0 false && z_fw false "RollPlayer" t 7 false) = true := by decide +kernel
theorem fg_P_26 : [10].all (fun t => z_fb t 3 "RollPlayer" "rollCount" "I" 0 false) = true := by decide +kernel
theorem fg_P_11 : [10].all (fun t => z_fb t 0 "RollPlayer" "rolls" "[LRollPlayer$Roll;" 1 true) = true := by decide +kernel
theorem sl_P_rollAt : Cond.selects "RollPlayer" ⟨"RollPlayer", "rollAt", "(I)LRollPlayer$Roll;"⟩ ⟨"RollPlayer", "rollAt", "(I)LRollPlayer$Roll;"⟩ ∈ lw_tbl := by decide +kernel
set_option maxRecDepth 100000 in
theorem mt_P_rollAt : z_nth z_mts 204 = some (⟨"RollPlayer", "rollAt", "(I)LRollPlayer$Roll;"⟩, prog_1_method_8_code, 2, (some (.object "RollPlayer$Roll"))) := rfl
theorem cw_P_rollAt (own : String) : z_cw own ⟨"RollPlayer", "rollAt", "(I)LRollPlayer$Roll;"⟩ prog_1_method_8_code 2 (some (.object "RollPlayer$Roll")) 1 := ⟨(z_tb 162 (by decide +kernel)), (z_tb 1 (by decide +kernel)), ⟨by decide +kernel, by decide +kernel⟩, by decide +kernel, by decide⟩
theorem ou_P_42_10 : z_okU1 z_mts "RollPlayer" 42 1 (.invokevirtual 42) 10 204 := ⟨_, _, _, _, _, rfl, by decide, mt_P_rollAt, cw_P_rollAt _, Or.inl ⟨rfl, (z_tb 159 (by decide +kernel)), (z_tb 161 (by decide +kernel)), sl_P_rollAt⟩, fun h => absurd h (by decide +kernel)⟩
theorem ou_P_46_8 : z_okU1 z_mts "RollPlayer" 46 1 (.invokevirtual 46) 8 127 := ⟨_, _, _, _, _, rfl, by decide, mt_L_stripAt, cw_L_stripAt _, Or.inl ⟨rfl, (z_tb 242 (by decide +kernel)), (z_tb 243 (by decide +kernel)), (z_tb 244 (by decide +kernel))⟩, fun h => absurd h (by decide +kernel)⟩
theorem fg_P_33 : [10].all (fun t => z_fb t 5 "RollPlayer" "elementCount" "I" 0 false) = true := by decide +kernel
theorem fg_P_18 : [10].all (fun t => z_fb t 1 "RollPlayer" "organ" "LRollPlayer$Organ;" 1 true) = true := by decide +kernel
theorem fl_P_50 : Cond.fieldLink "RollPlayer" 50 "RollPlayer$Organ" "playing" "Z" ∈ lw_tbl := z_tb 65 (by decide +kernel)
theorem fg_P_50 : [4].all (fun t => z_fb t 15 "RollPlayer$Organ" "playing" "Z" 0 false) = true := by decide +kernel
theorem sl_P_refuse : Cond.selects "RollPlayer" ⟨"RollPlayer", "refuse", "(I)I"⟩ ⟨"RollPlayer", "refuse", "(I)I"⟩ ∈ lw_tbl := by decide +kernel
set_option maxRecDepth 100000 in
theorem mt_P_refuse : z_nth z_mts 199 = some (⟨"RollPlayer", "refuse", "(I)I"⟩, prog_1_method_3_code, 2, (some (.int))) := rfl
theorem cw_P_refuse (own : String) : z_cw own ⟨"RollPlayer", "refuse", "(I)I"⟩ prog_1_method_3_code 2 (some (.int)) 1 := ⟨(z_tb 135 (by decide +kernel)), (z_tb 1 (by decide +kernel)), ⟨by decide +kernel, by decide +kernel⟩, by decide +kernel, by decide⟩
theorem ou_P_54_10 : z_okU1 z_mts "RollPlayer" 54 1 (.invokevirtual 54) 10 199 := ⟨_, _, _, _, _, rfl, by decide, mt_P_refuse, cw_P_refuse _, Or.inl ⟨rfl, (z_tb 132 (by decide +kernel)), (z_tb 134 (by decide +kernel)), sl_P_refuse⟩, fun h => absurd h (by decide +kernel)⟩
theorem ou_P_58_8 : z_okU1 z_mts "RollPlayer" 58 0 (.invokespecial 58) 8 126 := ⟨_, _, _, _, _, rfl, by decide, mt_L_init, cw_L_init _, Or.inr (Or.inr (Or.inl ⟨rfl, rfl, (z_tb 138 (by decide +kernel)), Or.inr ⟨"RollPlayer", (z_tb 137 (by decide +kernel))⟩⟩)), fun _ => rfl⟩
theorem fp_P_26_false : [10].all (fun t => z_fb t 3 "RollPlayer" "rollCount" "I" 0 false && z_fw false "RollPlayer" t 3 false) = true := by decide +kernel
theorem sl_P_done : Cond.selects "RollPlayer" ⟨"RollPlayer", "done", "(I)I"⟩ ⟨"RollPlayer", "done", "(I)I"⟩ ∈ lw_tbl := by decide +kernel
set_option maxRecDepth 100000 in
theorem mt_P_done : z_nth z_mts 198 = some (⟨"RollPlayer", "done", "(I)I"⟩, prog_1_method_2_code, 2, (some (.int))) := rfl
theorem cw_P_done (own : String) : z_cw own ⟨"RollPlayer", "done", "(I)I"⟩ prog_1_method_2_code 2 (some (.int)) 1 := ⟨(z_tb 154 (by decide +kernel)), (z_tb 1 (by decide +kernel)), ⟨by decide +kernel, by decide +kernel⟩, by decide +kernel, by decide⟩
theorem ou_P_59_10 : z_okU1 z_mts "RollPlayer" 59 1 (.invokevirtual 59) 10 198 := ⟨_, _, _, _, _, rfl, by decide, mt_P_done, cw_P_done _, Or.inl ⟨rfl, (z_tb 151 (by decide +kernel)), (z_tb 153 (by decide +kernel)), sl_P_done⟩, fun h => absurd h (by decide +kernel)⟩
theorem fg_P_30 : [10].all (fun t => z_fb t 4 "RollPlayer" "stripCount" "I" 0 false) = true := by decide +kernel
theorem sl_P_tooManyElements : Cond.selects "RollPlayer" ⟨"RollPlayer", "tooManyElements", "(I)Z"⟩ ⟨"RollPlayer", "tooManyElements", "(I)Z"⟩ ∈ lw_tbl := by decide +kernel
set_option maxRecDepth 100000 in
theorem mt_P_tooManyElements : z_nth z_mts 206 = some (⟨"RollPlayer", "tooManyElements", "(I)Z"⟩, prog_1_method_10_code, 2, (some (.boolean))) := rfl
theorem cw_P_tooManyElements (own : String) : z_cw own ⟨"RollPlayer", "tooManyElements", "(I)Z"⟩ prog_1_method_10_code 2 (some (.boolean)) 1 := ⟨(z_tb 166 (by decide +kernel)), (z_tb 1 (by decide +kernel)), ⟨by decide +kernel, by decide +kernel⟩, by decide +kernel, by decide⟩
theorem ou_P_62_10 : z_okU1 z_mts "RollPlayer" 62 1 (.invokevirtual 62) 10 206 := ⟨_, _, _, _, _, rfl, by decide, mt_P_tooManyElements, cw_P_tooManyElements _, Or.inl ⟨rfl, (z_tb 163 (by decide +kernel)), (z_tb 165 (by decide +kernel)), sl_P_tooManyElements⟩, fun h => absurd h (by decide +kernel)⟩
theorem sl_P_found : Cond.selects "RollPlayer" ⟨"RollPlayer", "found", "(I)I"⟩ ⟨"RollPlayer", "found", "(I)I"⟩ ∈ lw_tbl := by decide +kernel
set_option maxRecDepth 100000 in
theorem mt_P_found : z_nth z_mts 200 = some (⟨"RollPlayer", "found", "(I)I"⟩, prog_1_method_4_code, 2, (some (.int))) := rfl
theorem cw_P_found (own : String) : z_cw own ⟨"RollPlayer", "found", "(I)I"⟩ prog_1_method_4_code 2 (some (.int)) 1 := ⟨(z_tb 170 (by decide +kernel)), (z_tb 1 (by decide +kernel)), ⟨by decide +kernel, by decide +kernel⟩, by decide +kernel, by decide⟩
theorem ou_P_66_10 : z_okU1 z_mts "RollPlayer" 66 1 (.invokevirtual 66) 10 200 := ⟨_, _, _, _, _, rfl, by decide, mt_P_found, cw_P_found _, Or.inl ⟨rfl, (z_tb 167 (by decide +kernel)), (z_tb 169 (by decide +kernel)), sl_P_found⟩, fun h => absurd h (by decide +kernel)⟩
theorem ou_P_71_9 : z_okU1 z_mts "RollPlayer" 71 4 (.invokespecial 71) 9 109 := ⟨_, _, _, _, _, rfl, by decide, mt_S_init, cw_S_init _, Or.inr (Or.inr (Or.inl ⟨rfl, rfl, (z_tb 174 (by decide +kernel)), Or.inl (z_tb 173 (by decide +kernel))⟩)), fun _ => rfl⟩
set_option maxRecDepth 100000 in
theorem mt_S_writeHead : z_nth z_mts 116 = some (⟨"RollPlayer$Strip", "writeHead", "()V"⟩, prog_12_method_8_code, 1, (none)) := rfl
theorem cw_S_writeHead (own : String) : z_cw own ⟨"RollPlayer$Strip", "writeHead", "()V"⟩ prog_12_method_8_code 1 (none) 0 := ⟨(z_tb 217 (by decide +kernel)), (z_tb 5 (by decide +kernel)), ⟨by decide +kernel, by decide +kernel⟩, by decide +kernel, by decide⟩
theorem ou_P_74_9 : z_okU1 z_mts "RollPlayer" 74 0 (.invokevirtual 74) 9 116 := ⟨_, _, _, _, _, rfl, by decide, mt_S_writeHead, cw_S_writeHead _, Or.inl ⟨rfl, (z_tb 214 (by decide +kernel)), (z_tb 215 (by decide +kernel)), (z_tb 216 (by decide +kernel))⟩, fun h => absurd h (by decide +kernel)⟩
theorem ou_P_77_8 : z_okU1 z_mts "RollPlayer" 77 1 (.invokevirtual 77) 8 129 := ⟨_, _, _, _, _, rfl, by decide, mt_L_append, cw_L_append _, Or.inl ⟨rfl, (z_tb 230 (by decide +kernel)), (z_tb 231 (by decide +kernel)), (z_tb 232 (by decide +kernel))⟩, fun h => absurd h (by decide +kernel)⟩
theorem fp_P_30_false : [10].all (fun t => z_fb t 4 "RollPlayer" "stripCount" "I" 0 false && z_fw false "RollPlayer" t 4 false) = true := by decide +kernel
theorem fp_P_33_false : [10].all (fun t => z_fb t 5 "RollPlayer" "elementCount" "I" 0 false && z_fw false "RollPlayer" t 5 false) = true := by decide +kernel
theorem fl_P_81 : Cond.fieldLink "RollPlayer" 81 "RollPlayer$Roll" "count" "I" ∈ lw_tbl := z_tb 145 (by decide +kernel)
theorem fg_P_81 : [8].all (fun t => z_fb t 1 "RollPlayer$Roll" "count" "I" 0 false) = true := by decide +kernel
theorem sl_P_stripAt : Cond.selects "RollPlayer" ⟨"RollPlayer", "stripAt", "(II)LRollPlayer$Strip;"⟩ ⟨"RollPlayer", "stripAt", "(II)LRollPlayer$Strip;"⟩ ∈ lw_tbl := by decide +kernel
set_option maxRecDepth 100000 in
theorem mt_P_stripAt : z_nth z_mts 205 = some (⟨"RollPlayer", "stripAt", "(II)LRollPlayer$Strip;"⟩, prog_1_method_9_code, 4, (some (.object "RollPlayer$Strip"))) := rfl
theorem cw_P_stripAt (own : String) : z_cw own ⟨"RollPlayer", "stripAt", "(II)LRollPlayer$Strip;"⟩ prog_1_method_9_code 4 (some (.object "RollPlayer$Strip")) 2 := ⟨(z_tb 241 (by decide +kernel)), (z_tb 1 (by decide +kernel)), ⟨by decide +kernel, by decide +kernel⟩, by decide +kernel, by decide⟩
theorem ou_P_84_10 : z_okU1 z_mts "RollPlayer" 84 2 (.invokevirtual 84) 10 205 := ⟨_, _, _, _, _, rfl, by decide, mt_P_stripAt, cw_P_stripAt _, Or.inl ⟨rfl, (z_tb 238 (by decide +kernel)), (z_tb 240 (by decide +kernel)), sl_P_stripAt⟩, fun h => absurd h (by decide +kernel)⟩
theorem fl_P_87 : Cond.fieldLink "RollPlayer" 87 "RollPlayer$Strip" "lost" "Z" ∈ lw_tbl := z_tb 197 (by decide +kernel)
theorem fg_P_87 : [9].all (fun t => z_fb t 6 "RollPlayer$Strip" "lost" "Z" 0 false) = true := by decide +kernel
theorem ou_P_90_9 : z_okU1 z_mts "RollPlayer" 90 0 (.invokevirtual 90) 9 110 := ⟨_, _, _, _, _, rfl, by decide, mt_S_elements, cw_S_elements _, Or.inl ⟨rfl, (z_tb 246 (by decide +kernel)), (z_tb 223 (by decide +kernel)), (z_tb 224 (by decide +kernel))⟩, fun h => absurd h (by decide +kernel)⟩
theorem ou_P_94_9 : z_okU1 z_mts "RollPlayer" 94 0 (.invokevirtual 94) 9 117 := ⟨_, _, _, _, _, rfl, by decide, mt_S_verdict, cw_S_verdict _, Or.inl ⟨rfl, (z_tb 247 (by decide +kernel)), (z_tb 248 (by decide +kernel)), (z_tb 249 (by decide +kernel))⟩, fun h => absurd h (by decide +kernel)⟩
set_option maxRecDepth 100000 in
theorem mt_S_putElement : z_nth z_mts 114 = some (⟨"RollPlayer$Strip", "putElement", "(II)V"⟩, prog_12_method_6_code, 3, (none)) := rfl
theorem cw_S_putElement (own : String) : z_cw own ⟨"RollPlayer$Strip", "putElement", "(II)V"⟩ prog_12_method_6_code 3 (none) 2 := ⟨(z_tb 258 (by decide +kernel)), (z_tb 5 (by decide +kernel)), ⟨by decide +kernel, by decide +kernel⟩, by decide +kernel, by decide⟩
theorem ou_P_97_9 : z_okU1 z_mts "RollPlayer" 97 2 (.invokevirtual 97) 9 114 := ⟨_, _, _, _, _, rfl, by decide, mt_S_putElement, cw_S_putElement _, Or.inl ⟨rfl, (z_tb 255 (by decide +kernel)), (z_tb 256 (by decide +kernel)), (z_tb 257 (by decide +kernel))⟩, fun h => absurd h (by decide +kernel)⟩
set_option maxRecDepth 100000 in
theorem mt_S_dropAll : z_nth z_mts 118 = some (⟨"RollPlayer$Strip", "dropAll", "()V"⟩, prog_12_method_10_code, 1, (none)) := rfl
theorem cw_S_dropAll (own : String) : z_cw own ⟨"RollPlayer$Strip", "dropAll", "()V"⟩ prog_12_method_10_code 1 (none) 0 := ⟨(z_tb 270 (by decide +kernel)), (z_tb 5 (by decide +kernel)), ⟨by decide +kernel, by decide +kernel⟩, by decide +kernel, by decide⟩
theorem ou_P_101_9 : z_okU1 z_mts "RollPlayer" 101 0 (.invokevirtual 101) 9 118 := ⟨_, _, _, _, _, rfl, by decide, mt_S_dropAll, cw_S_dropAll _, Or.inl ⟨rfl, (z_tb 267 (by decide +kernel)), (z_tb 268 (by decide +kernel)), (z_tb 269 (by decide +kernel))⟩, fun h => absurd h (by decide +kernel)⟩
set_option maxRecDepth 100000 in
theorem mt_S_keepFirst : z_nth z_mts 119 = some (⟨"RollPlayer$Strip", "keepFirst", "(I)V"⟩, prog_12_method_11_code, 2, (none)) := rfl
theorem cw_S_keepFirst (own : String) : z_cw own ⟨"RollPlayer$Strip", "keepFirst", "(I)V"⟩ prog_12_method_11_code 2 (none) 1 := ⟨(z_tb 278 (by decide +kernel)), (z_tb 5 (by decide +kernel)), ⟨by decide +kernel, by decide +kernel⟩, by decide +kernel, by decide⟩
theorem ou_P_104_9 : z_okU1 z_mts "RollPlayer" 104 1 (.invokevirtual 104) 9 119 := ⟨_, _, _, _, _, rfl, by decide, mt_S_keepFirst, cw_S_keepFirst _, Or.inl ⟨rfl, (z_tb 275 (by decide +kernel)), (z_tb 276 (by decide +kernel)), (z_tb 277 (by decide +kernel))⟩, fun h => absurd h (by decide +kernel)⟩
theorem fl_P_108 : Cond.fieldLink "RollPlayer" 108 "RollPlayer$Strip" "length" "I" ∈ lw_tbl := z_tb 195 (by decide +kernel)
theorem fg_P_108 : [9].all (fun t => z_fb t 5 "RollPlayer$Strip" "length" "I" 0 false) = true := by decide +kernel
theorem fl_P_111 : Cond.fieldLink "RollPlayer" 111 "RollPlayer$Strip" "bytes" "[B" ∈ lw_tbl := z_tb 193 (by decide +kernel)
theorem fg_P_111 : [9].all (fun t => z_fb t 4 "RollPlayer$Strip" "bytes" "[B" 1 false) = true := by decide +kernel
theorem sl_P_refuseLong : Cond.selects "RollPlayer" ⟨"RollPlayer", "refuseLong", "(I)J"⟩ ⟨"RollPlayer", "refuseLong", "(I)J"⟩ ∈ lw_tbl := by decide +kernel
set_option maxRecDepth 100000 in
theorem mt_P_refuseLong : z_nth z_mts 202 = some (⟨"RollPlayer", "refuseLong", "(I)J"⟩, prog_1_method_6_code, 2, (some (.long))) := rfl
theorem cw_P_refuseLong (own : String) : z_cw own ⟨"RollPlayer", "refuseLong", "(I)J"⟩ prog_1_method_6_code 2 (some (.long)) 1 := ⟨(z_tb 294 (by decide +kernel)), (z_tb 1 (by decide +kernel)), ⟨by decide +kernel, by decide +kernel⟩, by decide +kernel, by decide⟩
theorem ou_P_115_10 : z_okU1 z_mts "RollPlayer" 115 1 (.invokevirtual 115) 10 202 := ⟨_, _, _, _, _, rfl, by decide, mt_P_refuseLong, cw_P_refuseLong _, Or.inl ⟨rfl, (z_tb 291 (by decide +kernel)), (z_tb 293 (by decide +kernel)), sl_P_refuseLong⟩, fun h => absurd h (by decide +kernel)⟩
theorem ou_P_119_9 : z_okU1 z_mts "RollPlayer" 119 2 (.invokevirtual 119) 9 111 := ⟨_, _, _, _, _, rfl, by decide, mt_S_numberAt, cw_S_numberAt _, Or.inl ⟨rfl, (z_tb 295 (by decide +kernel)), (z_tb 252 (by decide +kernel)), (z_tb 253 (by decide +kernel))⟩, fun h => absurd h (by decide +kernel)⟩
theorem sl_P_doneLong : Cond.selects "RollPlayer" ⟨"RollPlayer", "doneLong", "(J)J"⟩ ⟨"RollPlayer", "doneLong", "(J)J"⟩ ∈ lw_tbl := by decide +kernel
set_option maxRecDepth 100000 in
theorem mt_P_doneLong : z_nth z_mts 203 = some (⟨"RollPlayer", "doneLong", "(J)J"⟩, prog_1_method_7_code, 3, (some (.long))) := rfl
theorem cw_P_doneLong (own : String) : z_cw own ⟨"RollPlayer", "doneLong", "(J)J"⟩ prog_1_method_7_code 3 (some (.long)) 1 := ⟨(z_tb 299 (by decide +kernel)), (z_tb 1 (by decide +kernel)), ⟨by decide +kernel, by decide +kernel⟩, by decide +kernel, by decide⟩
theorem ou_P_123_10 : z_okU1 z_mts "RollPlayer" 123 1 (.invokevirtual 123) 10 203 := ⟨_, _, _, _, _, rfl, by decide, mt_P_doneLong, cw_P_doneLong _, Or.inl ⟨rfl, (z_tb 296 (by decide +kernel)), (z_tb 298 (by decide +kernel)), sl_P_doneLong⟩, fun h => absurd h (by decide +kernel)⟩
theorem ou_P_127_9 : z_okU1 z_mts "RollPlayer" 127 0 (.invokevirtual 127) 9 115 := ⟨_, _, _, _, _, rfl, by decide, mt_S_sumNow, cw_S_sumNow _, Or.inl ⟨rfl, (z_tb 304 (by decide +kernel)), (z_tb 227 (by decide +kernel)), (z_tb 228 (by decide +kernel))⟩, fun h => absurd h (by decide +kernel)⟩
set_option maxRecDepth 100000 in
theorem mt_L_isWhole : z_nth z_mts 128 = some (⟨"RollPlayer$Roll", "isWhole", "(I)Z"⟩, prog_11_method_3_code, 3, (some (.boolean))) := rfl
theorem cw_L_isWhole (own : String) : z_cw own ⟨"RollPlayer$Roll", "isWhole", "(I)Z"⟩ prog_11_method_3_code 3 (some (.boolean)) 1 := ⟨(z_tb 316 (by decide +kernel)), (z_tb 4 (by decide +kernel)), ⟨by decide +kernel, by decide +kernel⟩, by decide +kernel, by decide⟩
theorem ou_P_130_8 : z_okU1 z_mts "RollPlayer" 130 1 (.invokevirtual 130) 8 128 := ⟨_, _, _, _, _, rfl, by decide, mt_L_isWhole, cw_L_isWhole _, Or.inl ⟨rfl, (z_tb 313 (by decide +kernel)), (z_tb 314 (by decide +kernel)), (z_tb 315 (by decide +kernel))⟩, fun h => absurd h (by decide +kernel)⟩
theorem sl_P_nothingThere : Cond.selects "RollPlayer" ⟨"RollPlayer", "nothingThere", "()I"⟩ ⟨"RollPlayer", "nothingThere", "()I"⟩ ∈ lw_tbl := by decide +kernel
set_option maxRecDepth 100000 in
theorem mt_P_nothingThere : z_nth z_mts 201 = some (⟨"RollPlayer", "nothingThere", "()I"⟩, prog_1_method_5_code, 1, (some (.int))) := rfl
theorem cw_P_nothingThere (own : String) : z_cw own ⟨"RollPlayer", "nothingThere", "()I"⟩ prog_1_method_5_code 1 (some (.int)) 0 := ⟨(z_tb 326 (by decide +kernel)), (z_tb 1 (by decide +kernel)), ⟨by decide +kernel, by decide +kernel⟩, by decide +kernel, by decide⟩
theorem ou_P_133_10 : z_okU1 z_mts "RollPlayer" 133 0 (.invokevirtual 133) 10 201 := ⟨_, _, _, _, _, rfl, by decide, mt_P_nothingThere, cw_P_nothingThere _, Or.inl ⟨rfl, (z_tb 323 (by decide +kernel)), (z_tb 325 (by decide +kernel)), sl_P_nothingThere⟩, fun h => absurd h (by decide +kernel)⟩
theorem fl_P_136 : Cond.fieldLink "RollPlayer" 136 "RollPlayer$Strip" "kind" "I" ∈ lw_tbl := z_tb 184 (by decide +kernel)
theorem fg_P_136 : [9].all (fun t => z_fb t 0 "RollPlayer$Strip" "kind" "I" 0 true) = true := by decide +kernel
theorem fl_P_139 : Cond.fieldLink "RollPlayer" 139 "RollPlayer$Strip" "number" "I" ∈ lw_tbl := z_tb 187 (by decide +kernel)
theorem fg_P_139 : [9].all (fun t => z_fb t 1 "RollPlayer$Strip" "number" "I" 0 true) = true := by decide +kernel
theorem fl_P_142 : Cond.fieldLink "RollPlayer" 142 "RollPlayer$Strip" "ticks" "I" ∈ lw_tbl := z_tb 189 (by decide +kernel)
theorem fg_P_142 : [9].all (fun t => z_fb t 2 "RollPlayer$Strip" "ticks" "I" 0 true) = true := by decide +kernel
theorem fl_P_145 : Cond.fieldLink "RollPlayer" 145 "RollPlayer$Organ" "instrumentCount" "I" ∈ lw_tbl := z_tb 56 (by decide +kernel)
theorem fg_P_145 : [4].all (fun t => z_fb t 10 "RollPlayer$Organ" "instrumentCount" "I" 0 false) = true := by decide +kernel
set_option maxRecDepth 100000 in
theorem mt_O_addInstrument : z_nth z_mts 166 = some (⟨"RollPlayer$Organ", "addInstrument", "(I)I"⟩, prog_7_method_3_code, 3, (some (.int))) := rfl
theorem cw_O_addInstrument (own : String) : z_cw own ⟨"RollPlayer$Organ", "addInstrument", "(I)I"⟩ prog_7_method_3_code 3 (some (.int)) 1 := ⟨(z_tb 338 (by decide +kernel)), (z_tb 2 (by decide +kernel)), ⟨by decide +kernel, by decide +kernel⟩, by decide +kernel, by decide⟩
theorem ou_P_148_4 : z_okU1 z_mts "RollPlayer" 148 1 (.invokevirtual 148) 4 166 := ⟨_, _, _, _, _, rfl, by decide, mt_O_addInstrument, cw_O_addInstrument _, Or.inl ⟨rfl, (z_tb 335 (by decide +kernel)), (z_tb 336 (by decide +kernel)), (z_tb 337 (by decide +kernel))⟩, fun h => absurd h (by decide +kernel)⟩
theorem ou_P_151_4 : z_okU1 z_mts "RollPlayer" 151 1 (.invokevirtual 151) 4 165 := ⟨_, _, _, _, _, rfl, by decide, mt_O_instrumentAt, cw_O_instrumentAt _, Or.inl ⟨rfl, (z_tb 460 (by decide +kernel)), (z_tb 461 (by decide +kernel)), (z_tb 462 (by decide +kernel))⟩, fun h => absurd h (by decide +kernel)⟩
theorem ou_P_155_7 : z_okU1 z_mts "RollPlayer" 155 2 (.invokevirtual 155) 7 138 := ⟨_, _, _, _, _, rfl, by decide, mt_N_timesWithin, cw_N_timesWithin _, Or.inl ⟨rfl, (z_tb 464 (by decide +kernel)), (z_tb 465 (by decide +kernel)), (z_tb 480 (by decide +kernel))⟩, fun h => absurd h (by decide +kernel)⟩
theorem ou_P_155_6 : z_okU1 z_mts "RollPlayer" 155 2 (.invokevirtual 155) 6 138 := ⟨_, _, _, _, _, rfl, by decide, mt_N_timesWithin, cw_N_timesWithin _, Or.inl ⟨rfl, (z_tb 464 (by decide +kernel)), (z_tb 465 (by decide +kernel)), (z_tb 479 (by decide +kernel))⟩, fun h => absurd h (by decide +kernel)⟩
theorem ou_P_155_5 : z_okU1 z_mts "RollPlayer" 155 2 (.invokevirtual 155) 5 138 := ⟨_, _, _, _, _, rfl, by decide, mt_N_timesWithin, cw_N_timesWithin _, Or.inl ⟨rfl, (z_tb 464 (by decide +kernel)), (z_tb 465 (by decide +kernel)), (z_tb 478 (by decide +kernel))⟩, fun h => absurd h (by decide +kernel)⟩
theorem ou_P_155_3 : z_okU1 z_mts "RollPlayer" 155 2 (.invokevirtual 155) 3 138 := ⟨_, _, _, _, _, rfl, by decide, mt_N_timesWithin, cw_N_timesWithin _, Or.inl ⟨rfl, (z_tb 464 (by decide +kernel)), (z_tb 465 (by decide +kernel)), (z_tb 477 (by decide +kernel))⟩, fun h => absurd h (by decide +kernel)⟩
theorem ou_P_155_2 : z_okU1 z_mts "RollPlayer" 155 2 (.invokevirtual 155) 2 163 := ⟨_, _, _, _, _, rfl, by decide, mt_Coup_timesWithin, cw_Coup_timesWithin _, Or.inr (Or.inl ⟨rfl, ⟨"RollPlayer$Instrument", "timesWithin", "(II)I"⟩, "RollPlayer$Instrument", rfl, (z_tb 464 (by decide +kernel)), (z_tb 466 (by decide +kernel)), ⟨by decide +kernel, by decide +kernel⟩, Or.inl ⟨(z_tb 465 (by decide +kernel)), prog_6_method_6_code, 3, (some (.int)), (z_tb 481 (by decide +kernel))⟩, (z_tb 469 (by decide +kernel)), (z_tb 470 (by decide +kernel))⟩), fun h => absurd h (by decide +kernel)⟩
theorem ou_P_155_1 : z_okU1 z_mts "RollPlayer" 155 2 (.invokevirtual 155) 1 138 := ⟨_, _, _, _, _, rfl, by decide, mt_N_timesWithin, cw_N_timesWithin _, Or.inl ⟨rfl, (z_tb 464 (by decide +kernel)), (z_tb 465 (by decide +kernel)), (z_tb 468 (by decide +kernel))⟩, fun h => absurd h (by decide +kernel)⟩
theorem ou_P_155_0 : z_okU1 z_mts "RollPlayer" 155 2 (.invokevirtual 155) 0 138 := ⟨_, _, _, _, _, rfl, by decide, mt_N_timesWithin, cw_N_timesWithin _, Or.inl ⟨rfl, (z_tb 464 (by decide +kernel)), (z_tb 465 (by decide +kernel)), (z_tb 467 (by decide +kernel))⟩, fun h => absurd h (by decide +kernel)⟩
theorem fl_P_162 : Cond.fieldLink "RollPlayer" 162 "RollPlayer$Coupler" "memberCount" "I" ∈ lw_tbl := z_tb 445 (by decide +kernel)
theorem fg_P_162 : [2].all (fun t => z_fb t 6 "RollPlayer$Coupler" "memberCount" "I" 0 false) = true := by decide +kernel
theorem fl_P_165 : Cond.fieldLink "RollPlayer" 165 "RollPlayer$Instrument" "size" "I" ∈ lw_tbl := z_tb 359 (by decide +kernel)
theorem fg_P_165 : [0, 1, 2, 3, 5, 6, 7].all (fun t => z_fb t 2 "RollPlayer$Instrument" "size" "I" 0 false) = true := by decide +kernel
set_option maxRecDepth 100000 in
theorem mt_O_grow : z_nth z_mts 168 = some (⟨"RollPlayer$Organ", "grow", "(II)Z"⟩, prog_7_method_5_code, 5, (some (.boolean))) := rfl
theorem cw_O_grow (own : String) : z_cw own ⟨"RollPlayer$Organ", "grow", "(II)Z"⟩ prog_7_method_5_code 5 (some (.boolean)) 2 := ⟨(z_tb 486 (by decide +kernel)), (z_tb 2 (by decide +kernel)), ⟨by decide +kernel, by decide +kernel⟩, by decide +kernel, by decide⟩
theorem ou_P_168_4 : z_okU1 z_mts "RollPlayer" 168 2 (.invokevirtual 168) 4 168 := ⟨_, _, _, _, _, rfl, by decide, mt_O_grow, cw_O_grow _, Or.inl ⟨rfl, (z_tb 483 (by decide +kernel)), (z_tb 484 (by decide +kernel)), (z_tb 485 (by decide +kernel))⟩, fun h => absurd h (by decide +kernel)⟩
set_option maxRecDepth 100000 in
theorem mt_Coup_append : z_nth z_mts 160 = some (⟨"RollPlayer$Coupler", "append", "(LRollPlayer$Instrument;)V"⟩, prog_4_method_3_code, 2, (none)) := rfl
theorem cw_Coup_append (own : String) : z_cw own ⟨"RollPlayer$Coupler", "append", "(LRollPlayer$Instrument;)V"⟩ prog_4_method_3_code 2 (none) 1 := ⟨(z_tb 492 (by decide +kernel)), (z_tb 14 (by decide +kernel)), ⟨by decide +kernel, by decide +kernel⟩, by decide +kernel, by decide⟩
theorem ou_P_172_2 : z_okU1 z_mts "RollPlayer" 172 1 (.invokevirtual 172) 2 160 := ⟨_, _, _, _, _, rfl, by decide, mt_Coup_append, cw_Coup_append _, Or.inl ⟨rfl, (z_tb 489 (by decide +kernel)), (z_tb 490 (by decide +kernel)), (z_tb 491 (by decide +kernel))⟩, fun h => absurd h (by decide +kernel)⟩
theorem fl_P_175 : Cond.fieldLink "RollPlayer" 175 "RollPlayer$Organ" "chestCount" "I" ∈ lw_tbl := z_tb 58 (by decide +kernel)
theorem fg_P_175 : [4].all (fun t => z_fb t 11 "RollPlayer$Organ" "chestCount" "I" 0 false) = true := by decide +kernel
theorem ou_P_178_4 : z_okU1 z_mts "RollPlayer" 178 0 (.invokevirtual 178) 4 171 := ⟨_, _, _, _, _, rfl, by decide, mt_O_placeCount, cw_O_placeCount _, Or.inl ⟨rfl, (z_tb 497 (by decide +kernel)), (z_tb 498 (by decide +kernel)), (z_tb 499 (by decide +kernel))⟩, fun h => absurd h (by decide +kernel)⟩
set_option maxRecDepth 100000 in
theorem mt_O_addChest : z_nth z_mts 172 = some (⟨"RollPlayer$Organ", "addChest", "(II)I"⟩, prog_7_method_9_code, 6, (some (.int))) := rfl
theorem cw_O_addChest (own : String) : z_cw own ⟨"RollPlayer$Organ", "addChest", "(II)I"⟩ prog_7_method_9_code 6 (some (.int)) 2 := ⟨(z_tb 506 (by decide +kernel)), (z_tb 2 (by decide +kernel)), ⟨by decide +kernel, by decide +kernel⟩, by decide +kernel, by decide⟩
theorem ou_P_181_4 : z_okU1 z_mts "RollPlayer" 181 2 (.invokevirtual 181) 4 172 := ⟨_, _, _, _, _, rfl, by decide, mt_O_addChest, cw_O_addChest _, Or.inl ⟨rfl, (z_tb 503 (by decide +kernel)), (z_tb 504 (by decide +kernel)), (z_tb 505 (by decide +kernel))⟩, fun h => absurd h (by decide +kernel)⟩
theorem ou_P_184_4 : z_okU1 z_mts "RollPlayer" 184 1 (.invokevirtual 184) 4 170 := ⟨_, _, _, _, _, rfl, by decide, mt_O_hasChest, cw_O_hasChest _, Or.inl ⟨rfl, (z_tb 512 (by decide +kernel)), (z_tb 513 (by decide +kernel)), (z_tb 514 (by decide +kernel))⟩, fun h => absurd h (by decide +kernel)⟩
theorem ou_P_187_4 : z_okU1 z_mts "RollPlayer" 187 2 (.invokevirtual 187) 4 173 := ⟨_, _, _, _, _, rfl, by decide, mt_O_whereIs, cw_O_whereIs _, Or.inl ⟨rfl, (z_tb 516 (by decide +kernel)), (z_tb 517 (by decide +kernel)), (z_tb 518 (by decide +kernel))⟩, fun h => absurd h (by decide +kernel)⟩
theorem fl_P_190 : Cond.fieldLink "RollPlayer" 190 "RollPlayer$Organ" "chestKinds" "[I" ∈ lw_tbl := z_tb 40 (by decide +kernel)
theorem fg_P_190 : [4].all (fun t => z_fb t 1 "RollPlayer$Organ" "chestKinds" "[I" 1 true) = true := by decide +kernel
set_option maxRecDepth 100000 in
theorem mt_N_isOf : z_nth z_mts 137 = some (⟨"RollPlayer$Instrument", "isOf", "(I)Z"⟩, prog_6_method_5_code, 2, (some (.boolean))) := rfl
theorem cw_N_isOf (own : String) : z_cw own ⟨"RollPlayer$Instrument", "isOf", "(I)Z"⟩ prog_6_method_5_code 2 (some (.boolean)) 1 := ⟨(z_tb 531 (by decide +kernel)), (z_tb 7 (by decide +kernel)), ⟨by decide +kernel, by decide +kernel⟩, by decide +kernel, by decide⟩
theorem ou_P_193_7 : z_okU1 z_mts "RollPlayer" 193 1 (.invokevirtual 193) 7 137 := ⟨_, _, _, _, _, rfl, by decide, mt_N_isOf, cw_N_isOf _, Or.inl ⟨rfl, (z_tb 521 (by decide +kernel)), (z_tb 522 (by decide +kernel)), (z_tb 530 (by decide +kernel))⟩, fun h => absurd h (by decide +kernel)⟩
theorem ou_P_193_6 : z_okU1 z_mts "RollPlayer" 193 1 (.invokevirtual 193) 6 137 := ⟨_, _, _, _, _, rfl, by decide, mt_N_isOf, cw_N_isOf _, Or.inl ⟨rfl, (z_tb 521 (by decide +kernel)), (z_tb 522 (by decide +kernel)), (z_tb 529 (by decide +kernel))⟩, fun h => absurd h (by decide +kernel)⟩
theorem ou_P_193_5 : z_okU1 z_mts "RollPlayer" 193 1 (.invokevirtual 193) 5 137 := ⟨_, _, _, _, _, rfl, by decide, mt_N_isOf, cw_N_isOf _, Or.inl ⟨rfl, (z_tb 521 (by decide +kernel)), (z_tb 522 (by decide +kernel)), (z_tb 528 (by decide +kernel))⟩, fun h => absurd h (by decide +kernel)⟩
theorem ou_P_193_3 : z_okU1 z_mts "RollPlayer" 193 1 (.invokevirtual 193) 3 137 := ⟨_, _, _, _, _, rfl, by decide, mt_N_isOf, cw_N_isOf _, Or.inl ⟨rfl, (z_tb 521 (by decide +kernel)), (z_tb 522 (by decide +kernel)), (z_tb 527 (by decide +kernel))⟩, fun h => absurd h (by decide +kernel)⟩
theorem ou_P_193_2 : z_okU1 z_mts "RollPlayer" 193 1 (.invokevirtual 193) 2 137 := ⟨_, _, _, _, _, rfl, by decide, mt_N_isOf, cw_N_isOf _, Or.inl ⟨rfl, (z_tb 521 (by decide +kernel)), (z_tb 522 (by decide +kernel)), (z_tb 526 (by decide +kernel))⟩, fun h => absurd h (by decide +kernel)⟩
theorem ou_P_193_1 : z_okU1 z_mts "RollPlayer" 193 1 (.invokevirtual 193) 1 137 := ⟨_, _, _, _, _, rfl, by decide, mt_N_isOf, cw_N_isOf _, Or.inl ⟨rfl, (z_tb 521 (by decide +kernel)), (z_tb 522 (by decide +kernel)), (z_tb 525 (by decide +kernel))⟩, fun h => absurd h (by decide +kernel)⟩
theorem ou_P_193_0 : z_okU1 z_mts "RollPlayer" 193 1 (.invokevirtual 193) 0 137 := ⟨_, _, _, _, _, rfl, by decide, mt_N_isOf, cw_N_isOf _, Or.inl ⟨rfl, (z_tb 521 (by decide +kernel)), (z_tb 522 (by decide +kernel)), (z_tb 524 (by decide +kernel))⟩, fun h => absurd h (by decide +kernel)⟩
theorem fl_P_196 : Cond.fieldLink "RollPlayer" 196 "RollPlayer$Organ" "places" "[I" ∈ lw_tbl := z_tb 43 (by decide +kernel)
theorem fg_P_196 : [4].all (fun t => z_fb t 3 "RollPlayer$Organ" "places" "[I" 1 true) = true := by decide +kernel
theorem fl_P_199 : Cond.fieldLink "RollPlayer" 199 "RollPlayer$Organ" "wireChests" "[I" ∈ lw_tbl := z_tb 45 (by decide +kernel)
theorem fg_P_199 : [4].all (fun t => z_fb t 4 "RollPlayer$Organ" "wireChests" "[I" 1 true) = true := by decide +kernel
theorem fl_P_202 : Cond.fieldLink "RollPlayer" 202 "RollPlayer$Organ" "wirePlaces" "[I" ∈ lw_tbl := z_tb 47 (by decide +kernel)
theorem fg_P_202 : [4].all (fun t => z_fb t 5 "RollPlayer$Organ" "wirePlaces" "[I" 1 true) = true := by decide +kernel
theorem fl_P_205 : Cond.fieldLink "RollPlayer" 205 "RollPlayer$Organ" "now" "[I" ∈ lw_tbl := z_tb 51 (by decide +kernel)
theorem fg_P_205 : [4].all (fun t => z_fb t 7 "RollPlayer$Organ" "now" "[I" 1 true) = true := by decide +kernel
theorem fl_P_208 : Cond.fieldLink "RollPlayer" 208 "RollPlayer$Instrument" "kind" "I" ∈ lw_tbl := z_tb 356 (by decide +kernel)
theorem fg_P_208 : [0, 1, 2, 3, 5, 6, 7].all (fun t => z_fb t 1 "RollPlayer$Instrument" "kind" "I" 0 true) = true := by decide +kernel
theorem fp_P_209_false : [0, 1, 2, 3, 5, 6, 7].all (fun t => z_fb t 3 "RollPlayer$Instrument" "p" "I" 0 false && z_fw false "RollPlayer" t 3 false) = true := by decide +kernel
theorem fl_P_209 : Cond.fieldLink "RollPlayer" 209 "RollPlayer$Instrument" "p" "I" ∈ lw_tbl := z_tb 361 (by decide +kernel)
theorem fp_P_212_false : [0, 1, 2, 3, 5, 6, 7].all (fun t => z_fb t 4 "RollPlayer$Instrument" "q" "I" 0 false && z_fw false "RollPlayer" t 4 false) = true := by decide +kernel
theorem fl_P_212 : Cond.fieldLink "RollPlayer" 212 "RollPlayer$Instrument" "q" "I" ∈ lw_tbl := z_tb 363 (by decide +kernel)
theorem fp_P_215_false : [4].all (fun t => z_fb t 12 "RollPlayer$Organ" "baseSixteenths" "I" 0 false && z_fw false "RollPlayer" t 12 false) = true := by decide +kernel
theorem fl_P_215 : Cond.fieldLink "RollPlayer" 215 "RollPlayer$Organ" "baseSixteenths" "I" ∈ lw_tbl := z_tb 60 (by decide +kernel)
set_option maxRecDepth 100000 in
theorem mt_O_pitchOf : z_nth z_mts 169 = some (⟨"RollPlayer$Organ", "pitchOf", "(LRollPlayer$Instrument;)D"⟩, prog_7_method_6_code, 2, (some (.double))) := rfl
theorem cw_O_pitchOf (own : String) : z_cw own ⟨"RollPlayer$Organ", "pitchOf", "(LRollPlayer$Instrument;)D"⟩ prog_7_method_6_code 2 (some (.double)) 1 := ⟨(z_tb 555 (by decide +kernel)), (z_tb 2 (by decide +kernel)), ⟨by decide +kernel, by decide +kernel⟩, by decide +kernel, by decide⟩
theorem ou_P_218_4 : z_okU1 z_mts "RollPlayer" 218 1 (.invokevirtual 218) 4 169 := ⟨_, _, _, _, _, rfl, by decide, mt_O_pitchOf, cw_O_pitchOf _, Or.inl ⟨rfl, (z_tb 552 (by decide +kernel)), (z_tb 553 (by decide +kernel)), (z_tb 554 (by decide +kernel))⟩, fun h => absurd h (by decide +kernel)⟩
set_option maxRecDepth 100000 in
theorem mt_P_bitsOf : z_nth z_mts 230 = some (⟨"RollPlayer", "bitsOf", "(D)J"⟩, prog_1_method_34_code, 7, (some (.long))) := rfl
theorem cw_P_bitsOf (own : String) : z_cw own ⟨"RollPlayer", "bitsOf", "(D)J"⟩ prog_1_method_34_code 7 (some (.long)) 1 := ⟨(z_tb 608 (by decide +kernel)), (z_tb 1 (by decide +kernel)), ⟨by decide +kernel, by decide +kernel⟩, by decide +kernel, by decide⟩
set_option maxRecDepth 100000 in
theorem mt_O_begin : z_nth z_mts 186 = some (⟨"RollPlayer$Organ", "begin", "(LRollPlayer$Roll;)V"⟩, prog_7_method_23_code, 3, (none)) := rfl
theorem cw_O_begin (own : String) : z_cw own ⟨"RollPlayer$Organ", "begin", "(LRollPlayer$Roll;)V"⟩ prog_7_method_23_code 3 (none) 1 := ⟨(z_tb 628 (by decide +kernel)), (z_tb 2 (by decide +kernel)), ⟨by decide +kernel, by decide +kernel⟩, by decide +kernel, by decide⟩
theorem ou_P_234_4 : z_okU1 z_mts "RollPlayer" 234 1 (.invokevirtual 234) 4 186 := ⟨_, _, _, _, _, rfl, by decide, mt_O_begin, cw_O_begin _, Or.inl ⟨rfl, (z_tb 625 (by decide +kernel)), (z_tb 626 (by decide +kernel)), (z_tb 627 (by decide +kernel))⟩, fun h => absurd h (by decide +kernel)⟩
theorem fl_P_238 : Cond.fieldLink "RollPlayer" 238 "RollPlayer$Organ" "ticksUsed" "I" ∈ lw_tbl := z_tb 63 (by decide +kernel)
theorem fg_P_238 : [4].all (fun t => z_fb t 14 "RollPlayer$Organ" "ticksUsed" "I" 0 false) = true := by decide +kernel
set_option maxRecDepth 100000 in
theorem mt_O_reachStrip : z_nth z_mts 190 = some (⟨"RollPlayer$Organ", "reachStrip", "()Z"⟩, prog_7_method_27_code, 7, (some (.boolean))) := rfl
theorem cw_O_reachStrip (own : String) : z_cw own ⟨"RollPlayer$Organ", "reachStrip", "()Z"⟩ prog_7_method_27_code 7 (some (.boolean)) 0 := ⟨(z_tb 650 (by decide +kernel)), (z_tb 2 (by decide +kernel)), ⟨by decide +kernel, by decide +kernel⟩, by decide +kernel, by decide⟩
theorem ou_P_241_4 : z_okU1 z_mts "RollPlayer" 241 0 (.invokevirtual 241) 4 190 := ⟨_, _, _, _, _, rfl, by decide, mt_O_reachStrip, cw_O_reachStrip _, Or.inl ⟨rfl, (z_tb 647 (by decide +kernel)), (z_tb 648 (by decide +kernel)), (z_tb 649 (by decide +kernel))⟩, fun h => absurd h (by decide +kernel)⟩
set_option maxRecDepth 100000 in
theorem mt_O_passTick : z_nth z_mts 192 = some (⟨"RollPlayer$Organ", "passTick", "()V"⟩, prog_7_method_29_code, 3, (none)) := rfl
theorem cw_O_passTick (own : String) : z_cw own ⟨"RollPlayer$Organ", "passTick", "()V"⟩ prog_7_method_29_code 3 (none) 0 := ⟨(z_tb 718 (by decide +kernel)), (z_tb 2 (by decide +kernel)), ⟨by decide +kernel, by decide +kernel⟩, by decide +kernel, by decide⟩
theorem ou_P_245_4 : z_okU1 z_mts "RollPlayer" 245 0 (.invokevirtual 245) 4 192 := ⟨_, _, _, _, _, rfl, by decide, mt_O_passTick, cw_O_passTick _, Or.inl ⟨rfl, (z_tb 715 (by decide +kernel)), (z_tb 716 (by decide +kernel)), (z_tb 717 (by decide +kernel))⟩, fun h => absurd h (by decide +kernel)⟩
theorem ou_P_248_4 : z_okU1 z_mts "RollPlayer" 248 0 (.invokevirtual 248) 4 185 := ⟨_, _, _, _, _, rfl, by decide, mt_O_silence, cw_O_silence _, Or.inl ⟨rfl, (z_tb 731 (by decide +kernel)), (z_tb 662 (by decide +kernel)), (z_tb 663 (by decide +kernel))⟩, fun h => absurd h (by decide +kernel)⟩
theorem fp_P_50_false : [4].all (fun t => z_fb t 15 "RollPlayer$Organ" "playing" "Z" 0 false && z_fw false "RollPlayer" t 15 false) = true := by decide +kernel
set_option maxRecDepth 100000 in
theorem mt_O_goBack : z_nth z_mts 189 = some (⟨"RollPlayer$Organ", "goBack", "(I)Z"⟩, prog_7_method_26_code, 4, (some (.boolean))) := rfl
theorem cw_O_goBack (own : String) : z_cw own ⟨"RollPlayer$Organ", "goBack", "(I)Z"⟩ prog_7_method_26_code 4 (some (.boolean)) 1 := ⟨(z_tb 739 (by decide +kernel)), (z_tb 2 (by decide +kernel)), ⟨by decide +kernel, by decide +kernel⟩, by decide +kernel, by decide⟩
theorem ou_P_251_4 : z_okU1 z_mts "RollPlayer" 251 1 (.invokevirtual 251) 4 189 := ⟨_, _, _, _, _, rfl, by decide, mt_O_goBack, cw_O_goBack _, Or.inl ⟨rfl, (z_tb 736 (by decide +kernel)), (z_tb 737 (by decide +kernel)), (z_tb 738 (by decide +kernel))⟩, fun h => absurd h (by decide +kernel)⟩
theorem ou_P_254_4 : z_okU1 z_mts "RollPlayer" 254 1 (.invokevirtual 254) 4 179 := ⟨_, _, _, _, _, rfl, by decide, mt_O_isOpen, cw_O_isOpen _, Or.inl ⟨rfl, (z_tb 744 (by decide +kernel)), (z_tb 698 (by decide +kernel)), (z_tb 699 (by decide +kernel))⟩, fun h => absurd h (by decide +kernel)⟩
set_option maxRecDepth 100000 in
theorem mt_O_countOfTrack : z_nth z_mts 178 = some (⟨"RollPlayer$Organ", "countOfTrack", "(I)I"⟩, prog_7_method_15_code, 4, (some (.int))) := rfl
theorem cw_O_countOfTrack (own : String) : z_cw own ⟨"RollPlayer$Organ", "countOfTrack", "(I)I"⟩ prog_7_method_15_code 4 (some (.int)) 1 := ⟨(z_tb 748 (by decide +kernel)), (z_tb 2 (by decide +kernel)), ⟨by decide +kernel, by decide +kernel⟩, by decide +kernel, by decide⟩
theorem ou_P_257_4 : z_okU1 z_mts "RollPlayer" 257 1 (.invokevirtual 257) 4 178 := ⟨_, _, _, _, _, rfl, by decide, mt_O_countOfTrack, cw_O_countOfTrack _, Or.inl ⟨rfl, (z_tb 745 (by decide +kernel)), (z_tb 746 (by decide +kernel)), (z_tb 747 (by decide +kernel))⟩, fun h => absurd h (by decide +kernel)⟩
theorem ou_P_260_4 : z_okU1 z_mts "RollPlayer" 260 1 (.invokevirtual 260) 4 177 := ⟨_, _, _, _, _, rfl, by decide, mt_O_soundAt, cw_O_soundAt _, Or.inl ⟨rfl, (z_tb 753 (by decide +kernel)), (z_tb 670 (by decide +kernel)), (z_tb 671 (by decide +kernel))⟩, fun h => absurd h (by decide +kernel)⟩
set_option maxRecDepth 100000 in
theorem mt_O_ageOf : z_nth z_mts 176 = some (⟨"RollPlayer$Organ", "ageOf", "(I)I"⟩, prog_7_method_13_code, 2, (some (.int))) := rfl
theorem cw_O_ageOf (own : String) : z_cw own ⟨"RollPlayer$Organ", "ageOf", "(I)I"⟩ prog_7_method_13_code 2 (some (.int)) 1 := ⟨(z_tb 759 (by decide +kernel)), (z_tb 2 (by decide +kernel)), ⟨by decide +kernel, by decide +kernel⟩, by decide +kernel, by decide⟩
theorem ou_P_269_4 : z_okU1 z_mts "RollPlayer" 269 1 (.invokevirtual 269) 4 176 := ⟨_, _, _, _, _, rfl, by decide, mt_O_ageOf, cw_O_ageOf _, Or.inl ⟨rfl, (z_tb 756 (by decide +kernel)), (z_tb 757 (by decide +kernel)), (z_tb 758 (by decide +kernel))⟩, fun h => absurd h (by decide +kernel)⟩
set_option maxRecDepth 100000 in
theorem mt_Ji_bitCount : z_nth z_mts 6 = some (⟨"java/lang/Integer", "bitCount", "(I)I"⟩, prog_16_method_49_code, 1, (some (.int))) := rfl
theorem cw_Ji_bitCount (own : String) : z_cw own ⟨"java/lang/Integer", "bitCount", "(I)I"⟩ prog_16_method_49_code 1 (some (.int)) 1 := ⟨(z_tb 766 (by decide +kernel)), (z_tb 17 (by decide +kernel)), ⟨by decide +kernel, by decide +kernel⟩, by decide +kernel, by decide⟩
theorem fl_P_277 : Cond.fieldLink "RollPlayer" 277 "RollPlayer$Organ" "traces" "[I" ∈ lw_tbl := z_tb 49 (by decide +kernel)
theorem fg_P_277 : [4].all (fun t => z_fb t 6 "RollPlayer$Organ" "traces" "[I" 1 true) = true := by decide +kernel
set_option maxRecDepth 100000 in
theorem mt_Reed_loudness : z_nth z_mts 144 = some (⟨"RollPlayer$Reed", "loudness", "(III[I)I"⟩, prog_10_method_2_code, 5, (some (.int))) := rfl
theorem cw_Reed_loudness (own : String) : z_cw own ⟨"RollPlayer$Reed", "loudness", "(III[I)I"⟩ prog_10_method_2_code 5 (some (.int)) 4 := ⟨(z_tb 775 (by decide +kernel)), (z_tb 9 (by decide +kernel)), ⟨by decide +kernel, by decide +kernel⟩, by decide +kernel, by decide⟩
theorem ou_P_280_7 : z_okU1 z_mts "RollPlayer" 280 4 (.invokevirtual 280) 7 144 := ⟨_, _, _, _, _, rfl, by decide, mt_Reed_loudness, cw_Reed_loudness _, Or.inr (Or.inl ⟨rfl, ⟨"RollPlayer$Instrument", "loudness", "(III[I)I"⟩, "RollPlayer$Instrument", rfl, (z_tb 770 (by decide +kernel)), (z_tb 772 (by decide +kernel)), ⟨by decide +kernel, by decide +kernel⟩, Or.inr (z_tb 771 (by decide +kernel)), (z_tb 806 (by decide +kernel)), (z_tb 774 (by decide +kernel))⟩), fun h => absurd h (by decide +kernel)⟩
theorem ou_P_280_6 : z_okU1 z_mts "RollPlayer" 280 4 (.invokevirtual 280) 6 152 := ⟨_, _, _, _, _, rfl, by decide, mt_Pluck_loudness, cw_Pluck_loudness _, Or.inr (Or.inl ⟨rfl, ⟨"RollPlayer$Instrument", "loudness", "(III[I)I"⟩, "RollPlayer$Instrument", rfl, (z_tb 770 (by decide +kernel)), (z_tb 772 (by decide +kernel)), ⟨by decide +kernel, by decide +kernel⟩, Or.inr (z_tb 771 (by decide +kernel)), (z_tb 805 (by decide +kernel)), (z_tb 795 (by decide +kernel))⟩), fun h => absurd h (by decide +kernel)⟩
theorem ou_P_280_5 : z_okU1 z_mts "RollPlayer" 280 4 (.invokevirtual 280) 5 141 := ⟨_, _, _, _, _, rfl, by decide, mt_Pipe_loudness, cw_Pipe_loudness _, Or.inr (Or.inl ⟨rfl, ⟨"RollPlayer$Instrument", "loudness", "(III[I)I"⟩, "RollPlayer$Instrument", rfl, (z_tb 770 (by decide +kernel)), (z_tb 772 (by decide +kernel)), ⟨by decide +kernel, by decide +kernel⟩, Or.inr (z_tb 771 (by decide +kernel)), (z_tb 804 (by decide +kernel)), (z_tb 777 (by decide +kernel))⟩), fun h => absurd h (by decide +kernel)⟩
set_option maxRecDepth 100000 in
theorem mt_Drum_loudness : z_nth z_mts 150 = some (⟨"RollPlayer$Drum", "loudness", "(III[I)I"⟩, prog_5_method_2_code, 5, (some (.int))) := rfl
theorem cw_Drum_loudness (own : String) : z_cw own ⟨"RollPlayer$Drum", "loudness", "(III[I)I"⟩ prog_5_method_2_code 5 (some (.int)) 4 := ⟨(z_tb 803 (by decide +kernel)), (z_tb 11 (by decide +kernel)), ⟨by decide +kernel, by decide +kernel⟩, by decide +kernel, by decide⟩
theorem ou_P_280_3 : z_okU1 z_mts "RollPlayer" 280 4 (.invokevirtual 280) 3 150 := ⟨_, _, _, _, _, rfl, by decide, mt_Drum_loudness, cw_Drum_loudness _, Or.inr (Or.inl ⟨rfl, ⟨"RollPlayer$Instrument", "loudness", "(III[I)I"⟩, "RollPlayer$Instrument", rfl, (z_tb 770 (by decide +kernel)), (z_tb 772 (by decide +kernel)), ⟨by decide +kernel, by decide +kernel⟩, Or.inr (z_tb 771 (by decide +kernel)), (z_tb 801 (by decide +kernel)), (z_tb 802 (by decide +kernel))⟩), fun h => absurd h (by decide +kernel)⟩
set_option maxRecDepth 100000 in
theorem mt_Coup_loudness : z_nth z_mts 161 = some (⟨"RollPlayer$Coupler", "loudness", "(III[I)I"⟩, prog_4_method_4_code, 5, (some (.int))) := rfl
theorem cw_Coup_loudness (own : String) : z_cw own ⟨"RollPlayer$Coupler", "loudness", "(III[I)I"⟩ prog_4_method_4_code 5 (some (.int)) 4 := ⟨(z_tb 800 (by decide +kernel)), (z_tb 14 (by decide +kernel)), ⟨by decide +kernel, by decide +kernel⟩, by decide +kernel, by decide⟩
theorem ou_P_280_2 : z_okU1 z_mts "RollPlayer" 280 4 (.invokevirtual 280) 2 161 := ⟨_, _, _, _, _, rfl, by decide, mt_Coup_loudness, cw_Coup_loudness _, Or.inr (Or.inl ⟨rfl, ⟨"RollPlayer$Instrument", "loudness", "(III[I)I"⟩, "RollPlayer$Instrument", rfl, (z_tb 770 (by decide +kernel)), (z_tb 772 (by decide +kernel)), ⟨by decide +kernel, by decide +kernel⟩, Or.inr (z_tb 771 (by decide +kernel)), (z_tb 798 (by decide +kernel)), (z_tb 799 (by decide +kernel))⟩), fun h => absurd h (by decide +kernel)⟩
set_option maxRecDepth 100000 in
theorem mt_Bell_loudness : z_nth z_mts 156 = some (⟨"RollPlayer$Bell", "loudness", "(III[I)I"⟩, prog_3_method_2_code, 5, (some (.int))) := rfl
theorem cw_Bell_loudness (own : String) : z_cw own ⟨"RollPlayer$Bell", "loudness", "(III[I)I"⟩ prog_3_method_2_code 5 (some (.int)) 4 := ⟨(z_tb 793 (by decide +kernel)), (z_tb 13 (by decide +kernel)), ⟨by decide +kernel, by decide +kernel⟩, by decide +kernel, by decide⟩
theorem ou_P_280_1 : z_okU1 z_mts "RollPlayer" 280 4 (.invokevirtual 280) 1 156 := ⟨_, _, _, _, _, rfl, by decide, mt_Bell_loudness, cw_Bell_loudness _, Or.inr (Or.inl ⟨rfl, ⟨"RollPlayer$Instrument", "loudness", "(III[I)I"⟩, "RollPlayer$Instrument", rfl, (z_tb 770 (by decide +kernel)), (z_tb 772 (by decide +kernel)), ⟨by decide +kernel, by decide +kernel⟩, Or.inr (z_tb 771 (by decide +kernel)), (z_tb 791 (by decide +kernel)), (z_tb 792 (by decide +kernel))⟩), fun h => absurd h (by decide +kernel)⟩
theorem ou_P_280_0 : z_okU1 z_mts "RollPlayer" 280 4 (.invokevirtual 280) 0 144 := ⟨_, _, _, _, _, rfl, by decide, mt_Reed_loudness, cw_Reed_loudness _, Or.inr (Or.inl ⟨rfl, ⟨"RollPlayer$Instrument", "loudness", "(III[I)I"⟩, "RollPlayer$Instrument", rfl, (z_tb 770 (by decide +kernel)), (z_tb 772 (by decide +kernel)), ⟨by decide +kernel, by decide +kernel⟩, Or.inr (z_tb 771 (by decide +kernel)), (z_tb 773 (by decide +kernel)), (z_tb 774 (by decide +kernel))⟩), fun h => absurd h (by decide +kernel)⟩
theorem fl_P_284 : Cond.fieldLink "RollPlayer" 284 "RollPlayer$Organ" "events" "[I" ∈ lw_tbl := z_tb 54 (by decide +kernel)
theorem fg_P_284 : [4].all (fun t => z_fb t 9 "RollPlayer$Organ" "events" "[I" 1 true) = true := by decide +kernel
set_option maxRecDepth 100000 in
theorem mt_L_splitAt : z_nth z_mts 133 = some (⟨"RollPlayer$Roll", "splitAt", "(I)LRollPlayer$Roll;"⟩, prog_11_method_8_code, 5, (some (.object "RollPlayer$Roll"))) := rfl
theorem cw_L_splitAt (own : String) : z_cw own ⟨"RollPlayer$Roll", "splitAt", "(I)LRollPlayer$Roll;"⟩ prog_11_method_8_code 5 (some (.object "RollPlayer$Roll")) 1 := ⟨(z_tb 834 (by decide +kernel)), (z_tb 4 (by decide +kernel)), ⟨by decide +kernel, by decide +kernel⟩, by decide +kernel, by decide⟩
theorem ou_P_287_8 : z_okU1 z_mts "RollPlayer" 287 1 (.invokevirtual 287) 8 133 := ⟨_, _, _, _, _, rfl, by decide, mt_L_splitAt, cw_L_splitAt _, Or.inl ⟨rfl, (z_tb 831 (by decide +kernel)), (z_tb 832 (by decide +kernel)), (z_tb 833 (by decide +kernel))⟩, fun h => absurd h (by decide +kernel)⟩
theorem sl_P_addCopies : Cond.selects "RollPlayer" ⟨"RollPlayer", "addCopies", "(LRollPlayer$Roll;ILRollPlayer$Roll;II)I"⟩ ⟨"RollPlayer", "addCopies", "(LRollPlayer$Roll;ILRollPlayer$Roll;II)I"⟩ ∈ lw_tbl := by decide +kernel
set_option maxRecDepth 100000 in
theorem mt_P_addCopies : z_nth z_mts 248 = some (⟨"RollPlayer", "addCopies", "(LRollPlayer$Roll;ILRollPlayer$Roll;II)I"⟩, prog_1_method_52_code, 9, (some (.int))) := rfl
theorem cw_P_addCopies (own : String) : z_cw own ⟨"RollPlayer", "addCopies", "(LRollPlayer$Roll;ILRollPlayer$Roll;II)I"⟩ prog_1_method_52_code 9 (some (.int)) 5 := ⟨(z_tb 847 (by decide +kernel)), (z_tb 1 (by decide +kernel)), ⟨by decide +kernel, by decide +kernel⟩, by decide +kernel, by decide⟩
theorem ou_P_290_10 : z_okU1 z_mts "RollPlayer" 290 5 (.invokevirtual 290) 10 248 := ⟨_, _, _, _, _, rfl, by decide, mt_P_addCopies, cw_P_addCopies _, Or.inl ⟨rfl, (z_tb 844 (by decide +kernel)), (z_tb 846 (by decide +kernel)), sl_P_addCopies⟩, fun h => absurd h (by decide +kernel)⟩
set_option maxRecDepth 100000 in
theorem mt_L_elementsIn : z_nth z_mts 132 = some (⟨"RollPlayer$Roll", "elementsIn", "(II)I"⟩, prog_11_method_7_code, 6, (some (.int))) := rfl
theorem cw_L_elementsIn (own : String) : z_cw own ⟨"RollPlayer$Roll", "elementsIn", "(II)I"⟩ prog_11_method_7_code 6 (some (.int)) 2 := ⟨(z_tb 851 (by decide +kernel)), (z_tb 4 (by decide +kernel)), ⟨by decide +kernel, by decide +kernel⟩, by decide +kernel, by decide⟩
theorem ou_P_294_8 : z_okU1 z_mts "RollPlayer" 294 2 (.invokevirtual 294) 8 132 := ⟨_, _, _, _, _, rfl, by decide, mt_L_elementsIn, cw_L_elementsIn _, Or.inl ⟨rfl, (z_tb 848 (by decide +kernel)), (z_tb 849 (by decide +kernel)), (z_tb 850 (by decide +kernel))⟩, fun h => absurd h (by decide +kernel)⟩
set_option maxRecDepth 100000 in
theorem mt_L_makeRoom : z_nth z_mts 131 = some (⟨"RollPlayer$Roll", "makeRoom", "(II)V"⟩, prog_11_method_6_code, 4, (none)) := rfl
theorem cw_L_makeRoom (own : String) : z_cw own ⟨"RollPlayer$Roll", "makeRoom", "(II)V"⟩ prog_11_method_6_code 4 (none) 2 := ⟨(z_tb 856 (by decide +kernel)), (z_tb 4 (by decide +kernel)), ⟨by decide +kernel, by decide +kernel⟩, by decide +kernel, by decide⟩
theorem ou_P_297_8 : z_okU1 z_mts "RollPlayer" 297 2 (.invokevirtual 297) 8 131 := ⟨_, _, _, _, _, rfl, by decide, mt_L_makeRoom, cw_L_makeRoom _, Or.inl ⟨rfl, (z_tb 853 (by decide +kernel)), (z_tb 854 (by decide +kernel)), (z_tb 855 (by decide +kernel))⟩, fun h => absurd h (by decide +kernel)⟩
set_option maxRecDepth 100000 in
theorem mt_S_twin : z_nth z_mts 121 = some (⟨"RollPlayer$Strip", "twin", "()LRollPlayer$Strip;"⟩, prog_12_method_13_code, 2, (some (.object "RollPlayer$Strip"))) := rfl
theorem cw_S_twin (own : String) : z_cw own ⟨"RollPlayer$Strip", "twin", "()LRollPlayer$Strip;"⟩ prog_12_method_13_code 2 (some (.object "RollPlayer$Strip")) 0 := ⟨(z_tb 860 (by decide +kernel)), (z_tb 5 (by decide +kernel)), ⟨by decide +kernel, by decide +kernel⟩, by decide +kernel, by decide⟩
theorem ou_P_300_9 : z_okU1 z_mts "RollPlayer" 300 0 (.invokevirtual 300) 9 121 := ⟨_, _, _, _, _, rfl, by decide, mt_S_twin, cw_S_twin _, Or.inl ⟨rfl, (z_tb 857 (by decide +kernel)), (z_tb 858 (by decide +kernel)), (z_tb 859 (by decide +kernel))⟩, fun h => absurd h (by decide +kernel)⟩
set_option maxRecDepth 100000 in
theorem mt_L_put : z_nth z_mts 130 = some (⟨"RollPlayer$Roll", "put", "(ILRollPlayer$Strip;)V"⟩, prog_11_method_5_code, 3, (none)) := rfl
theorem cw_L_put (own : String) : z_cw own ⟨"RollPlayer$Roll", "put", "(ILRollPlayer$Strip;)V"⟩ prog_11_method_5_code 3 (none) 2 := ⟨(z_tb 871 (by decide +kernel)), (z_tb 4 (by decide +kernel)), ⟨by decide +kernel, by decide +kernel⟩, by decide +kernel, by decide⟩
theorem ou_P_304_8 : z_okU1 z_mts "RollPlayer" 304 2 (.invokevirtual 304) 8 130 := ⟨_, _, _, _, _, rfl, by decide, mt_L_put, cw_L_put _, Or.inl ⟨rfl, (z_tb 868 (by decide +kernel)), (z_tb 869 (by decide +kernel)), (z_tb 870 (by decide +kernel))⟩, fun h => absurd h (by decide +kernel)⟩
theorem sl_P_moveOne : Cond.selects "RollPlayer" ⟨"RollPlayer", "moveOne", "(LRollPlayer$Strip;LRollPlayer$Strip;)I"⟩ ⟨"RollPlayer", "moveOne", "(LRollPlayer$Strip;LRollPlayer$Strip;)I"⟩ ∈ lw_tbl := by decide +kernel
set_option maxRecDepth 100000 in
theorem mt_P_moveOne : z_nth z_mts 250 = some (⟨"RollPlayer", "moveOne", "(LRollPlayer$Strip;LRollPlayer$Strip;)I"⟩, prog_1_method_54_code, 3, (some (.int))) := rfl
theorem cw_P_moveOne (own : String) : z_cw own ⟨"RollPlayer", "moveOne", "(LRollPlayer$Strip;LRollPlayer$Strip;)I"⟩ prog_1_method_54_code 3 (some (.int)) 2 := ⟨(z_tb 883 (by decide +kernel)), (z_tb 1 (by decide +kernel)), ⟨by decide +kernel, by decide +kernel⟩, by decide +kernel, by decide⟩
theorem ou_P_308_10 : z_okU1 z_mts "RollPlayer" 308 2 (.invokevirtual 308) 10 250 := ⟨_, _, _, _, _, rfl, by decide, mt_P_moveOne, cw_P_moveOne _, Or.inl ⟨rfl, (z_tb 880 (by decide +kernel)), (z_tb 882 (by decide +kernel)), sl_P_moveOne⟩, fun h => absurd h (by decide +kernel)⟩
theorem sl_P_replaceBytes : Cond.selects "RollPlayer" ⟨"RollPlayer", "replaceBytes", "(LRollPlayer$Strip;LRollPlayer$Strip;)Z"⟩ ⟨"RollPlayer", "replaceBytes", "(LRollPlayer$Strip;LRollPlayer$Strip;)Z"⟩ ∈ lw_tbl := by decide +kernel
set_option maxRecDepth 100000 in
theorem mt_P_replaceBytes : z_nth z_mts 251 = some (⟨"RollPlayer", "replaceBytes", "(LRollPlayer$Strip;LRollPlayer$Strip;)Z"⟩, prog_1_method_55_code, 4, (some (.boolean))) := rfl
theorem cw_P_replaceBytes (own : String) : z_cw own ⟨"RollPlayer", "replaceBytes", "(LRollPlayer$Strip;LRollPlayer$Strip;)Z"⟩ prog_1_method_55_code 4 (some (.boolean)) 2 := ⟨(z_tb 887 (by decide +kernel)), (z_tb 1 (by decide +kernel)), ⟨by decide +kernel, by decide +kernel⟩, by decide +kernel, by decide⟩
theorem ou_P_312_10 : z_okU1 z_mts "RollPlayer" 312 2 (.invokevirtual 312) 10 251 := ⟨_, _, _, _, _, rfl, by decide, mt_P_replaceBytes, cw_P_replaceBytes _, Or.inl ⟨rfl, (z_tb 884 (by decide +kernel)), (z_tb 886 (by decide +kernel)), sl_P_replaceBytes⟩, fun h => absurd h (by decide +kernel)⟩
theorem ou_P_316_9 : z_okU1 z_mts "RollPlayer" 316 1 (.invokevirtual 316) 9 120 := ⟨_, _, _, _, _, rfl, by decide, mt_S_takeBytes, cw_S_takeBytes _, Or.inl ⟨rfl, (z_tb 888 (by decide +kernel)), (z_tb 864 (by decide +kernel)), (z_tb 865 (by decide +kernel))⟩, fun h => absurd h (by decide +kernel)⟩
set_option maxRecDepth 100000 in
theorem mt_S_hasSpan : z_nth z_mts 122 = some (⟨"RollPlayer$Strip", "hasSpan", "(II)Z"⟩, prog_12_method_14_code, 3, (some (.boolean))) := rfl
theorem cw_S_hasSpan (own : String) : z_cw own ⟨"RollPlayer$Strip", "hasSpan", "(II)Z"⟩ prog_12_method_14_code 3 (some (.boolean)) 2 := ⟨(z_tb 896 (by decide +kernel)), (z_tb 5 (by decide +kernel)), ⟨by decide +kernel, by decide +kernel⟩, by decide +kernel, by decide⟩
theorem ou_P_319_9 : z_okU1 z_mts "RollPlayer" 319 2 (.invokevirtual 319) 9 122 := ⟨_, _, _, _, _, rfl, by decide, mt_S_hasSpan, cw_S_hasSpan _, Or.inl ⟨rfl, (z_tb 893 (by decide +kernel)), (z_tb 894 (by decide +kernel)), (z_tb 895 (by decide +kernel))⟩, fun h => absurd h (by decide +kernel)⟩
set_option maxRecDepth 100000 in
theorem mt_S_takeElements : z_nth z_mts 123 = some (⟨"RollPlayer$Strip", "takeElements", "(ILRollPlayer$Strip;II)V"⟩, prog_12_method_15_code, 5, (none)) := rfl
theorem cw_S_takeElements (own : String) : z_cw own ⟨"RollPlayer$Strip", "takeElements", "(ILRollPlayer$Strip;II)V"⟩ prog_12_method_15_code 5 (none) 4 := ⟨(z_tb 900 (by decide +kernel)), (z_tb 5 (by decide +kernel)), ⟨by decide +kernel, by decide +kernel⟩, by decide +kernel, by decide⟩
theorem ou_P_322_9 : z_okU1 z_mts "RollPlayer" 322 4 (.invokevirtual 322) 9 123 := ⟨_, _, _, _, _, rfl, by decide, mt_S_takeElements, cw_S_takeElements _, Or.inl ⟨rfl, (z_tb 897 (by decide +kernel)), (z_tb 898 (by decide +kernel)), (z_tb 899 (by decide +kernel))⟩, fun h => absurd h (by decide +kernel)⟩
theorem fp_P_36_false : [10].all (fun t => z_fb t 6 "RollPlayer" "fallCount" "I" 0 false && z_fw false "RollPlayer" t 6 false) = true := by decide +kernel
theorem ou_P_326_9 : z_okU1 z_mts "RollPlayer" 326 1 (.invokevirtual 326) 9 113 := ⟨_, _, _, _, _, rfl, by decide, mt_S_elementAt, cw_S_elementAt _, Or.inl ⟨rfl, (z_tb 905 (by decide +kernel)), (z_tb 689 (by decide +kernel)), (z_tb 690 (by decide +kernel))⟩, fun h => absurd h (by decide +kernel)⟩
theorem sl_P_noteFallen : Cond.selects "RollPlayer" ⟨"RollPlayer", "noteFallen", "(III)V"⟩ ⟨"RollPlayer", "noteFallen", "(III)V"⟩ ∈ lw_tbl := by decide +kernel
set_option maxRecDepth 100000 in
theorem mt_P_noteFallen : z_nth z_mts 254 = some (⟨"RollPlayer", "noteFallen", "(III)V"⟩, prog_1_method_58_code, 6, (none)) := rfl
theorem cw_P_noteFallen (own : String) : z_cw own ⟨"RollPlayer", "noteFallen", "(III)V"⟩ prog_1_method_58_code 6 (none) 3 := ⟨(z_tb 909 (by decide +kernel)), (z_tb 1 (by decide +kernel)), ⟨by decide +kernel, by decide +kernel⟩, by decide +kernel, by decide⟩
theorem ou_P_329_10 : z_okU1 z_mts "RollPlayer" 329 3 (.invokevirtual 329) 10 254 := ⟨_, _, _, _, _, rfl, by decide, mt_P_noteFallen, cw_P_noteFallen _, Or.inl ⟨rfl, (z_tb 906 (by decide +kernel)), (z_tb 908 (by decide +kernel)), sl_P_noteFallen⟩, fun h => absurd h (by decide +kernel)⟩
theorem fg_P_36 : [10].all (fun t => z_fb t 6 "RollPlayer" "fallCount" "I" 0 false) = true := by decide +kernel
theorem fg_P_22 : [10].all (fun t => z_fb t 2 "RollPlayer" "fallOff" "[I" 1 true) = true := by decide +kernel
set_option maxRecDepth 100000 in
theorem mt_S_isLike : z_nth z_mts 124 = some (⟨"RollPlayer$Strip", "isLike", "(LRollPlayer$Strip;)Z"⟩, prog_12_method_16_code, 3, (some (.boolean))) := rfl
theorem cw_S_isLike (own : String) : z_cw own ⟨"RollPlayer$Strip", "isLike", "(LRollPlayer$Strip;)Z"⟩ prog_12_method_16_code 3 (some (.boolean)) 1 := ⟨(z_tb 925 (by decide +kernel)), (z_tb 5 (by decide +kernel)), ⟨by decide +kernel, by decide +kernel⟩, by decide +kernel, by decide⟩
theorem ou_P_333_9 : z_okU1 z_mts "RollPlayer" 333 1 (.invokevirtual 333) 9 124 := ⟨_, _, _, _, _, rfl, by decide, mt_S_isLike, cw_S_isLike _, Or.inl ⟨rfl, (z_tb 922 (by decide +kernel)), (z_tb 923 (by decide +kernel)), (z_tb 924 (by decide +kernel))⟩, fun h => absurd h (by decide +kernel)⟩
set_option maxRecDepth 100000 in
theorem mt_S_digestOnto : z_nth z_mts 125 = some (⟨"RollPlayer$Strip", "digestOnto", "(I)I"⟩, prog_12_method_17_code, 4, (some (.int))) := rfl
theorem cw_S_digestOnto (own : String) : z_cw own ⟨"RollPlayer$Strip", "digestOnto", "(I)I"⟩ prog_12_method_17_code 4 (some (.int)) 1 := ⟨(z_tb 933 (by decide +kernel)), (z_tb 5 (by decide +kernel)), ⟨by decide +kernel, by decide +kernel⟩, by decide +kernel, by decide⟩
theorem ou_P_337_9 : z_okU1 z_mts "RollPlayer" 337 1 (.invokevirtual 337) 9 125 := ⟨_, _, _, _, _, rfl, by decide, mt_S_digestOnto, cw_S_digestOnto _, Or.inl ⟨rfl, (z_tb 930 (by decide +kernel)), (z_tb 931 (by decide +kernel)), (z_tb 932 (by decide +kernel))⟩, fun h => absurd h (by decide +kernel)⟩
theorem fg_P_39 : [10].all (fun t => z_fb t 7 "RollPlayer" "latest" "I" 0 false) = true := by decide +kernel
