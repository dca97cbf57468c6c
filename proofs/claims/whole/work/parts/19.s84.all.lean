/-! all methods together (printed by wip/gen/emitW.py) -/
def z_upto (P : Nat → Prop) : Nat → Prop
  | 0 => True
  | n + 1 => P n ∧ z_upto P n
theorem z_upto_mem {P : Nat → Prop} : ∀ (n : Nat), z_upto P n → ∀ i, i < n → P i
  | 0, _, i, h => by omega
  | n + 1, h, i, hi => by
    by_cases e : i = n
    · subst e; exact h.1
    · exact z_upto_mem n h.2 i (by omega)
theorem z_nth_lt {α : Type} : ∀ (l : List α) (i : Nat) (x : α), z_nth l i = some x → i < l.length
  | [], _, _, h => by cases h
  | _ :: _, 0, _, _ => by simp
  | _ :: r, n + 1, x, h => by have := z_nth_lt r n x h; simp; omega
theorem z_nth_ge {α : Type} : ∀ (l : List α) (i : Nat), l.length ≤ i → z_nth l i = none
  | [], _, _ => rfl
  | _ :: _, 0, h => by simp at h
  | _ :: r, n + 1, h => z_nth_ge r n (by simp at h; omega)
theorem z_okn_of {X : zX} {S : zS} {n0 mi : Nat} {y : MethodName} {cc : ByteArray} {mx : Nat} {ret : Option FieldType} {t : List (Nat × zA)} {ini : Bool} (h1 : z_nth z_mts mi = some (y, cc, mx, ret)) (h2 : plainFor y = true) (h3 : z_mx mi = mx) (h4 : z_tab mi = t) (h5 : decide (y.name = "<init>") = ini) (h6 : z_alls (zSnd X S n0 z_mts cc y.cls mx ini ret) t) : z_okn X S n0 z_mts mi := by
  intro y' cc' mx' ret' h
  rw [h1] at h
  cases h
  refine ⟨h2, h3, ?_⟩
  rw [h4, h5]
  exact z_alls_mem _ h6
theorem z_monm_of {mi : Nat} {t : List (Nat × zA)} (h : z_tab mi = t) (h2 : z_alls (fun _ a => zMon a) t) : z_monm mi := by
  intro q hq
  rw [h] at hq
  exact z_alls_mem _ h2 q hq
set_option maxRecDepth 100000 in
theorem tb_Jm_floorDiv : z_tab 0 = tJm_floorDiv := rfl
set_option maxRecDepth 100000 in
theorem tb_Jm_floorMod : z_tab 1 = tJm_floorMod := rfl
set_option maxRecDepth 100000 in
theorem tb_Jm_max : z_tab 2 = tJm_max := rfl
set_option maxRecDepth 100000 in
theorem tb_Jm_min : z_tab 3 = tJm_min := rfl
set_option maxRecDepth 100000 in
theorem tb_Jd_isNaN : z_tab 4 = tJd_isNaN := rfl
set_option maxRecDepth 100000 in
theorem tb_Jd_doubleToLongBits : z_tab 5 = tJd_doubleToLongBits := rfl
set_option maxRecDepth 100000 in
theorem tb_Ji_bitCount : z_tab 6 = tJi_bitCount := rfl
set_option maxRecDepth 100000 in
theorem tb_Q_init : z_tab 7 = tQ_init := rfl
set_option maxRecDepth 100000 in
theorem tb_Q_within : z_tab 8 = tQ_within := rfl
set_option maxRecDepth 100000 in
theorem tb_Q_no : z_tab 9 = tQ_no := rfl
set_option maxRecDepth 100000 in
theorem tb_Q_finds : z_tab 10 = tQ_finds := rfl
set_option maxRecDepth 100000 in
theorem tb_Q_well : z_tab 11 = tQ_well := rfl
set_option maxRecDepth 100000 in
theorem tb_Q_isRoll : z_tab 12 = tQ_isRoll := rfl
set_option maxRecDepth 100000 in
theorem tb_Q_isStrip : z_tab 13 = tQ_isStrip := rfl
set_option maxRecDepth 100000 in
theorem tb_Q_poolOf : z_tab 14 = tQ_poolOf := rfl
set_option maxRecDepth 100000 in
theorem tb_Q_width : z_tab 15 = tQ_width := rfl
set_option maxRecDepth 100000 in
theorem tb_Q_low : z_tab 16 = tQ_low := rfl
set_option maxRecDepth 100000 in
theorem tb_Q_bytesOf : z_tab 17 = tQ_bytesOf := rfl
set_option maxRecDepth 100000 in
theorem tb_Q_byteAt : z_tab 18 = tQ_byteAt := rfl
set_option maxRecDepth 100000 in
theorem tb_Q_sumOf : z_tab 19 = tQ_sumOf := rfl
set_option maxRecDepth 100000 in
theorem tb_Q_headShort : z_tab 20 = tQ_headShort := rfl
set_option maxRecDepth 100000 in
theorem tb_Q_headSum : z_tab 21 = tQ_headSum := rfl
set_option maxRecDepth 100000 in
theorem tb_Q_sealIt : z_tab 22 = tQ_sealIt := rfl
set_option maxRecDepth 100000 in
theorem tb_Q_findingOf : z_tab 23 = tQ_findingOf := rfl
set_option maxRecDepth 100000 in
theorem tb_Q_roll : z_tab 24 = tQ_roll := rfl
set_option maxRecDepth 100000 in
theorem tb_Q_strip : z_tab 25 = tQ_strip := rfl
set_option maxRecDepth 100000 in
theorem tb_Q_bars : z_tab 26 = tQ_bars := rfl
set_option maxRecDepth 100000 in
theorem tb_Q_punch : z_tab 27 = tQ_punch := rfl
set_option maxRecDepth 100000 in
theorem tb_Q_seal : z_tab 28 = tQ_seal := rfl
set_option maxRecDepth 100000 in
theorem tb_Q_empty : z_tab 29 = tQ_empty := rfl
set_option maxRecDepth 100000 in
theorem tb_Q_lose : z_tab 30 = tQ_lose := rfl
set_option maxRecDepth 100000 in
theorem tb_Q_tear : z_tab 31 = tQ_tear := rfl
set_option maxRecDepth 100000 in
theorem tb_Q_damage : z_tab 32 = tQ_damage := rfl
set_option maxRecDepth 100000 in
theorem tb_Q_asks : z_tab 33 = tQ_asks := rfl
set_option maxRecDepth 100000 in
theorem tb_Q_byteOf : z_tab 34 = tQ_byteOf := rfl
set_option maxRecDepth 100000 in
theorem tb_Q_head : z_tab 35 = tQ_head := rfl
set_option maxRecDepth 100000 in
theorem tb_Q_sum : z_tab 36 = tQ_sum := rfl
set_option maxRecDepth 100000 in
theorem tb_Q_read : z_tab 37 = tQ_read := rfl
set_option maxRecDepth 100000 in
theorem tb_Q_whole : z_tab 38 = tQ_whole := rfl
set_option maxRecDepth 100000 in
theorem tb_Q_finding : z_tab 39 = tQ_finding := rfl
set_option maxRecDepth 100000 in
theorem tb_Q_told : z_tab 40 = tQ_told := rfl
set_option maxRecDepth 100000 in
theorem tb_Q_isInstrument : z_tab 41 = tQ_isInstrument := rfl
set_option maxRecDepth 100000 in
theorem tb_Q_instrument : z_tab 42 = tQ_instrument := rfl
set_option maxRecDepth 100000 in
theorem tb_Q_reaches : z_tab 43 = tQ_reaches := rfl
set_option maxRecDepth 100000 in
theorem tb_Q_reckon : z_tab 44 = tQ_reckon := rfl
set_option maxRecDepth 100000 in
theorem tb_Q_couple : z_tab 45 = tQ_couple := rfl
set_option maxRecDepth 100000 in
theorem tb_Q_chest : z_tab 46 = tQ_chest := rfl
set_option maxRecDepth 100000 in
theorem tb_Q_takes : z_tab 47 = tQ_takes := rfl
set_option maxRecDepth 100000 in
theorem tb_Q_place : z_tab 48 = tQ_place := rfl
set_option maxRecDepth 100000 in
theorem tb_Q_wire : z_tab 49 = tQ_wire := rfl
set_option maxRecDepth 100000 in
theorem tb_Q_spoil : z_tab 50 = tQ_spoil := rfl
set_option maxRecDepth 100000 in
theorem tb_Q_tune : z_tab 51 = tQ_tune := rfl
set_option maxRecDepth 100000 in
theorem tb_Q_base : z_tab 52 = tQ_base := rfl
set_option maxRecDepth 100000 in
theorem tb_Q_floor : z_tab 53 = tQ_floor := rfl
set_option maxRecDepth 100000 in
theorem tb_Q_nearest : z_tab 54 = tQ_nearest := rfl
set_option maxRecDepth 100000 in
theorem tb_Q_plainOf : z_tab 55 = tQ_plainOf := rfl
set_option maxRecDepth 100000 in
theorem tb_Q_frequencyOf : z_tab 56 = tQ_frequencyOf := rfl
set_option maxRecDepth 100000 in
theorem tb_Q_tones : z_tab 57 = tQ_tones := rfl
set_option maxRecDepth 100000 in
theorem tb_Q_frequency : z_tab 58 = tQ_frequency := rfl
set_option maxRecDepth 100000 in
theorem tb_Q_mute : z_tab 59 = tQ_mute := rfl
set_option maxRecDepth 100000 in
theorem tb_Q_higher : z_tab 60 = tQ_higher := rfl
set_option maxRecDepth 100000 in
theorem tb_Q_tell : z_tab 61 = tQ_tell := rfl
set_option maxRecDepth 100000 in
theorem tb_Q_end : z_tab 62 = tQ_end := rfl
set_option maxRecDepth 100000 in
theorem tb_Q_endAll : z_tab 63 = tQ_endAll := rfl
set_option maxRecDepth 100000 in
theorem tb_Q_begins : z_tab 64 = tQ_begins := rfl
set_option maxRecDepth 100000 in
theorem tb_Q_opens : z_tab 65 = tQ_opens := rfl
set_option maxRecDepth 100000 in
theorem tb_Q_openHole : z_tab 66 = tQ_openHole := rfl
set_option maxRecDepth 100000 in
theorem tb_Q_shutHole : z_tab 67 = tQ_shutHole := rfl
set_option maxRecDepth 100000 in
theorem tb_Q_does : z_tab 68 = tQ_does := rfl
set_option maxRecDepth 100000 in
theorem tb_Q_tempoTo : z_tab 69 = tQ_tempoTo := rfl
set_option maxRecDepth 100000 in
theorem tb_Q_down : z_tab 70 = tQ_down := rfl
set_option maxRecDepth 100000 in
theorem tb_Q_tempoGoesOn : z_tab 71 = tQ_tempoGoesOn := rfl
set_option maxRecDepth 100000 in
theorem tb_Q_comes : z_tab 72 = tQ_comes := rfl
set_option maxRecDepth 100000 in
theorem tb_Q_play : z_tab 73 = tQ_play := rfl
set_option maxRecDepth 100000 in
theorem tb_Q_tick : z_tab 74 = tQ_tick := rfl
set_option maxRecDepth 100000 in
theorem tb_Q_halt : z_tab 75 = tQ_halt := rfl
set_option maxRecDepth 100000 in
theorem tb_Q_layAside : z_tab 76 = tQ_layAside := rfl
set_option maxRecDepth 100000 in
theorem tb_Q_becomes : z_tab 77 = tQ_becomes := rfl
set_option maxRecDepth 100000 in
theorem tb_Q_back : z_tab 78 = tQ_back := rfl
set_option maxRecDepth 100000 in
theorem tb_Q_open : z_tab 79 = tQ_open := rfl
set_option maxRecDepth 100000 in
theorem tb_Q_sounding : z_tab 80 = tQ_sounding := rfl
set_option maxRecDepth 100000 in
theorem tb_Q_airOf : z_tab 81 = tQ_airOf := rfl
set_option maxRecDepth 100000 in
theorem tb_Q_loudOf : z_tab 82 = tQ_loudOf := rfl
set_option maxRecDepth 100000 in
theorem tb_Q_loud : z_tab 83 = tQ_loud := rfl
set_option maxRecDepth 100000 in
theorem tb_Q_level : z_tab 84 = tQ_level := rfl
set_option maxRecDepth 100000 in
theorem tb_Q_stop : z_tab 85 = tQ_stop := rfl
set_option maxRecDepth 100000 in
theorem tb_Q_at : z_tab 86 = tQ_at := rfl
set_option maxRecDepth 100000 in
theorem tb_Q_times : z_tab 87 = tQ_times := rfl
set_option maxRecDepth 100000 in
theorem tb_Q_event : z_tab 88 = tQ_event := rfl
set_option maxRecDepth 100000 in
theorem tb_Q_cut : z_tab 89 = tQ_cut := rfl
set_option maxRecDepth 100000 in
theorem tb_Q_copies : z_tab 90 = tQ_copies := rfl
set_option maxRecDepth 100000 in
theorem tb_Q_copyOf : z_tab 91 = tQ_copyOf := rfl
set_option maxRecDepth 100000 in
theorem tb_Q_elementsOf : z_tab 92 = tQ_elementsOf := rfl
set_option maxRecDepth 100000 in
theorem tb_Q_join : z_tab 93 = tQ_join := rfl
set_option maxRecDepth 100000 in
theorem tb_Q_repeat : z_tab 94 = tQ_repeat := rfl
set_option maxRecDepth 100000 in
theorem tb_Q_move : z_tab 95 = tQ_move := rfl
set_option maxRecDepth 100000 in
theorem tb_Q_hinders : z_tab 96 = tQ_hinders := rfl
set_option maxRecDepth 100000 in
theorem tb_Q_copy : z_tab 97 = tQ_copy := rfl
set_option maxRecDepth 100000 in
theorem tb_Q_transpose : z_tab 98 = tQ_transpose := rfl
set_option maxRecDepth 100000 in
theorem tb_Q_fallen : z_tab 99 = tQ_fallen := rfl
set_option maxRecDepth 100000 in
theorem tb_Q_mend : z_tab 100 = tQ_mend := rfl
set_option maxRecDepth 100000 in
theorem tb_Q_areAlike : z_tab 101 = tQ_areAlike := rfl
set_option maxRecDepth 100000 in
theorem tb_Q_equal : z_tab 102 = tQ_equal := rfl
set_option maxRecDepth 100000 in
theorem tb_Q_digest : z_tab 103 = tQ_digest := rfl
set_option maxRecDepth 100000 in
theorem tb_Q_count : z_tab 104 = tQ_count := rfl
set_option maxRecDepth 100000 in
theorem tb_Q_strips : z_tab 105 = tQ_strips := rfl
set_option maxRecDepth 100000 in
theorem tb_Q_members : z_tab 106 = tQ_members := rfl
set_option maxRecDepth 100000 in
theorem tb_Q_trace : z_tab 107 = tQ_trace := rfl
set_option maxRecDepth 100000 in
theorem tb_Q_status : z_tab 108 = tQ_status := rfl
set_option maxRecDepth 100000 in
theorem tb_S_init : z_tab 109 = tS_init := rfl
set_option maxRecDepth 100000 in
theorem tb_S_elements : z_tab 110 = tS_elements := rfl
set_option maxRecDepth 100000 in
theorem tb_S_numberAt : z_tab 111 = tS_numberAt := rfl
set_option maxRecDepth 100000 in
theorem tb_S_writeNumber : z_tab 112 = tS_writeNumber := rfl
set_option maxRecDepth 100000 in
theorem tb_S_elementAt : z_tab 113 = tS_elementAt := rfl
set_option maxRecDepth 100000 in
theorem tb_S_putElement : z_tab 114 = tS_putElement := rfl
set_option maxRecDepth 100000 in
theorem tb_S_sumNow : z_tab 115 = tS_sumNow := rfl
set_option maxRecDepth 100000 in
theorem tb_S_writeHead : z_tab 116 = tS_writeHead := rfl
set_option maxRecDepth 100000 in
theorem tb_S_verdict : z_tab 117 = tS_verdict := rfl
set_option maxRecDepth 100000 in
theorem tb_S_dropAll : z_tab 118 = tS_dropAll := rfl
set_option maxRecDepth 100000 in
theorem tb_S_keepFirst : z_tab 119 = tS_keepFirst := rfl
set_option maxRecDepth 100000 in
theorem tb_S_takeBytes : z_tab 120 = tS_takeBytes := rfl
set_option maxRecDepth 100000 in
theorem tb_S_twin : z_tab 121 = tS_twin := rfl
set_option maxRecDepth 100000 in
theorem tb_S_hasSpan : z_tab 122 = tS_hasSpan := rfl
set_option maxRecDepth 100000 in
theorem tb_S_takeElements : z_tab 123 = tS_takeElements := rfl
set_option maxRecDepth 100000 in
theorem tb_S_isLike : z_tab 124 = tS_isLike := rfl
set_option maxRecDepth 100000 in
theorem tb_S_digestOnto : z_tab 125 = tS_digestOnto := rfl
set_option maxRecDepth 100000 in
theorem tb_L_init : z_tab 126 = tL_init := rfl
set_option maxRecDepth 100000 in
theorem tb_L_stripAt : z_tab 127 = tL_stripAt := rfl
set_option maxRecDepth 100000 in
theorem tb_L_isWhole : z_tab 128 = tL_isWhole := rfl
set_option maxRecDepth 100000 in
theorem tb_L_append : z_tab 129 = tL_append := rfl
set_option maxRecDepth 100000 in
theorem tb_L_put : z_tab 130 = tL_put := rfl
set_option maxRecDepth 100000 in
theorem tb_L_makeRoom : z_tab 131 = tL_makeRoom := rfl
set_option maxRecDepth 100000 in
theorem tb_L_elementsIn : z_tab 132 = tL_elementsIn := rfl
set_option maxRecDepth 100000 in
theorem tb_L_splitAt : z_tab 133 = tL_splitAt := rfl
set_option maxRecDepth 100000 in
theorem tb_N_init : z_tab 134 = tN_init := rfl
set_option maxRecDepth 100000 in
theorem tb_N_pitch : z_tab 135 = tN_pitch := rfl
set_option maxRecDepth 100000 in
theorem tb_N_ratioOf : z_tab 136 = tN_ratioOf := rfl
set_option maxRecDepth 100000 in
theorem tb_N_isOf : z_tab 137 = tN_isOf := rfl
set_option maxRecDepth 100000 in
theorem tb_N_timesWithin : z_tab 138 = tN_timesWithin := rfl
set_option maxRecDepth 100000 in
theorem tb_Pipe_init : z_tab 139 = tPipe_init := rfl
set_option maxRecDepth 100000 in
theorem tb_Pipe_air : z_tab 140 = tPipe_air := rfl
set_option maxRecDepth 100000 in
theorem tb_Pipe_loudness : z_tab 141 = tPipe_loudness := rfl
set_option maxRecDepth 100000 in
theorem tb_Pipe_pitch : z_tab 142 = tPipe_pitch := rfl
set_option maxRecDepth 100000 in
theorem tb_Reed_init : z_tab 143 = tReed_init := rfl
set_option maxRecDepth 100000 in
theorem tb_Reed_loudness : z_tab 144 = tReed_loudness := rfl
set_option maxRecDepth 100000 in
theorem tb_Reed_pitch : z_tab 145 = tReed_pitch := rfl
set_option maxRecDepth 100000 in
theorem tb_Bass_init : z_tab 146 = tBass_init := rfl
set_option maxRecDepth 100000 in
theorem tb_Bass_air : z_tab 147 = tBass_air := rfl
set_option maxRecDepth 100000 in
theorem tb_Bass_pitch : z_tab 148 = tBass_pitch := rfl
set_option maxRecDepth 100000 in
theorem tb_Drum_init : z_tab 149 = tDrum_init := rfl
set_option maxRecDepth 100000 in
theorem tb_Drum_loudness : z_tab 150 = tDrum_loudness := rfl
set_option maxRecDepth 100000 in
theorem tb_Pluck_init : z_tab 151 = tPluck_init := rfl
set_option maxRecDepth 100000 in
theorem tb_Pluck_loudness : z_tab 152 = tPluck_loudness := rfl
set_option maxRecDepth 100000 in
theorem tb_Pluck_pitch : z_tab 153 = tPluck_pitch := rfl
set_option maxRecDepth 100000 in
theorem tb_Pluck_nearest : z_tab 154 = tPluck_nearest := rfl
set_option maxRecDepth 100000 in
theorem tb_Bell_init : z_tab 155 = tBell_init := rfl
set_option maxRecDepth 100000 in
theorem tb_Bell_loudness : z_tab 156 = tBell_loudness := rfl
set_option maxRecDepth 100000 in
theorem tb_Bell_pitch : z_tab 157 = tBell_pitch := rfl
set_option maxRecDepth 100000 in
theorem tb_Coup_init : z_tab 158 = tCoup_init := rfl
set_option maxRecDepth 100000 in
theorem tb_Coup_partAt : z_tab 159 = tCoup_partAt := rfl
set_option maxRecDepth 100000 in
theorem tb_Coup_append : z_tab 160 = tCoup_append := rfl
set_option maxRecDepth 100000 in
theorem tb_Coup_loudness : z_tab 161 = tCoup_loudness := rfl
set_option maxRecDepth 100000 in
theorem tb_Coup_pitch : z_tab 162 = tCoup_pitch := rfl
set_option maxRecDepth 100000 in
theorem tb_Coup_timesWithin : z_tab 163 = tCoup_timesWithin := rfl
set_option maxRecDepth 100000 in
theorem tb_O_init : z_tab 164 = tO_init := rfl
set_option maxRecDepth 100000 in
theorem tb_O_instrumentAt : z_tab 165 = tO_instrumentAt := rfl
set_option maxRecDepth 100000 in
theorem tb_O_addInstrument : z_tab 166 = tO_addInstrument := rfl
set_option maxRecDepth 100000 in
theorem tb_O_made : z_tab 167 = tO_made := rfl
set_option maxRecDepth 100000 in
theorem tb_O_grow : z_tab 168 = tO_grow := rfl
set_option maxRecDepth 100000 in
theorem tb_O_pitchOf : z_tab 169 = tO_pitchOf := rfl
set_option maxRecDepth 100000 in
theorem tb_O_hasChest : z_tab 170 = tO_hasChest := rfl
set_option maxRecDepth 100000 in
theorem tb_O_placeCount : z_tab 171 = tO_placeCount := rfl
set_option maxRecDepth 100000 in
theorem tb_O_addChest : z_tab 172 = tO_addChest := rfl
set_option maxRecDepth 100000 in
theorem tb_O_whereIs : z_tab 173 = tO_whereIs := rfl
set_option maxRecDepth 100000 in
theorem tb_O_instrumentOf : z_tab 174 = tO_instrumentOf := rfl
set_option maxRecDepth 100000 in
theorem tb_O_trackOf : z_tab 175 = tO_trackOf := rfl
set_option maxRecDepth 100000 in
theorem tb_O_ageOf : z_tab 176 = tO_ageOf := rfl
set_option maxRecDepth 100000 in
theorem tb_O_soundAt : z_tab 177 = tO_soundAt := rfl
set_option maxRecDepth 100000 in
theorem tb_O_countOfTrack : z_tab 178 = tO_countOfTrack := rfl
set_option maxRecDepth 100000 in
theorem tb_O_isOpen : z_tab 179 = tO_isOpen := rfl
set_option maxRecDepth 100000 in
theorem tb_O_log : z_tab 180 = tO_log := rfl
set_option maxRecDepth 100000 in
theorem tb_O_startSound : z_tab 181 = tO_startSound := rfl
set_option maxRecDepth 100000 in
theorem tb_O_noteEnd : z_tab 182 = tO_noteEnd := rfl
set_option maxRecDepth 100000 in
theorem tb_O_endDownTo : z_tab 183 = tO_endDownTo := rfl
set_option maxRecDepth 100000 in
theorem tb_O_endTrack : z_tab 184 = tO_endTrack := rfl
set_option maxRecDepth 100000 in
theorem tb_O_silence : z_tab 185 = tO_silence := rfl
set_option maxRecDepth 100000 in
theorem tb_O_begin : z_tab 186 = tO_begin := rfl
set_option maxRecDepth 100000 in
theorem tb_O_keep : z_tab 187 = tO_keep := rfl
set_option maxRecDepth 100000 in
theorem tb_O_usedOf : z_tab 188 = tO_usedOf := rfl
set_option maxRecDepth 100000 in
theorem tb_O_goBack : z_tab 189 = tO_goBack := rfl
set_option maxRecDepth 100000 in
theorem tb_O_reachStrip : z_tab 190 = tO_reachStrip := rfl
set_option maxRecDepth 100000 in
theorem tb_O_beginStrip : z_tab 191 = tO_beginStrip := rfl
set_option maxRecDepth 100000 in
theorem tb_O_passTick : z_tab 192 = tO_passTick := rfl
set_option maxRecDepth 100000 in
theorem tb_O_doElement : z_tab 193 = tO_doElement := rfl
set_option maxRecDepth 100000 in
theorem tb_O_doHole : z_tab 194 = tO_doHole := rfl
set_option maxRecDepth 100000 in
theorem tb_O_setTempo : z_tab 195 = tO_setTempo := rfl
set_option maxRecDepth 100000 in
theorem tb_O_goOnWithTempo : z_tab 196 = tO_goOnWithTempo := rfl
set_option maxRecDepth 100000 in
theorem tb_P_init : z_tab 197 = tP_init := rfl
set_option maxRecDepth 100000 in
theorem tb_P_done : z_tab 198 = tP_done := rfl
set_option maxRecDepth 100000 in
theorem tb_P_refuse : z_tab 199 = tP_refuse := rfl
set_option maxRecDepth 100000 in
theorem tb_P_found : z_tab 200 = tP_found := rfl
set_option maxRecDepth 100000 in
theorem tb_P_nothingThere : z_tab 201 = tP_nothingThere := rfl
set_option maxRecDepth 100000 in
theorem tb_P_refuseLong : z_tab 202 = tP_refuseLong := rfl
set_option maxRecDepth 100000 in
theorem tb_P_doneLong : z_tab 203 = tP_doneLong := rfl
set_option maxRecDepth 100000 in
theorem tb_P_rollAt : z_tab 204 = tP_rollAt := rfl
set_option maxRecDepth 100000 in
theorem tb_P_stripAt : z_tab 205 = tP_stripAt := rfl
set_option maxRecDepth 100000 in
theorem tb_P_tooManyElements : z_tab 206 = tP_tooManyElements := rfl
set_option maxRecDepth 100000 in
theorem tb_P_roll : z_tab 207 = tP_roll := rfl
set_option maxRecDepth 100000 in
theorem tb_P_strip : z_tab 208 = tP_strip := rfl
set_option maxRecDepth 100000 in
theorem tb_P_punch : z_tab 209 = tP_punch := rfl
set_option maxRecDepth 100000 in
theorem tb_P_seal : z_tab 210 = tP_seal := rfl
set_option maxRecDepth 100000 in
theorem tb_P_lose : z_tab 211 = tP_lose := rfl
set_option maxRecDepth 100000 in
theorem tb_P_tear : z_tab 212 = tP_tear := rfl
set_option maxRecDepth 100000 in
theorem tb_P_damage : z_tab 213 = tP_damage := rfl
set_option maxRecDepth 100000 in
theorem tb_P_byteOf : z_tab 214 = tP_byteOf := rfl
set_option maxRecDepth 100000 in
theorem tb_P_head : z_tab 215 = tP_head := rfl
set_option maxRecDepth 100000 in
theorem tb_P_sum : z_tab 216 = tP_sum := rfl
set_option maxRecDepth 100000 in
theorem tb_P_read : z_tab 217 = tP_read := rfl
set_option maxRecDepth 100000 in
theorem tb_P_whole : z_tab 218 = tP_whole := rfl
set_option maxRecDepth 100000 in
theorem tb_P_finding : z_tab 219 = tP_finding := rfl
set_option maxRecDepth 100000 in
theorem tb_P_told : z_tab 220 = tP_told := rfl
set_option maxRecDepth 100000 in
theorem tb_P_instrument : z_tab 221 = tP_instrument := rfl
set_option maxRecDepth 100000 in
theorem tb_P_couple : z_tab 222 = tP_couple := rfl
set_option maxRecDepth 100000 in
theorem tb_P_chest : z_tab 223 = tP_chest := rfl
set_option maxRecDepth 100000 in
theorem tb_P_place : z_tab 224 = tP_place := rfl
set_option maxRecDepth 100000 in
theorem tb_P_wire : z_tab 225 = tP_wire := rfl
set_option maxRecDepth 100000 in
theorem tb_P_spoil : z_tab 226 = tP_spoil := rfl
set_option maxRecDepth 100000 in
theorem tb_P_tune : z_tab 227 = tP_tune := rfl
set_option maxRecDepth 100000 in
theorem tb_P_base : z_tab 228 = tP_base := rfl
set_option maxRecDepth 100000 in
theorem tb_P_frequency : z_tab 229 = tP_frequency := rfl
set_option maxRecDepth 100000 in
theorem tb_P_bitsOf : z_tab 230 = tP_bitsOf := rfl
set_option maxRecDepth 100000 in
theorem tb_P_mute : z_tab 231 = tP_mute := rfl
set_option maxRecDepth 100000 in
theorem tb_P_higher : z_tab 232 = tP_higher := rfl
set_option maxRecDepth 100000 in
theorem tb_P_play : z_tab 233 = tP_play := rfl
set_option maxRecDepth 100000 in
theorem tb_P_tick : z_tab 234 = tP_tick := rfl
set_option maxRecDepth 100000 in
theorem tb_P_halt : z_tab 235 = tP_halt := rfl
set_option maxRecDepth 100000 in
theorem tb_P_back : z_tab 236 = tP_back := rfl
set_option maxRecDepth 100000 in
theorem tb_P_open : z_tab 237 = tP_open := rfl
set_option maxRecDepth 100000 in
theorem tb_P_sounding : z_tab 238 = tP_sounding := rfl
set_option maxRecDepth 100000 in
theorem tb_P_loud : z_tab 239 = tP_loud := rfl
set_option maxRecDepth 100000 in
theorem tb_P_level : z_tab 240 = tP_level := rfl
set_option maxRecDepth 100000 in
theorem tb_P_stop : z_tab 241 = tP_stop := rfl
set_option maxRecDepth 100000 in
theorem tb_P_at : z_tab 242 = tP_at := rfl
set_option maxRecDepth 100000 in
theorem tb_P_times : z_tab 243 = tP_times := rfl
set_option maxRecDepth 100000 in
theorem tb_P_event : z_tab 244 = tP_event := rfl
set_option maxRecDepth 100000 in
theorem tb_P_cut : z_tab 245 = tP_cut := rfl
set_option maxRecDepth 100000 in
theorem tb_P_join : z_tab 246 = tP_join := rfl
set_option maxRecDepth 100000 in
theorem tb_P_repeat : z_tab 247 = tP_repeat := rfl
set_option maxRecDepth 100000 in
theorem tb_P_addCopies : z_tab 248 = tP_addCopies := rfl
set_option maxRecDepth 100000 in
theorem tb_P_move : z_tab 249 = tP_move := rfl
set_option maxRecDepth 100000 in
theorem tb_P_moveOne : z_tab 250 = tP_moveOne := rfl
set_option maxRecDepth 100000 in
theorem tb_P_replaceBytes : z_tab 251 = tP_replaceBytes := rfl
set_option maxRecDepth 100000 in
theorem tb_P_copy : z_tab 252 = tP_copy := rfl
set_option maxRecDepth 100000 in
theorem tb_P_transpose : z_tab 253 = tP_transpose := rfl
set_option maxRecDepth 100000 in
theorem tb_P_noteFallen : z_tab 254 = tP_noteFallen := rfl
set_option maxRecDepth 100000 in
theorem tb_P_fallen : z_tab 255 = tP_fallen := rfl
set_option maxRecDepth 100000 in
theorem tb_P_mend : z_tab 256 = tP_mend := rfl
set_option maxRecDepth 100000 in
theorem tb_P_equal : z_tab 257 = tP_equal := rfl
set_option maxRecDepth 100000 in
theorem tb_P_digest : z_tab 258 = tP_digest := rfl
set_option maxRecDepth 100000 in
theorem tb_P_count : z_tab 259 = tP_count := rfl
set_option maxRecDepth 100000 in
theorem tb_P_strips : z_tab 260 = tP_strips := rfl
set_option maxRecDepth 100000 in
theorem tb_P_members : z_tab 261 = tP_members := rfl
set_option maxRecDepth 100000 in
theorem tb_P_trace : z_tab 262 = tP_trace := rfl
set_option maxRecDepth 100000 in
theorem tb_P_status : z_tab 263 = tP_status := rfl
set_option maxRecDepth 100000 in
theorem tb_W_law : z_tab 264 = tW_law := rfl
set_option maxRecDepth 100000 in
set_option maxHeartbeats 4000000 in
theorem z_okms (X : zX) (S : zS) (n0 : Nat) (hS : zSok S) : z_upto (z_okn X S n0 z_mts) 265 := ⟨
z_okn_of mt_W_law (by decide +kernel) rfl tb_W_law (by decide +kernel : _ = false) (ok_W_law X S n0 hS),
z_okn_of mt_P_status (by decide +kernel) rfl tb_P_status (by decide +kernel : _ = false) (ok_P_status X S n0 hS),
z_okn_of mt_P_trace (by decide +kernel) rfl tb_P_trace (by decide +kernel : _ = false) (ok_P_trace X S n0 hS),
z_okn_of mt_P_members (by decide +kernel) rfl tb_P_members (by decide +kernel : _ = false) (ok_P_members X S n0 hS),
z_okn_of mt_P_strips (by decide +kernel) rfl tb_P_strips (by decide +kernel : _ = false) (ok_P_strips X S n0 hS),
z_okn_of mt_P_count (by decide +kernel) rfl tb_P_count (by decide +kernel : _ = false) (ok_P_count X S n0 hS),
z_okn_of mt_P_digest (by decide +kernel) rfl tb_P_digest (by decide +kernel : _ = false) (ok_P_digest X S n0 hS),
z_okn_of mt_P_equal (by decide +kernel) rfl tb_P_equal (by decide +kernel : _ = false) (ok_P_equal X S n0 hS),
z_okn_of mt_P_mend (by decide +kernel) rfl tb_P_mend (by decide +kernel : _ = false) (ok_P_mend X S n0 hS),
z_okn_of mt_P_fallen (by decide +kernel) rfl tb_P_fallen (by decide +kernel : _ = false) (ok_P_fallen X S n0 hS),
z_okn_of mt_P_noteFallen (by decide +kernel) rfl tb_P_noteFallen (by decide +kernel : _ = false) (ok_P_noteFallen X S n0 hS),
z_okn_of mt_P_transpose (by decide +kernel) rfl tb_P_transpose (by decide +kernel : _ = false) (ok_P_transpose X S n0 hS),
z_okn_of mt_P_copy (by decide +kernel) rfl tb_P_copy (by decide +kernel : _ = false) (ok_P_copy X S n0 hS),
z_okn_of mt_P_replaceBytes (by decide +kernel) rfl tb_P_replaceBytes (by decide +kernel : _ = false) (ok_P_replaceBytes X S n0 hS),
z_okn_of mt_P_moveOne (by decide +kernel) rfl tb_P_moveOne (by decide +kernel : _ = false) (ok_P_moveOne X S n0 hS),
z_okn_of mt_P_move (by decide +kernel) rfl tb_P_move (by decide +kernel : _ = false) (ok_P_move X S n0 hS),
z_okn_of mt_P_addCopies (by decide +kernel) rfl tb_P_addCopies (by decide +kernel : _ = false) (ok_P_addCopies X S n0 hS),
z_okn_of mt_P_repeat (by decide +kernel) rfl tb_P_repeat (by decide +kernel : _ = false) (ok_P_repeat X S n0 hS),
z_okn_of mt_P_join (by decide +kernel) rfl tb_P_join (by decide +kernel : _ = false) (ok_P_join X S n0 hS),
z_okn_of mt_P_cut (by decide +kernel) rfl tb_P_cut (by decide +kernel : _ = false) (ok_P_cut X S n0 hS),
z_okn_of mt_P_event (by decide +kernel) rfl tb_P_event (by decide +kernel : _ = false) (ok_P_event X S n0 hS),
z_okn_of mt_P_times (by decide +kernel) rfl tb_P_times (by decide +kernel : _ = false) (ok_P_times X S n0 hS),
z_okn_of mt_P_at (by decide +kernel) rfl tb_P_at (by decide +kernel : _ = false) (ok_P_at X S n0 hS),
z_okn_of mt_P_stop (by decide +kernel) rfl tb_P_stop (by decide +kernel : _ = false) (ok_P_stop X S n0 hS),
z_okn_of mt_P_level (by decide +kernel) rfl tb_P_level (by decide +kernel : _ = false) (ok_P_level X S n0 hS),
z_okn_of mt_P_loud (by decide +kernel) rfl tb_P_loud (by decide +kernel : _ = false) (ok_P_loud X S n0 hS),
z_okn_of mt_P_sounding (by decide +kernel) rfl tb_P_sounding (by decide +kernel : _ = false) (ok_P_sounding X S n0 hS),
z_okn_of mt_P_open (by decide +kernel) rfl tb_P_open (by decide +kernel : _ = false) (ok_P_open X S n0 hS),
z_okn_of mt_P_back (by decide +kernel) rfl tb_P_back (by decide +kernel : _ = false) (ok_P_back X S n0 hS),
z_okn_of mt_P_halt (by decide +kernel) rfl tb_P_halt (by decide +kernel : _ = false) (ok_P_halt X S n0 hS),
z_okn_of mt_P_tick (by decide +kernel) rfl tb_P_tick (by decide +kernel : _ = false) (ok_P_tick X S n0 hS),
z_okn_of mt_P_play (by decide +kernel) rfl tb_P_play (by decide +kernel : _ = false) (ok_P_play X S n0 hS),
z_okn_of mt_P_higher (by decide +kernel) rfl tb_P_higher (by decide +kernel : _ = false) (ok_P_higher X S n0 hS),
z_okn_of mt_P_mute (by decide +kernel) rfl tb_P_mute (by decide +kernel : _ = false) (ok_P_mute X S n0 hS),
z_okn_of mt_P_bitsOf (by decide +kernel) rfl tb_P_bitsOf (by decide +kernel : _ = false) (ok_P_bitsOf X S n0 hS),
z_okn_of mt_P_frequency (by decide +kernel) rfl tb_P_frequency (by decide +kernel : _ = false) (ok_P_frequency X S n0 hS),
z_okn_of mt_P_base (by decide +kernel) rfl tb_P_base (by decide +kernel : _ = false) (ok_P_base X S n0 hS),
z_okn_of mt_P_tune (by decide +kernel) rfl tb_P_tune (by decide +kernel : _ = false) (ok_P_tune X S n0 hS),
z_okn_of mt_P_spoil (by decide +kernel) rfl tb_P_spoil (by decide +kernel : _ = false) (ok_P_spoil X S n0 hS),
z_okn_of mt_P_wire (by decide +kernel) rfl tb_P_wire (by decide +kernel : _ = false) (ok_P_wire X S n0 hS),
z_okn_of mt_P_place (by decide +kernel) rfl tb_P_place (by decide +kernel : _ = false) (ok_P_place X S n0 hS),
z_okn_of mt_P_chest (by decide +kernel) rfl tb_P_chest (by decide +kernel : _ = false) (ok_P_chest X S n0 hS),
z_okn_of mt_P_couple (by decide +kernel) rfl tb_P_couple (by decide +kernel : _ = false) (ok_P_couple X S n0 hS),
z_okn_of mt_P_instrument (by decide +kernel) rfl tb_P_instrument (by decide +kernel : _ = false) (ok_P_instrument X S n0 hS),
z_okn_of mt_P_told (by decide +kernel) rfl tb_P_told (by decide +kernel : _ = false) (ok_P_told X S n0 hS),
z_okn_of mt_P_finding (by decide +kernel) rfl tb_P_finding (by decide +kernel : _ = false) (ok_P_finding X S n0 hS),
z_okn_of mt_P_whole (by decide +kernel) rfl tb_P_whole (by decide +kernel : _ = false) (ok_P_whole X S n0 hS),
z_okn_of mt_P_read (by decide +kernel) rfl tb_P_read (by decide +kernel : _ = false) (ok_P_read X S n0 hS),
z_okn_of mt_P_sum (by decide +kernel) rfl tb_P_sum (by decide +kernel : _ = false) (ok_P_sum X S n0 hS),
z_okn_of mt_P_head (by decide +kernel) rfl tb_P_head (by decide +kernel : _ = false) (ok_P_head X S n0 hS),
z_okn_of mt_P_byteOf (by decide +kernel) rfl tb_P_byteOf (by decide +kernel : _ = false) (ok_P_byteOf X S n0 hS),
z_okn_of mt_P_damage (by decide +kernel) rfl tb_P_damage (by decide +kernel : _ = false) (ok_P_damage X S n0 hS),
z_okn_of mt_P_tear (by decide +kernel) rfl tb_P_tear (by decide +kernel : _ = false) (ok_P_tear X S n0 hS),
z_okn_of mt_P_lose (by decide +kernel) rfl tb_P_lose (by decide +kernel : _ = false) (ok_P_lose X S n0 hS),
z_okn_of mt_P_seal (by decide +kernel) rfl tb_P_seal (by decide +kernel : _ = false) (ok_P_seal X S n0 hS),
z_okn_of mt_P_punch (by decide +kernel) rfl tb_P_punch (by decide +kernel : _ = false) (ok_P_punch X S n0 hS),
z_okn_of mt_P_strip (by decide +kernel) rfl tb_P_strip (by decide +kernel : _ = false) (ok_P_strip X S n0 hS),
z_okn_of mt_P_roll (by decide +kernel) rfl tb_P_roll (by decide +kernel : _ = false) (ok_P_roll X S n0 hS),
z_okn_of mt_P_tooManyElements (by decide +kernel) rfl tb_P_tooManyElements (by decide +kernel : _ = false) (ok_P_tooManyElements X S n0 hS),
z_okn_of mt_P_stripAt (by decide +kernel) rfl tb_P_stripAt (by decide +kernel : _ = false) (ok_P_stripAt X S n0 hS),
z_okn_of mt_P_rollAt (by decide +kernel) rfl tb_P_rollAt (by decide +kernel : _ = false) (ok_P_rollAt X S n0 hS),
z_okn_of mt_P_doneLong (by decide +kernel) rfl tb_P_doneLong (by decide +kernel : _ = false) (ok_P_doneLong X S n0 hS),
z_okn_of mt_P_refuseLong (by decide +kernel) rfl tb_P_refuseLong (by decide +kernel : _ = false) (ok_P_refuseLong X S n0 hS),
z_okn_of mt_P_nothingThere (by decide +kernel) rfl tb_P_nothingThere (by decide +kernel : _ = false) (ok_P_nothingThere X S n0 hS),
z_okn_of mt_P_found (by decide +kernel) rfl tb_P_found (by decide +kernel : _ = false) (ok_P_found X S n0 hS),
z_okn_of mt_P_refuse (by decide +kernel) rfl tb_P_refuse (by decide +kernel : _ = false) (ok_P_refuse X S n0 hS),
z_okn_of mt_P_done (by decide +kernel) rfl tb_P_done (by decide +kernel : _ = false) (ok_P_done X S n0 hS),
z_okn_of mt_P_init (by decide +kernel) rfl tb_P_init (by decide +kernel : _ = true) (ok_P_init X S n0 hS),
z_okn_of mt_O_goOnWithTempo (by decide +kernel) rfl tb_O_goOnWithTempo (by decide +kernel : _ = false) (ok_O_goOnWithTempo X S n0 hS),
z_okn_of mt_O_setTempo (by decide +kernel) rfl tb_O_setTempo (by decide +kernel : _ = false) (ok_O_setTempo X S n0 hS),
z_okn_of mt_O_doHole (by decide +kernel) rfl tb_O_doHole (by decide +kernel : _ = false) (ok_O_doHole X S n0 hS),
z_okn_of mt_O_doElement (by decide +kernel) rfl tb_O_doElement (by decide +kernel : _ = false) (ok_O_doElement X S n0 hS),
z_okn_of mt_O_passTick (by decide +kernel) rfl tb_O_passTick (by decide +kernel : _ = false) (ok_O_passTick X S n0 hS),
z_okn_of mt_O_beginStrip (by decide +kernel) rfl tb_O_beginStrip (by decide +kernel : _ = false) (ok_O_beginStrip X S n0 hS),
z_okn_of mt_O_reachStrip (by decide +kernel) rfl tb_O_reachStrip (by decide +kernel : _ = false) (ok_O_reachStrip X S n0 hS),
z_okn_of mt_O_goBack (by decide +kernel) rfl tb_O_goBack (by decide +kernel : _ = false) (ok_O_goBack X S n0 hS),
z_okn_of mt_O_usedOf (by decide +kernel) rfl tb_O_usedOf (by decide +kernel : _ = false) (ok_O_usedOf X S n0 hS),
z_okn_of mt_O_keep (by decide +kernel) rfl tb_O_keep (by decide +kernel : _ = false) (ok_O_keep X S n0 hS),
z_okn_of mt_O_begin (by decide +kernel) rfl tb_O_begin (by decide +kernel : _ = false) (ok_O_begin X S n0 hS),
z_okn_of mt_O_silence (by decide +kernel) rfl tb_O_silence (by decide +kernel : _ = false) (ok_O_silence X S n0 hS),
z_okn_of mt_O_endTrack (by decide +kernel) rfl tb_O_endTrack (by decide +kernel : _ = false) (ok_O_endTrack X S n0 hS),
z_okn_of mt_O_endDownTo (by decide +kernel) rfl tb_O_endDownTo (by decide +kernel : _ = false) (ok_O_endDownTo X S n0 hS),
z_okn_of mt_O_noteEnd (by decide +kernel) rfl tb_O_noteEnd (by decide +kernel : _ = false) (ok_O_noteEnd X S n0 hS),
z_okn_of mt_O_startSound (by decide +kernel) rfl tb_O_startSound (by decide +kernel : _ = false) (ok_O_startSound X S n0 hS),
z_okn_of mt_O_log (by decide +kernel) rfl tb_O_log (by decide +kernel : _ = false) (ok_O_log X S n0 hS),
z_okn_of mt_O_isOpen (by decide +kernel) rfl tb_O_isOpen (by decide +kernel : _ = false) (ok_O_isOpen X S n0 hS),
z_okn_of mt_O_countOfTrack (by decide +kernel) rfl tb_O_countOfTrack (by decide +kernel : _ = false) (ok_O_countOfTrack X S n0 hS),
z_okn_of mt_O_soundAt (by decide +kernel) rfl tb_O_soundAt (by decide +kernel : _ = false) (ok_O_soundAt X S n0 hS),
z_okn_of mt_O_ageOf (by decide +kernel) rfl tb_O_ageOf (by decide +kernel : _ = false) (ok_O_ageOf X S n0 hS),
z_okn_of mt_O_trackOf (by decide +kernel) rfl tb_O_trackOf (by decide +kernel : _ = false) (ok_O_trackOf X S n0 hS),
z_okn_of mt_O_instrumentOf (by decide +kernel) rfl tb_O_instrumentOf (by decide +kernel : _ = false) (ok_O_instrumentOf X S n0 hS),
z_okn_of mt_O_whereIs (by decide +kernel) rfl tb_O_whereIs (by decide +kernel : _ = false) (ok_O_whereIs X S n0 hS),
z_okn_of mt_O_addChest (by decide +kernel) rfl tb_O_addChest (by decide +kernel : _ = false) (ok_O_addChest X S n0 hS),
z_okn_of mt_O_placeCount (by decide +kernel) rfl tb_O_placeCount (by decide +kernel : _ = false) (ok_O_placeCount X S n0 hS),
z_okn_of mt_O_hasChest (by decide +kernel) rfl tb_O_hasChest (by decide +kernel : _ = false) (ok_O_hasChest X S n0 hS),
z_okn_of mt_O_pitchOf (by decide +kernel) rfl tb_O_pitchOf (by decide +kernel : _ = false) (ok_O_pitchOf X S n0 hS),
z_okn_of mt_O_grow (by decide +kernel) rfl tb_O_grow (by decide +kernel : _ = false) (ok_O_grow X S n0 hS),
z_okn_of mt_O_made (by decide +kernel) rfl tb_O_made (by decide +kernel : _ = false) (ok_O_made X S n0 hS),
z_okn_of mt_O_addInstrument (by decide +kernel) rfl tb_O_addInstrument (by decide +kernel : _ = false) (ok_O_addInstrument X S n0 hS),
z_okn_of mt_O_instrumentAt (by decide +kernel) rfl tb_O_instrumentAt (by decide +kernel : _ = false) (ok_O_instrumentAt X S n0 hS),
z_okn_of mt_O_init (by decide +kernel) rfl tb_O_init (by decide +kernel : _ = true) (ok_O_init X S n0 hS),
z_okn_of mt_Coup_timesWithin (by decide +kernel) rfl tb_Coup_timesWithin (by decide +kernel : _ = false) (ok_Coup_timesWithin X S n0 hS),
z_okn_of mt_Coup_pitch (by decide +kernel) rfl tb_Coup_pitch (by decide +kernel : _ = false) (ok_Coup_pitch X S n0 hS),
z_okn_of mt_Coup_loudness (by decide +kernel) rfl tb_Coup_loudness (by decide +kernel : _ = false) (ok_Coup_loudness X S n0 hS),
z_okn_of mt_Coup_append (by decide +kernel) rfl tb_Coup_append (by decide +kernel : _ = false) (ok_Coup_append X S n0 hS),
z_okn_of mt_Coup_partAt (by decide +kernel) rfl tb_Coup_partAt (by decide +kernel : _ = false) (ok_Coup_partAt X S n0 hS),
z_okn_of mt_Coup_init (by decide +kernel) rfl tb_Coup_init (by decide +kernel : _ = true) (ok_Coup_init X S n0 hS),
z_okn_of mt_Bell_pitch (by decide +kernel) rfl tb_Bell_pitch (by decide +kernel : _ = false) (ok_Bell_pitch X S n0 hS),
z_okn_of mt_Bell_loudness (by decide +kernel) rfl tb_Bell_loudness (by decide +kernel : _ = false) (ok_Bell_loudness X S n0 hS),
z_okn_of mt_Bell_init (by decide +kernel) rfl tb_Bell_init (by decide +kernel : _ = true) (ok_Bell_init X S n0 hS),
z_okn_of mt_Pluck_nearest (by decide +kernel) rfl tb_Pluck_nearest (by decide +kernel : _ = false) (ok_Pluck_nearest X S n0 hS),
z_okn_of mt_Pluck_pitch (by decide +kernel) rfl tb_Pluck_pitch (by decide +kernel : _ = false) (ok_Pluck_pitch X S n0 hS),
z_okn_of mt_Pluck_loudness (by decide +kernel) rfl tb_Pluck_loudness (by decide +kernel : _ = false) (ok_Pluck_loudness X S n0 hS),
z_okn_of mt_Pluck_init (by decide +kernel) rfl tb_Pluck_init (by decide +kernel : _ = true) (ok_Pluck_init X S n0 hS),
z_okn_of mt_Drum_loudness (by decide +kernel) rfl tb_Drum_loudness (by decide +kernel : _ = false) (ok_Drum_loudness X S n0 hS),
z_okn_of mt_Drum_init (by decide +kernel) rfl tb_Drum_init (by decide +kernel : _ = true) (ok_Drum_init X S n0 hS),
z_okn_of mt_Bass_pitch (by decide +kernel) rfl tb_Bass_pitch (by decide +kernel : _ = false) (ok_Bass_pitch X S n0 hS),
z_okn_of mt_Bass_air (by decide +kernel) rfl tb_Bass_air (by decide +kernel : _ = false) (ok_Bass_air X S n0 hS),
z_okn_of mt_Bass_init (by decide +kernel) rfl tb_Bass_init (by decide +kernel : _ = true) (ok_Bass_init X S n0 hS),
z_okn_of mt_Reed_pitch (by decide +kernel) rfl tb_Reed_pitch (by decide +kernel : _ = false) (ok_Reed_pitch X S n0 hS),
z_okn_of mt_Reed_loudness (by decide +kernel) rfl tb_Reed_loudness (by decide +kernel : _ = false) (ok_Reed_loudness X S n0 hS),
z_okn_of mt_Reed_init (by decide +kernel) rfl tb_Reed_init (by decide +kernel : _ = true) (ok_Reed_init X S n0 hS),
z_okn_of mt_Pipe_pitch (by decide +kernel) rfl tb_Pipe_pitch (by decide +kernel : _ = false) (ok_Pipe_pitch X S n0 hS),
z_okn_of mt_Pipe_loudness (by decide +kernel) rfl tb_Pipe_loudness (by decide +kernel : _ = false) (ok_Pipe_loudness X S n0 hS),
z_okn_of mt_Pipe_air (by decide +kernel) rfl tb_Pipe_air (by decide +kernel : _ = false) (ok_Pipe_air X S n0 hS),
z_okn_of mt_Pipe_init (by decide +kernel) rfl tb_Pipe_init (by decide +kernel : _ = true) (ok_Pipe_init X S n0 hS),
z_okn_of mt_N_timesWithin (by decide +kernel) rfl tb_N_timesWithin (by decide +kernel : _ = false) (ok_N_timesWithin X S n0 hS),
z_okn_of mt_N_isOf (by decide +kernel) rfl tb_N_isOf (by decide +kernel : _ = false) (ok_N_isOf X S n0 hS),
z_okn_of mt_N_ratioOf (by decide +kernel) rfl tb_N_ratioOf (by decide +kernel : _ = false) (ok_N_ratioOf X S n0 hS),
z_okn_of mt_N_pitch (by decide +kernel) rfl tb_N_pitch (by decide +kernel : _ = false) (ok_N_pitch X S n0 hS),
z_okn_of mt_N_init (by decide +kernel) rfl tb_N_init (by decide +kernel : _ = true) (ok_N_init X S n0 hS),
z_okn_of mt_L_splitAt (by decide +kernel) rfl tb_L_splitAt (by decide +kernel : _ = false) (ok_L_splitAt X S n0 hS),
z_okn_of mt_L_elementsIn (by decide +kernel) rfl tb_L_elementsIn (by decide +kernel : _ = false) (ok_L_elementsIn X S n0 hS),
z_okn_of mt_L_makeRoom (by decide +kernel) rfl tb_L_makeRoom (by decide +kernel : _ = false) (ok_L_makeRoom X S n0 hS),
z_okn_of mt_L_put (by decide +kernel) rfl tb_L_put (by decide +kernel : _ = false) (ok_L_put X S n0 hS),
z_okn_of mt_L_append (by decide +kernel) rfl tb_L_append (by decide +kernel : _ = false) (ok_L_append X S n0 hS),
z_okn_of mt_L_isWhole (by decide +kernel) rfl tb_L_isWhole (by decide +kernel : _ = false) (ok_L_isWhole X S n0 hS),
z_okn_of mt_L_stripAt (by decide +kernel) rfl tb_L_stripAt (by decide +kernel : _ = false) (ok_L_stripAt X S n0 hS),
z_okn_of mt_L_init (by decide +kernel) rfl tb_L_init (by decide +kernel : _ = true) (ok_L_init X S n0 hS),
z_okn_of mt_S_digestOnto (by decide +kernel) rfl tb_S_digestOnto (by decide +kernel : _ = false) (ok_S_digestOnto X S n0 hS),
z_okn_of mt_S_isLike (by decide +kernel) rfl tb_S_isLike (by decide +kernel : _ = false) (ok_S_isLike X S n0 hS),
z_okn_of mt_S_takeElements (by decide +kernel) rfl tb_S_takeElements (by decide +kernel : _ = false) (ok_S_takeElements X S n0 hS),
z_okn_of mt_S_hasSpan (by decide +kernel) rfl tb_S_hasSpan (by decide +kernel : _ = false) (ok_S_hasSpan X S n0 hS),
z_okn_of mt_S_twin (by decide +kernel) rfl tb_S_twin (by decide +kernel : _ = false) (ok_S_twin X S n0 hS),
z_okn_of mt_S_takeBytes (by decide +kernel) rfl tb_S_takeBytes (by decide +kernel : _ = false) (ok_S_takeBytes X S n0 hS),
z_okn_of mt_S_keepFirst (by decide +kernel) rfl tb_S_keepFirst (by decide +kernel : _ = false) (ok_S_keepFirst X S n0 hS),
z_okn_of mt_S_dropAll (by decide +kernel) rfl tb_S_dropAll (by decide +kernel : _ = false) (ok_S_dropAll X S n0 hS),
z_okn_of mt_S_verdict (by decide +kernel) rfl tb_S_verdict (by decide +kernel : _ = false) (ok_S_verdict X S n0 hS),
z_okn_of mt_S_writeHead (by decide +kernel) rfl tb_S_writeHead (by decide +kernel : _ = false) (ok_S_writeHead X S n0 hS),
z_okn_of mt_S_sumNow (by decide +kernel) rfl tb_S_sumNow (by decide +kernel : _ = false) (ok_S_sumNow X S n0 hS),
z_okn_of mt_S_putElement (by decide +kernel) rfl tb_S_putElement (by decide +kernel : _ = false) (ok_S_putElement X S n0 hS),
z_okn_of mt_S_elementAt (by decide +kernel) rfl tb_S_elementAt (by decide +kernel : _ = false) (ok_S_elementAt X S n0 hS),
z_okn_of mt_S_writeNumber (by decide +kernel) rfl tb_S_writeNumber (by decide +kernel : _ = false) (ok_S_writeNumber X S n0 hS),
z_okn_of mt_S_numberAt (by decide +kernel) rfl tb_S_numberAt (by decide +kernel : _ = false) (ok_S_numberAt X S n0 hS),
z_okn_of mt_S_elements (by decide +kernel) rfl tb_S_elements (by decide +kernel : _ = false) (ok_S_elements X S n0 hS),
z_okn_of mt_S_init (by decide +kernel) rfl tb_S_init (by decide +kernel : _ = true) (ok_S_init X S n0 hS),
z_okn_of mt_Q_status (by decide +kernel) rfl tb_Q_status (by decide +kernel : _ = false) (ok_Q_status X S n0 hS),
z_okn_of mt_Q_trace (by decide +kernel) rfl tb_Q_trace (by decide +kernel : _ = false) (ok_Q_trace X S n0 hS),
z_okn_of mt_Q_members (by decide +kernel) rfl tb_Q_members (by decide +kernel : _ = false) (ok_Q_members X S n0 hS),
z_okn_of mt_Q_strips (by decide +kernel) rfl tb_Q_strips (by decide +kernel : _ = false) (ok_Q_strips X S n0 hS),
z_okn_of mt_Q_count (by decide +kernel) rfl tb_Q_count (by decide +kernel : _ = false) (ok_Q_count X S n0 hS),
z_okn_of mt_Q_digest (by decide +kernel) rfl tb_Q_digest (by decide +kernel : _ = false) (ok_Q_digest X S n0 hS),
z_okn_of mt_Q_equal (by decide +kernel) rfl tb_Q_equal (by decide +kernel : _ = false) (ok_Q_equal X S n0 hS),
z_okn_of mt_Q_areAlike (by decide +kernel) rfl tb_Q_areAlike (by decide +kernel : _ = false) (ok_Q_areAlike X S n0 hS),
z_okn_of mt_Q_mend (by decide +kernel) rfl tb_Q_mend (by decide +kernel : _ = false) (ok_Q_mend X S n0 hS),
z_okn_of mt_Q_fallen (by decide +kernel) rfl tb_Q_fallen (by decide +kernel : _ = false) (ok_Q_fallen X S n0 hS),
z_okn_of mt_Q_transpose (by decide +kernel) rfl tb_Q_transpose (by decide +kernel : _ = false) (ok_Q_transpose X S n0 hS),
z_okn_of mt_Q_copy (by decide +kernel) rfl tb_Q_copy (by decide +kernel : _ = false) (ok_Q_copy X S n0 hS),
z_okn_of mt_Q_hinders (by decide +kernel) rfl tb_Q_hinders (by decide +kernel : _ = false) (ok_Q_hinders X S n0 hS),
z_okn_of mt_Q_move (by decide +kernel) rfl tb_Q_move (by decide +kernel : _ = false) (ok_Q_move X S n0 hS),
z_okn_of mt_Q_repeat (by decide +kernel) rfl tb_Q_repeat (by decide +kernel : _ = false) (ok_Q_repeat X S n0 hS),
z_okn_of mt_Q_join (by decide +kernel) rfl tb_Q_join (by decide +kernel : _ = false) (ok_Q_join X S n0 hS),
z_okn_of mt_Q_elementsOf (by decide +kernel) rfl tb_Q_elementsOf (by decide +kernel : _ = false) (ok_Q_elementsOf X S n0 hS),
z_okn_of mt_Q_copyOf (by decide +kernel) rfl tb_Q_copyOf (by decide +kernel : _ = false) (ok_Q_copyOf X S n0 hS),
z_okn_of mt_Q_copies (by decide +kernel) rfl tb_Q_copies (by decide +kernel : _ = false) (ok_Q_copies X S n0 hS),
z_okn_of mt_Q_cut (by decide +kernel) rfl tb_Q_cut (by decide +kernel : _ = false) (ok_Q_cut X S n0 hS),
z_okn_of mt_Q_event (by decide +kernel) rfl tb_Q_event (by decide +kernel : _ = false) (ok_Q_event X S n0 hS),
z_okn_of mt_Q_times (by decide +kernel) rfl tb_Q_times (by decide +kernel : _ = false) (ok_Q_times X S n0 hS),
z_okn_of mt_Q_at (by decide +kernel) rfl tb_Q_at (by decide +kernel : _ = false) (ok_Q_at X S n0 hS),
z_okn_of mt_Q_stop (by decide +kernel) rfl tb_Q_stop (by decide +kernel : _ = false) (ok_Q_stop X S n0 hS),
z_okn_of mt_Q_level (by decide +kernel) rfl tb_Q_level (by decide +kernel : _ = false) (ok_Q_level X S n0 hS),
z_okn_of mt_Q_loud (by decide +kernel) rfl tb_Q_loud (by decide +kernel : _ = false) (ok_Q_loud X S n0 hS),
z_okn_of mt_Q_loudOf (by decide +kernel) rfl tb_Q_loudOf (by decide +kernel : _ = false) (ok_Q_loudOf X S n0 hS),
z_okn_of mt_Q_airOf (by decide +kernel) rfl tb_Q_airOf (by decide +kernel : _ = false) (ok_Q_airOf X S n0 hS),
z_okn_of mt_Q_sounding (by decide +kernel) rfl tb_Q_sounding (by decide +kernel : _ = false) (ok_Q_sounding X S n0 hS),
z_okn_of mt_Q_open (by decide +kernel) rfl tb_Q_open (by decide +kernel : _ = false) (ok_Q_open X S n0 hS),
z_okn_of mt_Q_back (by decide +kernel) rfl tb_Q_back (by decide +kernel : _ = false) (ok_Q_back X S n0 hS),
z_okn_of mt_Q_becomes (by decide +kernel) rfl tb_Q_becomes (by decide +kernel : _ = false) (ok_Q_becomes X S n0 hS),
z_okn_of mt_Q_layAside (by decide +kernel) rfl tb_Q_layAside (by decide +kernel : _ = false) (ok_Q_layAside X S n0 hS),
z_okn_of mt_Q_halt (by decide +kernel) rfl tb_Q_halt (by decide +kernel : _ = false) (ok_Q_halt X S n0 hS),
z_okn_of mt_Q_tick (by decide +kernel) rfl tb_Q_tick (by decide +kernel : _ = false) (ok_Q_tick X S n0 hS),
z_okn_of mt_Q_play (by decide +kernel) rfl tb_Q_play (by decide +kernel : _ = false) (ok_Q_play X S n0 hS),
z_okn_of mt_Q_comes (by decide +kernel) rfl tb_Q_comes (by decide +kernel : _ = false) (ok_Q_comes X S n0 hS),
z_okn_of mt_Q_tempoGoesOn (by decide +kernel) rfl tb_Q_tempoGoesOn (by decide +kernel : _ = false) (ok_Q_tempoGoesOn X S n0 hS),
z_okn_of mt_Q_down (by decide +kernel) rfl tb_Q_down (by decide +kernel : _ = false) (ok_Q_down X S n0 hS),
z_okn_of mt_Q_tempoTo (by decide +kernel) rfl tb_Q_tempoTo (by decide +kernel : _ = false) (ok_Q_tempoTo X S n0 hS),
z_okn_of mt_Q_does (by decide +kernel) rfl tb_Q_does (by decide +kernel : _ = false) (ok_Q_does X S n0 hS),
z_okn_of mt_Q_shutHole (by decide +kernel) rfl tb_Q_shutHole (by decide +kernel : _ = false) (ok_Q_shutHole X S n0 hS),
z_okn_of mt_Q_openHole (by decide +kernel) rfl tb_Q_openHole (by decide +kernel : _ = false) (ok_Q_openHole X S n0 hS),
z_okn_of mt_Q_opens (by decide +kernel) rfl tb_Q_opens (by decide +kernel : _ = false) (ok_Q_opens X S n0 hS),
z_okn_of mt_Q_begins (by decide +kernel) rfl tb_Q_begins (by decide +kernel : _ = false) (ok_Q_begins X S n0 hS),
z_okn_of mt_Q_endAll (by decide +kernel) rfl tb_Q_endAll (by decide +kernel : _ = false) (ok_Q_endAll X S n0 hS),
z_okn_of mt_Q_end (by decide +kernel) rfl tb_Q_end (by decide +kernel : _ = false) (ok_Q_end X S n0 hS),
z_okn_of mt_Q_tell (by decide +kernel) rfl tb_Q_tell (by decide +kernel : _ = false) (ok_Q_tell X S n0 hS),
z_okn_of mt_Q_higher (by decide +kernel) rfl tb_Q_higher (by decide +kernel : _ = false) (ok_Q_higher X S n0 hS),
z_okn_of mt_Q_mute (by decide +kernel) rfl tb_Q_mute (by decide +kernel : _ = false) (ok_Q_mute X S n0 hS),
z_okn_of mt_Q_frequency (by decide +kernel) rfl tb_Q_frequency (by decide +kernel : _ = false) (ok_Q_frequency X S n0 hS),
z_okn_of mt_Q_tones (by decide +kernel) rfl tb_Q_tones (by decide +kernel : _ = false) (ok_Q_tones X S n0 hS),
z_okn_of mt_Q_frequencyOf (by decide +kernel) rfl tb_Q_frequencyOf (by decide +kernel : _ = false) (ok_Q_frequencyOf X S n0 hS),
z_okn_of mt_Q_plainOf (by decide +kernel) rfl tb_Q_plainOf (by decide +kernel : _ = false) (ok_Q_plainOf X S n0 hS),
z_okn_of mt_Q_nearest (by decide +kernel) rfl tb_Q_nearest (by decide +kernel : _ = false) (ok_Q_nearest X S n0 hS),
z_okn_of mt_Q_floor (by decide +kernel) rfl tb_Q_floor (by decide +kernel : _ = false) (ok_Q_floor X S n0 hS),
z_okn_of mt_Q_base (by decide +kernel) rfl tb_Q_base (by decide +kernel : _ = false) (ok_Q_base X S n0 hS),
z_okn_of mt_Q_tune (by decide +kernel) rfl tb_Q_tune (by decide +kernel : _ = false) (ok_Q_tune X S n0 hS),
z_okn_of mt_Q_spoil (by decide +kernel) rfl tb_Q_spoil (by decide +kernel : _ = false) (ok_Q_spoil X S n0 hS),
z_okn_of mt_Q_wire (by decide +kernel) rfl tb_Q_wire (by decide +kernel : _ = false) (ok_Q_wire X S n0 hS),
z_okn_of mt_Q_place (by decide +kernel) rfl tb_Q_place (by decide +kernel : _ = false) (ok_Q_place X S n0 hS),
z_okn_of mt_Q_takes (by decide +kernel) rfl tb_Q_takes (by decide +kernel : _ = false) (ok_Q_takes X S n0 hS),
z_okn_of mt_Q_chest (by decide +kernel) rfl tb_Q_chest (by decide +kernel : _ = false) (ok_Q_chest X S n0 hS),
z_okn_of mt_Q_couple (by decide +kernel) rfl tb_Q_couple (by decide +kernel : _ = false) (ok_Q_couple X S n0 hS),
z_okn_of mt_Q_reckon (by decide +kernel) rfl tb_Q_reckon (by decide +kernel : _ = false) (ok_Q_reckon X S n0 hS),
z_okn_of mt_Q_reaches (by decide +kernel) rfl tb_Q_reaches (by decide +kernel : _ = false) (ok_Q_reaches X S n0 hS),
z_okn_of mt_Q_instrument (by decide +kernel) rfl tb_Q_instrument (by decide +kernel : _ = false) (ok_Q_instrument X S n0 hS),
z_okn_of mt_Q_isInstrument (by decide +kernel) rfl tb_Q_isInstrument (by decide +kernel : _ = false) (ok_Q_isInstrument X S n0 hS),
z_okn_of mt_Q_told (by decide +kernel) rfl tb_Q_told (by decide +kernel : _ = false) (ok_Q_told X S n0 hS),
z_okn_of mt_Q_finding (by decide +kernel) rfl tb_Q_finding (by decide +kernel : _ = false) (ok_Q_finding X S n0 hS),
z_okn_of mt_Q_whole (by decide +kernel) rfl tb_Q_whole (by decide +kernel : _ = false) (ok_Q_whole X S n0 hS),
z_okn_of mt_Q_read (by decide +kernel) rfl tb_Q_read (by decide +kernel : _ = false) (ok_Q_read X S n0 hS),
z_okn_of mt_Q_sum (by decide +kernel) rfl tb_Q_sum (by decide +kernel : _ = false) (ok_Q_sum X S n0 hS),
z_okn_of mt_Q_head (by decide +kernel) rfl tb_Q_head (by decide +kernel : _ = false) (ok_Q_head X S n0 hS),
z_okn_of mt_Q_byteOf (by decide +kernel) rfl tb_Q_byteOf (by decide +kernel : _ = false) (ok_Q_byteOf X S n0 hS),
z_okn_of mt_Q_asks (by decide +kernel) rfl tb_Q_asks (by decide +kernel : _ = false) (ok_Q_asks X S n0 hS),
z_okn_of mt_Q_damage (by decide +kernel) rfl tb_Q_damage (by decide +kernel : _ = false) (ok_Q_damage X S n0 hS),
z_okn_of mt_Q_tear (by decide +kernel) rfl tb_Q_tear (by decide +kernel : _ = false) (ok_Q_tear X S n0 hS),
z_okn_of mt_Q_lose (by decide +kernel) rfl tb_Q_lose (by decide +kernel : _ = false) (ok_Q_lose X S n0 hS),
z_okn_of mt_Q_empty (by decide +kernel) rfl tb_Q_empty (by decide +kernel : _ = false) (ok_Q_empty X S n0 hS),
z_okn_of mt_Q_seal (by decide +kernel) rfl tb_Q_seal (by decide +kernel : _ = false) (ok_Q_seal X S n0 hS),
z_okn_of mt_Q_punch (by decide +kernel) rfl tb_Q_punch (by decide +kernel : _ = false) (ok_Q_punch X S n0 hS),
z_okn_of mt_Q_bars (by decide +kernel) rfl tb_Q_bars (by decide +kernel : _ = false) (ok_Q_bars X S n0 hS),
z_okn_of mt_Q_strip (by decide +kernel) rfl tb_Q_strip (by decide +kernel : _ = false) (ok_Q_strip X S n0 hS),
z_okn_of mt_Q_roll (by decide +kernel) rfl tb_Q_roll (by decide +kernel : _ = false) (ok_Q_roll X S n0 hS),
z_okn_of mt_Q_findingOf (by decide +kernel) rfl tb_Q_findingOf (by decide +kernel : _ = false) (ok_Q_findingOf X S n0 hS),
z_okn_of mt_Q_sealIt (by decide +kernel) rfl tb_Q_sealIt (by decide +kernel : _ = false) (ok_Q_sealIt X S n0 hS),
z_okn_of mt_Q_headSum (by decide +kernel) rfl tb_Q_headSum (by decide +kernel : _ = false) (ok_Q_headSum X S n0 hS),
z_okn_of mt_Q_headShort (by decide +kernel) rfl tb_Q_headShort (by decide +kernel : _ = false) (ok_Q_headShort X S n0 hS),
z_okn_of mt_Q_sumOf (by decide +kernel) rfl tb_Q_sumOf (by decide +kernel : _ = false) (ok_Q_sumOf X S n0 hS),
z_okn_of mt_Q_byteAt (by decide +kernel) rfl tb_Q_byteAt (by decide +kernel : _ = false) (ok_Q_byteAt X S n0 hS),
z_okn_of mt_Q_bytesOf (by decide +kernel) rfl tb_Q_bytesOf (by decide +kernel : _ = false) (ok_Q_bytesOf X S n0 hS),
z_okn_of mt_Q_low (by decide +kernel) rfl tb_Q_low (by decide +kernel : _ = false) (ok_Q_low X S n0 hS),
z_okn_of mt_Q_width (by decide +kernel) rfl tb_Q_width (by decide +kernel : _ = false) (ok_Q_width X S n0 hS),
z_okn_of mt_Q_poolOf (by decide +kernel) rfl tb_Q_poolOf (by decide +kernel : _ = false) (ok_Q_poolOf X S n0 hS),
z_okn_of mt_Q_isStrip (by decide +kernel) rfl tb_Q_isStrip (by decide +kernel : _ = false) (ok_Q_isStrip X S n0 hS),
z_okn_of mt_Q_isRoll (by decide +kernel) rfl tb_Q_isRoll (by decide +kernel : _ = false) (ok_Q_isRoll X S n0 hS),
z_okn_of mt_Q_well (by decide +kernel) rfl tb_Q_well (by decide +kernel : _ = false) (ok_Q_well X S n0 hS),
z_okn_of mt_Q_finds (by decide +kernel) rfl tb_Q_finds (by decide +kernel : _ = false) (ok_Q_finds X S n0 hS),
z_okn_of mt_Q_no (by decide +kernel) rfl tb_Q_no (by decide +kernel : _ = false) (ok_Q_no X S n0 hS),
z_okn_of mt_Q_within (by decide +kernel) rfl tb_Q_within (by decide +kernel : _ = false) (ok_Q_within X S n0 hS),
z_okn_of mt_Q_init (by decide +kernel) rfl tb_Q_init (by decide +kernel : _ = true) (ok_Q_init X S n0 hS),
z_okn_of mt_Ji_bitCount (by decide +kernel) rfl tb_Ji_bitCount (by decide +kernel : _ = false) (ok_Ji_bitCount X S n0 hS),
z_okn_of mt_Jd_doubleToLongBits (by decide +kernel) rfl tb_Jd_doubleToLongBits (by decide +kernel : _ = false) (ok_Jd_doubleToLongBits X S n0 hS),
z_okn_of mt_Jd_isNaN (by decide +kernel) rfl tb_Jd_isNaN (by decide +kernel : _ = false) (ok_Jd_isNaN X S n0 hS),
z_okn_of mt_Jm_min (by decide +kernel) rfl tb_Jm_min (by decide +kernel : _ = false) (ok_Jm_min X S n0 hS),
z_okn_of mt_Jm_max (by decide +kernel) rfl tb_Jm_max (by decide +kernel : _ = false) (ok_Jm_max X S n0 hS),
z_okn_of mt_Jm_floorMod (by decide +kernel) rfl tb_Jm_floorMod (by decide +kernel : _ = false) (ok_Jm_floorMod X S n0 hS),
z_okn_of mt_Jm_floorDiv (by decide +kernel) rfl tb_Jm_floorDiv (by decide +kernel : _ = false) (ok_Jm_floorDiv X S n0 hS), trivial⟩
set_option maxRecDepth 100000 in
theorem z_monms : z_upto z_monm 265 := ⟨
z_monm_of tb_W_law mo_W_law,
z_monm_of tb_P_status mo_P_status,
z_monm_of tb_P_trace mo_P_trace,
z_monm_of tb_P_members mo_P_members,
z_monm_of tb_P_strips mo_P_strips,
z_monm_of tb_P_count mo_P_count,
z_monm_of tb_P_digest mo_P_digest,
z_monm_of tb_P_equal mo_P_equal,
z_monm_of tb_P_mend mo_P_mend,
z_monm_of tb_P_fallen mo_P_fallen,
z_monm_of tb_P_noteFallen mo_P_noteFallen,
z_monm_of tb_P_transpose mo_P_transpose,
z_monm_of tb_P_copy mo_P_copy,
z_monm_of tb_P_replaceBytes mo_P_replaceBytes,
z_monm_of tb_P_moveOne mo_P_moveOne,
z_monm_of tb_P_move mo_P_move,
z_monm_of tb_P_addCopies mo_P_addCopies,
z_monm_of tb_P_repeat mo_P_repeat,
z_monm_of tb_P_join mo_P_join,
z_monm_of tb_P_cut mo_P_cut,
z_monm_of tb_P_event mo_P_event,
z_monm_of tb_P_times mo_P_times,
z_monm_of tb_P_at mo_P_at,
z_monm_of tb_P_stop mo_P_stop,
z_monm_of tb_P_level mo_P_level,
z_monm_of tb_P_loud mo_P_loud,
z_monm_of tb_P_sounding mo_P_sounding,
z_monm_of tb_P_open mo_P_open,
z_monm_of tb_P_back mo_P_back,
z_monm_of tb_P_halt mo_P_halt,
z_monm_of tb_P_tick mo_P_tick,
z_monm_of tb_P_play mo_P_play,
z_monm_of tb_P_higher mo_P_higher,
z_monm_of tb_P_mute mo_P_mute,
z_monm_of tb_P_bitsOf mo_P_bitsOf,
z_monm_of tb_P_frequency mo_P_frequency,
z_monm_of tb_P_base mo_P_base,
z_monm_of tb_P_tune mo_P_tune,
z_monm_of tb_P_spoil mo_P_spoil,
z_monm_of tb_P_wire mo_P_wire,
z_monm_of tb_P_place mo_P_place,
z_monm_of tb_P_chest mo_P_chest,
z_monm_of tb_P_couple mo_P_couple,
z_monm_of tb_P_instrument mo_P_instrument,
z_monm_of tb_P_told mo_P_told,
z_monm_of tb_P_finding mo_P_finding,
z_monm_of tb_P_whole mo_P_whole,
z_monm_of tb_P_read mo_P_read,
z_monm_of tb_P_sum mo_P_sum,
z_monm_of tb_P_head mo_P_head,
z_monm_of tb_P_byteOf mo_P_byteOf,
z_monm_of tb_P_damage mo_P_damage,
z_monm_of tb_P_tear mo_P_tear,
z_monm_of tb_P_lose mo_P_lose,
z_monm_of tb_P_seal mo_P_seal,
z_monm_of tb_P_punch mo_P_punch,
z_monm_of tb_P_strip mo_P_strip,
z_monm_of tb_P_roll mo_P_roll,
z_monm_of tb_P_tooManyElements mo_P_tooManyElements,
z_monm_of tb_P_stripAt mo_P_stripAt,
z_monm_of tb_P_rollAt mo_P_rollAt,
z_monm_of tb_P_doneLong mo_P_doneLong,
z_monm_of tb_P_refuseLong mo_P_refuseLong,
z_monm_of tb_P_nothingThere mo_P_nothingThere,
z_monm_of tb_P_found mo_P_found,
z_monm_of tb_P_refuse mo_P_refuse,
z_monm_of tb_P_done mo_P_done,
z_monm_of tb_P_init mo_P_init,
z_monm_of tb_O_goOnWithTempo mo_O_goOnWithTempo,
z_monm_of tb_O_setTempo mo_O_setTempo,
z_monm_of tb_O_doHole mo_O_doHole,
z_monm_of tb_O_doElement mo_O_doElement,
z_monm_of tb_O_passTick mo_O_passTick,
z_monm_of tb_O_beginStrip mo_O_beginStrip,
z_monm_of tb_O_reachStrip mo_O_reachStrip,
z_monm_of tb_O_goBack mo_O_goBack,
z_monm_of tb_O_usedOf mo_O_usedOf,
z_monm_of tb_O_keep mo_O_keep,
z_monm_of tb_O_begin mo_O_begin,
z_monm_of tb_O_silence mo_O_silence,
z_monm_of tb_O_endTrack mo_O_endTrack,
z_monm_of tb_O_endDownTo mo_O_endDownTo,
z_monm_of tb_O_noteEnd mo_O_noteEnd,
z_monm_of tb_O_startSound mo_O_startSound,
z_monm_of tb_O_log mo_O_log,
z_monm_of tb_O_isOpen mo_O_isOpen,
z_monm_of tb_O_countOfTrack mo_O_countOfTrack,
z_monm_of tb_O_soundAt mo_O_soundAt,
z_monm_of tb_O_ageOf mo_O_ageOf,
z_monm_of tb_O_trackOf mo_O_trackOf,
z_monm_of tb_O_instrumentOf mo_O_instrumentOf,
z_monm_of tb_O_whereIs mo_O_whereIs,
z_monm_of tb_O_addChest mo_O_addChest,
z_monm_of tb_O_placeCount mo_O_placeCount,
z_monm_of tb_O_hasChest mo_O_hasChest,
z_monm_of tb_O_pitchOf mo_O_pitchOf,
z_monm_of tb_O_grow mo_O_grow,
z_monm_of tb_O_made mo_O_made,
z_monm_of tb_O_addInstrument mo_O_addInstrument,
z_monm_of tb_O_instrumentAt mo_O_instrumentAt,
z_monm_of tb_O_init mo_O_init,
z_monm_of tb_Coup_timesWithin mo_Coup_timesWithin,
z_monm_of tb_Coup_pitch mo_Coup_pitch,
z_monm_of tb_Coup_loudness mo_Coup_loudness,
z_monm_of tb_Coup_append mo_Coup_append,
z_monm_of tb_Coup_partAt mo_Coup_partAt,
z_monm_of tb_Coup_init mo_Coup_init,
z_monm_of tb_Bell_pitch mo_Bell_pitch,
z_monm_of tb_Bell_loudness mo_Bell_loudness,
z_monm_of tb_Bell_init mo_Bell_init,
z_monm_of tb_Pluck_nearest mo_Pluck_nearest,
z_monm_of tb_Pluck_pitch mo_Pluck_pitch,
z_monm_of tb_Pluck_loudness mo_Pluck_loudness,
z_monm_of tb_Pluck_init mo_Pluck_init,
z_monm_of tb_Drum_loudness mo_Drum_loudness,
z_monm_of tb_Drum_init mo_Drum_init,
z_monm_of tb_Bass_pitch mo_Bass_pitch,
z_monm_of tb_Bass_air mo_Bass_air,
z_monm_of tb_Bass_init mo_Bass_init,
z_monm_of tb_Reed_pitch mo_Reed_pitch,
z_monm_of tb_Reed_loudness mo_Reed_loudness,
z_monm_of tb_Reed_init mo_Reed_init,
z_monm_of tb_Pipe_pitch mo_Pipe_pitch,
z_monm_of tb_Pipe_loudness mo_Pipe_loudness,
z_monm_of tb_Pipe_air mo_Pipe_air,
z_monm_of tb_Pipe_init mo_Pipe_init,
z_monm_of tb_N_timesWithin mo_N_timesWithin,
z_monm_of tb_N_isOf mo_N_isOf,
z_monm_of tb_N_ratioOf mo_N_ratioOf,
z_monm_of tb_N_pitch mo_N_pitch,
z_monm_of tb_N_init mo_N_init,
z_monm_of tb_L_splitAt mo_L_splitAt,
z_monm_of tb_L_elementsIn mo_L_elementsIn,
z_monm_of tb_L_makeRoom mo_L_makeRoom,
z_monm_of tb_L_put mo_L_put,
z_monm_of tb_L_append mo_L_append,
z_monm_of tb_L_isWhole mo_L_isWhole,
z_monm_of tb_L_stripAt mo_L_stripAt,
z_monm_of tb_L_init mo_L_init,
z_monm_of tb_S_digestOnto mo_S_digestOnto,
z_monm_of tb_S_isLike mo_S_isLike,
z_monm_of tb_S_takeElements mo_S_takeElements,
z_monm_of tb_S_hasSpan mo_S_hasSpan,
z_monm_of tb_S_twin mo_S_twin,
z_monm_of tb_S_takeBytes mo_S_takeBytes,
z_monm_of tb_S_keepFirst mo_S_keepFirst,
z_monm_of tb_S_dropAll mo_S_dropAll,
z_monm_of tb_S_verdict mo_S_verdict,
z_monm_of tb_S_writeHead mo_S_writeHead,
z_monm_of tb_S_sumNow mo_S_sumNow,
z_monm_of tb_S_putElement mo_S_putElement,
z_monm_of tb_S_elementAt mo_S_elementAt,
z_monm_of tb_S_writeNumber mo_S_writeNumber,
z_monm_of tb_S_numberAt mo_S_numberAt,
z_monm_of tb_S_elements mo_S_elements,
z_monm_of tb_S_init mo_S_init,
z_monm_of tb_Q_status mo_Q_status,
z_monm_of tb_Q_trace mo_Q_trace,
z_monm_of tb_Q_members mo_Q_members,
z_monm_of tb_Q_strips mo_Q_strips,
z_monm_of tb_Q_count mo_Q_count,
z_monm_of tb_Q_digest mo_Q_digest,
z_monm_of tb_Q_equal mo_Q_equal,
z_monm_of tb_Q_areAlike mo_Q_areAlike,
z_monm_of tb_Q_mend mo_Q_mend,
z_monm_of tb_Q_fallen mo_Q_fallen,
z_monm_of tb_Q_transpose mo_Q_transpose,
z_monm_of tb_Q_copy mo_Q_copy,
z_monm_of tb_Q_hinders mo_Q_hinders,
z_monm_of tb_Q_move mo_Q_move,
z_monm_of tb_Q_repeat mo_Q_repeat,
z_monm_of tb_Q_join mo_Q_join,
z_monm_of tb_Q_elementsOf mo_Q_elementsOf,
z_monm_of tb_Q_copyOf mo_Q_copyOf,
z_monm_of tb_Q_copies mo_Q_copies,
z_monm_of tb_Q_cut mo_Q_cut,
z_monm_of tb_Q_event mo_Q_event,
z_monm_of tb_Q_times mo_Q_times,
z_monm_of tb_Q_at mo_Q_at,
z_monm_of tb_Q_stop mo_Q_stop,
z_monm_of tb_Q_level mo_Q_level,
z_monm_of tb_Q_loud mo_Q_loud,
z_monm_of tb_Q_loudOf mo_Q_loudOf,
z_monm_of tb_Q_airOf mo_Q_airOf,
z_monm_of tb_Q_sounding mo_Q_sounding,
z_monm_of tb_Q_open mo_Q_open,
z_monm_of tb_Q_back mo_Q_back,
z_monm_of tb_Q_becomes mo_Q_becomes,
z_monm_of tb_Q_layAside mo_Q_layAside,
z_monm_of tb_Q_halt mo_Q_halt,
z_monm_of tb_Q_tick mo_Q_tick,
z_monm_of tb_Q_play mo_Q_play,
z_monm_of tb_Q_comes mo_Q_comes,
z_monm_of tb_Q_tempoGoesOn mo_Q_tempoGoesOn,
z_monm_of tb_Q_down mo_Q_down,
z_monm_of tb_Q_tempoTo mo_Q_tempoTo,
z_monm_of tb_Q_does mo_Q_does,
z_monm_of tb_Q_shutHole mo_Q_shutHole,
z_monm_of tb_Q_openHole mo_Q_openHole,
z_monm_of tb_Q_opens mo_Q_opens,
z_monm_of tb_Q_begins mo_Q_begins,
z_monm_of tb_Q_endAll mo_Q_endAll,
z_monm_of tb_Q_end mo_Q_end,
z_monm_of tb_Q_tell mo_Q_tell,
z_monm_of tb_Q_higher mo_Q_higher,
z_monm_of tb_Q_mute mo_Q_mute,
z_monm_of tb_Q_frequency mo_Q_frequency,
z_monm_of tb_Q_tones mo_Q_tones,
z_monm_of tb_Q_frequencyOf mo_Q_frequencyOf,
z_monm_of tb_Q_plainOf mo_Q_plainOf,
z_monm_of tb_Q_nearest mo_Q_nearest,
z_monm_of tb_Q_floor mo_Q_floor,
z_monm_of tb_Q_base mo_Q_base,
z_monm_of tb_Q_tune mo_Q_tune,
z_monm_of tb_Q_spoil mo_Q_spoil,
z_monm_of tb_Q_wire mo_Q_wire,
z_monm_of tb_Q_place mo_Q_place,
z_monm_of tb_Q_takes mo_Q_takes,
z_monm_of tb_Q_chest mo_Q_chest,
z_monm_of tb_Q_couple mo_Q_couple,
z_monm_of tb_Q_reckon mo_Q_reckon,
z_monm_of tb_Q_reaches mo_Q_reaches,
z_monm_of tb_Q_instrument mo_Q_instrument,
z_monm_of tb_Q_isInstrument mo_Q_isInstrument,
z_monm_of tb_Q_told mo_Q_told,
z_monm_of tb_Q_finding mo_Q_finding,
z_monm_of tb_Q_whole mo_Q_whole,
z_monm_of tb_Q_read mo_Q_read,
z_monm_of tb_Q_sum mo_Q_sum,
z_monm_of tb_Q_head mo_Q_head,
z_monm_of tb_Q_byteOf mo_Q_byteOf,
z_monm_of tb_Q_asks mo_Q_asks,
z_monm_of tb_Q_damage mo_Q_damage,
z_monm_of tb_Q_tear mo_Q_tear,
z_monm_of tb_Q_lose mo_Q_lose,
z_monm_of tb_Q_empty mo_Q_empty,
z_monm_of tb_Q_seal mo_Q_seal,
z_monm_of tb_Q_punch mo_Q_punch,
z_monm_of tb_Q_bars mo_Q_bars,
z_monm_of tb_Q_strip mo_Q_strip,
z_monm_of tb_Q_roll mo_Q_roll,
z_monm_of tb_Q_findingOf mo_Q_findingOf,
z_monm_of tb_Q_sealIt mo_Q_sealIt,
z_monm_of tb_Q_headSum mo_Q_headSum,
z_monm_of tb_Q_headShort mo_Q_headShort,
z_monm_of tb_Q_sumOf mo_Q_sumOf,
z_monm_of tb_Q_byteAt mo_Q_byteAt,
z_monm_of tb_Q_bytesOf mo_Q_bytesOf,
z_monm_of tb_Q_low mo_Q_low,
z_monm_of tb_Q_width mo_Q_width,
z_monm_of tb_Q_poolOf mo_Q_poolOf,
z_monm_of tb_Q_isStrip mo_Q_isStrip,
z_monm_of tb_Q_isRoll mo_Q_isRoll,
z_monm_of tb_Q_well mo_Q_well,
z_monm_of tb_Q_finds mo_Q_finds,
z_monm_of tb_Q_no mo_Q_no,
z_monm_of tb_Q_within mo_Q_within,
z_monm_of tb_Q_init mo_Q_init,
z_monm_of tb_Ji_bitCount mo_Ji_bitCount,
z_monm_of tb_Jd_doubleToLongBits mo_Jd_doubleToLongBits,
z_monm_of tb_Jd_isNaN mo_Jd_isNaN,
z_monm_of tb_Jm_min mo_Jm_min,
z_monm_of tb_Jm_max mo_Jm_max,
z_monm_of tb_Jm_floorMod mo_Jm_floorMod,
z_monm_of tb_Jm_floorDiv mo_Jm_floorDiv, trivial⟩
set_option maxRecDepth 100000 in
theorem z_mts_len : z_mts.length = 265 := rfl
set_option maxRecDepth 100000 in
theorem z_prog_len : z_prog.length = 265 := rfl
theorem z_ok_all (X : zX) (S : zS) (n0 : Nat) (hS : zSok S) (mi : Nat) : z_okn X S n0 z_mts mi := by
  by_cases h : mi < 265
  · exact z_upto_mem _ (z_okms X S n0 hS) mi h
  · intro y cc mx ret hm
    have := z_nth_lt _ _ _ hm
    rw [z_mts_len] at this
    omega
theorem z_mon_all (mi : Nat) : z_monm mi := by
  by_cases h : mi < 265
  · exact z_upto_mem _ z_monms mi h
  · intro q hq
    unfold z_tab at hq
    rw [z_nth_ge z_prog mi (by rw [z_prog_len]; omega)] at hq
    cases hq
