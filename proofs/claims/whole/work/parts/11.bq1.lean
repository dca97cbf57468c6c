/-! WHAT THE METHODS DO, printed by a program (wip/gen/emitB.py), held against the small machine by rfl. -/
set_option maxRecDepth 100000 in
set_option maxHeartbeats 4000000 in
theorem hQ_within : z_tab mQ_within = tQ_within ∧ z_inc tQ_within 0 = true := ⟨rfl, by decide +kernel⟩
set_option maxRecDepth 100000 in
set_option maxHeartbeats 4000000 in
theorem B_Q_within (d : Nat) (p1 : Int32) (p2 : Int32) (p3 : Int32) (M : zM) : z_den zQ (d + 1) mQ_within [.int p1, .int p2, .int p3] M = bif z_lt p1 p2 then (some (some (.int 0), M)) else (bif z_lt p3 p1 then (some (some (.int 0), M)) else (some (some (.int 1), M))) :=
  (z_J_eq zQ (d + 1) mQ_within tQ_within [] hQ_within.1 hQ_within.2 11 0 (z_ent mQ_within [.int p1, .int p2, .int p3] M)).trans rfl
set_option maxRecDepth 100000 in
set_option maxHeartbeats 4000000 in
theorem hQ_no : z_tab mQ_no = tQ_no ∧ z_inc tQ_no 0 = true := ⟨rfl, by decide +kernel⟩
set_option maxRecDepth 100000 in
set_option maxHeartbeats 4000000 in
theorem B_Q_no (d : Nat) (p1 : Int32) (M : zM) : z_den zQ (d + 1) mQ_no [.ref 15, .int p1] M = some (some (.int p1), z_wI M 15 0 p1) :=
  (z_J_eq zQ (d + 1) mQ_no tQ_no [] hQ_no.1 hQ_no.2 6 0 (z_ent mQ_no [.ref 15, .int p1] M)).trans rfl
set_option maxRecDepth 100000 in
set_option maxHeartbeats 4000000 in
theorem hQ_finds : z_tab mQ_finds = tQ_finds ∧ z_inc tQ_finds 0 = true := ⟨rfl, by decide +kernel⟩
set_option maxRecDepth 100000 in
set_option maxHeartbeats 4000000 in
theorem B_Q_finds (d : Nat) (p1 : Int32) (M : zM) : z_den zQ (d + 1) mQ_finds [.ref 15, .int p1] M = some (some (.int ((-10) - p1)), z_wI M 15 0 p1) :=
  (z_J_eq zQ (d + 1) mQ_finds tQ_finds [] hQ_finds.1 hQ_finds.2 8 0 (z_ent mQ_finds [.ref 15, .int p1] M)).trans rfl
set_option maxRecDepth 100000 in
set_option maxHeartbeats 4000000 in
theorem hQ_well : z_tab mQ_well = tQ_well ∧ z_inc tQ_well 0 = true := ⟨rfl, by decide +kernel⟩
set_option maxRecDepth 100000 in
set_option maxHeartbeats 4000000 in
theorem B_Q_well (d : Nat) (p1 : Int32) (M : zM) : z_den zQ (d + 1) mQ_well [.ref 15, .int p1] M = some (some (.int p1), z_wI M 15 0 0) :=
  (z_J_eq zQ (d + 1) mQ_well tQ_well [] hQ_well.1 hQ_well.2 6 0 (z_ent mQ_well [.ref 15, .int p1] M)).trans rfl
set_option maxRecDepth 100000 in
set_option maxHeartbeats 4000000 in
theorem hQ_isRoll : z_tab mQ_isRoll = tQ_isRoll ∧ z_inc tQ_isRoll 0 = true := ⟨rfl, by decide +kernel⟩
set_option maxRecDepth 100000 in
set_option maxHeartbeats 4000000 in
theorem B_Q_isRoll (d : Nat) (p1 : Int32) (M : zM) : z_den zQ (d + 1) mQ_isRoll [.ref 15, .int p1] M = z_bI (z_den zQ d mQ_within [.int p1, .int 0, .int ((zI M 15 1) - 1)] M) (fun x1 M2 => bif decide (x1 &&& 1 = x1) then some (some (.int x1), M2) else none) :=
  (z_J_eq zQ (d + 1) mQ_isRoll tQ_isRoll [] hQ_isRoll.1 hQ_isRoll.2 9 0 (z_ent mQ_isRoll [.ref 15, .int p1] M)).trans rfl
set_option maxRecDepth 100000 in
set_option maxHeartbeats 4000000 in
theorem hQ_isStrip : z_tab mQ_isStrip = tQ_isStrip ∧ z_inc tQ_isStrip 0 = true := ⟨rfl, by decide +kernel⟩
set_option maxRecDepth 100000 in
set_option maxHeartbeats 4000000 in
theorem B_Q_isStrip (d : Nat) (p1 : Int32) (p2 : Int32) (M : zM) : z_den zQ (d + 1) mQ_isStrip [.ref 15, .int p1, .int p2] M = z_bI (z_den zQ d mQ_isRoll [.ref 15, .int p1] M) (fun x1 M2 => bif z_eq x1 0 then (some (some (.int 0), M2)) else (bif z_ix p1 20 then z_bI (z_den zQ d mQ_within [.int p2, .int 0, .int ((zI M2 16 (Int32.toNatClampNeg p1)) - 1)] M2) (fun x3 M4 => bif z_eq x3 0 then (some (some (.int 0), M4)) else (some (some (.int 1), M4))) else none)) :=
  (z_J_eq zQ (d + 1) mQ_isStrip tQ_isStrip [] hQ_isStrip.1 hQ_isStrip.2 19 0 (z_ent mQ_isStrip [.ref 15, .int p1, .int p2] M)).trans rfl
set_option maxRecDepth 100000 in
set_option maxHeartbeats 4000000 in
theorem hQ_poolOf : z_tab mQ_poolOf = tQ_poolOf ∧ z_inc tQ_poolOf 0 = true := ⟨rfl, by decide +kernel⟩
set_option maxRecDepth 100000 in
set_option maxHeartbeats 4000000 in
theorem B_Q_poolOf (d : Nat) (p1 : Int32) (p2 : Int32) (M : zM) : z_den zQ (d + 1) mQ_poolOf [.ref 15, .int p1, .int p2] M = bif z_ix ((400 * p1) + p2) 8000 then some (some (.int (zI M 17 (Int32.toNatClampNeg ((400 * p1) + p2)))), M) else none :=
  (z_J_eq zQ (d + 1) mQ_poolOf tQ_poolOf [] hQ_poolOf.1 hQ_poolOf.2 10 0 (z_ent mQ_poolOf [.ref 15, .int p1, .int p2] M)).trans rfl
set_option maxRecDepth 100000 in
set_option maxHeartbeats 4000000 in
theorem hQ_width : z_tab mQ_width = tQ_width ∧ z_inc tQ_width 0 = true := ⟨rfl, by decide +kernel⟩
set_option maxRecDepth 100000 in
set_option maxHeartbeats 4000000 in
theorem B_Q_width (d : Nat) (p1 : Int32) (M : zM) : z_den zQ (d + 1) mQ_width [.int p1] M = bif z_ne p1 0 then (bif z_ne p1 3 then (some (some (.int 2), M)) else (some (some (.int 4), M))) else (some (some (.int 1), M)) :=
  (z_J_eq zQ (d + 1) mQ_width tQ_width [] hQ_width.1 hQ_width.2 12 0 (z_ent mQ_width [.int p1] M)).trans rfl
set_option maxRecDepth 100000 in
set_option maxHeartbeats 4000000 in
theorem hQ_low : z_tab mQ_low = tQ_low ∧ z_inc tQ_low 0 = true := ⟨rfl, by decide +kernel⟩
set_option maxRecDepth 100000 in
set_option maxHeartbeats 4000000 in
theorem B_Q_low (d : Nat) (p1 : Int32) (p2 : Int32) (M : zM) : z_den zQ (d + 1) mQ_low [.int p1, .int p2] M = bif z_ne p1 0 then (bif z_ne p1 1 then (bif z_ne p1 2 then (some (some (.int p2), M)) else (some (some (.int (p2 &&& 65535)), M))) else (some (some (.int ((Int32.toInt16 p2).toInt32)), M))) else (some (some (.int ((Int32.toInt8 p2).toInt32)), M)) :=
  (z_J_eq zQ (d + 1) mQ_low tQ_low [] hQ_low.1 hQ_low.2 21 0 (z_ent mQ_low [.int p1, .int p2] M)).trans rfl
set_option maxRecDepth 100000 in
set_option maxHeartbeats 4000000 in
theorem hQ_bytesOf : z_tab mQ_bytesOf = tQ_bytesOf ∧ z_inc tQ_bytesOf 0 = true := ⟨rfl, by decide +kernel⟩
set_option maxRecDepth 100000 in
set_option maxHeartbeats 4000000 in
theorem B_Q_bytesOf (d : Nat) (p1 : Int32) (M : zM) : z_den zQ (d + 1) mQ_bytesOf [.ref 15, .int p1] M = bif z_ix p1 400 then bif z_ix p1 400 then bif z_ix p1 400 then z_bI (z_den zQ d mQ_width [.int (zI M 18 (Int32.toNatClampNeg p1))] M) (fun x1 M2 => some (some (.int ((zI M 22 (Int32.toNatClampNeg p1)) + ((zI M 24 (Int32.toNatClampNeg p1)) * x1))), M2)) else none else none else none :=
  (z_J_eq zQ (d + 1) mQ_bytesOf tQ_bytesOf [] hQ_bytesOf.1 hQ_bytesOf.2 17 0 (z_ent mQ_bytesOf [.ref 15, .int p1] M)).trans rfl
set_option maxRecDepth 100000 in
set_option maxHeartbeats 4000000 in
theorem hQ_byteAt : z_tab mQ_byteAt = tQ_byteAt ∧ z_inc tQ_byteAt 0 = true := ⟨rfl, by decide +kernel⟩
set_option maxRecDepth 100000 in
set_option maxHeartbeats 4000000 in
theorem B_Q_byteAt (d : Nat) (p1 : Int32) (p2 : Int32) (M : zM) : z_den zQ (d + 1) mQ_byteAt [.ref 15, .int p1, .int p2] M = bif z_le 9 p2 then (bif z_ix p1 400 then z_bI (z_den zQ d mQ_width [.int (zI M 18 (Int32.toNatClampNeg p1))] M) (fun x1 M2 => bif z_ne x1 0 then bif z_ix ((256 * p1) + ((p2 - 9) / x1)) 102400 then bif z_ne x1 0 then some (some (.int ((Int32.toInt8 ((zI M2 25 (Int32.toNatClampNeg ((256 * p1) + ((p2 - 9) / x1)))) >>> ((8 * ((x1 - 1) - ((p2 - 9) - (p2 - 9) / x1 * x1))) &&& 31))).toInt32)), M2) else none else none else none) else none) else (bif z_ix ((9 * p1) + p2) 3600 then some (some (.int (zI M 23 (Int32.toNatClampNeg ((9 * p1) + p2)))), M) else none) :=
  (z_J_eq zQ (d + 1) mQ_byteAt tQ_byteAt [] hQ_byteAt.1 hQ_byteAt.2 45 0 (z_ent mQ_byteAt [.ref 15, .int p1, .int p2] M)).trans rfl
set_option maxRecDepth 100000 in
set_option maxHeartbeats 4000000 in
theorem hQ_sumOf : z_tab mQ_sumOf = tQ_sumOf ∧ z_inc tQ_sumOf 0 = true := ⟨rfl, by decide +kernel⟩
set_option maxRecDepth 100000 in
set_option maxHeartbeats 4000000 in
theorem L_Q_sumOf_4 (d : Nat) (l1 : Int32) (l2 : Int32) (l3 : Int32) (M : zM) : z_denF zQ (d + 1) mQ_sumOf (4, [some (.ref 15), some (.int l1), some (.int l2), some (.int l3), none], [], M) = bif z_le 5 l3 then (bif z_ix l1 400 then z_bI (z_den zQ d mQ_width [.int (zI M 18 (Int32.toNatClampNeg l1))] M) (fun x1 M2 => z_denF zQ (d + 1) mQ_sumOf (46, [some (.ref 15), some (.int l1), some (.int l2), some (.int x1), some (.int 9)], [], M2)) else none) else (bif z_ix ((9 * l1) + l3) 3600 then z_denF zQ (d + 1) mQ_sumOf (4, [some (.ref 15), some (.int l1), some (.int ((l2 * 31) + (zI M 23 (Int32.toNatClampNeg ((9 * l1) + l3))))), some (.int (l3 + 1)), none], [], M) else none) :=
  (z_J_eq zQ (d + 1) mQ_sumOf tQ_sumOf [4, 46] hQ_sumOf.1 hQ_sumOf.2 54 4 _).trans rfl
set_option maxRecDepth 100000 in
set_option maxHeartbeats 4000000 in
theorem L_Q_sumOf_46 (d : Nat) (l1 : Int32) (l2 : Int32) (l3 : Int32) (l4 : Int32) (M : zM) : z_denF zQ (d + 1) mQ_sumOf (46, [some (.ref 15), some (.int l1), some (.int l2), some (.int l3), some (.int l4)], [], M) = bif z_ix l1 400 then bif z_le (9 + ((zI M 24 (Int32.toNatClampNeg l1)) * l3)) l4 then (some (some (.int l2), M)) else (z_bI (z_den zQ d mQ_byteAt [.ref 15, .int l1, .int l4] M) (fun x1 M2 => z_denF zQ (d + 1) mQ_sumOf (46, [some (.ref 15), some (.int l1), some (.int ((l2 * 31) + x1)), some (.int l3), some (.int (l4 + 1))], [], M2))) else none :=
  (z_J_eq zQ (d + 1) mQ_sumOf tQ_sumOf [4, 46] hQ_sumOf.1 hQ_sumOf.2 54 46 _).trans rfl
set_option maxRecDepth 100000 in
set_option maxHeartbeats 4000000 in
theorem B_Q_sumOf (d : Nat) (p1 : Int32) (M : zM) : z_den zQ (d + 1) mQ_sumOf [.ref 15, .int p1] M = z_denF zQ (d + 1) mQ_sumOf (4, [some (.ref 15), some (.int p1), some (.int 1), some (.int 0), none], [], M) :=
  (z_J_eq zQ (d + 1) mQ_sumOf tQ_sumOf [4, 46] hQ_sumOf.1 hQ_sumOf.2 54 0 (z_ent mQ_sumOf [.ref 15, .int p1] M)).trans rfl
set_option maxRecDepth 100000 in
set_option maxHeartbeats 4000000 in
theorem hQ_headShort : z_tab mQ_headShort = tQ_headShort ∧ z_inc tQ_headShort 0 = true := ⟨rfl, by decide +kernel⟩
set_option maxRecDepth 100000 in
set_option maxHeartbeats 4000000 in
theorem B_Q_headShort (d : Nat) (p1 : Int32) (p2 : Int32) (M : zM) : z_den zQ (d + 1) mQ_headShort [.ref 15, .int p1, .int p2] M = bif z_ix ((9 * p1) + p2) 3600 then bif z_ix (((9 * p1) + p2) + 1) 3600 then some (some (.int ((Int32.toInt16 (((zI M 23 (Int32.toNatClampNeg ((9 * p1) + p2))) <<< ((8 : Int32) &&& 31)) ||| ((zI M 23 (Int32.toNatClampNeg (((9 * p1) + p2) + 1))) &&& 255))).toInt32)), M) else none else none :=
  (z_J_eq zQ (d + 1) mQ_headShort tQ_headShort [] hQ_headShort.1 hQ_headShort.2 26 0 (z_ent mQ_headShort [.ref 15, .int p1, .int p2] M)).trans rfl
set_option maxRecDepth 100000 in
set_option maxHeartbeats 4000000 in
theorem hQ_headSum : z_tab mQ_headSum = tQ_headSum ∧ z_inc tQ_headSum 0 = true := ⟨rfl, by decide +kernel⟩
set_option maxRecDepth 100000 in
set_option maxHeartbeats 4000000 in
theorem B_Q_headSum (d : Nat) (p1 : Int32) (M : zM) : z_den zQ (d + 1) mQ_headSum [.ref 15, .int p1] M = bif z_ix ((9 * p1) + 5) 3600 then bif z_ix ((9 * p1) + 6) 3600 then bif z_ix ((9 * p1) + 7) 3600 then bif z_ix ((9 * p1) + 8) 3600 then some (some (.int (((((zI M 23 (Int32.toNatClampNeg ((9 * p1) + 5))) <<< ((24 : Int32) &&& 31)) ||| (((zI M 23 (Int32.toNatClampNeg ((9 * p1) + 6))) &&& 255) <<< ((16 : Int32) &&& 31))) ||| (((zI M 23 (Int32.toNatClampNeg ((9 * p1) + 7))) &&& 255) <<< ((8 : Int32) &&& 31))) ||| ((zI M 23 (Int32.toNatClampNeg ((9 * p1) + 8))) &&& 255))), M) else none else none else none else none :=
  (z_J_eq zQ (d + 1) mQ_headSum tQ_headSum [] hQ_headSum.1 hQ_headSum.2 49 0 (z_ent mQ_headSum [.ref 15, .int p1] M)).trans rfl
set_option maxRecDepth 100000 in
set_option maxHeartbeats 4000000 in
theorem hQ_sealIt : z_tab mQ_sealIt = tQ_sealIt ∧ z_inc tQ_sealIt 0 = true := ⟨rfl, by decide +kernel⟩
set_option maxRecDepth 100000 in
set_option maxHeartbeats 4000000 in
theorem L_Q_sealIt_110 (d : Nat) (l1 : Int32) (l2 : Int32) (l3 : Int32) (M : zM) : z_denF zQ (d + 1) mQ_sealIt (110, [some (.ref 15), some (.int l1), some (.int l2), some (.int l3)], [], M) = bif z_le 4 l3 then (some (none, M)) else (bif z_ix (((9 * l1) + 5) + l3) 3600 then z_denF zQ (d + 1) mQ_sealIt (110, [some (.ref 15), some (.int l1), some (.int l2), some (.int (l3 + 1))], [], z_wI M 23 (Int32.toNatClampNeg (((9 * l1) + 5) + l3)) ((Int32.toInt8 (l2 >>> ((24 - (8 * l3)) &&& 31))).toInt32)) else none) :=
  (z_J_eq zQ (d + 1) mQ_sealIt tQ_sealIt [110] hQ_sealIt.1 hQ_sealIt.2 103 110 _).trans rfl
set_option maxRecDepth 100000 in
set_option maxHeartbeats 4000000 in
theorem B_Q_sealIt (d : Nat) (p1 : Int32) (M : zM) : z_den zQ (d + 1) mQ_sealIt [.ref 15, .int p1] M = bif z_ix p1 400 then bif z_ix p1 400 then bif z_ix (9 * p1) 3600 then bif z_ix p1 400 then bif z_ix ((9 * p1) + 1) 3600 then bif z_ix p1 400 then bif z_ix ((9 * p1) + 2) 3600 then bif z_ix p1 400 then bif z_ix ((9 * p1) + 3) 3600 then bif z_ix p1 400 then bif z_ix ((9 * p1) + 4) 3600 then z_bI (z_den zQ d mQ_sumOf [.ref 15, .int p1] (z_wI (z_wI (z_wI (z_wI (z_wI (z_wI M 22 (Int32.toNatClampNeg p1) 9) 23 (Int32.toNatClampNeg (9 * p1)) ((Int32.toInt8 (zI M 18 (Int32.toNatClampNeg p1))).toInt32)) 23 (Int32.toNatClampNeg ((9 * p1) + 1)) ((Int32.toInt8 ((zI M 19 (Int32.toNatClampNeg p1)) >>> ((8 : Int32) &&& 31))).toInt32)) 23 (Int32.toNatClampNeg ((9 * p1) + 2)) ((Int32.toInt8 (zI M 19 (Int32.toNatClampNeg p1))).toInt32)) 23 (Int32.toNatClampNeg ((9 * p1) + 3)) ((Int32.toInt8 ((zI M 24 (Int32.toNatClampNeg p1)) >>> ((8 : Int32) &&& 31))).toInt32)) 23 (Int32.toNatClampNeg ((9 * p1) + 4)) ((Int32.toInt8 (zI M 24 (Int32.toNatClampNeg p1))).toInt32))) (fun x1 M2 => z_denF zQ (d + 1) mQ_sealIt (110, [some (.ref 15), some (.int p1), some (.int x1), some (.int 0)], [], M2)) else none else none else none else none else none else none else none else none else none else none else none :=
  (z_J_eq zQ (d + 1) mQ_sealIt tQ_sealIt [110] hQ_sealIt.1 hQ_sealIt.2 103 0 (z_ent mQ_sealIt [.ref 15, .int p1] M)).trans rfl
set_option maxRecDepth 100000 in
set_option maxHeartbeats 4000000 in
theorem hQ_findingOf : z_tab mQ_findingOf = tQ_findingOf ∧ z_inc tQ_findingOf 0 = true := ⟨rfl, by decide +kernel⟩
set_option maxRecDepth 100000 in
set_option maxHeartbeats 4000000 in
theorem B_Q_findingOf (d : Nat) (p1 : Int32) (M : zM) : z_den zQ (d + 1) mQ_findingOf [.ref 15, .int p1] M = bif z_ix p1 400 then bif z_eq (zI M 21 (Int32.toNatClampNeg p1)) 0 then (bif z_ix p1 400 then bif z_le 9 (zI M 22 (Int32.toNatClampNeg p1)) then (bif z_ix (9 * p1) 3600 then bif z_ix p1 400 then bif z_eq (zI M 23 (Int32.toNatClampNeg (9 * p1))) (zI M 18 (Int32.toNatClampNeg p1)) then (z_bI (z_den zQ d mQ_headShort [.ref 15, .int p1, .int 3] M) (fun x1 M2 => bif z_ix p1 400 then bif z_eq x1 (zI M2 24 (Int32.toNatClampNeg p1)) then (z_bI (z_den zQ d mQ_headSum [.ref 15, .int p1] M2) (fun x3 M4 => z_bI (z_den zQ d mQ_sumOf [.ref 15, .int p1] M4) (fun x5 M6 => bif z_ne x3 x5 then (some (some (.int 9), M6)) else (some (some (.int 0), M6))))) else (bif z_ix p1 400 then bif z_le x1 (zI M2 24 (Int32.toNatClampNeg p1)) then (bif z_le 0 x1 then (some (some (.int 8), M2)) else (some (some (.int 3), M2))) else (some (some (.int 7), M2)) else none) else none)) else (some (some (.int 5), M)) else none else none) else (some (some (.int 2), M)) else none) else (some (some (.int 1), M)) else none :=
  (z_J_eq zQ (d + 1) mQ_findingOf tQ_findingOf [] hQ_findingOf.1 hQ_findingOf.2 65 0 (z_ent mQ_findingOf [.ref 15, .int p1] M)).trans rfl
set_option maxRecDepth 100000 in
set_option maxHeartbeats 4000000 in
theorem hQ_roll : z_tab mQ_roll = tQ_roll ∧ z_inc tQ_roll 0 = true := ⟨rfl, by decide +kernel⟩
set_option maxRecDepth 100000 in
set_option maxHeartbeats 4000000 in
theorem B_Q_roll (d : Nat) (M : zM) : z_den zQ (d + 1) mQ_roll [.ref 15] M = bif z_eq (zI M 15 36) 0 then (bif z_ne (zI M 15 1) 20 then (z_bI (z_den zQ d mQ_well [.ref 15, .int ((zI (z_wI M 15 1 ((zI M 15 1) + 1)) 15 1) - 1)] (z_wI M 15 1 ((zI M 15 1) + 1))) (fun x1 M2 => some (some (.int x1), M2))) else (z_bI (z_den zQ d mQ_no [.ref 15, .int (-2)] M) (fun x3 M4 => some (some (.int x3), M4)))) else (z_bI (z_den zQ d mQ_no [.ref 15, .int (-3)] M) (fun x5 M6 => some (some (.int x5), M6))) :=
  (z_J_eq zQ (d + 1) mQ_roll tQ_roll [] hQ_roll.1 hQ_roll.2 29 0 (z_ent mQ_roll [.ref 15] M)).trans rfl
set_option maxRecDepth 100000 in
set_option maxHeartbeats 4000000 in
theorem hQ_strip : z_tab mQ_strip = tQ_strip ∧ z_inc tQ_strip 0 = true := ⟨rfl, by decide +kernel⟩
set_option maxRecDepth 100000 in
set_option maxHeartbeats 4000000 in
theorem B_Q_strip (d : Nat) (p1 : Int32) (p2 : Int32) (p3 : Int32) (p4 : Int32) (p5 : Int32) (M : zM) : z_den zQ (d + 1) mQ_strip [.ref 15, .int p1, .int p2, .int p3, .int p4, .int p5] M = z_bI (z_den zQ d mQ_isRoll [.ref 15, .int p1] M) (fun x1 M2 => bif z_eq x1 0 then (z_bI (z_den zQ d mQ_no [.ref 15, .int (-1)] M2) (fun x3 M4 => some (some (.int x3), M4))) else (z_bI (z_den zQ d mQ_within [.int p2, .int 0, .int 3] M2) (fun x5 M6 => bif z_eq x5 0 then (z_bI (z_den zQ d mQ_no [.ref 15, .int (-1)] M6) (fun x7 M8 => some (some (.int x7), M8))) else (z_bI (z_den zQ d mQ_within [.int p3, .int 0, .int 30000] M6) (fun x9 M10 => bif z_eq x9 0 then (z_bI (z_den zQ d mQ_no [.ref 15, .int (-1)] M10) (fun x11 M12 => some (some (.int x11), M12))) else (bif z_lt 256 p4 then (z_bI (z_den zQ d mQ_no [.ref 15, .int (-1)] M10) (fun x13 M14 => some (some (.int x13), M14))) else (z_bI (z_den zQ d mQ_within [.int p5, .int 0, .int 256] M10) (fun x15 M16 => bif z_ne x15 0 then (bif z_eq (zI M16 15 36) 0 then (bif z_eq (zI M16 15 4) 400 then (z_bI (z_den zQ d mQ_no [.ref 15, .int (-2)] M16) (fun x17 M18 => some (some (.int x17), M18))) else (bif z_le ((zI M16 15 13) + p4) 8000 then (bif z_le 0 p4 then (bif z_ix (zI M16 15 4) 400 then bif z_ix (zI M16 15 4) 400 then bif z_ix (zI M16 15 4) 400 then bif z_ix (zI M16 15 4) 400 then z_bV (z_den zQ d mQ_sealIt [.ref 15, .int (zI (z_wI (z_wI (z_wI (z_wI (z_wI M16 18 (Int32.toNatClampNeg (zI M16 15 4)) p2) 19 (Int32.toNatClampNeg (zI M16 15 4)) p3) 20 (Int32.toNatClampNeg (zI M16 15 4)) p5) 24 (Int32.toNatClampNeg (zI M16 15 4)) p4) 15 13 ((zI M16 15 13) + p4)) 15 4)] (z_wI (z_wI (z_wI (z_wI (z_wI M16 18 (Int32.toNatClampNeg (zI M16 15 4)) p2) 19 (Int32.toNatClampNeg (zI M16 15 4)) p3) 20 (Int32.toNatClampNeg (zI M16 15 4)) p5) 24 (Int32.toNatClampNeg (zI M16 15 4)) p4) 15 13 ((zI M16 15 13) + p4))) (fun M19 => bif z_ix p1 20 then bif z_ix ((400 * p1) + (zI M19 16 (Int32.toNatClampNeg p1))) 8000 then bif z_ix p1 20 then bif z_ix p1 20 then bif z_ix p1 20 then z_bI (z_den zQ d mQ_well [.ref 15, .int ((zI (z_wI (z_wI (z_wI M19 17 (Int32.toNatClampNeg ((400 * p1) + (zI M19 16 (Int32.toNatClampNeg p1)))) (zI M19 15 4)) 15 4 ((zI M19 15 4) + 1)) 16 (Int32.toNatClampNeg p1) ((zI M19 16 (Int32.toNatClampNeg p1)) + 1)) 16 (Int32.toNatClampNeg p1)) - 1)] (z_wI (z_wI (z_wI M19 17 (Int32.toNatClampNeg ((400 * p1) + (zI M19 16 (Int32.toNatClampNeg p1)))) (zI M19 15 4)) 15 4 ((zI M19 15 4) + 1)) 16 (Int32.toNatClampNeg p1) ((zI M19 16 (Int32.toNatClampNeg p1)) + 1))) (fun x20 M21 => some (some (.int x20), M21)) else none else none else none else none else none) else none else none else none else none) else (z_bI (z_den zQ d mQ_finds [.ref 15, .int 3] M16) (fun x22 M23 => some (some (.int x22), M23)))) else (z_bI (z_den zQ d mQ_no [.ref 15, .int (-2)] M16) (fun x24 M25 => some (some (.int x24), M25))))) else (z_bI (z_den zQ d mQ_no [.ref 15, .int (-3)] M16) (fun x26 M27 => some (some (.int x26), M27)))) else (z_bI (z_den zQ d mQ_no [.ref 15, .int (-1)] M16) (fun x28 M29 => some (some (.int x28), M29))))))))))) :=
  (z_J_eq zQ (d + 1) mQ_strip tQ_strip [] hQ_strip.1 hQ_strip.2 124 0 (z_ent mQ_strip [.ref 15, .int p1, .int p2, .int p3, .int p4, .int p5] M)).trans rfl
set_option maxRecDepth 100000 in
set_option maxHeartbeats 4000000 in
theorem hQ_bars : z_tab mQ_bars = tQ_bars ∧ z_inc tQ_bars 0 = true := ⟨rfl, by decide +kernel⟩
set_option maxRecDepth 100000 in
set_option maxHeartbeats 4000000 in
theorem B_Q_bars (d : Nat) (p1 : Int32) (p2 : Int32) (M : zM) : z_den zQ (d + 1) mQ_bars [.ref 15, .int p1, .int p2] M = z_bI (z_den zQ d mQ_isStrip [.ref 15, .int p1, .int p2] M) (fun x1 M2 => bif z_ne x1 0 then (bif z_eq (zI M2 15 36) 0 then (z_bI (z_den zQ d mQ_poolOf [.ref 15, .int p1, .int p2] M2) (fun x3 M4 => bif z_ix x3 400 then bif z_eq (zI M4 21 (Int32.toNatClampNeg x3)) 0 then (z_bI (z_den zQ d mQ_well [.ref 15, .int 0] M4) (fun x5 M6 => some (some (.int x5), M6))) else (z_bI (z_den zQ d mQ_finds [.ref 15, .int 1] M4) (fun x7 M8 => some (some (.int x7), M8))) else none)) else (z_bI (z_den zQ d mQ_no [.ref 15, .int (-3)] M2) (fun x9 M10 => some (some (.int x9), M10)))) else (z_bI (z_den zQ d mQ_no [.ref 15, .int (-1)] M2) (fun x11 M12 => some (some (.int x11), M12)))) :=
  (z_J_eq zQ (d + 1) mQ_bars tQ_bars [] hQ_bars.1 hQ_bars.2 33 0 (z_ent mQ_bars [.ref 15, .int p1, .int p2] M)).trans rfl
set_option maxRecDepth 100000 in
set_option maxHeartbeats 4000000 in
theorem hQ_punch : z_tab mQ_punch = tQ_punch ∧ z_inc tQ_punch 0 = true := ⟨rfl, by decide +kernel⟩
set_option maxRecDepth 100000 in
set_option maxHeartbeats 4000000 in
theorem B_Q_punch (d : Nat) (p1 : Int32) (p2 : Int32) (p3 : Int32) (p4 : Int32) (M : zM) : z_den zQ (d + 1) mQ_punch [.ref 15, .int p1, .int p2, .int p3, .int p4] M = z_bI (z_den zQ d mQ_bars [.ref 15, .int p1, .int p2] M) (fun x1 M2 => bif z_le 0 x1 then (z_bI (z_den zQ d mQ_poolOf [.ref 15, .int p1, .int p2] M2) (fun x3 M4 => bif z_ix x3 400 then z_bI (z_den zQ d mQ_within [.int p3, .int 0, .int ((zI M4 24 (Int32.toNatClampNeg x3)) - 1)] M4) (fun x5 M6 => bif z_ne x5 0 then (z_bI (z_den zQ d mQ_findingOf [.ref 15, .int x3] M6) (fun x7 M8 => bif z_ne x7 0 then (bif z_ix x3 400 then z_bI (z_den zQ d mQ_low [.int (zI M8 18 (Int32.toNatClampNeg x3)), .int p4] M8) (fun x9 M10 => bif z_ix ((256 * x3) + p3) 102400 then bif z_eq 0 0 then (z_bI (z_den zQ d mQ_well [.ref 15, .int 1] (z_wI M10 25 (Int32.toNatClampNeg ((256 * x3) + p3)) x9)) (fun x11 M12 => some (some (.int x11), M12))) else (z_bV (z_den zQ d mQ_sealIt [.ref 15, .int x3] (z_wI M10 25 (Int32.toNatClampNeg ((256 * x3) + p3)) x9)) (fun M13 => z_bI (z_den zQ d mQ_well [.ref 15, .int 1] M13) (fun x14 M15 => some (some (.int x14), M15)))) else none) else none) else (bif z_ix x3 400 then z_bI (z_den zQ d mQ_low [.int (zI M8 18 (Int32.toNatClampNeg x3)), .int p4] M8) (fun x16 M17 => bif z_ix ((256 * x3) + p3) 102400 then bif z_eq 1 0 then (z_bI (z_den zQ d mQ_well [.ref 15, .int 1] (z_wI M17 25 (Int32.toNatClampNeg ((256 * x3) + p3)) x16)) (fun x18 M19 => some (some (.int x18), M19))) else (z_bV (z_den zQ d mQ_sealIt [.ref 15, .int x3] (z_wI M17 25 (Int32.toNatClampNeg ((256 * x3) + p3)) x16)) (fun M20 => z_bI (z_den zQ d mQ_well [.ref 15, .int 1] M20) (fun x21 M22 => some (some (.int x21), M22)))) else none) else none))) else (z_bI (z_den zQ d mQ_finds [.ref 15, .int 2] M6) (fun x23 M24 => some (some (.int x23), M24)))) else none)) else (some (some (.int x1), M2))) :=
  (z_J_eq zQ (d + 1) mQ_punch tQ_punch [] hQ_punch.1 hQ_punch.2 60 0 (z_ent mQ_punch [.ref 15, .int p1, .int p2, .int p3, .int p4] M)).trans rfl
set_option maxRecDepth 100000 in
set_option maxHeartbeats 4000000 in
theorem hQ_seal : z_tab mQ_seal = tQ_seal ∧ z_inc tQ_seal 0 = true := ⟨rfl, by decide +kernel⟩
set_option maxRecDepth 100000 in
set_option maxHeartbeats 4000000 in
theorem B_Q_seal (d : Nat) (p1 : Int32) (p2 : Int32) (M : zM) : z_den zQ (d + 1) mQ_seal [.ref 15, .int p1, .int p2] M = z_bI (z_den zQ d mQ_bars [.ref 15, .int p1, .int p2] M) (fun x1 M2 => bif z_le 0 x1 then (z_bI (z_den zQ d mQ_poolOf [.ref 15, .int p1, .int p2] M2) (fun x3 M4 => z_bV (z_den zQ d mQ_sealIt [.ref 15, .int x3] M4) (fun M5 => z_bI (z_den zQ d mQ_poolOf [.ref 15, .int p1, .int p2] M5) (fun x6 M7 => bif z_ix x6 400 then z_bI (z_den zQ d mQ_well [.ref 15, .int (zI M7 24 (Int32.toNatClampNeg x6))] M7) (fun x8 M9 => some (some (.int x8), M9)) else none)))) else (some (some (.int x1), M2))) :=
  (z_J_eq zQ (d + 1) mQ_seal tQ_seal [] hQ_seal.1 hQ_seal.2 26 0 (z_ent mQ_seal [.ref 15, .int p1, .int p2] M)).trans rfl
set_option maxRecDepth 100000 in
set_option maxHeartbeats 4000000 in
theorem hQ_empty : z_tab mQ_empty = tQ_empty ∧ z_inc tQ_empty 0 = true := ⟨rfl, by decide +kernel⟩
set_option maxRecDepth 100000 in
set_option maxHeartbeats 4000000 in
theorem B_Q_empty (d : Nat) (p1 : Int32) (M : zM) : z_den zQ (d + 1) mQ_empty [.ref 15, .int p1] M = bif z_ix p1 400 then bif z_ix p1 400 then bif z_ix p1 400 then some (none, z_wI (z_wI (z_wI M 15 13 ((zI M 15 13) - (zI M 24 (Int32.toNatClampNeg p1)))) 24 (Int32.toNatClampNeg p1) 0) 22 (Int32.toNatClampNeg p1) 0) else none else none else none :=
  (z_J_eq zQ (d + 1) mQ_empty tQ_empty [] hQ_empty.1 hQ_empty.2 21 0 (z_ent mQ_empty [.ref 15, .int p1] M)).trans rfl
set_option maxRecDepth 100000 in
set_option maxHeartbeats 4000000 in
theorem hQ_lose : z_tab mQ_lose = tQ_lose ∧ z_inc tQ_lose 0 = true := ⟨rfl, by decide +kernel⟩
set_option maxRecDepth 100000 in
set_option maxHeartbeats 4000000 in
theorem B_Q_lose (d : Nat) (p1 : Int32) (p2 : Int32) (M : zM) : z_den zQ (d + 1) mQ_lose [.ref 15, .int p1, .int p2] M = z_bI (z_den zQ d mQ_isStrip [.ref 15, .int p1, .int p2] M) (fun x1 M2 => bif z_ne x1 0 then (bif z_eq (zI M2 15 36) 0 then (z_bI (z_den zQ d mQ_poolOf [.ref 15, .int p1, .int p2] M2) (fun x3 M4 => bif z_ix x3 400 then bif z_eq (zI M4 21 (Int32.toNatClampNeg x3)) 0 then (z_bV (z_den zQ d mQ_empty [.ref 15, .int x3] M4) (fun M5 => bif z_ix x3 400 then z_bI (z_den zQ d mQ_well [.ref 15, .int 1] (z_wI M5 21 (Int32.toNatClampNeg x3) 1)) (fun x6 M7 => some (some (.int x6), M7)) else none)) else (z_bI (z_den zQ d mQ_well [.ref 15, .int 0] M4) (fun x8 M9 => some (some (.int x8), M9))) else none)) else (z_bI (z_den zQ d mQ_no [.ref 15, .int (-3)] M2) (fun x10 M11 => some (some (.int x10), M11)))) else (z_bI (z_den zQ d mQ_no [.ref 15, .int (-1)] M2) (fun x12 M13 => some (some (.int x12), M13)))) :=
  (z_J_eq zQ (d + 1) mQ_lose tQ_lose [] hQ_lose.1 hQ_lose.2 43 0 (z_ent mQ_lose [.ref 15, .int p1, .int p2] M)).trans rfl
set_option maxRecDepth 100000 in
set_option maxHeartbeats 4000000 in
theorem hQ_tear : z_tab mQ_tear = tQ_tear ∧ z_inc tQ_tear 0 = true := ⟨rfl, by decide +kernel⟩
set_option maxRecDepth 100000 in
set_option maxHeartbeats 4000000 in
theorem B_Q_tear (d : Nat) (p1 : Int32) (p2 : Int32) (p3 : Int32) (M : zM) : z_den zQ (d + 1) mQ_tear [.ref 15, .int p1, .int p2, .int p3] M = z_bI (z_den zQ d mQ_isStrip [.ref 15, .int p1, .int p2] M) (fun x1 M2 => bif z_eq x1 0 then (z_bI (z_den zQ d mQ_no [.ref 15, .int (-1)] M2) (fun x3 M4 => some (some (.int x3), M4))) else (bif z_le 0 p3 then (z_bI (z_den zQ d mQ_bars [.ref 15, .int p1, .int p2] M2) (fun x5 M6 => bif z_le 0 x5 then (z_bI (z_den zQ d mQ_poolOf [.ref 15, .int p1, .int p2] M6) (fun x7 M8 => bif z_ix x7 400 then bif z_le (zI M8 22 (Int32.toNatClampNeg x7)) p3 then (bif z_ix x7 400 then bif z_ix x7 400 then bif z_le 9 p3 then (bif z_ix x7 400 then z_bI (z_den zQ d mQ_width [.int (zI M8 18 (Int32.toNatClampNeg x7))] (z_wI M8 22 (Int32.toNatClampNeg x7) (zI M8 22 (Int32.toNatClampNeg x7)))) (fun x9 M10 => bif z_ne x9 0 then bif z_ix x7 400 then bif z_le ((p3 - 9) / x9) (zI M10 24 (Int32.toNatClampNeg x7)) then (bif z_ix x7 400 then bif z_ix x7 400 then z_bI (z_den zQ d mQ_well [.ref 15, .int ((p3 - 9) / x9)] (z_wI (z_wI M10 15 13 ((zI M10 15 13) - ((zI M10 24 (Int32.toNatClampNeg x7)) - ((p3 - 9) / x9)))) 24 (Int32.toNatClampNeg x7) ((p3 - 9) / x9))) (fun x11 M12 => some (some (.int x11), M12)) else none else none) else (bif z_ix x7 400 then bif z_ix x7 400 then bif z_ix x7 400 then z_bI (z_den zQ d mQ_well [.ref 15, .int (zI M10 24 (Int32.toNatClampNeg x7))] (z_wI (z_wI M10 15 13 ((zI M10 15 13) - ((zI M10 24 (Int32.toNatClampNeg x7)) - (zI M10 24 (Int32.toNatClampNeg x7))))) 24 (Int32.toNatClampNeg x7) (zI M10 24 (Int32.toNatClampNeg x7)))) (fun x13 M14 => some (some (.int x13), M14)) else none else none else none) else none else none) else none) else (bif z_ix x7 400 then bif z_le 0 (zI M8 24 (Int32.toNatClampNeg x7)) then (bif z_ix x7 400 then bif z_ix x7 400 then z_bI (z_den zQ d mQ_well [.ref 15, .int 0] (z_wI (z_wI (z_wI M8 22 (Int32.toNatClampNeg x7) (zI M8 22 (Int32.toNatClampNeg x7))) 15 13 ((zI M8 15 13) - ((zI M8 24 (Int32.toNatClampNeg x7)) - 0))) 24 (Int32.toNatClampNeg x7) 0)) (fun x15 M16 => some (some (.int x15), M16)) else none else none) else (bif z_ix x7 400 then bif z_ix x7 400 then bif z_ix x7 400 then z_bI (z_den zQ d mQ_well [.ref 15, .int (zI M8 24 (Int32.toNatClampNeg x7))] (z_wI (z_wI (z_wI M8 22 (Int32.toNatClampNeg x7) (zI M8 22 (Int32.toNatClampNeg x7))) 15 13 ((zI M8 15 13) - ((zI M8 24 (Int32.toNatClampNeg x7)) - (zI M8 24 (Int32.toNatClampNeg x7))))) 24 (Int32.toNatClampNeg x7) (zI M8 24 (Int32.toNatClampNeg x7)))) (fun x17 M18 => some (some (.int x17), M18)) else none else none else none) else none) else none else none) else (bif z_ix x7 400 then bif z_le 9 p3 then (bif z_ix x7 400 then z_bI (z_den zQ d mQ_width [.int (zI M8 18 (Int32.toNatClampNeg x7))] (z_wI M8 22 (Int32.toNatClampNeg x7) p3)) (fun x19 M20 => bif z_ne x19 0 then bif z_ix x7 400 then bif z_le ((p3 - 9) / x19) (zI M20 24 (Int32.toNatClampNeg x7)) then (bif z_ix x7 400 then bif z_ix x7 400 then z_bI (z_den zQ d mQ_well [.ref 15, .int ((p3 - 9) / x19)] (z_wI (z_wI M20 15 13 ((zI M20 15 13) - ((zI M20 24 (Int32.toNatClampNeg x7)) - ((p3 - 9) / x19)))) 24 (Int32.toNatClampNeg x7) ((p3 - 9) / x19))) (fun x21 M22 => some (some (.int x21), M22)) else none else none) else (bif z_ix x7 400 then bif z_ix x7 400 then bif z_ix x7 400 then z_bI (z_den zQ d mQ_well [.ref 15, .int (zI M20 24 (Int32.toNatClampNeg x7))] (z_wI (z_wI M20 15 13 ((zI M20 15 13) - ((zI M20 24 (Int32.toNatClampNeg x7)) - (zI M20 24 (Int32.toNatClampNeg x7))))) 24 (Int32.toNatClampNeg x7) (zI M20 24 (Int32.toNatClampNeg x7)))) (fun x23 M24 => some (some (.int x23), M24)) else none else none else none) else none else none) else none) else (bif z_ix x7 400 then bif z_le 0 (zI M8 24 (Int32.toNatClampNeg x7)) then (bif z_ix x7 400 then bif z_ix x7 400 then z_bI (z_den zQ d mQ_well [.ref 15, .int 0] (z_wI (z_wI (z_wI M8 22 (Int32.toNatClampNeg x7) p3) 15 13 ((zI M8 15 13) - ((zI M8 24 (Int32.toNatClampNeg x7)) - 0))) 24 (Int32.toNatClampNeg x7) 0)) (fun x25 M26 => some (some (.int x25), M26)) else none else none) else (bif z_ix x7 400 then bif z_ix x7 400 then bif z_ix x7 400 then z_bI (z_den zQ d mQ_well [.ref 15, .int (zI M8 24 (Int32.toNatClampNeg x7))] (z_wI (z_wI (z_wI M8 22 (Int32.toNatClampNeg x7) p3) 15 13 ((zI M8 15 13) - ((zI M8 24 (Int32.toNatClampNeg x7)) - (zI M8 24 (Int32.toNatClampNeg x7))))) 24 (Int32.toNatClampNeg x7) (zI M8 24 (Int32.toNatClampNeg x7)))) (fun x27 M28 => some (some (.int x27), M28)) else none else none else none) else none) else none) else none)) else (some (some (.int x5), M6)))) else (z_bI (z_den zQ d mQ_no [.ref 15, .int (-1)] M2) (fun x29 M30 => some (some (.int x29), M30))))) :=
  (z_J_eq zQ (d + 1) mQ_tear tQ_tear [] hQ_tear.1 hQ_tear.2 90 0 (z_ent mQ_tear [.ref 15, .int p1, .int p2, .int p3] M)).trans rfl
set_option maxRecDepth 100000 in
set_option maxHeartbeats 4000000 in
theorem hQ_damage : z_tab mQ_damage = tQ_damage ∧ z_inc tQ_damage 0 = true := ⟨rfl, by decide +kernel⟩
set_option maxRecDepth 100000 in
set_option maxHeartbeats 4000000 in
theorem B_Q_damage (d : Nat) (p1 : Int32) (p2 : Int32) (p3 : Int32) (p4 : Int32) (M : zM) : z_den zQ (d + 1) mQ_damage [.ref 15, .int p1, .int p2, .int p3, .int p4] M = z_bI (z_den zQ d mQ_bars [.ref 15, .int p1, .int p2] M) (fun x1 M2 => bif z_le 0 x1 then (z_bI (z_den zQ d mQ_poolOf [.ref 15, .int p1, .int p2] M2) (fun x3 M4 => z_bI (z_den zQ d mQ_bytesOf [.ref 15, .int x3] M4) (fun x5 M6 => z_bI (z_den zQ d mQ_within [.int p3, .int 0, .int (x5 - 1)] M6) (fun x7 M8 => bif z_ne x7 0 then (bif z_le 9 p3 then (bif z_ix x3 400 then z_bI (z_den zQ d mQ_width [.int (zI M8 18 (Int32.toNatClampNeg x3))] M8) (fun x9 M10 => bif z_ne x9 0 then bif z_ix x3 400 then bif z_ix ((256 * x3) + ((p3 - 9) / x9)) 102400 then bif z_ne x9 0 then z_bI (z_den zQ d mQ_low [.int (zI M10 18 (Int32.toNatClampNeg x3)), .int ((zI M10 25 (Int32.toNatClampNeg ((256 * x3) + ((p3 - 9) / x9)))) ^^^ ((p4 &&& 255) <<< ((8 * ((x9 - 1) - ((p3 - 9) - (p3 - 9) / x9 * x9))) &&& 31)))] M10) (fun x11 M12 => bif z_ix ((256 * x3) + ((p3 - 9) / x9)) 102400 then z_bI (z_den zQ d mQ_byteAt [.ref 15, .int x3, .int p3] (z_wI M12 25 (Int32.toNatClampNeg ((256 * x3) + ((p3 - 9) / x9))) x11)) (fun x13 M14 => z_bI (z_den zQ d mQ_well [.ref 15, .int (x13 &&& 255)] M14) (fun x15 M16 => some (some (.int x15), M16))) else none) else none else none else none else none) else none) else (bif z_ix ((9 * x3) + p3) 3600 then bif z_ix ((9 * x3) + p3) 3600 then z_bI (z_den zQ d mQ_byteAt [.ref 15, .int x3, .int p3] (z_wI M8 23 (Int32.toNatClampNeg ((9 * x3) + p3)) ((Int32.toInt8 ((zI M8 23 (Int32.toNatClampNeg ((9 * x3) + p3))) ^^^ p4)).toInt32))) (fun x17 M18 => z_bI (z_den zQ d mQ_well [.ref 15, .int (x17 &&& 255)] M18) (fun x19 M20 => some (some (.int x19), M20))) else none else none)) else (z_bI (z_den zQ d mQ_finds [.ref 15, .int 2] M8) (fun x21 M22 => some (some (.int x21), M22))))))) else (some (some (.int x1), M2))) :=
  (z_J_eq zQ (d + 1) mQ_damage tQ_damage [] hQ_damage.1 hQ_damage.2 105 0 (z_ent mQ_damage [.ref 15, .int p1, .int p2, .int p3, .int p4] M)).trans rfl
set_option maxRecDepth 100000 in
set_option maxHeartbeats 4000000 in
theorem hQ_asks : z_tab mQ_asks = tQ_asks ∧ z_inc tQ_asks 0 = true := ⟨rfl, by decide +kernel⟩
set_option maxRecDepth 100000 in
set_option maxHeartbeats 4000000 in
theorem B_Q_asks (d : Nat) (p1 : Int32) (p2 : Int32) (M : zM) : z_den zQ (d + 1) mQ_asks [.ref 15, .int p1, .int p2] M = z_bI (z_den zQ d mQ_isStrip [.ref 15, .int p1, .int p2] M) (fun x1 M2 => bif z_ne x1 0 then (z_bI (z_den zQ d mQ_poolOf [.ref 15, .int p1, .int p2] M2) (fun x3 M4 => bif z_ix x3 400 then bif z_eq (zI M4 21 (Int32.toNatClampNeg x3)) 0 then (z_bI (z_den zQ d mQ_well [.ref 15, .int 0] M4) (fun x5 M6 => some (some (.int x5), M6))) else (z_bI (z_den zQ d mQ_finds [.ref 15, .int 1] M4) (fun x7 M8 => some (some (.int x7), M8))) else none)) else (z_bI (z_den zQ d mQ_no [.ref 15, .int (-1)] M2) (fun x9 M10 => some (some (.int x9), M10)))) :=
  (z_J_eq zQ (d + 1) mQ_asks tQ_asks [] hQ_asks.1 hQ_asks.2 26 0 (z_ent mQ_asks [.ref 15, .int p1, .int p2] M)).trans rfl
set_option maxRecDepth 100000 in
set_option maxHeartbeats 4000000 in
theorem hQ_byteOf : z_tab mQ_byteOf = tQ_byteOf ∧ z_inc tQ_byteOf 0 = true := ⟨rfl, by decide +kernel⟩
set_option maxRecDepth 100000 in
set_option maxHeartbeats 4000000 in
theorem B_Q_byteOf (d : Nat) (p1 : Int32) (p2 : Int32) (p3 : Int32) (M : zM) : z_den zQ (d + 1) mQ_byteOf [.ref 15, .int p1, .int p2, .int p3] M = z_bI (z_den zQ d mQ_asks [.ref 15, .int p1, .int p2] M) (fun x1 M2 => bif z_le 0 x1 then (z_bI (z_den zQ d mQ_poolOf [.ref 15, .int p1, .int p2] M2) (fun x3 M4 => z_bI (z_den zQ d mQ_bytesOf [.ref 15, .int x3] M4) (fun x5 M6 => z_bI (z_den zQ d mQ_within [.int p3, .int 0, .int (x5 - 1)] M6) (fun x7 M8 => bif z_eq x7 0 then (z_bI (z_den zQ d mQ_finds [.ref 15, .int 2] M8) (fun x9 M10 => some (some (.int x9), M10))) else (z_bI (z_den zQ d mQ_byteAt [.ref 15, .int x3, .int p3] M8) (fun x11 M12 => z_bI (z_den zQ d mQ_well [.ref 15, .int (x11 &&& 255)] M12) (fun x13 M14 => some (some (.int x13), M14)))))))) else (some (some (.int x1), M2))) :=
  (z_J_eq zQ (d + 1) mQ_byteOf tQ_byteOf [] hQ_byteOf.1 hQ_byteOf.2 37 0 (z_ent mQ_byteOf [.ref 15, .int p1, .int p2, .int p3] M)).trans rfl
set_option maxRecDepth 100000 in
set_option maxHeartbeats 4000000 in
theorem hQ_head : z_tab mQ_head = tQ_head ∧ z_inc tQ_head 0 = true := ⟨rfl, by decide +kernel⟩
set_option maxRecDepth 100000 in
set_option maxHeartbeats 4000000 in
theorem B_Q_head (d : Nat) (p1 : Int32) (p2 : Int32) (p3 : Int32) (M : zM) : z_den zQ (d + 1) mQ_head [.ref 15, .int p1, .int p2, .int p3] M = z_bI (z_den zQ d mQ_within [.int p3, .int 0, .int 3] M) (fun x1 M2 => bif z_ne x1 0 then (z_bI (z_den zQ d mQ_asks [.ref 15, .int p1, .int p2] M2) (fun x3 M4 => bif z_le 0 x3 then (z_bI (z_den zQ d mQ_poolOf [.ref 15, .int p1, .int p2] M4) (fun x5 M6 => bif z_ne p3 0 then (bif z_ne p3 1 then (bif z_ne p3 2 then (bif z_ix x5 400 then bif z_le 9 (zI M6 22 (Int32.toNatClampNeg x5)) then (bif z_ne p3 0 then (bif z_le 3 p3 then (z_bI (z_den zQ d mQ_headSum [.ref 15, .int x5] M6) (fun x7 M8 => some (some (.long (Int32.toInt64 x7)), M8))) else (z_bI (z_den zQ d mQ_headShort [.ref 15, .int x5, .int ((2 * p3) - 1)] M6) (fun x9 M10 => some (some (.long (Int32.toInt64 x9)), M10)))) else (bif z_ix (9 * x5) 3600 then some (some (.long (Int32.toInt64 (zI M6 23 (Int32.toNatClampNeg (9 * x5))))), M6) else none)) else (z_bI (z_den zQ d mQ_finds [.ref 15, .int 2] M6) (fun x11 M12 => some (some (.long 0), M12))) else none) else (bif z_ix x5 400 then bif z_le 5 (zI M6 22 (Int32.toNatClampNeg x5)) then (bif z_ne p3 0 then (bif z_le 3 p3 then (z_bI (z_den zQ d mQ_headSum [.ref 15, .int x5] M6) (fun x13 M14 => some (some (.long (Int32.toInt64 x13)), M14))) else (z_bI (z_den zQ d mQ_headShort [.ref 15, .int x5, .int ((2 * p3) - 1)] M6) (fun x15 M16 => some (some (.long (Int32.toInt64 x15)), M16)))) else (bif z_ix (9 * x5) 3600 then some (some (.long (Int32.toInt64 (zI M6 23 (Int32.toNatClampNeg (9 * x5))))), M6) else none)) else (z_bI (z_den zQ d mQ_finds [.ref 15, .int 2] M6) (fun x17 M18 => some (some (.long 0), M18))) else none)) else (bif z_ix x5 400 then bif z_le 3 (zI M6 22 (Int32.toNatClampNeg x5)) then (bif z_ne p3 0 then (bif z_le 3 p3 then (z_bI (z_den zQ d mQ_headSum [.ref 15, .int x5] M6) (fun x19 M20 => some (some (.long (Int32.toInt64 x19)), M20))) else (z_bI (z_den zQ d mQ_headShort [.ref 15, .int x5, .int ((2 * p3) - 1)] M6) (fun x21 M22 => some (some (.long (Int32.toInt64 x21)), M22)))) else (bif z_ix (9 * x5) 3600 then some (some (.long (Int32.toInt64 (zI M6 23 (Int32.toNatClampNeg (9 * x5))))), M6) else none)) else (z_bI (z_den zQ d mQ_finds [.ref 15, .int 2] M6) (fun x23 M24 => some (some (.long 0), M24))) else none)) else (bif z_ix x5 400 then bif z_le 1 (zI M6 22 (Int32.toNatClampNeg x5)) then (bif z_ne p3 0 then (bif z_le 3 p3 then (z_bI (z_den zQ d mQ_headSum [.ref 15, .int x5] M6) (fun x25 M26 => some (some (.long (Int32.toInt64 x25)), M26))) else (z_bI (z_den zQ d mQ_headShort [.ref 15, .int x5, .int ((2 * p3) - 1)] M6) (fun x27 M28 => some (some (.long (Int32.toInt64 x27)), M28)))) else (bif z_ix (9 * x5) 3600 then some (some (.long (Int32.toInt64 (zI M6 23 (Int32.toNatClampNeg (9 * x5))))), M6) else none)) else (z_bI (z_den zQ d mQ_finds [.ref 15, .int 2] M6) (fun x29 M30 => some (some (.long 0), M30))) else none))) else (some (some (.long 0), M4)))) else (z_bI (z_den zQ d mQ_no [.ref 15, .int (-1)] M2) (fun x31 M32 => some (some (.long 0), M32)))) :=
  (z_J_eq zQ (d + 1) mQ_head tQ_head [] hQ_head.1 hQ_head.2 80 0 (z_ent mQ_head [.ref 15, .int p1, .int p2, .int p3] M)).trans rfl
set_option maxRecDepth 100000 in
set_option maxHeartbeats 4000000 in
theorem hQ_sum : z_tab mQ_sum = tQ_sum ∧ z_inc tQ_sum 0 = true := ⟨rfl, by decide +kernel⟩
set_option maxRecDepth 100000 in
set_option maxHeartbeats 4000000 in
theorem B_Q_sum (d : Nat) (p1 : Int32) (p2 : Int32) (M : zM) : z_den zQ (d + 1) mQ_sum [.ref 15, .int p1, .int p2] M = z_bI (z_den zQ d mQ_asks [.ref 15, .int p1, .int p2] M) (fun x1 M2 => bif z_le 0 x1 then (z_bI (z_den zQ d mQ_poolOf [.ref 15, .int p1, .int p2] M2) (fun x3 M4 => bif z_ix x3 400 then bif z_le 5 (zI M4 22 (Int32.toNatClampNeg x3)) then (z_bI (z_den zQ d mQ_sumOf [.ref 15, .int x3] M4) (fun x5 M6 => some (some (.long (Int32.toInt64 x5)), M6))) else (z_bI (z_den zQ d mQ_finds [.ref 15, .int 2] M4) (fun x7 M8 => some (some (.long 0), M8))) else none)) else (some (some (.long 0), M2))) :=
  (z_J_eq zQ (d + 1) mQ_sum tQ_sum [] hQ_sum.1 hQ_sum.2 30 0 (z_ent mQ_sum [.ref 15, .int p1, .int p2] M)).trans rfl
set_option maxRecDepth 100000 in
set_option maxHeartbeats 4000000 in
theorem hQ_read : z_tab mQ_read = tQ_read ∧ z_inc tQ_read 0 = true := ⟨rfl, by decide +kernel⟩
set_option maxRecDepth 100000 in
set_option maxHeartbeats 4000000 in
theorem B_Q_read (d : Nat) (p1 : Int32) (p2 : Int32) (M : zM) : z_den zQ (d + 1) mQ_read [.ref 15, .int p1, .int p2] M = z_bI (z_den zQ d mQ_isStrip [.ref 15, .int p1, .int p2] M) (fun x1 M2 => bif z_ne x1 0 then (z_bI (z_den zQ d mQ_poolOf [.ref 15, .int p1, .int p2] M2) (fun x3 M4 => z_bI (z_den zQ d mQ_findingOf [.ref 15, .int x3] M4) (fun x5 M6 => bif z_le x5 0 then (z_bI (z_den zQ d mQ_poolOf [.ref 15, .int p1, .int p2] M6) (fun x7 M8 => bif z_ix x7 400 then z_bI (z_den zQ d mQ_well [.ref 15, .int (zI M8 24 (Int32.toNatClampNeg x7))] M8) (fun x9 M10 => some (some (.int x9), M10)) else none)) else (z_bI (z_den zQ d mQ_finds [.ref 15, .int x5] M6) (fun x11 M12 => some (some (.int x11), M12)))))) else (z_bI (z_den zQ d mQ_no [.ref 15, .int (-1)] M2) (fun x13 M14 => some (some (.int x13), M14)))) :=
  (z_J_eq zQ (d + 1) mQ_read tQ_read [] hQ_read.1 hQ_read.2 33 0 (z_ent mQ_read [.ref 15, .int p1, .int p2] M)).trans rfl
set_option maxRecDepth 100000 in
set_option maxHeartbeats 4000000 in
theorem hQ_whole : z_tab mQ_whole = tQ_whole ∧ z_inc tQ_whole 0 = true := ⟨rfl, by decide +kernel⟩
set_option maxRecDepth 100000 in
set_option maxHeartbeats 4000000 in
theorem L_Q_whole_18 (d : Nat) (l1 : Int32) (l2 : Int32) (l3 : Int32) (M : zM) : z_denF zQ (d + 1) mQ_whole (18, [some (.ref 15), some (.int l1), some (.int l2), some (.int l3)], [], M) = bif z_ix l1 20 then bif z_le (zI M 16 (Int32.toNatClampNeg l1)) l3 then (z_bI (z_den zQ d mQ_well [.ref 15, .int l2] M) (fun x1 M2 => some (some (.int x1), M2))) else (z_bI (z_den zQ d mQ_poolOf [.ref 15, .int l1, .int l3] M) (fun x3 M4 => z_bI (z_den zQ d mQ_findingOf [.ref 15, .int x3] M4) (fun x5 M6 => bif z_ne x5 0 then (z_denF zQ (d + 1) mQ_whole (18, [some (.ref 15), some (.int l1), some (.int (l2 + 0)), some (.int (l3 + 1))], [], M6)) else (z_denF zQ (d + 1) mQ_whole (18, [some (.ref 15), some (.int l1), some (.int (l2 + 1)), some (.int (l3 + 1))], [], M6))))) else none :=
  (z_J_eq zQ (d + 1) mQ_whole tQ_whole [18] hQ_whole.1 hQ_whole.2 38 18 _).trans rfl
set_option maxRecDepth 100000 in
set_option maxHeartbeats 4000000 in
theorem B_Q_whole (d : Nat) (p1 : Int32) (M : zM) : z_den zQ (d + 1) mQ_whole [.ref 15, .int p1] M = z_bI (z_den zQ d mQ_isRoll [.ref 15, .int p1] M) (fun x1 M2 => bif z_ne x1 0 then (z_denF zQ (d + 1) mQ_whole (18, [some (.ref 15), some (.int p1), some (.int 0), some (.int 0)], [], M2)) else (z_bI (z_den zQ d mQ_no [.ref 15, .int (-1)] M2) (fun x3 M4 => some (some (.int x3), M4)))) :=
  (z_J_eq zQ (d + 1) mQ_whole tQ_whole [18] hQ_whole.1 hQ_whole.2 38 0 (z_ent mQ_whole [.ref 15, .int p1] M)).trans rfl
set_option maxRecDepth 100000 in
set_option maxHeartbeats 4000000 in
theorem hQ_finding : z_tab mQ_finding = tQ_finding ∧ z_inc tQ_finding 0 = true := ⟨rfl, by decide +kernel⟩
set_option maxRecDepth 100000 in
set_option maxHeartbeats 4000000 in
theorem L_Q_finding_23 (d : Nat) (l1 : Int32) (l2 : Int32) (l3 : Int32) (l4 : Int32) (M : zM) : z_denF zQ (d + 1) mQ_finding (23, [some (.ref 15), some (.int l1), some (.int l2), some (.int l3), some (.int l4)], [], M) = bif z_ix l1 20 then bif z_le (zI M 16 (Int32.toNatClampNeg l1)) l4 then (z_bI (z_den zQ d mQ_well [.ref 15, .int (-4)] M) (fun x1 M2 => some (some (.int x1), M2))) else (z_bI (z_den zQ d mQ_poolOf [.ref 15, .int l1, .int l4] M) (fun x3 M4 => z_bI (z_den zQ d mQ_findingOf [.ref 15, .int x3] M4) (fun x5 M6 => bif z_le x5 0 then (z_denF zQ (d + 1) mQ_finding (23, [some (.ref 15), some (.int l1), some (.int l2), some (.int l3), some (.int (l4 + 1))], [], M6)) else (bif z_ne l3 0 then (z_denF zQ (d + 1) mQ_finding (23, [some (.ref 15), some (.int l1), some (.int l2), some (.int (l3 + (-1))), some (.int (l4 + 1))], [], M6)) else (z_bI (z_den zQ d mQ_well [.ref 15, .int l4] M6) (fun x7 M8 => some (some (.int x7), M8))))))) else none :=
  (z_J_eq zQ (d + 1) mQ_finding tQ_finding [23] hQ_finding.1 hQ_finding.2 41 23 _).trans rfl
set_option maxRecDepth 100000 in
set_option maxHeartbeats 4000000 in
theorem B_Q_finding (d : Nat) (p1 : Int32) (p2 : Int32) (M : zM) : z_den zQ (d + 1) mQ_finding [.ref 15, .int p1, .int p2] M = z_bI (z_den zQ d mQ_isRoll [.ref 15, .int p1] M) (fun x1 M2 => bif z_eq x1 0 then (z_bI (z_den zQ d mQ_no [.ref 15, .int (-1)] M2) (fun x3 M4 => some (some (.int x3), M4))) else (bif z_le 0 p2 then (z_denF zQ (d + 1) mQ_finding (23, [some (.ref 15), some (.int p1), some (.int p2), some (.int p2), some (.int 0)], [], M2)) else (z_bI (z_den zQ d mQ_no [.ref 15, .int (-1)] M2) (fun x5 M6 => some (some (.int x5), M6))))) :=
  (z_J_eq zQ (d + 1) mQ_finding tQ_finding [23] hQ_finding.1 hQ_finding.2 41 0 (z_ent mQ_finding [.ref 15, .int p1, .int p2] M)).trans rfl
set_option maxRecDepth 100000 in
set_option maxHeartbeats 4000000 in
theorem hQ_told : z_tab mQ_told = tQ_told ∧ z_inc tQ_told 0 = true := ⟨rfl, by decide +kernel⟩
set_option maxRecDepth 100000 in
set_option maxHeartbeats 4000000 in
theorem B_Q_told (d : Nat) (p1 : Int32) (p2 : Int32) (p3 : Int32) (M : zM) : z_den zQ (d + 1) mQ_told [.ref 15, .int p1, .int p2, .int p3] M = z_bI (z_den zQ d mQ_isStrip [.ref 15, .int p1, .int p2] M) (fun x1 M2 => bif z_eq x1 0 then (z_bI (z_den zQ d mQ_no [.ref 15, .int (-1)] M2) (fun x3 M4 => some (some (.int x3), M4))) else (z_bI (z_den zQ d mQ_within [.int p3, .int 0, .int 3] M2) (fun x5 M6 => bif z_ne x5 0 then (z_bI (z_den zQ d mQ_poolOf [.ref 15, .int p1, .int p2] M6) (fun x7 M8 => bif z_ne p3 0 then (bif z_ne p3 1 then (bif z_ne p3 2 then (bif z_ix x7 400 then z_bI (z_den zQ d mQ_well [.ref 15, .int (zI M8 24 (Int32.toNatClampNeg x7))] M8) (fun x9 M10 => some (some (.int x9), M10)) else none) else (bif z_ix x7 400 then z_bI (z_den zQ d mQ_well [.ref 15, .int (zI M8 20 (Int32.toNatClampNeg x7))] M8) (fun x11 M12 => some (some (.int x11), M12)) else none)) else (bif z_ix x7 400 then z_bI (z_den zQ d mQ_well [.ref 15, .int (zI M8 19 (Int32.toNatClampNeg x7))] M8) (fun x13 M14 => some (some (.int x13), M14)) else none)) else (bif z_ix x7 400 then z_bI (z_den zQ d mQ_well [.ref 15, .int (zI M8 18 (Int32.toNatClampNeg x7))] M8) (fun x15 M16 => some (some (.int x15), M16)) else none))) else (z_bI (z_den zQ d mQ_no [.ref 15, .int (-1)] M6) (fun x17 M18 => some (some (.int x17), M18)))))) :=
  (z_J_eq zQ (d + 1) mQ_told tQ_told [] hQ_told.1 hQ_told.2 50 0 (z_ent mQ_told [.ref 15, .int p1, .int p2, .int p3] M)).trans rfl
set_option maxRecDepth 100000 in
set_option maxHeartbeats 4000000 in
theorem hQ_isInstrument : z_tab mQ_isInstrument = tQ_isInstrument ∧ z_inc tQ_isInstrument 0 = true := ⟨rfl, by decide +kernel⟩
set_option maxRecDepth 100000 in
set_option maxHeartbeats 4000000 in
theorem B_Q_isInstrument (d : Nat) (p1 : Int32) (M : zM) : z_den zQ (d + 1) mQ_isInstrument [.ref 15, .int p1] M = z_bI (z_den zQ d mQ_within [.int p1, .int 0, .int ((zI M 15 14) - 1)] M) (fun x1 M2 => bif decide (x1 &&& 1 = x1) then some (some (.int x1), M2) else none) :=
  (z_J_eq zQ (d + 1) mQ_isInstrument tQ_isInstrument [] hQ_isInstrument.1 hQ_isInstrument.2 9 0 (z_ent mQ_isInstrument [.ref 15, .int p1] M)).trans rfl
set_option maxRecDepth 100000 in
set_option maxHeartbeats 4000000 in
theorem hQ_instrument : z_tab mQ_instrument = tQ_instrument ∧ z_inc tQ_instrument 0 = true := ⟨rfl, by decide +kernel⟩
set_option maxRecDepth 100000 in
set_option maxHeartbeats 4000000 in
theorem B_Q_instrument (d : Nat) (p1 : Int32) (M : zM) : z_den zQ (d + 1) mQ_instrument [.ref 15, .int p1] M = z_bI (z_den zQ d mQ_within [.int p1, .int 0, .int 6] M) (fun x1 M2 => bif z_ne x1 0 then (bif z_eq (zI M2 15 36) 0 then (bif z_ne (zI M2 15 14) 60 then (bif z_ix (zI M2 15 14) 60 then bif z_ix (zI M2 15 14) 60 then bif z_ix (zI M2 15 14) 60 then z_bI (z_den zQ d mQ_well [.ref 15, .int ((zI (z_wI (z_wI (z_wD (z_wI M2 26 (Int32.toNatClampNeg (zI M2 15 14)) p1) 32 (Int32.toNatClampNeg (zI M2 15 14)) 4607182418800017408) 29 (Int32.toNatClampNeg (zI M2 15 14)) 1) 15 14 ((zI M2 15 14) + 1)) 15 14) - 1)] (z_wI (z_wI (z_wD (z_wI M2 26 (Int32.toNatClampNeg (zI M2 15 14)) p1) 32 (Int32.toNatClampNeg (zI M2 15 14)) 4607182418800017408) 29 (Int32.toNatClampNeg (zI M2 15 14)) 1) 15 14 ((zI M2 15 14) + 1))) (fun x3 M4 => some (some (.int x3), M4)) else none else none else none) else (z_bI (z_den zQ d mQ_no [.ref 15, .int (-2)] M2) (fun x5 M6 => some (some (.int x5), M6)))) else (z_bI (z_den zQ d mQ_no [.ref 15, .int (-3)] M2) (fun x7 M8 => some (some (.int x7), M8)))) else (z_bI (z_den zQ d mQ_no [.ref 15, .int (-1)] M2) (fun x9 M10 => some (some (.int x9), M10)))) :=
  (z_J_eq zQ (d + 1) mQ_instrument tQ_instrument [] hQ_instrument.1 hQ_instrument.2 56 0 (z_ent mQ_instrument [.ref 15, .int p1] M)).trans rfl
set_option maxRecDepth 100000 in
set_option maxHeartbeats 4000000 in
theorem hQ_reaches : z_tab mQ_reaches = tQ_reaches ∧ z_inc tQ_reaches 0 = true := ⟨rfl, by decide +kernel⟩
set_option maxRecDepth 100000 in
set_option maxHeartbeats 4000000 in
theorem L_Q_reaches_2 (d : Nat) (l1 : Int32) (l2 : Int32) (l3 : Int32) (M : zM) : z_denF zQ (d + 1) mQ_reaches (2, [some (.ref 15), some (.int l1), some (.int l2), some (.int l3), none, none], [], M) = bif z_le (zI M 15 14) l3 then (z_denF zQ (d + 1) mQ_reaches (34, [some (.ref 15), some (.int l1), some (.int l2), some (.int 1), none, none], [], M)) else (bif z_ne l3 l2 then (bif z_ix l3 60 then z_denF zQ (d + 1) mQ_reaches (2, [some (.ref 15), some (.int l1), some (.int l2), some (.int (l3 + 1)), none, none], [], z_wI M 42 (Int32.toNatClampNeg l3) 0) else none) else (bif z_ix l3 60 then z_denF zQ (d + 1) mQ_reaches (2, [some (.ref 15), some (.int l1), some (.int l2), some (.int (l3 + 1)), none, none], [], z_wI M 42 (Int32.toNatClampNeg l3) 1) else none)) :=
  (z_J_eq zQ (d + 1) mQ_reaches tQ_reaches [2, 34, 43, 55] hQ_reaches.1 hQ_reaches.2 80 2 _).trans rfl
set_option maxRecDepth 100000 in
set_option maxHeartbeats 4000000 in
theorem L_Q_reaches_34 (d : Nat) (l1 : Int32) (l2 : Int32) (l3 : Int32) (o4 : Option Value) (o5 : Option Value) (M : zM) : z_denF zQ (d + 1) mQ_reaches (34, [some (.ref 15), some (.int l1), some (.int l2), some (.int l3), o4, o5], [], M) = bif z_eq l3 0 then (bif z_ix l1 60 then bif decide ((zI M 42 (Int32.toNatClampNeg l1)) &&& 1 = (zI M 42 (Int32.toNatClampNeg l1))) then some (some (.int (zI M 42 (Int32.toNatClampNeg l1))), M) else none else none) else (z_denF zQ (d + 1) mQ_reaches (43, [some (.ref 15), some (.int l1), some (.int l2), some (.int 0), some (.int 0), o5], [], M)) :=
  (z_J_eq zQ (d + 1) mQ_reaches tQ_reaches [2, 34, 43, 55] hQ_reaches.1 hQ_reaches.2 80 34 _).trans rfl
set_option maxRecDepth 100000 in
set_option maxHeartbeats 4000000 in
theorem L_Q_reaches_43 (d : Nat) (l1 : Int32) (l2 : Int32) (l3 : Int32) (l4 : Int32) (o5 : Option Value) (M : zM) : z_denF zQ (d + 1) mQ_reaches (43, [some (.ref 15), some (.int l1), some (.int l2), some (.int l3), some (.int l4), o5], [], M) = bif z_le (zI M 15 14) l4 then (z_denF zQ (d + 1) mQ_reaches (34, [some (.ref 15), some (.int l1), some (.int l2), some (.int l3), some (.int l4), o5], [], M)) else (z_denF zQ (d + 1) mQ_reaches (55, [some (.ref 15), some (.int l1), some (.int l2), some (.int l3), some (.int l4), some (.int 0)], [], M)) :=
  (z_J_eq zQ (d + 1) mQ_reaches tQ_reaches [2, 34, 43, 55] hQ_reaches.1 hQ_reaches.2 80 43 _).trans rfl
set_option maxRecDepth 100000 in
set_option maxHeartbeats 4000000 in
theorem L_Q_reaches_55 (d : Nat) (l1 : Int32) (l2 : Int32) (l3 : Int32) (l4 : Int32) (l5 : Int32) (M : zM) : z_denF zQ (d + 1) mQ_reaches (55, [some (.ref 15), some (.int l1), some (.int l2), some (.int l3), some (.int l4), some (.int l5)], [], M) = bif z_ix l4 60 then bif z_le (zI M 27 (Int32.toNatClampNeg l4)) l5 then (z_denF zQ (d + 1) mQ_reaches (43, [some (.ref 15), some (.int l1), some (.int l2), some (.int l3), some (.int (l4 + 1)), some (.int l5)], [], M)) else (bif z_ix l4 60 then bif z_ne (zI M 42 (Int32.toNatClampNeg l4)) 0 then (z_denF zQ (d + 1) mQ_reaches (43, [some (.ref 15), some (.int l1), some (.int l2), some (.int l3), some (.int (l4 + 1)), some (.int l5)], [], M)) else (bif z_ix ((8 * l4) + l5) 480 then bif z_ix (zI M 28 (Int32.toNatClampNeg ((8 * l4) + l5))) 60 then bif z_ix l4 60 then bif z_ne l3 0 then (z_denF zQ (d + 1) mQ_reaches (55, [some (.ref 15), some (.int l1), some (.int l2), some (.int 1), some (.int l4), some (.int (l5 + 1))], [], z_wI M 42 (Int32.toNatClampNeg l4) ((zI M 42 (Int32.toNatClampNeg (zI M 28 (Int32.toNatClampNeg ((8 * l4) + l5))))) &&& 1))) else (bif z_ix l4 60 then bif z_eq (zI (z_wI M 42 (Int32.toNatClampNeg l4) ((zI M 42 (Int32.toNatClampNeg (zI M 28 (Int32.toNatClampNeg ((8 * l4) + l5))))) &&& 1)) 42 (Int32.toNatClampNeg l4)) 0 then (z_denF zQ (d + 1) mQ_reaches (55, [some (.ref 15), some (.int l1), some (.int l2), some (.int 0), some (.int l4), some (.int (l5 + 1))], [], z_wI M 42 (Int32.toNatClampNeg l4) ((zI M 42 (Int32.toNatClampNeg (zI M 28 (Int32.toNatClampNeg ((8 * l4) + l5))))) &&& 1))) else (z_denF zQ (d + 1) mQ_reaches (55, [some (.ref 15), some (.int l1), some (.int l2), some (.int 1), some (.int l4), some (.int (l5 + 1))], [], z_wI M 42 (Int32.toNatClampNeg l4) ((zI M 42 (Int32.toNatClampNeg (zI M 28 (Int32.toNatClampNeg ((8 * l4) + l5))))) &&& 1))) else none) else none else none else none) else none) else none :=
  (z_J_eq zQ (d + 1) mQ_reaches tQ_reaches [2, 34, 43, 55] hQ_reaches.1 hQ_reaches.2 80 55 _).trans rfl
set_option maxRecDepth 100000 in
set_option maxHeartbeats 4000000 in
theorem B_Q_reaches (d : Nat) (p1 : Int32) (p2 : Int32) (M : zM) : z_den zQ (d + 1) mQ_reaches [.ref 15, .int p1, .int p2] M = z_denF zQ (d + 1) mQ_reaches (2, [some (.ref 15), some (.int p1), some (.int p2), some (.int 0), none, none], [], M) :=
  (z_J_eq zQ (d + 1) mQ_reaches tQ_reaches [2, 34, 43, 55] hQ_reaches.1 hQ_reaches.2 80 0 (z_ent mQ_reaches [.ref 15, .int p1, .int p2] M)).trans rfl
set_option maxRecDepth 100000 in
set_option maxHeartbeats 4000000 in
theorem hQ_reckon : z_tab mQ_reckon = tQ_reckon ∧ z_inc tQ_reckon 0 = true := ⟨rfl, by decide +kernel⟩
set_option maxRecDepth 100000 in
set_option maxHeartbeats 4000000 in
theorem L_Q_reckon_2 (d : Nat) (l1 : Int32) (M : zM) : z_denF zQ (d + 1) mQ_reckon (2, [some (.ref 15), some (.int l1), none, none, none, none], [], M) = bif z_le (zI M 15 14) l1 then (z_denF zQ (d + 1) mQ_reckon (27, [some (.ref 15), some (.int 1), some (.int 0), none, none, none], [], M)) else (bif z_ix l1 60 then z_denF zQ (d + 1) mQ_reckon (2, [some (.ref 15), some (.int (l1 + 1)), none, none, none, none], [], z_wI M 29 (Int32.toNatClampNeg l1) 1) else none) :=
  (z_J_eq zQ (d + 1) mQ_reckon tQ_reckon [2, 27, 37, 51] hQ_reckon.1 hQ_reckon.2 79 2 _).trans rfl
set_option maxRecDepth 100000 in
set_option maxHeartbeats 4000000 in
theorem L_Q_reckon_27 (d : Nat) (l1 : Int32) (l2 : Int32) (o3 : Option Value) (o4 : Option Value) (o5 : Option Value) (M : zM) : z_denF zQ (d + 1) mQ_reckon (27, [some (.ref 15), some (.int l1), some (.int l2), o3, o4, o5], [], M) = bif z_lt (zI M 15 14) l2 then (bif decide (l1 &&& 1 = l1) then some (some (.int l1), M) else none) else (z_denF zQ (d + 1) mQ_reckon (37, [some (.ref 15), some (.int l1), some (.int l2), some (.int 0), o4, o5], [], M)) :=
  (z_J_eq zQ (d + 1) mQ_reckon tQ_reckon [2, 27, 37, 51] hQ_reckon.1 hQ_reckon.2 79 27 _).trans rfl
set_option maxRecDepth 100000 in
set_option maxHeartbeats 4000000 in
theorem L_Q_reckon_37 (d : Nat) (l1 : Int32) (l2 : Int32) (l3 : Int32) (o4 : Option Value) (o5 : Option Value) (M : zM) : z_denF zQ (d + 1) mQ_reckon (37, [some (.ref 15), some (.int l1), some (.int l2), some (.int l3), o4, o5], [], M) = bif z_le (zI M 15 14) l3 then (z_denF zQ (d + 1) mQ_reckon (27, [some (.ref 15), some (.int l1), some (.int (l2 + 1)), some (.int l3), o4, o5], [], M)) else (z_denF zQ (d + 1) mQ_reckon (51, [some (.ref 15), some (.int l1), some (.int l2), some (.int l3), some (.int 1), some (.int 0)], [], M)) :=
  (z_J_eq zQ (d + 1) mQ_reckon tQ_reckon [2, 27, 37, 51] hQ_reckon.1 hQ_reckon.2 79 37 _).trans rfl
set_option maxRecDepth 100000 in
set_option maxHeartbeats 4000000 in
theorem L_Q_reckon_51 (d : Nat) (l1 : Int32) (l2 : Int32) (l3 : Int32) (l4 : Int32) (l5 : Int32) (M : zM) : z_denF zQ (d + 1) mQ_reckon (51, [some (.ref 15), some (.int l1), some (.int l2), some (.int l3), some (.int l4), some (.int l5)], [], M) = bif z_ix l3 60 then bif z_le (zI M 27 (Int32.toNatClampNeg l3)) l5 then (bif z_le l4 40 then (bif z_ix l3 60 then bif z_eq l1 0 then (z_denF zQ (d + 1) mQ_reckon (37, [some (.ref 15), some (.int 0), some (.int l2), some (.int (l3 + 1)), some (.int l4), some (.int l5)], [], z_wI M 29 (Int32.toNatClampNeg l3) l4)) else (bif z_lt 40 l4 then (z_denF zQ (d + 1) mQ_reckon (37, [some (.ref 15), some (.int 0), some (.int l2), some (.int (l3 + 1)), some (.int l4), some (.int l5)], [], z_wI M 29 (Int32.toNatClampNeg l3) l4)) else (z_denF zQ (d + 1) mQ_reckon (37, [some (.ref 15), some (.int 1), some (.int l2), some (.int (l3 + 1)), some (.int l4), some (.int l5)], [], z_wI M 29 (Int32.toNatClampNeg l3) l4))) else none) else (bif z_ix l3 60 then bif z_eq l1 0 then (z_denF zQ (d + 1) mQ_reckon (37, [some (.ref 15), some (.int 0), some (.int l2), some (.int (l3 + 1)), some (.int l4), some (.int l5)], [], z_wI M 29 (Int32.toNatClampNeg l3) 41)) else (bif z_lt 40 l4 then (z_denF zQ (d + 1) mQ_reckon (37, [some (.ref 15), some (.int 0), some (.int l2), some (.int (l3 + 1)), some (.int l4), some (.int l5)], [], z_wI M 29 (Int32.toNatClampNeg l3) 41)) else (z_denF zQ (d + 1) mQ_reckon (37, [some (.ref 15), some (.int 1), some (.int l2), some (.int (l3 + 1)), some (.int l4), some (.int l5)], [], z_wI M 29 (Int32.toNatClampNeg l3) 41))) else none)) else (bif z_ix ((8 * l3) + l5) 480 then bif z_ix (zI M 28 (Int32.toNatClampNeg ((8 * l3) + l5))) 60 then z_denF zQ (d + 1) mQ_reckon (51, [some (.ref 15), some (.int l1), some (.int l2), some (.int l3), some (.int (l4 + (zI M 29 (Int32.toNatClampNeg (zI M 28 (Int32.toNatClampNeg ((8 * l3) + l5))))))), some (.int (l5 + 1))], [], M) else none else none) else none :=
  (z_J_eq zQ (d + 1) mQ_reckon tQ_reckon [2, 27, 37, 51] hQ_reckon.1 hQ_reckon.2 79 51 _).trans rfl
set_option maxRecDepth 100000 in
set_option maxHeartbeats 4000000 in
theorem B_Q_reckon (d : Nat) (M : zM) : z_den zQ (d + 1) mQ_reckon [.ref 15] M = z_denF zQ (d + 1) mQ_reckon (2, [some (.ref 15), some (.int 0), none, none, none, none], [], M) :=
  (z_J_eq zQ (d + 1) mQ_reckon tQ_reckon [2, 27, 37, 51] hQ_reckon.1 hQ_reckon.2 79 0 (z_ent mQ_reckon [.ref 15] M)).trans rfl
