/-! WHAT THE METHODS DO, printed by a program (wip/gen/emitB.py), held against the small machine by rfl. -/
set_option maxRecDepth 100000 in
set_option maxHeartbeats 4000000 in
theorem hJm_floorDiv : z_tab mJm_floorDiv = tJm_floorDiv ∧ z_inc tJm_floorDiv 0 = true := ⟨rfl, by decide +kernel⟩
set_option maxRecDepth 100000 in
set_option maxHeartbeats 4000000 in
theorem B_Jm_floorDiv (d : Nat) (p1 : Int64) (p2 : Int64) (M : zM) : z_den zQ (d + 1) mJm_floorDiv [.long p1, .long p2] M = bif z_nz p2 then bif z_le 0 (lg_cmp (p1 ^^^ p2) 0) then (some (some (.long (p1 / p2)), M)) else (bif z_eq (lg_cmp ((p1 / p2) * p2) p1) 0 then (some (some (.long (p1 / p2)), M)) else (some (some (.long ((p1 / p2) - 1)), M))) else none :=
  (z_J_eq zQ (d + 1) mJm_floorDiv tJm_floorDiv [] hJm_floorDiv.1 hJm_floorDiv.2 23 0 (z_ent mJm_floorDiv [.long p1, .long p2] M)).trans rfl
set_option maxRecDepth 100000 in
set_option maxHeartbeats 4000000 in
theorem hJm_floorMod : z_tab mJm_floorMod = tJm_floorMod ∧ z_inc tJm_floorMod 0 = true := ⟨rfl, by decide +kernel⟩
set_option maxRecDepth 100000 in
set_option maxHeartbeats 4000000 in
theorem B_Jm_floorMod (d : Nat) (p1 : Int32) (p2 : Int32) (M : zM) : z_den zQ (d + 1) mJm_floorMod [.int p1, .int p2] M = bif z_ne p2 0 then bif z_le 0 (p1 ^^^ p2) then (some (some (.int (p1 - p1 / p2 * p2)), M)) else (bif z_eq (p1 - p1 / p2 * p2) 0 then (some (some (.int (p1 - p1 / p2 * p2)), M)) else (some (some (.int ((p1 - p1 / p2 * p2) + p2)), M))) else none :=
  (z_J_eq zQ (d + 1) mJm_floorMod tJm_floorMod [] hJm_floorMod.1 hJm_floorMod.2 17 0 (z_ent mJm_floorMod [.int p1, .int p2] M)).trans rfl
set_option maxRecDepth 100000 in
set_option maxHeartbeats 4000000 in
theorem hJm_max : z_tab mJm_max = tJm_max ∧ z_inc tJm_max 0 = true := ⟨rfl, by decide +kernel⟩
set_option maxRecDepth 100000 in
set_option maxHeartbeats 4000000 in
theorem B_Jm_max (d : Nat) (p1 : Int32) (p2 : Int32) (M : zM) : z_den zQ (d + 1) mJm_max [.int p1, .int p2] M = bif z_lt p1 p2 then (some (some (.int p2), M)) else (some (some (.int p1), M)) :=
  (z_J_eq zQ (d + 1) mJm_max tJm_max [] hJm_max.1 hJm_max.2 8 0 (z_ent mJm_max [.int p1, .int p2] M)).trans rfl
set_option maxRecDepth 100000 in
set_option maxHeartbeats 4000000 in
theorem hJm_min : z_tab mJm_min = tJm_min ∧ z_inc tJm_min 0 = true := ⟨rfl, by decide +kernel⟩
set_option maxRecDepth 100000 in
set_option maxHeartbeats 4000000 in
theorem B_Jm_min (d : Nat) (p1 : Int32) (p2 : Int32) (M : zM) : z_den zQ (d + 1) mJm_min [.int p1, .int p2] M = bif z_lt p2 p1 then (some (some (.int p2), M)) else (some (some (.int p1), M)) :=
  (z_J_eq zQ (d + 1) mJm_min tJm_min [] hJm_min.1 hJm_min.2 8 0 (z_ent mJm_min [.int p1, .int p2] M)).trans rfl
set_option maxRecDepth 100000 in
set_option maxHeartbeats 4000000 in
theorem hJd_isNaN : z_tab mJd_isNaN = tJd_isNaN ∧ z_inc tJd_isNaN 0 = true := ⟨rfl, by decide +kernel⟩
set_option maxRecDepth 100000 in
set_option maxHeartbeats 4000000 in
theorem B_Jd_isNaN (d : Nat) (p1 : UInt64) (M : zM) : z_den zQ (d + 1) mJd_isNaN [.double p1] M = bif z_eq (zf_cmp.1 .l p1 p1) 0 then (some (some (.int 0), M)) else (some (some (.int 1), M)) :=
  (z_J_eq zQ (d + 1) mJd_isNaN tJd_isNaN [] hJd_isNaN.1 hJd_isNaN.2 9 0 (z_ent mJd_isNaN [.double p1] M)).trans rfl
set_option maxRecDepth 100000 in
set_option maxHeartbeats 4000000 in
theorem hJd_doubleToLongBits : z_tab mJd_doubleToLongBits = tJd_doubleToLongBits ∧ z_inc tJd_doubleToLongBits 0 = true := ⟨rfl, by decide +kernel⟩
set_option maxRecDepth 100000 in
set_option maxHeartbeats 4000000 in
theorem B_Jd_doubleToLongBits (d : Nat) (p1 : UInt64) (M : zM) : z_den zQ (d + 1) mJd_doubleToLongBits [.double p1] M = z_bI (z_den zQ d mJd_isNaN [.double p1] M) (fun x1 M2 => bif z_ne x1 0 then (some (some (.long 9221120237041090560), M2)) else (some (some (.long (UInt64.toInt64 p1)), M2))) :=
  (z_J_eq zQ (d + 1) mJd_doubleToLongBits tJd_doubleToLongBits [] hJd_doubleToLongBits.1 hJd_doubleToLongBits.2 9 0 (z_ent mJd_doubleToLongBits [.double p1] M)).trans rfl
set_option maxRecDepth 100000 in
set_option maxHeartbeats 4000000 in
theorem hJi_bitCount : z_tab mJi_bitCount = tJi_bitCount ∧ z_inc tJi_bitCount 0 = true := ⟨rfl, by decide +kernel⟩
set_option maxRecDepth 100000 in
set_option maxHeartbeats 4000000 in
theorem B_Ji_bitCount (d : Nat) (p1 : Int32) (M : zM) : z_den zQ (d + 1) mJi_bitCount [.int p1] M = some (some (.int ((((((((p1 - (((Int32.toUInt32 p1 >>> (Int32.toUInt32 1 &&& Int32.toUInt32 31)).toInt32) &&& 1431655765)) &&& 858993459) + (((Int32.toUInt32 (p1 - (((Int32.toUInt32 p1 >>> (Int32.toUInt32 1 &&& Int32.toUInt32 31)).toInt32) &&& 1431655765)) >>> (Int32.toUInt32 2 &&& Int32.toUInt32 31)).toInt32) &&& 858993459)) + ((Int32.toUInt32 (((p1 - (((Int32.toUInt32 p1 >>> (Int32.toUInt32 1 &&& Int32.toUInt32 31)).toInt32) &&& 1431655765)) &&& 858993459) + (((Int32.toUInt32 (p1 - (((Int32.toUInt32 p1 >>> (Int32.toUInt32 1 &&& Int32.toUInt32 31)).toInt32) &&& 1431655765)) >>> (Int32.toUInt32 2 &&& Int32.toUInt32 31)).toInt32) &&& 858993459)) >>> (Int32.toUInt32 4 &&& Int32.toUInt32 31)).toInt32)) &&& 252645135) + ((Int32.toUInt32 (((((p1 - (((Int32.toUInt32 p1 >>> (Int32.toUInt32 1 &&& Int32.toUInt32 31)).toInt32) &&& 1431655765)) &&& 858993459) + (((Int32.toUInt32 (p1 - (((Int32.toUInt32 p1 >>> (Int32.toUInt32 1 &&& Int32.toUInt32 31)).toInt32) &&& 1431655765)) >>> (Int32.toUInt32 2 &&& Int32.toUInt32 31)).toInt32) &&& 858993459)) + ((Int32.toUInt32 (((p1 - (((Int32.toUInt32 p1 >>> (Int32.toUInt32 1 &&& Int32.toUInt32 31)).toInt32) &&& 1431655765)) &&& 858993459) + (((Int32.toUInt32 (p1 - (((Int32.toUInt32 p1 >>> (Int32.toUInt32 1 &&& Int32.toUInt32 31)).toInt32) &&& 1431655765)) >>> (Int32.toUInt32 2 &&& Int32.toUInt32 31)).toInt32) &&& 858993459)) >>> (Int32.toUInt32 4 &&& Int32.toUInt32 31)).toInt32)) &&& 252645135) >>> (Int32.toUInt32 8 &&& Int32.toUInt32 31)).toInt32)) + ((Int32.toUInt32 ((((((p1 - (((Int32.toUInt32 p1 >>> (Int32.toUInt32 1 &&& Int32.toUInt32 31)).toInt32) &&& 1431655765)) &&& 858993459) + (((Int32.toUInt32 (p1 - (((Int32.toUInt32 p1 >>> (Int32.toUInt32 1 &&& Int32.toUInt32 31)).toInt32) &&& 1431655765)) >>> (Int32.toUInt32 2 &&& Int32.toUInt32 31)).toInt32) &&& 858993459)) + ((Int32.toUInt32 (((p1 - (((Int32.toUInt32 p1 >>> (Int32.toUInt32 1 &&& Int32.toUInt32 31)).toInt32) &&& 1431655765)) &&& 858993459) + (((Int32.toUInt32 (p1 - (((Int32.toUInt32 p1 >>> (Int32.toUInt32 1 &&& Int32.toUInt32 31)).toInt32) &&& 1431655765)) >>> (Int32.toUInt32 2 &&& Int32.toUInt32 31)).toInt32) &&& 858993459)) >>> (Int32.toUInt32 4 &&& Int32.toUInt32 31)).toInt32)) &&& 252645135) + ((Int32.toUInt32 (((((p1 - (((Int32.toUInt32 p1 >>> (Int32.toUInt32 1 &&& Int32.toUInt32 31)).toInt32) &&& 1431655765)) &&& 858993459) + (((Int32.toUInt32 (p1 - (((Int32.toUInt32 p1 >>> (Int32.toUInt32 1 &&& Int32.toUInt32 31)).toInt32) &&& 1431655765)) >>> (Int32.toUInt32 2 &&& Int32.toUInt32 31)).toInt32) &&& 858993459)) + ((Int32.toUInt32 (((p1 - (((Int32.toUInt32 p1 >>> (Int32.toUInt32 1 &&& Int32.toUInt32 31)).toInt32) &&& 1431655765)) &&& 858993459) + (((Int32.toUInt32 (p1 - (((Int32.toUInt32 p1 >>> (Int32.toUInt32 1 &&& Int32.toUInt32 31)).toInt32) &&& 1431655765)) >>> (Int32.toUInt32 2 &&& Int32.toUInt32 31)).toInt32) &&& 858993459)) >>> (Int32.toUInt32 4 &&& Int32.toUInt32 31)).toInt32)) &&& 252645135) >>> (Int32.toUInt32 8 &&& Int32.toUInt32 31)).toInt32)) >>> (Int32.toUInt32 16 &&& Int32.toUInt32 31)).toInt32)) &&& 63)), M) :=
  (z_J_eq zQ (d + 1) mJi_bitCount tJi_bitCount [] hJi_bitCount.1 hJi_bitCount.2 43 0 (z_ent mJi_bitCount [.int p1] M)).trans rfl
