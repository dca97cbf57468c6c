/-! WHAT THE METHODS DO, printed by a program (wip/gen/emitB.py), held against the small machine by rfl. -/
set_option maxRecDepth 100000 in
set_option maxHeartbeats 4000000 in
theorem hS_init : z_tab mS_init = tS_init ∧ z_inc tS_init 0 = true := ⟨rfl, by decide +kernel⟩
set_option maxRecDepth 100000 in
set_option maxHeartbeats 4000000 in
theorem B_S_init (d : Nat) (a0 : Nat) (p1 : Int32) (p2 : Int32) (p3 : Int32) (p4 : Int32) (M : zM) : z_den zQ (d + 1) mS_init [.ref a0, .int p1, .int p2, .int p3, .int p4] M = bif !(Nat.beq a0 0) then bif z_cls zQ M a0 [9] then z_bI (z_den zQ d mJm_min [.int p4, .int 256] (z_wI M a0 6 0)) (fun x1 M2 => z_bI (z_den zQ d mJm_max [.int 0, .int x1] M2) (fun x3 M4 => bif z_cls zQ M4 a0 [9] then bif z_cls zQ (z_wI M4 a0 0 p1) a0 [9] then bif z_cls zQ (z_wI (z_wI M4 a0 0 p1) a0 1 p2) a0 [9] then bif z_ne p1 0 then (bif z_ne p1 3 then (bif z_cls zQ (z_wI (z_wI (z_wI M4 a0 0 p1) a0 1 p2) a0 2 p3) a0 [9] then bif z_cls zQ (z_wI (z_wI (z_wI (z_wI M4 a0 0 p1) a0 1 p2) a0 2 p3) a0 3 1) a0 [9] then bif z_cls zQ (z_wI (z_wI (z_wI (z_wI M4 a0 0 p1) a0 1 p2) a0 2 p3) a0 3 1) a0 [9] then bif z_cls zQ (z_wI (z_wI (z_wI (z_wI (z_wI M4 a0 0 p1) a0 1 p2) a0 2 p3) a0 3 1) a0 5 (9 + (x3 <<< ((zI (z_wI (z_wI (z_wI (z_wI M4 a0 0 p1) a0 1 p2) a0 2 p3) a0 3 1) a0 3) &&& 31)))) a0 [9] then bif decide (¬ (zI (z_wI (z_wI (z_wI (z_wI (z_wI M4 a0 0 p1) a0 1 p2) a0 2 p3) a0 3 1) a0 5 (9 + (x3 <<< ((zI (z_wI (z_wI (z_wI (z_wI M4 a0 0 p1) a0 1 p2) a0 2 p3) a0 3 1) a0 3) &&& 31)))) a0 5) < 0) && Nat.ble (Int32.toNatClampNeg (zI (z_wI (z_wI (z_wI (z_wI (z_wI M4 a0 0 p1) a0 1 p2) a0 2 p3) a0 3 1) a0 5 (9 + (x3 <<< ((zI (z_wI (z_wI (z_wI (z_wI M4 a0 0 p1) a0 1 p2) a0 2 p3) a0 3 1) a0 3) &&& 31)))) a0 5)) 1000000 then bif z_free zQ a0 4 && z_cls zQ (z_nw zQ (z_wI (z_wI (z_wI (z_wI (z_wI M4 a0 0 p1) a0 1 p2) a0 2 p3) a0 3 1) a0 5 (9 + (x3 <<< ((zI (z_wI (z_wI (z_wI (z_wI M4 a0 0 p1) a0 1 p2) a0 2 p3) a0 3 1) a0 3) &&& 31)))) (12, Int32.toNatClampNeg (zI (z_wI (z_wI (z_wI (z_wI (z_wI M4 a0 0 p1) a0 1 p2) a0 2 p3) a0 3 1) a0 5 (9 + (x3 <<< ((zI (z_wI (z_wI (z_wI (z_wI M4 a0 0 p1) a0 1 p2) a0 2 p3) a0 3 1) a0 3) &&& 31)))) a0 5))) a0 [9] then some (none, z_wP (z_nw zQ (z_wI (z_wI (z_wI (z_wI (z_wI M4 a0 0 p1) a0 1 p2) a0 2 p3) a0 3 1) a0 5 (9 + (x3 <<< ((zI (z_wI (z_wI (z_wI (z_wI M4 a0 0 p1) a0 1 p2) a0 2 p3) a0 3 1) a0 3) &&& 31)))) (12, Int32.toNatClampNeg (zI (z_wI (z_wI (z_wI (z_wI (z_wI M4 a0 0 p1) a0 1 p2) a0 2 p3) a0 3 1) a0 5 (9 + (x3 <<< ((zI (z_wI (z_wI (z_wI (z_wI M4 a0 0 p1) a0 1 p2) a0 2 p3) a0 3 1) a0 3) &&& 31)))) a0 5))) a0 4 (z_new zQ (z_wI (z_wI (z_wI (z_wI (z_wI M4 a0 0 p1) a0 1 p2) a0 2 p3) a0 3 1) a0 5 (9 + (x3 <<< ((zI (z_wI (z_wI (z_wI (z_wI M4 a0 0 p1) a0 1 p2) a0 2 p3) a0 3 1) a0 3) &&& 31)))))) else none else none else none else none else none else none) else (bif z_cls zQ (z_wI (z_wI (z_wI M4 a0 0 p1) a0 1 p2) a0 2 p3) a0 [9] then bif z_cls zQ (z_wI (z_wI (z_wI (z_wI M4 a0 0 p1) a0 1 p2) a0 2 p3) a0 3 2) a0 [9] then bif z_cls zQ (z_wI (z_wI (z_wI (z_wI M4 a0 0 p1) a0 1 p2) a0 2 p3) a0 3 2) a0 [9] then bif z_cls zQ (z_wI (z_wI (z_wI (z_wI (z_wI M4 a0 0 p1) a0 1 p2) a0 2 p3) a0 3 2) a0 5 (9 + (x3 <<< ((zI (z_wI (z_wI (z_wI (z_wI M4 a0 0 p1) a0 1 p2) a0 2 p3) a0 3 2) a0 3) &&& 31)))) a0 [9] then bif decide (¬ (zI (z_wI (z_wI (z_wI (z_wI (z_wI M4 a0 0 p1) a0 1 p2) a0 2 p3) a0 3 2) a0 5 (9 + (x3 <<< ((zI (z_wI (z_wI (z_wI (z_wI M4 a0 0 p1) a0 1 p2) a0 2 p3) a0 3 2) a0 3) &&& 31)))) a0 5) < 0) && Nat.ble (Int32.toNatClampNeg (zI (z_wI (z_wI (z_wI (z_wI (z_wI M4 a0 0 p1) a0 1 p2) a0 2 p3) a0 3 2) a0 5 (9 + (x3 <<< ((zI (z_wI (z_wI (z_wI (z_wI M4 a0 0 p1) a0 1 p2) a0 2 p3) a0 3 2) a0 3) &&& 31)))) a0 5)) 1000000 then bif z_free zQ a0 4 && z_cls zQ (z_nw zQ (z_wI (z_wI (z_wI (z_wI (z_wI M4 a0 0 p1) a0 1 p2) a0 2 p3) a0 3 2) a0 5 (9 + (x3 <<< ((zI (z_wI (z_wI (z_wI (z_wI M4 a0 0 p1) a0 1 p2) a0 2 p3) a0 3 2) a0 3) &&& 31)))) (12, Int32.toNatClampNeg (zI (z_wI (z_wI (z_wI (z_wI (z_wI M4 a0 0 p1) a0 1 p2) a0 2 p3) a0 3 2) a0 5 (9 + (x3 <<< ((zI (z_wI (z_wI (z_wI (z_wI M4 a0 0 p1) a0 1 p2) a0 2 p3) a0 3 2) a0 3) &&& 31)))) a0 5))) a0 [9] then some (none, z_wP (z_nw zQ (z_wI (z_wI (z_wI (z_wI (z_wI M4 a0 0 p1) a0 1 p2) a0 2 p3) a0 3 2) a0 5 (9 + (x3 <<< ((zI (z_wI (z_wI (z_wI (z_wI M4 a0 0 p1) a0 1 p2) a0 2 p3) a0 3 2) a0 3) &&& 31)))) (12, Int32.toNatClampNeg (zI (z_wI (z_wI (z_wI (z_wI (z_wI M4 a0 0 p1) a0 1 p2) a0 2 p3) a0 3 2) a0 5 (9 + (x3 <<< ((zI (z_wI (z_wI (z_wI (z_wI M4 a0 0 p1) a0 1 p2) a0 2 p3) a0 3 2) a0 3) &&& 31)))) a0 5))) a0 4 (z_new zQ (z_wI (z_wI (z_wI (z_wI (z_wI M4 a0 0 p1) a0 1 p2) a0 2 p3) a0 3 2) a0 5 (9 + (x3 <<< ((zI (z_wI (z_wI (z_wI (z_wI M4 a0 0 p1) a0 1 p2) a0 2 p3) a0 3 2) a0 3) &&& 31)))))) else none else none else none else none else none else none)) else (bif z_cls zQ (z_wI (z_wI (z_wI M4 a0 0 p1) a0 1 p2) a0 2 p3) a0 [9] then bif z_cls zQ (z_wI (z_wI (z_wI (z_wI M4 a0 0 p1) a0 1 p2) a0 2 p3) a0 3 0) a0 [9] then bif z_cls zQ (z_wI (z_wI (z_wI (z_wI M4 a0 0 p1) a0 1 p2) a0 2 p3) a0 3 0) a0 [9] then bif z_cls zQ (z_wI (z_wI (z_wI (z_wI (z_wI M4 a0 0 p1) a0 1 p2) a0 2 p3) a0 3 0) a0 5 (9 + (x3 <<< ((zI (z_wI (z_wI (z_wI (z_wI M4 a0 0 p1) a0 1 p2) a0 2 p3) a0 3 0) a0 3) &&& 31)))) a0 [9] then bif decide (¬ (zI (z_wI (z_wI (z_wI (z_wI (z_wI M4 a0 0 p1) a0 1 p2) a0 2 p3) a0 3 0) a0 5 (9 + (x3 <<< ((zI (z_wI (z_wI (z_wI (z_wI M4 a0 0 p1) a0 1 p2) a0 2 p3) a0 3 0) a0 3) &&& 31)))) a0 5) < 0) && Nat.ble (Int32.toNatClampNeg (zI (z_wI (z_wI (z_wI (z_wI (z_wI M4 a0 0 p1) a0 1 p2) a0 2 p3) a0 3 0) a0 5 (9 + (x3 <<< ((zI (z_wI (z_wI (z_wI (z_wI M4 a0 0 p1) a0 1 p2) a0 2 p3) a0 3 0) a0 3) &&& 31)))) a0 5)) 1000000 then bif z_free zQ a0 4 && z_cls zQ (z_nw zQ (z_wI (z_wI (z_wI (z_wI (z_wI M4 a0 0 p1) a0 1 p2) a0 2 p3) a0 3 0) a0 5 (9 + (x3 <<< ((zI (z_wI (z_wI (z_wI (z_wI M4 a0 0 p1) a0 1 p2) a0 2 p3) a0 3 0) a0 3) &&& 31)))) (12, Int32.toNatClampNeg (zI (z_wI (z_wI (z_wI (z_wI (z_wI M4 a0 0 p1) a0 1 p2) a0 2 p3) a0 3 0) a0 5 (9 + (x3 <<< ((zI (z_wI (z_wI (z_wI (z_wI M4 a0 0 p1) a0 1 p2) a0 2 p3) a0 3 0) a0 3) &&& 31)))) a0 5))) a0 [9] then some (none, z_wP (z_nw zQ (z_wI (z_wI (z_wI (z_wI (z_wI M4 a0 0 p1) a0 1 p2) a0 2 p3) a0 3 0) a0 5 (9 + (x3 <<< ((zI (z_wI (z_wI (z_wI (z_wI M4 a0 0 p1) a0 1 p2) a0 2 p3) a0 3 0) a0 3) &&& 31)))) (12, Int32.toNatClampNeg (zI (z_wI (z_wI (z_wI (z_wI (z_wI M4 a0 0 p1) a0 1 p2) a0 2 p3) a0 3 0) a0 5 (9 + (x3 <<< ((zI (z_wI (z_wI (z_wI (z_wI M4 a0 0 p1) a0 1 p2) a0 2 p3) a0 3 0) a0 3) &&& 31)))) a0 5))) a0 4 (z_new zQ (z_wI (z_wI (z_wI (z_wI (z_wI M4 a0 0 p1) a0 1 p2) a0 2 p3) a0 3 0) a0 5 (9 + (x3 <<< ((zI (z_wI (z_wI (z_wI (z_wI M4 a0 0 p1) a0 1 p2) a0 2 p3) a0 3 0) a0 3) &&& 31)))))) else none else none else none else none else none else none) else none else none else none)) else none else none :=
  (z_J_eq zQ (d + 1) mS_init tS_init [] hS_init.1 hS_init.2 47 0 (z_ent mS_init [.ref a0, .int p1, .int p2, .int p3, .int p4] M)).trans rfl
set_option maxRecDepth 100000 in
set_option maxHeartbeats 4000000 in
theorem hS_elements : z_tab mS_elements = tS_elements ∧ z_inc tS_elements 0 = true := ⟨rfl, by decide +kernel⟩
set_option maxRecDepth 100000 in
set_option maxHeartbeats 4000000 in
theorem B_S_elements (d : Nat) (a0 : Nat) (M : zM) : z_den zQ (d + 1) mS_elements [.ref a0] M = bif z_cls zQ M a0 [9] then bif z_le (zI M a0 5) 9 then (some (some (.int 0), M)) else (bif z_cls zQ M a0 [9] then bif z_cls zQ M a0 [9] then some (some (.int (((zI M a0 5) - 9) >>> ((zI M a0 3) &&& 31))), M) else none else none) else none :=
  (z_J_eq zQ (d + 1) mS_elements tS_elements [] hS_elements.1 hS_elements.2 15 0 (z_ent mS_elements [.ref a0] M)).trans rfl
set_option maxRecDepth 100000 in
set_option maxHeartbeats 4000000 in
theorem hS_numberAt : z_tab mS_numberAt = tS_numberAt ∧ z_inc tS_numberAt 0 = true := ⟨rfl, by decide +kernel⟩
set_option maxRecDepth 100000 in
set_option maxHeartbeats 4000000 in
theorem L_S_numberAt_5 (d : Nat) (a0 : Nat) (l1 : Int32) (l2 : Int32) (l3 : Int32) (l4 : Int32) (M : zM) : z_denF zQ (d + 1) mS_numberAt (5, [some (.ref a0), some (.int l1), some (.int l2), some (.int l3), some (.int l4)], [], M) = bif z_le (l1 + l2) l4 then (some (some (.int l3), M)) else (bif z_cls zQ M a0 [9] then bif z_cls zQ M (zP zQ M a0 4) [12] then bif z_le (Int32.ofNat (z_ln zQ M (zP zQ M a0 4))) l4 then (some (some (.int l3), M)) else (bif z_ne l4 l1 then (bif z_cls zQ M a0 [9] then bif z_ia zQ M (zP zQ M a0 4) 12 l4 then z_denF zQ (d + 1) mS_numberAt (5, [some (.ref a0), some (.int l1), some (.int l2), some (.int ((l3 <<< ((8 : Int32) &&& 31)) ||| ((zI M (zP zQ M a0 4) (Int32.toNatClampNeg l4)) &&& 255))), some (.int (l4 + 1))], [], M) else none else none) else (bif z_cls zQ M a0 [9] then bif z_ia zQ M (zP zQ M a0 4) 12 l4 then z_denF zQ (d + 1) mS_numberAt (5, [some (.ref a0), some (.int l1), some (.int l2), some (.int (zI M (zP zQ M a0 4) (Int32.toNatClampNeg l4))), some (.int (l4 + 1))], [], M) else none else none)) else none else none) :=
  (z_J_eq zQ (d + 1) mS_numberAt tS_numberAt [5] hS_numberAt.1 hS_numberAt.2 38 5 _).trans rfl
set_option maxRecDepth 100000 in
set_option maxHeartbeats 4000000 in
theorem B_S_numberAt (d : Nat) (a0 : Nat) (p1 : Int32) (p2 : Int32) (M : zM) : z_den zQ (d + 1) mS_numberAt [.ref a0, .int p1, .int p2] M = z_denF zQ (d + 1) mS_numberAt (5, [some (.ref a0), some (.int p1), some (.int p2), some (.int 0), some (.int p1)], [], M) :=
  (z_J_eq zQ (d + 1) mS_numberAt tS_numberAt [5] hS_numberAt.1 hS_numberAt.2 38 0 (z_ent mS_numberAt [.ref a0, .int p1, .int p2] M)).trans rfl
set_option maxRecDepth 100000 in
set_option maxHeartbeats 4000000 in
theorem hS_writeNumber : z_tab mS_writeNumber = tS_writeNumber ∧ z_inc tS_writeNumber 0 = true := ⟨rfl, by decide +kernel⟩
set_option maxRecDepth 100000 in
set_option maxHeartbeats 4000000 in
theorem L_S_writeNumber_10 (d : Nat) (a0 : Nat) (l1 : Int32) (l2 : Int32) (l3 : Int32) (l4 : Int32) (l5 : Int32) (M : zM) : z_denF zQ (d + 1) mS_writeNumber (10, [some (.ref a0), some (.int l1), some (.int l2), some (.int l3), some (.int l4), some (.int l5)], [], M) = bif z_lt l5 l1 then (some (none, M)) else (bif z_cls zQ M a0 [9] then bif z_cls zQ M (zP zQ M a0 4) [12] then bif z_le (Int32.ofNat (z_ln zQ M (zP zQ M a0 4))) l5 then (some (none, M)) else (bif z_cls zQ M a0 [9] then bif z_ia zQ M (zP zQ M a0 4) 12 l5 then z_denF zQ (d + 1) mS_writeNumber (10, [some (.ref a0), some (.int l1), some (.int l2), some (.int l3), some (.int (l4 >>> ((8 : Int32) &&& 31))), some (.int (l5 + (-1)))], [], z_wI M (zP zQ M a0 4) (Int32.toNatClampNeg l5) ((Int32.toInt8 ((Int32.toInt8 l4).toInt32)).toInt32)) else none else none) else none else none) :=
  (z_J_eq zQ (d + 1) mS_writeNumber tS_writeNumber [10] hS_writeNumber.1 hS_writeNumber.2 30 10 _).trans rfl
set_option maxRecDepth 100000 in
set_option maxHeartbeats 4000000 in
theorem B_S_writeNumber (d : Nat) (a0 : Nat) (p1 : Int32) (p2 : Int32) (p3 : Int32) (M : zM) : z_den zQ (d + 1) mS_writeNumber [.ref a0, .int p1, .int p2, .int p3] M = z_denF zQ (d + 1) mS_writeNumber (10, [some (.ref a0), some (.int p1), some (.int p2), some (.int p3), some (.int p3), some (.int ((p1 + p2) - 1))], [], M) :=
  (z_J_eq zQ (d + 1) mS_writeNumber tS_writeNumber [10] hS_writeNumber.1 hS_writeNumber.2 30 0 (z_ent mS_writeNumber [.ref a0, .int p1, .int p2, .int p3] M)).trans rfl
set_option maxRecDepth 100000 in
set_option maxHeartbeats 4000000 in
theorem hS_elementAt : z_tab mS_elementAt = tS_elementAt ∧ z_inc tS_elementAt 0 = true := ⟨rfl, by decide +kernel⟩
set_option maxRecDepth 100000 in
set_option maxHeartbeats 4000000 in
theorem B_S_elementAt (d : Nat) (a0 : Nat) (p1 : Int32) (M : zM) : z_den zQ (d + 1) mS_elementAt [.ref a0, .int p1] M = bif z_cls zQ M a0 [9] then bif z_cls zQ M a0 [9] then bif z_cls zQ M a0 [9] then z_bI (z_den zQ d mS_numberAt [.ref a0, .int (9 + (p1 <<< ((zI M a0 3) &&& 31))), .int ((1 : Int32) <<< ((zI M a0 3) &&& 31))] M) (fun x1 M2 => bif z_cls zQ M2 a0 [9] then bif z_ne (zI M2 a0 0) 2 then (some (some (.int x1), M2)) else (some (some (.int (x1 &&& 65535)), M2)) else none) else none else none else none :=
  (z_J_eq zQ (d + 1) mS_elementAt tS_elementAt [] hS_elementAt.1 hS_elementAt.2 24 0 (z_ent mS_elementAt [.ref a0, .int p1] M)).trans rfl
set_option maxRecDepth 100000 in
set_option maxHeartbeats 4000000 in
theorem hS_putElement : z_tab mS_putElement = tS_putElement ∧ z_inc tS_putElement 0 = true := ⟨rfl, by decide +kernel⟩
set_option maxRecDepth 100000 in
set_option maxHeartbeats 4000000 in
theorem B_S_putElement (d : Nat) (a0 : Nat) (p1 : Int32) (p2 : Int32) (M : zM) : z_den zQ (d + 1) mS_putElement [.ref a0, .int p1, .int p2] M = bif z_cls zQ M a0 [9] then bif z_cls zQ M a0 [9] then bif z_cls zQ M a0 [9] then z_bV (z_den zQ d mS_writeNumber [.ref a0, .int (9 + (p1 <<< ((zI M a0 3) &&& 31))), .int ((1 : Int32) <<< ((zI M a0 3) &&& 31)), .int p2] M) (fun M1 => some (none, M1)) else none else none else none :=
  (z_J_eq zQ (d + 1) mS_putElement tS_putElement [] hS_putElement.1 hS_putElement.2 15 0 (z_ent mS_putElement [.ref a0, .int p1, .int p2] M)).trans rfl
set_option maxRecDepth 100000 in
set_option maxHeartbeats 4000000 in
theorem hS_sumNow : z_tab mS_sumNow = tS_sumNow ∧ z_inc tS_sumNow 0 = true := ⟨rfl, by decide +kernel⟩
set_option maxRecDepth 100000 in
set_option maxHeartbeats 4000000 in
theorem L_S_sumNow_4 (d : Nat) (a0 : Nat) (l1 : Int32) (l2 : Int32) (M : zM) : z_denF zQ (d + 1) mS_sumNow (4, [some (.ref a0), some (.int l1), some (.int l2)], [], M) = bif z_cls zQ M a0 [9] then bif z_le (zI M a0 5) l2 then (some (some (.int l1), M)) else (bif z_lt l2 5 then (bif z_cls zQ M a0 [9] then bif z_ia zQ M (zP zQ M a0 4) 12 l2 then z_denF zQ (d + 1) mS_sumNow (4, [some (.ref a0), some (.int ((l1 * 31) + (zI M (zP zQ M a0 4) (Int32.toNatClampNeg l2)))), some (.int (l2 + 1))], [], M) else none else none) else (bif z_lt l2 9 then (z_denF zQ (d + 1) mS_sumNow (4, [some (.ref a0), some (.int l1), some (.int (l2 + 1))], [], M)) else (bif z_cls zQ M a0 [9] then bif z_ia zQ M (zP zQ M a0 4) 12 l2 then z_denF zQ (d + 1) mS_sumNow (4, [some (.ref a0), some (.int ((l1 * 31) + (zI M (zP zQ M a0 4) (Int32.toNatClampNeg l2)))), some (.int (l2 + 1))], [], M) else none else none))) else none :=
  (z_J_eq zQ (d + 1) mS_sumNow tS_sumNow [4] hS_sumNow.1 hS_sumNow.2 28 4 _).trans rfl
set_option maxRecDepth 100000 in
set_option maxHeartbeats 4000000 in
theorem B_S_sumNow (d : Nat) (a0 : Nat) (M : zM) : z_den zQ (d + 1) mS_sumNow [.ref a0] M = z_denF zQ (d + 1) mS_sumNow (4, [some (.ref a0), some (.int 1), some (.int 0)], [], M) :=
  (z_J_eq zQ (d + 1) mS_sumNow tS_sumNow [4] hS_sumNow.1 hS_sumNow.2 28 0 (z_ent mS_sumNow [.ref a0] M)).trans rfl
set_option maxRecDepth 100000 in
set_option maxHeartbeats 4000000 in
theorem hS_writeHead : z_tab mS_writeHead = tS_writeHead ∧ z_inc tS_writeHead 0 = true := ⟨rfl, by decide +kernel⟩
set_option maxRecDepth 100000 in
set_option maxHeartbeats 4000000 in
theorem B_S_writeHead (d : Nat) (a0 : Nat) (M : zM) : z_den zQ (d + 1) mS_writeHead [.ref a0] M = bif z_cls zQ M a0 [9] then z_bI (z_den zQ d mJm_max [.int (zI M a0 5), .int 9] M) (fun x1 M2 => bif z_cls zQ M2 a0 [9] then bif z_cls zQ (z_wI M2 a0 5 x1) a0 [9] then bif z_cls zQ (z_wI M2 a0 5 x1) a0 [9] then z_bV (z_den zQ d mS_writeNumber [.ref a0, .int 0, .int 1, .int (zI (z_wI M2 a0 5 x1) a0 0)] (z_wI M2 a0 5 x1)) (fun M3 => bif z_cls zQ M3 a0 [9] then bif z_cls zQ M3 a0 [9] then z_bV (z_den zQ d mS_writeNumber [.ref a0, .int 1, .int 2, .int (zI M3 a0 1)] M3) (fun M4 => bif z_cls zQ M4 a0 [9] then z_bI (z_den zQ d mS_elements [.ref a0] M4) (fun x5 M6 => bif z_cls zQ M6 a0 [9] then z_bV (z_den zQ d mS_writeNumber [.ref a0, .int 3, .int 2, .int x5] M6) (fun M7 => bif z_cls zQ M7 a0 [9] then z_bI (z_den zQ d mS_sumNow [.ref a0] M7) (fun x8 M9 => bif z_cls zQ M9 a0 [9] then z_bV (z_den zQ d mS_writeNumber [.ref a0, .int 5, .int 4, .int x8] M9) (fun M10 => some (none, M10)) else none) else none) else none) else none) else none else none) else none else none else none) else none :=
  (z_J_eq zQ (d + 1) mS_writeHead tS_writeHead [] hS_writeHead.1 hS_writeHead.2 32 0 (z_ent mS_writeHead [.ref a0] M)).trans rfl
set_option maxRecDepth 100000 in
set_option maxHeartbeats 4000000 in
theorem hS_verdict : z_tab mS_verdict = tS_verdict ∧ z_inc tS_verdict 0 = true := ⟨rfl, by decide +kernel⟩
set_option maxRecDepth 100000 in
set_option maxHeartbeats 4000000 in
theorem B_S_verdict (d : Nat) (a0 : Nat) (M : zM) : z_den zQ (d + 1) mS_verdict [.ref a0] M = bif z_cls zQ M a0 [9] then bif z_eq (zI M a0 6) 0 then (bif z_cls zQ M a0 [9] then bif z_le 9 (zI M a0 5) then (bif z_cls zQ M a0 [9] then z_bI (z_den zQ d mS_numberAt [.ref a0, .int 0, .int 1] M) (fun x1 M2 => bif z_cls zQ M2 a0 [9] then bif z_eq x1 (zI M2 a0 0) then (bif z_cls zQ M2 a0 [9] then z_bI (z_den zQ d mS_numberAt [.ref a0, .int 3, .int 2] M2) (fun x3 M4 => bif z_cls zQ M4 a0 [9] then z_bI (z_den zQ d mS_elements [.ref a0] M4) (fun x5 M6 => bif z_le x3 x5 then (bif z_le 0 x3 then (bif z_cls zQ M6 a0 [9] then z_bI (z_den zQ d mS_elements [.ref a0] M6) (fun x7 M8 => bif z_le x7 x3 then (bif z_cls zQ M8 a0 [9] then z_bI (z_den zQ d mS_numberAt [.ref a0, .int 5, .int 4] M8) (fun x9 M10 => bif z_cls zQ M10 a0 [9] then z_bI (z_den zQ d mS_sumNow [.ref a0] M10) (fun x11 M12 => bif z_ne x9 x11 then (some (some (.int 9), M12)) else (some (some (.int 0), M12))) else none) else none) else (some (some (.int 8), M8))) else none) else (some (some (.int 3), M6))) else (some (some (.int 7), M6))) else none) else none) else (some (some (.int 5), M2)) else none) else none) else (some (some (.int 2), M)) else none) else (some (some (.int 1), M)) else none :=
  (z_J_eq zQ (d + 1) mS_verdict tS_verdict [] hS_verdict.1 hS_verdict.2 53 0 (z_ent mS_verdict [.ref a0] M)).trans rfl
set_option maxRecDepth 100000 in
set_option maxHeartbeats 4000000 in
theorem hS_dropAll : z_tab mS_dropAll = tS_dropAll ∧ z_inc tS_dropAll 0 = true := ⟨rfl, by decide +kernel⟩
set_option maxRecDepth 100000 in
set_option maxHeartbeats 4000000 in
theorem B_S_dropAll (d : Nat) (a0 : Nat) (M : zM) : z_den zQ (d + 1) mS_dropAll [.ref a0] M = bif z_cls zQ M a0 [9] then bif z_cls zQ (z_wI M a0 6 1) a0 [9] then some (none, z_wI (z_wI M a0 6 1) a0 5 0) else none else none :=
  (z_J_eq zQ (d + 1) mS_dropAll tS_dropAll [] hS_dropAll.1 hS_dropAll.2 8 0 (z_ent mS_dropAll [.ref a0] M)).trans rfl
set_option maxRecDepth 100000 in
set_option maxHeartbeats 4000000 in
theorem hS_keepFirst : z_tab mS_keepFirst = tS_keepFirst ∧ z_inc tS_keepFirst 0 = true := ⟨rfl, by decide +kernel⟩
set_option maxRecDepth 100000 in
set_option maxHeartbeats 4000000 in
theorem B_S_keepFirst (d : Nat) (a0 : Nat) (p1 : Int32) (M : zM) : z_den zQ (d + 1) mS_keepFirst [.ref a0, .int p1] M = bif z_cls zQ M a0 [9] then bif z_lt p1 (zI M a0 5) then (bif z_lt 9 p1 then (bif z_cls zQ M a0 [9] then bif z_cls zQ M a0 [9] then bif z_cls zQ M a0 [9] then some (none, z_wI M a0 5 (9 + (((p1 - 9) >>> ((zI M a0 3) &&& 31)) <<< ((zI M a0 3) &&& 31)))) else none else none else none) else (bif z_cls zQ M a0 [9] then some (none, z_wI M a0 5 p1) else none)) else (some (none, M)) else none :=
  (z_J_eq zQ (d + 1) mS_keepFirst tS_keepFirst [] hS_keepFirst.1 hS_keepFirst.2 25 0 (z_ent mS_keepFirst [.ref a0, .int p1] M)).trans rfl
set_option maxRecDepth 100000 in
set_option maxHeartbeats 4000000 in
theorem hS_takeBytes : z_tab mS_takeBytes = tS_takeBytes ∧ z_inc tS_takeBytes 0 = true := ⟨rfl, by decide +kernel⟩
set_option maxRecDepth 100000 in
set_option maxHeartbeats 4000000 in
theorem B_S_takeBytes (d : Nat) (a0 : Nat) (a1 : Nat) (M : zM) : z_den zQ (d + 1) mS_takeBytes [.ref a0, .ref a1] M = bif z_cls zQ M a1 [9] then bif z_cls zQ M a0 [9] then bif z_cls zQ M (zP zQ M a0 4) [12] then bif z_le (zI M a1 5) (Int32.ofNat (z_ln zQ M (zP zQ M a0 4))) then (bif z_cls zQ M a1 [9] then bif z_cls zQ M a0 [9] then bif z_cls zQ M (zP zQ M a0 4) [12] then z_bI (z_den zQ d mJm_min [.int (zI M a1 5), .int (Int32.ofNat (z_ln zQ M (zP zQ M a0 4)))] M) (fun x1 M2 => bif z_cls zQ M2 a0 [9] then bif z_cls zQ (z_wI M2 a0 5 x1) a1 [9] then bif z_cls zQ (z_wI M2 a0 5 x1) a0 [9] then bif z_cls zQ (z_wI M2 a0 5 x1) a0 [9] then bif !(Nat.beq (zP zQ M2 a0 4) 56) && z_fits zQ (z_wI M2 a0 5 x1) (zP zQ M2 a1 4) (zP zQ M2 a0 4) 0 0 (zI (z_wI M2 a0 5 x1) a0 5) then bif z_cls zQ (z_cpy (z_wI M2 a0 5 x1) (zP zQ M2 a1 4) (zP zQ M2 a0 4) (Int32.toNatClampNeg 0) (Int32.toNatClampNeg 0) (Int32.toNatClampNeg (zI (z_wI M2 a0 5 x1) a0 5))) a1 [9] then bif decide ((zI (z_cpy (z_wI M2 a0 5 x1) (zP zQ M2 a1 4) (zP zQ M2 a0 4) (Int32.toNatClampNeg 0) (Int32.toNatClampNeg 0) (Int32.toNatClampNeg (zI (z_wI M2 a0 5 x1) a0 5))) a1 6) &&& 1 = (zI (z_cpy (z_wI M2 a0 5 x1) (zP zQ M2 a1 4) (zP zQ M2 a0 4) (Int32.toNatClampNeg 0) (Int32.toNatClampNeg 0) (Int32.toNatClampNeg (zI (z_wI M2 a0 5 x1) a0 5))) a1 6)) && z_cls zQ (z_cpy (z_wI M2 a0 5 x1) (zP zQ M2 a1 4) (zP zQ M2 a0 4) (Int32.toNatClampNeg 0) (Int32.toNatClampNeg 0) (Int32.toNatClampNeg (zI (z_wI M2 a0 5 x1) a0 5))) a0 [9] then some (none, z_wI (z_cpy (z_wI M2 a0 5 x1) (zP zQ M2 a1 4) (zP zQ M2 a0 4) (Int32.toNatClampNeg 0) (Int32.toNatClampNeg 0) (Int32.toNatClampNeg (zI (z_wI M2 a0 5 x1) a0 5))) a0 6 (zI (z_cpy (z_wI M2 a0 5 x1) (zP zQ M2 a1 4) (zP zQ M2 a0 4) (Int32.toNatClampNeg 0) (Int32.toNatClampNeg 0) (Int32.toNatClampNeg (zI (z_wI M2 a0 5 x1) a0 5))) a1 6)) else none else none else none else none else none else none else none) else none else none else none) else (bif z_cls zQ M a0 [9] then bif decide (¬ (9 + ((256 : Int32) <<< ((zI M a0 3) &&& 31))) < 0) && Nat.ble (Int32.toNatClampNeg (9 + ((256 : Int32) <<< ((zI M a0 3) &&& 31)))) 1000000 then bif z_free zQ a0 4 && z_cls zQ (z_nw zQ M (12, Int32.toNatClampNeg (9 + ((256 : Int32) <<< ((zI M a0 3) &&& 31))))) a0 [9] then bif z_cls zQ (z_wP (z_nw zQ M (12, Int32.toNatClampNeg (9 + ((256 : Int32) <<< ((zI M a0 3) &&& 31))))) a0 4 (z_new zQ M)) a1 [9] then bif z_cls zQ (z_wP (z_nw zQ M (12, Int32.toNatClampNeg (9 + ((256 : Int32) <<< ((zI M a0 3) &&& 31))))) a0 4 (z_new zQ M)) a0 [9] then bif z_cls zQ (z_wP (z_nw zQ M (12, Int32.toNatClampNeg (9 + ((256 : Int32) <<< ((zI M a0 3) &&& 31))))) a0 4 (z_new zQ M)) (zP zQ (z_wP (z_nw zQ M (12, Int32.toNatClampNeg (9 + ((256 : Int32) <<< ((zI M a0 3) &&& 31))))) a0 4 (z_new zQ M)) a0 4) [12] then z_bI (z_den zQ d mJm_min [.int (zI (z_nw zQ M (12, Int32.toNatClampNeg (9 + ((256 : Int32) <<< ((zI M a0 3) &&& 31))))) a1 5), .int (Int32.ofNat (z_ln zQ (z_wP (z_nw zQ M (12, Int32.toNatClampNeg (9 + ((256 : Int32) <<< ((zI M a0 3) &&& 31))))) a0 4 (z_new zQ M)) (zP zQ (z_wP (z_nw zQ M (12, Int32.toNatClampNeg (9 + ((256 : Int32) <<< ((zI M a0 3) &&& 31))))) a0 4 (z_new zQ M)) a0 4)))] (z_wP (z_nw zQ M (12, Int32.toNatClampNeg (9 + ((256 : Int32) <<< ((zI M a0 3) &&& 31))))) a0 4 (z_new zQ M))) (fun x3 M4 => bif z_cls zQ M4 a0 [9] then bif z_cls zQ (z_wI M4 a0 5 x3) a1 [9] then bif z_cls zQ (z_wI M4 a0 5 x3) a0 [9] then bif z_cls zQ (z_wI M4 a0 5 x3) a0 [9] then bif !(Nat.beq (zP zQ M4 a0 4) 56) && z_fits zQ (z_wI M4 a0 5 x3) (zP zQ M4 a1 4) (zP zQ M4 a0 4) 0 0 (zI (z_wI M4 a0 5 x3) a0 5) then bif z_cls zQ (z_cpy (z_wI M4 a0 5 x3) (zP zQ M4 a1 4) (zP zQ M4 a0 4) (Int32.toNatClampNeg 0) (Int32.toNatClampNeg 0) (Int32.toNatClampNeg (zI (z_wI M4 a0 5 x3) a0 5))) a1 [9] then bif decide ((zI (z_cpy (z_wI M4 a0 5 x3) (zP zQ M4 a1 4) (zP zQ M4 a0 4) (Int32.toNatClampNeg 0) (Int32.toNatClampNeg 0) (Int32.toNatClampNeg (zI (z_wI M4 a0 5 x3) a0 5))) a1 6) &&& 1 = (zI (z_cpy (z_wI M4 a0 5 x3) (zP zQ M4 a1 4) (zP zQ M4 a0 4) (Int32.toNatClampNeg 0) (Int32.toNatClampNeg 0) (Int32.toNatClampNeg (zI (z_wI M4 a0 5 x3) a0 5))) a1 6)) && z_cls zQ (z_cpy (z_wI M4 a0 5 x3) (zP zQ M4 a1 4) (zP zQ M4 a0 4) (Int32.toNatClampNeg 0) (Int32.toNatClampNeg 0) (Int32.toNatClampNeg (zI (z_wI M4 a0 5 x3) a0 5))) a0 [9] then some (none, z_wI (z_cpy (z_wI M4 a0 5 x3) (zP zQ M4 a1 4) (zP zQ M4 a0 4) (Int32.toNatClampNeg 0) (Int32.toNatClampNeg 0) (Int32.toNatClampNeg (zI (z_wI M4 a0 5 x3) a0 5))) a0 6 (zI (z_cpy (z_wI M4 a0 5 x3) (zP zQ M4 a1 4) (zP zQ M4 a0 4) (Int32.toNatClampNeg 0) (Int32.toNatClampNeg 0) (Int32.toNatClampNeg (zI (z_wI M4 a0 5 x3) a0 5))) a1 6)) else none else none else none else none else none else none else none) else none else none else none else none else none else none) else none else none else none :=
  (z_J_eq zQ (d + 1) mS_takeBytes tS_takeBytes [] hS_takeBytes.1 hS_takeBytes.2 38 0 (z_ent mS_takeBytes [.ref a0, .ref a1] M)).trans rfl
set_option maxRecDepth 100000 in
set_option maxHeartbeats 4000000 in
theorem hS_twin : z_tab mS_twin = tS_twin ∧ z_inc tS_twin 0 = true := ⟨rfl, by decide +kernel⟩
set_option maxRecDepth 100000 in
set_option maxHeartbeats 4000000 in
theorem B_S_twin (d : Nat) (a0 : Nat) (M : zM) : z_den zQ (d + 1) mS_twin [.ref a0] M = bif z_cls zQ (z_nw zQ M (9, 7)) a0 [9] then bif z_cls zQ (z_nw zQ M (9, 7)) a0 [9] then bif z_cls zQ (z_nw zQ M (9, 7)) a0 [9] then bif z_cls zQ (z_nw zQ M (9, 7)) a0 [9] then z_bI (z_den zQ d mS_elements [.ref a0] (z_nw zQ M (9, 7))) (fun x1 M2 => bif z_cls zQ M2 (z_new zQ M) [9] then z_bV (z_den zQ d mS_init [.ref (z_new zQ M), .int (zI (z_nw zQ M (9, 7)) a0 0), .int (zI (z_nw zQ M (9, 7)) a0 1), .int (zI (z_nw zQ M (9, 7)) a0 2), .int x1] M2) (fun M3 => bif z_cls zQ M3 (z_new zQ M) [9] then z_bV (z_den zQ d mS_takeBytes [.ref (z_new zQ M), .ref a0] M3) (fun M4 => some (some (.ref (z_new zQ M)), M4)) else none) else none) else none else none else none else none :=
  (z_J_eq zQ (d + 1) mS_twin tS_twin [] hS_twin.1 hS_twin.2 18 0 (z_ent mS_twin [.ref a0] M)).trans rfl
set_option maxRecDepth 100000 in
set_option maxHeartbeats 4000000 in
theorem hS_hasSpan : z_tab mS_hasSpan = tS_hasSpan ∧ z_inc tS_hasSpan 0 = true := ⟨rfl, by decide +kernel⟩
set_option maxRecDepth 100000 in
set_option maxHeartbeats 4000000 in
theorem B_S_hasSpan (d : Nat) (a0 : Nat) (p1 : Int32) (p2 : Int32) (M : zM) : z_den zQ (d + 1) mS_hasSpan [.ref a0, .int p1, .int p2] M = bif z_lt p2 0 then (some (some (.int 0), M)) else (bif z_lt p1 0 then (some (some (.int 0), M)) else (bif z_cls zQ M a0 [9] then z_bI (z_den zQ d mS_elements [.ref a0] M) (fun x1 M2 => bif z_lt (x1 - p2) p1 then (some (some (.int 0), M2)) else (some (some (.int 1), M2))) else none)) :=
  (z_J_eq zQ (d + 1) mS_hasSpan tS_hasSpan [] hS_hasSpan.1 hS_hasSpan.2 15 0 (z_ent mS_hasSpan [.ref a0, .int p1, .int p2] M)).trans rfl
set_option maxRecDepth 100000 in
set_option maxHeartbeats 4000000 in
theorem hS_takeElements : z_tab mS_takeElements = tS_takeElements ∧ z_inc tS_takeElements 0 = true := ⟨rfl, by decide +kernel⟩
set_option maxRecDepth 100000 in
set_option maxHeartbeats 4000000 in
theorem B_S_takeElements (d : Nat) (a0 : Nat) (p1 : Int32) (a2 : Nat) (p3 : Int32) (p4 : Int32) (M : zM) : z_den zQ (d + 1) mS_takeElements [.ref a0, .int p1, .ref a2, .int p3, .int p4] M = bif z_cls zQ M a2 [9] then bif z_cls zQ M a0 [9] then bif z_cls zQ M a0 [9] then bif z_cls zQ M a0 [9] then bif z_cls zQ M a0 [9] then bif !(Nat.beq (zP zQ M a0 4) 56) && z_fits zQ M (zP zQ M a2 4) (zP zQ M a0 4) (9 + (p3 <<< ((zI M a0 3) &&& 31))) (9 + (p1 <<< ((zI M a0 3) &&& 31))) (p4 <<< ((zI M a0 3) &&& 31)) then some (none, z_cpy M (zP zQ M a2 4) (zP zQ M a0 4) (Int32.toNatClampNeg (9 + (p3 <<< ((zI M a0 3) &&& 31)))) (Int32.toNatClampNeg (9 + (p1 <<< ((zI M a0 3) &&& 31)))) (Int32.toNatClampNeg (p4 <<< ((zI M a0 3) &&& 31)))) else none else none else none else none else none else none :=
  (z_J_eq zQ (d + 1) mS_takeElements tS_takeElements [] hS_takeElements.1 hS_takeElements.2 23 0 (z_ent mS_takeElements [.ref a0, .int p1, .ref a2, .int p3, .int p4] M)).trans rfl
set_option maxRecDepth 100000 in
set_option maxHeartbeats 4000000 in
theorem hS_isLike : z_tab mS_isLike = tS_isLike ∧ z_inc tS_isLike 0 = true := ⟨rfl, by decide +kernel⟩
set_option maxRecDepth 100000 in
set_option maxHeartbeats 4000000 in
theorem L_S_isLike_61 (d : Nat) (a0 : Nat) (a1 : Nat) (l2 : Int32) (M : zM) : z_denF zQ (d + 1) mS_isLike (61, [some (.ref a0), some (.ref a1), some (.int l2)], [], M) = bif z_cls zQ M a0 [9] then bif z_le (zI M a0 5) l2 then (some (some (.int 1), M)) else (bif z_cls zQ M a0 [9] then bif z_ia zQ M (zP zQ M a0 4) 12 l2 then bif z_cls zQ M a1 [9] then bif z_ia zQ M (zP zQ M a1 4) 12 l2 then bif z_eq (zI M (zP zQ M a0 4) (Int32.toNatClampNeg l2)) (zI M (zP zQ M a1 4) (Int32.toNatClampNeg l2)) then (z_denF zQ (d + 1) mS_isLike (61, [some (.ref a0), some (.ref a1), some (.int (l2 + 1))], [], M)) else (some (some (.int 0), M)) else none else none else none else none) else none :=
  (z_J_eq zQ (d + 1) mS_isLike tS_isLike [61] hS_isLike.1 hS_isLike.2 51 61 _).trans rfl
set_option maxRecDepth 100000 in
set_option maxHeartbeats 4000000 in
theorem B_S_isLike (d : Nat) (a0 : Nat) (a1 : Nat) (M : zM) : z_den zQ (d + 1) mS_isLike [.ref a0, .ref a1] M = bif z_cls zQ M a0 [9] then bif z_cls zQ M a1 [9] then bif z_ne (zI M a0 0) (zI M a1 0) then (some (some (.int 0), M)) else (bif z_cls zQ M a0 [9] then bif z_cls zQ M a1 [9] then bif z_ne (zI M a0 1) (zI M a1 1) then (some (some (.int 0), M)) else (bif z_cls zQ M a0 [9] then bif z_cls zQ M a1 [9] then bif z_eq (zI M a0 2) (zI M a1 2) then (bif z_cls zQ M a0 [9] then bif z_cls zQ M a1 [9] then bif z_ne (zI M a0 6) (zI M a1 6) then (some (some (.int 0), M)) else (bif z_cls zQ M a0 [9] then bif z_cls zQ M a1 [9] then bif z_eq (zI M a0 5) (zI M a1 5) then (z_denF zQ (d + 1) mS_isLike (61, [some (.ref a0), some (.ref a1), some (.int 0)], [], M)) else (some (some (.int 0), M)) else none else none) else none else none) else (some (some (.int 0), M)) else none else none) else none else none) else none else none :=
  (z_J_eq zQ (d + 1) mS_isLike tS_isLike [61] hS_isLike.1 hS_isLike.2 51 0 (z_ent mS_isLike [.ref a0, .ref a1] M)).trans rfl
set_option maxRecDepth 100000 in
set_option maxHeartbeats 4000000 in
theorem hS_digestOnto : z_tab mS_digestOnto = tS_digestOnto ∧ z_inc tS_digestOnto 0 = true := ⟨rfl, by decide +kernel⟩
set_option maxRecDepth 100000 in
set_option maxHeartbeats 4000000 in
theorem L_S_digestOnto_32 (d : Nat) (a0 : Nat) (l1 : Int32) (l2 : Int32) (l3 : Int32) (M : zM) : z_denF zQ (d + 1) mS_digestOnto (32, [some (.ref a0), some (.int l1), some (.int l2), some (.int l3)], [], M) = bif z_cls zQ M a0 [9] then bif z_le (zI M a0 5) l3 then (some (some (.int l2), M)) else (bif z_cls zQ M a0 [9] then bif z_ia zQ M (zP zQ M a0 4) 12 l3 then z_denF zQ (d + 1) mS_digestOnto (32, [some (.ref a0), some (.int l1), some (.int ((l2 * 31) + (zI M (zP zQ M a0 4) (Int32.toNatClampNeg l3)))), some (.int (l3 + 1))], [], M) else none else none) else none :=
  (z_J_eq zQ (d + 1) mS_digestOnto tS_digestOnto [32] hS_digestOnto.1 hS_digestOnto.2 41 32 _).trans rfl
set_option maxRecDepth 100000 in
set_option maxHeartbeats 4000000 in
theorem B_S_digestOnto (d : Nat) (a0 : Nat) (p1 : Int32) (M : zM) : z_den zQ (d + 1) mS_digestOnto [.ref a0, .int p1] M = bif z_cls zQ M a0 [9] then bif z_cls zQ M a0 [9] then bif z_cls zQ M a0 [9] then z_denF zQ (d + 1) mS_digestOnto (32, [some (.ref a0), some (.int p1), some (.int ((((((p1 * 31) + (zI M a0 0)) * 31) + (zI M a0 1)) * 31) + (zI M a0 2))), some (.int 0)], [], M) else none else none else none :=
  (z_J_eq zQ (d + 1) mS_digestOnto tS_digestOnto [32] hS_digestOnto.1 hS_digestOnto.2 41 0 (z_ent mS_digestOnto [.ref a0, .int p1] M)).trans rfl
set_option maxRecDepth 100000 in
set_option maxHeartbeats 4000000 in
theorem hL_init : z_tab mL_init = tL_init ∧ z_inc tL_init 0 = true := ⟨rfl, by decide +kernel⟩
set_option maxRecDepth 100000 in
set_option maxHeartbeats 4000000 in
theorem B_L_init (d : Nat) (a0 : Nat) (M : zM) : z_den zQ (d + 1) mL_init [.ref a0] M = bif !(Nat.beq a0 0) then bif z_free zQ a0 0 && z_cls zQ (z_nw zQ M (18, 400)) a0 [8] then bif z_cls zQ (z_wP (z_nw zQ M (18, 400)) a0 0 (z_new zQ M)) a0 [8] then some (none, z_wI (z_wP (z_nw zQ M (18, 400)) a0 0 (z_new zQ M)) a0 1 0) else none else none else none :=
  (z_J_eq zQ (d + 1) mL_init tL_init [] hL_init.1 hL_init.2 11 0 (z_ent mL_init [.ref a0] M)).trans rfl
set_option maxRecDepth 100000 in
set_option maxHeartbeats 4000000 in
theorem hL_stripAt : z_tab mL_stripAt = tL_stripAt ∧ z_inc tL_stripAt 0 = true := ⟨rfl, by decide +kernel⟩
set_option maxRecDepth 100000 in
set_option maxHeartbeats 4000000 in
theorem B_L_stripAt (d : Nat) (a0 : Nat) (p1 : Int32) (M : zM) : z_den zQ (d + 1) mL_stripAt [.ref a0, .int p1] M = bif z_lt p1 0 then (some (some (.ref 0), M)) else (bif z_cls zQ M a0 [8] then bif z_le (zI M a0 1) p1 then (some (some (.ref 0), M)) else (bif z_le 400 p1 then (some (some (.ref 0), M)) else (bif z_cls zQ M a0 [8] then bif z_ia zQ M (zP zQ M a0 0) 18 p1 then some (some (.ref (zP zQ M (zP zQ M a0 0) (Int32.toNatClampNeg p1))), M) else none else none)) else none) :=
  (z_J_eq zQ (d + 1) mL_stripAt tL_stripAt [] hL_stripAt.1 hL_stripAt.2 17 0 (z_ent mL_stripAt [.ref a0, .int p1] M)).trans rfl
set_option maxRecDepth 100000 in
set_option maxHeartbeats 4000000 in
theorem hL_isWhole : z_tab mL_isWhole = tL_isWhole ∧ z_inc tL_isWhole 0 = true := ⟨rfl, by decide +kernel⟩
set_option maxRecDepth 100000 in
set_option maxHeartbeats 4000000 in
theorem B_L_isWhole (d : Nat) (a0 : Nat) (p1 : Int32) (M : zM) : z_den zQ (d + 1) mL_isWhole [.ref a0, .int p1] M = bif z_cls zQ M a0 [8] then z_bR (z_den zQ d mL_stripAt [.ref a0, .int p1] M) (fun x1 M2 => bif Nat.beq x1 0 then (some (some (.int 0), M2)) else (bif z_cls zQ M2 x1 [9] then z_bI (z_den zQ d mS_verdict [.ref x1] M2) (fun x3 M4 => bif z_ne x3 0 then (some (some (.int 0), M4)) else (some (some (.int 1), M4))) else none)) else none :=
  (z_J_eq zQ (d + 1) mL_isWhole tL_isWhole [] hL_isWhole.1 hL_isWhole.2 14 0 (z_ent mL_isWhole [.ref a0, .int p1] M)).trans rfl
set_option maxRecDepth 100000 in
set_option maxHeartbeats 4000000 in
theorem hL_append : z_tab mL_append = tL_append ∧ z_inc tL_append 0 = true := ⟨rfl, by decide +kernel⟩
set_option maxRecDepth 100000 in
set_option maxHeartbeats 4000000 in
theorem B_L_append (d : Nat) (a0 : Nat) (a1 : Nat) (M : zM) : z_den zQ (d + 1) mL_append [.ref a0, .ref a1] M = bif z_cls zQ M a0 [8] then bif z_lt (zI M a0 1) 400 then (bif z_cls zQ M a0 [8] then bif z_cls zQ M a0 [8] then bif z_free zQ (zP zQ M a0 0) (Int32.toNatClampNeg (zI M a0 1)) && (((Nat.beq a1 0 || z_cls zQ M a1 [9]) && z_ia zQ M (zP zQ M a0 0) 18 (zI M a0 1))) then bif z_cls zQ (z_wP M (zP zQ M a0 0) (Int32.toNatClampNeg (zI M a0 1)) a1) a0 [8] then bif z_cls zQ (z_wP M (zP zQ M a0 0) (Int32.toNatClampNeg (zI M a0 1)) a1) a0 [8] then some (none, z_wI (z_wP M (zP zQ M a0 0) (Int32.toNatClampNeg (zI M a0 1)) a1) a0 1 ((zI M a0 1) + 1)) else none else none else none else none else none) else (some (none, M)) else none :=
  (z_J_eq zQ (d + 1) mL_append tL_append [] hL_append.1 hL_append.2 19 0 (z_ent mL_append [.ref a0, .ref a1] M)).trans rfl
set_option maxRecDepth 100000 in
set_option maxHeartbeats 4000000 in
theorem hL_put : z_tab mL_put = tL_put ∧ z_inc tL_put 0 = true := ⟨rfl, by decide +kernel⟩
set_option maxRecDepth 100000 in
set_option maxHeartbeats 4000000 in
theorem B_L_put (d : Nat) (a0 : Nat) (p1 : Int32) (a2 : Nat) (M : zM) : z_den zQ (d + 1) mL_put [.ref a0, .int p1, .ref a2] M = bif z_lt p1 0 then (some (none, M)) else (bif z_cls zQ M a0 [8] then bif z_le (zI M a0 1) p1 then (some (none, M)) else (bif z_le 400 p1 then (some (none, M)) else (bif z_cls zQ M a0 [8] then bif z_free zQ (zP zQ M a0 0) (Int32.toNatClampNeg p1) && (((Nat.beq a2 0 || z_cls zQ M a2 [9]) && z_ia zQ M (zP zQ M a0 0) 18 p1)) then some (none, z_wP M (zP zQ M a0 0) (Int32.toNatClampNeg p1) a2) else none else none)) else none) :=
  (z_J_eq zQ (d + 1) mL_put tL_put [] hL_put.1 hL_put.2 16 0 (z_ent mL_put [.ref a0, .int p1, .ref a2] M)).trans rfl
set_option maxRecDepth 100000 in
set_option maxHeartbeats 4000000 in
theorem hL_makeRoom : z_tab mL_makeRoom = tL_makeRoom ∧ z_inc tL_makeRoom 0 = true := ⟨rfl, by decide +kernel⟩
set_option maxRecDepth 100000 in
set_option maxHeartbeats 4000000 in
theorem L_L_makeRoom_28 (d : Nat) (a0 : Nat) (l1 : Int32) (l2 : Int32) (l3 : Int32) (M : zM) : z_denF zQ (d + 1) mL_makeRoom (28, [some (.ref a0), some (.int l1), some (.int l2), some (.int l3)], [], M) = bif z_lt l3 l1 then (bif z_cls zQ M a0 [8] then bif z_cls zQ M a0 [8] then some (none, z_wI M a0 1 ((zI M a0 1) + l2)) else none else none) else (bif z_cls zQ M a0 [8] then bif z_cls zQ M a0 [8] then bif z_ia zQ M (zP zQ M a0 0) 18 l3 then bif z_free zQ (zP zQ M a0 0) (Int32.toNatClampNeg (l3 + l2)) && (((Nat.beq (zP zQ M (zP zQ M a0 0) (Int32.toNatClampNeg l3)) 0 || z_cls zQ M (zP zQ M (zP zQ M a0 0) (Int32.toNatClampNeg l3)) [9]) && z_ia zQ M (zP zQ M a0 0) 18 (l3 + l2))) then z_denF zQ (d + 1) mL_makeRoom (28, [some (.ref a0), some (.int l1), some (.int l2), some (.int (l3 + (-1)))], [], z_wP M (zP zQ M a0 0) (Int32.toNatClampNeg (l3 + l2)) (zP zQ M (zP zQ M a0 0) (Int32.toNatClampNeg l3))) else none else none else none else none) :=
  (z_J_eq zQ (d + 1) mL_makeRoom tL_makeRoom [28] hL_makeRoom.1 hL_makeRoom.2 39 28 _).trans rfl
set_option maxRecDepth 100000 in
set_option maxHeartbeats 4000000 in
theorem B_L_makeRoom (d : Nat) (a0 : Nat) (p1 : Int32) (p2 : Int32) (M : zM) : z_den zQ (d + 1) mL_makeRoom [.ref a0, .int p1, .int p2] M = bif z_lt p1 0 then (some (none, M)) else (bif z_lt p2 0 then (some (none, M)) else (bif z_cls zQ M a0 [8] then bif z_le p2 (400 - (zI M a0 1)) then (bif z_cls zQ M a0 [8] then z_denF zQ (d + 1) mL_makeRoom (28, [some (.ref a0), some (.int p1), some (.int p2), some (.int ((zI M a0 1) - 1))], [], M) else none) else (some (none, M)) else none)) :=
  (z_J_eq zQ (d + 1) mL_makeRoom tL_makeRoom [28] hL_makeRoom.1 hL_makeRoom.2 39 0 (z_ent mL_makeRoom [.ref a0, .int p1, .int p2] M)).trans rfl
set_option maxRecDepth 100000 in
set_option maxHeartbeats 4000000 in
theorem hL_elementsIn : z_tab mL_elementsIn = tL_elementsIn ∧ z_inc tL_elementsIn 0 = true := ⟨rfl, by decide +kernel⟩
set_option maxRecDepth 100000 in
set_option maxHeartbeats 4000000 in
theorem L_L_elementsIn_5 (d : Nat) (a0 : Nat) (l1 : Int32) (l2 : Int32) (l3 : Int32) (l4 : Int32) (o5 : Option Value) (M : zM) : z_denF zQ (d + 1) mL_elementsIn (5, [some (.ref a0), some (.int l1), some (.int l2), some (.int l3), some (.int l4), o5], [], M) = bif z_le l2 l4 then (some (some (.int l3), M)) else (bif z_cls zQ M a0 [8] then z_bR (z_den zQ d mL_stripAt [.ref a0, .int (l1 + l4)] M) (fun x1 M2 => bif Nat.beq x1 0 then (z_denF zQ (d + 1) mL_elementsIn (5, [some (.ref a0), some (.int l1), some (.int l2), some (.int l3), some (.int (l4 + 1)), some (.ref x1)], [], M2)) else (bif z_cls zQ M2 x1 [9] then z_bI (z_den zQ d mS_elements [.ref x1] M2) (fun x3 M4 => z_denF zQ (d + 1) mL_elementsIn (5, [some (.ref a0), some (.int l1), some (.int l2), some (.int (l3 + x3)), some (.int (l4 + 1)), some (.ref x1)], [], M4)) else none)) else none) :=
  (z_J_eq zQ (d + 1) mL_elementsIn tL_elementsIn [5] hL_elementsIn.1 hL_elementsIn.2 25 5 _).trans rfl
set_option maxRecDepth 100000 in
set_option maxHeartbeats 4000000 in
theorem B_L_elementsIn (d : Nat) (a0 : Nat) (p1 : Int32) (p2 : Int32) (M : zM) : z_den zQ (d + 1) mL_elementsIn [.ref a0, .int p1, .int p2] M = z_denF zQ (d + 1) mL_elementsIn (5, [some (.ref a0), some (.int p1), some (.int p2), some (.int 0), some (.int 0), none], [], M) :=
  (z_J_eq zQ (d + 1) mL_elementsIn tL_elementsIn [5] hL_elementsIn.1 hL_elementsIn.2 25 0 (z_ent mL_elementsIn [.ref a0, .int p1, .int p2] M)).trans rfl
set_option maxRecDepth 100000 in
set_option maxHeartbeats 4000000 in
theorem hL_splitAt : z_tab mL_splitAt = tL_splitAt ∧ z_inc tL_splitAt 0 = true := ⟨rfl, by decide +kernel⟩
set_option maxRecDepth 100000 in
set_option maxHeartbeats 4000000 in
theorem L_L_splitAt_17 (d : Nat) (a0 : Nat) (l1 : Int32) (a2 : Nat) (l3 : Int32) (l4 : Int32) (M : zM) : z_denF zQ (d + 1) mL_splitAt (17, [some (.ref a0), some (.int l1), some (.ref a2), some (.int l3), some (.int l4)], [], M) = bif z_cls zQ M a0 [8] then bif z_le (zI M a0 1) l4 then (bif z_cls zQ M a0 [8] then z_bI (z_den zQ d mJm_min [.int l3, .int (zI M a0 1)] M) (fun x1 M2 => bif z_cls zQ M2 a0 [8] then some (some (.ref a2), z_wI M2 a0 1 x1) else none) else none) else (bif z_cls zQ M a0 [8] then z_bR (z_den zQ d mL_stripAt [.ref a0, .int l4] M) (fun x3 M4 => bif z_cls zQ M4 a2 [8] then z_bV (z_den zQ d mL_append [.ref a2, .ref x3] M4) (fun M5 => z_denF zQ (d + 1) mL_splitAt (17, [some (.ref a0), some (.int l1), some (.ref a2), some (.int l3), some (.int (l4 + 1))], [], M5)) else none) else none) else none :=
  (z_J_eq zQ (d + 1) mL_splitAt tL_splitAt [17] hL_splitAt.1 hL_splitAt.2 30 17 _).trans rfl
set_option maxRecDepth 100000 in
set_option maxHeartbeats 4000000 in
theorem B_L_splitAt (d : Nat) (a0 : Nat) (p1 : Int32) (M : zM) : z_den zQ (d + 1) mL_splitAt [.ref a0, .int p1] M = bif z_cls zQ (z_nw zQ M (8, 2)) (z_new zQ M) [8] then z_bV (z_den zQ d mL_init [.ref (z_new zQ M)] (z_nw zQ M (8, 2))) (fun M1 => z_bI (z_den zQ d mJm_max [.int p1, .int 0] M1) (fun x2 M3 => z_denF zQ (d + 1) mL_splitAt (17, [some (.ref a0), some (.int p1), some (.ref (z_new zQ M)), some (.int x2), some (.int x2)], [], M3))) else none :=
  (z_J_eq zQ (d + 1) mL_splitAt tL_splitAt [17] hL_splitAt.1 hL_splitAt.2 30 0 (z_ent mL_splitAt [.ref a0, .int p1] M)).trans rfl
