/-! WHAT THE METHODS DO, printed by a program (wip/gen/emitB.py), held against the small machine by rfl. -/
set_option maxRecDepth 100000 in
set_option maxHeartbeats 4000000 in
theorem hN_init : z_tab mN_init = tN_init ∧ z_inc tN_init 0 = true := ⟨rfl, by decide +kernel⟩
set_option maxRecDepth 100000 in
set_option maxHeartbeats 4000000 in
theorem B_N_init (d : Nat) (a0 : Nat) (p1 : Int32) (p2 : Int32) (M : zM) : z_den zQ (d + 1) mN_init [.ref a0, .int p1, .int p2] M = bif !(Nat.beq a0 0) then bif z_cls zQ M a0 [0, 1, 2, 3, 5, 6, 7] then bif z_cls zQ (z_wI M a0 2 1) a0 [0, 1, 2, 3, 5, 6, 7] then bif z_cls zQ (z_wI (z_wI M a0 2 1) a0 3 1) a0 [0, 1, 2, 3, 5, 6, 7] then bif z_cls zQ (z_wI (z_wI (z_wI M a0 2 1) a0 3 1) a0 4 1) a0 [0, 1, 2, 3, 5, 6, 7] then bif z_cls zQ (z_wI (z_wI (z_wI (z_wI M a0 2 1) a0 3 1) a0 4 1) a0 0 p1) a0 [0, 1, 2, 3, 5, 6, 7] then some (none, z_wI (z_wI (z_wI (z_wI (z_wI M a0 2 1) a0 3 1) a0 4 1) a0 0 p1) a0 1 p2) else none else none else none else none else none else none :=
  (z_J_eq zQ (d + 1) mN_init tN_init [] hN_init.1 hN_init.2 19 0 (z_ent mN_init [.ref a0, .int p1, .int p2] M)).trans rfl
set_option maxRecDepth 100000 in
set_option maxHeartbeats 4000000 in
theorem hN_pitch : z_tab mN_pitch = tN_pitch ∧ z_inc tN_pitch 0 = true := ⟨rfl, by decide +kernel⟩
set_option maxRecDepth 100000 in
set_option maxHeartbeats 4000000 in
theorem B_N_pitch (d : Nat) (a0 : Nat) (p1 : UInt64) (a2 : Nat) (p3 : Int32) (M : zM) : z_den zQ (d + 1) mN_pitch [.ref a0, .double p1, .ref a2, .int p3] M = some (some (.double 13830554455654793216), M) :=
  (z_J_eq zQ (d + 1) mN_pitch tN_pitch [] hN_pitch.1 hN_pitch.2 3 0 (z_ent mN_pitch [.ref a0, .double p1, .ref a2, .int p3] M)).trans rfl
set_option maxRecDepth 100000 in
set_option maxHeartbeats 4000000 in
theorem hN_ratioOf : z_tab mN_ratioOf = tN_ratioOf ∧ z_inc tN_ratioOf 0 = true := ⟨rfl, by decide +kernel⟩
set_option maxRecDepth 100000 in
set_option maxHeartbeats 4000000 in
theorem B_N_ratioOf (d : Nat) (a0 : Nat) (p1 : UInt64) (M : zM) : z_den zQ (d + 1) mN_ratioOf [.ref a0, .double p1] M = bif z_cls zQ M a0 [0, 1, 2, 3, 5, 6, 7] then bif z_ne (zI M a0 4) 0 then (bif z_cls zQ M a0 [0, 1, 2, 3, 5, 6, 7] then bif z_cls zQ M a0 [0, 1, 2, 3, 5, 6, 7] then bif z_num (zf_div.1 (zf_i2d.1 (zI M a0 3)) (zf_i2d.1 (zI M a0 4))) then bif z_num (zf_mul.1 p1 (zf_div.1 (zf_i2d.1 (zI M a0 3)) (zf_i2d.1 (zI M a0 4)))) then some (some (.double (zf_mul.1 p1 (zf_div.1 (zf_i2d.1 (zI M a0 3)) (zf_i2d.1 (zI M a0 4))))), M) else none else none else none else none) else (some (some (.double 13830554455654793216), M)) else none :=
  (z_J_eq zQ (d + 1) mN_ratioOf tN_ratioOf [] hN_ratioOf.1 hN_ratioOf.2 16 0 (z_ent mN_ratioOf [.ref a0, .double p1] M)).trans rfl
set_option maxRecDepth 100000 in
set_option maxHeartbeats 4000000 in
theorem hN_isOf : z_tab mN_isOf = tN_isOf ∧ z_inc tN_isOf 0 = true := ⟨rfl, by decide +kernel⟩
set_option maxRecDepth 100000 in
set_option maxHeartbeats 4000000 in
theorem B_N_isOf (d : Nat) (a0 : Nat) (p1 : Int32) (M : zM) : z_den zQ (d + 1) mN_isOf [.ref a0, .int p1] M = bif z_eq p1 7 then (some (some (.int 1), M)) else (bif z_cls zQ M a0 [0, 1, 2, 3, 5, 6, 7] then bif z_ne p1 (zI M a0 1) then (bif z_ne p1 0 then (bif z_ne p1 1 then (bif z_ne p1 4 then (some (some (.int 0), M)) else (bif z_cls zQ M a0 [0, 1, 2, 3, 5, 6, 7] then bif z_ne (zI M a0 1) 5 then (some (some (.int 0), M)) else (some (some (.int 1), M)) else none)) else (bif z_cls zQ M a0 [0, 1, 2, 3, 5, 6, 7] then bif z_ne (zI M a0 1) 2 then (some (some (.int 0), M)) else (some (some (.int 1), M)) else none)) else (bif z_cls zQ M a0 [0, 1, 2, 3, 5, 6, 7] then bif z_eq (zI M a0 1) 1 then (some (some (.int 1), M)) else (bif z_cls zQ M a0 [0, 1, 2, 3, 5, 6, 7] then bif z_ne (zI M a0 1) 2 then (some (some (.int 0), M)) else (some (some (.int 1), M)) else none) else none)) else (some (some (.int 1), M)) else none) :=
  (z_J_eq zQ (d + 1) mN_isOf tN_isOf [] hN_isOf.1 hN_isOf.2 46 0 (z_ent mN_isOf [.ref a0, .int p1] M)).trans rfl
set_option maxRecDepth 100000 in
set_option maxHeartbeats 4000000 in
theorem hN_timesWithin : z_tab mN_timesWithin = tN_timesWithin ∧ z_inc tN_timesWithin 0 = true := ⟨rfl, by decide +kernel⟩
set_option maxRecDepth 100000 in
set_option maxHeartbeats 4000000 in
theorem B_N_timesWithin (d : Nat) (a0 : Nat) (p1 : Int32) (p2 : Int32) (M : zM) : z_den zQ (d + 1) mN_timesWithin [.ref a0, .int p1, .int p2] M = bif z_cls zQ M a0 [0, 1, 2, 3, 5, 6, 7] then bif z_ne (zI M a0 0) p1 then (some (some (.int 0), M)) else (some (some (.int 1), M)) else none :=
  (z_J_eq zQ (d + 1) mN_timesWithin tN_timesWithin [] hN_timesWithin.1 hN_timesWithin.2 9 0 (z_ent mN_timesWithin [.ref a0, .int p1, .int p2] M)).trans rfl
set_option maxRecDepth 100000 in
set_option maxHeartbeats 4000000 in
theorem hPipe_init : z_tab mPipe_init = tPipe_init ∧ z_inc tPipe_init 0 = true := ⟨rfl, by decide +kernel⟩
set_option maxRecDepth 100000 in
set_option maxHeartbeats 4000000 in
theorem B_Pipe_init (d : Nat) (a0 : Nat) (p1 : Int32) (p2 : Int32) (M : zM) : z_den zQ (d + 1) mPipe_init [.ref a0, .int p1, .int p2] M = bif z_cls zQ M a0 [0, 1, 2, 3, 5, 6, 7] then z_bV (z_den zQ d mN_init [.ref a0, .int p1, .int p2] M) (fun M1 => some (none, M1)) else none :=
  (z_J_eq zQ (d + 1) mPipe_init tPipe_init [] hPipe_init.1 hPipe_init.2 6 0 (z_ent mPipe_init [.ref a0, .int p1, .int p2] M)).trans rfl
set_option maxRecDepth 100000 in
set_option maxHeartbeats 4000000 in
theorem hPipe_air : z_tab mPipe_air = tPipe_air ∧ z_inc tPipe_air 0 = true := ⟨rfl, by decide +kernel⟩
set_option maxRecDepth 100000 in
set_option maxHeartbeats 4000000 in
theorem B_Pipe_air (d : Nat) (a0 : Nat) (p1 : Int32) (a2 : Nat) (M : zM) : z_den zQ (d + 1) mPipe_air [.ref a0, .int p1, .ref a2] M = bif z_ia zQ M a2 14 6 then bif !(Nat.beq a2 56) && z_ia zQ M a2 14 6 then some (some (.int (3 + p1)), z_wI M a2 (Int32.toNatClampNeg 6) ((zI M a2 (Int32.toNatClampNeg 6)) + 1)) else none else none :=
  (z_J_eq zQ (d + 1) mPipe_air tPipe_air [] hPipe_air.1 hPipe_air.2 12 0 (z_ent mPipe_air [.ref a0, .int p1, .ref a2] M)).trans rfl
set_option maxRecDepth 100000 in
set_option maxHeartbeats 4000000 in
theorem hPipe_loudness : z_tab mPipe_loudness = tPipe_loudness ∧ z_inc tPipe_loudness 0 = true := ⟨rfl, by decide +kernel⟩
set_option maxRecDepth 100000 in
set_option maxHeartbeats 4000000 in
theorem B_Pipe_loudness (d : Nat) (a0 : Nat) (p1 : Int32) (p2 : Int32) (p3 : Int32) (a4 : Nat) (M : zM) : z_den zQ (d + 1) mPipe_loudness [.ref a0, .int p1, .int p2, .int p3, .ref a4] M = bif z_ia zQ M a4 14 0 then bif !(Nat.beq a4 56) && z_ia zQ M a4 14 0 then bif z_okU zQ (z_wI M a4 (Int32.toNatClampNeg 0) ((zI M a4 (Int32.toNatClampNeg 0)) + 1)) a0 [(0, 147), (5, 140), (7, 140)] then z_bI (z_den zQ d (z_selU zQ (z_wI M a4 (Int32.toNatClampNeg 0) ((zI M a4 (Int32.toNatClampNeg 0)) + 1)) a0 [(0, 147), (5, 140), (7, 140)]) [.ref a0, .int p3, .ref a4] (z_wI M a4 (Int32.toNatClampNeg 0) ((zI M a4 (Int32.toNatClampNeg 0)) + 1))) (fun x1 M2 => some (some (.int (p1 + x1)), M2)) else none else none else none :=
  (z_J_eq zQ (d + 1) mPipe_loudness tPipe_loudness [] hPipe_loudness.1 hPipe_loudness.2 15 0 (z_ent mPipe_loudness [.ref a0, .int p1, .int p2, .int p3, .ref a4] M)).trans rfl
set_option maxRecDepth 100000 in
set_option maxHeartbeats 4000000 in
theorem hPipe_pitch : z_tab mPipe_pitch = tPipe_pitch ∧ z_inc tPipe_pitch 0 = true := ⟨rfl, by decide +kernel⟩
set_option maxRecDepth 100000 in
set_option maxHeartbeats 4000000 in
theorem B_Pipe_pitch (d : Nat) (a0 : Nat) (p1 : UInt64) (a2 : Nat) (p3 : Int32) (M : zM) : z_den zQ (d + 1) mPipe_pitch [.ref a0, .double p1, .ref a2, .int p3] M = bif z_ia zQ M a2 14 8 then bif !(Nat.beq a2 56) && z_ia zQ M a2 14 8 then bif z_okU zQ (z_wI M a2 (Int32.toNatClampNeg 8) ((zI M a2 (Int32.toNatClampNeg 8)) + 1)) a0 [(0, 136), (5, 136), (7, 136)] then z_bD (z_den zQ d (z_selU zQ (z_wI M a2 (Int32.toNatClampNeg 8) ((zI M a2 (Int32.toNatClampNeg 8)) + 1)) a0 [(0, 136), (5, 136), (7, 136)]) [.ref a0, .double p1] (z_wI M a2 (Int32.toNatClampNeg 8) ((zI M a2 (Int32.toNatClampNeg 8)) + 1))) (fun x1 M2 => some (some (.double x1), M2)) else none else none else none :=
  (z_J_eq zQ (d + 1) mPipe_pitch tPipe_pitch [] hPipe_pitch.1 hPipe_pitch.2 12 0 (z_ent mPipe_pitch [.ref a0, .double p1, .ref a2, .int p3] M)).trans rfl
set_option maxRecDepth 100000 in
set_option maxHeartbeats 4000000 in
theorem hReed_init : z_tab mReed_init = tReed_init ∧ z_inc tReed_init 0 = true := ⟨rfl, by decide +kernel⟩
set_option maxRecDepth 100000 in
set_option maxHeartbeats 4000000 in
theorem B_Reed_init (d : Nat) (a0 : Nat) (p1 : Int32) (p2 : Int32) (M : zM) : z_den zQ (d + 1) mReed_init [.ref a0, .int p1, .int p2] M = bif z_cls zQ M a0 [0, 5, 7] then z_bV (z_den zQ d mPipe_init [.ref a0, .int p1, .int p2] M) (fun M1 => some (none, M1)) else none :=
  (z_J_eq zQ (d + 1) mReed_init tReed_init [] hReed_init.1 hReed_init.2 6 0 (z_ent mReed_init [.ref a0, .int p1, .int p2] M)).trans rfl
set_option maxRecDepth 100000 in
set_option maxHeartbeats 4000000 in
theorem hReed_loudness : z_tab mReed_loudness = tReed_loudness ∧ z_inc tReed_loudness 0 = true := ⟨rfl, by decide +kernel⟩
set_option maxRecDepth 100000 in
set_option maxHeartbeats 4000000 in
theorem B_Reed_loudness (d : Nat) (a0 : Nat) (p1 : Int32) (p2 : Int32) (p3 : Int32) (a4 : Nat) (M : zM) : z_den zQ (d + 1) mReed_loudness [.ref a0, .int p1, .int p2, .int p3, .ref a4] M = bif z_ia zQ M a4 14 1 then bif !(Nat.beq a4 56) && z_ia zQ M a4 14 1 then bif z_cls zQ (z_wI M a4 (Int32.toNatClampNeg 1) ((zI M a4 (Int32.toNatClampNeg 1)) + 1)) a0 [0, 5, 7] then z_bI (z_den zQ d mPipe_loudness [.ref a0, .int p1, .int p2, .int p3, .ref a4] (z_wI M a4 (Int32.toNatClampNeg 1) ((zI M a4 (Int32.toNatClampNeg 1)) + 1))) (fun x1 M2 => some (some (.int (x1 + 7)), M2)) else none else none else none :=
  (z_J_eq zQ (d + 1) mReed_loudness tReed_loudness [] hReed_loudness.1 hReed_loudness.2 17 0 (z_ent mReed_loudness [.ref a0, .int p1, .int p2, .int p3, .ref a4] M)).trans rfl
set_option maxRecDepth 100000 in
set_option maxHeartbeats 4000000 in
theorem hReed_pitch : z_tab mReed_pitch = tReed_pitch ∧ z_inc tReed_pitch 0 = true := ⟨rfl, by decide +kernel⟩
set_option maxRecDepth 100000 in
set_option maxHeartbeats 4000000 in
theorem B_Reed_pitch (d : Nat) (a0 : Nat) (p1 : UInt64) (a2 : Nat) (p3 : Int32) (M : zM) : z_den zQ (d + 1) mReed_pitch [.ref a0, .double p1, .ref a2, .int p3] M = bif z_ia zQ M a2 14 9 then bif !(Nat.beq a2 56) && z_ia zQ M a2 14 9 then bif z_cls zQ (z_wI M a2 (Int32.toNatClampNeg 9) ((zI M a2 (Int32.toNatClampNeg 9)) + 1)) a0 [0, 5, 7] then z_bD (z_den zQ d mPipe_pitch [.ref a0, .double p1, .ref a2, .int p3] (z_wI M a2 (Int32.toNatClampNeg 9) ((zI M a2 (Int32.toNatClampNeg 9)) + 1))) (fun x1 M2 => bif z_le 0 (zf_cmp.1 .g x1 0) then (bif z_num (zf_div.1 x1 4611686018427387904) then some (some (.double (zf_div.1 x1 4611686018427387904)), M2) else none) else (some (some (.double x1), M2))) else none else none else none :=
  (z_J_eq zQ (d + 1) mReed_pitch tReed_pitch [] hReed_pitch.1 hReed_pitch.2 24 0 (z_ent mReed_pitch [.ref a0, .double p1, .ref a2, .int p3] M)).trans rfl
set_option maxRecDepth 100000 in
set_option maxHeartbeats 4000000 in
theorem hBass_init : z_tab mBass_init = tBass_init ∧ z_inc tBass_init 0 = true := ⟨rfl, by decide +kernel⟩
set_option maxRecDepth 100000 in
set_option maxHeartbeats 4000000 in
theorem B_Bass_init (d : Nat) (a0 : Nat) (p1 : Int32) (M : zM) : z_den zQ (d + 1) mBass_init [.ref a0, .int p1] M = bif z_cls zQ M a0 [0, 7] then z_bV (z_den zQ d mReed_init [.ref a0, .int p1, .int 2] M) (fun M1 => some (none, M1)) else none :=
  (z_J_eq zQ (d + 1) mBass_init tBass_init [] hBass_init.1 hBass_init.2 6 0 (z_ent mBass_init [.ref a0, .int p1] M)).trans rfl
set_option maxRecDepth 100000 in
set_option maxHeartbeats 4000000 in
theorem hBass_air : z_tab mBass_air = tBass_air ∧ z_inc tBass_air 0 = true := ⟨rfl, by decide +kernel⟩
set_option maxRecDepth 100000 in
set_option maxHeartbeats 4000000 in
theorem B_Bass_air (d : Nat) (a0 : Nat) (p1 : Int32) (a2 : Nat) (M : zM) : z_den zQ (d + 1) mBass_air [.ref a0, .int p1, .ref a2] M = bif z_ia zQ M a2 14 7 then bif !(Nat.beq a2 56) && z_ia zQ M a2 14 7 then bif z_cls zQ (z_wI M a2 (Int32.toNatClampNeg 7) ((zI M a2 (Int32.toNatClampNeg 7)) + 1)) a0 [0, 7] then z_bI (z_den zQ d mPipe_air [.ref a0, .int p1, .ref a2] (z_wI M a2 (Int32.toNatClampNeg 7) ((zI M a2 (Int32.toNatClampNeg 7)) + 1))) (fun x1 M2 => some (some (.int (2 * x1)), M2)) else none else none else none :=
  (z_J_eq zQ (d + 1) mBass_air tBass_air [] hBass_air.1 hBass_air.2 15 0 (z_ent mBass_air [.ref a0, .int p1, .ref a2] M)).trans rfl
set_option maxRecDepth 100000 in
set_option maxHeartbeats 4000000 in
theorem hBass_pitch : z_tab mBass_pitch = tBass_pitch ∧ z_inc tBass_pitch 0 = true := ⟨rfl, by decide +kernel⟩
set_option maxRecDepth 100000 in
set_option maxHeartbeats 4000000 in
theorem B_Bass_pitch (d : Nat) (a0 : Nat) (p1 : UInt64) (a2 : Nat) (p3 : Int32) (M : zM) : z_den zQ (d + 1) mBass_pitch [.ref a0, .double p1, .ref a2, .int p3] M = bif z_ia zQ M a2 14 10 then bif !(Nat.beq a2 56) && z_ia zQ M a2 14 10 then bif z_cls zQ (z_wI M a2 (Int32.toNatClampNeg 10) ((zI M a2 (Int32.toNatClampNeg 10)) + 1)) a0 [0, 7] then z_bD (z_den zQ d mReed_pitch [.ref a0, .double p1, .ref a2, .int p3] (z_wI M a2 (Int32.toNatClampNeg 10) ((zI M a2 (Int32.toNatClampNeg 10)) + 1))) (fun x1 M2 => bif z_le 0 (zf_cmp.1 .g x1 0) then (bif z_num (zf_mul.1 x1 4616189618054758400) then bif z_num (zf_div.1 (zf_l2d.1 (zf_d2l.1 (zf_mul.1 x1 4616189618054758400))) 4616189618054758400) then some (some (.double (zf_div.1 (zf_l2d.1 (zf_d2l.1 (zf_mul.1 x1 4616189618054758400))) 4616189618054758400)), M2) else none else none) else (some (some (.double x1), M2))) else none else none else none :=
  (z_J_eq zQ (d + 1) mBass_pitch tBass_pitch [] hBass_pitch.1 hBass_pitch.2 28 0 (z_ent mBass_pitch [.ref a0, .double p1, .ref a2, .int p3] M)).trans rfl
set_option maxRecDepth 100000 in
set_option maxHeartbeats 4000000 in
theorem hDrum_init : z_tab mDrum_init = tDrum_init ∧ z_inc tDrum_init 0 = true := ⟨rfl, by decide +kernel⟩
set_option maxRecDepth 100000 in
set_option maxHeartbeats 4000000 in
theorem B_Drum_init (d : Nat) (a0 : Nat) (p1 : Int32) (M : zM) : z_den zQ (d + 1) mDrum_init [.ref a0, .int p1] M = bif z_cls zQ M a0 [0, 1, 2, 3, 5, 6, 7] then z_bV (z_den zQ d mN_init [.ref a0, .int p1, .int 3] M) (fun M1 => some (none, M1)) else none :=
  (z_J_eq zQ (d + 1) mDrum_init tDrum_init [] hDrum_init.1 hDrum_init.2 6 0 (z_ent mDrum_init [.ref a0, .int p1] M)).trans rfl
set_option maxRecDepth 100000 in
set_option maxHeartbeats 4000000 in
theorem hDrum_loudness : z_tab mDrum_loudness = tDrum_loudness ∧ z_inc tDrum_loudness 0 = true := ⟨rfl, by decide +kernel⟩
set_option maxRecDepth 100000 in
set_option maxHeartbeats 4000000 in
theorem B_Drum_loudness (d : Nat) (a0 : Nat) (p1 : Int32) (p2 : Int32) (p3 : Int32) (a4 : Nat) (M : zM) : z_den zQ (d + 1) mDrum_loudness [.ref a0, .int p1, .int p2, .int p3, .ref a4] M = bif z_ia zQ M a4 14 2 then bif !(Nat.beq a4 56) && z_ia zQ M a4 14 2 then bif z_ne p2 0 then (some (some (.int 0), z_wI M a4 (Int32.toNatClampNeg 2) ((zI M a4 (Int32.toNatClampNeg 2)) + 1))) else (some (some (.int (2 * p1)), z_wI M a4 (Int32.toNatClampNeg 2) ((zI M a4 (Int32.toNatClampNeg 2)) + 1))) else none else none :=
  (z_J_eq zQ (d + 1) mDrum_loudness tDrum_loudness [] hDrum_loudness.1 hDrum_loudness.2 16 0 (z_ent mDrum_loudness [.ref a0, .int p1, .int p2, .int p3, .ref a4] M)).trans rfl
set_option maxRecDepth 100000 in
set_option maxHeartbeats 4000000 in
theorem hPluck_init : z_tab mPluck_init = tPluck_init ∧ z_inc tPluck_init 0 = true := ⟨rfl, by decide +kernel⟩
set_option maxRecDepth 100000 in
set_option maxHeartbeats 4000000 in
theorem B_Pluck_init (d : Nat) (a0 : Nat) (p1 : Int32) (p2 : Int32) (M : zM) : z_den zQ (d + 1) mPluck_init [.ref a0, .int p1, .int p2] M = bif z_cls zQ M a0 [0, 1, 2, 3, 5, 6, 7] then z_bV (z_den zQ d mN_init [.ref a0, .int p1, .int p2] M) (fun M1 => some (none, M1)) else none :=
  (z_J_eq zQ (d + 1) mPluck_init tPluck_init [] hPluck_init.1 hPluck_init.2 6 0 (z_ent mPluck_init [.ref a0, .int p1, .int p2] M)).trans rfl
set_option maxRecDepth 100000 in
set_option maxHeartbeats 4000000 in
theorem hPluck_loudness : z_tab mPluck_loudness = tPluck_loudness ∧ z_inc tPluck_loudness 0 = true := ⟨rfl, by decide +kernel⟩
set_option maxRecDepth 100000 in
set_option maxHeartbeats 4000000 in
theorem B_Pluck_loudness (d : Nat) (a0 : Nat) (p1 : Int32) (p2 : Int32) (p3 : Int32) (a4 : Nat) (M : zM) : z_den zQ (d + 1) mPluck_loudness [.ref a0, .int p1, .int p2, .int p3, .ref a4] M = bif z_ia zQ M a4 14 3 then bif !(Nat.beq a4 56) && z_ia zQ M a4 14 3 then z_bI (z_den zQ d mJm_max [.int 0, .int (p1 - (5 * p2))] (z_wI M a4 (Int32.toNatClampNeg 3) ((zI M a4 (Int32.toNatClampNeg 3)) + 1))) (fun x1 M2 => some (some (.int x1), M2)) else none else none :=
  (z_J_eq zQ (d + 1) mPluck_loudness tPluck_loudness [] hPluck_loudness.1 hPluck_loudness.2 16 0 (z_ent mPluck_loudness [.ref a0, .int p1, .int p2, .int p3, .ref a4] M)).trans rfl
set_option maxRecDepth 100000 in
set_option maxHeartbeats 4000000 in
theorem hPluck_pitch : z_tab mPluck_pitch = tPluck_pitch ∧ z_inc tPluck_pitch 0 = true := ⟨rfl, by decide +kernel⟩
set_option maxRecDepth 100000 in
set_option maxHeartbeats 4000000 in
theorem B_Pluck_pitch (d : Nat) (a0 : Nat) (p1 : UInt64) (a2 : Nat) (p3 : Int32) (M : zM) : z_den zQ (d + 1) mPluck_pitch [.ref a0, .double p1, .ref a2, .int p3] M = bif z_ia zQ M a2 14 11 then bif !(Nat.beq a2 56) && z_ia zQ M a2 14 11 then bif z_okU zQ (z_wI M a2 (Int32.toNatClampNeg 11) ((zI M a2 (Int32.toNatClampNeg 11)) + 1)) a0 [(1, 136), (6, 136)] then z_bD (z_den zQ d (z_selU zQ (z_wI M a2 (Int32.toNatClampNeg 11) ((zI M a2 (Int32.toNatClampNeg 11)) + 1)) a0 [(1, 136), (6, 136)]) [.ref a0, .double p1] (z_wI M a2 (Int32.toNatClampNeg 11) ((zI M a2 (Int32.toNatClampNeg 11)) + 1))) (fun x1 M2 => bif z_le 0 (zf_cmp.1 .g x1 0) then (bif z_num (zf_mul.1 x1 4620693217682128896) then z_bD (z_den zQ d mPluck_nearest [.double (zf_mul.1 x1 4620693217682128896)] M2) (fun x3 M4 => bif z_num (zf_div.1 x3 4620693217682128896) then some (some (.double (zf_div.1 x3 4620693217682128896)), M4) else none) else none) else (some (some (.double x1), M2))) else none else none else none :=
  (z_J_eq zQ (d + 1) mPluck_pitch tPluck_pitch [] hPluck_pitch.1 hPluck_pitch.2 25 0 (z_ent mPluck_pitch [.ref a0, .double p1, .ref a2, .int p3] M)).trans rfl
set_option maxRecDepth 100000 in
set_option maxHeartbeats 4000000 in
theorem hPluck_nearest : z_tab mPluck_nearest = tPluck_nearest ∧ z_inc tPluck_nearest 0 = true := ⟨rfl, by decide +kernel⟩
set_option maxRecDepth 100000 in
set_option maxHeartbeats 4000000 in
theorem B_Pluck_nearest (d : Nat) (p1 : UInt64) (M : zM) : z_den zQ (d + 1) mPluck_nearest [.double p1] M = bif z_num (zf_sub.1 p1 (zf_l2d.1 (zf_d2l.1 p1))) then bif z_lt 0 (zf_cmp.1 .l (zf_sub.1 p1 (zf_l2d.1 (zf_d2l.1 p1))) 4602678819172646912) then (bif z_eq 1 0 then (some (some (.double (zf_l2d.1 (zf_d2l.1 p1))), M)) else (some (some (.double (zf_l2d.1 ((zf_d2l.1 p1) + 1))), M))) else (bif z_ne (zf_cmp.1 .l (zf_sub.1 p1 (zf_l2d.1 (zf_d2l.1 p1))) 4602678819172646912) 0 then (bif z_eq 0 0 then (some (some (.double (zf_l2d.1 (zf_d2l.1 p1))), M)) else (some (some (.double (zf_l2d.1 ((zf_d2l.1 p1) + 1))), M))) else (bif z_ne (lg_cmp ((zf_d2l.1 p1) &&& 1) 1) 0 then (bif z_eq 0 0 then (some (some (.double (zf_l2d.1 (zf_d2l.1 p1))), M)) else (some (some (.double (zf_l2d.1 ((zf_d2l.1 p1) + 1))), M))) else (bif z_eq 1 0 then (some (some (.double (zf_l2d.1 (zf_d2l.1 p1))), M)) else (some (some (.double (zf_l2d.1 ((zf_d2l.1 p1) + 1))), M))))) else none :=
  (z_J_eq zQ (d + 1) mPluck_nearest tPluck_nearest [] hPluck_nearest.1 hPluck_nearest.2 36 0 (z_ent mPluck_nearest [.double p1] M)).trans rfl
set_option maxRecDepth 100000 in
set_option maxHeartbeats 4000000 in
theorem hBell_init : z_tab mBell_init = tBell_init ∧ z_inc tBell_init 0 = true := ⟨rfl, by decide +kernel⟩
set_option maxRecDepth 100000 in
set_option maxHeartbeats 4000000 in
theorem B_Bell_init (d : Nat) (a0 : Nat) (p1 : Int32) (M : zM) : z_den zQ (d + 1) mBell_init [.ref a0, .int p1] M = bif z_cls zQ M a0 [1, 6] then z_bV (z_den zQ d mPluck_init [.ref a0, .int p1, .int 5] M) (fun M1 => some (none, M1)) else none :=
  (z_J_eq zQ (d + 1) mBell_init tBell_init [] hBell_init.1 hBell_init.2 6 0 (z_ent mBell_init [.ref a0, .int p1] M)).trans rfl
set_option maxRecDepth 100000 in
set_option maxHeartbeats 4000000 in
theorem hBell_loudness : z_tab mBell_loudness = tBell_loudness ∧ z_inc tBell_loudness 0 = true := ⟨rfl, by decide +kernel⟩
set_option maxRecDepth 100000 in
set_option maxHeartbeats 4000000 in
theorem B_Bell_loudness (d : Nat) (a0 : Nat) (p1 : Int32) (p2 : Int32) (p3 : Int32) (a4 : Nat) (M : zM) : z_den zQ (d + 1) mBell_loudness [.ref a0, .int p1, .int p2, .int p3, .ref a4] M = bif z_ia zQ M a4 14 4 then bif !(Nat.beq a4 56) && z_ia zQ M a4 14 4 then bif z_ne 4 0 then bif z_cls zQ (z_wI M a4 (Int32.toNatClampNeg 4) ((zI M a4 (Int32.toNatClampNeg 4)) + 1)) a0 [1, 6] then z_bI (z_den zQ d mPluck_loudness [.ref a0, .int p1, .int (p2 / 4), .int p3, .ref a4] (z_wI M a4 (Int32.toNatClampNeg 4) ((zI M a4 (Int32.toNatClampNeg 4)) + 1))) (fun x1 M2 => some (some (.int (x1 + 1)), M2)) else none else none else none else none :=
  (z_J_eq zQ (d + 1) mBell_loudness tBell_loudness [] hBell_loudness.1 hBell_loudness.2 19 0 (z_ent mBell_loudness [.ref a0, .int p1, .int p2, .int p3, .ref a4] M)).trans rfl
set_option maxRecDepth 100000 in
set_option maxHeartbeats 4000000 in
theorem hBell_pitch : z_tab mBell_pitch = tBell_pitch ∧ z_inc tBell_pitch 0 = true := ⟨rfl, by decide +kernel⟩
set_option maxRecDepth 100000 in
set_option maxHeartbeats 4000000 in
theorem B_Bell_pitch (d : Nat) (a0 : Nat) (p1 : UInt64) (a2 : Nat) (p3 : Int32) (M : zM) : z_den zQ (d + 1) mBell_pitch [.ref a0, .double p1, .ref a2, .int p3] M = bif z_ia zQ M a2 14 12 then bif !(Nat.beq a2 56) && z_ia zQ M a2 14 12 then bif z_cls zQ (z_wI M a2 (Int32.toNatClampNeg 12) ((zI M a2 (Int32.toNatClampNeg 12)) + 1)) a0 [1, 6] then z_bD (z_den zQ d mPluck_pitch [.ref a0, .double p1, .ref a2, .int p3] (z_wI M a2 (Int32.toNatClampNeg 12) ((zI M a2 (Int32.toNatClampNeg 12)) + 1))) (fun x1 M2 => bif z_le 0 (zf_cmp.1 .g x1 0) then (bif z_num (zf_add.1 (zf_l2d.1 (zf_d2l.1 x1)) 4598175219545276416) then some (some (.double (zf_add.1 (zf_l2d.1 (zf_d2l.1 x1)) 4598175219545276416)), M2) else none) else (some (some (.double x1), M2))) else none else none else none :=
  (z_J_eq zQ (d + 1) mBell_pitch tBell_pitch [] hBell_pitch.1 hBell_pitch.2 26 0 (z_ent mBell_pitch [.ref a0, .double p1, .ref a2, .int p3] M)).trans rfl
set_option maxRecDepth 100000 in
set_option maxHeartbeats 4000000 in
theorem hCoup_init : z_tab mCoup_init = tCoup_init ∧ z_inc tCoup_init 0 = true := ⟨rfl, by decide +kernel⟩
set_option maxRecDepth 100000 in
set_option maxHeartbeats 4000000 in
theorem B_Coup_init (d : Nat) (a0 : Nat) (p1 : Int32) (M : zM) : z_den zQ (d + 1) mCoup_init [.ref a0, .int p1] M = bif z_cls zQ M a0 [0, 1, 2, 3, 5, 6, 7] then z_bV (z_den zQ d mN_init [.ref a0, .int p1, .int 6] M) (fun M1 => bif z_free zQ a0 5 && z_cls zQ (z_nw zQ M1 (16, 8)) a0 [2] then bif z_cls zQ (z_wP (z_nw zQ M1 (16, 8)) a0 5 (z_new zQ M1)) a0 [2] then some (none, z_wI (z_wP (z_nw zQ M1 (16, 8)) a0 5 (z_new zQ M1)) a0 6 0) else none else none) else none :=
  (z_J_eq zQ (d + 1) mCoup_init tCoup_init [] hCoup_init.1 hCoup_init.2 13 0 (z_ent mCoup_init [.ref a0, .int p1] M)).trans rfl
set_option maxRecDepth 100000 in
set_option maxHeartbeats 4000000 in
theorem hCoup_partAt : z_tab mCoup_partAt = tCoup_partAt ∧ z_inc tCoup_partAt 0 = true := ⟨rfl, by decide +kernel⟩
set_option maxRecDepth 100000 in
set_option maxHeartbeats 4000000 in
theorem B_Coup_partAt (d : Nat) (a0 : Nat) (p1 : Int32) (M : zM) : z_den zQ (d + 1) mCoup_partAt [.ref a0, .int p1] M = bif z_lt p1 0 then (some (some (.ref 0), M)) else (bif z_cls zQ M a0 [2] then bif z_le (zI M a0 6) p1 then (some (some (.ref 0), M)) else (bif z_le 8 p1 then (some (some (.ref 0), M)) else (bif z_cls zQ M a0 [2] then bif z_ia zQ M (zP zQ M a0 5) 16 p1 then some (some (.ref (zP zQ M (zP zQ M a0 5) (Int32.toNatClampNeg p1))), M) else none else none)) else none) :=
  (z_J_eq zQ (d + 1) mCoup_partAt tCoup_partAt [] hCoup_partAt.1 hCoup_partAt.2 17 0 (z_ent mCoup_partAt [.ref a0, .int p1] M)).trans rfl
set_option maxRecDepth 100000 in
set_option maxHeartbeats 4000000 in
theorem hCoup_append : z_tab mCoup_append = tCoup_append ∧ z_inc tCoup_append 0 = true := ⟨rfl, by decide +kernel⟩
set_option maxRecDepth 100000 in
set_option maxHeartbeats 4000000 in
theorem B_Coup_append (d : Nat) (a0 : Nat) (a1 : Nat) (M : zM) : z_den zQ (d + 1) mCoup_append [.ref a0, .ref a1] M = bif z_cls zQ M a0 [2] then bif z_lt (zI M a0 6) 8 then (bif z_cls zQ M a0 [2] then bif z_cls zQ M a0 [2] then bif z_free zQ (zP zQ M a0 5) (Int32.toNatClampNeg (zI M a0 6)) && (((Nat.beq a1 0 || z_cls zQ M a1 [0, 1, 2, 3, 5, 6, 7]) && z_ia zQ M (zP zQ M a0 5) 16 (zI M a0 6))) then bif z_cls zQ (z_wP M (zP zQ M a0 5) (Int32.toNatClampNeg (zI M a0 6)) a1) a0 [2] then bif z_cls zQ (z_wP M (zP zQ M a0 5) (Int32.toNatClampNeg (zI M a0 6)) a1) a0 [2] then some (none, z_wI (z_wP M (zP zQ M a0 5) (Int32.toNatClampNeg (zI M a0 6)) a1) a0 6 ((zI M a0 6) + 1)) else none else none else none else none else none) else (some (none, M)) else none :=
  (z_J_eq zQ (d + 1) mCoup_append tCoup_append [] hCoup_append.1 hCoup_append.2 19 0 (z_ent mCoup_append [.ref a0, .ref a1] M)).trans rfl
set_option maxRecDepth 100000 in
set_option maxHeartbeats 4000000 in
theorem hCoup_loudness : z_tab mCoup_loudness = tCoup_loudness ∧ z_inc tCoup_loudness 0 = true := ⟨rfl, by decide +kernel⟩
set_option maxRecDepth 100000 in
set_option maxHeartbeats 4000000 in
theorem B_Coup_loudness (d : Nat) (a0 : Nat) (p1 : Int32) (p2 : Int32) (p3 : Int32) (a4 : Nat) (M : zM) : z_den zQ (d + 1) mCoup_loudness [.ref a0, .int p1, .int p2, .int p3, .ref a4] M = bif z_ia zQ M a4 14 5 then bif !(Nat.beq a4 56) && z_ia zQ M a4 14 5 then some (some (.int 0), z_wI M a4 (Int32.toNatClampNeg 5) ((zI M a4 (Int32.toNatClampNeg 5)) + 1)) else none else none :=
  (z_J_eq zQ (d + 1) mCoup_loudness tCoup_loudness [] hCoup_loudness.1 hCoup_loudness.2 10 0 (z_ent mCoup_loudness [.ref a0, .int p1, .int p2, .int p3, .ref a4] M)).trans rfl
set_option maxRecDepth 100000 in
set_option maxHeartbeats 4000000 in
theorem hCoup_pitch : z_tab mCoup_pitch = tCoup_pitch ∧ z_inc tCoup_pitch 0 = true := ⟨rfl, by decide +kernel⟩
set_option maxRecDepth 100000 in
set_option maxHeartbeats 4000000 in
theorem L_Coup_pitch_16 (d : Nat) (a0 : Nat) (l1 : UInt64) (a3 : Nat) (l4 : Int32) (l5 : UInt64) (l7 : Int32) (o8 : Option Value) (o9 : Option Value) (M : zM) : z_denF zQ (d + 1) mCoup_pitch (16, [some (.ref a0), some (.double l1), none, some (.ref a3), some (.int l4), some (.double l5), none, some (.int l7), o8, o9, none], [], M) = bif z_cls zQ M a0 [2] then bif z_le (zI M a0 6) l7 then (some (some (.double l5), M)) else (bif z_le l4 0 then (some (some (.double l5), M)) else (bif z_cls zQ M a0 [2] then z_bR (z_den zQ d mCoup_partAt [.ref a0, .int l7] M) (fun x1 M2 => bif Nat.beq x1 0 then (bif z_le (zf_cmp.1 .l 13830554455654793216 l5) 0 then (z_denF zQ (d + 1) mCoup_pitch (16, [some (.ref a0), some (.double l1), none, some (.ref a3), some (.int l4), some (.double l5), none, some (.int (l7 + 1)), some (.ref x1), some (.double 13830554455654793216), none], [], M2)) else (z_denF zQ (d + 1) mCoup_pitch (16, [some (.ref a0), some (.double l1), none, some (.ref a3), some (.int l4), some (.double 13830554455654793216), none, some (.int (l7 + 1)), some (.ref x1), some (.double 13830554455654793216), none], [], M2))) else (bif z_okU zQ M2 x1 [(0, 148), (1, 157), (2, 162), (3, 135), (5, 142), (6, 153), (7, 145)] then z_bD (z_den zQ d (z_selU zQ M2 x1 [(0, 148), (1, 157), (2, 162), (3, 135), (5, 142), (6, 153), (7, 145)]) [.ref x1, .double l1, .ref a3, .int (l4 - 1)] M2) (fun x3 M4 => bif z_le (zf_cmp.1 .l x3 l5) 0 then (z_denF zQ (d + 1) mCoup_pitch (16, [some (.ref a0), some (.double l1), none, some (.ref a3), some (.int l4), some (.double l5), none, some (.int (l7 + 1)), some (.ref x1), some (.double x3), none], [], M4)) else (z_denF zQ (d + 1) mCoup_pitch (16, [some (.ref a0), some (.double l1), none, some (.ref a3), some (.int l4), some (.double x3), none, some (.int (l7 + 1)), some (.ref x1), some (.double x3), none], [], M4))) else none)) else none)) else none :=
  (z_J_eq zQ (d + 1) mCoup_pitch tCoup_pitch [16] hCoup_pitch.1 hCoup_pitch.2 44 16 _).trans rfl
set_option maxRecDepth 100000 in
set_option maxHeartbeats 4000000 in
theorem B_Coup_pitch (d : Nat) (a0 : Nat) (p1 : UInt64) (a2 : Nat) (p3 : Int32) (M : zM) : z_den zQ (d + 1) mCoup_pitch [.ref a0, .double p1, .ref a2, .int p3] M = bif z_ia zQ M a2 14 13 then bif !(Nat.beq a2 56) && z_ia zQ M a2 14 13 then z_denF zQ (d + 1) mCoup_pitch (16, [some (.ref a0), some (.double p1), none, some (.ref a2), some (.int p3), some (.double 13830554455654793216), none, some (.int 0), none, none, none], [], z_wI M a2 (Int32.toNatClampNeg 13) ((zI M a2 (Int32.toNatClampNeg 13)) + 1)) else none else none :=
  (z_J_eq zQ (d + 1) mCoup_pitch tCoup_pitch [16] hCoup_pitch.1 hCoup_pitch.2 44 0 (z_ent mCoup_pitch [.ref a0, .double p1, .ref a2, .int p3] M)).trans rfl
set_option maxRecDepth 100000 in
set_option maxHeartbeats 4000000 in
theorem hCoup_timesWithin : z_tab mCoup_timesWithin = tCoup_timesWithin ∧ z_inc tCoup_timesWithin 0 = true := ⟨rfl, by decide +kernel⟩
set_option maxRecDepth 100000 in
set_option maxHeartbeats 4000000 in
theorem L_Coup_timesWithin_17 (d : Nat) (a0 : Nat) (l1 : Int32) (l2 : Int32) (l3 : Int32) (l4 : Int32) (o5 : Option Value) (M : zM) : z_denF zQ (d + 1) mCoup_timesWithin (17, [some (.ref a0), some (.int l1), some (.int l2), some (.int l3), some (.int l4), o5], [], M) = bif z_cls zQ M a0 [2] then bif z_le (zI M a0 6) l4 then (some (some (.int l3), M)) else (bif z_le l2 0 then (some (some (.int l3), M)) else (bif z_cls zQ M a0 [2] then z_bR (z_den zQ d mCoup_partAt [.ref a0, .int l4] M) (fun x1 M2 => bif Nat.beq x1 0 then (z_denF zQ (d + 1) mCoup_timesWithin (17, [some (.ref a0), some (.int l1), some (.int l2), some (.int l3), some (.int (l4 + 1)), some (.ref x1)], [], M2)) else (bif z_okU zQ M2 x1 [(0, 138), (1, 138), (2, 163), (3, 138), (5, 138), (6, 138), (7, 138)] then z_bI (z_den zQ d (z_selU zQ M2 x1 [(0, 138), (1, 138), (2, 163), (3, 138), (5, 138), (6, 138), (7, 138)]) [.ref x1, .int l1, .int (l2 - 1)] M2) (fun x3 M4 => z_denF zQ (d + 1) mCoup_timesWithin (17, [some (.ref a0), some (.int l1), some (.int l2), some (.int (l3 + x3)), some (.int (l4 + 1)), some (.ref x1)], [], M4)) else none)) else none)) else none :=
  (z_J_eq zQ (d + 1) mCoup_timesWithin tCoup_timesWithin [17] hCoup_timesWithin.1 hCoup_timesWithin.2 36 17 _).trans rfl
set_option maxRecDepth 100000 in
set_option maxHeartbeats 4000000 in
theorem B_Coup_timesWithin (d : Nat) (a0 : Nat) (p1 : Int32) (p2 : Int32) (M : zM) : z_den zQ (d + 1) mCoup_timesWithin [.ref a0, .int p1, .int p2] M = bif z_cls zQ M a0 [2] then bif z_ne (zI M a0 0) p1 then (z_denF zQ (d + 1) mCoup_timesWithin (17, [some (.ref a0), some (.int p1), some (.int p2), some (.int 0), some (.int 0), none], [], M)) else (z_denF zQ (d + 1) mCoup_timesWithin (17, [some (.ref a0), some (.int p1), some (.int p2), some (.int 1), some (.int 0), none], [], M)) else none :=
  (z_J_eq zQ (d + 1) mCoup_timesWithin tCoup_timesWithin [17] hCoup_timesWithin.1 hCoup_timesWithin.2 36 0 (z_ent mCoup_timesWithin [.ref a0, .int p1, .int p2] M)).trans rfl
