/-! THE CONSTRUCTORS, over no standing cells (printed by wip/gen/emitC2.py) -/
def zN : zS := (0, fun _ => (99, 0), fun _ _ => none)
def zC : zM := ([(99, 0)], fun _ _ => 0, fun _ _ => 0, fun _ _ => 0)
noncomputable def zV1 : zM := z_nw zN zC (10, 8)
noncomputable def zV2 : zM := z_nw zN zV1 (17, 20)
noncomputable def zV3 : zM := z_wP zV2 1 0 2
noncomputable def zV4 : zM := z_nw zN zV3 (4, 17)
noncomputable def zV5 : zM := z_nw zN zV4 (16, 60)
noncomputable def zV6 : zM := z_wP zV5 3 0 4
noncomputable def zV7 : zM := z_nw zN zV6 (14, 16)
noncomputable def zV8 : zM := z_wP zV7 3 1 5
noncomputable def zV9 : zM := z_nw zN zV8 (14, 17)
noncomputable def zV10 : zM := z_wP zV9 3 2 6
noncomputable def zV11 : zM := z_nw zN zV10 (14, 200)
noncomputable def zV12 : zM := z_wP zV11 3 3 7
noncomputable def zV13 : zM := z_nw zN zV12 (14, 8)
noncomputable def zV14 : zM := z_wI zV13 8 0 (-1)
noncomputable def zV15 : zM := z_wI zV14 8 1 (-1)
noncomputable def zV16 : zM := z_wI zV15 8 2 (-1)
noncomputable def zV17 : zM := z_wI zV16 8 3 (-1)
noncomputable def zV18 : zM := z_wI zV17 8 4 (-1)
noncomputable def zV19 : zM := z_wI zV18 8 5 (-1)
noncomputable def zV20 : zM := z_wI zV19 8 6 (-1)
noncomputable def zV21 : zM := z_wI zV20 8 7 (-1)
noncomputable def zV22 : zM := z_wP zV21 3 4 8
noncomputable def zV23 : zM := z_nw zN zV22 (14, 8)
noncomputable def zV24 : zM := z_wP zV23 3 5 9
noncomputable def zV25 : zM := z_nw zN zV24 (14, 17)
noncomputable def zV26 : zM := z_wP zV25 3 6 10
noncomputable def zV27 : zM := z_nw zN zV26 (14, 523)
noncomputable def zV28 : zM := z_wP zV27 3 7 11
noncomputable def zV29 : zM := z_nw zN zV28 (19, 501)
noncomputable def zV30 : zM := z_wP zV29 3 8 12
noncomputable def zV31 : zM := z_nw zN zV30 (14, 6000)
noncomputable def zV32 : zM := z_wP zV31 3 9 13
noncomputable def zV33 : zM := z_wI zV32 3 10 0
noncomputable def zV34 : zM := z_wI zV33 3 11 0
noncomputable def zV35 : zM := z_wI zV34 3 12 7040
noncomputable def zV36 : zM := z_wI zV35 3 13 0
noncomputable def zV37 : zM := z_wI zV36 3 14 0
noncomputable def zV38 : zM := z_wI zV37 3 15 0
noncomputable def zV39 : zM := z_wP zV38 3 16 0
noncomputable def zV40 : zM := z_wI zV39 11 4 (-4)
noncomputable def zV41 : zM := z_wP zV40 1 1 3
noncomputable def zV42 : zM := z_nw zN zV41 (14, 1792)
noncomputable def zV43 : zM := z_wP zV42 1 2 14
noncomputable def zV44 : zM := z_wI zV43 1 3 0
noncomputable def zV45 : zM := z_wI zV44 1 4 0
noncomputable def zV46 : zM := z_wI zV45 1 5 0
noncomputable def zV47 : zM := z_wI zV46 1 6 0
noncomputable def zV48 : zM := z_wI zV47 1 7 0
noncomputable def zV49 : zM := z_nw zN zV48 (11, 68)
noncomputable def zV50 : zM := z_nw zN zV49 (14, 20)
noncomputable def zV51 : zM := z_wP zV50 15 2 16
noncomputable def zV52 : zM := z_nw zN zV51 (14, 8000)
noncomputable def zV53 : zM := z_wP zV52 15 3 17
noncomputable def zV54 : zM := z_nw zN zV53 (14, 400)
noncomputable def zV55 : zM := z_wP zV54 15 5 18
noncomputable def zV56 : zM := z_nw zN zV55 (14, 400)
noncomputable def zV57 : zM := z_wP zV56 15 6 19
noncomputable def zV58 : zM := z_nw zN zV57 (14, 400)
noncomputable def zV59 : zM := z_wP zV58 15 7 20
noncomputable def zV60 : zM := z_nw zN zV59 (15, 400)
noncomputable def zV61 : zM := z_wP zV60 15 8 21
noncomputable def zV62 : zM := z_nw zN zV61 (14, 400)
noncomputable def zV63 : zM := z_wP zV62 15 9 22
noncomputable def zV64 : zM := z_nw zN zV63 (14, 3600)
noncomputable def zV65 : zM := z_wP zV64 15 10 23
noncomputable def zV66 : zM := z_nw zN zV65 (14, 400)
noncomputable def zV67 : zM := z_wP zV66 15 11 24
noncomputable def zV68 : zM := z_nw zN zV67 (14, 102400)
noncomputable def zV69 : zM := z_wP zV68 15 12 25
noncomputable def zV70 : zM := z_nw zN zV69 (14, 60)
noncomputable def zV71 : zM := z_wP zV70 15 15 26
noncomputable def zV72 : zM := z_nw zN zV71 (14, 60)
noncomputable def zV73 : zM := z_wP zV72 15 16 27
noncomputable def zV74 : zM := z_nw zN zV73 (14, 480)
noncomputable def zV75 : zM := z_wP zV74 15 17 28
noncomputable def zV76 : zM := z_nw zN zV75 (14, 60)
noncomputable def zV77 : zM := z_wP zV76 15 18 29
noncomputable def zV78 : zM := z_nw zN zV77 (14, 60)
noncomputable def zV79 : zM := z_wP zV78 15 19 30
noncomputable def zV80 : zM := z_nw zN zV79 (15, 60)
noncomputable def zV81 : zM := z_wP zV80 15 20 31
noncomputable def zV82 : zM := z_nw zN zV81 (13, 60)
noncomputable def zV83 : zM := z_wP zV82 15 21 32
noncomputable def zV84 : zM := z_nw zN zV83 (14, 16)
noncomputable def zV85 : zM := z_wP zV84 15 24 33
noncomputable def zV86 : zM := z_nw zN zV85 (14, 16)
noncomputable def zV87 : zM := z_wP zV86 15 25 34
noncomputable def zV88 : zM := z_nw zN zV87 (14, 16)
noncomputable def zV89 : zM := z_wP zV88 15 26 35
noncomputable def zV90 : zM := z_nw zN zV89 (14, 200)
noncomputable def zV91 : zM := z_wP zV90 15 28 36
noncomputable def zV92 : zM := z_nw zN zV91 (14, 8)
noncomputable def zV93 : zM := z_wP zV92 15 29 37
noncomputable def zV94 : zM := z_nw zN zV93 (14, 8)
noncomputable def zV95 : zM := z_wP zV94 15 30 38
noncomputable def zV96 : zM := z_nw zN zV95 (14, 17)
noncomputable def zV97 : zM := z_wP zV96 15 31 39
noncomputable def zV98 : zM := z_nw zN zV97 (14, 80)
noncomputable def zV99 : zM := z_wP zV98 15 32 40
noncomputable def zV100 : zM := z_nw zN zV99 (14, 80)
noncomputable def zV101 : zM := z_wP zV100 15 33 41
noncomputable def zV102 : zM := z_nw zN zV101 (15, 60)
noncomputable def zV103 : zM := z_wP zV102 15 34 42
noncomputable def zV104 : zM := z_nw zN zV103 (15, 8)
noncomputable def zV105 : zM := z_wP zV104 15 38 43
noncomputable def zV106 : zM := z_nw zN zV105 (14, 8)
noncomputable def zV107 : zM := z_wP zV106 15 39 44
noncomputable def zV108 : zM := z_nw zN zV107 (15, 16)
noncomputable def zV109 : zM := z_wP zV108 15 40 45
noncomputable def zV110 : zM := z_nw zN zV109 (14, 340)
noncomputable def zV111 : zM := z_wP zV110 15 53 46
noncomputable def zV112 : zM := z_nw zN zV111 (14, 340)
noncomputable def zV113 : zM := z_wP zV112 15 54 47
noncomputable def zV114 : zM := z_nw zN zV113 (14, 340)
noncomputable def zV115 : zM := z_wP zV114 15 55 48
noncomputable def zV116 : zM := z_nw zN zV115 (14, 60)
noncomputable def zV117 : zM := z_wP zV116 15 56 49
noncomputable def zV118 : zM := z_nw zN zV117 (14, 60)
noncomputable def zV119 : zM := z_wP zV118 15 57 50
noncomputable def zV120 : zM := z_nw zN zV119 (14, 6000)
noncomputable def zV121 : zM := z_wP zV120 15 59 51
noncomputable def zV122 : zM := z_nw zN zV121 (14, 606210)
noncomputable def zV123 : zM := z_wP zV122 15 61 52
noncomputable def zV124 : zM := z_nw zN zV123 (14, 256)
noncomputable def zV125 : zM := z_wP zV124 15 64 53
noncomputable def zV126 : zM := z_nw zN zV125 (14, 1800)
noncomputable def zV127 : zM := z_wP zV126 15 66 54
noncomputable def zV128 : zM := z_nw zN zV127 (14, 1800)
noncomputable def zV129 : zM := z_wP zV128 15 67 55
noncomputable def zV130 : zM := z_wD zV129 15 22 4646448178051153920
noncomputable def zV131 : zM := z_wI zV130 15 49 (-4)
noncomputable def zC1 : zM := zV1
noncomputable def zC8 : zM := zV48
noncomputable def zC9 : zM := zV49
noncomputable def zC20 : zM := zV131
noncomputable def zC2 : zM := zV4
noncomputable def zC7 : zM := zV40
theorem z_ia_N {M : zM} {a n : Nat} {i : Int32} (h : z_hd zN M a = some (14, n)) (hi : decide (¬ (i < 0 ∨ n ≤ i.toNatClampNeg)) = true) : z_ia zN M a 14 i = true := by
  unfold z_ia
  rw [h]
  show (bif Nat.beq 14 14 then z_ix i n else false) = true
  rw [z_ix_eq, hi]
  rfl
set_option maxRecDepth 100000 in
theorem hO_init : z_tab mO_init = tO_init ∧ z_inc tO_init 0 = true := ⟨rfl, by decide +kernel⟩
set_option maxRecDepth 100000 in
set_option maxHeartbeats 4000000 in
theorem cO_init_0 (d : Nat) : z_denF zN (d + 1) mO_init (0, [some (.ref 3)], [], zV4) = z_denF zN (d + 1) mO_init (4, [some (.ref 3)], [], zV4) := by
  have e : z_denF zN (d + 1) mO_init (0, [some (.ref 3)], [], zV4) = bif Nat.ble (z_words []) 8 && !(Nat.beq 3 0) then z_denF zN (d + 1) mO_init (4, [some (.ref 3)], [], zV4) else none := (z_J_eq zN (d + 1) mO_init tO_init [4] hO_init.1 hO_init.2 102 0 _).trans rfl
  rw [e, show (Nat.ble (z_words []) 8 && !(Nat.beq 3 0)) = true by decide +kernel]
  rfl
set_option maxRecDepth 100000 in
set_option maxHeartbeats 4000000 in
theorem cO_init_1 (d : Nat) : z_denF zN (d + 1) mO_init (4, [some (.ref 3)], [], zV4) = z_denF zN (d + 1) mO_init (10, [some (.ref 3)], [.ref 4, .ref 3], zV5) := by
  have e : z_denF zN (d + 1) mO_init (4, [some (.ref 3)], [], zV4) = bif decide (¬ (60 : Int32) < 0) && Nat.ble (60 : Int32).toNatClampNeg 1000000 then z_denF zN (d + 1) mO_init (10, [some (.ref 3)], [.ref 4, .ref 3], zV5) else none := (z_J_eq zN (d + 1) mO_init tO_init [10] hO_init.1 hO_init.2 102 4 _).trans rfl
  rw [e, show (decide (¬ (60 : Int32) < 0) && Nat.ble (60 : Int32).toNatClampNeg 1000000) = true by decide +kernel]
  rfl
set_option maxRecDepth 100000 in
set_option maxHeartbeats 4000000 in
theorem cO_init_2 (d : Nat) : z_denF zN (d + 1) mO_init (10, [some (.ref 3)], [.ref 4, .ref 3], zV5) = z_denF zN (d + 1) mO_init (13, [some (.ref 3)], [], zV6) := by
  have e : z_denF zN (d + 1) mO_init (10, [some (.ref 3)], [.ref 4, .ref 3], zV5) = bif z_free zN 3 0 && z_cls zN zV5 3 [4] then z_denF zN (d + 1) mO_init (13, [some (.ref 3)], [], zV6) else none := (z_J_eq zN (d + 1) mO_init tO_init [13] hO_init.1 hO_init.2 102 10 _).trans rfl
  rw [e, show (z_free zN 3 0 && z_cls zN zV5 3 [4]) = true by decide +kernel]
  rfl
set_option maxRecDepth 100000 in
set_option maxHeartbeats 4000000 in
theorem cO_init_3 (d : Nat) : z_denF zN (d + 1) mO_init (13, [some (.ref 3)], [], zV6) = z_denF zN (d + 1) mO_init (18, [some (.ref 3)], [.ref 5, .ref 3], zV7) := by
  have e : z_denF zN (d + 1) mO_init (13, [some (.ref 3)], [], zV6) = bif decide (¬ (16 : Int32) < 0) && Nat.ble (16 : Int32).toNatClampNeg 1000000 then z_denF zN (d + 1) mO_init (18, [some (.ref 3)], [.ref 5, .ref 3], zV7) else none := (z_J_eq zN (d + 1) mO_init tO_init [18] hO_init.1 hO_init.2 102 13 _).trans rfl
  rw [e, show (decide (¬ (16 : Int32) < 0) && Nat.ble (16 : Int32).toNatClampNeg 1000000) = true by decide +kernel]
  rfl
set_option maxRecDepth 100000 in
set_option maxHeartbeats 4000000 in
theorem cO_init_4 (d : Nat) : z_denF zN (d + 1) mO_init (18, [some (.ref 3)], [.ref 5, .ref 3], zV7) = z_denF zN (d + 1) mO_init (21, [some (.ref 3)], [], zV8) := by
  have e : z_denF zN (d + 1) mO_init (18, [some (.ref 3)], [.ref 5, .ref 3], zV7) = bif z_free zN 3 1 && z_cls zN zV7 3 [4] then z_denF zN (d + 1) mO_init (21, [some (.ref 3)], [], zV8) else none := (z_J_eq zN (d + 1) mO_init tO_init [21] hO_init.1 hO_init.2 102 18 _).trans rfl
  rw [e, show (z_free zN 3 1 && z_cls zN zV7 3 [4]) = true by decide +kernel]
  rfl
set_option maxRecDepth 100000 in
set_option maxHeartbeats 4000000 in
theorem cO_init_5 (d : Nat) : z_denF zN (d + 1) mO_init (21, [some (.ref 3)], [], zV8) = z_denF zN (d + 1) mO_init (26, [some (.ref 3)], [.ref 6, .ref 3], zV9) := by
  have e : z_denF zN (d + 1) mO_init (21, [some (.ref 3)], [], zV8) = bif decide (¬ (17 : Int32) < 0) && Nat.ble (17 : Int32).toNatClampNeg 1000000 then z_denF zN (d + 1) mO_init (26, [some (.ref 3)], [.ref 6, .ref 3], zV9) else none := (z_J_eq zN (d + 1) mO_init tO_init [26] hO_init.1 hO_init.2 102 21 _).trans rfl
  rw [e, show (decide (¬ (17 : Int32) < 0) && Nat.ble (17 : Int32).toNatClampNeg 1000000) = true by decide +kernel]
  rfl
set_option maxRecDepth 100000 in
set_option maxHeartbeats 4000000 in
theorem cO_init_6 (d : Nat) : z_denF zN (d + 1) mO_init (26, [some (.ref 3)], [.ref 6, .ref 3], zV9) = z_denF zN (d + 1) mO_init (29, [some (.ref 3)], [], zV10) := by
  have e : z_denF zN (d + 1) mO_init (26, [some (.ref 3)], [.ref 6, .ref 3], zV9) = bif z_free zN 3 2 && z_cls zN zV9 3 [4] then z_denF zN (d + 1) mO_init (29, [some (.ref 3)], [], zV10) else none := (z_J_eq zN (d + 1) mO_init tO_init [29] hO_init.1 hO_init.2 102 26 _).trans rfl
  rw [e, show (z_free zN 3 2 && z_cls zN zV9 3 [4]) = true by decide +kernel]
  rfl
set_option maxRecDepth 100000 in
set_option maxHeartbeats 4000000 in
theorem cO_init_7 (d : Nat) : z_denF zN (d + 1) mO_init (29, [some (.ref 3)], [], zV10) = z_denF zN (d + 1) mO_init (35, [some (.ref 3)], [.ref 7, .ref 3], zV11) := by
  have e : z_denF zN (d + 1) mO_init (29, [some (.ref 3)], [], zV10) = bif decide (¬ (200 : Int32) < 0) && Nat.ble (200 : Int32).toNatClampNeg 1000000 then z_denF zN (d + 1) mO_init (35, [some (.ref 3)], [.ref 7, .ref 3], zV11) else none := (z_J_eq zN (d + 1) mO_init tO_init [35] hO_init.1 hO_init.2 102 29 _).trans rfl
  rw [e, show (decide (¬ (200 : Int32) < 0) && Nat.ble (200 : Int32).toNatClampNeg 1000000) = true by decide +kernel]
  rfl
set_option maxRecDepth 100000 in
set_option maxHeartbeats 4000000 in
theorem cO_init_8 (d : Nat) : z_denF zN (d + 1) mO_init (35, [some (.ref 3)], [.ref 7, .ref 3], zV11) = z_denF zN (d + 1) mO_init (38, [some (.ref 3)], [], zV12) := by
  have e : z_denF zN (d + 1) mO_init (35, [some (.ref 3)], [.ref 7, .ref 3], zV11) = bif z_free zN 3 3 && z_cls zN zV11 3 [4] then z_denF zN (d + 1) mO_init (38, [some (.ref 3)], [], zV12) else none := (z_J_eq zN (d + 1) mO_init tO_init [38] hO_init.1 hO_init.2 102 35 _).trans rfl
  rw [e, show (z_free zN 3 3 && z_cls zN zV11 3 [4]) = true by decide +kernel]
  rfl
set_option maxRecDepth 100000 in
set_option maxHeartbeats 4000000 in
theorem cO_init_9 (d : Nat) : z_denF zN (d + 1) mO_init (38, [some (.ref 3)], [], zV12) = z_denF zN (d + 1) mO_init (43, [some (.ref 3)], [.ref 8, .ref 3], zV13) := by
  have e : z_denF zN (d + 1) mO_init (38, [some (.ref 3)], [], zV12) = bif decide (¬ (8 : Int32) < 0) && Nat.ble (8 : Int32).toNatClampNeg 1000000 then z_denF zN (d + 1) mO_init (43, [some (.ref 3)], [.ref 8, .ref 3], zV13) else none := (z_J_eq zN (d + 1) mO_init tO_init [43] hO_init.1 hO_init.2 102 38 _).trans rfl
  rw [e, show (decide (¬ (8 : Int32) < 0) && Nat.ble (8 : Int32).toNatClampNeg 1000000) = true by decide +kernel]
  rfl
set_option maxRecDepth 100000 in
set_option maxHeartbeats 4000000 in
theorem cO_init_10 (d : Nat) : z_denF zN (d + 1) mO_init (43, [some (.ref 3)], [.ref 8, .ref 3], zV13) = z_denF zN (d + 1) mO_init (47, [some (.ref 3)], [.ref 8, .ref 3], zV14) := by
  have e : z_denF zN (d + 1) mO_init (43, [some (.ref 3)], [.ref 8, .ref 3], zV13) = bif !(Nat.beq 8 56) && z_ia zN zV13 8 14 0 then z_denF zN (d + 1) mO_init (47, [some (.ref 3)], [.ref 8, .ref 3], zV14) else none := (z_J_eq zN (d + 1) mO_init tO_init [47] hO_init.1 hO_init.2 102 43 _).trans rfl
  rw [e, z_ia_N (n := 8) rfl (by decide +kernel)]
  rfl
set_option maxRecDepth 100000 in
set_option maxHeartbeats 4000000 in
theorem cO_init_11 (d : Nat) : z_denF zN (d + 1) mO_init (47, [some (.ref 3)], [.ref 8, .ref 3], zV14) = z_denF zN (d + 1) mO_init (51, [some (.ref 3)], [.ref 8, .ref 3], zV15) := by
  have e : z_denF zN (d + 1) mO_init (47, [some (.ref 3)], [.ref 8, .ref 3], zV14) = bif !(Nat.beq 8 56) && z_ia zN zV14 8 14 1 then z_denF zN (d + 1) mO_init (51, [some (.ref 3)], [.ref 8, .ref 3], zV15) else none := (z_J_eq zN (d + 1) mO_init tO_init [51] hO_init.1 hO_init.2 102 47 _).trans rfl
  rw [e, z_ia_N (n := 8) rfl (by decide +kernel)]
  rfl
set_option maxRecDepth 100000 in
set_option maxHeartbeats 4000000 in
theorem cO_init_12 (d : Nat) : z_denF zN (d + 1) mO_init (51, [some (.ref 3)], [.ref 8, .ref 3], zV15) = z_denF zN (d + 1) mO_init (55, [some (.ref 3)], [.ref 8, .ref 3], zV16) := by
  have e : z_denF zN (d + 1) mO_init (51, [some (.ref 3)], [.ref 8, .ref 3], zV15) = bif !(Nat.beq 8 56) && z_ia zN zV15 8 14 2 then z_denF zN (d + 1) mO_init (55, [some (.ref 3)], [.ref 8, .ref 3], zV16) else none := (z_J_eq zN (d + 1) mO_init tO_init [55] hO_init.1 hO_init.2 102 51 _).trans rfl
  rw [e, z_ia_N (n := 8) rfl (by decide +kernel)]
  rfl
set_option maxRecDepth 100000 in
set_option maxHeartbeats 4000000 in
theorem cO_init_13 (d : Nat) : z_denF zN (d + 1) mO_init (55, [some (.ref 3)], [.ref 8, .ref 3], zV16) = z_denF zN (d + 1) mO_init (59, [some (.ref 3)], [.ref 8, .ref 3], zV17) := by
  have e : z_denF zN (d + 1) mO_init (55, [some (.ref 3)], [.ref 8, .ref 3], zV16) = bif !(Nat.beq 8 56) && z_ia zN zV16 8 14 3 then z_denF zN (d + 1) mO_init (59, [some (.ref 3)], [.ref 8, .ref 3], zV17) else none := (z_J_eq zN (d + 1) mO_init tO_init [59] hO_init.1 hO_init.2 102 55 _).trans rfl
  rw [e, z_ia_N (n := 8) rfl (by decide +kernel)]
  rfl
set_option maxRecDepth 100000 in
set_option maxHeartbeats 4000000 in
theorem cO_init_14 (d : Nat) : z_denF zN (d + 1) mO_init (59, [some (.ref 3)], [.ref 8, .ref 3], zV17) = z_denF zN (d + 1) mO_init (63, [some (.ref 3)], [.ref 8, .ref 3], zV18) := by
  have e : z_denF zN (d + 1) mO_init (59, [some (.ref 3)], [.ref 8, .ref 3], zV17) = bif !(Nat.beq 8 56) && z_ia zN zV17 8 14 4 then z_denF zN (d + 1) mO_init (63, [some (.ref 3)], [.ref 8, .ref 3], zV18) else none := (z_J_eq zN (d + 1) mO_init tO_init [63] hO_init.1 hO_init.2 102 59 _).trans rfl
  rw [e, z_ia_N (n := 8) rfl (by decide +kernel)]
  rfl
set_option maxRecDepth 100000 in
set_option maxHeartbeats 4000000 in
theorem cO_init_15 (d : Nat) : z_denF zN (d + 1) mO_init (63, [some (.ref 3)], [.ref 8, .ref 3], zV18) = z_denF zN (d + 1) mO_init (67, [some (.ref 3)], [.ref 8, .ref 3], zV19) := by
  have e : z_denF zN (d + 1) mO_init (63, [some (.ref 3)], [.ref 8, .ref 3], zV18) = bif !(Nat.beq 8 56) && z_ia zN zV18 8 14 5 then z_denF zN (d + 1) mO_init (67, [some (.ref 3)], [.ref 8, .ref 3], zV19) else none := (z_J_eq zN (d + 1) mO_init tO_init [67] hO_init.1 hO_init.2 102 63 _).trans rfl
  rw [e, z_ia_N (n := 8) rfl (by decide +kernel)]
  rfl
set_option maxRecDepth 100000 in
set_option maxHeartbeats 4000000 in
theorem cO_init_16 (d : Nat) : z_denF zN (d + 1) mO_init (67, [some (.ref 3)], [.ref 8, .ref 3], zV19) = z_denF zN (d + 1) mO_init (72, [some (.ref 3)], [.ref 8, .ref 3], zV20) := by
  have e : z_denF zN (d + 1) mO_init (67, [some (.ref 3)], [.ref 8, .ref 3], zV19) = bif !(Nat.beq 8 56) && z_ia zN zV19 8 14 6 then z_denF zN (d + 1) mO_init (72, [some (.ref 3)], [.ref 8, .ref 3], zV20) else none := (z_J_eq zN (d + 1) mO_init tO_init [72] hO_init.1 hO_init.2 102 67 _).trans rfl
  rw [e, z_ia_N (n := 8) rfl (by decide +kernel)]
  rfl
set_option maxRecDepth 100000 in
set_option maxHeartbeats 4000000 in
theorem cO_init_17 (d : Nat) : z_denF zN (d + 1) mO_init (72, [some (.ref 3)], [.ref 8, .ref 3], zV20) = z_denF zN (d + 1) mO_init (77, [some (.ref 3)], [.ref 8, .ref 3], zV21) := by
  have e : z_denF zN (d + 1) mO_init (72, [some (.ref 3)], [.ref 8, .ref 3], zV20) = bif !(Nat.beq 8 56) && z_ia zN zV20 8 14 7 then z_denF zN (d + 1) mO_init (77, [some (.ref 3)], [.ref 8, .ref 3], zV21) else none := (z_J_eq zN (d + 1) mO_init tO_init [77] hO_init.1 hO_init.2 102 72 _).trans rfl
  rw [e, z_ia_N (n := 8) rfl (by decide +kernel)]
  rfl
set_option maxRecDepth 100000 in
set_option maxHeartbeats 4000000 in
theorem cO_init_18 (d : Nat) : z_denF zN (d + 1) mO_init (77, [some (.ref 3)], [.ref 8, .ref 3], zV21) = z_denF zN (d + 1) mO_init (80, [some (.ref 3)], [], zV22) := by
  have e : z_denF zN (d + 1) mO_init (77, [some (.ref 3)], [.ref 8, .ref 3], zV21) = bif z_free zN 3 4 && z_cls zN zV21 3 [4] then z_denF zN (d + 1) mO_init (80, [some (.ref 3)], [], zV22) else none := (z_J_eq zN (d + 1) mO_init tO_init [80] hO_init.1 hO_init.2 102 77 _).trans rfl
  rw [e, show (z_free zN 3 4 && z_cls zN zV21 3 [4]) = true by decide +kernel]
  rfl
set_option maxRecDepth 100000 in
set_option maxHeartbeats 4000000 in
theorem cO_init_19 (d : Nat) : z_denF zN (d + 1) mO_init (80, [some (.ref 3)], [], zV22) = z_denF zN (d + 1) mO_init (85, [some (.ref 3)], [.ref 9, .ref 3], zV23) := by
  have e : z_denF zN (d + 1) mO_init (80, [some (.ref 3)], [], zV22) = bif decide (¬ (8 : Int32) < 0) && Nat.ble (8 : Int32).toNatClampNeg 1000000 then z_denF zN (d + 1) mO_init (85, [some (.ref 3)], [.ref 9, .ref 3], zV23) else none := (z_J_eq zN (d + 1) mO_init tO_init [85] hO_init.1 hO_init.2 102 80 _).trans rfl
  rw [e, show (decide (¬ (8 : Int32) < 0) && Nat.ble (8 : Int32).toNatClampNeg 1000000) = true by decide +kernel]
  rfl
set_option maxRecDepth 100000 in
set_option maxHeartbeats 4000000 in
theorem cO_init_20 (d : Nat) : z_denF zN (d + 1) mO_init (85, [some (.ref 3)], [.ref 9, .ref 3], zV23) = z_denF zN (d + 1) mO_init (88, [some (.ref 3)], [], zV24) := by
  have e : z_denF zN (d + 1) mO_init (85, [some (.ref 3)], [.ref 9, .ref 3], zV23) = bif z_free zN 3 5 && z_cls zN zV23 3 [4] then z_denF zN (d + 1) mO_init (88, [some (.ref 3)], [], zV24) else none := (z_J_eq zN (d + 1) mO_init tO_init [88] hO_init.1 hO_init.2 102 85 _).trans rfl
  rw [e, show (z_free zN 3 5 && z_cls zN zV23 3 [4]) = true by decide +kernel]
  rfl
set_option maxRecDepth 100000 in
set_option maxHeartbeats 4000000 in
theorem cO_init_21 (d : Nat) : z_denF zN (d + 1) mO_init (88, [some (.ref 3)], [], zV24) = z_denF zN (d + 1) mO_init (93, [some (.ref 3)], [.ref 10, .ref 3], zV25) := by
  have e : z_denF zN (d + 1) mO_init (88, [some (.ref 3)], [], zV24) = bif decide (¬ (17 : Int32) < 0) && Nat.ble (17 : Int32).toNatClampNeg 1000000 then z_denF zN (d + 1) mO_init (93, [some (.ref 3)], [.ref 10, .ref 3], zV25) else none := (z_J_eq zN (d + 1) mO_init tO_init [93] hO_init.1 hO_init.2 102 88 _).trans rfl
  rw [e, show (decide (¬ (17 : Int32) < 0) && Nat.ble (17 : Int32).toNatClampNeg 1000000) = true by decide +kernel]
  rfl
set_option maxRecDepth 100000 in
set_option maxHeartbeats 4000000 in
theorem cO_init_22 (d : Nat) : z_denF zN (d + 1) mO_init (93, [some (.ref 3)], [.ref 10, .ref 3], zV25) = z_denF zN (d + 1) mO_init (96, [some (.ref 3)], [], zV26) := by
  have e : z_denF zN (d + 1) mO_init (93, [some (.ref 3)], [.ref 10, .ref 3], zV25) = bif z_free zN 3 6 && z_cls zN zV25 3 [4] then z_denF zN (d + 1) mO_init (96, [some (.ref 3)], [], zV26) else none := (z_J_eq zN (d + 1) mO_init tO_init [96] hO_init.1 hO_init.2 102 93 _).trans rfl
  rw [e, show (z_free zN 3 6 && z_cls zN zV25 3 [4]) = true by decide +kernel]
  rfl
set_option maxRecDepth 100000 in
set_option maxHeartbeats 4000000 in
theorem cO_init_23 (d : Nat) : z_denF zN (d + 1) mO_init (96, [some (.ref 3)], [], zV26) = z_denF zN (d + 1) mO_init (102, [some (.ref 3)], [.ref 11, .ref 3], zV27) := by
  have e : z_denF zN (d + 1) mO_init (96, [some (.ref 3)], [], zV26) = bif decide (¬ (523 : Int32) < 0) && Nat.ble (523 : Int32).toNatClampNeg 1000000 then z_denF zN (d + 1) mO_init (102, [some (.ref 3)], [.ref 11, .ref 3], zV27) else none := (z_J_eq zN (d + 1) mO_init tO_init [102] hO_init.1 hO_init.2 102 96 _).trans rfl
  rw [e, show (decide (¬ (523 : Int32) < 0) && Nat.ble (523 : Int32).toNatClampNeg 1000000) = true by decide +kernel]
  rfl
set_option maxRecDepth 100000 in
set_option maxHeartbeats 4000000 in
theorem cO_init_24 (d : Nat) : z_denF zN (d + 1) mO_init (102, [some (.ref 3)], [.ref 11, .ref 3], zV27) = z_denF zN (d + 1) mO_init (105, [some (.ref 3)], [], zV28) := by
  have e : z_denF zN (d + 1) mO_init (102, [some (.ref 3)], [.ref 11, .ref 3], zV27) = bif z_free zN 3 7 && z_cls zN zV27 3 [4] then z_denF zN (d + 1) mO_init (105, [some (.ref 3)], [], zV28) else none := (z_J_eq zN (d + 1) mO_init tO_init [105] hO_init.1 hO_init.2 102 102 _).trans rfl
  rw [e, show (z_free zN 3 7 && z_cls zN zV27 3 [4]) = true by decide +kernel]
  rfl
set_option maxRecDepth 100000 in
set_option maxHeartbeats 4000000 in
theorem cO_init_25 (d : Nat) : z_denF zN (d + 1) mO_init (105, [some (.ref 3)], [], zV28) = z_denF zN (d + 1) mO_init (112, [some (.ref 3)], [.ref 12, .ref 3], zV29) := by
  have e : z_denF zN (d + 1) mO_init (105, [some (.ref 3)], [], zV28) = bif decide (¬ (501 : Int32) < 0) && Nat.ble (501 : Int32).toNatClampNeg 1000000 then z_denF zN (d + 1) mO_init (112, [some (.ref 3)], [.ref 12, .ref 3], zV29) else none := (z_J_eq zN (d + 1) mO_init tO_init [112] hO_init.1 hO_init.2 102 105 _).trans rfl
  rw [e, show (decide (¬ (501 : Int32) < 0) && Nat.ble (501 : Int32).toNatClampNeg 1000000) = true by decide +kernel]
  rfl
set_option maxRecDepth 100000 in
set_option maxHeartbeats 4000000 in
theorem cO_init_26 (d : Nat) : z_denF zN (d + 1) mO_init (112, [some (.ref 3)], [.ref 12, .ref 3], zV29) = z_denF zN (d + 1) mO_init (115, [some (.ref 3)], [], zV30) := by
  have e : z_denF zN (d + 1) mO_init (112, [some (.ref 3)], [.ref 12, .ref 3], zV29) = bif z_free zN 3 8 && z_cls zN zV29 3 [4] then z_denF zN (d + 1) mO_init (115, [some (.ref 3)], [], zV30) else none := (z_J_eq zN (d + 1) mO_init tO_init [115] hO_init.1 hO_init.2 102 112 _).trans rfl
  rw [e, show (z_free zN 3 8 && z_cls zN zV29 3 [4]) = true by decide +kernel]
  rfl
set_option maxRecDepth 100000 in
set_option maxHeartbeats 4000000 in
theorem cO_init_27 (d : Nat) : z_denF zN (d + 1) mO_init (115, [some (.ref 3)], [], zV30) = z_denF zN (d + 1) mO_init (121, [some (.ref 3)], [.ref 13, .ref 3], zV31) := by
  have e : z_denF zN (d + 1) mO_init (115, [some (.ref 3)], [], zV30) = bif decide (¬ (6000 : Int32) < 0) && Nat.ble (6000 : Int32).toNatClampNeg 1000000 then z_denF zN (d + 1) mO_init (121, [some (.ref 3)], [.ref 13, .ref 3], zV31) else none := (z_J_eq zN (d + 1) mO_init tO_init [121] hO_init.1 hO_init.2 102 115 _).trans rfl
  rw [e, show (decide (¬ (6000 : Int32) < 0) && Nat.ble (6000 : Int32).toNatClampNeg 1000000) = true by decide +kernel]
  rfl
set_option maxRecDepth 100000 in
set_option maxHeartbeats 4000000 in
theorem cO_init_28 (d : Nat) : z_denF zN (d + 1) mO_init (121, [some (.ref 3)], [.ref 13, .ref 3], zV31) = z_denF zN (d + 1) mO_init (124, [some (.ref 3)], [], zV32) := by
  have e : z_denF zN (d + 1) mO_init (121, [some (.ref 3)], [.ref 13, .ref 3], zV31) = bif z_free zN 3 9 && z_cls zN zV31 3 [4] then z_denF zN (d + 1) mO_init (124, [some (.ref 3)], [], zV32) else none := (z_J_eq zN (d + 1) mO_init tO_init [124] hO_init.1 hO_init.2 102 121 _).trans rfl
  rw [e, show (z_free zN 3 9 && z_cls zN zV31 3 [4]) = true by decide +kernel]
  rfl
set_option maxRecDepth 100000 in
set_option maxHeartbeats 4000000 in
theorem cO_init_29 (d : Nat) : z_denF zN (d + 1) mO_init (124, [some (.ref 3)], [], zV32) = z_denF zN (d + 1) mO_init (129, [some (.ref 3)], [], zV33) := by
  have e : z_denF zN (d + 1) mO_init (124, [some (.ref 3)], [], zV32) = bif z_cls zN zV32 3 [4] then z_denF zN (d + 1) mO_init (129, [some (.ref 3)], [], zV33) else none := (z_J_eq zN (d + 1) mO_init tO_init [129] hO_init.1 hO_init.2 102 124 _).trans rfl
  rw [e, show (z_cls zN zV32 3 [4]) = true by decide +kernel]
  rfl
set_option maxRecDepth 100000 in
set_option maxHeartbeats 4000000 in
theorem cO_init_30 (d : Nat) : z_denF zN (d + 1) mO_init (129, [some (.ref 3)], [], zV33) = z_denF zN (d + 1) mO_init (134, [some (.ref 3)], [], zV34) := by
  have e : z_denF zN (d + 1) mO_init (129, [some (.ref 3)], [], zV33) = bif z_cls zN zV33 3 [4] then z_denF zN (d + 1) mO_init (134, [some (.ref 3)], [], zV34) else none := (z_J_eq zN (d + 1) mO_init tO_init [134] hO_init.1 hO_init.2 102 129 _).trans rfl
  rw [e, show (z_cls zN zV33 3 [4]) = true by decide +kernel]
  rfl
set_option maxRecDepth 100000 in
set_option maxHeartbeats 4000000 in
theorem cO_init_31 (d : Nat) : z_denF zN (d + 1) mO_init (134, [some (.ref 3)], [], zV34) = z_denF zN (d + 1) mO_init (141, [some (.ref 3)], [], zV35) := by
  have e : z_denF zN (d + 1) mO_init (134, [some (.ref 3)], [], zV34) = bif z_cls zN zV34 3 [4] then z_denF zN (d + 1) mO_init (141, [some (.ref 3)], [], zV35) else none := (z_J_eq zN (d + 1) mO_init tO_init [141] hO_init.1 hO_init.2 102 134 _).trans rfl
  rw [e, show (z_cls zN zV34 3 [4]) = true by decide +kernel]
  rfl
set_option maxRecDepth 100000 in
set_option maxHeartbeats 4000000 in
theorem cO_init_32 (d : Nat) : z_denF zN (d + 1) mO_init (141, [some (.ref 3)], [], zV35) = z_denF zN (d + 1) mO_init (146, [some (.ref 3)], [], zV36) := by
  have e : z_denF zN (d + 1) mO_init (141, [some (.ref 3)], [], zV35) = bif z_cls zN zV35 3 [4] then z_denF zN (d + 1) mO_init (146, [some (.ref 3)], [], zV36) else none := (z_J_eq zN (d + 1) mO_init tO_init [146] hO_init.1 hO_init.2 102 141 _).trans rfl
  rw [e, show (z_cls zN zV35 3 [4]) = true by decide +kernel]
  rfl
set_option maxRecDepth 100000 in
set_option maxHeartbeats 4000000 in
theorem cO_init_33 (d : Nat) : z_denF zN (d + 1) mO_init (146, [some (.ref 3)], [], zV36) = z_denF zN (d + 1) mO_init (151, [some (.ref 3)], [], zV37) := by
  have e : z_denF zN (d + 1) mO_init (146, [some (.ref 3)], [], zV36) = bif z_cls zN zV36 3 [4] then z_denF zN (d + 1) mO_init (151, [some (.ref 3)], [], zV37) else none := (z_J_eq zN (d + 1) mO_init tO_init [151] hO_init.1 hO_init.2 102 146 _).trans rfl
  rw [e, show (z_cls zN zV36 3 [4]) = true by decide +kernel]
  rfl
set_option maxRecDepth 100000 in
set_option maxHeartbeats 4000000 in
theorem cO_init_34 (d : Nat) : z_denF zN (d + 1) mO_init (151, [some (.ref 3)], [], zV37) = z_denF zN (d + 1) mO_init (156, [some (.ref 3)], [], zV38) := by
  have e : z_denF zN (d + 1) mO_init (151, [some (.ref 3)], [], zV37) = bif decide ((0 : Int32) &&& 1 = 0) && z_cls zN zV37 3 [4] then z_denF zN (d + 1) mO_init (156, [some (.ref 3)], [], zV38) else none := (z_J_eq zN (d + 1) mO_init tO_init [156] hO_init.1 hO_init.2 102 151 _).trans rfl
  rw [e, show (decide ((0 : Int32) &&& 1 = 0) && z_cls zN zV37 3 [4]) = true by decide +kernel]
  rfl
set_option maxRecDepth 100000 in
set_option maxHeartbeats 4000000 in
theorem cO_init_35 (d : Nat) : z_denF zN (d + 1) mO_init (156, [some (.ref 3)], [], zV38) = z_denF zN (d + 1) mO_init (161, [some (.ref 3)], [], zV39) := by
  have e : z_denF zN (d + 1) mO_init (156, [some (.ref 3)], [], zV38) = bif z_free zN 3 16 && z_cls zN zV38 3 [4] then z_denF zN (d + 1) mO_init (161, [some (.ref 3)], [], zV39) else none := (z_J_eq zN (d + 1) mO_init tO_init [161] hO_init.1 hO_init.2 102 156 _).trans rfl
  rw [e, show (z_free zN 3 16 && z_cls zN zV38 3 [4]) = true by decide +kernel]
  rfl
set_option maxRecDepth 100000 in
set_option maxHeartbeats 4000000 in
theorem cO_init_36 (d : Nat) : z_denF zN (d + 1) mO_init (161, [some (.ref 3)], [], zV39) = z_denF zN (d + 1) mO_init (165, [some (.ref 3)], [.ref 11], zV39) := by
  have e : z_denF zN (d + 1) mO_init (161, [some (.ref 3)], [], zV39) = bif z_cls zN zV39 3 [4] then z_denF zN (d + 1) mO_init (165, [some (.ref 3)], [.ref 11], zV39) else none := (z_J_eq zN (d + 1) mO_init tO_init [165] hO_init.1 hO_init.2 102 161 _).trans rfl
  rw [e, show (z_cls zN zV39 3 [4]) = true by decide +kernel]
  rfl
set_option maxRecDepth 100000 in
set_option maxHeartbeats 4000000 in
theorem cO_init_37 (d : Nat) : z_denF zN (d + 1) mO_init (165, [some (.ref 3)], [.ref 11], zV39) = z_denF zN (d + 1) mO_init (169, [some (.ref 3)], [], zV40) := by
  have e : z_denF zN (d + 1) mO_init (165, [some (.ref 3)], [.ref 11], zV39) = bif !(Nat.beq 11 56) && z_ia zN zV39 11 14 4 then z_denF zN (d + 1) mO_init (169, [some (.ref 3)], [], zV40) else none := (z_J_eq zN (d + 1) mO_init tO_init [169] hO_init.1 hO_init.2 102 165 _).trans rfl
  rw [e, z_ia_N (n := 523) rfl (by decide +kernel)]
  rfl
set_option maxRecDepth 100000 in
set_option maxHeartbeats 4000000 in
theorem cO_init_38 (d : Nat) : z_denF zN (d + 1) mO_init (169, [some (.ref 3)], [], zV40) = some (none, zV40) :=
  (z_J_eq zN (d + 1) mO_init tO_init [] hO_init.1 hO_init.2 102 169 _).trans rfl
theorem B_O_init (d : Nat) : z_den zN (d + 1) mO_init [.ref 3] zC2 = some (none, zC7) := by
  show z_fit mO_init [.ref 3] (z_denF zN (d + 1) mO_init (0, [some (.ref 3)], [], zV4)) = some (none, zV40)
  rw [z_fit_of rfl, cO_init_0, cO_init_1, cO_init_2, cO_init_3, cO_init_4, cO_init_5, cO_init_6, cO_init_7, cO_init_8, cO_init_9, cO_init_10, cO_init_11, cO_init_12, cO_init_13, cO_init_14, cO_init_15, cO_init_16, cO_init_17, cO_init_18, cO_init_19, cO_init_20, cO_init_21, cO_init_22, cO_init_23, cO_init_24, cO_init_25, cO_init_26, cO_init_27, cO_init_28, cO_init_29, cO_init_30, cO_init_31, cO_init_32, cO_init_33, cO_init_34, cO_init_35, cO_init_36, cO_init_37, cO_init_38]
set_option maxRecDepth 100000 in
theorem hP_init : z_tab mP_init = tP_init ∧ z_inc tP_init 0 = true := ⟨rfl, by decide +kernel⟩
set_option maxRecDepth 100000 in
set_option maxHeartbeats 4000000 in
theorem cP_init_0 (d : Nat) : z_denF zN (d + 2) mP_init (0, [some (.ref 1)], [], zV1) = z_denF zN (d + 2) mP_init (4, [some (.ref 1)], [], zV1) := by
  have e : z_denF zN (d + 2) mP_init (0, [some (.ref 1)], [], zV1) = bif Nat.ble (z_words []) 8 && !(Nat.beq 1 0) then z_denF zN (d + 2) mP_init (4, [some (.ref 1)], [], zV1) else none := (z_J_eq zN (d + 2) mP_init tP_init [4] hP_init.1 hP_init.2 32 0 _).trans rfl
  rw [e, show (Nat.ble (z_words []) 8 && !(Nat.beq 1 0)) = true by decide +kernel]
  rfl
set_option maxRecDepth 100000 in
set_option maxHeartbeats 4000000 in
theorem cP_init_1 (d : Nat) : z_denF zN (d + 2) mP_init (4, [some (.ref 1)], [], zV1) = z_denF zN (d + 2) mP_init (10, [some (.ref 1)], [.ref 2, .ref 1], zV2) := by
  have e : z_denF zN (d + 2) mP_init (4, [some (.ref 1)], [], zV1) = bif decide (¬ (20 : Int32) < 0) && Nat.ble (20 : Int32).toNatClampNeg 1000000 then z_denF zN (d + 2) mP_init (10, [some (.ref 1)], [.ref 2, .ref 1], zV2) else none := (z_J_eq zN (d + 2) mP_init tP_init [10] hP_init.1 hP_init.2 32 4 _).trans rfl
  rw [e, show (decide (¬ (20 : Int32) < 0) && Nat.ble (20 : Int32).toNatClampNeg 1000000) = true by decide +kernel]
  rfl
set_option maxRecDepth 100000 in
set_option maxHeartbeats 4000000 in
theorem cP_init_2 (d : Nat) : z_denF zN (d + 2) mP_init (10, [some (.ref 1)], [.ref 2, .ref 1], zV2) = z_denF zN (d + 2) mP_init (13, [some (.ref 1)], [], zV3) := by
  have e : z_denF zN (d + 2) mP_init (10, [some (.ref 1)], [.ref 2, .ref 1], zV2) = bif z_free zN 1 0 && z_cls zN zV2 1 [10] then z_denF zN (d + 2) mP_init (13, [some (.ref 1)], [], zV3) else none := (z_J_eq zN (d + 2) mP_init tP_init [13] hP_init.1 hP_init.2 32 10 _).trans rfl
  rw [e, show (z_free zN 1 0 && z_cls zN zV2 1 [10]) = true by decide +kernel]
  rfl
set_option maxRecDepth 100000 in
set_option maxHeartbeats 4000000 in
theorem cP_init_3 (d : Nat) : z_denF zN (d + 2) mP_init (13, [some (.ref 1)], [], zV3) = z_denF zN (d + 2) mP_init (17, [some (.ref 1)], [.ref 3, .ref 1], zV4) :=
  (z_J_eq zN (d + 2) mP_init tP_init [17] hP_init.1 hP_init.2 32 13 _).trans rfl
set_option maxRecDepth 100000 in
set_option maxHeartbeats 4000000 in
theorem cP_init_4 (d : Nat) : z_denF zN (d + 2) mP_init (17, [some (.ref 1)], [.ref 3, .ref 1], zV4) = z_denF zN (d + 2) mP_init (21, [some (.ref 1)], [.ref 3, .ref 1], zV40) := by
  have e : z_denF zN (d + 2) mP_init (17, [some (.ref 1)], [.ref 3, .ref 1], zV4) = bif Nat.ble (z_words [.ref 3, .ref 1]) 8 && z_cls zN zV4 3 [4] then z_bV (z_den zN (d + 1) mO_init [.ref 3] zV4) (fun M => z_denF zN (d + 2) mP_init (21, [some (.ref 1)], [.ref 3, .ref 1], M)) else none := (z_J_eq zN (d + 2) mP_init tP_init [21] hP_init.1 hP_init.2 32 17 _).trans rfl
  have h : z_den zN (d + 1) mO_init [.ref 3] zV4 = some (none, zV40) := B_O_init d
  rw [e, h, show (Nat.ble (z_words [.ref 3, .ref 1]) 8 && z_cls zN zV4 3 [4]) = true by decide +kernel]
  rfl
set_option maxRecDepth 100000 in
set_option maxHeartbeats 4000000 in
theorem cP_init_5 (d : Nat) : z_denF zN (d + 2) mP_init (21, [some (.ref 1)], [.ref 3, .ref 1], zV40) = z_denF zN (d + 2) mP_init (24, [some (.ref 1)], [], zV41) := by
  have e : z_denF zN (d + 2) mP_init (21, [some (.ref 1)], [.ref 3, .ref 1], zV40) = bif z_free zN 1 1 && z_cls zN zV40 1 [10] then z_denF zN (d + 2) mP_init (24, [some (.ref 1)], [], zV41) else none := (z_J_eq zN (d + 2) mP_init tP_init [24] hP_init.1 hP_init.2 32 21 _).trans rfl
  rw [e, show (z_free zN 1 1 && z_cls zN zV40 1 [10]) = true by decide +kernel]
  rfl
set_option maxRecDepth 100000 in
set_option maxHeartbeats 4000000 in
theorem cP_init_6 (d : Nat) : z_denF zN (d + 2) mP_init (24, [some (.ref 1)], [], zV41) = z_denF zN (d + 2) mP_init (30, [some (.ref 1)], [.ref 14, .ref 1], zV42) := by
  have e : z_denF zN (d + 2) mP_init (24, [some (.ref 1)], [], zV41) = bif decide (¬ (1792 : Int32) < 0) && Nat.ble (1792 : Int32).toNatClampNeg 1000000 then z_denF zN (d + 2) mP_init (30, [some (.ref 1)], [.ref 14, .ref 1], zV42) else none := (z_J_eq zN (d + 2) mP_init tP_init [30] hP_init.1 hP_init.2 32 24 _).trans rfl
  rw [e, show (decide (¬ (1792 : Int32) < 0) && Nat.ble (1792 : Int32).toNatClampNeg 1000000) = true by decide +kernel]
  rfl
set_option maxRecDepth 100000 in
set_option maxHeartbeats 4000000 in
theorem cP_init_7 (d : Nat) : z_denF zN (d + 2) mP_init (30, [some (.ref 1)], [.ref 14, .ref 1], zV42) = z_denF zN (d + 2) mP_init (33, [some (.ref 1)], [], zV43) := by
  have e : z_denF zN (d + 2) mP_init (30, [some (.ref 1)], [.ref 14, .ref 1], zV42) = bif z_free zN 1 2 && z_cls zN zV42 1 [10] then z_denF zN (d + 2) mP_init (33, [some (.ref 1)], [], zV43) else none := (z_J_eq zN (d + 2) mP_init tP_init [33] hP_init.1 hP_init.2 32 30 _).trans rfl
  rw [e, show (z_free zN 1 2 && z_cls zN zV42 1 [10]) = true by decide +kernel]
  rfl
set_option maxRecDepth 100000 in
set_option maxHeartbeats 4000000 in
theorem cP_init_8 (d : Nat) : z_denF zN (d + 2) mP_init (33, [some (.ref 1)], [], zV43) = z_denF zN (d + 2) mP_init (38, [some (.ref 1)], [], zV44) := by
  have e : z_denF zN (d + 2) mP_init (33, [some (.ref 1)], [], zV43) = bif z_cls zN zV43 1 [10] then z_denF zN (d + 2) mP_init (38, [some (.ref 1)], [], zV44) else none := (z_J_eq zN (d + 2) mP_init tP_init [38] hP_init.1 hP_init.2 32 33 _).trans rfl
  rw [e, show (z_cls zN zV43 1 [10]) = true by decide +kernel]
  rfl
set_option maxRecDepth 100000 in
set_option maxHeartbeats 4000000 in
theorem cP_init_9 (d : Nat) : z_denF zN (d + 2) mP_init (38, [some (.ref 1)], [], zV44) = z_denF zN (d + 2) mP_init (43, [some (.ref 1)], [], zV45) := by
  have e : z_denF zN (d + 2) mP_init (38, [some (.ref 1)], [], zV44) = bif z_cls zN zV44 1 [10] then z_denF zN (d + 2) mP_init (43, [some (.ref 1)], [], zV45) else none := (z_J_eq zN (d + 2) mP_init tP_init [43] hP_init.1 hP_init.2 32 38 _).trans rfl
  rw [e, show (z_cls zN zV44 1 [10]) = true by decide +kernel]
  rfl
set_option maxRecDepth 100000 in
set_option maxHeartbeats 4000000 in
theorem cP_init_10 (d : Nat) : z_denF zN (d + 2) mP_init (43, [some (.ref 1)], [], zV45) = z_denF zN (d + 2) mP_init (48, [some (.ref 1)], [], zV46) := by
  have e : z_denF zN (d + 2) mP_init (43, [some (.ref 1)], [], zV45) = bif z_cls zN zV45 1 [10] then z_denF zN (d + 2) mP_init (48, [some (.ref 1)], [], zV46) else none := (z_J_eq zN (d + 2) mP_init tP_init [48] hP_init.1 hP_init.2 32 43 _).trans rfl
  rw [e, show (z_cls zN zV45 1 [10]) = true by decide +kernel]
  rfl
set_option maxRecDepth 100000 in
set_option maxHeartbeats 4000000 in
theorem cP_init_11 (d : Nat) : z_denF zN (d + 2) mP_init (48, [some (.ref 1)], [], zV46) = z_denF zN (d + 2) mP_init (53, [some (.ref 1)], [], zV47) := by
  have e : z_denF zN (d + 2) mP_init (48, [some (.ref 1)], [], zV46) = bif z_cls zN zV46 1 [10] then z_denF zN (d + 2) mP_init (53, [some (.ref 1)], [], zV47) else none := (z_J_eq zN (d + 2) mP_init tP_init [53] hP_init.1 hP_init.2 32 48 _).trans rfl
  rw [e, show (z_cls zN zV46 1 [10]) = true by decide +kernel]
  rfl
set_option maxRecDepth 100000 in
set_option maxHeartbeats 4000000 in
theorem cP_init_12 (d : Nat) : z_denF zN (d + 2) mP_init (53, [some (.ref 1)], [], zV47) = z_denF zN (d + 2) mP_init (58, [some (.ref 1)], [], zV48) := by
  have e : z_denF zN (d + 2) mP_init (53, [some (.ref 1)], [], zV47) = bif z_cls zN zV47 1 [10] then z_denF zN (d + 2) mP_init (58, [some (.ref 1)], [], zV48) else none := (z_J_eq zN (d + 2) mP_init tP_init [58] hP_init.1 hP_init.2 32 53 _).trans rfl
  rw [e, show (z_cls zN zV47 1 [10]) = true by decide +kernel]
  rfl
set_option maxRecDepth 100000 in
set_option maxHeartbeats 4000000 in
theorem cP_init_13 (d : Nat) : z_denF zN (d + 2) mP_init (58, [some (.ref 1)], [], zV48) = some (none, zV48) :=
  (z_J_eq zN (d + 2) mP_init tP_init [] hP_init.1 hP_init.2 32 58 _).trans rfl
theorem B_P_init (d : Nat) : z_den zN (d + 2) mP_init [.ref 1] zC1 = some (none, zC8) := by
  show z_fit mP_init [.ref 1] (z_denF zN (d + 2) mP_init (0, [some (.ref 1)], [], zV1)) = some (none, zV48)
  rw [z_fit_of rfl, cP_init_0, cP_init_1, cP_init_2, cP_init_3, cP_init_4, cP_init_5, cP_init_6, cP_init_7, cP_init_8, cP_init_9, cP_init_10, cP_init_11, cP_init_12, cP_init_13]
set_option maxRecDepth 100000 in
theorem hQ_init : z_tab mQ_init = tQ_init ∧ z_inc tQ_init 0 = true := ⟨rfl, by decide +kernel⟩
set_option maxRecDepth 100000 in
set_option maxHeartbeats 4000000 in
theorem cQ_init_0 (d : Nat) : z_denF zN (d + 1) mQ_init (0, [some (.ref 15)], [], zV49) = z_denF zN (d + 1) mQ_init (4, [some (.ref 15)], [], zV49) := by
  have e : z_denF zN (d + 1) mQ_init (0, [some (.ref 15)], [], zV49) = bif Nat.ble (z_words []) 8 && !(Nat.beq 15 0) then z_denF zN (d + 1) mQ_init (4, [some (.ref 15)], [], zV49) else none := (z_J_eq zN (d + 1) mQ_init tQ_init [4] hQ_init.1 hQ_init.2 170 0 _).trans rfl
  rw [e, show (Nat.ble (z_words []) 8 && !(Nat.beq 15 0)) = true by decide +kernel]
  rfl
set_option maxRecDepth 100000 in
set_option maxHeartbeats 4000000 in
theorem cQ_init_1 (d : Nat) : z_denF zN (d + 1) mQ_init (4, [some (.ref 15)], [], zV49) = z_denF zN (d + 1) mQ_init (9, [some (.ref 15)], [.ref 16, .ref 15], zV50) := by
  have e : z_denF zN (d + 1) mQ_init (4, [some (.ref 15)], [], zV49) = bif decide (¬ (20 : Int32) < 0) && Nat.ble (20 : Int32).toNatClampNeg 1000000 then z_denF zN (d + 1) mQ_init (9, [some (.ref 15)], [.ref 16, .ref 15], zV50) else none := (z_J_eq zN (d + 1) mQ_init tQ_init [9] hQ_init.1 hQ_init.2 170 4 _).trans rfl
  rw [e, show (decide (¬ (20 : Int32) < 0) && Nat.ble (20 : Int32).toNatClampNeg 1000000) = true by decide +kernel]
  rfl
set_option maxRecDepth 100000 in
set_option maxHeartbeats 4000000 in
theorem cQ_init_2 (d : Nat) : z_denF zN (d + 1) mQ_init (9, [some (.ref 15)], [.ref 16, .ref 15], zV50) = z_denF zN (d + 1) mQ_init (12, [some (.ref 15)], [], zV51) := by
  have e : z_denF zN (d + 1) mQ_init (9, [some (.ref 15)], [.ref 16, .ref 15], zV50) = bif z_free zN 15 2 && z_cls zN zV50 15 [11] then z_denF zN (d + 1) mQ_init (12, [some (.ref 15)], [], zV51) else none := (z_J_eq zN (d + 1) mQ_init tQ_init [12] hQ_init.1 hQ_init.2 170 9 _).trans rfl
  rw [e, show (z_free zN 15 2 && z_cls zN zV50 15 [11]) = true by decide +kernel]
  rfl
set_option maxRecDepth 100000 in
set_option maxHeartbeats 4000000 in
theorem cQ_init_3 (d : Nat) : z_denF zN (d + 1) mQ_init (12, [some (.ref 15)], [], zV51) = z_denF zN (d + 1) mQ_init (18, [some (.ref 15)], [.ref 17, .ref 15], zV52) := by
  have e : z_denF zN (d + 1) mQ_init (12, [some (.ref 15)], [], zV51) = bif decide (¬ (8000 : Int32) < 0) && Nat.ble (8000 : Int32).toNatClampNeg 1000000 then z_denF zN (d + 1) mQ_init (18, [some (.ref 15)], [.ref 17, .ref 15], zV52) else none := (z_J_eq zN (d + 1) mQ_init tQ_init [18] hQ_init.1 hQ_init.2 170 12 _).trans rfl
  rw [e, show (decide (¬ (8000 : Int32) < 0) && Nat.ble (8000 : Int32).toNatClampNeg 1000000) = true by decide +kernel]
  rfl
set_option maxRecDepth 100000 in
set_option maxHeartbeats 4000000 in
theorem cQ_init_4 (d : Nat) : z_denF zN (d + 1) mQ_init (18, [some (.ref 15)], [.ref 17, .ref 15], zV52) = z_denF zN (d + 1) mQ_init (21, [some (.ref 15)], [], zV53) := by
  have e : z_denF zN (d + 1) mQ_init (18, [some (.ref 15)], [.ref 17, .ref 15], zV52) = bif z_free zN 15 3 && z_cls zN zV52 15 [11] then z_denF zN (d + 1) mQ_init (21, [some (.ref 15)], [], zV53) else none := (z_J_eq zN (d + 1) mQ_init tQ_init [21] hQ_init.1 hQ_init.2 170 18 _).trans rfl
  rw [e, show (z_free zN 15 3 && z_cls zN zV52 15 [11]) = true by decide +kernel]
  rfl
set_option maxRecDepth 100000 in
set_option maxHeartbeats 4000000 in
theorem cQ_init_5 (d : Nat) : z_denF zN (d + 1) mQ_init (21, [some (.ref 15)], [], zV53) = z_denF zN (d + 1) mQ_init (27, [some (.ref 15)], [.ref 18, .ref 15], zV54) := by
  have e : z_denF zN (d + 1) mQ_init (21, [some (.ref 15)], [], zV53) = bif decide (¬ (400 : Int32) < 0) && Nat.ble (400 : Int32).toNatClampNeg 1000000 then z_denF zN (d + 1) mQ_init (27, [some (.ref 15)], [.ref 18, .ref 15], zV54) else none := (z_J_eq zN (d + 1) mQ_init tQ_init [27] hQ_init.1 hQ_init.2 170 21 _).trans rfl
  rw [e, show (decide (¬ (400 : Int32) < 0) && Nat.ble (400 : Int32).toNatClampNeg 1000000) = true by decide +kernel]
  rfl
set_option maxRecDepth 100000 in
set_option maxHeartbeats 4000000 in
theorem cQ_init_6 (d : Nat) : z_denF zN (d + 1) mQ_init (27, [some (.ref 15)], [.ref 18, .ref 15], zV54) = z_denF zN (d + 1) mQ_init (30, [some (.ref 15)], [], zV55) := by
  have e : z_denF zN (d + 1) mQ_init (27, [some (.ref 15)], [.ref 18, .ref 15], zV54) = bif z_free zN 15 5 && z_cls zN zV54 15 [11] then z_denF zN (d + 1) mQ_init (30, [some (.ref 15)], [], zV55) else none := (z_J_eq zN (d + 1) mQ_init tQ_init [30] hQ_init.1 hQ_init.2 170 27 _).trans rfl
  rw [e, show (z_free zN 15 5 && z_cls zN zV54 15 [11]) = true by decide +kernel]
  rfl
set_option maxRecDepth 100000 in
set_option maxHeartbeats 4000000 in
theorem cQ_init_7 (d : Nat) : z_denF zN (d + 1) mQ_init (30, [some (.ref 15)], [], zV55) = z_denF zN (d + 1) mQ_init (36, [some (.ref 15)], [.ref 19, .ref 15], zV56) := by
  have e : z_denF zN (d + 1) mQ_init (30, [some (.ref 15)], [], zV55) = bif decide (¬ (400 : Int32) < 0) && Nat.ble (400 : Int32).toNatClampNeg 1000000 then z_denF zN (d + 1) mQ_init (36, [some (.ref 15)], [.ref 19, .ref 15], zV56) else none := (z_J_eq zN (d + 1) mQ_init tQ_init [36] hQ_init.1 hQ_init.2 170 30 _).trans rfl
  rw [e, show (decide (¬ (400 : Int32) < 0) && Nat.ble (400 : Int32).toNatClampNeg 1000000) = true by decide +kernel]
  rfl
set_option maxRecDepth 100000 in
set_option maxHeartbeats 4000000 in
theorem cQ_init_8 (d : Nat) : z_denF zN (d + 1) mQ_init (36, [some (.ref 15)], [.ref 19, .ref 15], zV56) = z_denF zN (d + 1) mQ_init (39, [some (.ref 15)], [], zV57) := by
  have e : z_denF zN (d + 1) mQ_init (36, [some (.ref 15)], [.ref 19, .ref 15], zV56) = bif z_free zN 15 6 && z_cls zN zV56 15 [11] then z_denF zN (d + 1) mQ_init (39, [some (.ref 15)], [], zV57) else none := (z_J_eq zN (d + 1) mQ_init tQ_init [39] hQ_init.1 hQ_init.2 170 36 _).trans rfl
  rw [e, show (z_free zN 15 6 && z_cls zN zV56 15 [11]) = true by decide +kernel]
  rfl
set_option maxRecDepth 100000 in
set_option maxHeartbeats 4000000 in
theorem cQ_init_9 (d : Nat) : z_denF zN (d + 1) mQ_init (39, [some (.ref 15)], [], zV57) = z_denF zN (d + 1) mQ_init (45, [some (.ref 15)], [.ref 20, .ref 15], zV58) := by
  have e : z_denF zN (d + 1) mQ_init (39, [some (.ref 15)], [], zV57) = bif decide (¬ (400 : Int32) < 0) && Nat.ble (400 : Int32).toNatClampNeg 1000000 then z_denF zN (d + 1) mQ_init (45, [some (.ref 15)], [.ref 20, .ref 15], zV58) else none := (z_J_eq zN (d + 1) mQ_init tQ_init [45] hQ_init.1 hQ_init.2 170 39 _).trans rfl
  rw [e, show (decide (¬ (400 : Int32) < 0) && Nat.ble (400 : Int32).toNatClampNeg 1000000) = true by decide +kernel]
  rfl
set_option maxRecDepth 100000 in
set_option maxHeartbeats 4000000 in
theorem cQ_init_10 (d : Nat) : z_denF zN (d + 1) mQ_init (45, [some (.ref 15)], [.ref 20, .ref 15], zV58) = z_denF zN (d + 1) mQ_init (48, [some (.ref 15)], [], zV59) := by
  have e : z_denF zN (d + 1) mQ_init (45, [some (.ref 15)], [.ref 20, .ref 15], zV58) = bif z_free zN 15 7 && z_cls zN zV58 15 [11] then z_denF zN (d + 1) mQ_init (48, [some (.ref 15)], [], zV59) else none := (z_J_eq zN (d + 1) mQ_init tQ_init [48] hQ_init.1 hQ_init.2 170 45 _).trans rfl
  rw [e, show (z_free zN 15 7 && z_cls zN zV58 15 [11]) = true by decide +kernel]
  rfl
set_option maxRecDepth 100000 in
set_option maxHeartbeats 4000000 in
theorem cQ_init_11 (d : Nat) : z_denF zN (d + 1) mQ_init (48, [some (.ref 15)], [], zV59) = z_denF zN (d + 1) mQ_init (54, [some (.ref 15)], [.ref 21, .ref 15], zV60) := by
  have e : z_denF zN (d + 1) mQ_init (48, [some (.ref 15)], [], zV59) = bif decide (¬ (400 : Int32) < 0) && Nat.ble (400 : Int32).toNatClampNeg 1000000 then z_denF zN (d + 1) mQ_init (54, [some (.ref 15)], [.ref 21, .ref 15], zV60) else none := (z_J_eq zN (d + 1) mQ_init tQ_init [54] hQ_init.1 hQ_init.2 170 48 _).trans rfl
  rw [e, show (decide (¬ (400 : Int32) < 0) && Nat.ble (400 : Int32).toNatClampNeg 1000000) = true by decide +kernel]
  rfl
set_option maxRecDepth 100000 in
set_option maxHeartbeats 4000000 in
theorem cQ_init_12 (d : Nat) : z_denF zN (d + 1) mQ_init (54, [some (.ref 15)], [.ref 21, .ref 15], zV60) = z_denF zN (d + 1) mQ_init (57, [some (.ref 15)], [], zV61) := by
  have e : z_denF zN (d + 1) mQ_init (54, [some (.ref 15)], [.ref 21, .ref 15], zV60) = bif z_free zN 15 8 && z_cls zN zV60 15 [11] then z_denF zN (d + 1) mQ_init (57, [some (.ref 15)], [], zV61) else none := (z_J_eq zN (d + 1) mQ_init tQ_init [57] hQ_init.1 hQ_init.2 170 54 _).trans rfl
  rw [e, show (z_free zN 15 8 && z_cls zN zV60 15 [11]) = true by decide +kernel]
  rfl
set_option maxRecDepth 100000 in
set_option maxHeartbeats 4000000 in
theorem cQ_init_13 (d : Nat) : z_denF zN (d + 1) mQ_init (57, [some (.ref 15)], [], zV61) = z_denF zN (d + 1) mQ_init (63, [some (.ref 15)], [.ref 22, .ref 15], zV62) := by
  have e : z_denF zN (d + 1) mQ_init (57, [some (.ref 15)], [], zV61) = bif decide (¬ (400 : Int32) < 0) && Nat.ble (400 : Int32).toNatClampNeg 1000000 then z_denF zN (d + 1) mQ_init (63, [some (.ref 15)], [.ref 22, .ref 15], zV62) else none := (z_J_eq zN (d + 1) mQ_init tQ_init [63] hQ_init.1 hQ_init.2 170 57 _).trans rfl
  rw [e, show (decide (¬ (400 : Int32) < 0) && Nat.ble (400 : Int32).toNatClampNeg 1000000) = true by decide +kernel]
  rfl
set_option maxRecDepth 100000 in
set_option maxHeartbeats 4000000 in
theorem cQ_init_14 (d : Nat) : z_denF zN (d + 1) mQ_init (63, [some (.ref 15)], [.ref 22, .ref 15], zV62) = z_denF zN (d + 1) mQ_init (66, [some (.ref 15)], [], zV63) := by
  have e : z_denF zN (d + 1) mQ_init (63, [some (.ref 15)], [.ref 22, .ref 15], zV62) = bif z_free zN 15 9 && z_cls zN zV62 15 [11] then z_denF zN (d + 1) mQ_init (66, [some (.ref 15)], [], zV63) else none := (z_J_eq zN (d + 1) mQ_init tQ_init [66] hQ_init.1 hQ_init.2 170 63 _).trans rfl
  rw [e, show (z_free zN 15 9 && z_cls zN zV62 15 [11]) = true by decide +kernel]
  rfl
set_option maxRecDepth 100000 in
set_option maxHeartbeats 4000000 in
theorem cQ_init_15 (d : Nat) : z_denF zN (d + 1) mQ_init (66, [some (.ref 15)], [], zV63) = z_denF zN (d + 1) mQ_init (72, [some (.ref 15)], [.ref 23, .ref 15], zV64) := by
  have e : z_denF zN (d + 1) mQ_init (66, [some (.ref 15)], [], zV63) = bif decide (¬ (3600 : Int32) < 0) && Nat.ble (3600 : Int32).toNatClampNeg 1000000 then z_denF zN (d + 1) mQ_init (72, [some (.ref 15)], [.ref 23, .ref 15], zV64) else none := (z_J_eq zN (d + 1) mQ_init tQ_init [72] hQ_init.1 hQ_init.2 170 66 _).trans rfl
  rw [e, show (decide (¬ (3600 : Int32) < 0) && Nat.ble (3600 : Int32).toNatClampNeg 1000000) = true by decide +kernel]
  rfl
set_option maxRecDepth 100000 in
set_option maxHeartbeats 4000000 in
theorem cQ_init_16 (d : Nat) : z_denF zN (d + 1) mQ_init (72, [some (.ref 15)], [.ref 23, .ref 15], zV64) = z_denF zN (d + 1) mQ_init (75, [some (.ref 15)], [], zV65) := by
  have e : z_denF zN (d + 1) mQ_init (72, [some (.ref 15)], [.ref 23, .ref 15], zV64) = bif z_free zN 15 10 && z_cls zN zV64 15 [11] then z_denF zN (d + 1) mQ_init (75, [some (.ref 15)], [], zV65) else none := (z_J_eq zN (d + 1) mQ_init tQ_init [75] hQ_init.1 hQ_init.2 170 72 _).trans rfl
  rw [e, show (z_free zN 15 10 && z_cls zN zV64 15 [11]) = true by decide +kernel]
  rfl
set_option maxRecDepth 100000 in
set_option maxHeartbeats 4000000 in
theorem cQ_init_17 (d : Nat) : z_denF zN (d + 1) mQ_init (75, [some (.ref 15)], [], zV65) = z_denF zN (d + 1) mQ_init (81, [some (.ref 15)], [.ref 24, .ref 15], zV66) := by
  have e : z_denF zN (d + 1) mQ_init (75, [some (.ref 15)], [], zV65) = bif decide (¬ (400 : Int32) < 0) && Nat.ble (400 : Int32).toNatClampNeg 1000000 then z_denF zN (d + 1) mQ_init (81, [some (.ref 15)], [.ref 24, .ref 15], zV66) else none := (z_J_eq zN (d + 1) mQ_init tQ_init [81] hQ_init.1 hQ_init.2 170 75 _).trans rfl
  rw [e, show (decide (¬ (400 : Int32) < 0) && Nat.ble (400 : Int32).toNatClampNeg 1000000) = true by decide +kernel]
  rfl
set_option maxRecDepth 100000 in
set_option maxHeartbeats 4000000 in
theorem cQ_init_18 (d : Nat) : z_denF zN (d + 1) mQ_init (81, [some (.ref 15)], [.ref 24, .ref 15], zV66) = z_denF zN (d + 1) mQ_init (84, [some (.ref 15)], [], zV67) := by
  have e : z_denF zN (d + 1) mQ_init (81, [some (.ref 15)], [.ref 24, .ref 15], zV66) = bif z_free zN 15 11 && z_cls zN zV66 15 [11] then z_denF zN (d + 1) mQ_init (84, [some (.ref 15)], [], zV67) else none := (z_J_eq zN (d + 1) mQ_init tQ_init [84] hQ_init.1 hQ_init.2 170 81 _).trans rfl
  rw [e, show (z_free zN 15 11 && z_cls zN zV66 15 [11]) = true by decide +kernel]
  rfl
set_option maxRecDepth 100000 in
set_option maxHeartbeats 4000000 in
theorem cQ_init_19 (d : Nat) : z_denF zN (d + 1) mQ_init (84, [some (.ref 15)], [], zV67) = z_denF zN (d + 1) mQ_init (89, [some (.ref 15)], [.ref 25, .ref 15], zV68) := by
  have e : z_denF zN (d + 1) mQ_init (84, [some (.ref 15)], [], zV67) = bif decide (¬ (102400 : Int32) < 0) && Nat.ble (102400 : Int32).toNatClampNeg 1000000 then z_denF zN (d + 1) mQ_init (89, [some (.ref 15)], [.ref 25, .ref 15], zV68) else none := (z_J_eq zN (d + 1) mQ_init tQ_init [89] hQ_init.1 hQ_init.2 170 84 _).trans rfl
  rw [e, show (decide (¬ (102400 : Int32) < 0) && Nat.ble (102400 : Int32).toNatClampNeg 1000000) = true by decide +kernel]
  rfl
set_option maxRecDepth 100000 in
set_option maxHeartbeats 4000000 in
theorem cQ_init_20 (d : Nat) : z_denF zN (d + 1) mQ_init (89, [some (.ref 15)], [.ref 25, .ref 15], zV68) = z_denF zN (d + 1) mQ_init (92, [some (.ref 15)], [], zV69) := by
  have e : z_denF zN (d + 1) mQ_init (89, [some (.ref 15)], [.ref 25, .ref 15], zV68) = bif z_free zN 15 12 && z_cls zN zV68 15 [11] then z_denF zN (d + 1) mQ_init (92, [some (.ref 15)], [], zV69) else none := (z_J_eq zN (d + 1) mQ_init tQ_init [92] hQ_init.1 hQ_init.2 170 89 _).trans rfl
  rw [e, show (z_free zN 15 12 && z_cls zN zV68 15 [11]) = true by decide +kernel]
  rfl
set_option maxRecDepth 100000 in
set_option maxHeartbeats 4000000 in
theorem cQ_init_21 (d : Nat) : z_denF zN (d + 1) mQ_init (92, [some (.ref 15)], [], zV69) = z_denF zN (d + 1) mQ_init (97, [some (.ref 15)], [.ref 26, .ref 15], zV70) := by
  have e : z_denF zN (d + 1) mQ_init (92, [some (.ref 15)], [], zV69) = bif decide (¬ (60 : Int32) < 0) && Nat.ble (60 : Int32).toNatClampNeg 1000000 then z_denF zN (d + 1) mQ_init (97, [some (.ref 15)], [.ref 26, .ref 15], zV70) else none := (z_J_eq zN (d + 1) mQ_init tQ_init [97] hQ_init.1 hQ_init.2 170 92 _).trans rfl
  rw [e, show (decide (¬ (60 : Int32) < 0) && Nat.ble (60 : Int32).toNatClampNeg 1000000) = true by decide +kernel]
  rfl
set_option maxRecDepth 100000 in
set_option maxHeartbeats 4000000 in
theorem cQ_init_22 (d : Nat) : z_denF zN (d + 1) mQ_init (97, [some (.ref 15)], [.ref 26, .ref 15], zV70) = z_denF zN (d + 1) mQ_init (100, [some (.ref 15)], [], zV71) := by
  have e : z_denF zN (d + 1) mQ_init (97, [some (.ref 15)], [.ref 26, .ref 15], zV70) = bif z_free zN 15 15 && z_cls zN zV70 15 [11] then z_denF zN (d + 1) mQ_init (100, [some (.ref 15)], [], zV71) else none := (z_J_eq zN (d + 1) mQ_init tQ_init [100] hQ_init.1 hQ_init.2 170 97 _).trans rfl
  rw [e, show (z_free zN 15 15 && z_cls zN zV70 15 [11]) = true by decide +kernel]
  rfl
set_option maxRecDepth 100000 in
set_option maxHeartbeats 4000000 in
theorem cQ_init_23 (d : Nat) : z_denF zN (d + 1) mQ_init (100, [some (.ref 15)], [], zV71) = z_denF zN (d + 1) mQ_init (105, [some (.ref 15)], [.ref 27, .ref 15], zV72) := by
  have e : z_denF zN (d + 1) mQ_init (100, [some (.ref 15)], [], zV71) = bif decide (¬ (60 : Int32) < 0) && Nat.ble (60 : Int32).toNatClampNeg 1000000 then z_denF zN (d + 1) mQ_init (105, [some (.ref 15)], [.ref 27, .ref 15], zV72) else none := (z_J_eq zN (d + 1) mQ_init tQ_init [105] hQ_init.1 hQ_init.2 170 100 _).trans rfl
  rw [e, show (decide (¬ (60 : Int32) < 0) && Nat.ble (60 : Int32).toNatClampNeg 1000000) = true by decide +kernel]
  rfl
set_option maxRecDepth 100000 in
set_option maxHeartbeats 4000000 in
theorem cQ_init_24 (d : Nat) : z_denF zN (d + 1) mQ_init (105, [some (.ref 15)], [.ref 27, .ref 15], zV72) = z_denF zN (d + 1) mQ_init (108, [some (.ref 15)], [], zV73) := by
  have e : z_denF zN (d + 1) mQ_init (105, [some (.ref 15)], [.ref 27, .ref 15], zV72) = bif z_free zN 15 16 && z_cls zN zV72 15 [11] then z_denF zN (d + 1) mQ_init (108, [some (.ref 15)], [], zV73) else none := (z_J_eq zN (d + 1) mQ_init tQ_init [108] hQ_init.1 hQ_init.2 170 105 _).trans rfl
  rw [e, show (z_free zN 15 16 && z_cls zN zV72 15 [11]) = true by decide +kernel]
  rfl
set_option maxRecDepth 100000 in
set_option maxHeartbeats 4000000 in
theorem cQ_init_25 (d : Nat) : z_denF zN (d + 1) mQ_init (108, [some (.ref 15)], [], zV73) = z_denF zN (d + 1) mQ_init (114, [some (.ref 15)], [.ref 28, .ref 15], zV74) := by
  have e : z_denF zN (d + 1) mQ_init (108, [some (.ref 15)], [], zV73) = bif decide (¬ (480 : Int32) < 0) && Nat.ble (480 : Int32).toNatClampNeg 1000000 then z_denF zN (d + 1) mQ_init (114, [some (.ref 15)], [.ref 28, .ref 15], zV74) else none := (z_J_eq zN (d + 1) mQ_init tQ_init [114] hQ_init.1 hQ_init.2 170 108 _).trans rfl
  rw [e, show (decide (¬ (480 : Int32) < 0) && Nat.ble (480 : Int32).toNatClampNeg 1000000) = true by decide +kernel]
  rfl
set_option maxRecDepth 100000 in
set_option maxHeartbeats 4000000 in
theorem cQ_init_26 (d : Nat) : z_denF zN (d + 1) mQ_init (114, [some (.ref 15)], [.ref 28, .ref 15], zV74) = z_denF zN (d + 1) mQ_init (117, [some (.ref 15)], [], zV75) := by
  have e : z_denF zN (d + 1) mQ_init (114, [some (.ref 15)], [.ref 28, .ref 15], zV74) = bif z_free zN 15 17 && z_cls zN zV74 15 [11] then z_denF zN (d + 1) mQ_init (117, [some (.ref 15)], [], zV75) else none := (z_J_eq zN (d + 1) mQ_init tQ_init [117] hQ_init.1 hQ_init.2 170 114 _).trans rfl
  rw [e, show (z_free zN 15 17 && z_cls zN zV74 15 [11]) = true by decide +kernel]
  rfl
set_option maxRecDepth 100000 in
set_option maxHeartbeats 4000000 in
theorem cQ_init_27 (d : Nat) : z_denF zN (d + 1) mQ_init (117, [some (.ref 15)], [], zV75) = z_denF zN (d + 1) mQ_init (122, [some (.ref 15)], [.ref 29, .ref 15], zV76) := by
  have e : z_denF zN (d + 1) mQ_init (117, [some (.ref 15)], [], zV75) = bif decide (¬ (60 : Int32) < 0) && Nat.ble (60 : Int32).toNatClampNeg 1000000 then z_denF zN (d + 1) mQ_init (122, [some (.ref 15)], [.ref 29, .ref 15], zV76) else none := (z_J_eq zN (d + 1) mQ_init tQ_init [122] hQ_init.1 hQ_init.2 170 117 _).trans rfl
  rw [e, show (decide (¬ (60 : Int32) < 0) && Nat.ble (60 : Int32).toNatClampNeg 1000000) = true by decide +kernel]
  rfl
set_option maxRecDepth 100000 in
set_option maxHeartbeats 4000000 in
theorem cQ_init_28 (d : Nat) : z_denF zN (d + 1) mQ_init (122, [some (.ref 15)], [.ref 29, .ref 15], zV76) = z_denF zN (d + 1) mQ_init (125, [some (.ref 15)], [], zV77) := by
  have e : z_denF zN (d + 1) mQ_init (122, [some (.ref 15)], [.ref 29, .ref 15], zV76) = bif z_free zN 15 18 && z_cls zN zV76 15 [11] then z_denF zN (d + 1) mQ_init (125, [some (.ref 15)], [], zV77) else none := (z_J_eq zN (d + 1) mQ_init tQ_init [125] hQ_init.1 hQ_init.2 170 122 _).trans rfl
  rw [e, show (z_free zN 15 18 && z_cls zN zV76 15 [11]) = true by decide +kernel]
  rfl
set_option maxRecDepth 100000 in
set_option maxHeartbeats 4000000 in
theorem cQ_init_29 (d : Nat) : z_denF zN (d + 1) mQ_init (125, [some (.ref 15)], [], zV77) = z_denF zN (d + 1) mQ_init (130, [some (.ref 15)], [.ref 30, .ref 15], zV78) := by
  have e : z_denF zN (d + 1) mQ_init (125, [some (.ref 15)], [], zV77) = bif decide (¬ (60 : Int32) < 0) && Nat.ble (60 : Int32).toNatClampNeg 1000000 then z_denF zN (d + 1) mQ_init (130, [some (.ref 15)], [.ref 30, .ref 15], zV78) else none := (z_J_eq zN (d + 1) mQ_init tQ_init [130] hQ_init.1 hQ_init.2 170 125 _).trans rfl
  rw [e, show (decide (¬ (60 : Int32) < 0) && Nat.ble (60 : Int32).toNatClampNeg 1000000) = true by decide +kernel]
  rfl
set_option maxRecDepth 100000 in
set_option maxHeartbeats 4000000 in
theorem cQ_init_30 (d : Nat) : z_denF zN (d + 1) mQ_init (130, [some (.ref 15)], [.ref 30, .ref 15], zV78) = z_denF zN (d + 1) mQ_init (133, [some (.ref 15)], [], zV79) := by
  have e : z_denF zN (d + 1) mQ_init (130, [some (.ref 15)], [.ref 30, .ref 15], zV78) = bif z_free zN 15 19 && z_cls zN zV78 15 [11] then z_denF zN (d + 1) mQ_init (133, [some (.ref 15)], [], zV79) else none := (z_J_eq zN (d + 1) mQ_init tQ_init [133] hQ_init.1 hQ_init.2 170 130 _).trans rfl
  rw [e, show (z_free zN 15 19 && z_cls zN zV78 15 [11]) = true by decide +kernel]
  rfl
set_option maxRecDepth 100000 in
set_option maxHeartbeats 4000000 in
theorem cQ_init_31 (d : Nat) : z_denF zN (d + 1) mQ_init (133, [some (.ref 15)], [], zV79) = z_denF zN (d + 1) mQ_init (138, [some (.ref 15)], [.ref 31, .ref 15], zV80) := by
  have e : z_denF zN (d + 1) mQ_init (133, [some (.ref 15)], [], zV79) = bif decide (¬ (60 : Int32) < 0) && Nat.ble (60 : Int32).toNatClampNeg 1000000 then z_denF zN (d + 1) mQ_init (138, [some (.ref 15)], [.ref 31, .ref 15], zV80) else none := (z_J_eq zN (d + 1) mQ_init tQ_init [138] hQ_init.1 hQ_init.2 170 133 _).trans rfl
  rw [e, show (decide (¬ (60 : Int32) < 0) && Nat.ble (60 : Int32).toNatClampNeg 1000000) = true by decide +kernel]
  rfl
set_option maxRecDepth 100000 in
set_option maxHeartbeats 4000000 in
theorem cQ_init_32 (d : Nat) : z_denF zN (d + 1) mQ_init (138, [some (.ref 15)], [.ref 31, .ref 15], zV80) = z_denF zN (d + 1) mQ_init (141, [some (.ref 15)], [], zV81) := by
  have e : z_denF zN (d + 1) mQ_init (138, [some (.ref 15)], [.ref 31, .ref 15], zV80) = bif z_free zN 15 20 && z_cls zN zV80 15 [11] then z_denF zN (d + 1) mQ_init (141, [some (.ref 15)], [], zV81) else none := (z_J_eq zN (d + 1) mQ_init tQ_init [141] hQ_init.1 hQ_init.2 170 138 _).trans rfl
  rw [e, show (z_free zN 15 20 && z_cls zN zV80 15 [11]) = true by decide +kernel]
  rfl
set_option maxRecDepth 100000 in
set_option maxHeartbeats 4000000 in
theorem cQ_init_33 (d : Nat) : z_denF zN (d + 1) mQ_init (141, [some (.ref 15)], [], zV81) = z_denF zN (d + 1) mQ_init (146, [some (.ref 15)], [.ref 32, .ref 15], zV82) := by
  have e : z_denF zN (d + 1) mQ_init (141, [some (.ref 15)], [], zV81) = bif decide (¬ (60 : Int32) < 0) && Nat.ble (60 : Int32).toNatClampNeg 1000000 then z_denF zN (d + 1) mQ_init (146, [some (.ref 15)], [.ref 32, .ref 15], zV82) else none := (z_J_eq zN (d + 1) mQ_init tQ_init [146] hQ_init.1 hQ_init.2 170 141 _).trans rfl
  rw [e, show (decide (¬ (60 : Int32) < 0) && Nat.ble (60 : Int32).toNatClampNeg 1000000) = true by decide +kernel]
  rfl
set_option maxRecDepth 100000 in
set_option maxHeartbeats 4000000 in
theorem cQ_init_34 (d : Nat) : z_denF zN (d + 1) mQ_init (146, [some (.ref 15)], [.ref 32, .ref 15], zV82) = z_denF zN (d + 1) mQ_init (149, [some (.ref 15)], [], zV83) := by
  have e : z_denF zN (d + 1) mQ_init (146, [some (.ref 15)], [.ref 32, .ref 15], zV82) = bif z_free zN 15 21 && z_cls zN zV82 15 [11] then z_denF zN (d + 1) mQ_init (149, [some (.ref 15)], [], zV83) else none := (z_J_eq zN (d + 1) mQ_init tQ_init [149] hQ_init.1 hQ_init.2 170 146 _).trans rfl
  rw [e, show (z_free zN 15 21 && z_cls zN zV82 15 [11]) = true by decide +kernel]
  rfl
set_option maxRecDepth 100000 in
set_option maxHeartbeats 4000000 in
theorem cQ_init_35 (d : Nat) : z_denF zN (d + 1) mQ_init (149, [some (.ref 15)], [], zV83) = z_denF zN (d + 1) mQ_init (154, [some (.ref 15)], [.ref 33, .ref 15], zV84) := by
  have e : z_denF zN (d + 1) mQ_init (149, [some (.ref 15)], [], zV83) = bif decide (¬ (16 : Int32) < 0) && Nat.ble (16 : Int32).toNatClampNeg 1000000 then z_denF zN (d + 1) mQ_init (154, [some (.ref 15)], [.ref 33, .ref 15], zV84) else none := (z_J_eq zN (d + 1) mQ_init tQ_init [154] hQ_init.1 hQ_init.2 170 149 _).trans rfl
  rw [e, show (decide (¬ (16 : Int32) < 0) && Nat.ble (16 : Int32).toNatClampNeg 1000000) = true by decide +kernel]
  rfl
set_option maxRecDepth 100000 in
set_option maxHeartbeats 4000000 in
theorem cQ_init_36 (d : Nat) : z_denF zN (d + 1) mQ_init (154, [some (.ref 15)], [.ref 33, .ref 15], zV84) = z_denF zN (d + 1) mQ_init (157, [some (.ref 15)], [], zV85) := by
  have e : z_denF zN (d + 1) mQ_init (154, [some (.ref 15)], [.ref 33, .ref 15], zV84) = bif z_free zN 15 24 && z_cls zN zV84 15 [11] then z_denF zN (d + 1) mQ_init (157, [some (.ref 15)], [], zV85) else none := (z_J_eq zN (d + 1) mQ_init tQ_init [157] hQ_init.1 hQ_init.2 170 154 _).trans rfl
  rw [e, show (z_free zN 15 24 && z_cls zN zV84 15 [11]) = true by decide +kernel]
  rfl
set_option maxRecDepth 100000 in
set_option maxHeartbeats 4000000 in
theorem cQ_init_37 (d : Nat) : z_denF zN (d + 1) mQ_init (157, [some (.ref 15)], [], zV85) = z_denF zN (d + 1) mQ_init (162, [some (.ref 15)], [.ref 34, .ref 15], zV86) := by
  have e : z_denF zN (d + 1) mQ_init (157, [some (.ref 15)], [], zV85) = bif decide (¬ (16 : Int32) < 0) && Nat.ble (16 : Int32).toNatClampNeg 1000000 then z_denF zN (d + 1) mQ_init (162, [some (.ref 15)], [.ref 34, .ref 15], zV86) else none := (z_J_eq zN (d + 1) mQ_init tQ_init [162] hQ_init.1 hQ_init.2 170 157 _).trans rfl
  rw [e, show (decide (¬ (16 : Int32) < 0) && Nat.ble (16 : Int32).toNatClampNeg 1000000) = true by decide +kernel]
  rfl
set_option maxRecDepth 100000 in
set_option maxHeartbeats 4000000 in
theorem cQ_init_38 (d : Nat) : z_denF zN (d + 1) mQ_init (162, [some (.ref 15)], [.ref 34, .ref 15], zV86) = z_denF zN (d + 1) mQ_init (165, [some (.ref 15)], [], zV87) := by
  have e : z_denF zN (d + 1) mQ_init (162, [some (.ref 15)], [.ref 34, .ref 15], zV86) = bif z_free zN 15 25 && z_cls zN zV86 15 [11] then z_denF zN (d + 1) mQ_init (165, [some (.ref 15)], [], zV87) else none := (z_J_eq zN (d + 1) mQ_init tQ_init [165] hQ_init.1 hQ_init.2 170 162 _).trans rfl
  rw [e, show (z_free zN 15 25 && z_cls zN zV86 15 [11]) = true by decide +kernel]
  rfl
set_option maxRecDepth 100000 in
set_option maxHeartbeats 4000000 in
theorem cQ_init_39 (d : Nat) : z_denF zN (d + 1) mQ_init (165, [some (.ref 15)], [], zV87) = z_denF zN (d + 1) mQ_init (170, [some (.ref 15)], [.ref 35, .ref 15], zV88) := by
  have e : z_denF zN (d + 1) mQ_init (165, [some (.ref 15)], [], zV87) = bif decide (¬ (16 : Int32) < 0) && Nat.ble (16 : Int32).toNatClampNeg 1000000 then z_denF zN (d + 1) mQ_init (170, [some (.ref 15)], [.ref 35, .ref 15], zV88) else none := (z_J_eq zN (d + 1) mQ_init tQ_init [170] hQ_init.1 hQ_init.2 170 165 _).trans rfl
  rw [e, show (decide (¬ (16 : Int32) < 0) && Nat.ble (16 : Int32).toNatClampNeg 1000000) = true by decide +kernel]
  rfl
set_option maxRecDepth 100000 in
set_option maxHeartbeats 4000000 in
theorem cQ_init_40 (d : Nat) : z_denF zN (d + 1) mQ_init (170, [some (.ref 15)], [.ref 35, .ref 15], zV88) = z_denF zN (d + 1) mQ_init (173, [some (.ref 15)], [], zV89) := by
  have e : z_denF zN (d + 1) mQ_init (170, [some (.ref 15)], [.ref 35, .ref 15], zV88) = bif z_free zN 15 26 && z_cls zN zV88 15 [11] then z_denF zN (d + 1) mQ_init (173, [some (.ref 15)], [], zV89) else none := (z_J_eq zN (d + 1) mQ_init tQ_init [173] hQ_init.1 hQ_init.2 170 170 _).trans rfl
  rw [e, show (z_free zN 15 26 && z_cls zN zV88 15 [11]) = true by decide +kernel]
  rfl
set_option maxRecDepth 100000 in
set_option maxHeartbeats 4000000 in
theorem cQ_init_41 (d : Nat) : z_denF zN (d + 1) mQ_init (173, [some (.ref 15)], [], zV89) = z_denF zN (d + 1) mQ_init (179, [some (.ref 15)], [.ref 36, .ref 15], zV90) := by
  have e : z_denF zN (d + 1) mQ_init (173, [some (.ref 15)], [], zV89) = bif decide (¬ (200 : Int32) < 0) && Nat.ble (200 : Int32).toNatClampNeg 1000000 then z_denF zN (d + 1) mQ_init (179, [some (.ref 15)], [.ref 36, .ref 15], zV90) else none := (z_J_eq zN (d + 1) mQ_init tQ_init [179] hQ_init.1 hQ_init.2 170 173 _).trans rfl
  rw [e, show (decide (¬ (200 : Int32) < 0) && Nat.ble (200 : Int32).toNatClampNeg 1000000) = true by decide +kernel]
  rfl
set_option maxRecDepth 100000 in
set_option maxHeartbeats 4000000 in
theorem cQ_init_42 (d : Nat) : z_denF zN (d + 1) mQ_init (179, [some (.ref 15)], [.ref 36, .ref 15], zV90) = z_denF zN (d + 1) mQ_init (182, [some (.ref 15)], [], zV91) := by
  have e : z_denF zN (d + 1) mQ_init (179, [some (.ref 15)], [.ref 36, .ref 15], zV90) = bif z_free zN 15 28 && z_cls zN zV90 15 [11] then z_denF zN (d + 1) mQ_init (182, [some (.ref 15)], [], zV91) else none := (z_J_eq zN (d + 1) mQ_init tQ_init [182] hQ_init.1 hQ_init.2 170 179 _).trans rfl
  rw [e, show (z_free zN 15 28 && z_cls zN zV90 15 [11]) = true by decide +kernel]
  rfl
set_option maxRecDepth 100000 in
set_option maxHeartbeats 4000000 in
theorem cQ_init_43 (d : Nat) : z_denF zN (d + 1) mQ_init (182, [some (.ref 15)], [], zV91) = z_denF zN (d + 1) mQ_init (187, [some (.ref 15)], [.ref 37, .ref 15], zV92) := by
  have e : z_denF zN (d + 1) mQ_init (182, [some (.ref 15)], [], zV91) = bif decide (¬ (8 : Int32) < 0) && Nat.ble (8 : Int32).toNatClampNeg 1000000 then z_denF zN (d + 1) mQ_init (187, [some (.ref 15)], [.ref 37, .ref 15], zV92) else none := (z_J_eq zN (d + 1) mQ_init tQ_init [187] hQ_init.1 hQ_init.2 170 182 _).trans rfl
  rw [e, show (decide (¬ (8 : Int32) < 0) && Nat.ble (8 : Int32).toNatClampNeg 1000000) = true by decide +kernel]
  rfl
set_option maxRecDepth 100000 in
set_option maxHeartbeats 4000000 in
theorem cQ_init_44 (d : Nat) : z_denF zN (d + 1) mQ_init (187, [some (.ref 15)], [.ref 37, .ref 15], zV92) = z_denF zN (d + 1) mQ_init (190, [some (.ref 15)], [], zV93) := by
  have e : z_denF zN (d + 1) mQ_init (187, [some (.ref 15)], [.ref 37, .ref 15], zV92) = bif z_free zN 15 29 && z_cls zN zV92 15 [11] then z_denF zN (d + 1) mQ_init (190, [some (.ref 15)], [], zV93) else none := (z_J_eq zN (d + 1) mQ_init tQ_init [190] hQ_init.1 hQ_init.2 170 187 _).trans rfl
  rw [e, show (z_free zN 15 29 && z_cls zN zV92 15 [11]) = true by decide +kernel]
  rfl
set_option maxRecDepth 100000 in
set_option maxHeartbeats 4000000 in
theorem cQ_init_45 (d : Nat) : z_denF zN (d + 1) mQ_init (190, [some (.ref 15)], [], zV93) = z_denF zN (d + 1) mQ_init (195, [some (.ref 15)], [.ref 38, .ref 15], zV94) := by
  have e : z_denF zN (d + 1) mQ_init (190, [some (.ref 15)], [], zV93) = bif decide (¬ (8 : Int32) < 0) && Nat.ble (8 : Int32).toNatClampNeg 1000000 then z_denF zN (d + 1) mQ_init (195, [some (.ref 15)], [.ref 38, .ref 15], zV94) else none := (z_J_eq zN (d + 1) mQ_init tQ_init [195] hQ_init.1 hQ_init.2 170 190 _).trans rfl
  rw [e, show (decide (¬ (8 : Int32) < 0) && Nat.ble (8 : Int32).toNatClampNeg 1000000) = true by decide +kernel]
  rfl
set_option maxRecDepth 100000 in
set_option maxHeartbeats 4000000 in
theorem cQ_init_46 (d : Nat) : z_denF zN (d + 1) mQ_init (195, [some (.ref 15)], [.ref 38, .ref 15], zV94) = z_denF zN (d + 1) mQ_init (198, [some (.ref 15)], [], zV95) := by
  have e : z_denF zN (d + 1) mQ_init (195, [some (.ref 15)], [.ref 38, .ref 15], zV94) = bif z_free zN 15 30 && z_cls zN zV94 15 [11] then z_denF zN (d + 1) mQ_init (198, [some (.ref 15)], [], zV95) else none := (z_J_eq zN (d + 1) mQ_init tQ_init [198] hQ_init.1 hQ_init.2 170 195 _).trans rfl
  rw [e, show (z_free zN 15 30 && z_cls zN zV94 15 [11]) = true by decide +kernel]
  rfl
set_option maxRecDepth 100000 in
set_option maxHeartbeats 4000000 in
theorem cQ_init_47 (d : Nat) : z_denF zN (d + 1) mQ_init (198, [some (.ref 15)], [], zV95) = z_denF zN (d + 1) mQ_init (203, [some (.ref 15)], [.ref 39, .ref 15], zV96) := by
  have e : z_denF zN (d + 1) mQ_init (198, [some (.ref 15)], [], zV95) = bif decide (¬ (17 : Int32) < 0) && Nat.ble (17 : Int32).toNatClampNeg 1000000 then z_denF zN (d + 1) mQ_init (203, [some (.ref 15)], [.ref 39, .ref 15], zV96) else none := (z_J_eq zN (d + 1) mQ_init tQ_init [203] hQ_init.1 hQ_init.2 170 198 _).trans rfl
  rw [e, show (decide (¬ (17 : Int32) < 0) && Nat.ble (17 : Int32).toNatClampNeg 1000000) = true by decide +kernel]
  rfl
set_option maxRecDepth 100000 in
set_option maxHeartbeats 4000000 in
theorem cQ_init_48 (d : Nat) : z_denF zN (d + 1) mQ_init (203, [some (.ref 15)], [.ref 39, .ref 15], zV96) = z_denF zN (d + 1) mQ_init (206, [some (.ref 15)], [], zV97) := by
  have e : z_denF zN (d + 1) mQ_init (203, [some (.ref 15)], [.ref 39, .ref 15], zV96) = bif z_free zN 15 31 && z_cls zN zV96 15 [11] then z_denF zN (d + 1) mQ_init (206, [some (.ref 15)], [], zV97) else none := (z_J_eq zN (d + 1) mQ_init tQ_init [206] hQ_init.1 hQ_init.2 170 203 _).trans rfl
  rw [e, show (z_free zN 15 31 && z_cls zN zV96 15 [11]) = true by decide +kernel]
  rfl
set_option maxRecDepth 100000 in
set_option maxHeartbeats 4000000 in
theorem cQ_init_49 (d : Nat) : z_denF zN (d + 1) mQ_init (206, [some (.ref 15)], [], zV97) = z_denF zN (d + 1) mQ_init (211, [some (.ref 15)], [.ref 40, .ref 15], zV98) := by
  have e : z_denF zN (d + 1) mQ_init (206, [some (.ref 15)], [], zV97) = bif decide (¬ (80 : Int32) < 0) && Nat.ble (80 : Int32).toNatClampNeg 1000000 then z_denF zN (d + 1) mQ_init (211, [some (.ref 15)], [.ref 40, .ref 15], zV98) else none := (z_J_eq zN (d + 1) mQ_init tQ_init [211] hQ_init.1 hQ_init.2 170 206 _).trans rfl
  rw [e, show (decide (¬ (80 : Int32) < 0) && Nat.ble (80 : Int32).toNatClampNeg 1000000) = true by decide +kernel]
  rfl
set_option maxRecDepth 100000 in
set_option maxHeartbeats 4000000 in
theorem cQ_init_50 (d : Nat) : z_denF zN (d + 1) mQ_init (211, [some (.ref 15)], [.ref 40, .ref 15], zV98) = z_denF zN (d + 1) mQ_init (214, [some (.ref 15)], [], zV99) := by
  have e : z_denF zN (d + 1) mQ_init (211, [some (.ref 15)], [.ref 40, .ref 15], zV98) = bif z_free zN 15 32 && z_cls zN zV98 15 [11] then z_denF zN (d + 1) mQ_init (214, [some (.ref 15)], [], zV99) else none := (z_J_eq zN (d + 1) mQ_init tQ_init [214] hQ_init.1 hQ_init.2 170 211 _).trans rfl
  rw [e, show (z_free zN 15 32 && z_cls zN zV98 15 [11]) = true by decide +kernel]
  rfl
set_option maxRecDepth 100000 in
set_option maxHeartbeats 4000000 in
theorem cQ_init_51 (d : Nat) : z_denF zN (d + 1) mQ_init (214, [some (.ref 15)], [], zV99) = z_denF zN (d + 1) mQ_init (219, [some (.ref 15)], [.ref 41, .ref 15], zV100) := by
  have e : z_denF zN (d + 1) mQ_init (214, [some (.ref 15)], [], zV99) = bif decide (¬ (80 : Int32) < 0) && Nat.ble (80 : Int32).toNatClampNeg 1000000 then z_denF zN (d + 1) mQ_init (219, [some (.ref 15)], [.ref 41, .ref 15], zV100) else none := (z_J_eq zN (d + 1) mQ_init tQ_init [219] hQ_init.1 hQ_init.2 170 214 _).trans rfl
  rw [e, show (decide (¬ (80 : Int32) < 0) && Nat.ble (80 : Int32).toNatClampNeg 1000000) = true by decide +kernel]
  rfl
set_option maxRecDepth 100000 in
set_option maxHeartbeats 4000000 in
theorem cQ_init_52 (d : Nat) : z_denF zN (d + 1) mQ_init (219, [some (.ref 15)], [.ref 41, .ref 15], zV100) = z_denF zN (d + 1) mQ_init (222, [some (.ref 15)], [], zV101) := by
  have e : z_denF zN (d + 1) mQ_init (219, [some (.ref 15)], [.ref 41, .ref 15], zV100) = bif z_free zN 15 33 && z_cls zN zV100 15 [11] then z_denF zN (d + 1) mQ_init (222, [some (.ref 15)], [], zV101) else none := (z_J_eq zN (d + 1) mQ_init tQ_init [222] hQ_init.1 hQ_init.2 170 219 _).trans rfl
  rw [e, show (z_free zN 15 33 && z_cls zN zV100 15 [11]) = true by decide +kernel]
  rfl
set_option maxRecDepth 100000 in
set_option maxHeartbeats 4000000 in
theorem cQ_init_53 (d : Nat) : z_denF zN (d + 1) mQ_init (222, [some (.ref 15)], [], zV101) = z_denF zN (d + 1) mQ_init (227, [some (.ref 15)], [.ref 42, .ref 15], zV102) := by
  have e : z_denF zN (d + 1) mQ_init (222, [some (.ref 15)], [], zV101) = bif decide (¬ (60 : Int32) < 0) && Nat.ble (60 : Int32).toNatClampNeg 1000000 then z_denF zN (d + 1) mQ_init (227, [some (.ref 15)], [.ref 42, .ref 15], zV102) else none := (z_J_eq zN (d + 1) mQ_init tQ_init [227] hQ_init.1 hQ_init.2 170 222 _).trans rfl
  rw [e, show (decide (¬ (60 : Int32) < 0) && Nat.ble (60 : Int32).toNatClampNeg 1000000) = true by decide +kernel]
  rfl
set_option maxRecDepth 100000 in
set_option maxHeartbeats 4000000 in
theorem cQ_init_54 (d : Nat) : z_denF zN (d + 1) mQ_init (227, [some (.ref 15)], [.ref 42, .ref 15], zV102) = z_denF zN (d + 1) mQ_init (230, [some (.ref 15)], [], zV103) := by
  have e : z_denF zN (d + 1) mQ_init (227, [some (.ref 15)], [.ref 42, .ref 15], zV102) = bif z_free zN 15 34 && z_cls zN zV102 15 [11] then z_denF zN (d + 1) mQ_init (230, [some (.ref 15)], [], zV103) else none := (z_J_eq zN (d + 1) mQ_init tQ_init [230] hQ_init.1 hQ_init.2 170 227 _).trans rfl
  rw [e, show (z_free zN 15 34 && z_cls zN zV102 15 [11]) = true by decide +kernel]
  rfl
set_option maxRecDepth 100000 in
set_option maxHeartbeats 4000000 in
theorem cQ_init_55 (d : Nat) : z_denF zN (d + 1) mQ_init (230, [some (.ref 15)], [], zV103) = z_denF zN (d + 1) mQ_init (235, [some (.ref 15)], [.ref 43, .ref 15], zV104) := by
  have e : z_denF zN (d + 1) mQ_init (230, [some (.ref 15)], [], zV103) = bif decide (¬ (8 : Int32) < 0) && Nat.ble (8 : Int32).toNatClampNeg 1000000 then z_denF zN (d + 1) mQ_init (235, [some (.ref 15)], [.ref 43, .ref 15], zV104) else none := (z_J_eq zN (d + 1) mQ_init tQ_init [235] hQ_init.1 hQ_init.2 170 230 _).trans rfl
  rw [e, show (decide (¬ (8 : Int32) < 0) && Nat.ble (8 : Int32).toNatClampNeg 1000000) = true by decide +kernel]
  rfl
set_option maxRecDepth 100000 in
set_option maxHeartbeats 4000000 in
theorem cQ_init_56 (d : Nat) : z_denF zN (d + 1) mQ_init (235, [some (.ref 15)], [.ref 43, .ref 15], zV104) = z_denF zN (d + 1) mQ_init (238, [some (.ref 15)], [], zV105) := by
  have e : z_denF zN (d + 1) mQ_init (235, [some (.ref 15)], [.ref 43, .ref 15], zV104) = bif z_free zN 15 38 && z_cls zN zV104 15 [11] then z_denF zN (d + 1) mQ_init (238, [some (.ref 15)], [], zV105) else none := (z_J_eq zN (d + 1) mQ_init tQ_init [238] hQ_init.1 hQ_init.2 170 235 _).trans rfl
  rw [e, show (z_free zN 15 38 && z_cls zN zV104 15 [11]) = true by decide +kernel]
  rfl
set_option maxRecDepth 100000 in
set_option maxHeartbeats 4000000 in
theorem cQ_init_57 (d : Nat) : z_denF zN (d + 1) mQ_init (238, [some (.ref 15)], [], zV105) = z_denF zN (d + 1) mQ_init (243, [some (.ref 15)], [.ref 44, .ref 15], zV106) := by
  have e : z_denF zN (d + 1) mQ_init (238, [some (.ref 15)], [], zV105) = bif decide (¬ (8 : Int32) < 0) && Nat.ble (8 : Int32).toNatClampNeg 1000000 then z_denF zN (d + 1) mQ_init (243, [some (.ref 15)], [.ref 44, .ref 15], zV106) else none := (z_J_eq zN (d + 1) mQ_init tQ_init [243] hQ_init.1 hQ_init.2 170 238 _).trans rfl
  rw [e, show (decide (¬ (8 : Int32) < 0) && Nat.ble (8 : Int32).toNatClampNeg 1000000) = true by decide +kernel]
  rfl
set_option maxRecDepth 100000 in
set_option maxHeartbeats 4000000 in
theorem cQ_init_58 (d : Nat) : z_denF zN (d + 1) mQ_init (243, [some (.ref 15)], [.ref 44, .ref 15], zV106) = z_denF zN (d + 1) mQ_init (246, [some (.ref 15)], [], zV107) := by
  have e : z_denF zN (d + 1) mQ_init (243, [some (.ref 15)], [.ref 44, .ref 15], zV106) = bif z_free zN 15 39 && z_cls zN zV106 15 [11] then z_denF zN (d + 1) mQ_init (246, [some (.ref 15)], [], zV107) else none := (z_J_eq zN (d + 1) mQ_init tQ_init [246] hQ_init.1 hQ_init.2 170 243 _).trans rfl
  rw [e, show (z_free zN 15 39 && z_cls zN zV106 15 [11]) = true by decide +kernel]
  rfl
set_option maxRecDepth 100000 in
set_option maxHeartbeats 4000000 in
theorem cQ_init_59 (d : Nat) : z_denF zN (d + 1) mQ_init (246, [some (.ref 15)], [], zV107) = z_denF zN (d + 1) mQ_init (251, [some (.ref 15)], [.ref 45, .ref 15], zV108) := by
  have e : z_denF zN (d + 1) mQ_init (246, [some (.ref 15)], [], zV107) = bif decide (¬ (16 : Int32) < 0) && Nat.ble (16 : Int32).toNatClampNeg 1000000 then z_denF zN (d + 1) mQ_init (251, [some (.ref 15)], [.ref 45, .ref 15], zV108) else none := (z_J_eq zN (d + 1) mQ_init tQ_init [251] hQ_init.1 hQ_init.2 170 246 _).trans rfl
  rw [e, show (decide (¬ (16 : Int32) < 0) && Nat.ble (16 : Int32).toNatClampNeg 1000000) = true by decide +kernel]
  rfl
set_option maxRecDepth 100000 in
set_option maxHeartbeats 4000000 in
theorem cQ_init_60 (d : Nat) : z_denF zN (d + 1) mQ_init (251, [some (.ref 15)], [.ref 45, .ref 15], zV108) = z_denF zN (d + 1) mQ_init (254, [some (.ref 15)], [], zV109) := by
  have e : z_denF zN (d + 1) mQ_init (251, [some (.ref 15)], [.ref 45, .ref 15], zV108) = bif z_free zN 15 40 && z_cls zN zV108 15 [11] then z_denF zN (d + 1) mQ_init (254, [some (.ref 15)], [], zV109) else none := (z_J_eq zN (d + 1) mQ_init tQ_init [254] hQ_init.1 hQ_init.2 170 251 _).trans rfl
  rw [e, show (z_free zN 15 40 && z_cls zN zV108 15 [11]) = true by decide +kernel]
  rfl
set_option maxRecDepth 100000 in
set_option maxHeartbeats 4000000 in
theorem cQ_init_61 (d : Nat) : z_denF zN (d + 1) mQ_init (254, [some (.ref 15)], [], zV109) = z_denF zN (d + 1) mQ_init (260, [some (.ref 15)], [.ref 46, .ref 15], zV110) := by
  have e : z_denF zN (d + 1) mQ_init (254, [some (.ref 15)], [], zV109) = bif decide (¬ (340 : Int32) < 0) && Nat.ble (340 : Int32).toNatClampNeg 1000000 then z_denF zN (d + 1) mQ_init (260, [some (.ref 15)], [.ref 46, .ref 15], zV110) else none := (z_J_eq zN (d + 1) mQ_init tQ_init [260] hQ_init.1 hQ_init.2 170 254 _).trans rfl
  rw [e, show (decide (¬ (340 : Int32) < 0) && Nat.ble (340 : Int32).toNatClampNeg 1000000) = true by decide +kernel]
  rfl
set_option maxRecDepth 100000 in
set_option maxHeartbeats 4000000 in
theorem cQ_init_62 (d : Nat) : z_denF zN (d + 1) mQ_init (260, [some (.ref 15)], [.ref 46, .ref 15], zV110) = z_denF zN (d + 1) mQ_init (263, [some (.ref 15)], [], zV111) := by
  have e : z_denF zN (d + 1) mQ_init (260, [some (.ref 15)], [.ref 46, .ref 15], zV110) = bif z_free zN 15 53 && z_cls zN zV110 15 [11] then z_denF zN (d + 1) mQ_init (263, [some (.ref 15)], [], zV111) else none := (z_J_eq zN (d + 1) mQ_init tQ_init [263] hQ_init.1 hQ_init.2 170 260 _).trans rfl
  rw [e, show (z_free zN 15 53 && z_cls zN zV110 15 [11]) = true by decide +kernel]
  rfl
set_option maxRecDepth 100000 in
set_option maxHeartbeats 4000000 in
theorem cQ_init_63 (d : Nat) : z_denF zN (d + 1) mQ_init (263, [some (.ref 15)], [], zV111) = z_denF zN (d + 1) mQ_init (269, [some (.ref 15)], [.ref 47, .ref 15], zV112) := by
  have e : z_denF zN (d + 1) mQ_init (263, [some (.ref 15)], [], zV111) = bif decide (¬ (340 : Int32) < 0) && Nat.ble (340 : Int32).toNatClampNeg 1000000 then z_denF zN (d + 1) mQ_init (269, [some (.ref 15)], [.ref 47, .ref 15], zV112) else none := (z_J_eq zN (d + 1) mQ_init tQ_init [269] hQ_init.1 hQ_init.2 170 263 _).trans rfl
  rw [e, show (decide (¬ (340 : Int32) < 0) && Nat.ble (340 : Int32).toNatClampNeg 1000000) = true by decide +kernel]
  rfl
set_option maxRecDepth 100000 in
set_option maxHeartbeats 4000000 in
theorem cQ_init_64 (d : Nat) : z_denF zN (d + 1) mQ_init (269, [some (.ref 15)], [.ref 47, .ref 15], zV112) = z_denF zN (d + 1) mQ_init (272, [some (.ref 15)], [], zV113) := by
  have e : z_denF zN (d + 1) mQ_init (269, [some (.ref 15)], [.ref 47, .ref 15], zV112) = bif z_free zN 15 54 && z_cls zN zV112 15 [11] then z_denF zN (d + 1) mQ_init (272, [some (.ref 15)], [], zV113) else none := (z_J_eq zN (d + 1) mQ_init tQ_init [272] hQ_init.1 hQ_init.2 170 269 _).trans rfl
  rw [e, show (z_free zN 15 54 && z_cls zN zV112 15 [11]) = true by decide +kernel]
  rfl
set_option maxRecDepth 100000 in
set_option maxHeartbeats 4000000 in
theorem cQ_init_65 (d : Nat) : z_denF zN (d + 1) mQ_init (272, [some (.ref 15)], [], zV113) = z_denF zN (d + 1) mQ_init (278, [some (.ref 15)], [.ref 48, .ref 15], zV114) := by
  have e : z_denF zN (d + 1) mQ_init (272, [some (.ref 15)], [], zV113) = bif decide (¬ (340 : Int32) < 0) && Nat.ble (340 : Int32).toNatClampNeg 1000000 then z_denF zN (d + 1) mQ_init (278, [some (.ref 15)], [.ref 48, .ref 15], zV114) else none := (z_J_eq zN (d + 1) mQ_init tQ_init [278] hQ_init.1 hQ_init.2 170 272 _).trans rfl
  rw [e, show (decide (¬ (340 : Int32) < 0) && Nat.ble (340 : Int32).toNatClampNeg 1000000) = true by decide +kernel]
  rfl
set_option maxRecDepth 100000 in
set_option maxHeartbeats 4000000 in
theorem cQ_init_66 (d : Nat) : z_denF zN (d + 1) mQ_init (278, [some (.ref 15)], [.ref 48, .ref 15], zV114) = z_denF zN (d + 1) mQ_init (281, [some (.ref 15)], [], zV115) := by
  have e : z_denF zN (d + 1) mQ_init (278, [some (.ref 15)], [.ref 48, .ref 15], zV114) = bif z_free zN 15 55 && z_cls zN zV114 15 [11] then z_denF zN (d + 1) mQ_init (281, [some (.ref 15)], [], zV115) else none := (z_J_eq zN (d + 1) mQ_init tQ_init [281] hQ_init.1 hQ_init.2 170 278 _).trans rfl
  rw [e, show (z_free zN 15 55 && z_cls zN zV114 15 [11]) = true by decide +kernel]
  rfl
set_option maxRecDepth 100000 in
set_option maxHeartbeats 4000000 in
theorem cQ_init_67 (d : Nat) : z_denF zN (d + 1) mQ_init (281, [some (.ref 15)], [], zV115) = z_denF zN (d + 1) mQ_init (286, [some (.ref 15)], [.ref 49, .ref 15], zV116) := by
  have e : z_denF zN (d + 1) mQ_init (281, [some (.ref 15)], [], zV115) = bif decide (¬ (60 : Int32) < 0) && Nat.ble (60 : Int32).toNatClampNeg 1000000 then z_denF zN (d + 1) mQ_init (286, [some (.ref 15)], [.ref 49, .ref 15], zV116) else none := (z_J_eq zN (d + 1) mQ_init tQ_init [286] hQ_init.1 hQ_init.2 170 281 _).trans rfl
  rw [e, show (decide (¬ (60 : Int32) < 0) && Nat.ble (60 : Int32).toNatClampNeg 1000000) = true by decide +kernel]
  rfl
set_option maxRecDepth 100000 in
set_option maxHeartbeats 4000000 in
theorem cQ_init_68 (d : Nat) : z_denF zN (d + 1) mQ_init (286, [some (.ref 15)], [.ref 49, .ref 15], zV116) = z_denF zN (d + 1) mQ_init (289, [some (.ref 15)], [], zV117) := by
  have e : z_denF zN (d + 1) mQ_init (286, [some (.ref 15)], [.ref 49, .ref 15], zV116) = bif z_free zN 15 56 && z_cls zN zV116 15 [11] then z_denF zN (d + 1) mQ_init (289, [some (.ref 15)], [], zV117) else none := (z_J_eq zN (d + 1) mQ_init tQ_init [289] hQ_init.1 hQ_init.2 170 286 _).trans rfl
  rw [e, show (z_free zN 15 56 && z_cls zN zV116 15 [11]) = true by decide +kernel]
  rfl
set_option maxRecDepth 100000 in
set_option maxHeartbeats 4000000 in
theorem cQ_init_69 (d : Nat) : z_denF zN (d + 1) mQ_init (289, [some (.ref 15)], [], zV117) = z_denF zN (d + 1) mQ_init (294, [some (.ref 15)], [.ref 50, .ref 15], zV118) := by
  have e : z_denF zN (d + 1) mQ_init (289, [some (.ref 15)], [], zV117) = bif decide (¬ (60 : Int32) < 0) && Nat.ble (60 : Int32).toNatClampNeg 1000000 then z_denF zN (d + 1) mQ_init (294, [some (.ref 15)], [.ref 50, .ref 15], zV118) else none := (z_J_eq zN (d + 1) mQ_init tQ_init [294] hQ_init.1 hQ_init.2 170 289 _).trans rfl
  rw [e, show (decide (¬ (60 : Int32) < 0) && Nat.ble (60 : Int32).toNatClampNeg 1000000) = true by decide +kernel]
  rfl
set_option maxRecDepth 100000 in
set_option maxHeartbeats 4000000 in
theorem cQ_init_70 (d : Nat) : z_denF zN (d + 1) mQ_init (294, [some (.ref 15)], [.ref 50, .ref 15], zV118) = z_denF zN (d + 1) mQ_init (297, [some (.ref 15)], [], zV119) := by
  have e : z_denF zN (d + 1) mQ_init (294, [some (.ref 15)], [.ref 50, .ref 15], zV118) = bif z_free zN 15 57 && z_cls zN zV118 15 [11] then z_denF zN (d + 1) mQ_init (297, [some (.ref 15)], [], zV119) else none := (z_J_eq zN (d + 1) mQ_init tQ_init [297] hQ_init.1 hQ_init.2 170 294 _).trans rfl
  rw [e, show (z_free zN 15 57 && z_cls zN zV118 15 [11]) = true by decide +kernel]
  rfl
set_option maxRecDepth 100000 in
set_option maxHeartbeats 4000000 in
theorem cQ_init_71 (d : Nat) : z_denF zN (d + 1) mQ_init (297, [some (.ref 15)], [], zV119) = z_denF zN (d + 1) mQ_init (303, [some (.ref 15)], [.ref 51, .ref 15], zV120) := by
  have e : z_denF zN (d + 1) mQ_init (297, [some (.ref 15)], [], zV119) = bif decide (¬ (6000 : Int32) < 0) && Nat.ble (6000 : Int32).toNatClampNeg 1000000 then z_denF zN (d + 1) mQ_init (303, [some (.ref 15)], [.ref 51, .ref 15], zV120) else none := (z_J_eq zN (d + 1) mQ_init tQ_init [303] hQ_init.1 hQ_init.2 170 297 _).trans rfl
  rw [e, show (decide (¬ (6000 : Int32) < 0) && Nat.ble (6000 : Int32).toNatClampNeg 1000000) = true by decide +kernel]
  rfl
set_option maxRecDepth 100000 in
set_option maxHeartbeats 4000000 in
theorem cQ_init_72 (d : Nat) : z_denF zN (d + 1) mQ_init (303, [some (.ref 15)], [.ref 51, .ref 15], zV120) = z_denF zN (d + 1) mQ_init (306, [some (.ref 15)], [], zV121) := by
  have e : z_denF zN (d + 1) mQ_init (303, [some (.ref 15)], [.ref 51, .ref 15], zV120) = bif z_free zN 15 59 && z_cls zN zV120 15 [11] then z_denF zN (d + 1) mQ_init (306, [some (.ref 15)], [], zV121) else none := (z_J_eq zN (d + 1) mQ_init tQ_init [306] hQ_init.1 hQ_init.2 170 303 _).trans rfl
  rw [e, show (z_free zN 15 59 && z_cls zN zV120 15 [11]) = true by decide +kernel]
  rfl
set_option maxRecDepth 100000 in
set_option maxHeartbeats 4000000 in
theorem cQ_init_73 (d : Nat) : z_denF zN (d + 1) mQ_init (306, [some (.ref 15)], [], zV121) = z_denF zN (d + 1) mQ_init (311, [some (.ref 15)], [.ref 52, .ref 15], zV122) := by
  have e : z_denF zN (d + 1) mQ_init (306, [some (.ref 15)], [], zV121) = bif decide (¬ (606210 : Int32) < 0) && Nat.ble (606210 : Int32).toNatClampNeg 1000000 then z_denF zN (d + 1) mQ_init (311, [some (.ref 15)], [.ref 52, .ref 15], zV122) else none := (z_J_eq zN (d + 1) mQ_init tQ_init [311] hQ_init.1 hQ_init.2 170 306 _).trans rfl
  rw [e, show (decide (¬ (606210 : Int32) < 0) && Nat.ble (606210 : Int32).toNatClampNeg 1000000) = true by decide +kernel]
  rfl
set_option maxRecDepth 100000 in
set_option maxHeartbeats 4000000 in
theorem cQ_init_74 (d : Nat) : z_denF zN (d + 1) mQ_init (311, [some (.ref 15)], [.ref 52, .ref 15], zV122) = z_denF zN (d + 1) mQ_init (314, [some (.ref 15)], [], zV123) := by
  have e : z_denF zN (d + 1) mQ_init (311, [some (.ref 15)], [.ref 52, .ref 15], zV122) = bif z_free zN 15 61 && z_cls zN zV122 15 [11] then z_denF zN (d + 1) mQ_init (314, [some (.ref 15)], [], zV123) else none := (z_J_eq zN (d + 1) mQ_init tQ_init [314] hQ_init.1 hQ_init.2 170 311 _).trans rfl
  rw [e, show (z_free zN 15 61 && z_cls zN zV122 15 [11]) = true by decide +kernel]
  rfl
set_option maxRecDepth 100000 in
set_option maxHeartbeats 4000000 in
theorem cQ_init_75 (d : Nat) : z_denF zN (d + 1) mQ_init (314, [some (.ref 15)], [], zV123) = z_denF zN (d + 1) mQ_init (320, [some (.ref 15)], [.ref 53, .ref 15], zV124) := by
  have e : z_denF zN (d + 1) mQ_init (314, [some (.ref 15)], [], zV123) = bif decide (¬ (256 : Int32) < 0) && Nat.ble (256 : Int32).toNatClampNeg 1000000 then z_denF zN (d + 1) mQ_init (320, [some (.ref 15)], [.ref 53, .ref 15], zV124) else none := (z_J_eq zN (d + 1) mQ_init tQ_init [320] hQ_init.1 hQ_init.2 170 314 _).trans rfl
  rw [e, show (decide (¬ (256 : Int32) < 0) && Nat.ble (256 : Int32).toNatClampNeg 1000000) = true by decide +kernel]
  rfl
set_option maxRecDepth 100000 in
set_option maxHeartbeats 4000000 in
theorem cQ_init_76 (d : Nat) : z_denF zN (d + 1) mQ_init (320, [some (.ref 15)], [.ref 53, .ref 15], zV124) = z_denF zN (d + 1) mQ_init (323, [some (.ref 15)], [], zV125) := by
  have e : z_denF zN (d + 1) mQ_init (320, [some (.ref 15)], [.ref 53, .ref 15], zV124) = bif z_free zN 15 64 && z_cls zN zV124 15 [11] then z_denF zN (d + 1) mQ_init (323, [some (.ref 15)], [], zV125) else none := (z_J_eq zN (d + 1) mQ_init tQ_init [323] hQ_init.1 hQ_init.2 170 320 _).trans rfl
  rw [e, show (z_free zN 15 64 && z_cls zN zV124 15 [11]) = true by decide +kernel]
  rfl
set_option maxRecDepth 100000 in
set_option maxHeartbeats 4000000 in
theorem cQ_init_77 (d : Nat) : z_denF zN (d + 1) mQ_init (323, [some (.ref 15)], [], zV125) = z_denF zN (d + 1) mQ_init (329, [some (.ref 15)], [.ref 54, .ref 15], zV126) := by
  have e : z_denF zN (d + 1) mQ_init (323, [some (.ref 15)], [], zV125) = bif decide (¬ (1800 : Int32) < 0) && Nat.ble (1800 : Int32).toNatClampNeg 1000000 then z_denF zN (d + 1) mQ_init (329, [some (.ref 15)], [.ref 54, .ref 15], zV126) else none := (z_J_eq zN (d + 1) mQ_init tQ_init [329] hQ_init.1 hQ_init.2 170 323 _).trans rfl
  rw [e, show (decide (¬ (1800 : Int32) < 0) && Nat.ble (1800 : Int32).toNatClampNeg 1000000) = true by decide +kernel]
  rfl
set_option maxRecDepth 100000 in
set_option maxHeartbeats 4000000 in
theorem cQ_init_78 (d : Nat) : z_denF zN (d + 1) mQ_init (329, [some (.ref 15)], [.ref 54, .ref 15], zV126) = z_denF zN (d + 1) mQ_init (332, [some (.ref 15)], [], zV127) := by
  have e : z_denF zN (d + 1) mQ_init (329, [some (.ref 15)], [.ref 54, .ref 15], zV126) = bif z_free zN 15 66 && z_cls zN zV126 15 [11] then z_denF zN (d + 1) mQ_init (332, [some (.ref 15)], [], zV127) else none := (z_J_eq zN (d + 1) mQ_init tQ_init [332] hQ_init.1 hQ_init.2 170 329 _).trans rfl
  rw [e, show (z_free zN 15 66 && z_cls zN zV126 15 [11]) = true by decide +kernel]
  rfl
set_option maxRecDepth 100000 in
set_option maxHeartbeats 4000000 in
theorem cQ_init_79 (d : Nat) : z_denF zN (d + 1) mQ_init (332, [some (.ref 15)], [], zV127) = z_denF zN (d + 1) mQ_init (338, [some (.ref 15)], [.ref 55, .ref 15], zV128) := by
  have e : z_denF zN (d + 1) mQ_init (332, [some (.ref 15)], [], zV127) = bif decide (¬ (1800 : Int32) < 0) && Nat.ble (1800 : Int32).toNatClampNeg 1000000 then z_denF zN (d + 1) mQ_init (338, [some (.ref 15)], [.ref 55, .ref 15], zV128) else none := (z_J_eq zN (d + 1) mQ_init tQ_init [338] hQ_init.1 hQ_init.2 170 332 _).trans rfl
  rw [e, show (decide (¬ (1800 : Int32) < 0) && Nat.ble (1800 : Int32).toNatClampNeg 1000000) = true by decide +kernel]
  rfl
set_option maxRecDepth 100000 in
set_option maxHeartbeats 4000000 in
theorem cQ_init_80 (d : Nat) : z_denF zN (d + 1) mQ_init (338, [some (.ref 15)], [.ref 55, .ref 15], zV128) = z_denF zN (d + 1) mQ_init (341, [some (.ref 15)], [], zV129) := by
  have e : z_denF zN (d + 1) mQ_init (338, [some (.ref 15)], [.ref 55, .ref 15], zV128) = bif z_free zN 15 67 && z_cls zN zV128 15 [11] then z_denF zN (d + 1) mQ_init (341, [some (.ref 15)], [], zV129) else none := (z_J_eq zN (d + 1) mQ_init tQ_init [341] hQ_init.1 hQ_init.2 170 338 _).trans rfl
  rw [e, show (z_free zN 15 67 && z_cls zN zV128 15 [11]) = true by decide +kernel]
  rfl
set_option maxRecDepth 100000 in
set_option maxHeartbeats 4000000 in
theorem cQ_init_81 (d : Nat) : z_denF zN (d + 1) mQ_init (341, [some (.ref 15)], [], zV129) = z_denF zN (d + 1) mQ_init (348, [some (.ref 15)], [], zV130) := by
  have e : z_denF zN (d + 1) mQ_init (341, [some (.ref 15)], [], zV129) = bif z_cls zN zV129 15 [11] then z_denF zN (d + 1) mQ_init (348, [some (.ref 15)], [], zV130) else none := (z_J_eq zN (d + 1) mQ_init tQ_init [348] hQ_init.1 hQ_init.2 170 341 _).trans rfl
  rw [e, show (z_cls zN zV129 15 [11]) = true by decide +kernel]
  rfl
set_option maxRecDepth 100000 in
set_option maxHeartbeats 4000000 in
theorem cQ_init_82 (d : Nat) : z_denF zN (d + 1) mQ_init (348, [some (.ref 15)], [], zV130) = z_denF zN (d + 1) mQ_init (354, [some (.ref 15)], [], zV131) := by
  have e : z_denF zN (d + 1) mQ_init (348, [some (.ref 15)], [], zV130) = bif z_cls zN zV130 15 [11] then z_denF zN (d + 1) mQ_init (354, [some (.ref 15)], [], zV131) else none := (z_J_eq zN (d + 1) mQ_init tQ_init [354] hQ_init.1 hQ_init.2 170 348 _).trans rfl
  rw [e, show (z_cls zN zV130 15 [11]) = true by decide +kernel]
  rfl
set_option maxRecDepth 100000 in
set_option maxHeartbeats 4000000 in
theorem cQ_init_83 (d : Nat) : z_denF zN (d + 1) mQ_init (354, [some (.ref 15)], [], zV131) = some (none, zV131) :=
  (z_J_eq zN (d + 1) mQ_init tQ_init [] hQ_init.1 hQ_init.2 170 354 _).trans rfl
theorem B_Q_init (d : Nat) : z_den zN (d + 1) mQ_init [.ref 15] zC9 = some (none, zC20) := by
  show z_fit mQ_init [.ref 15] (z_denF zN (d + 1) mQ_init (0, [some (.ref 15)], [], zV49)) = some (none, zV131)
  rw [z_fit_of rfl, cQ_init_0, cQ_init_1, cQ_init_2, cQ_init_3, cQ_init_4, cQ_init_5, cQ_init_6, cQ_init_7, cQ_init_8, cQ_init_9, cQ_init_10, cQ_init_11, cQ_init_12, cQ_init_13, cQ_init_14, cQ_init_15, cQ_init_16, cQ_init_17, cQ_init_18, cQ_init_19, cQ_init_20, cQ_init_21, cQ_init_22, cQ_init_23, cQ_init_24, cQ_init_25, cQ_init_26, cQ_init_27, cQ_init_28, cQ_init_29, cQ_init_30, cQ_init_31, cQ_init_32, cQ_init_33, cQ_init_34, cQ_init_35, cQ_init_36, cQ_init_37, cQ_init_38, cQ_init_39, cQ_init_40, cQ_init_41, cQ_init_42, cQ_init_43, cQ_init_44, cQ_init_45, cQ_init_46, cQ_init_47, cQ_init_48, cQ_init_49, cQ_init_50, cQ_init_51, cQ_init_52, cQ_init_53, cQ_init_54, cQ_init_55, cQ_init_56, cQ_init_57, cQ_init_58, cQ_init_59, cQ_init_60, cQ_init_61, cQ_init_62, cQ_init_63, cQ_init_64, cQ_init_65, cQ_init_66, cQ_init_67, cQ_init_68, cQ_init_69, cQ_init_70, cQ_init_71, cQ_init_72, cQ_init_73, cQ_init_74, cQ_init_75, cQ_init_76, cQ_init_77, cQ_init_78, cQ_init_79, cQ_init_80, cQ_init_81, cQ_init_82, cQ_init_83]
