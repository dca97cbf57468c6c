/-! THE CONSTRUCTORS, over no standing cells (printed by wip/gen/emitC.py) -/
def zN : zS := (0, fun _ => (99, 0), fun _ _ => none)
def zC : zM := ([(99, 0)], fun _ _ => 0, fun _ _ => 0, fun _ _ => 0)
noncomputable def zC1 : zM := z_nw zN zC (10, 8)
noncomputable def zC2 : zM := z_nw zN (z_wP (z_nw zN zC1 (17, 20)) 1 0 2) (4, 17)
noncomputable def zC3 : zM := z_wP (z_nw zN (z_wP (z_nw zN (z_wP (z_nw zN (z_wP (z_nw zN zC2 (16, 60)) 3 0 4) (14, 16)) 3 1 5) (14, 17)) 3 2 6) (14, 200)) 3 3 7
noncomputable def zC4 : zM := z_wI (z_wI (z_wI (z_wI (z_wI (z_wI (z_wI (z_nw zN zC3 (14, 8)) 8 0 (-1)) 8 1 (-1)) 8 2 (-1)) 8 3 (-1)) 8 4 (-1)) 8 5 (-1)) 8 6 (-1)
noncomputable def zC5 : zM := z_wP (z_nw zN (z_wP (z_nw zN (z_wP (z_nw zN (z_wP (z_wI zC4 8 7 (-1)) 3 4 8) (14, 8)) 3 5 9) (14, 17)) 3 6 10) (14, 523)) 3 7 11
noncomputable def zC6 : zM := z_wI (z_wI (z_wI (z_wI (z_wP (z_nw zN (z_wP (z_nw zN zC5 (19, 501)) 3 8 12) (14, 6000)) 3 9 13) 3 10 0) 3 11 0) 3 12 7040) 3 13 0
noncomputable def zC7 : zM := z_wI (z_wP (z_wI (z_wI zC6 3 14 0) 3 15 0) 3 16 0) 11 4 (-4)
noncomputable def zC8 : zM := z_wI (z_wI (z_wI (z_wI (z_wI (z_wP (z_nw zN (z_wP zC7 1 1 3) (14, 1792)) 1 2 14) 1 3 0) 1 4 0) 1 5 0) 1 6 0) 1 7 0
noncomputable def zC9 : zM := z_nw zN zC8 (11, 68)
noncomputable def zC10 : zM := z_wP (z_nw zN (z_wP (z_nw zN (z_wP (z_nw zN (z_wP (z_nw zN zC9 (14, 20)) 15 2 16) (14, 8000)) 15 3 17) (14, 400)) 15 5 18) (14, 400)) 15 6 19
noncomputable def zC11 : zM := z_wP (z_nw zN (z_wP (z_nw zN (z_wP (z_nw zN (z_wP (z_nw zN zC10 (14, 400)) 15 7 20) (15, 400)) 15 8 21) (14, 400)) 15 9 22) (14, 3600)) 15 10 23
noncomputable def zC12 : zM := z_wP (z_nw zN (z_wP (z_nw zN (z_wP (z_nw zN (z_wP (z_nw zN zC11 (14, 400)) 15 11 24) (14, 102400)) 15 12 25) (14, 60)) 15 15 26) (14, 60)) 15 16 27
noncomputable def zC13 : zM := z_wP (z_nw zN (z_wP (z_nw zN (z_wP (z_nw zN (z_wP (z_nw zN zC12 (14, 480)) 15 17 28) (14, 60)) 15 18 29) (14, 60)) 15 19 30) (15, 60)) 15 20 31
noncomputable def zC14 : zM := z_wP (z_nw zN (z_wP (z_nw zN (z_wP (z_nw zN (z_wP (z_nw zN zC13 (13, 60)) 15 21 32) (14, 16)) 15 24 33) (14, 16)) 15 25 34) (14, 16)) 15 26 35
noncomputable def zC15 : zM := z_wP (z_nw zN (z_wP (z_nw zN (z_wP (z_nw zN (z_wP (z_nw zN zC14 (14, 200)) 15 28 36) (14, 8)) 15 29 37) (14, 8)) 15 30 38) (14, 17)) 15 31 39
noncomputable def zC16 : zM := z_wP (z_nw zN (z_wP (z_nw zN (z_wP (z_nw zN (z_wP (z_nw zN zC15 (14, 80)) 15 32 40) (14, 80)) 15 33 41) (15, 60)) 15 34 42) (15, 8)) 15 38 43
noncomputable def zC17 : zM := z_wP (z_nw zN (z_wP (z_nw zN (z_wP (z_nw zN (z_wP (z_nw zN zC16 (14, 8)) 15 39 44) (15, 16)) 15 40 45) (14, 340)) 15 53 46) (14, 340)) 15 54 47
noncomputable def zC18 : zM := z_wP (z_nw zN (z_wP (z_nw zN (z_wP (z_nw zN (z_wP (z_nw zN zC17 (14, 340)) 15 55 48) (14, 60)) 15 56 49) (14, 60)) 15 57 50) (14, 6000)) 15 59 51
noncomputable def zC19 : zM := z_wP (z_nw zN (z_wP (z_nw zN (z_wP (z_nw zN (z_wP (z_nw zN zC18 (14, 606210)) 15 61 52) (14, 256)) 15 64 53) (14, 1800)) 15 66 54) (14, 1800)) 15 67 55
noncomputable def zC20 : zM := z_wI (z_wD zC19 15 22 4646448178051153920) 15 49 (-4)
set_option maxRecDepth 100000 in
theorem hO_init : z_tab mO_init = tO_init ∧ z_inc tO_init 0 = true := ⟨rfl, by decide +kernel⟩
set_option maxRecDepth 100000 in
set_option maxHeartbeats 8000000 in
theorem B_O_init (d : Nat) : z_den zN (d + 1) mO_init [.ref 3] zC2 = some (none, zC7) :=
  (z_J_eq zN (d + 1) mO_init tO_init [] hO_init.1 hO_init.2 102 0 (z_ent mO_init [.ref 3] zC2)).trans rfl
set_option maxRecDepth 100000 in
theorem hP_init : z_tab mP_init = tP_init ∧ z_inc tP_init 0 = true := ⟨rfl, by decide +kernel⟩
set_option maxRecDepth 100000 in
set_option maxHeartbeats 8000000 in
theorem B_P_init (d : Nat) : z_den zN (d + 2) mP_init [.ref 1] zC1 = some (none, zC8) := by
  have h := B_O_init d
  have e : z_den zN (d + 2) mP_init [.ref 1] zC1 = z_bV (z_den zN (d + 1) mO_init [.ref 3] zC2) (fun M => z_denF zN (d + 2) mP_init (21, [some (.ref 1)], [.ref 3, .ref 1], M)) := (z_J_eq zN (d + 2) mP_init tP_init [21] hP_init.1 hP_init.2 32 0 (z_ent mP_init [.ref 1] zC1)).trans rfl
  rw [e, h]
  exact (z_J_eq zN (d + 2) mP_init tP_init [] hP_init.1 hP_init.2 32 21 _).trans rfl
set_option maxRecDepth 100000 in
theorem hQ_init : z_tab mQ_init = tQ_init ∧ z_inc tQ_init 0 = true := ⟨rfl, by decide +kernel⟩
set_option maxRecDepth 100000 in
set_option maxHeartbeats 8000000 in
theorem B_Q_init (d : Nat) : z_den zN (d + 1) mQ_init [.ref 15] zC9 = some (none, zC20) :=
  (z_J_eq zN (d + 1) mQ_init tQ_init [] hQ_init.1 hQ_init.2 170 0 (z_ent mQ_init [.ref 15] zC9)).trans rfl
