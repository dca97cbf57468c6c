/-! S LEVEL: the strip acts as steps (wip/gen/steps.py). -/
theorem S_seal (d : Nat) {W : zW} {al : Nat → Nat} {M : zM} (hC : SC W al M) (hR : SR W M) (hw : SW W) (x y : Int32) : Step tvI W M (z_den zQ (d + 60) mP_seal [.ref 1, .int x, .int y] M) (fun B => z_den zQ (d + 60) mQ_seal [.ref 15, .int x, .int y] B) := by
  have k := k_oSeal (pl := wwB W) hw.1 x y
  have k2 := k.2.1
  exact sim_S hC hR hw (P_seal (d + 56) hC.1 hw.1 hC.2.2.2.2.2.1) (fun B hB => Q_seal (d + 55) hB.1 hw.1 hB.2.2.2.2.2.1) k.1 k.2.2 (by omega) (by omega)
theorem S_lose (d : Nat) {W : zW} {al : Nat → Nat} {M : zM} (hC : SC W al M) (hR : SR W M) (hw : SW W) (x y : Int32) : Step tvI W M (z_den zQ (d + 60) mP_lose [.ref 1, .int x, .int y] M) (fun B => z_den zQ (d + 60) mQ_lose [.ref 15, .int x, .int y] B) := by
  have k := k_oLose (pl := wwB W) hw.1 x y
  have k2 := k.2.1
  exact sim_S hC hR hw (P_lose (d + 56) hC.1 hw.1 hC.2.2.2.2.2.1) (fun B hB => Q_lose (d + 56) hB.1 hw.1 hB.2.2.2.2.2.1) k.1 k.2.2 (by omega) (by omega)
theorem S_tear (d : Nat) {W : zW} {al : Nat → Nat} {M : zM} (hC : SC W al M) (hR : SR W M) (hw : SW W) (x y n : Int32) : Step tvI W M (z_den zQ (d + 60) mP_tear [.ref 1, .int x, .int y, .int n] M) (fun B => z_den zQ (d + 60) mQ_tear [.ref 15, .int x, .int y, .int n] B) := by
  have k := k_oTear (pl := wwB W) hw.1 x y n
  have k2 := k.2.1
  exact sim_S hC hR hw (P_tear (d + 56) hC.1 hw.1 hC.2.2.2.2.2.1) (fun B hB => Q_tear (d + 55) hB.1 hw.1 hB.2.2.2.2.2.1) k.1 k.2.2 (by omega) (by omega)
theorem S_punch (d : Nat) {W : zW} {al : Nat → Nat} {M : zM} (hC : SC W al M) (hR : SR W M) (hw : SW W) (x y k v : Int32) : Step tvI W M (z_den zQ (d + 60) mP_punch [.ref 1, .int x, .int y, .int k, .int v] M) (fun B => z_den zQ (d + 60) mQ_punch [.ref 15, .int x, .int y, .int k, .int v] B) := by
  have k := k_oPunch (pl := wwB W) hw.1 x y k v
  have k2 := k.2.1
  exact sim_S hC hR hw (P_punch (d + 56) hC.1 hw.1 hC.2.2.2.2.2.1) (fun B hB => Q_punch (d + 55) hB.1 hw.1 hB.2.2.2.2.2.1) k.1 k.2.2 (by omega) (by omega)
theorem S_damage (d : Nat) {W : zW} {al : Nat → Nat} {M : zM} (hC : SC W al M) (hR : SR W M) (hw : SW W) (x y i m : Int32) : Step tvI W M (z_den zQ (d + 60) mP_damage [.ref 1, .int x, .int y, .int i, .int m] M) (fun B => z_den zQ (d + 60) mQ_damage [.ref 15, .int x, .int y, .int i, .int m] B) := by
  have k := k_oDamage (pl := wwB W) hw.1 x y i m
  have k2 := k.2.1
  exact sim_S hC hR hw (P_damage (d + 56) hC.1 hw.1 hC.2.2.2.2.2.1) (fun B hB => Q_damage (d + 55) hB.1 hw.1 hB.2.2.2.2.2.1) k.1 k.2.2 (by omega) (by omega)
theorem S_roll (d : Nat) {W : zW} {al : Nat → Nat} {M : zM} (hC : SC W al M) (hR : SR W M) (hw : SW W) : Step tvI W M (z_den zQ (d + 60) mP_roll [.ref 1] M) (fun B => z_den zQ (d + 60) mQ_roll [.ref 15] B) := by
  have k := k_oRoll (pl := wwB W) hw.1
  have k2 := k.2.1
  exact sim_S hC hR hw (P_roll (d + 58) hC.1 hw.1 hC.2.2.2.2.2.1) (fun B hB => Q_roll (d + 58) hB.1 hw.1 hB.2.2.2.2.2.1) k.1 k.2.2 (by omega) (by omega)
theorem S_strip (d : Nat) {W : zW} {al : Nat → Nat} {M : zM} (hC : SC W al M) (hR : SR W M) (hw : SW W) (x k m n t : Int32) : Step tvI W M (z_den zQ (d + 60) mP_strip [.ref 1, .int x, .int k, .int m, .int n, .int t] M) (fun B => z_den zQ (d + 60) mQ_strip [.ref 15, .int x, .int k, .int m, .int n, .int t] B) := by
  have k := k_oStrip (pl := wwB W) hw.1 x k m n t
  have k2 := k.2.1
  exact sim_S hC hR hw (P_strip (d + 57) hC.1 hw.1 hC.2.2.2.2.2.1) (fun B hB => Q_strip (d + 55) hB.1 hw.1 hB.2.2.2.2.2.1) k.1 k.2.2 (by omega) (by omega)
theorem S_cut (d : Nat) {W : zW} {al : Nat → Nat} {M : zM} (hC : SC W al M) (hR : SR W M) (hw : SW W) (x k : Int32) : Step tvI W M (z_den zQ (d + 60) mP_cut [.ref 1, .int x, .int k] M) (fun B => z_den zQ (d + 60) mQ_cut [.ref 15, .int x, .int k] B) := by
  have k := k_oCut (pl := wwB W) hw.1 x k
  have k2 := k.2.1
  exact sim_S hC hR hw (P_cut (d + 57) hC.1 hw.1 hC.2.2.2.2.2.1) (fun B hB => Q_cut (d + 57) hB.1 hw.1 hB.2.2.2.2.2.1) k.1 k.2.2 (by omega) (by omega)
theorem S_join (d : Nat) {W : zW} {al : Nat → Nat} {M : zM} (hC : SC W al M) (hR : SR W M) (hw : SW W) (x y : Int32) : Step tvI W M (z_den zQ (d + 60) mP_join [.ref 1, .int x, .int y] M) (fun B => z_den zQ (d + 60) mQ_join [.ref 15, .int x, .int y] B) := by
  have k := k_oJoin (pl := wwB W) hw.1 x y
  have k2 := k.2.1
  refine sim_S hC hR hw (P_join (d + 55) hC.1 hw.1 hC.2.2.2.2.2.1) (fun B hB => Q_join (d + 57) hB.1 hw.1 hB.2.2.2.2.2.1) k.1 k.2.2 ?_ ?_ <;> (unfold nDel; omega)
theorem S_repeat (d : Nat) {W : zW} {al : Nat → Nat} {M : zM} (hC : SC W al M) (hR : SR W M) (hw : SW W) (x i n : Int32) : Step tvI W M (z_den zQ (d + 60) mP_repeat [.ref 1, .int x, .int i, .int n] M) (fun B => z_den zQ (d + 60) mQ_repeat [.ref 15, .int x, .int i, .int n] B) := by
  have k := k_oRepeat (pl := wwB W) hw.1 x i n
  have k2 := k.2.1
  refine sim_S hC hR hw (P_repeat (d + 55) hC.1 hw.1 hC.2.2.2.2.2.1) (fun B hB => Q_repeat (d + 57) hB.1 hw.1 hB.2.2.2.2.2.1) k.1 k.2.2 ?_ ?_ <;> (unfold nDel; omega)
theorem S_move (d : Nat) {W : zW} {al : Nat → Nat} {M : zM} (hC : SC W al M) (hR : SR W M) (hw : SW W) (x i n x' j : Int32) : Step tvI W M (z_den zQ (d + 60) mP_move [.ref 1, .int x, .int i, .int n, .int x', .int j] M) (fun B => z_den zQ (d + 60) mQ_move [.ref 15, .int x, .int i, .int n, .int x', .int j] B) := by
  have k := k_oMove (pl := wwB W) hw.1 x i n x' j
  have k2 := k.2.1
  exact sim_S hC hR hw (P_move (d + 55) hC.1 hw.1 hC.2.2.2.2.2.1) (fun B hB => Q_move (d + 55) hB.1 hw.1 hB.2.2.2.2.2.1) k.1 k.2.2 (by omega) (by omega)
theorem S_mend (d : Nat) {W : zW} {al : Nat → Nat} {M : zM} (hC : SC W al M) (hR : SR W M) (hw : SW W) (x y z : Int32) : Step tvI W M (z_den zQ (d + 60) mP_mend [.ref 1, .int x, .int y, .int z] M) (fun B => z_den zQ (d + 60) mQ_mend [.ref 15, .int x, .int y, .int z] B) := by
  have k := k_oMend (pl := wwB W) hw.1 x y z
  have k2 := k.2.1
  exact sim_S hC hR hw (P_mend (d + 56) hC.1 hw.1 hC.2.2.2.2.2.1) (fun B hB => Q_mend (d + 55) hB.1 hw.1 hB.2.2.2.2.2.1) k.1 k.2.2 (by omega) (by omega)
theorem S_copy (d : Nat) {W : zW} {al : Nat → Nat} {M : zM} (hC : SC W al M) (hR : SR W M) (hw : SW W) (x y f n x' y' a : Int32) : Step tvI W M (z_den zQ (d + 60) mP_copy [.ref 1, .int x, .int y, .int f, .int n, .int x', .int y', .int a] M) (fun B => z_den zQ (d + 60) mQ_copy [.ref 15, .int x, .int y, .int f, .int n, .int x', .int y', .int a] B) := by
  have k := k_oCopy (pl := wwB W) hw.1 x y f n x' y' a
  have k2 := k.2.1
  exact sim_S hC hR hw (P_copy (d + 56) hC.1 hw.1 hC.2.2.2.2.2.1) (fun B hB => Q_copy (d + 56) hB.1 hw.1 hB.2.2.2.2.2.1) k.1 k.2.2 (by omega) (by omega)
theorem S_byteOf (d : Nat) {W : zW} {al : Nat → Nat} {M : zM} (hC : SC W al M) (hR : SR W M) (hw : SW W) (x y i : Int32) : Step tvI W M (z_den zQ (d + 60) mP_byteOf [.ref 1, .int x, .int y, .int i] M) (fun B => z_den zQ (d + 60) mQ_byteOf [.ref 15, .int x, .int y, .int i] B) := by
  have k := g_oByteOf (wwG W) x y i
  exact sim_S hC hR hw (P_byteOf (d + 56) hC.1 hw.1) (fun B hB => Q_byteOf (d + 55) hB.1 hw.1) (by rw [k]; exact hw.1) (fun _ => k) (by rw [k]; omega) (by rw [k]; omega)
theorem S_read (d : Nat) {W : zW} {al : Nat → Nat} {M : zM} (hC : SC W al M) (hR : SR W M) (hw : SW W) (x y : Int32) : Step tvI W M (z_den zQ (d + 60) mP_read [.ref 1, .int x, .int y] M) (fun B => z_den zQ (d + 60) mQ_read [.ref 15, .int x, .int y] B) := by
  have k := g_oRead (wwG W) x y
  exact sim_S hC hR hw (P_read (d + 56) hC.1 hw.1) (fun B hB => Q_read (d + 55) hB.1 hw.1) (by rw [k]; exact hw.1) (fun _ => k) (by rw [k]; omega) (by rw [k]; omega)
theorem S_told (d : Nat) {W : zW} {al : Nat → Nat} {M : zM} (hC : SC W al M) (hR : SR W M) (hw : SW W) (x y k : Int32) : Step tvI W M (z_den zQ (d + 60) mP_told [.ref 1, .int x, .int y, .int k] M) (fun B => z_den zQ (d + 60) mQ_told [.ref 15, .int x, .int y, .int k] B) := by
  have k := g_oTold (wwG W) x y k
  exact sim_S hC hR hw (P_told (d + 56) hC.1 hw.1) (fun B hB => Q_told (d + 55) hB.1 hw.1) (by rw [k]; exact hw.1) (fun _ => k) (by rw [k]; omega) (by rw [k]; omega)
theorem S_sum (d : Nat) {W : zW} {al : Nat → Nat} {M : zM} (hC : SC W al M) (hR : SR W M) (hw : SW W) (x y : Int32) : Step tvJ W M (z_den zQ (d + 60) mP_sum [.ref 1, .int x, .int y] M) (fun B => z_den zQ (d + 60) mQ_sum [.ref 15, .int x, .int y] B) := by
  have k := g_oSum (wwG W) x y
  exact sim_SJ hC hR hw (P_sum (d + 56) hC.1 hw.1) (fun B hB => Q_sum (d + 55) hB.1 hw.1) (by rw [k]; exact hw.1) (fun _ => k) (by rw [k]; omega) (by rw [k]; omega)
theorem S_head (d : Nat) {W : zW} {al : Nat → Nat} {M : zM} (hC : SC W al M) (hR : SR W M) (hw : SW W) (x y k : Int32) : Step tvJ W M (z_den zQ (d + 60) mP_head [.ref 1, .int x, .int y, .int k] M) (fun B => z_den zQ (d + 60) mQ_head [.ref 15, .int x, .int y, .int k] B) := by
  have k := g_oHead (wwG W) x y k
  exact sim_SJ hC hR hw (P_head (d + 56) hC.1 hw.1) (fun B hB => Q_head (d + 55) hB.1 hw.1) (by rw [k]; exact hw.1) (fun _ => k) (by rw [k]; omega) (by rw [k]; omega)
theorem S_strips (d : Nat) {W : zW} {al : Nat → Nat} {M : zM} (hC : SC W al M) (hR : SR W M) (hw : SW W) (x : Int32) : Step tvI W M (z_den zQ (d + 60) mP_strips [.ref 1, .int x] M) (fun B => z_den zQ (d + 60) mQ_strips [.ref 15, .int x] B) := by
  have k := g_oStrips (wwG W) x
  exact sim_S hC hR hw (P_strips (d + 58) hC.1 hw.1) (fun B hB => Q_strips (d + 57) hB.1 hw.1) (by rw [k]; exact hw.1) (fun _ => k) (by rw [k]; omega) (by rw [k]; omega)
theorem S_whole (d : Nat) {W : zW} {al : Nat → Nat} {M : zM} (hC : SC W al M) (hR : SR W M) (hw : SW W) (x : Int32) : Step tvI W M (z_den zQ (d + 60) mP_whole [.ref 1, .int x] M) (fun B => z_den zQ (d + 60) mQ_whole [.ref 15, .int x] B) := by
  have k := g_oWhole (wwG W) x
  exact sim_S hC hR hw (P_whole (d + 56) hC.1 hw.1) (fun B hB => Q_whole (d + 55) hB.1 hw.1) (by rw [k]; exact hw.1) (fun _ => k) (by rw [k]; omega) (by rw [k]; omega)
theorem S_finding (d : Nat) {W : zW} {al : Nat → Nat} {M : zM} (hC : SC W al M) (hR : SR W M) (hw : SW W) (x k : Int32) : Step tvI W M (z_den zQ (d + 60) mP_finding [.ref 1, .int x, .int k] M) (fun B => z_den zQ (d + 60) mQ_finding [.ref 15, .int x, .int k] B) := by
  have k := g_oFinding (wwG W) x k
  exact sim_S hC hR hw (P_finding (d + 56) hC.1 hw.1) (fun B hB => Q_finding (d + 55) hB.1 hw.1) (by rw [k]; exact hw.1) (fun _ => k) (by rw [k]; omega) (by rw [k]; omega)
theorem S_equal (d : Nat) {W : zW} {al : Nat → Nat} {M : zM} (hC : SC W al M) (hR : SR W M) (hw : SW W) (x y : Int32) : Step tvI W M (z_den zQ (d + 60) mP_equal [.ref 1, .int x, .int y] M) (fun B => z_den zQ (d + 60) mQ_equal [.ref 15, .int x, .int y] B) := by
  have k := g_oEqual (wwG W) x y
  exact sim_S hC hR hw (P_equal (d + 57) hC.1 hw.1) (fun B hB => Q_equal (d + 57) hB.1 hw.1) (by rw [k]; exact hw.1) (fun _ => k) (by rw [k]; omega) (by rw [k]; omega)
theorem S_digest (d : Nat) {W : zW} {al : Nat → Nat} {M : zM} (hC : SC W al M) (hR : SR W M) (hw : SW W) (x : Int32) : Step tvJ W M (z_den zQ (d + 60) mP_digest [.ref 1, .int x] M) (fun B => z_den zQ (d + 60) mQ_digest [.ref 15, .int x] B) := by
  have k := g_oDigest (wwG W) x
  exact sim_SJ hC hR hw (P_digest (d + 57) hC.1 hw.1) (fun B hB => Q_digest (d + 57) hB.1 hw.1) (by rw [k]; exact hw.1) (fun _ => k) (by rw [k]; omega) (by rw [k]; omega)
