/-! THE LAW: its cases, its loop (wip/gen/emitC3.py). -/
theorem ia56 {M : zM} {L k : Nat} (h : z_hd zQ M 56 = some (20, L)) (hk : k < L) (hL : L ≤ 4096) {x : Int32} (e : x = zn k) : z_ia zQ M 56 20 x = true := by rw [ia_of h]; exact ix_L e hk (by omega)
theorem lg_00 (x : Int64) : z_eq (lg_cmp x x) 0 = true := by rw [eq_cmp]; exact decide_eq_true rfl
/-- a case of the law: on to the next call, with all as before -/
def cGo (d L i : Nat) (W : zW) (M : zM) (o : zR) : Prop := ∃ M2 W' al', o = z_denF zQ (d + 60 + 1) mW_law (18, [some (.ref 56), some (.ref 1), some (.ref 15), some (.int (zn (i + 8)))], [], M2) ∧ SC W' al' M2 ∧ SR W' M2 ∧ SW W' ∧ z_hd zQ M2 56 = some (20, L) ∧ ∃ l, M2.1 = M.1 ++ l ∧ l.length + 3 * gN (wwG W) + yqK (wwP W) ≤ 8 + 3 * gN (wwG W') + yqK (wwP W') ∧ zsm l + 2100 * gN (wwG W) + 523 * yqK (wwP W) ≤ 8264 + 2100 * gN (wwG W') + 523 * yqK (wwP W')
theorem c1990 (d i : Nat) (M : zM) : z_denF zQ (d + 60 + 1) mW_law (1990, [some (.ref 56), some (.ref 1), some (.ref 15), some (.int (zn i))], [], M) = z_denF zQ (d + 60 + 1) mW_law (18, [some (.ref 56), some (.ref 1), some (.ref 15), some (.int (zn (i + 8)))], [], M) := by rw [L_W_law_1990, nL_8, zn_add]
theorem K_roll (d : Nat) {L i : Nat} {W : zW} {al : Nat → Nat} {M : zM} (hL : L ≤ 4096) (hi : i + 8 ≤ L) (h : z_hd zQ M 56 = some (20, L)) (hC : SC W al M) (hR : SR W M) (hw : SW W) : cGo d L i W M (z_denF zQ (d + 60 + 1) mW_law (256, [some (.ref 56), some (.ref 1), some (.ref 15), some (.int (zn i))], [], M)) := by
  obtain ⟨v, M1, M2, W', al', ⟨x, rfl⟩, e1, e2, r1, r2, r3, s1, s2, ⟨l1, t1⟩, l2, t2, t3, t4⟩ := S_roll d hC hR hw
  have h1 : z_hd zQ M1 56 = some (20, L) := by rw [z_hd_app t1 (sc_lt hC)]; exact h
  have h2 : z_hd zQ M2 56 = some (20, L) := by rw [z_hd_app t2 (sc_lt hC)]; exact h
  refine ⟨M2, W', al', ?_, r1, r2, r3, h2, l2, t2, t3, t4⟩
  rw [L_W_law_256, e1, z_bI_some]
  have e2 : z_den zQ (d + 60) mQ_roll [.ref 15] M1 = _ := e2
  rw [e2, z_bI_some, z_eq_T, cond_true, c1990]
theorem K_strip (d : Nat) {L i : Nat} {W : zW} {al : Nat → Nat} {M : zM} (hL : L ≤ 4096) (hi : i + 8 ≤ L) (h : z_hd zQ M 56 = some (20, L)) (hC : SC W al M) (hR : SR W M) (hw : SW W) : cGo d L i W M (z_denF zQ (d + 60 + 1) mW_law (269, [some (.ref 56), some (.ref 1), some (.ref 15), some (.int (zn i))], [], M)) := by
  obtain ⟨v, M1, M2, W', al', ⟨x, rfl⟩, e1, e2, r1, r2, r3, s1, s2, ⟨l1, t1⟩, l2, t2, t3, t4⟩ := S_strip d hC hR hw (zI M 56 (i + 1)) (zI M 56 (i + 2)) (zI M 56 (i + 3)) (zI M 56 (i + 4)) (zI M 56 (i + 5))
  have h1 : z_hd zQ M1 56 = some (20, L) := by rw [z_hd_app t1 (sc_lt hC)]; exact h
  have h2 : z_hd zQ M2 56 = some (20, L) := by rw [z_hd_app t2 (sc_lt hC)]; exact h
  have a1 : zn i + 1 = zn (i + 1) := by rw [show (1 : Int32) = zn 1 from nL_1, zn_add]
  have a2 : zn i + 2 = zn (i + 2) := by rw [show (2 : Int32) = zn 2 from nL_2, zn_add]
  have a3 : zn i + 3 = zn (i + 3) := by rw [show (3 : Int32) = zn 3 from nL_3, zn_add]
  have a4 : zn i + 4 = zn (i + 4) := by rw [show (4 : Int32) = zn 4 from nL_4, zn_add]
  have a5 : zn i + 5 = zn (i + 5) := by rw [show (5 : Int32) = zn 5 from nL_5, zn_add]
  refine ⟨M2, W', al', ?_, r1, r2, r3, h2, l2, t2, t3, t4⟩
  rw [L_W_law_269, a1, a2, a3, a4, a5, ia56 h (k := i + 1) (by omega) hL rfl, cond_true, ia56 h (k := i + 2) (by omega) hL rfl, cond_true, ia56 h (k := i + 3) (by omega) hL rfl, cond_true, ia56 h (k := i + 4) (by omega) hL rfl, cond_true, ia56 h (k := i + 5) (by omega) hL rfl, cond_true, zn_N (show i + 1 < 2147483648 by omega), zn_N (show i + 2 < 2147483648 by omega), zn_N (show i + 3 < 2147483648 by omega), zn_N (show i + 4 < 2147483648 by omega), zn_N (show i + 5 < 2147483648 by omega), e1, z_bI_some, ia56 h1 (k := i + 1) (by omega) hL rfl, cond_true, ia56 h1 (k := i + 2) (by omega) hL rfl, cond_true, ia56 h1 (k := i + 3) (by omega) hL rfl, cond_true, ia56 h1 (k := i + 4) (by omega) hL rfl, cond_true, ia56 h1 (k := i + 5) (by omega) hL rfl, cond_true, s1 (i + 1), s1 (i + 2), s1 (i + 3), s1 (i + 4), s1 (i + 5)]
  have e2 : z_den zQ (d + 60) mQ_strip [.ref 15, .int (zI M 56 (i + 1)), .int (zI M 56 (i + 2)), .int (zI M 56 (i + 3)), .int (zI M 56 (i + 4)), .int (zI M 56 (i + 5))] M1 = _ := e2
  rw [e2, z_bI_some, z_eq_T, cond_true, c1990]
theorem K_punch (d : Nat) {L i : Nat} {W : zW} {al : Nat → Nat} {M : zM} (hL : L ≤ 4096) (hi : i + 8 ≤ L) (h : z_hd zQ M 56 = some (20, L)) (hC : SC W al M) (hR : SR W M) (hw : SW W) : cGo d L i W M (z_denF zQ (d + 60 + 1) mW_law (332, [some (.ref 56), some (.ref 1), some (.ref 15), some (.int (zn i))], [], M)) := by
  obtain ⟨v, M1, M2, W', al', ⟨x, rfl⟩, e1, e2, r1, r2, r3, s1, s2, ⟨l1, t1⟩, l2, t2, t3, t4⟩ := S_punch d hC hR hw (zI M 56 (i + 1)) (zI M 56 (i + 2)) (zI M 56 (i + 3)) (zI M 56 (i + 4))
  have h1 : z_hd zQ M1 56 = some (20, L) := by rw [z_hd_app t1 (sc_lt hC)]; exact h
  have h2 : z_hd zQ M2 56 = some (20, L) := by rw [z_hd_app t2 (sc_lt hC)]; exact h
  have a1 : zn i + 1 = zn (i + 1) := by rw [show (1 : Int32) = zn 1 from nL_1, zn_add]
  have a2 : zn i + 2 = zn (i + 2) := by rw [show (2 : Int32) = zn 2 from nL_2, zn_add]
  have a3 : zn i + 3 = zn (i + 3) := by rw [show (3 : Int32) = zn 3 from nL_3, zn_add]
  have a4 : zn i + 4 = zn (i + 4) := by rw [show (4 : Int32) = zn 4 from nL_4, zn_add]
  refine ⟨M2, W', al', ?_, r1, r2, r3, h2, l2, t2, t3, t4⟩
  rw [L_W_law_332, a1, a2, a3, a4, ia56 h (k := i + 1) (by omega) hL rfl, cond_true, ia56 h (k := i + 2) (by omega) hL rfl, cond_true, ia56 h (k := i + 3) (by omega) hL rfl, cond_true, ia56 h (k := i + 4) (by omega) hL rfl, cond_true, zn_N (show i + 1 < 2147483648 by omega), zn_N (show i + 2 < 2147483648 by omega), zn_N (show i + 3 < 2147483648 by omega), zn_N (show i + 4 < 2147483648 by omega), e1, z_bI_some, ia56 h1 (k := i + 1) (by omega) hL rfl, cond_true, ia56 h1 (k := i + 2) (by omega) hL rfl, cond_true, ia56 h1 (k := i + 3) (by omega) hL rfl, cond_true, ia56 h1 (k := i + 4) (by omega) hL rfl, cond_true, s1 (i + 1), s1 (i + 2), s1 (i + 3), s1 (i + 4)]
  have e2 : z_den zQ (d + 60) mQ_punch [.ref 15, .int (zI M 56 (i + 1)), .int (zI M 56 (i + 2)), .int (zI M 56 (i + 3)), .int (zI M 56 (i + 4))] M1 = _ := e2
  rw [e2, z_bI_some, z_eq_T, cond_true, c1990]
theorem K_seal (d : Nat) {L i : Nat} {W : zW} {al : Nat → Nat} {M : zM} (hL : L ≤ 4096) (hi : i + 8 ≤ L) (h : z_hd zQ M 56 = some (20, L)) (hC : SC W al M) (hR : SR W M) (hw : SW W) : cGo d L i W M (z_denF zQ (d + 60 + 1) mW_law (385, [some (.ref 56), some (.ref 1), some (.ref 15), some (.int (zn i))], [], M)) := by
  obtain ⟨v, M1, M2, W', al', ⟨x, rfl⟩, e1, e2, r1, r2, r3, s1, s2, ⟨l1, t1⟩, l2, t2, t3, t4⟩ := S_seal d hC hR hw (zI M 56 (i + 1)) (zI M 56 (i + 2))
  have h1 : z_hd zQ M1 56 = some (20, L) := by rw [z_hd_app t1 (sc_lt hC)]; exact h
  have h2 : z_hd zQ M2 56 = some (20, L) := by rw [z_hd_app t2 (sc_lt hC)]; exact h
  have a1 : zn i + 1 = zn (i + 1) := by rw [show (1 : Int32) = zn 1 from nL_1, zn_add]
  have a2 : zn i + 2 = zn (i + 2) := by rw [show (2 : Int32) = zn 2 from nL_2, zn_add]
  refine ⟨M2, W', al', ?_, r1, r2, r3, h2, l2, t2, t3, t4⟩
  rw [L_W_law_385, a1, a2, ia56 h (k := i + 1) (by omega) hL rfl, cond_true, ia56 h (k := i + 2) (by omega) hL rfl, cond_true, zn_N (show i + 1 < 2147483648 by omega), zn_N (show i + 2 < 2147483648 by omega), e1, z_bI_some, ia56 h1 (k := i + 1) (by omega) hL rfl, cond_true, ia56 h1 (k := i + 2) (by omega) hL rfl, cond_true, s1 (i + 1), s1 (i + 2)]
  have e2 : z_den zQ (d + 60) mQ_seal [.ref 15, .int (zI M 56 (i + 1)), .int (zI M 56 (i + 2))] M1 = _ := e2
  rw [e2, z_bI_some, z_eq_T, cond_true, c1990]
theorem K_lose (d : Nat) {L i : Nat} {W : zW} {al : Nat → Nat} {M : zM} (hL : L ≤ 4096) (hi : i + 8 ≤ L) (h : z_hd zQ M 56 = some (20, L)) (hC : SC W al M) (hR : SR W M) (hw : SW W) : cGo d L i W M (z_denF zQ (d + 60 + 1) mW_law (418, [some (.ref 56), some (.ref 1), some (.ref 15), some (.int (zn i))], [], M)) := by
  obtain ⟨v, M1, M2, W', al', ⟨x, rfl⟩, e1, e2, r1, r2, r3, s1, s2, ⟨l1, t1⟩, l2, t2, t3, t4⟩ := S_lose d hC hR hw (zI M 56 (i + 1)) (zI M 56 (i + 2))
  have h1 : z_hd zQ M1 56 = some (20, L) := by rw [z_hd_app t1 (sc_lt hC)]; exact h
  have h2 : z_hd zQ M2 56 = some (20, L) := by rw [z_hd_app t2 (sc_lt hC)]; exact h
  have a1 : zn i + 1 = zn (i + 1) := by rw [show (1 : Int32) = zn 1 from nL_1, zn_add]
  have a2 : zn i + 2 = zn (i + 2) := by rw [show (2 : Int32) = zn 2 from nL_2, zn_add]
  refine ⟨M2, W', al', ?_, r1, r2, r3, h2, l2, t2, t3, t4⟩
  rw [L_W_law_418, a1, a2, ia56 h (k := i + 1) (by omega) hL rfl, cond_true, ia56 h (k := i + 2) (by omega) hL rfl, cond_true, zn_N (show i + 1 < 2147483648 by omega), zn_N (show i + 2 < 2147483648 by omega), e1, z_bI_some, ia56 h1 (k := i + 1) (by omega) hL rfl, cond_true, ia56 h1 (k := i + 2) (by omega) hL rfl, cond_true, s1 (i + 1), s1 (i + 2)]
  have e2 : z_den zQ (d + 60) mQ_lose [.ref 15, .int (zI M 56 (i + 1)), .int (zI M 56 (i + 2))] M1 = _ := e2
  rw [e2, z_bI_some, z_eq_T, cond_true, c1990]
theorem K_tear (d : Nat) {L i : Nat} {W : zW} {al : Nat → Nat} {M : zM} (hL : L ≤ 4096) (hi : i + 8 ≤ L) (h : z_hd zQ M 56 = some (20, L)) (hC : SC W al M) (hR : SR W M) (hw : SW W) : cGo d L i W M (z_denF zQ (d + 60 + 1) mW_law (451, [some (.ref 56), some (.ref 1), some (.ref 15), some (.int (zn i))], [], M)) := by
  obtain ⟨v, M1, M2, W', al', ⟨x, rfl⟩, e1, e2, r1, r2, r3, s1, s2, ⟨l1, t1⟩, l2, t2, t3, t4⟩ := S_tear d hC hR hw (zI M 56 (i + 1)) (zI M 56 (i + 2)) (zI M 56 (i + 3))
  have h1 : z_hd zQ M1 56 = some (20, L) := by rw [z_hd_app t1 (sc_lt hC)]; exact h
  have h2 : z_hd zQ M2 56 = some (20, L) := by rw [z_hd_app t2 (sc_lt hC)]; exact h
  have a1 : zn i + 1 = zn (i + 1) := by rw [show (1 : Int32) = zn 1 from nL_1, zn_add]
  have a2 : zn i + 2 = zn (i + 2) := by rw [show (2 : Int32) = zn 2 from nL_2, zn_add]
  have a3 : zn i + 3 = zn (i + 3) := by rw [show (3 : Int32) = zn 3 from nL_3, zn_add]
  refine ⟨M2, W', al', ?_, r1, r2, r3, h2, l2, t2, t3, t4⟩
  rw [L_W_law_451, a1, a2, a3, ia56 h (k := i + 1) (by omega) hL rfl, cond_true, ia56 h (k := i + 2) (by omega) hL rfl, cond_true, ia56 h (k := i + 3) (by omega) hL rfl, cond_true, zn_N (show i + 1 < 2147483648 by omega), zn_N (show i + 2 < 2147483648 by omega), zn_N (show i + 3 < 2147483648 by omega), e1, z_bI_some, ia56 h1 (k := i + 1) (by omega) hL rfl, cond_true, ia56 h1 (k := i + 2) (by omega) hL rfl, cond_true, ia56 h1 (k := i + 3) (by omega) hL rfl, cond_true, s1 (i + 1), s1 (i + 2), s1 (i + 3)]
  have e2 : z_den zQ (d + 60) mQ_tear [.ref 15, .int (zI M 56 (i + 1)), .int (zI M 56 (i + 2)), .int (zI M 56 (i + 3))] M1 = _ := e2
  rw [e2, z_bI_some, z_eq_T, cond_true, c1990]
theorem K_damage (d : Nat) {L i : Nat} {W : zW} {al : Nat → Nat} {M : zM} (hL : L ≤ 4096) (hi : i + 8 ≤ L) (h : z_hd zQ M 56 = some (20, L)) (hC : SC W al M) (hR : SR W M) (hw : SW W) : cGo d L i W M (z_denF zQ (d + 60 + 1) mW_law (494, [some (.ref 56), some (.ref 1), some (.ref 15), some (.int (zn i))], [], M)) := by
  obtain ⟨v, M1, M2, W', al', ⟨x, rfl⟩, e1, e2, r1, r2, r3, s1, s2, ⟨l1, t1⟩, l2, t2, t3, t4⟩ := S_damage d hC hR hw (zI M 56 (i + 1)) (zI M 56 (i + 2)) (zI M 56 (i + 3)) (zI M 56 (i + 4))
  have h1 : z_hd zQ M1 56 = some (20, L) := by rw [z_hd_app t1 (sc_lt hC)]; exact h
  have h2 : z_hd zQ M2 56 = some (20, L) := by rw [z_hd_app t2 (sc_lt hC)]; exact h
  have a1 : zn i + 1 = zn (i + 1) := by rw [show (1 : Int32) = zn 1 from nL_1, zn_add]
  have a2 : zn i + 2 = zn (i + 2) := by rw [show (2 : Int32) = zn 2 from nL_2, zn_add]
  have a3 : zn i + 3 = zn (i + 3) := by rw [show (3 : Int32) = zn 3 from nL_3, zn_add]
  have a4 : zn i + 4 = zn (i + 4) := by rw [show (4 : Int32) = zn 4 from nL_4, zn_add]
  refine ⟨M2, W', al', ?_, r1, r2, r3, h2, l2, t2, t3, t4⟩
  rw [L_W_law_494, a1, a2, a3, a4, ia56 h (k := i + 1) (by omega) hL rfl, cond_true, ia56 h (k := i + 2) (by omega) hL rfl, cond_true, ia56 h (k := i + 3) (by omega) hL rfl, cond_true, ia56 h (k := i + 4) (by omega) hL rfl, cond_true, zn_N (show i + 1 < 2147483648 by omega), zn_N (show i + 2 < 2147483648 by omega), zn_N (show i + 3 < 2147483648 by omega), zn_N (show i + 4 < 2147483648 by omega), e1, z_bI_some, ia56 h1 (k := i + 1) (by omega) hL rfl, cond_true, ia56 h1 (k := i + 2) (by omega) hL rfl, cond_true, ia56 h1 (k := i + 3) (by omega) hL rfl, cond_true, ia56 h1 (k := i + 4) (by omega) hL rfl, cond_true, s1 (i + 1), s1 (i + 2), s1 (i + 3), s1 (i + 4)]
  have e2 : z_den zQ (d + 60) mQ_damage [.ref 15, .int (zI M 56 (i + 1)), .int (zI M 56 (i + 2)), .int (zI M 56 (i + 3)), .int (zI M 56 (i + 4))] M1 = _ := e2
  rw [e2, z_bI_some, z_eq_T, cond_true, c1990]
theorem K_byteOf (d : Nat) {L i : Nat} {W : zW} {al : Nat → Nat} {M : zM} (hL : L ≤ 4096) (hi : i + 8 ≤ L) (h : z_hd zQ M 56 = some (20, L)) (hC : SC W al M) (hR : SR W M) (hw : SW W) : cGo d L i W M (z_denF zQ (d + 60 + 1) mW_law (547, [some (.ref 56), some (.ref 1), some (.ref 15), some (.int (zn i))], [], M)) := by
  obtain ⟨v, M1, M2, W', al', ⟨x, rfl⟩, e1, e2, r1, r2, r3, s1, s2, ⟨l1, t1⟩, l2, t2, t3, t4⟩ := S_byteOf d hC hR hw (zI M 56 (i + 1)) (zI M 56 (i + 2)) (zI M 56 (i + 3))
  have h1 : z_hd zQ M1 56 = some (20, L) := by rw [z_hd_app t1 (sc_lt hC)]; exact h
  have h2 : z_hd zQ M2 56 = some (20, L) := by rw [z_hd_app t2 (sc_lt hC)]; exact h
  have a1 : zn i + 1 = zn (i + 1) := by rw [show (1 : Int32) = zn 1 from nL_1, zn_add]
  have a2 : zn i + 2 = zn (i + 2) := by rw [show (2 : Int32) = zn 2 from nL_2, zn_add]
  have a3 : zn i + 3 = zn (i + 3) := by rw [show (3 : Int32) = zn 3 from nL_3, zn_add]
  refine ⟨M2, W', al', ?_, r1, r2, r3, h2, l2, t2, t3, t4⟩
  rw [L_W_law_547, a1, a2, a3, ia56 h (k := i + 1) (by omega) hL rfl, cond_true, ia56 h (k := i + 2) (by omega) hL rfl, cond_true, ia56 h (k := i + 3) (by omega) hL rfl, cond_true, zn_N (show i + 1 < 2147483648 by omega), zn_N (show i + 2 < 2147483648 by omega), zn_N (show i + 3 < 2147483648 by omega), e1, z_bI_some, ia56 h1 (k := i + 1) (by omega) hL rfl, cond_true, ia56 h1 (k := i + 2) (by omega) hL rfl, cond_true, ia56 h1 (k := i + 3) (by omega) hL rfl, cond_true, s1 (i + 1), s1 (i + 2), s1 (i + 3)]
  have e2 : z_den zQ (d + 60) mQ_byteOf [.ref 15, .int (zI M 56 (i + 1)), .int (zI M 56 (i + 2)), .int (zI M 56 (i + 3))] M1 = _ := e2
  rw [e2, z_bI_some, z_eq_T, cond_true, c1990]
theorem K_head (d : Nat) {L i : Nat} {W : zW} {al : Nat → Nat} {M : zM} (hL : L ≤ 4096) (hi : i + 8 ≤ L) (h : z_hd zQ M 56 = some (20, L)) (hC : SC W al M) (hR : SR W M) (hw : SW W) : cGo d L i W M (z_denF zQ (d + 60 + 1) mW_law (590, [some (.ref 56), some (.ref 1), some (.ref 15), some (.int (zn i))], [], M)) := by
  obtain ⟨v, M1, M2, W', al', ⟨x, rfl⟩, e1, e2, r1, r2, r3, s1, s2, ⟨l1, t1⟩, l2, t2, t3, t4⟩ := S_head d hC hR hw (zI M 56 (i + 1)) (zI M 56 (i + 2)) (zI M 56 (i + 3))
  have h1 : z_hd zQ M1 56 = some (20, L) := by rw [z_hd_app t1 (sc_lt hC)]; exact h
  have h2 : z_hd zQ M2 56 = some (20, L) := by rw [z_hd_app t2 (sc_lt hC)]; exact h
  have a1 : zn i + 1 = zn (i + 1) := by rw [show (1 : Int32) = zn 1 from nL_1, zn_add]
  have a2 : zn i + 2 = zn (i + 2) := by rw [show (2 : Int32) = zn 2 from nL_2, zn_add]
  have a3 : zn i + 3 = zn (i + 3) := by rw [show (3 : Int32) = zn 3 from nL_3, zn_add]
  refine ⟨M2, W', al', ?_, r1, r2, r3, h2, l2, t2, t3, t4⟩
  rw [L_W_law_590, a1, a2, a3, ia56 h (k := i + 1) (by omega) hL rfl, cond_true, ia56 h (k := i + 2) (by omega) hL rfl, cond_true, ia56 h (k := i + 3) (by omega) hL rfl, cond_true, zn_N (show i + 1 < 2147483648 by omega), zn_N (show i + 2 < 2147483648 by omega), zn_N (show i + 3 < 2147483648 by omega), e1, z_bJ_some, ia56 h1 (k := i + 1) (by omega) hL rfl, cond_true, ia56 h1 (k := i + 2) (by omega) hL rfl, cond_true, ia56 h1 (k := i + 3) (by omega) hL rfl, cond_true, s1 (i + 1), s1 (i + 2), s1 (i + 3)]
  have e2 : z_den zQ (d + 60) mQ_head [.ref 15, .int (zI M 56 (i + 1)), .int (zI M 56 (i + 2)), .int (zI M 56 (i + 3))] M1 = _ := e2
  rw [e2, z_bJ_some, lg_00, cond_true, c1990]
theorem K_sum (d : Nat) {L i : Nat} {W : zW} {al : Nat → Nat} {M : zM} (hL : L ≤ 4096) (hi : i + 8 ≤ L) (h : z_hd zQ M 56 = some (20, L)) (hC : SC W al M) (hR : SR W M) (hw : SW W) : cGo d L i W M (z_denF zQ (d + 60 + 1) mW_law (634, [some (.ref 56), some (.ref 1), some (.ref 15), some (.int (zn i))], [], M)) := by
  obtain ⟨v, M1, M2, W', al', ⟨x, rfl⟩, e1, e2, r1, r2, r3, s1, s2, ⟨l1, t1⟩, l2, t2, t3, t4⟩ := S_sum d hC hR hw (zI M 56 (i + 1)) (zI M 56 (i + 2))
  have h1 : z_hd zQ M1 56 = some (20, L) := by rw [z_hd_app t1 (sc_lt hC)]; exact h
  have h2 : z_hd zQ M2 56 = some (20, L) := by rw [z_hd_app t2 (sc_lt hC)]; exact h
  have a1 : zn i + 1 = zn (i + 1) := by rw [show (1 : Int32) = zn 1 from nL_1, zn_add]
  have a2 : zn i + 2 = zn (i + 2) := by rw [show (2 : Int32) = zn 2 from nL_2, zn_add]
  refine ⟨M2, W', al', ?_, r1, r2, r3, h2, l2, t2, t3, t4⟩
  rw [L_W_law_634, a1, a2, ia56 h (k := i + 1) (by omega) hL rfl, cond_true, ia56 h (k := i + 2) (by omega) hL rfl, cond_true, zn_N (show i + 1 < 2147483648 by omega), zn_N (show i + 2 < 2147483648 by omega), e1, z_bJ_some, ia56 h1 (k := i + 1) (by omega) hL rfl, cond_true, ia56 h1 (k := i + 2) (by omega) hL rfl, cond_true, s1 (i + 1), s1 (i + 2)]
  have e2 : z_den zQ (d + 60) mQ_sum [.ref 15, .int (zI M 56 (i + 1)), .int (zI M 56 (i + 2))] M1 = _ := e2
  rw [e2, z_bJ_some, lg_00, cond_true, c1990]
theorem K_read (d : Nat) {L i : Nat} {W : zW} {al : Nat → Nat} {M : zM} (hL : L ≤ 4096) (hi : i + 8 ≤ L) (h : z_hd zQ M 56 = some (20, L)) (hC : SC W al M) (hR : SR W M) (hw : SW W) : cGo d L i W M (z_denF zQ (d + 60 + 1) mW_law (668, [some (.ref 56), some (.ref 1), some (.ref 15), some (.int (zn i))], [], M)) := by
  obtain ⟨v, M1, M2, W', al', ⟨x, rfl⟩, e1, e2, r1, r2, r3, s1, s2, ⟨l1, t1⟩, l2, t2, t3, t4⟩ := S_read d hC hR hw (zI M 56 (i + 1)) (zI M 56 (i + 2))
  have h1 : z_hd zQ M1 56 = some (20, L) := by rw [z_hd_app t1 (sc_lt hC)]; exact h
  have h2 : z_hd zQ M2 56 = some (20, L) := by rw [z_hd_app t2 (sc_lt hC)]; exact h
  have a1 : zn i + 1 = zn (i + 1) := by rw [show (1 : Int32) = zn 1 from nL_1, zn_add]
  have a2 : zn i + 2 = zn (i + 2) := by rw [show (2 : Int32) = zn 2 from nL_2, zn_add]
  refine ⟨M2, W', al', ?_, r1, r2, r3, h2, l2, t2, t3, t4⟩
  rw [L_W_law_668, a1, a2, ia56 h (k := i + 1) (by omega) hL rfl, cond_true, ia56 h (k := i + 2) (by omega) hL rfl, cond_true, zn_N (show i + 1 < 2147483648 by omega), zn_N (show i + 2 < 2147483648 by omega), e1, z_bI_some, ia56 h1 (k := i + 1) (by omega) hL rfl, cond_true, ia56 h1 (k := i + 2) (by omega) hL rfl, cond_true, s1 (i + 1), s1 (i + 2)]
  have e2 : z_den zQ (d + 60) mQ_read [.ref 15, .int (zI M 56 (i + 1)), .int (zI M 56 (i + 2))] M1 = _ := e2
  rw [e2, z_bI_some, z_eq_T, cond_true, c1990]
theorem K_whole (d : Nat) {L i : Nat} {W : zW} {al : Nat → Nat} {M : zM} (hL : L ≤ 4096) (hi : i + 8 ≤ L) (h : z_hd zQ M 56 = some (20, L)) (hC : SC W al M) (hR : SR W M) (hw : SW W) : cGo d L i W M (z_denF zQ (d + 60 + 1) mW_law (701, [some (.ref 56), some (.ref 1), some (.ref 15), some (.int (zn i))], [], M)) := by
  obtain ⟨v, M1, M2, W', al', ⟨x, rfl⟩, e1, e2, r1, r2, r3, s1, s2, ⟨l1, t1⟩, l2, t2, t3, t4⟩ := S_whole d hC hR hw (zI M 56 (i + 1))
  have h1 : z_hd zQ M1 56 = some (20, L) := by rw [z_hd_app t1 (sc_lt hC)]; exact h
  have h2 : z_hd zQ M2 56 = some (20, L) := by rw [z_hd_app t2 (sc_lt hC)]; exact h
  have a1 : zn i + 1 = zn (i + 1) := by rw [show (1 : Int32) = zn 1 from nL_1, zn_add]
  refine ⟨M2, W', al', ?_, r1, r2, r3, h2, l2, t2, t3, t4⟩
  rw [L_W_law_701, a1, ia56 h (k := i + 1) (by omega) hL rfl, cond_true, zn_N (show i + 1 < 2147483648 by omega), e1, z_bI_some, ia56 h1 (k := i + 1) (by omega) hL rfl, cond_true, s1 (i + 1)]
  have e2 : z_den zQ (d + 60) mQ_whole [.ref 15, .int (zI M 56 (i + 1))] M1 = _ := e2
  rw [e2, z_bI_some, z_eq_T, cond_true, c1990]
theorem K_finding (d : Nat) {L i : Nat} {W : zW} {al : Nat → Nat} {M : zM} (hL : L ≤ 4096) (hi : i + 8 ≤ L) (h : z_hd zQ M 56 = some (20, L)) (hC : SC W al M) (hR : SR W M) (hw : SW W) : cGo d L i W M (z_denF zQ (d + 60 + 1) mW_law (724, [some (.ref 56), some (.ref 1), some (.ref 15), some (.int (zn i))], [], M)) := by
  obtain ⟨v, M1, M2, W', al', ⟨x, rfl⟩, e1, e2, r1, r2, r3, s1, s2, ⟨l1, t1⟩, l2, t2, t3, t4⟩ := S_finding d hC hR hw (zI M 56 (i + 1)) (zI M 56 (i + 2))
  have h1 : z_hd zQ M1 56 = some (20, L) := by rw [z_hd_app t1 (sc_lt hC)]; exact h
  have h2 : z_hd zQ M2 56 = some (20, L) := by rw [z_hd_app t2 (sc_lt hC)]; exact h
  have a1 : zn i + 1 = zn (i + 1) := by rw [show (1 : Int32) = zn 1 from nL_1, zn_add]
  have a2 : zn i + 2 = zn (i + 2) := by rw [show (2 : Int32) = zn 2 from nL_2, zn_add]
  refine ⟨M2, W', al', ?_, r1, r2, r3, h2, l2, t2, t3, t4⟩
  rw [L_W_law_724, a1, a2, ia56 h (k := i + 1) (by omega) hL rfl, cond_true, ia56 h (k := i + 2) (by omega) hL rfl, cond_true, zn_N (show i + 1 < 2147483648 by omega), zn_N (show i + 2 < 2147483648 by omega), e1, z_bI_some, ia56 h1 (k := i + 1) (by omega) hL rfl, cond_true, ia56 h1 (k := i + 2) (by omega) hL rfl, cond_true, s1 (i + 1), s1 (i + 2)]
  have e2 : z_den zQ (d + 60) mQ_finding [.ref 15, .int (zI M 56 (i + 1)), .int (zI M 56 (i + 2))] M1 = _ := e2
  rw [e2, z_bI_some, z_eq_T, cond_true, c1990]
theorem K_told (d : Nat) {L i : Nat} {W : zW} {al : Nat → Nat} {M : zM} (hL : L ≤ 4096) (hi : i + 8 ≤ L) (h : z_hd zQ M 56 = some (20, L)) (hC : SC W al M) (hR : SR W M) (hw : SW W) : cGo d L i W M (z_denF zQ (d + 60 + 1) mW_law (757, [some (.ref 56), some (.ref 1), some (.ref 15), some (.int (zn i))], [], M)) := by
  obtain ⟨v, M1, M2, W', al', ⟨x, rfl⟩, e1, e2, r1, r2, r3, s1, s2, ⟨l1, t1⟩, l2, t2, t3, t4⟩ := S_told d hC hR hw (zI M 56 (i + 1)) (zI M 56 (i + 2)) (zI M 56 (i + 3))
  have h1 : z_hd zQ M1 56 = some (20, L) := by rw [z_hd_app t1 (sc_lt hC)]; exact h
  have h2 : z_hd zQ M2 56 = some (20, L) := by rw [z_hd_app t2 (sc_lt hC)]; exact h
  have a1 : zn i + 1 = zn (i + 1) := by rw [show (1 : Int32) = zn 1 from nL_1, zn_add]
  have a2 : zn i + 2 = zn (i + 2) := by rw [show (2 : Int32) = zn 2 from nL_2, zn_add]
  have a3 : zn i + 3 = zn (i + 3) := by rw [show (3 : Int32) = zn 3 from nL_3, zn_add]
  refine ⟨M2, W', al', ?_, r1, r2, r3, h2, l2, t2, t3, t4⟩
  rw [L_W_law_757, a1, a2, a3, ia56 h (k := i + 1) (by omega) hL rfl, cond_true, ia56 h (k := i + 2) (by omega) hL rfl, cond_true, ia56 h (k := i + 3) (by omega) hL rfl, cond_true, zn_N (show i + 1 < 2147483648 by omega), zn_N (show i + 2 < 2147483648 by omega), zn_N (show i + 3 < 2147483648 by omega), e1, z_bI_some, ia56 h1 (k := i + 1) (by omega) hL rfl, cond_true, ia56 h1 (k := i + 2) (by omega) hL rfl, cond_true, ia56 h1 (k := i + 3) (by omega) hL rfl, cond_true, s1 (i + 1), s1 (i + 2), s1 (i + 3)]
  have e2 : z_den zQ (d + 60) mQ_told [.ref 15, .int (zI M 56 (i + 1)), .int (zI M 56 (i + 2)), .int (zI M 56 (i + 3))] M1 = _ := e2
  rw [e2, z_bI_some, z_eq_T, cond_true, c1990]
theorem K_instrument (d : Nat) {L i : Nat} {W : zW} {al : Nat → Nat} {M : zM} (hL : L ≤ 4096) (hi : i + 8 ≤ L) (h : z_hd zQ M 56 = some (20, L)) (hC : SC W al M) (hR : SR W M) (hw : SW W) : cGo d L i W M (z_denF zQ (d + 60 + 1) mW_law (800, [some (.ref 56), some (.ref 1), some (.ref 15), some (.int (zn i))], [], M)) := by
  obtain ⟨v, M1, M2, W', al', ⟨x, rfl⟩, e1, e2, r1, r2, r3, s1, s2, ⟨l1, t1⟩, l2, t2, t3, t4⟩ := S_instrument d hC hR hw (zI M 56 (i + 1))
  have h1 : z_hd zQ M1 56 = some (20, L) := by rw [z_hd_app t1 (sc_lt hC)]; exact h
  have h2 : z_hd zQ M2 56 = some (20, L) := by rw [z_hd_app t2 (sc_lt hC)]; exact h
  have a1 : zn i + 1 = zn (i + 1) := by rw [show (1 : Int32) = zn 1 from nL_1, zn_add]
  refine ⟨M2, W', al', ?_, r1, r2, r3, h2, l2, t2, t3, t4⟩
  rw [L_W_law_800, a1, ia56 h (k := i + 1) (by omega) hL rfl, cond_true, zn_N (show i + 1 < 2147483648 by omega), e1, z_bI_some, ia56 h1 (k := i + 1) (by omega) hL rfl, cond_true, s1 (i + 1)]
  have e2 : z_den zQ (d + 60) mQ_instrument [.ref 15, .int (zI M 56 (i + 1))] M1 = _ := e2
  rw [e2, z_bI_some, z_eq_T, cond_true, c1990]
theorem K_couple (d : Nat) {L i : Nat} {W : zW} {al : Nat → Nat} {M : zM} (hL : L ≤ 4096) (hi : i + 8 ≤ L) (h : z_hd zQ M 56 = some (20, L)) (hC : SC W al M) (hR : SR W M) (hw : SW W) : cGo d L i W M (z_denF zQ (d + 60 + 1) mW_law (823, [some (.ref 56), some (.ref 1), some (.ref 15), some (.int (zn i))], [], M)) := by
  obtain ⟨v, M1, M2, W', al', ⟨x, rfl⟩, e1, e2, r1, r2, r3, s1, s2, ⟨l1, t1⟩, l2, t2, t3, t4⟩ := S_couple d hC hR hw (zI M 56 (i + 1)) (zI M 56 (i + 2))
  have h1 : z_hd zQ M1 56 = some (20, L) := by rw [z_hd_app t1 (sc_lt hC)]; exact h
  have h2 : z_hd zQ M2 56 = some (20, L) := by rw [z_hd_app t2 (sc_lt hC)]; exact h
  have a1 : zn i + 1 = zn (i + 1) := by rw [show (1 : Int32) = zn 1 from nL_1, zn_add]
  have a2 : zn i + 2 = zn (i + 2) := by rw [show (2 : Int32) = zn 2 from nL_2, zn_add]
  refine ⟨M2, W', al', ?_, r1, r2, r3, h2, l2, t2, t3, t4⟩
  rw [L_W_law_823, a1, a2, ia56 h (k := i + 1) (by omega) hL rfl, cond_true, ia56 h (k := i + 2) (by omega) hL rfl, cond_true, zn_N (show i + 1 < 2147483648 by omega), zn_N (show i + 2 < 2147483648 by omega), e1, z_bI_some, ia56 h1 (k := i + 1) (by omega) hL rfl, cond_true, ia56 h1 (k := i + 2) (by omega) hL rfl, cond_true, s1 (i + 1), s1 (i + 2)]
  have e2 : z_den zQ (d + 60) mQ_couple [.ref 15, .int (zI M 56 (i + 1)), .int (zI M 56 (i + 2))] M1 = _ := e2
  rw [e2, z_bI_some, z_eq_T, cond_true, c1990]
theorem K_chest (d : Nat) {L i : Nat} {W : zW} {al : Nat → Nat} {M : zM} (hL : L ≤ 4096) (hi : i + 8 ≤ L) (h : z_hd zQ M 56 = some (20, L)) (hC : SC W al M) (hR : SR W M) (hw : SW W) : cGo d L i W M (z_denF zQ (d + 60 + 1) mW_law (856, [some (.ref 56), some (.ref 1), some (.ref 15), some (.int (zn i))], [], M)) := by
  obtain ⟨v, M1, M2, W', al', ⟨x, rfl⟩, e1, e2, r1, r2, r3, s1, s2, ⟨l1, t1⟩, l2, t2, t3, t4⟩ := S_chest d hC hR hw (zI M 56 (i + 1)) (zI M 56 (i + 2))
  have h1 : z_hd zQ M1 56 = some (20, L) := by rw [z_hd_app t1 (sc_lt hC)]; exact h
  have h2 : z_hd zQ M2 56 = some (20, L) := by rw [z_hd_app t2 (sc_lt hC)]; exact h
  have a1 : zn i + 1 = zn (i + 1) := by rw [show (1 : Int32) = zn 1 from nL_1, zn_add]
  have a2 : zn i + 2 = zn (i + 2) := by rw [show (2 : Int32) = zn 2 from nL_2, zn_add]
  refine ⟨M2, W', al', ?_, r1, r2, r3, h2, l2, t2, t3, t4⟩
  rw [L_W_law_856, a1, a2, ia56 h (k := i + 1) (by omega) hL rfl, cond_true, ia56 h (k := i + 2) (by omega) hL rfl, cond_true, zn_N (show i + 1 < 2147483648 by omega), zn_N (show i + 2 < 2147483648 by omega), e1, z_bI_some, ia56 h1 (k := i + 1) (by omega) hL rfl, cond_true, ia56 h1 (k := i + 2) (by omega) hL rfl, cond_true, s1 (i + 1), s1 (i + 2)]
  have e2 : z_den zQ (d + 60) mQ_chest [.ref 15, .int (zI M 56 (i + 1)), .int (zI M 56 (i + 2))] M1 = _ := e2
  rw [e2, z_bI_some, z_eq_T, cond_true, c1990]
theorem K_place (d : Nat) {L i : Nat} {W : zW} {al : Nat → Nat} {M : zM} (hL : L ≤ 4096) (hi : i + 8 ≤ L) (h : z_hd zQ M 56 = some (20, L)) (hC : SC W al M) (hR : SR W M) (hw : SW W) : cGo d L i W M (z_denF zQ (d + 60 + 1) mW_law (889, [some (.ref 56), some (.ref 1), some (.ref 15), some (.int (zn i))], [], M)) := by
  obtain ⟨v, M1, M2, W', al', ⟨x, rfl⟩, e1, e2, r1, r2, r3, s1, s2, ⟨l1, t1⟩, l2, t2, t3, t4⟩ := S_place d hC hR hw (zI M 56 (i + 1)) (zI M 56 (i + 2)) (zI M 56 (i + 3))
  have h1 : z_hd zQ M1 56 = some (20, L) := by rw [z_hd_app t1 (sc_lt hC)]; exact h
  have h2 : z_hd zQ M2 56 = some (20, L) := by rw [z_hd_app t2 (sc_lt hC)]; exact h
  have a1 : zn i + 1 = zn (i + 1) := by rw [show (1 : Int32) = zn 1 from nL_1, zn_add]
  have a2 : zn i + 2 = zn (i + 2) := by rw [show (2 : Int32) = zn 2 from nL_2, zn_add]
  have a3 : zn i + 3 = zn (i + 3) := by rw [show (3 : Int32) = zn 3 from nL_3, zn_add]
  refine ⟨M2, W', al', ?_, r1, r2, r3, h2, l2, t2, t3, t4⟩
  rw [L_W_law_889, a1, a2, a3, ia56 h (k := i + 1) (by omega) hL rfl, cond_true, ia56 h (k := i + 2) (by omega) hL rfl, cond_true, ia56 h (k := i + 3) (by omega) hL rfl, cond_true, zn_N (show i + 1 < 2147483648 by omega), zn_N (show i + 2 < 2147483648 by omega), zn_N (show i + 3 < 2147483648 by omega), e1, z_bI_some, ia56 h1 (k := i + 1) (by omega) hL rfl, cond_true, ia56 h1 (k := i + 2) (by omega) hL rfl, cond_true, ia56 h1 (k := i + 3) (by omega) hL rfl, cond_true, s1 (i + 1), s1 (i + 2), s1 (i + 3)]
  have e2 : z_den zQ (d + 60) mQ_place [.ref 15, .int (zI M 56 (i + 1)), .int (zI M 56 (i + 2)), .int (zI M 56 (i + 3))] M1 = _ := e2
  rw [e2, z_bI_some, z_eq_T, cond_true, c1990]
theorem K_wire (d : Nat) {L i : Nat} {W : zW} {al : Nat → Nat} {M : zM} (hL : L ≤ 4096) (hi : i + 8 ≤ L) (h : z_hd zQ M 56 = some (20, L)) (hC : SC W al M) (hR : SR W M) (hw : SW W) : cGo d L i W M (z_denF zQ (d + 60 + 1) mW_law (932, [some (.ref 56), some (.ref 1), some (.ref 15), some (.int (zn i))], [], M)) := by
  obtain ⟨v, M1, M2, W', al', ⟨x, rfl⟩, e1, e2, r1, r2, r3, s1, s2, ⟨l1, t1⟩, l2, t2, t3, t4⟩ := S_wire d hC hR hw (zI M 56 (i + 1)) (zI M 56 (i + 2)) (zI M 56 (i + 3))
  have h1 : z_hd zQ M1 56 = some (20, L) := by rw [z_hd_app t1 (sc_lt hC)]; exact h
  have h2 : z_hd zQ M2 56 = some (20, L) := by rw [z_hd_app t2 (sc_lt hC)]; exact h
  have a1 : zn i + 1 = zn (i + 1) := by rw [show (1 : Int32) = zn 1 from nL_1, zn_add]
  have a2 : zn i + 2 = zn (i + 2) := by rw [show (2 : Int32) = zn 2 from nL_2, zn_add]
  have a3 : zn i + 3 = zn (i + 3) := by rw [show (3 : Int32) = zn 3 from nL_3, zn_add]
  refine ⟨M2, W', al', ?_, r1, r2, r3, h2, l2, t2, t3, t4⟩
  rw [L_W_law_932, a1, a2, a3, ia56 h (k := i + 1) (by omega) hL rfl, cond_true, ia56 h (k := i + 2) (by omega) hL rfl, cond_true, ia56 h (k := i + 3) (by omega) hL rfl, cond_true, zn_N (show i + 1 < 2147483648 by omega), zn_N (show i + 2 < 2147483648 by omega), zn_N (show i + 3 < 2147483648 by omega), e1, z_bI_some, ia56 h1 (k := i + 1) (by omega) hL rfl, cond_true, ia56 h1 (k := i + 2) (by omega) hL rfl, cond_true, ia56 h1 (k := i + 3) (by omega) hL rfl, cond_true, s1 (i + 1), s1 (i + 2), s1 (i + 3)]
  have e2 : z_den zQ (d + 60) mQ_wire [.ref 15, .int (zI M 56 (i + 1)), .int (zI M 56 (i + 2)), .int (zI M 56 (i + 3))] M1 = _ := e2
  rw [e2, z_bI_some, z_eq_T, cond_true, c1990]
theorem K_spoil (d : Nat) {L i : Nat} {W : zW} {al : Nat → Nat} {M : zM} (hL : L ≤ 4096) (hi : i + 8 ≤ L) (h : z_hd zQ M 56 = some (20, L)) (hC : SC W al M) (hR : SR W M) (hw : SW W) : cGo d L i W M (z_denF zQ (d + 60 + 1) mW_law (975, [some (.ref 56), some (.ref 1), some (.ref 15), some (.int (zn i))], [], M)) := by
  obtain ⟨v, M1, M2, W', al', ⟨x, rfl⟩, e1, e2, r1, r2, r3, s1, s2, ⟨l1, t1⟩, l2, t2, t3, t4⟩ := S_spoil d hC hR hw (zI M 56 (i + 1)) (zI M 56 (i + 2))
  have h1 : z_hd zQ M1 56 = some (20, L) := by rw [z_hd_app t1 (sc_lt hC)]; exact h
  have h2 : z_hd zQ M2 56 = some (20, L) := by rw [z_hd_app t2 (sc_lt hC)]; exact h
  have a1 : zn i + 1 = zn (i + 1) := by rw [show (1 : Int32) = zn 1 from nL_1, zn_add]
  have a2 : zn i + 2 = zn (i + 2) := by rw [show (2 : Int32) = zn 2 from nL_2, zn_add]
  refine ⟨M2, W', al', ?_, r1, r2, r3, h2, l2, t2, t3, t4⟩
  rw [L_W_law_975, a1, a2, ia56 h (k := i + 1) (by omega) hL rfl, cond_true, ia56 h (k := i + 2) (by omega) hL rfl, cond_true, zn_N (show i + 1 < 2147483648 by omega), zn_N (show i + 2 < 2147483648 by omega), e1, z_bI_some, ia56 h1 (k := i + 1) (by omega) hL rfl, cond_true, ia56 h1 (k := i + 2) (by omega) hL rfl, cond_true, s1 (i + 1), s1 (i + 2)]
  have e2 : z_den zQ (d + 60) mQ_spoil [.ref 15, .int (zI M 56 (i + 1)), .int (zI M 56 (i + 2))] M1 = _ := e2
  rw [e2, z_bI_some, z_eq_T, cond_true, c1990]
theorem K_tune (d : Nat) {L i : Nat} {W : zW} {al : Nat → Nat} {M : zM} (hL : L ≤ 4096) (hi : i + 8 ≤ L) (h : z_hd zQ M 56 = some (20, L)) (hC : SC W al M) (hR : SR W M) (hw : SW W) : cGo d L i W M (z_denF zQ (d + 60 + 1) mW_law (1008, [some (.ref 56), some (.ref 1), some (.ref 15), some (.int (zn i))], [], M)) := by
  obtain ⟨v, M1, M2, W', al', ⟨x, rfl⟩, e1, e2, r1, r2, r3, s1, s2, ⟨l1, t1⟩, l2, t2, t3, t4⟩ := S_tune d hC hR hw (zI M 56 (i + 1)) (zI M 56 (i + 2)) (zI M 56 (i + 3))
  have h1 : z_hd zQ M1 56 = some (20, L) := by rw [z_hd_app t1 (sc_lt hC)]; exact h
  have h2 : z_hd zQ M2 56 = some (20, L) := by rw [z_hd_app t2 (sc_lt hC)]; exact h
  have a1 : zn i + 1 = zn (i + 1) := by rw [show (1 : Int32) = zn 1 from nL_1, zn_add]
  have a2 : zn i + 2 = zn (i + 2) := by rw [show (2 : Int32) = zn 2 from nL_2, zn_add]
  have a3 : zn i + 3 = zn (i + 3) := by rw [show (3 : Int32) = zn 3 from nL_3, zn_add]
  refine ⟨M2, W', al', ?_, r1, r2, r3, h2, l2, t2, t3, t4⟩
  rw [L_W_law_1008, a1, a2, a3, ia56 h (k := i + 1) (by omega) hL rfl, cond_true, ia56 h (k := i + 2) (by omega) hL rfl, cond_true, ia56 h (k := i + 3) (by omega) hL rfl, cond_true, zn_N (show i + 1 < 2147483648 by omega), zn_N (show i + 2 < 2147483648 by omega), zn_N (show i + 3 < 2147483648 by omega), e1, z_bI_some, ia56 h1 (k := i + 1) (by omega) hL rfl, cond_true, ia56 h1 (k := i + 2) (by omega) hL rfl, cond_true, ia56 h1 (k := i + 3) (by omega) hL rfl, cond_true, s1 (i + 1), s1 (i + 2), s1 (i + 3)]
  have e2 : z_den zQ (d + 60) mQ_tune [.ref 15, .int (zI M 56 (i + 1)), .int (zI M 56 (i + 2)), .int (zI M 56 (i + 3))] M1 = _ := e2
  rw [e2, z_bI_some, z_eq_T, cond_true, c1990]
theorem K_base (d : Nat) {L i : Nat} {W : zW} {al : Nat → Nat} {M : zM} (hL : L ≤ 4096) (hi : i + 8 ≤ L) (h : z_hd zQ M 56 = some (20, L)) (hC : SC W al M) (hR : SR W M) (hw : SW W) : cGo d L i W M (z_denF zQ (d + 60 + 1) mW_law (1051, [some (.ref 56), some (.ref 1), some (.ref 15), some (.int (zn i))], [], M)) := by
  obtain ⟨v, M1, M2, W', al', ⟨x, rfl⟩, e1, e2, r1, r2, r3, s1, s2, ⟨l1, t1⟩, l2, t2, t3, t4⟩ := S_base d hC hR hw (zI M 56 (i + 1))
  have h1 : z_hd zQ M1 56 = some (20, L) := by rw [z_hd_app t1 (sc_lt hC)]; exact h
  have h2 : z_hd zQ M2 56 = some (20, L) := by rw [z_hd_app t2 (sc_lt hC)]; exact h
  have a1 : zn i + 1 = zn (i + 1) := by rw [show (1 : Int32) = zn 1 from nL_1, zn_add]
  refine ⟨M2, W', al', ?_, r1, r2, r3, h2, l2, t2, t3, t4⟩
  rw [L_W_law_1051, a1, ia56 h (k := i + 1) (by omega) hL rfl, cond_true, zn_N (show i + 1 < 2147483648 by omega), e1, z_bI_some, ia56 h1 (k := i + 1) (by omega) hL rfl, cond_true, s1 (i + 1)]
  have e2 : z_den zQ (d + 60) mQ_base [.ref 15, .int (zI M 56 (i + 1))] M1 = _ := e2
  rw [e2, z_bI_some, z_eq_T, cond_true, c1990]
theorem K_frequency (d : Nat) {L i : Nat} {W : zW} {al : Nat → Nat} {M : zM} (hL : L ≤ 4096) (hi : i + 8 ≤ L) (h : z_hd zQ M 56 = some (20, L)) (hC : SC W al M) (hR : SR W M) (hw : SW W) : cGo d L i W M (z_denF zQ (d + 60 + 1) mW_law (1074, [some (.ref 56), some (.ref 1), some (.ref 15), some (.int (zn i))], [], M)) := by
  obtain ⟨v, M1, M2, W', al', ⟨x, rfl⟩, e1, e2, r1, r2, r3, s1, s2, ⟨l1, t1⟩, l2, t2, t3, t4⟩ := S_frequency d hC hR hw (zI M 56 (i + 1))
  have h1 : z_hd zQ M1 56 = some (20, L) := by rw [z_hd_app t1 (sc_lt hC)]; exact h
  have h2 : z_hd zQ M2 56 = some (20, L) := by rw [z_hd_app t2 (sc_lt hC)]; exact h
  have a1 : zn i + 1 = zn (i + 1) := by rw [show (1 : Int32) = zn 1 from nL_1, zn_add]
  refine ⟨M2, W', al', ?_, r1, r2, r3, h2, l2, t2, t3, t4⟩
  rw [L_W_law_1074, a1, ia56 h (k := i + 1) (by omega) hL rfl, cond_true, zn_N (show i + 1 < 2147483648 by omega), e1, z_bJ_some, ia56 h1 (k := i + 1) (by omega) hL rfl, cond_true, s1 (i + 1)]
  have e2 : z_den zQ (d + 60) mQ_frequency [.ref 15, .int (zI M 56 (i + 1))] M1 = _ := e2
  rw [e2, z_bJ_some, lg_00, cond_true, c1990]
theorem K_mute (d : Nat) {L i : Nat} {W : zW} {al : Nat → Nat} {M : zM} (hL : L ≤ 4096) (hi : i + 8 ≤ L) (h : z_hd zQ M 56 = some (20, L)) (hC : SC W al M) (hR : SR W M) (hw : SW W) : cGo d L i W M (z_denF zQ (d + 60 + 1) mW_law (1098, [some (.ref 56), some (.ref 1), some (.ref 15), some (.int (zn i))], [], M)) := by
  obtain ⟨v, M1, M2, W', al', ⟨x, rfl⟩, e1, e2, r1, r2, r3, s1, s2, ⟨l1, t1⟩, l2, t2, t3, t4⟩ := S_mute d hC hR hw (zI M 56 (i + 1))
  have h1 : z_hd zQ M1 56 = some (20, L) := by rw [z_hd_app t1 (sc_lt hC)]; exact h
  have h2 : z_hd zQ M2 56 = some (20, L) := by rw [z_hd_app t2 (sc_lt hC)]; exact h
  have a1 : zn i + 1 = zn (i + 1) := by rw [show (1 : Int32) = zn 1 from nL_1, zn_add]
  refine ⟨M2, W', al', ?_, r1, r2, r3, h2, l2, t2, t3, t4⟩
  rw [L_W_law_1098, a1, ia56 h (k := i + 1) (by omega) hL rfl, cond_true, zn_N (show i + 1 < 2147483648 by omega), e1, z_bI_some, ia56 h1 (k := i + 1) (by omega) hL rfl, cond_true, s1 (i + 1)]
  have e2 : z_den zQ (d + 60) mQ_mute [.ref 15, .int (zI M 56 (i + 1))] M1 = _ := e2
  rw [e2, z_bI_some, z_eq_T, cond_true, c1990]
theorem K_higher (d : Nat) {L i : Nat} {W : zW} {al : Nat → Nat} {M : zM} (hL : L ≤ 4096) (hi : i + 8 ≤ L) (h : z_hd zQ M 56 = some (20, L)) (hC : SC W al M) (hR : SR W M) (hw : SW W) : cGo d L i W M (z_denF zQ (d + 60 + 1) mW_law (1121, [some (.ref 56), some (.ref 1), some (.ref 15), some (.int (zn i))], [], M)) := by
  obtain ⟨v, M1, M2, W', al', ⟨x, rfl⟩, e1, e2, r1, r2, r3, s1, s2, ⟨l1, t1⟩, l2, t2, t3, t4⟩ := S_higher d hC hR hw (zI M 56 (i + 1)) (zI M 56 (i + 2))
  have h1 : z_hd zQ M1 56 = some (20, L) := by rw [z_hd_app t1 (sc_lt hC)]; exact h
  have h2 : z_hd zQ M2 56 = some (20, L) := by rw [z_hd_app t2 (sc_lt hC)]; exact h
  have a1 : zn i + 1 = zn (i + 1) := by rw [show (1 : Int32) = zn 1 from nL_1, zn_add]
  have a2 : zn i + 2 = zn (i + 2) := by rw [show (2 : Int32) = zn 2 from nL_2, zn_add]
  refine ⟨M2, W', al', ?_, r1, r2, r3, h2, l2, t2, t3, t4⟩
  rw [L_W_law_1121, a1, a2, ia56 h (k := i + 1) (by omega) hL rfl, cond_true, ia56 h (k := i + 2) (by omega) hL rfl, cond_true, zn_N (show i + 1 < 2147483648 by omega), zn_N (show i + 2 < 2147483648 by omega), e1, z_bI_some, ia56 h1 (k := i + 1) (by omega) hL rfl, cond_true, ia56 h1 (k := i + 2) (by omega) hL rfl, cond_true, s1 (i + 1), s1 (i + 2)]
  have e2 : z_den zQ (d + 60) mQ_higher [.ref 15, .int (zI M 56 (i + 1)), .int (zI M 56 (i + 2))] M1 = _ := e2
  rw [e2, z_bI_some, z_eq_T, cond_true, c1990]
theorem K_play (d : Nat) {L i : Nat} {W : zW} {al : Nat → Nat} {M : zM} (hL : L ≤ 4096) (hi : i + 8 ≤ L) (h : z_hd zQ M 56 = some (20, L)) (hC : SC W al M) (hR : SR W M) (hw : SW W) : cGo d L i W M (z_denF zQ (d + 60 + 1) mW_law (1154, [some (.ref 56), some (.ref 1), some (.ref 15), some (.int (zn i))], [], M)) := by
  obtain ⟨v, M1, M2, W', al', ⟨x, rfl⟩, e1, e2, r1, r2, r3, s1, s2, ⟨l1, t1⟩, l2, t2, t3, t4⟩ := S_play d hC hR hw (zI M 56 (i + 1))
  have h1 : z_hd zQ M1 56 = some (20, L) := by rw [z_hd_app t1 (sc_lt hC)]; exact h
  have h2 : z_hd zQ M2 56 = some (20, L) := by rw [z_hd_app t2 (sc_lt hC)]; exact h
  have a1 : zn i + 1 = zn (i + 1) := by rw [show (1 : Int32) = zn 1 from nL_1, zn_add]
  refine ⟨M2, W', al', ?_, r1, r2, r3, h2, l2, t2, t3, t4⟩
  rw [L_W_law_1154, a1, ia56 h (k := i + 1) (by omega) hL rfl, cond_true, zn_N (show i + 1 < 2147483648 by omega), e1, z_bI_some, ia56 h1 (k := i + 1) (by omega) hL rfl, cond_true, s1 (i + 1)]
  have e2 : z_den zQ (d + 60) mQ_play [.ref 15, .int (zI M 56 (i + 1))] M1 = _ := e2
  rw [e2, z_bI_some, z_eq_T, cond_true, c1990]
theorem K_tick (d : Nat) {L i : Nat} {W : zW} {al : Nat → Nat} {M : zM} (hL : L ≤ 4096) (hi : i + 8 ≤ L) (h : z_hd zQ M 56 = some (20, L)) (hC : SC W al M) (hR : SR W M) (hw : SW W) : cGo d L i W M (z_denF zQ (d + 60 + 1) mW_law (1177, [some (.ref 56), some (.ref 1), some (.ref 15), some (.int (zn i))], [], M)) := by
  obtain ⟨v, M1, M2, W', al', ⟨x, rfl⟩, e1, e2, r1, r2, r3, s1, s2, ⟨l1, t1⟩, l2, t2, t3, t4⟩ := S_tick d hC hR hw (zI M 56 (i + 1))
  have h1 : z_hd zQ M1 56 = some (20, L) := by rw [z_hd_app t1 (sc_lt hC)]; exact h
  have h2 : z_hd zQ M2 56 = some (20, L) := by rw [z_hd_app t2 (sc_lt hC)]; exact h
  have a1 : zn i + 1 = zn (i + 1) := by rw [show (1 : Int32) = zn 1 from nL_1, zn_add]
  refine ⟨M2, W', al', ?_, r1, r2, r3, h2, l2, t2, t3, t4⟩
  rw [L_W_law_1177, a1, ia56 h (k := i + 1) (by omega) hL rfl, cond_true, zn_N (show i + 1 < 2147483648 by omega), e1, z_bI_some, ia56 h1 (k := i + 1) (by omega) hL rfl, cond_true, s1 (i + 1)]
  have e2 : z_den zQ (d + 60) mQ_tick [.ref 15, .int (zI M 56 (i + 1))] M1 = _ := e2
  rw [e2, z_bI_some, z_eq_T, cond_true, c1990]
theorem K_halt (d : Nat) {L i : Nat} {W : zW} {al : Nat → Nat} {M : zM} (hL : L ≤ 4096) (hi : i + 8 ≤ L) (h : z_hd zQ M 56 = some (20, L)) (hC : SC W al M) (hR : SR W M) (hw : SW W) : cGo d L i W M (z_denF zQ (d + 60 + 1) mW_law (1200, [some (.ref 56), some (.ref 1), some (.ref 15), some (.int (zn i))], [], M)) := by
  obtain ⟨v, M1, M2, W', al', ⟨x, rfl⟩, e1, e2, r1, r2, r3, s1, s2, ⟨l1, t1⟩, l2, t2, t3, t4⟩ := S_halt d hC hR hw
  have h1 : z_hd zQ M1 56 = some (20, L) := by rw [z_hd_app t1 (sc_lt hC)]; exact h
  have h2 : z_hd zQ M2 56 = some (20, L) := by rw [z_hd_app t2 (sc_lt hC)]; exact h
  refine ⟨M2, W', al', ?_, r1, r2, r3, h2, l2, t2, t3, t4⟩
  rw [L_W_law_1200, e1, z_bI_some]
  have e2 : z_den zQ (d + 60) mQ_halt [.ref 15] M1 = _ := e2
  rw [e2, z_bI_some, z_eq_T, cond_true, c1990]
theorem K_back (d : Nat) {L i : Nat} {W : zW} {al : Nat → Nat} {M : zM} (hL : L ≤ 4096) (hi : i + 8 ≤ L) (h : z_hd zQ M 56 = some (20, L)) (hC : SC W al M) (hR : SR W M) (hw : SW W) : cGo d L i W M (z_denF zQ (d + 60 + 1) mW_law (1213, [some (.ref 56), some (.ref 1), some (.ref 15), some (.int (zn i))], [], M)) := by
  obtain ⟨v, M1, M2, W', al', ⟨x, rfl⟩, e1, e2, r1, r2, r3, s1, s2, ⟨l1, t1⟩, l2, t2, t3, t4⟩ := S_back d hC hR hw (zI M 56 (i + 1))
  have h1 : z_hd zQ M1 56 = some (20, L) := by rw [z_hd_app t1 (sc_lt hC)]; exact h
  have h2 : z_hd zQ M2 56 = some (20, L) := by rw [z_hd_app t2 (sc_lt hC)]; exact h
  have a1 : zn i + 1 = zn (i + 1) := by rw [show (1 : Int32) = zn 1 from nL_1, zn_add]
  refine ⟨M2, W', al', ?_, r1, r2, r3, h2, l2, t2, t3, t4⟩
  rw [L_W_law_1213, a1, ia56 h (k := i + 1) (by omega) hL rfl, cond_true, zn_N (show i + 1 < 2147483648 by omega), e1, z_bI_some, ia56 h1 (k := i + 1) (by omega) hL rfl, cond_true, s1 (i + 1)]
  have e2 : z_den zQ (d + 60) mQ_back [.ref 15, .int (zI M 56 (i + 1))] M1 = _ := e2
  rw [e2, z_bI_some, z_eq_T, cond_true, c1990]
theorem K_open (d : Nat) {L i : Nat} {W : zW} {al : Nat → Nat} {M : zM} (hL : L ≤ 4096) (hi : i + 8 ≤ L) (h : z_hd zQ M 56 = some (20, L)) (hC : SC W al M) (hR : SR W M) (hw : SW W) : cGo d L i W M (z_denF zQ (d + 60 + 1) mW_law (1236, [some (.ref 56), some (.ref 1), some (.ref 15), some (.int (zn i))], [], M)) := by
  obtain ⟨v, M1, M2, W', al', ⟨x, rfl⟩, e1, e2, r1, r2, r3, s1, s2, ⟨l1, t1⟩, l2, t2, t3, t4⟩ := S_open d hC hR hw (zI M 56 (i + 1))
  have h1 : z_hd zQ M1 56 = some (20, L) := by rw [z_hd_app t1 (sc_lt hC)]; exact h
  have h2 : z_hd zQ M2 56 = some (20, L) := by rw [z_hd_app t2 (sc_lt hC)]; exact h
  have a1 : zn i + 1 = zn (i + 1) := by rw [show (1 : Int32) = zn 1 from nL_1, zn_add]
  refine ⟨M2, W', al', ?_, r1, r2, r3, h2, l2, t2, t3, t4⟩
  rw [L_W_law_1236, a1, ia56 h (k := i + 1) (by omega) hL rfl, cond_true, zn_N (show i + 1 < 2147483648 by omega), e1, z_bI_some, ia56 h1 (k := i + 1) (by omega) hL rfl, cond_true, s1 (i + 1)]
  have e2 : z_den zQ (d + 60) mQ_open [.ref 15, .int (zI M 56 (i + 1))] M1 = _ := e2
  rw [e2, z_bI_some, z_eq_T, cond_true, c1990]
theorem K_sounding (d : Nat) {L i : Nat} {W : zW} {al : Nat → Nat} {M : zM} (hL : L ≤ 4096) (hi : i + 8 ≤ L) (h : z_hd zQ M 56 = some (20, L)) (hC : SC W al M) (hR : SR W M) (hw : SW W) : cGo d L i W M (z_denF zQ (d + 60 + 1) mW_law (1259, [some (.ref 56), some (.ref 1), some (.ref 15), some (.int (zn i))], [], M)) := by
  obtain ⟨v, M1, M2, W', al', ⟨x, rfl⟩, e1, e2, r1, r2, r3, s1, s2, ⟨l1, t1⟩, l2, t2, t3, t4⟩ := S_sounding d hC hR hw (zI M 56 (i + 1)) (zI M 56 (i + 2))
  have h1 : z_hd zQ M1 56 = some (20, L) := by rw [z_hd_app t1 (sc_lt hC)]; exact h
  have h2 : z_hd zQ M2 56 = some (20, L) := by rw [z_hd_app t2 (sc_lt hC)]; exact h
  have a1 : zn i + 1 = zn (i + 1) := by rw [show (1 : Int32) = zn 1 from nL_1, zn_add]
  have a2 : zn i + 2 = zn (i + 2) := by rw [show (2 : Int32) = zn 2 from nL_2, zn_add]
  refine ⟨M2, W', al', ?_, r1, r2, r3, h2, l2, t2, t3, t4⟩
  rw [L_W_law_1259, a1, a2, ia56 h (k := i + 1) (by omega) hL rfl, cond_true, ia56 h (k := i + 2) (by omega) hL rfl, cond_true, zn_N (show i + 1 < 2147483648 by omega), zn_N (show i + 2 < 2147483648 by omega), e1, z_bI_some, ia56 h1 (k := i + 1) (by omega) hL rfl, cond_true, ia56 h1 (k := i + 2) (by omega) hL rfl, cond_true, s1 (i + 1), s1 (i + 2)]
  have e2 : z_den zQ (d + 60) mQ_sounding [.ref 15, .int (zI M 56 (i + 1)), .int (zI M 56 (i + 2))] M1 = _ := e2
  rw [e2, z_bI_some, z_eq_T, cond_true, c1990]
theorem K_loud (d : Nat) {L i : Nat} {W : zW} {al : Nat → Nat} {M : zM} (hL : L ≤ 4096) (hi : i + 8 ≤ L) (h : z_hd zQ M 56 = some (20, L)) (hC : SC W al M) (hR : SR W M) (hw : SW W) : cGo d L i W M (z_denF zQ (d + 60 + 1) mW_law (1292, [some (.ref 56), some (.ref 1), some (.ref 15), some (.int (zn i))], [], M)) := by
  obtain ⟨v, M1, M2, W', al', ⟨x, rfl⟩, e1, e2, r1, r2, r3, s1, s2, ⟨l1, t1⟩, l2, t2, t3, t4⟩ := S_loud d hC hR hw (zI M 56 (i + 1))
  have h1 : z_hd zQ M1 56 = some (20, L) := by rw [z_hd_app t1 (sc_lt hC)]; exact h
  have h2 : z_hd zQ M2 56 = some (20, L) := by rw [z_hd_app t2 (sc_lt hC)]; exact h
  have a1 : zn i + 1 = zn (i + 1) := by rw [show (1 : Int32) = zn 1 from nL_1, zn_add]
  refine ⟨M2, W', al', ?_, r1, r2, r3, h2, l2, t2, t3, t4⟩
  rw [L_W_law_1292, a1, ia56 h (k := i + 1) (by omega) hL rfl, cond_true, zn_N (show i + 1 < 2147483648 by omega), e1, z_bI_some, ia56 h1 (k := i + 1) (by omega) hL rfl, cond_true, s1 (i + 1)]
  have e2 : z_den zQ (d + 60) mQ_loud [.ref 15, .int (zI M 56 (i + 1))] M1 = _ := e2
  rw [e2, z_bI_some, z_eq_T, cond_true, c1990]
theorem K_level (d : Nat) {L i : Nat} {W : zW} {al : Nat → Nat} {M : zM} (hL : L ≤ 4096) (hi : i + 8 ≤ L) (h : z_hd zQ M 56 = some (20, L)) (hC : SC W al M) (hR : SR W M) (hw : SW W) : cGo d L i W M (z_denF zQ (d + 60 + 1) mW_law (1315, [some (.ref 56), some (.ref 1), some (.ref 15), some (.int (zn i))], [], M)) := by
  obtain ⟨v, M1, M2, W', al', ⟨x, rfl⟩, e1, e2, r1, r2, r3, s1, s2, ⟨l1, t1⟩, l2, t2, t3, t4⟩ := S_level d hC hR hw (zI M 56 (i + 1))
  have h1 : z_hd zQ M1 56 = some (20, L) := by rw [z_hd_app t1 (sc_lt hC)]; exact h
  have h2 : z_hd zQ M2 56 = some (20, L) := by rw [z_hd_app t2 (sc_lt hC)]; exact h
  have a1 : zn i + 1 = zn (i + 1) := by rw [show (1 : Int32) = zn 1 from nL_1, zn_add]
  refine ⟨M2, W', al', ?_, r1, r2, r3, h2, l2, t2, t3, t4⟩
  rw [L_W_law_1315, a1, ia56 h (k := i + 1) (by omega) hL rfl, cond_true, zn_N (show i + 1 < 2147483648 by omega), e1, z_bI_some, ia56 h1 (k := i + 1) (by omega) hL rfl, cond_true, s1 (i + 1)]
  have e2 : z_den zQ (d + 60) mQ_level [.ref 15, .int (zI M 56 (i + 1))] M1 = _ := e2
  rw [e2, z_bI_some, z_eq_T, cond_true, c1990]
theorem K_stop (d : Nat) {L i : Nat} {W : zW} {al : Nat → Nat} {M : zM} (hL : L ≤ 4096) (hi : i + 8 ≤ L) (h : z_hd zQ M 56 = some (20, L)) (hC : SC W al M) (hR : SR W M) (hw : SW W) : cGo d L i W M (z_denF zQ (d + 60 + 1) mW_law (1338, [some (.ref 56), some (.ref 1), some (.ref 15), some (.int (zn i))], [], M)) := by
  obtain ⟨v, M1, M2, W', al', ⟨x, rfl⟩, e1, e2, r1, r2, r3, s1, s2, ⟨l1, t1⟩, l2, t2, t3, t4⟩ := S_stop d hC hR hw (zI M 56 (i + 1))
  have h1 : z_hd zQ M1 56 = some (20, L) := by rw [z_hd_app t1 (sc_lt hC)]; exact h
  have h2 : z_hd zQ M2 56 = some (20, L) := by rw [z_hd_app t2 (sc_lt hC)]; exact h
  have a1 : zn i + 1 = zn (i + 1) := by rw [show (1 : Int32) = zn 1 from nL_1, zn_add]
  refine ⟨M2, W', al', ?_, r1, r2, r3, h2, l2, t2, t3, t4⟩
  rw [L_W_law_1338, a1, ia56 h (k := i + 1) (by omega) hL rfl, cond_true, zn_N (show i + 1 < 2147483648 by omega), e1, z_bI_some, ia56 h1 (k := i + 1) (by omega) hL rfl, cond_true, s1 (i + 1)]
  have e2 : z_den zQ (d + 60) mQ_stop [.ref 15, .int (zI M 56 (i + 1))] M1 = _ := e2
  rw [e2, z_bI_some, z_eq_T, cond_true, c1990]
theorem K_at (d : Nat) {L i : Nat} {W : zW} {al : Nat → Nat} {M : zM} (hL : L ≤ 4096) (hi : i + 8 ≤ L) (h : z_hd zQ M 56 = some (20, L)) (hC : SC W al M) (hR : SR W M) (hw : SW W) : cGo d L i W M (z_denF zQ (d + 60 + 1) mW_law (1361, [some (.ref 56), some (.ref 1), some (.ref 15), some (.int (zn i))], [], M)) := by
  obtain ⟨v, M1, M2, W', al', ⟨x, rfl⟩, e1, e2, r1, r2, r3, s1, s2, ⟨l1, t1⟩, l2, t2, t3, t4⟩ := S_at d hC hR hw (zI M 56 (i + 1))
  have h1 : z_hd zQ M1 56 = some (20, L) := by rw [z_hd_app t1 (sc_lt hC)]; exact h
  have h2 : z_hd zQ M2 56 = some (20, L) := by rw [z_hd_app t2 (sc_lt hC)]; exact h
  have a1 : zn i + 1 = zn (i + 1) := by rw [show (1 : Int32) = zn 1 from nL_1, zn_add]
  refine ⟨M2, W', al', ?_, r1, r2, r3, h2, l2, t2, t3, t4⟩
  rw [L_W_law_1361, a1, ia56 h (k := i + 1) (by omega) hL rfl, cond_true, zn_N (show i + 1 < 2147483648 by omega), e1, z_bI_some, ia56 h1 (k := i + 1) (by omega) hL rfl, cond_true, s1 (i + 1)]
  have e2 : z_den zQ (d + 60) mQ_at [.ref 15, .int (zI M 56 (i + 1))] M1 = _ := e2
  rw [e2, z_bI_some, z_eq_T, cond_true, c1990]
theorem K_times (d : Nat) {L i : Nat} {W : zW} {al : Nat → Nat} {M : zM} (hL : L ≤ 4096) (hi : i + 8 ≤ L) (h : z_hd zQ M 56 = some (20, L)) (hC : SC W al M) (hR : SR W M) (hw : SW W) : cGo d L i W M (z_denF zQ (d + 60 + 1) mW_law (1384, [some (.ref 56), some (.ref 1), some (.ref 15), some (.int (zn i))], [], M)) := by
  obtain ⟨v, M1, M2, W', al', ⟨x, rfl⟩, e1, e2, r1, r2, r3, s1, s2, ⟨l1, t1⟩, l2, t2, t3, t4⟩ := S_times d hC hR hw (zI M 56 (i + 1)) (zI M 56 (i + 2))
  have h1 : z_hd zQ M1 56 = some (20, L) := by rw [z_hd_app t1 (sc_lt hC)]; exact h
  have h2 : z_hd zQ M2 56 = some (20, L) := by rw [z_hd_app t2 (sc_lt hC)]; exact h
  have a1 : zn i + 1 = zn (i + 1) := by rw [show (1 : Int32) = zn 1 from nL_1, zn_add]
  have a2 : zn i + 2 = zn (i + 2) := by rw [show (2 : Int32) = zn 2 from nL_2, zn_add]
  refine ⟨M2, W', al', ?_, r1, r2, r3, h2, l2, t2, t3, t4⟩
  rw [L_W_law_1384, a1, a2, ia56 h (k := i + 1) (by omega) hL rfl, cond_true, ia56 h (k := i + 2) (by omega) hL rfl, cond_true, zn_N (show i + 1 < 2147483648 by omega), zn_N (show i + 2 < 2147483648 by omega), e1, z_bI_some, ia56 h1 (k := i + 1) (by omega) hL rfl, cond_true, ia56 h1 (k := i + 2) (by omega) hL rfl, cond_true, s1 (i + 1), s1 (i + 2)]
  have e2 : z_den zQ (d + 60) mQ_times [.ref 15, .int (zI M 56 (i + 1)), .int (zI M 56 (i + 2))] M1 = _ := e2
  rw [e2, z_bI_some, z_eq_T, cond_true, c1990]
theorem K_event (d : Nat) {L i : Nat} {W : zW} {al : Nat → Nat} {M : zM} (hL : L ≤ 4096) (hi : i + 8 ≤ L) (h : z_hd zQ M 56 = some (20, L)) (hC : SC W al M) (hR : SR W M) (hw : SW W) : cGo d L i W M (z_denF zQ (d + 60 + 1) mW_law (1417, [some (.ref 56), some (.ref 1), some (.ref 15), some (.int (zn i))], [], M)) := by
  obtain ⟨v, M1, M2, W', al', ⟨x, rfl⟩, e1, e2, r1, r2, r3, s1, s2, ⟨l1, t1⟩, l2, t2, t3, t4⟩ := S_event d hC hR hw (zI M 56 (i + 1)) (zI M 56 (i + 2))
  have h1 : z_hd zQ M1 56 = some (20, L) := by rw [z_hd_app t1 (sc_lt hC)]; exact h
  have h2 : z_hd zQ M2 56 = some (20, L) := by rw [z_hd_app t2 (sc_lt hC)]; exact h
  have a1 : zn i + 1 = zn (i + 1) := by rw [show (1 : Int32) = zn 1 from nL_1, zn_add]
  have a2 : zn i + 2 = zn (i + 2) := by rw [show (2 : Int32) = zn 2 from nL_2, zn_add]
  refine ⟨M2, W', al', ?_, r1, r2, r3, h2, l2, t2, t3, t4⟩
  rw [L_W_law_1417, a1, a2, ia56 h (k := i + 1) (by omega) hL rfl, cond_true, ia56 h (k := i + 2) (by omega) hL rfl, cond_true, zn_N (show i + 1 < 2147483648 by omega), zn_N (show i + 2 < 2147483648 by omega), e1, z_bI_some, ia56 h1 (k := i + 1) (by omega) hL rfl, cond_true, ia56 h1 (k := i + 2) (by omega) hL rfl, cond_true, s1 (i + 1), s1 (i + 2)]
  have e2 : z_den zQ (d + 60) mQ_event [.ref 15, .int (zI M 56 (i + 1)), .int (zI M 56 (i + 2))] M1 = _ := e2
  rw [e2, z_bI_some, z_eq_T, cond_true, c1990]
theorem K_cut (d : Nat) {L i : Nat} {W : zW} {al : Nat → Nat} {M : zM} (hL : L ≤ 4096) (hi : i + 8 ≤ L) (h : z_hd zQ M 56 = some (20, L)) (hC : SC W al M) (hR : SR W M) (hw : SW W) : cGo d L i W M (z_denF zQ (d + 60 + 1) mW_law (1450, [some (.ref 56), some (.ref 1), some (.ref 15), some (.int (zn i))], [], M)) := by
  obtain ⟨v, M1, M2, W', al', ⟨x, rfl⟩, e1, e2, r1, r2, r3, s1, s2, ⟨l1, t1⟩, l2, t2, t3, t4⟩ := S_cut d hC hR hw (zI M 56 (i + 1)) (zI M 56 (i + 2))
  have h1 : z_hd zQ M1 56 = some (20, L) := by rw [z_hd_app t1 (sc_lt hC)]; exact h
  have h2 : z_hd zQ M2 56 = some (20, L) := by rw [z_hd_app t2 (sc_lt hC)]; exact h
  have a1 : zn i + 1 = zn (i + 1) := by rw [show (1 : Int32) = zn 1 from nL_1, zn_add]
  have a2 : zn i + 2 = zn (i + 2) := by rw [show (2 : Int32) = zn 2 from nL_2, zn_add]
  refine ⟨M2, W', al', ?_, r1, r2, r3, h2, l2, t2, t3, t4⟩
  rw [L_W_law_1450, a1, a2, ia56 h (k := i + 1) (by omega) hL rfl, cond_true, ia56 h (k := i + 2) (by omega) hL rfl, cond_true, zn_N (show i + 1 < 2147483648 by omega), zn_N (show i + 2 < 2147483648 by omega), e1, z_bI_some, ia56 h1 (k := i + 1) (by omega) hL rfl, cond_true, ia56 h1 (k := i + 2) (by omega) hL rfl, cond_true, s1 (i + 1), s1 (i + 2)]
  have e2 : z_den zQ (d + 60) mQ_cut [.ref 15, .int (zI M 56 (i + 1)), .int (zI M 56 (i + 2))] M1 = _ := e2
  rw [e2, z_bI_some, z_eq_T, cond_true, c1990]
theorem K_join (d : Nat) {L i : Nat} {W : zW} {al : Nat → Nat} {M : zM} (hL : L ≤ 4096) (hi : i + 8 ≤ L) (h : z_hd zQ M 56 = some (20, L)) (hC : SC W al M) (hR : SR W M) (hw : SW W) : cGo d L i W M (z_denF zQ (d + 60 + 1) mW_law (1483, [some (.ref 56), some (.ref 1), some (.ref 15), some (.int (zn i))], [], M)) := by
  obtain ⟨v, M1, M2, W', al', ⟨x, rfl⟩, e1, e2, r1, r2, r3, s1, s2, ⟨l1, t1⟩, l2, t2, t3, t4⟩ := S_join d hC hR hw (zI M 56 (i + 1)) (zI M 56 (i + 2))
  have h1 : z_hd zQ M1 56 = some (20, L) := by rw [z_hd_app t1 (sc_lt hC)]; exact h
  have h2 : z_hd zQ M2 56 = some (20, L) := by rw [z_hd_app t2 (sc_lt hC)]; exact h
  have a1 : zn i + 1 = zn (i + 1) := by rw [show (1 : Int32) = zn 1 from nL_1, zn_add]
  have a2 : zn i + 2 = zn (i + 2) := by rw [show (2 : Int32) = zn 2 from nL_2, zn_add]
  refine ⟨M2, W', al', ?_, r1, r2, r3, h2, l2, t2, t3, t4⟩
  rw [L_W_law_1483, a1, a2, ia56 h (k := i + 1) (by omega) hL rfl, cond_true, ia56 h (k := i + 2) (by omega) hL rfl, cond_true, zn_N (show i + 1 < 2147483648 by omega), zn_N (show i + 2 < 2147483648 by omega), e1, z_bI_some, ia56 h1 (k := i + 1) (by omega) hL rfl, cond_true, ia56 h1 (k := i + 2) (by omega) hL rfl, cond_true, s1 (i + 1), s1 (i + 2)]
  have e2 : z_den zQ (d + 60) mQ_join [.ref 15, .int (zI M 56 (i + 1)), .int (zI M 56 (i + 2))] M1 = _ := e2
  rw [e2, z_bI_some, z_eq_T, cond_true, c1990]
theorem K_repeat (d : Nat) {L i : Nat} {W : zW} {al : Nat → Nat} {M : zM} (hL : L ≤ 4096) (hi : i + 8 ≤ L) (h : z_hd zQ M 56 = some (20, L)) (hC : SC W al M) (hR : SR W M) (hw : SW W) : cGo d L i W M (z_denF zQ (d + 60 + 1) mW_law (1516, [some (.ref 56), some (.ref 1), some (.ref 15), some (.int (zn i))], [], M)) := by
  obtain ⟨v, M1, M2, W', al', ⟨x, rfl⟩, e1, e2, r1, r2, r3, s1, s2, ⟨l1, t1⟩, l2, t2, t3, t4⟩ := S_repeat d hC hR hw (zI M 56 (i + 1)) (zI M 56 (i + 2)) (zI M 56 (i + 3))
  have h1 : z_hd zQ M1 56 = some (20, L) := by rw [z_hd_app t1 (sc_lt hC)]; exact h
  have h2 : z_hd zQ M2 56 = some (20, L) := by rw [z_hd_app t2 (sc_lt hC)]; exact h
  have a1 : zn i + 1 = zn (i + 1) := by rw [show (1 : Int32) = zn 1 from nL_1, zn_add]
  have a2 : zn i + 2 = zn (i + 2) := by rw [show (2 : Int32) = zn 2 from nL_2, zn_add]
  have a3 : zn i + 3 = zn (i + 3) := by rw [show (3 : Int32) = zn 3 from nL_3, zn_add]
  refine ⟨M2, W', al', ?_, r1, r2, r3, h2, l2, t2, t3, t4⟩
  rw [L_W_law_1516, a1, a2, a3, ia56 h (k := i + 1) (by omega) hL rfl, cond_true, ia56 h (k := i + 2) (by omega) hL rfl, cond_true, ia56 h (k := i + 3) (by omega) hL rfl, cond_true, zn_N (show i + 1 < 2147483648 by omega), zn_N (show i + 2 < 2147483648 by omega), zn_N (show i + 3 < 2147483648 by omega), e1, z_bI_some, ia56 h1 (k := i + 1) (by omega) hL rfl, cond_true, ia56 h1 (k := i + 2) (by omega) hL rfl, cond_true, ia56 h1 (k := i + 3) (by omega) hL rfl, cond_true, s1 (i + 1), s1 (i + 2), s1 (i + 3)]
  have e2 : z_den zQ (d + 60) mQ_repeat [.ref 15, .int (zI M 56 (i + 1)), .int (zI M 56 (i + 2)), .int (zI M 56 (i + 3))] M1 = _ := e2
  rw [e2, z_bI_some, z_eq_T, cond_true, c1990]
theorem K_move (d : Nat) {L i : Nat} {W : zW} {al : Nat → Nat} {M : zM} (hL : L ≤ 4096) (hi : i + 8 ≤ L) (h : z_hd zQ M 56 = some (20, L)) (hC : SC W al M) (hR : SR W M) (hw : SW W) : cGo d L i W M (z_denF zQ (d + 60 + 1) mW_law (1559, [some (.ref 56), some (.ref 1), some (.ref 15), some (.int (zn i))], [], M)) := by
  obtain ⟨v, M1, M2, W', al', ⟨x, rfl⟩, e1, e2, r1, r2, r3, s1, s2, ⟨l1, t1⟩, l2, t2, t3, t4⟩ := S_move d hC hR hw (zI M 56 (i + 1)) (zI M 56 (i + 2)) (zI M 56 (i + 3)) (zI M 56 (i + 4)) (zI M 56 (i + 5))
  have h1 : z_hd zQ M1 56 = some (20, L) := by rw [z_hd_app t1 (sc_lt hC)]; exact h
  have h2 : z_hd zQ M2 56 = some (20, L) := by rw [z_hd_app t2 (sc_lt hC)]; exact h
  have a1 : zn i + 1 = zn (i + 1) := by rw [show (1 : Int32) = zn 1 from nL_1, zn_add]
  have a2 : zn i + 2 = zn (i + 2) := by rw [show (2 : Int32) = zn 2 from nL_2, zn_add]
  have a3 : zn i + 3 = zn (i + 3) := by rw [show (3 : Int32) = zn 3 from nL_3, zn_add]
  have a4 : zn i + 4 = zn (i + 4) := by rw [show (4 : Int32) = zn 4 from nL_4, zn_add]
  have a5 : zn i + 5 = zn (i + 5) := by rw [show (5 : Int32) = zn 5 from nL_5, zn_add]
  refine ⟨M2, W', al', ?_, r1, r2, r3, h2, l2, t2, t3, t4⟩
  rw [L_W_law_1559, a1, a2, a3, a4, a5, ia56 h (k := i + 1) (by omega) hL rfl, cond_true, ia56 h (k := i + 2) (by omega) hL rfl, cond_true, ia56 h (k := i + 3) (by omega) hL rfl, cond_true, ia56 h (k := i + 4) (by omega) hL rfl, cond_true, ia56 h (k := i + 5) (by omega) hL rfl, cond_true, zn_N (show i + 1 < 2147483648 by omega), zn_N (show i + 2 < 2147483648 by omega), zn_N (show i + 3 < 2147483648 by omega), zn_N (show i + 4 < 2147483648 by omega), zn_N (show i + 5 < 2147483648 by omega), e1, z_bI_some, ia56 h1 (k := i + 1) (by omega) hL rfl, cond_true, ia56 h1 (k := i + 2) (by omega) hL rfl, cond_true, ia56 h1 (k := i + 3) (by omega) hL rfl, cond_true, ia56 h1 (k := i + 4) (by omega) hL rfl, cond_true, ia56 h1 (k := i + 5) (by omega) hL rfl, cond_true, s1 (i + 1), s1 (i + 2), s1 (i + 3), s1 (i + 4), s1 (i + 5)]
  have e2 : z_den zQ (d + 60) mQ_move [.ref 15, .int (zI M 56 (i + 1)), .int (zI M 56 (i + 2)), .int (zI M 56 (i + 3)), .int (zI M 56 (i + 4)), .int (zI M 56 (i + 5))] M1 = _ := e2
  rw [e2, z_bI_some, z_eq_T, cond_true, c1990]
theorem K_copy (d : Nat) {L i : Nat} {W : zW} {al : Nat → Nat} {M : zM} (hL : L ≤ 4096) (hi : i + 8 ≤ L) (h : z_hd zQ M 56 = some (20, L)) (hC : SC W al M) (hR : SR W M) (hw : SW W) : cGo d L i W M (z_denF zQ (d + 60 + 1) mW_law (1622, [some (.ref 56), some (.ref 1), some (.ref 15), some (.int (zn i))], [], M)) := by
  obtain ⟨v, M1, M2, W', al', ⟨x, rfl⟩, e1, e2, r1, r2, r3, s1, s2, ⟨l1, t1⟩, l2, t2, t3, t4⟩ := S_copy d hC hR hw (zI M 56 (i + 1)) (zI M 56 (i + 2)) (zI M 56 (i + 3)) (zI M 56 (i + 4)) (zI M 56 (i + 5)) (zI M 56 (i + 6)) (zI M 56 (i + 7))
  have h1 : z_hd zQ M1 56 = some (20, L) := by rw [z_hd_app t1 (sc_lt hC)]; exact h
  have h2 : z_hd zQ M2 56 = some (20, L) := by rw [z_hd_app t2 (sc_lt hC)]; exact h
  have a1 : zn i + 1 = zn (i + 1) := by rw [show (1 : Int32) = zn 1 from nL_1, zn_add]
  have a2 : zn i + 2 = zn (i + 2) := by rw [show (2 : Int32) = zn 2 from nL_2, zn_add]
  have a3 : zn i + 3 = zn (i + 3) := by rw [show (3 : Int32) = zn 3 from nL_3, zn_add]
  have a4 : zn i + 4 = zn (i + 4) := by rw [show (4 : Int32) = zn 4 from nL_4, zn_add]
  have a5 : zn i + 5 = zn (i + 5) := by rw [show (5 : Int32) = zn 5 from nL_5, zn_add]
  have a6 : zn i + 6 = zn (i + 6) := by rw [show (6 : Int32) = zn 6 from nL_6, zn_add]
  have a7 : zn i + 7 = zn (i + 7) := by rw [show (7 : Int32) = zn 7 from nL_7, zn_add]
  refine ⟨M2, W', al', ?_, r1, r2, r3, h2, l2, t2, t3, t4⟩
  rw [L_W_law_1622, a1, a2, a3, a4, a5, a6, a7, ia56 h (k := i + 1) (by omega) hL rfl, cond_true, ia56 h (k := i + 2) (by omega) hL rfl, cond_true, ia56 h (k := i + 3) (by omega) hL rfl, cond_true, ia56 h (k := i + 4) (by omega) hL rfl, cond_true, ia56 h (k := i + 5) (by omega) hL rfl, cond_true, ia56 h (k := i + 6) (by omega) hL rfl, cond_true, ia56 h (k := i + 7) (by omega) hL rfl, cond_true, zn_N (show i + 1 < 2147483648 by omega), zn_N (show i + 2 < 2147483648 by omega), zn_N (show i + 3 < 2147483648 by omega), zn_N (show i + 4 < 2147483648 by omega), zn_N (show i + 5 < 2147483648 by omega), zn_N (show i + 6 < 2147483648 by omega), zn_N (show i + 7 < 2147483648 by omega), e1, z_bI_some, ia56 h1 (k := i + 1) (by omega) hL rfl, cond_true, ia56 h1 (k := i + 2) (by omega) hL rfl, cond_true, ia56 h1 (k := i + 3) (by omega) hL rfl, cond_true, ia56 h1 (k := i + 4) (by omega) hL rfl, cond_true, ia56 h1 (k := i + 5) (by omega) hL rfl, cond_true, ia56 h1 (k := i + 6) (by omega) hL rfl, cond_true, ia56 h1 (k := i + 7) (by omega) hL rfl, cond_true, s1 (i + 1), s1 (i + 2), s1 (i + 3), s1 (i + 4), s1 (i + 5), s1 (i + 6), s1 (i + 7)]
  have e2 : z_den zQ (d + 60) mQ_copy [.ref 15, .int (zI M 56 (i + 1)), .int (zI M 56 (i + 2)), .int (zI M 56 (i + 3)), .int (zI M 56 (i + 4)), .int (zI M 56 (i + 5)), .int (zI M 56 (i + 6)), .int (zI M 56 (i + 7))] M1 = _ := e2
  rw [e2, z_bI_some, z_eq_T, cond_true, c1990]
theorem K_transpose (d : Nat) {L i : Nat} {W : zW} {al : Nat → Nat} {M : zM} (hL : L ≤ 4096) (hi : i + 8 ≤ L) (h : z_hd zQ M 56 = some (20, L)) (hC : SC W al M) (hR : SR W M) (hw : SW W) : cGo d L i W M (z_denF zQ (d + 60 + 1) mW_law (1709, [some (.ref 56), some (.ref 1), some (.ref 15), some (.int (zn i))], [], M)) := by
  obtain ⟨v, M1, M2, W', al', ⟨x, rfl⟩, e1, e2, r1, r2, r3, s1, s2, ⟨l1, t1⟩, l2, t2, t3, t4⟩ := S_transpose d hC hR hw (zI M 56 (i + 1)) (zI M 56 (i + 2)) (zI M 56 (i + 3))
  have h1 : z_hd zQ M1 56 = some (20, L) := by rw [z_hd_app t1 (sc_lt hC)]; exact h
  have h2 : z_hd zQ M2 56 = some (20, L) := by rw [z_hd_app t2 (sc_lt hC)]; exact h
  have a1 : zn i + 1 = zn (i + 1) := by rw [show (1 : Int32) = zn 1 from nL_1, zn_add]
  have a2 : zn i + 2 = zn (i + 2) := by rw [show (2 : Int32) = zn 2 from nL_2, zn_add]
  have a3 : zn i + 3 = zn (i + 3) := by rw [show (3 : Int32) = zn 3 from nL_3, zn_add]
  refine ⟨M2, W', al', ?_, r1, r2, r3, h2, l2, t2, t3, t4⟩
  rw [L_W_law_1709, a1, a2, a3, ia56 h (k := i + 1) (by omega) hL rfl, cond_true, ia56 h (k := i + 2) (by omega) hL rfl, cond_true, ia56 h (k := i + 3) (by omega) hL rfl, cond_true, zn_N (show i + 1 < 2147483648 by omega), zn_N (show i + 2 < 2147483648 by omega), zn_N (show i + 3 < 2147483648 by omega), e1, z_bI_some, ia56 h1 (k := i + 1) (by omega) hL rfl, cond_true, ia56 h1 (k := i + 2) (by omega) hL rfl, cond_true, ia56 h1 (k := i + 3) (by omega) hL rfl, cond_true, s1 (i + 1), s1 (i + 2), s1 (i + 3)]
  have e2 : z_den zQ (d + 60) mQ_transpose [.ref 15, .int (zI M 56 (i + 1)), .int (zI M 56 (i + 2)), .int (zI M 56 (i + 3))] M1 = _ := e2
  rw [e2, z_bI_some, z_eq_T, cond_true, c1990]
theorem K_fallen (d : Nat) {L i : Nat} {W : zW} {al : Nat → Nat} {M : zM} (hL : L ≤ 4096) (hi : i + 8 ≤ L) (h : z_hd zQ M 56 = some (20, L)) (hC : SC W al M) (hR : SR W M) (hw : SW W) : cGo d L i W M (z_denF zQ (d + 60 + 1) mW_law (1752, [some (.ref 56), some (.ref 1), some (.ref 15), some (.int (zn i))], [], M)) := by
  obtain ⟨v, M1, M2, W', al', ⟨x, rfl⟩, e1, e2, r1, r2, r3, s1, s2, ⟨l1, t1⟩, l2, t2, t3, t4⟩ := S_fallen d hC hR hw (zI M 56 (i + 1)) (zI M 56 (i + 2))
  have h1 : z_hd zQ M1 56 = some (20, L) := by rw [z_hd_app t1 (sc_lt hC)]; exact h
  have h2 : z_hd zQ M2 56 = some (20, L) := by rw [z_hd_app t2 (sc_lt hC)]; exact h
  have a1 : zn i + 1 = zn (i + 1) := by rw [show (1 : Int32) = zn 1 from nL_1, zn_add]
  have a2 : zn i + 2 = zn (i + 2) := by rw [show (2 : Int32) = zn 2 from nL_2, zn_add]
  refine ⟨M2, W', al', ?_, r1, r2, r3, h2, l2, t2, t3, t4⟩
  rw [L_W_law_1752, a1, a2, ia56 h (k := i + 1) (by omega) hL rfl, cond_true, ia56 h (k := i + 2) (by omega) hL rfl, cond_true, zn_N (show i + 1 < 2147483648 by omega), zn_N (show i + 2 < 2147483648 by omega), e1, z_bI_some, ia56 h1 (k := i + 1) (by omega) hL rfl, cond_true, ia56 h1 (k := i + 2) (by omega) hL rfl, cond_true, s1 (i + 1), s1 (i + 2)]
  have e2 : z_den zQ (d + 60) mQ_fallen [.ref 15, .int (zI M 56 (i + 1)), .int (zI M 56 (i + 2))] M1 = _ := e2
  rw [e2, z_bI_some, z_eq_T, cond_true, c1990]
theorem K_mend (d : Nat) {L i : Nat} {W : zW} {al : Nat → Nat} {M : zM} (hL : L ≤ 4096) (hi : i + 8 ≤ L) (h : z_hd zQ M 56 = some (20, L)) (hC : SC W al M) (hR : SR W M) (hw : SW W) : cGo d L i W M (z_denF zQ (d + 60 + 1) mW_law (1785, [some (.ref 56), some (.ref 1), some (.ref 15), some (.int (zn i))], [], M)) := by
  obtain ⟨v, M1, M2, W', al', ⟨x, rfl⟩, e1, e2, r1, r2, r3, s1, s2, ⟨l1, t1⟩, l2, t2, t3, t4⟩ := S_mend d hC hR hw (zI M 56 (i + 1)) (zI M 56 (i + 2)) (zI M 56 (i + 3))
  have h1 : z_hd zQ M1 56 = some (20, L) := by rw [z_hd_app t1 (sc_lt hC)]; exact h
  have h2 : z_hd zQ M2 56 = some (20, L) := by rw [z_hd_app t2 (sc_lt hC)]; exact h
  have a1 : zn i + 1 = zn (i + 1) := by rw [show (1 : Int32) = zn 1 from nL_1, zn_add]
  have a2 : zn i + 2 = zn (i + 2) := by rw [show (2 : Int32) = zn 2 from nL_2, zn_add]
  have a3 : zn i + 3 = zn (i + 3) := by rw [show (3 : Int32) = zn 3 from nL_3, zn_add]
  refine ⟨M2, W', al', ?_, r1, r2, r3, h2, l2, t2, t3, t4⟩
  rw [L_W_law_1785, a1, a2, a3, ia56 h (k := i + 1) (by omega) hL rfl, cond_true, ia56 h (k := i + 2) (by omega) hL rfl, cond_true, ia56 h (k := i + 3) (by omega) hL rfl, cond_true, zn_N (show i + 1 < 2147483648 by omega), zn_N (show i + 2 < 2147483648 by omega), zn_N (show i + 3 < 2147483648 by omega), e1, z_bI_some, ia56 h1 (k := i + 1) (by omega) hL rfl, cond_true, ia56 h1 (k := i + 2) (by omega) hL rfl, cond_true, ia56 h1 (k := i + 3) (by omega) hL rfl, cond_true, s1 (i + 1), s1 (i + 2), s1 (i + 3)]
  have e2 : z_den zQ (d + 60) mQ_mend [.ref 15, .int (zI M 56 (i + 1)), .int (zI M 56 (i + 2)), .int (zI M 56 (i + 3))] M1 = _ := e2
  rw [e2, z_bI_some, z_eq_T, cond_true, c1990]
theorem K_equal (d : Nat) {L i : Nat} {W : zW} {al : Nat → Nat} {M : zM} (hL : L ≤ 4096) (hi : i + 8 ≤ L) (h : z_hd zQ M 56 = some (20, L)) (hC : SC W al M) (hR : SR W M) (hw : SW W) : cGo d L i W M (z_denF zQ (d + 60 + 1) mW_law (1828, [some (.ref 56), some (.ref 1), some (.ref 15), some (.int (zn i))], [], M)) := by
  obtain ⟨v, M1, M2, W', al', ⟨x, rfl⟩, e1, e2, r1, r2, r3, s1, s2, ⟨l1, t1⟩, l2, t2, t3, t4⟩ := S_equal d hC hR hw (zI M 56 (i + 1)) (zI M 56 (i + 2))
  have h1 : z_hd zQ M1 56 = some (20, L) := by rw [z_hd_app t1 (sc_lt hC)]; exact h
  have h2 : z_hd zQ M2 56 = some (20, L) := by rw [z_hd_app t2 (sc_lt hC)]; exact h
  have a1 : zn i + 1 = zn (i + 1) := by rw [show (1 : Int32) = zn 1 from nL_1, zn_add]
  have a2 : zn i + 2 = zn (i + 2) := by rw [show (2 : Int32) = zn 2 from nL_2, zn_add]
  refine ⟨M2, W', al', ?_, r1, r2, r3, h2, l2, t2, t3, t4⟩
  rw [L_W_law_1828, a1, a2, ia56 h (k := i + 1) (by omega) hL rfl, cond_true, ia56 h (k := i + 2) (by omega) hL rfl, cond_true, zn_N (show i + 1 < 2147483648 by omega), zn_N (show i + 2 < 2147483648 by omega), e1, z_bI_some, ia56 h1 (k := i + 1) (by omega) hL rfl, cond_true, ia56 h1 (k := i + 2) (by omega) hL rfl, cond_true, s1 (i + 1), s1 (i + 2)]
  have e2 : z_den zQ (d + 60) mQ_equal [.ref 15, .int (zI M 56 (i + 1)), .int (zI M 56 (i + 2))] M1 = _ := e2
  rw [e2, z_bI_some, z_eq_T, cond_true, c1990]
theorem K_digest (d : Nat) {L i : Nat} {W : zW} {al : Nat → Nat} {M : zM} (hL : L ≤ 4096) (hi : i + 8 ≤ L) (h : z_hd zQ M 56 = some (20, L)) (hC : SC W al M) (hR : SR W M) (hw : SW W) : cGo d L i W M (z_denF zQ (d + 60 + 1) mW_law (1861, [some (.ref 56), some (.ref 1), some (.ref 15), some (.int (zn i))], [], M)) := by
  obtain ⟨v, M1, M2, W', al', ⟨x, rfl⟩, e1, e2, r1, r2, r3, s1, s2, ⟨l1, t1⟩, l2, t2, t3, t4⟩ := S_digest d hC hR hw (zI M 56 (i + 1))
  have h1 : z_hd zQ M1 56 = some (20, L) := by rw [z_hd_app t1 (sc_lt hC)]; exact h
  have h2 : z_hd zQ M2 56 = some (20, L) := by rw [z_hd_app t2 (sc_lt hC)]; exact h
  have a1 : zn i + 1 = zn (i + 1) := by rw [show (1 : Int32) = zn 1 from nL_1, zn_add]
  refine ⟨M2, W', al', ?_, r1, r2, r3, h2, l2, t2, t3, t4⟩
  rw [L_W_law_1861, a1, ia56 h (k := i + 1) (by omega) hL rfl, cond_true, zn_N (show i + 1 < 2147483648 by omega), e1, z_bJ_some, ia56 h1 (k := i + 1) (by omega) hL rfl, cond_true, s1 (i + 1)]
  have e2 : z_den zQ (d + 60) mQ_digest [.ref 15, .int (zI M 56 (i + 1))] M1 = _ := e2
  rw [e2, z_bJ_some, lg_00, cond_true, c1990]
theorem K_count (d : Nat) {L i : Nat} {W : zW} {al : Nat → Nat} {M : zM} (hL : L ≤ 4096) (hi : i + 8 ≤ L) (h : z_hd zQ M 56 = some (20, L)) (hC : SC W al M) (hR : SR W M) (hw : SW W) : cGo d L i W M (z_denF zQ (d + 60 + 1) mW_law (1885, [some (.ref 56), some (.ref 1), some (.ref 15), some (.int (zn i))], [], M)) := by
  obtain ⟨v, M1, M2, W', al', ⟨x, rfl⟩, e1, e2, r1, r2, r3, s1, s2, ⟨l1, t1⟩, l2, t2, t3, t4⟩ := S_count d hC hR hw (zI M 56 (i + 1))
  have h1 : z_hd zQ M1 56 = some (20, L) := by rw [z_hd_app t1 (sc_lt hC)]; exact h
  have h2 : z_hd zQ M2 56 = some (20, L) := by rw [z_hd_app t2 (sc_lt hC)]; exact h
  have a1 : zn i + 1 = zn (i + 1) := by rw [show (1 : Int32) = zn 1 from nL_1, zn_add]
  refine ⟨M2, W', al', ?_, r1, r2, r3, h2, l2, t2, t3, t4⟩
  rw [L_W_law_1885, a1, ia56 h (k := i + 1) (by omega) hL rfl, cond_true, zn_N (show i + 1 < 2147483648 by omega), e1, z_bI_some, ia56 h1 (k := i + 1) (by omega) hL rfl, cond_true, s1 (i + 1)]
  have e2 : z_den zQ (d + 60) mQ_count [.ref 15, .int (zI M 56 (i + 1))] M1 = _ := e2
  rw [e2, z_bI_some, z_eq_T, cond_true, c1990]
theorem K_strips (d : Nat) {L i : Nat} {W : zW} {al : Nat → Nat} {M : zM} (hL : L ≤ 4096) (hi : i + 8 ≤ L) (h : z_hd zQ M 56 = some (20, L)) (hC : SC W al M) (hR : SR W M) (hw : SW W) : cGo d L i W M (z_denF zQ (d + 60 + 1) mW_law (1908, [some (.ref 56), some (.ref 1), some (.ref 15), some (.int (zn i))], [], M)) := by
  obtain ⟨v, M1, M2, W', al', ⟨x, rfl⟩, e1, e2, r1, r2, r3, s1, s2, ⟨l1, t1⟩, l2, t2, t3, t4⟩ := S_strips d hC hR hw (zI M 56 (i + 1))
  have h1 : z_hd zQ M1 56 = some (20, L) := by rw [z_hd_app t1 (sc_lt hC)]; exact h
  have h2 : z_hd zQ M2 56 = some (20, L) := by rw [z_hd_app t2 (sc_lt hC)]; exact h
  have a1 : zn i + 1 = zn (i + 1) := by rw [show (1 : Int32) = zn 1 from nL_1, zn_add]
  refine ⟨M2, W', al', ?_, r1, r2, r3, h2, l2, t2, t3, t4⟩
  rw [L_W_law_1908, a1, ia56 h (k := i + 1) (by omega) hL rfl, cond_true, zn_N (show i + 1 < 2147483648 by omega), e1, z_bI_some, ia56 h1 (k := i + 1) (by omega) hL rfl, cond_true, s1 (i + 1)]
  have e2 : z_den zQ (d + 60) mQ_strips [.ref 15, .int (zI M 56 (i + 1))] M1 = _ := e2
  rw [e2, z_bI_some, z_eq_T, cond_true, c1990]
theorem K_members (d : Nat) {L i : Nat} {W : zW} {al : Nat → Nat} {M : zM} (hL : L ≤ 4096) (hi : i + 8 ≤ L) (h : z_hd zQ M 56 = some (20, L)) (hC : SC W al M) (hR : SR W M) (hw : SW W) : cGo d L i W M (z_denF zQ (d + 60 + 1) mW_law (1931, [some (.ref 56), some (.ref 1), some (.ref 15), some (.int (zn i))], [], M)) := by
  obtain ⟨v, M1, M2, W', al', ⟨x, rfl⟩, e1, e2, r1, r2, r3, s1, s2, ⟨l1, t1⟩, l2, t2, t3, t4⟩ := S_members d hC hR hw (zI M 56 (i + 1))
  have h1 : z_hd zQ M1 56 = some (20, L) := by rw [z_hd_app t1 (sc_lt hC)]; exact h
  have h2 : z_hd zQ M2 56 = some (20, L) := by rw [z_hd_app t2 (sc_lt hC)]; exact h
  have a1 : zn i + 1 = zn (i + 1) := by rw [show (1 : Int32) = zn 1 from nL_1, zn_add]
  refine ⟨M2, W', al', ?_, r1, r2, r3, h2, l2, t2, t3, t4⟩
  rw [L_W_law_1931, a1, ia56 h (k := i + 1) (by omega) hL rfl, cond_true, zn_N (show i + 1 < 2147483648 by omega), e1, z_bI_some, ia56 h1 (k := i + 1) (by omega) hL rfl, cond_true, s1 (i + 1)]
  have e2 : z_den zQ (d + 60) mQ_members [.ref 15, .int (zI M 56 (i + 1))] M1 = _ := e2
  rw [e2, z_bI_some, z_eq_T, cond_true, c1990]
theorem K_trace (d : Nat) {L i : Nat} {W : zW} {al : Nat → Nat} {M : zM} (hL : L ≤ 4096) (hi : i + 8 ≤ L) (h : z_hd zQ M 56 = some (20, L)) (hC : SC W al M) (hR : SR W M) (hw : SW W) : cGo d L i W M (z_denF zQ (d + 60 + 1) mW_law (1954, [some (.ref 56), some (.ref 1), some (.ref 15), some (.int (zn i))], [], M)) := by
  obtain ⟨v, M1, M2, W', al', ⟨x, rfl⟩, e1, e2, r1, r2, r3, s1, s2, ⟨l1, t1⟩, l2, t2, t3, t4⟩ := S_trace d hC hR hw (zI M 56 (i + 1))
  have h1 : z_hd zQ M1 56 = some (20, L) := by rw [z_hd_app t1 (sc_lt hC)]; exact h
  have h2 : z_hd zQ M2 56 = some (20, L) := by rw [z_hd_app t2 (sc_lt hC)]; exact h
  have a1 : zn i + 1 = zn (i + 1) := by rw [show (1 : Int32) = zn 1 from nL_1, zn_add]
  refine ⟨M2, W', al', ?_, r1, r2, r3, h2, l2, t2, t3, t4⟩
  rw [L_W_law_1954, a1, ia56 h (k := i + 1) (by omega) hL rfl, cond_true, zn_N (show i + 1 < 2147483648 by omega), e1, z_bI_some, ia56 h1 (k := i + 1) (by omega) hL rfl, cond_true, s1 (i + 1)]
  have e2 : z_den zQ (d + 60) mQ_trace [.ref 15, .int (zI M 56 (i + 1))] M1 = _ := e2
  rw [e2, z_bI_some, z_eq_T, cond_true, c1990]
theorem K_status (d : Nat) {L i : Nat} {W : zW} {al : Nat → Nat} {M : zM} (hL : L ≤ 4096) (hi : i + 8 ≤ L) (h : z_hd zQ M 56 = some (20, L)) (hC : SC W al M) (hR : SR W M) (hw : SW W) : cGo d L i W M (z_denF zQ (d + 60 + 1) mW_law (1977, [some (.ref 56), some (.ref 1), some (.ref 15), some (.int (zn i))], [], M)) := by
  obtain ⟨v, M1, M2, W', al', ⟨x, rfl⟩, e1, e2, r1, r2, r3, s1, s2, ⟨l1, t1⟩, l2, t2, t3, t4⟩ := S_status d hC hR hw
  have h1 : z_hd zQ M1 56 = some (20, L) := by rw [z_hd_app t1 (sc_lt hC)]; exact h
  have h2 : z_hd zQ M2 56 = some (20, L) := by rw [z_hd_app t2 (sc_lt hC)]; exact h
  refine ⟨M2, W', al', ?_, r1, r2, r3, h2, l2, t2, t3, t4⟩
  rw [L_W_law_1977, e1, z_bI_some]
  have e2 : z_den zQ (d + 60) mQ_status [.ref 15] M1 = _ := e2
  rw [e2, z_bI_some, z_eq_T, cond_true, c1990]
