/-! S LEVEL, acts: byteOf, read, told, sum, head. -/
theorem E_Q_asks_no (d : Nat) {G : zG} {B : zM} {x y : Int32} (h : rG G B) (w : wG G) (g : ¬ sOk G x y) : z_den zQ (d + 4) mQ_asks [.ref 15, .int x, .int y] B = some (some (.int (-1)), z_wI B 15 0 (-1)) := by
  rw [B_Q_asks, E_Q_isStrip_no d h w g, z_bI_some, nL_0, z_ne_F, cond_false, B_Q_no]
  rfl
theorem E_Q_asks_lost (d : Nat) {G : zG} {B : zM} {x y : Int32} (h : rG G B) (w : wG G) (g : sOk G x y) (g3 : tL (sA G x y) = true) : z_den zQ (d + 4) mQ_asks [.ref 15, .int x, .int y] B = some (some (.int ((-10) - zn 1)), z_wI B 15 0 (zn 1)) := by
  obtain ⟨h1, h2, h3, h4⟩ := rG_at h w g
  rw [B_Q_asks, E_Q_isStrip_ok d h w g, z_bI_some, nL_0, z_ne_T (by omega) (by omega) (by omega), cond_true, E_Q_poolOf _ h w g, z_bI_some, z_ix_T (by omega) (by omega), cond_true, zn_N (by omega), h3.2.2.2.1, pl_T g3, cond_false, B_Q_finds, nL_1]
  rfl
theorem E_Q_asks_ok (d : Nat) {G : zG} {B : zM} {x y : Int32} (h : rG G B) (w : wG G) (g : sOk G x y) (g3 : ¬ tL (sA G x y) = true) : z_den zQ (d + 4) mQ_asks [.ref 15, .int x, .int y] B = some (some (.int (zn 0)), z_wI B 15 0 (zn 0)) := by
  obtain ⟨h1, h2, h3, h4⟩ := rG_at h w g
  rw [B_Q_asks, E_Q_isStrip_ok d h w g, z_bI_some, nL_0, z_ne_T (by omega) (by omega) (by omega), cond_true, E_Q_poolOf _ h w g, z_bI_some, z_ix_T (by omega) (by omega), cond_true, zn_N (by omega), h3.2.2.2.1, pl_F g3, cond_true, B_Q_well, nL_0]
  rfl
noncomputable def oByteOf (G : zG) (x y i : Int32) : Int32 × Int32 × zG := pif (sOk G x y) (if tL (sA G x y) = true then ((-10) - zn 1, zn 1, G) else pif (0 ≤ i.toInt ∧ i.toInt < tZ (sA G x y)) (tY (sA G x y) i.toNatClampNeg &&& zn 255, zn 0, G) ((-10) - zn 2, zn 2, G)) (-1, -1, G)
theorem P_byteOf (d : Nat) {G : zG} {al : Nat → Nat} {A : zM} {x y i : Int32} (h : cG G al A) (w : wG G) : cRes 0 0 A (oByteOf G x y i) (z_den zQ (d + 4) mP_byteOf [.ref 1, .int x, .int y, .int i] A) := by
  unfold oByteOf
  by_cases g : sOk G x y
  · obtain ⟨p1, p2, p3, p4, c, p5, p6⟩ := cG_at h w g
    have n0 := hd_n0 p2.1 (by decide)
    rw [pif_T g, B_P_byteOf, E_P_stripAt_ok _ h w g]
    by_cases g3 : tL (sA G x y) = true
    · rw [if_pos g3]
      simp (disch := omega) only [z_bV_some, z_bI_some, z_bJ_some, z_bD_some, z_bR_some, cond_true, cond_false, Bool.and_true, Bool.true_and, Bool.not_false, Bool.not_true, Bool.and_self, Bool.or_true, Bool.false_or, Bool.true_or, zn_ok, zn_ok0, zn_N, zn_add, zn_mul, zn_sub, z_lt_T, z_lt_F, z_le_T, z_le_F, z_eq_T, z_ne_F, z_eq_F, z_ne_T, z_ix_T, z_lt_m, z_le_m, z_lt_m2, z_le_m2, z_eq_m, z_ne_m, zn_div, z_a31, zn_shl, zn_shr, z_bq_T, z_bq_F, z_bl_T, nL_0, nL_1, B_P_found, c9 p2.1, p2.2.2.2.2.2.2.1, pl_T g3]
      exact cRes_st h _ _
    rw [if_neg g3]
    have hZ := tZ_le p3
    have k5 := p2.2.2.2.2.2.1
    rcases zn_cases i with hi | ⟨j, hj, rfl⟩
    · rw [pif_F (fun q => by omega)]
      simp (disch := omega) only [z_bV_some, z_bI_some, z_bJ_some, z_bD_some, z_bR_some, cond_true, cond_false, Bool.and_true, Bool.true_and, Bool.not_false, Bool.not_true, Bool.and_self, Bool.or_true, Bool.false_or, Bool.true_or, zn_ok, zn_ok0, zn_N, zn_add, zn_mul, zn_sub, z_lt_T, z_lt_F, z_le_T, z_le_F, z_eq_T, z_ne_F, z_eq_F, z_ne_T, z_ix_T, z_lt_m, z_le_m, z_lt_m2, z_le_m2, z_eq_m, z_ne_m, zn_div, z_a31, zn_shl, zn_shr, z_bq_T, z_bq_F, z_bl_T, nL_0, nL_2, c9 p2.1, p2.2.2.2.2.2.2.1, pl_F g3, B_P_found]
      exact cRes_st h _ _
    by_cases g4 : tZ (sA G x y) ≤ j
    · rw [pif_F (fun q => by rw [zn_toInt hj] at q; omega)]
      simp (disch := omega) only [z_bV_some, z_bI_some, z_bJ_some, z_bD_some, z_bR_some, cond_true, cond_false, Bool.and_true, Bool.true_and, Bool.not_false, Bool.not_true, Bool.and_self, Bool.or_true, Bool.false_or, Bool.true_or, zn_ok, zn_ok0, zn_N, zn_add, zn_mul, zn_sub, z_lt_T, z_lt_F, z_le_T, z_le_F, z_eq_T, z_ne_F, z_eq_F, z_ne_T, z_ix_T, z_lt_m, z_le_m, z_lt_m2, z_le_m2, z_eq_m, z_ne_m, zn_div, z_a31, zn_shl, zn_shr, z_bq_T, z_bq_F, z_bl_T, nL_0, nL_2, c9 p2.1, p2.2.2.2.2.2.2.1, pl_F g3, B_P_found, k5]
      exact cRes_st h _ _
    rw [pif_T (by rw [zn_toInt hj]; omega), zn_N hj]
    obtain ⟨c', e12, hc1, hc2, hc3⟩ := p2.2.2.2.2.2.2.2.1
    have hb := p2.2.2.2.2.2.2.2.2 j (by omega)
    simp (disch := omega) only [z_bV_some, z_bI_some, z_bJ_some, z_bD_some, z_bR_some, cond_true, cond_false, Bool.and_true, Bool.true_and, Bool.not_false, Bool.not_true, Bool.and_self, Bool.or_true, Bool.false_or, Bool.true_or, zn_ok, zn_ok0, zn_N, zn_add, zn_mul, zn_sub, z_lt_T, z_lt_F, z_le_T, z_le_F, z_eq_T, z_ne_F, z_eq_F, z_ne_T, z_ix_T, z_lt_m, z_le_m, z_lt_m2, z_le_m2, z_eq_m, z_ne_m, zn_div, z_a31, zn_shl, zn_shr, z_bq_T, z_bq_F, z_bl_T, nL_0, nL_255, c9 p2.1, p2.2.2.2.2.2.2.1, pl_F g3, k5, z_ia_of e12, hb, B_P_done]
    exact cRes_st h _ _
  · rw [pif_F g, B_P_byteOf, E_P_stripAt_no _ h w g]
    simp (disch := omega) only [z_bV_some, z_bI_some, z_bJ_some, z_bD_some, z_bR_some, cond_true, cond_false, Bool.and_true, Bool.true_and, Bool.not_false, Bool.not_true, Bool.and_self, Bool.or_true, Bool.false_or, Bool.true_or, zn_ok, zn_ok0, zn_N, zn_add, zn_mul, zn_sub, z_lt_T, z_lt_F, z_le_T, z_le_F, z_eq_T, z_ne_F, z_eq_F, z_ne_T, z_ix_T, z_lt_m, z_le_m, z_lt_m2, z_le_m2, z_eq_m, z_ne_m, zn_div, z_a31, zn_shl, zn_shr, z_bq_T, z_bq_F, z_bl_T, B_P_refuse]
    exact cRes_st h _ _
theorem Q_byteOf (d : Nat) {G : zG} {B : zM} {x y i : Int32} (h : rG G B) (w : wG G) : rRes B (oByteOf G x y i) (z_den zQ (d + 5) mQ_byteOf [.ref 15, .int x, .int y, .int i] B) := by
  unfold oByteOf
  by_cases g : sOk G x y
  · obtain ⟨p1, p2, p3, p4⟩ := rG_at h w g
    rw [pif_T g, B_Q_byteOf]
    by_cases g3 : tL (sA G x y) = true
    · rw [if_pos g3, E_Q_asks_lost d h w g g3]
      simp (disch := omega) only [z_bI_some, nL_0, neg_11, cond_false]
      exact rRes_st h _ _
    rw [if_neg g3, E_Q_asks_ok d h w g g3]
    have h1 := rG_st h (zn 0)
    have hZ := tZ_le p4
    have r1 := rT_wI (a := 15) (k := 0) (v := zn 0) p3 (by unfold inR; omega)
    have hpo := E_Q_poolOf (d + 3) h1 w g
    have ebo := E_Q_bytesOf (d + 2) _ _ _ p2 r1 p4
    by_cases g4 : 0 ≤ i.toInt ∧ i.toInt < tZ (sA G x y)
    · rw [pif_T g4]
      obtain ⟨j, hj, rfl⟩ := zn_ex g4.1
      rw [zn_toInt hj] at g4
      rw [zn_N hj]
      have ew := Q_in_T (d := d + 3) (x := zn j) (n := tZ (sA G x y)) (M := z_wI B 15 0 (zn 0)) (by omega) (by rw [zn_toInt hj]; exact g4)
      have hd : tZ (sA G x y) = tH (sA G x y) + tS (sA G x y) * tW (sA G x y) := rfl
      have hH := p4.2.2.2.1
      have eb := E_Q_byteAt (d + 2) _ j _ _ p2 r1 p4 (by omega)
      simp (disch := omega) only [z_bI_some, nL_0, z_le_T, cond_true, cond_false, hpo, ebo, nL_1, ew, z_eq_F, eb, B_Q_well, nL_255]
      exact rRes_st' h _ _ _
    · rw [pif_F g4]
      have ew := Q_in_F (d := d + 3) (x := i) (n := tZ (sA G x y)) (M := z_wI B 15 0 (zn 0)) (by omega) g4
      simp (disch := omega) only [z_bI_some, nL_0, z_le_T, cond_true, hpo, ebo, nL_1, ew, z_eq_T, cond_false, B_Q_finds, nL_2]
      exact rRes_st' h _ _ _
  · rw [pif_F g, B_Q_byteOf, E_Q_asks_no d h w g]
    simp (disch := omega) only [z_bI_some, nL_0, neg_1, cond_false]
    exact rRes_st h _ _
/-- read -/
noncomputable def oRead (G : zG) (x y : Int32) : Int32 × Int32 × zG := pif (sOk G x y) (if findT (sA G x y) = 0 then (zn (tS (sA G x y)), zn 0, G) else ((-10) - zn (findT (sA G x y)), zn (findT (sA G x y)), G)) (-1, -1, G)
theorem P_read (d : Nat) {G : zG} {al : Nat → Nat} {A : zM} {x y : Int32} (h : cG G al A) (w : wG G) : cRes 0 0 A (oRead G x y) (z_den zQ (d + 4) mP_read [.ref 1, .int x, .int y] A) := by
  unfold oRead
  by_cases g : sOk G x y
  · obtain ⟨p1, p2, p3, p4, c, p5, p6⟩ := cG_at h w g
    have n0 := hd_n0 p2.1 (by decide)
    have hf := find_lt (sA G x y)
    have e1 := E_S_elements (d + 2) (al (pO G x y)) A _ p2 (wT_w0 p3)
    have e2 := E_S_verdict (d + 1) (al (pO G x y)) A _ p2 p3
    rw [pif_T g, B_P_read, E_P_stripAt_ok _ h w g]
    by_cases g3 : findT (sA G x y) = 0
    · rw [if_pos g3]
      rw [g3] at e2
      simp (disch := omega) only [z_bV_some, z_bI_some, z_bJ_some, z_bD_some, z_bR_some, cond_true, cond_false, Bool.and_true, Bool.true_and, Bool.not_false, Bool.not_true, Bool.and_self, Bool.or_true, Bool.false_or, Bool.true_or, zn_ok, zn_ok0, zn_N, zn_add, zn_mul, zn_sub, z_lt_T, z_lt_F, z_le_T, z_le_F, z_eq_T, z_ne_F, z_eq_F, z_ne_T, z_ix_T, z_lt_m, z_le_m, z_lt_m2, z_le_m2, z_eq_m, z_ne_m, zn_div, z_a31, zn_shl, zn_shr, z_bq_T, z_bq_F, z_bl_T, nL_0, B_P_done, c9 p2.1, e1, e2]
      exact cRes_st h _ _
    · rw [if_neg g3]
      simp (disch := omega) only [z_bV_some, z_bI_some, z_bJ_some, z_bD_some, z_bR_some, cond_true, cond_false, Bool.and_true, Bool.true_and, Bool.not_false, Bool.not_true, Bool.and_self, Bool.or_true, Bool.false_or, Bool.true_or, zn_ok, zn_ok0, zn_N, zn_add, zn_mul, zn_sub, z_lt_T, z_lt_F, z_le_T, z_le_F, z_eq_T, z_ne_F, z_eq_F, z_ne_T, z_ix_T, z_lt_m, z_le_m, z_lt_m2, z_le_m2, z_eq_m, z_ne_m, zn_div, z_a31, zn_shl, zn_shr, z_bq_T, z_bq_F, z_bl_T, nL_0, B_P_found, c9 p2.1, e1, e2]
      exact cRes_st h _ _
  · rw [pif_F g, B_P_read, E_P_stripAt_no _ h w g]
    simp (disch := omega) only [z_bV_some, z_bI_some, z_bJ_some, z_bD_some, z_bR_some, cond_true, cond_false, Bool.and_true, Bool.true_and, Bool.not_false, Bool.not_true, Bool.and_self, Bool.or_true, Bool.false_or, Bool.true_or, zn_ok, zn_ok0, zn_N, zn_add, zn_mul, zn_sub, z_lt_T, z_lt_F, z_le_T, z_le_F, z_eq_T, z_ne_F, z_eq_F, z_ne_T, z_ix_T, z_lt_m, z_le_m, z_lt_m2, z_le_m2, z_eq_m, z_ne_m, zn_div, z_a31, zn_shl, zn_shr, z_bq_T, z_bq_F, z_bl_T, B_P_refuse]
    exact cRes_st h _ _
theorem Q_read (d : Nat) {G : zG} {B : zM} {x y : Int32} (h : rG G B) (w : wG G) : rRes B (oRead G x y) (z_den zQ (d + 5) mQ_read [.ref 15, .int x, .int y] B) := by
  unfold oRead
  by_cases g : sOk G x y
  · obtain ⟨p1, p2, p3, p4⟩ := rG_at h w g
    have hf := find_lt (sA G x y)
    have hpo := E_Q_poolOf (d + 3) h w g
    have ef := E_Q_findingOf d _ _ _ p2 p3 p4
    rw [pif_T g, B_Q_read, E_Q_isStrip_ok (d + 1) h w g]
    by_cases g3 : findT (sA G x y) = 0
    · rw [if_pos g3]
      rw [g3] at ef
      simp (disch := omega) only [z_bV_some, z_bI_some, z_bJ_some, z_bD_some, z_bR_some, cond_true, cond_false, Bool.and_true, Bool.true_and, Bool.not_false, Bool.not_true, Bool.and_self, Bool.or_true, Bool.false_or, Bool.true_or, zn_ok, zn_ok0, zn_N, zn_add, zn_mul, zn_sub, z_lt_T, z_lt_F, z_le_T, z_le_F, z_eq_T, z_ne_F, z_eq_F, z_ne_T, z_ix_T, z_lt_m, z_le_m, z_lt_m2, z_le_m2, z_eq_m, z_ne_m, zn_div, z_a31, zn_shl, zn_shr, z_bq_T, z_bq_F, z_bl_T, nL_0, hpo, ef, p3.2.2.2.2.2.1, B_Q_well]
      exact rRes_st h _ _
    · rw [if_neg g3]
      simp (disch := omega) only [z_bV_some, z_bI_some, z_bJ_some, z_bD_some, z_bR_some, cond_true, cond_false, Bool.and_true, Bool.true_and, Bool.not_false, Bool.not_true, Bool.and_self, Bool.or_true, Bool.false_or, Bool.true_or, zn_ok, zn_ok0, zn_N, zn_add, zn_mul, zn_sub, z_lt_T, z_lt_F, z_le_T, z_le_F, z_eq_T, z_ne_F, z_eq_F, z_ne_T, z_ix_T, z_lt_m, z_le_m, z_lt_m2, z_le_m2, z_eq_m, z_ne_m, zn_div, z_a31, zn_shl, zn_shr, z_bq_T, z_bq_F, z_bl_T, nL_0, hpo, ef, B_Q_finds]
      exact rRes_st h _ _
  · rw [pif_F g, B_Q_read, E_Q_isStrip_no (d + 1) h w g]
    simp (disch := omega) only [z_bV_some, z_bI_some, z_bJ_some, z_bD_some, z_bR_some, cond_true, cond_false, Bool.and_true, Bool.true_and, Bool.not_false, Bool.not_true, Bool.and_self, Bool.or_true, Bool.false_or, Bool.true_or, zn_ok, zn_ok0, zn_N, zn_add, zn_mul, zn_sub, z_lt_T, z_lt_F, z_le_T, z_le_F, z_eq_T, z_ne_F, z_eq_F, z_ne_T, z_ix_T, z_lt_m, z_le_m, z_lt_m2, z_le_m2, z_eq_m, z_ne_m, zn_div, z_a31, zn_shl, zn_shr, z_bq_T, z_bq_F, z_bl_T, nL_0, B_Q_no]
    exact rRes_st h _ _
/-- told -/
noncomputable def oTold (G : zG) (x y k : Int32) : Int32 × Int32 × zG := pif (sOk G x y ∧ 0 ≤ k.toInt ∧ k.toInt ≤ 3) (if k = zn 0 then zn (tK (sA G x y)) else if k = zn 1 then zn (tN (sA G x y)) else if k = zn 2 then zn (tU (sA G x y)) else zn (tS (sA G x y)), zn 0, G) (-1, -1, G)
theorem P_told (d : Nat) {G : zG} {al : Nat → Nat} {A : zM} {x y k : Int32} (h : cG G al A) (w : wG G) : cRes 0 0 A (oTold G x y k) (z_den zQ (d + 4) mP_told [.ref 1, .int x, .int y, .int k] A) := by
  unfold oTold
  by_cases g : sOk G x y
  · obtain ⟨p1, p2, p3, p4, c, p5, p6⟩ := cG_at h w g
    have n0 := hd_n0 p2.1 (by decide)
    have e1 := E_S_elements (d + 2) (al (pO G x y)) A _ p2 (wT_w0 p3)
    have c91 := c9 p2.1
    obtain ⟨-, k0, k1, k2, -⟩ := p2
    rw [B_P_told, E_P_stripAt_ok _ h w g]
    rcases zn_cases k with hk | ⟨j, hj, rfl⟩
    · rw [pif_F (fun q => by omega)]
      simp (disch := omega) only [z_bV_some, z_bI_some, z_bJ_some, z_bD_some, z_bR_some, cond_true, cond_false, Bool.and_true, Bool.true_and, Bool.not_false, Bool.not_true, Bool.and_self, Bool.or_true, Bool.false_or, Bool.true_or, zn_ok, zn_ok0, zn_N, zn_add, zn_mul, zn_sub, z_lt_T, z_lt_F, z_le_T, z_le_F, z_eq_T, z_ne_F, z_eq_F, z_ne_T, z_ix_T, z_lt_m, z_le_m, z_lt_m2, z_le_m2, z_eq_m, z_ne_m, zn_div, z_a31, zn_shl, zn_shr, z_bq_T, z_bq_F, z_bl_T, nL_0, B_P_refuse]
      exact cRes_st h _ _
    have tj := zn_toInt hj
    by_cases g4 : j ≤ 3
    · rw [pif_T ⟨g, by omega⟩]
      rcases (show j = 0 ∨ j = 1 ∨ j = 2 ∨ j = 3 by omega) with rfl | rfl | rfl | rfl
      · rw [if_pos rfl]
        simp (disch := omega) only [z_bV_some, z_bI_some, z_bJ_some, z_bD_some, z_bR_some, cond_true, cond_false, Bool.and_true, Bool.true_and, Bool.not_false, Bool.not_true, Bool.and_self, Bool.or_true, Bool.false_or, Bool.true_or, zn_ok, zn_ok0, zn_N, zn_add, zn_mul, zn_sub, z_lt_T, z_lt_F, z_le_T, z_le_F, z_eq_T, z_ne_F, z_eq_F, z_ne_T, z_ix_T, z_lt_m, z_le_m, z_lt_m2, z_le_m2, z_eq_m, z_ne_m, zn_div, z_a31, zn_shl, zn_shr, z_bq_T, z_bq_F, z_bl_T, nL_0, nL_1, nL_2, nL_3, c91, k0, B_P_done]
        exact cRes_st h _ _
      · rw [if_neg (fun e => by have := zn_inj (by omega) (by omega) e; omega), if_pos rfl]
        simp (disch := omega) only [z_bV_some, z_bI_some, z_bJ_some, z_bD_some, z_bR_some, cond_true, cond_false, Bool.and_true, Bool.true_and, Bool.not_false, Bool.not_true, Bool.and_self, Bool.or_true, Bool.false_or, Bool.true_or, zn_ok, zn_ok0, zn_N, zn_add, zn_mul, zn_sub, z_lt_T, z_lt_F, z_le_T, z_le_F, z_eq_T, z_ne_F, z_eq_F, z_ne_T, z_ix_T, z_lt_m, z_le_m, z_lt_m2, z_le_m2, z_eq_m, z_ne_m, zn_div, z_a31, zn_shl, zn_shr, z_bq_T, z_bq_F, z_bl_T, nL_0, nL_1, nL_2, nL_3, c91, k1, B_P_done]
        exact cRes_st h _ _
      · rw [if_neg (fun e => by have := zn_inj (by omega) (by omega) e; omega), if_neg (fun e => by have := zn_inj (by omega) (by omega) e; omega), if_pos rfl]
        simp (disch := omega) only [z_bV_some, z_bI_some, z_bJ_some, z_bD_some, z_bR_some, cond_true, cond_false, Bool.and_true, Bool.true_and, Bool.not_false, Bool.not_true, Bool.and_self, Bool.or_true, Bool.false_or, Bool.true_or, zn_ok, zn_ok0, zn_N, zn_add, zn_mul, zn_sub, z_lt_T, z_lt_F, z_le_T, z_le_F, z_eq_T, z_ne_F, z_eq_F, z_ne_T, z_ix_T, z_lt_m, z_le_m, z_lt_m2, z_le_m2, z_eq_m, z_ne_m, zn_div, z_a31, zn_shl, zn_shr, z_bq_T, z_bq_F, z_bl_T, nL_0, nL_1, nL_2, nL_3, c91, k2, B_P_done]
        exact cRes_st h _ _
      · rw [if_neg (fun e => by have := zn_inj (by omega) (by omega) e; omega), if_neg (fun e => by have := zn_inj (by omega) (by omega) e; omega), if_neg (fun e => by have := zn_inj (by omega) (by omega) e; omega)]
        simp (disch := omega) only [z_bV_some, z_bI_some, z_bJ_some, z_bD_some, z_bR_some, cond_true, cond_false, Bool.and_true, Bool.true_and, Bool.not_false, Bool.not_true, Bool.and_self, Bool.or_true, Bool.false_or, Bool.true_or, zn_ok, zn_ok0, zn_N, zn_add, zn_mul, zn_sub, z_lt_T, z_lt_F, z_le_T, z_le_F, z_eq_T, z_ne_F, z_eq_F, z_ne_T, z_ix_T, z_lt_m, z_le_m, z_lt_m2, z_le_m2, z_eq_m, z_ne_m, zn_div, z_a31, zn_shl, zn_shr, z_bq_T, z_bq_F, z_bl_T, nL_0, nL_1, nL_2, nL_3, c91, e1, B_P_done]
        exact cRes_st h _ _
    · rw [pif_F (fun q => by omega)]
      simp (disch := omega) only [z_bV_some, z_bI_some, z_bJ_some, z_bD_some, z_bR_some, cond_true, cond_false, Bool.and_true, Bool.true_and, Bool.not_false, Bool.not_true, Bool.and_self, Bool.or_true, Bool.false_or, Bool.true_or, zn_ok, zn_ok0, zn_N, zn_add, zn_mul, zn_sub, z_lt_T, z_lt_F, z_le_T, z_le_F, z_eq_T, z_ne_F, z_eq_F, z_ne_T, z_ix_T, z_lt_m, z_le_m, z_lt_m2, z_le_m2, z_eq_m, z_ne_m, zn_div, z_a31, zn_shl, zn_shr, z_bq_T, z_bq_F, z_bl_T, nL_0, nL_3, B_P_refuse]
      exact cRes_st h _ _
  · rw [pif_F (fun q => g q.1), B_P_told, E_P_stripAt_no _ h w g]
    simp (disch := omega) only [z_bV_some, z_bI_some, z_bJ_some, z_bD_some, z_bR_some, cond_true, cond_false, Bool.and_true, Bool.true_and, Bool.not_false, Bool.not_true, Bool.and_self, Bool.or_true, Bool.false_or, Bool.true_or, zn_ok, zn_ok0, zn_N, zn_add, zn_mul, zn_sub, z_lt_T, z_lt_F, z_le_T, z_le_F, z_eq_T, z_ne_F, z_eq_F, z_ne_T, z_ix_T, z_lt_m, z_le_m, z_lt_m2, z_le_m2, z_eq_m, z_ne_m, zn_div, z_a31, zn_shl, zn_shr, z_bq_T, z_bq_F, z_bl_T, B_P_refuse]
    exact cRes_st h _ _
theorem Q_told (d : Nat) {G : zG} {B : zM} {x y k : Int32} (h : rG G B) (w : wG G) : rRes B (oTold G x y k) (z_den zQ (d + 5) mQ_told [.ref 15, .int x, .int y, .int k] B) := by
  unfold oTold
  by_cases g : sOk G x y
  · obtain ⟨p1, p2, p3, p4⟩ := rG_at h w g
    have hpo := E_Q_poolOf (d + 3) h w g
    obtain ⟨k0, k1, k2, k3, k4, k5, -⟩ := p3
    rw [B_Q_told, E_Q_isStrip_ok (d + 1) h w g]
    by_cases g4 : 0 ≤ k.toInt ∧ k.toInt ≤ 3
    · rw [pif_T ⟨g, g4⟩]
      have ew := Q_within_T (d := d + 3) (x := k) (a := 0) (n := 3) (M := B) (by omega) (by omega) g4
      obtain ⟨j, hj, rfl⟩ := zn_ex g4.1
      rw [zn_toInt hj] at g4
      rcases (show j = 0 ∨ j = 1 ∨ j = 2 ∨ j = 3 by omega) with rfl | rfl | rfl | rfl
      · rw [if_pos rfl]
        simp (disch := omega) only [z_bV_some, z_bI_some, z_bJ_some, z_bD_some, z_bR_some, cond_true, cond_false, Bool.and_true, Bool.true_and, Bool.not_false, Bool.not_true, Bool.and_self, Bool.or_true, Bool.false_or, Bool.true_or, zn_ok, zn_ok0, zn_N, zn_add, zn_mul, zn_sub, z_lt_T, z_lt_F, z_le_T, z_le_F, z_eq_T, z_ne_F, z_eq_F, z_ne_T, z_ix_T, z_lt_m, z_le_m, z_lt_m2, z_le_m2, z_eq_m, z_ne_m, zn_div, z_a31, zn_shl, zn_shr, z_bq_T, z_bq_F, z_bl_T, nL_0, nL_1, nL_2, nL_3, ew, hpo, k0, B_Q_well]
        exact rRes_st h _ _
      · rw [if_neg (fun e => by have := zn_inj (by omega) (by omega) e; omega), if_pos rfl]
        simp (disch := omega) only [z_bV_some, z_bI_some, z_bJ_some, z_bD_some, z_bR_some, cond_true, cond_false, Bool.and_true, Bool.true_and, Bool.not_false, Bool.not_true, Bool.and_self, Bool.or_true, Bool.false_or, Bool.true_or, zn_ok, zn_ok0, zn_N, zn_add, zn_mul, zn_sub, z_lt_T, z_lt_F, z_le_T, z_le_F, z_eq_T, z_ne_F, z_eq_F, z_ne_T, z_ix_T, z_lt_m, z_le_m, z_lt_m2, z_le_m2, z_eq_m, z_ne_m, zn_div, z_a31, zn_shl, zn_shr, z_bq_T, z_bq_F, z_bl_T, nL_0, nL_1, nL_2, nL_3, ew, hpo, k1, B_Q_well]
        exact rRes_st h _ _
      · rw [if_neg (fun e => by have := zn_inj (by omega) (by omega) e; omega), if_neg (fun e => by have := zn_inj (by omega) (by omega) e; omega), if_pos rfl]
        simp (disch := omega) only [z_bV_some, z_bI_some, z_bJ_some, z_bD_some, z_bR_some, cond_true, cond_false, Bool.and_true, Bool.true_and, Bool.not_false, Bool.not_true, Bool.and_self, Bool.or_true, Bool.false_or, Bool.true_or, zn_ok, zn_ok0, zn_N, zn_add, zn_mul, zn_sub, z_lt_T, z_lt_F, z_le_T, z_le_F, z_eq_T, z_ne_F, z_eq_F, z_ne_T, z_ix_T, z_lt_m, z_le_m, z_lt_m2, z_le_m2, z_eq_m, z_ne_m, zn_div, z_a31, zn_shl, zn_shr, z_bq_T, z_bq_F, z_bl_T, nL_0, nL_1, nL_2, nL_3, ew, hpo, k2, B_Q_well]
        exact rRes_st h _ _
      · rw [if_neg (fun e => by have := zn_inj (by omega) (by omega) e; omega), if_neg (fun e => by have := zn_inj (by omega) (by omega) e; omega), if_neg (fun e => by have := zn_inj (by omega) (by omega) e; omega)]
        simp (disch := omega) only [z_bV_some, z_bI_some, z_bJ_some, z_bD_some, z_bR_some, cond_true, cond_false, Bool.and_true, Bool.true_and, Bool.not_false, Bool.not_true, Bool.and_self, Bool.or_true, Bool.false_or, Bool.true_or, zn_ok, zn_ok0, zn_N, zn_add, zn_mul, zn_sub, z_lt_T, z_lt_F, z_le_T, z_le_F, z_eq_T, z_ne_F, z_eq_F, z_ne_T, z_ix_T, z_lt_m, z_le_m, z_lt_m2, z_le_m2, z_eq_m, z_ne_m, zn_div, z_a31, zn_shl, zn_shr, z_bq_T, z_bq_F, z_bl_T, nL_0, nL_1, nL_2, nL_3, ew, hpo, k5, B_Q_well]
        exact rRes_st h _ _
    · rw [pif_F (fun q => g4 q.2)]
      have ew := Q_within_F (d := d + 3) (x := k) (a := 0) (n := 3) (M := B) (by omega) (by omega) g4
      simp (disch := omega) only [z_bV_some, z_bI_some, z_bJ_some, z_bD_some, z_bR_some, cond_true, cond_false, Bool.and_true, Bool.true_and, Bool.not_false, Bool.not_true, Bool.and_self, Bool.or_true, Bool.false_or, Bool.true_or, zn_ok, zn_ok0, zn_N, zn_add, zn_mul, zn_sub, z_lt_T, z_lt_F, z_le_T, z_le_F, z_eq_T, z_ne_F, z_eq_F, z_ne_T, z_ix_T, z_lt_m, z_le_m, z_lt_m2, z_le_m2, z_eq_m, z_ne_m, zn_div, z_a31, zn_shl, zn_shr, z_bq_T, z_bq_F, z_bl_T, nL_0, nL_3, ew, B_Q_no]
      exact rRes_st h _ _
  · rw [pif_F (fun q => g q.1), B_Q_told, E_Q_isStrip_no (d + 1) h w g]
    simp (disch := omega) only [z_bV_some, z_bI_some, z_bJ_some, z_bD_some, z_bR_some, cond_true, cond_false, Bool.and_true, Bool.true_and, Bool.not_false, Bool.not_true, Bool.and_self, Bool.or_true, Bool.false_or, Bool.true_or, zn_ok, zn_ok0, zn_N, zn_add, zn_mul, zn_sub, z_lt_T, z_lt_F, z_le_T, z_le_F, z_eq_T, z_ne_F, z_eq_F, z_ne_T, z_ix_T, z_lt_m, z_le_m, z_lt_m2, z_le_m2, z_eq_m, z_ne_m, zn_div, z_a31, zn_shl, zn_shr, z_bq_T, z_bq_F, z_bl_T, nL_0, B_Q_no]
    exact rRes_st h _ _
