/-! S LEVEL, acts that answer longs: sum, head. -/
def cResJ (c s : Nat) (A : zM) (r : Int64 × Int32 × zG) (o : zR) : Prop := ∃ A' al', o = some (some (.long r.1), A') ∧ cG r.2.2 al' A' ∧ zI A' 1 7 = r.2.1 ∧ zFr c s (xcS A) A A'
def rResJ (B : zM) (r : Int64 × Int32 × zG) (o : zR) : Prop := ∃ B', o = some (some (.long r.1), B') ∧ rG r.2.2 B' ∧ zI B' 15 0 = r.2.1 ∧ zFr 0 0 xrS B B'
theorem cResJ_st {c s : Nat} {A : zM} {G : zG} {al : Nat → Nat} (h : cG G al A) (x : Int64) (v : Int32) : cResJ c s A (x, v, G) (some (some (.long x), z_wI A 1 7 v)) := by
  obtain ⟨A', al', h1, h2, h3, h4⟩ := cRes_st (c := c) (s := s) h 0 v
  cases h1
  exact ⟨_, al', rfl, h2, h3, h4⟩
theorem rResJ_st {B : zM} {G : zG} (h : rG G B) (x : Int64) (v : Int32) : rResJ B (x, v, G) (some (some (.long x), z_wI B 15 0 v)) := by
  obtain ⟨B', h1, h2, h3, h4⟩ := rRes_st h 0 v
  cases h1
  exact ⟨_, rfl, h2, h3, h4⟩
theorem rResJ_st' {B : zM} {G : zG} (h : rG G B) (x : Int64) (v u : Int32) : rResJ B (x, v, G) (some (some (.long x), z_wI (z_wI B 15 0 u) 15 0 v)) := by
  obtain ⟨B', h1, h2, h3, h4⟩ := rRes_st' h 0 v u
  cases h1
  exact ⟨_, rfl, h2, h3, h4⟩
theorem tZ_lt {T : zT} (h : wT T) {n : Nat} (hn : n ≤ 9) : tZ T < n ↔ tH T < n := by
  have hd : tZ T = tH T + tS T * tW T := rfl
  have w6 := h.2.2.2.2.2.1
  have hm := mul_pos_le (a := tS T) (wT_pos T)
  by_cases h0 : 0 < tS T
  · have := w6 h0; omega
  · have e0 : tS T = 0 := by omega
    rw [e0, Nat.zero_mul] at hd
    omega
noncomputable def oSum (G : zG) (x y : Int32) : Int64 × Int32 × zG := pif (sOk G x y) (if tL (sA G x y) = true then (0, zn 1, G) else if tH (sA G x y) < 5 then (0, zn 2, G) else ((tM (sA G x y)).toInt64, zn 0, G)) (0, -1, G)
theorem P_sum (d : Nat) {G : zG} {al : Nat → Nat} {A : zM} {x y : Int32} (h : cG G al A) (w : wG G) : cResJ 0 0 A (oSum G x y) (z_den zQ (d + 4) mP_sum [.ref 1, .int x, .int y] A) := by
  unfold oSum
  by_cases g : sOk G x y
  · obtain ⟨p1, p2, p3, p4, c, p5, p6⟩ := cG_at h w g
    have n0 := hd_n0 p2.1 (by decide)
    have hZ := tZ_le p3
    have hz := tZ_lt p3 (n := 5) (by omega)
    have k5 := p2.2.2.2.2.2.1
    rw [pif_T g, B_P_sum, E_P_stripAt_ok _ h w g]
    by_cases g3 : tL (sA G x y) = true
    · rw [if_pos g3]
      simp (disch := omega) only [z_bV_some, z_bI_some, z_bJ_some, z_bD_some, z_bR_some, cond_true, cond_false, Bool.and_true, Bool.true_and, Bool.not_false, Bool.not_true, Bool.and_self, Bool.or_true, Bool.false_or, Bool.true_or, zn_ok, zn_ok0, zn_N, zn_add, zn_mul, zn_sub, z_lt_T, z_lt_F, z_le_T, z_le_F, z_eq_T, z_ne_F, z_eq_F, z_ne_T, z_ix_T, z_lt_m, z_le_m, z_lt_m2, z_le_m2, z_eq_m, z_ne_m, zn_div, z_a31, zn_shl, zn_shr, z_bq_T, z_bq_F, z_bl_T, nL_0, nL_1, B_P_refuseLong, c9 p2.1, p2.2.2.2.2.2.2.1, pl_T g3]
      exact cResJ_st h _ _
    rw [if_neg g3]
    by_cases g4 : tH (sA G x y) < 5
    · rw [if_pos g4]
      simp (disch := omega) only [z_bV_some, z_bI_some, z_bJ_some, z_bD_some, z_bR_some, cond_true, cond_false, Bool.and_true, Bool.true_and, Bool.not_false, Bool.not_true, Bool.and_self, Bool.or_true, Bool.false_or, Bool.true_or, zn_ok, zn_ok0, zn_N, zn_add, zn_mul, zn_sub, z_lt_T, z_lt_F, z_le_T, z_le_F, z_eq_T, z_ne_F, z_eq_F, z_ne_T, z_ix_T, z_lt_m, z_le_m, z_lt_m2, z_le_m2, z_eq_m, z_ne_m, zn_div, z_a31, zn_shl, zn_shr, z_bq_T, z_bq_F, z_bl_T, nL_0, nL_2, nL_5, B_P_refuseLong, c9 p2.1, p2.2.2.2.2.2.2.1, pl_F g3, k5]
      exact cResJ_st h _ _
    · rw [if_neg g4]
      have e1 := E_S_sumNow (d + 2) (al (pO G x y)) A _ p2 (wT_w0 p3) (by omega)
      simp (disch := omega) only [z_bV_some, z_bI_some, z_bJ_some, z_bD_some, z_bR_some, cond_true, cond_false, Bool.and_true, Bool.true_and, Bool.not_false, Bool.not_true, Bool.and_self, Bool.or_true, Bool.false_or, Bool.true_or, zn_ok, zn_ok0, zn_N, zn_add, zn_mul, zn_sub, z_lt_T, z_lt_F, z_le_T, z_le_F, z_eq_T, z_ne_F, z_eq_F, z_ne_T, z_ix_T, z_lt_m, z_le_m, z_lt_m2, z_le_m2, z_eq_m, z_ne_m, zn_div, z_a31, zn_shl, zn_shr, z_bq_T, z_bq_F, z_bl_T, nL_0, nL_2, nL_5, B_P_doneLong, c9 p2.1, p2.2.2.2.2.2.2.1, pl_F g3, k5, e1]
      exact cResJ_st h _ _
  · rw [pif_F g, B_P_sum, E_P_stripAt_no _ h w g]
    simp (disch := omega) only [z_bV_some, z_bI_some, z_bJ_some, z_bD_some, z_bR_some, cond_true, cond_false, Bool.and_true, Bool.true_and, Bool.not_false, Bool.not_true, Bool.and_self, Bool.or_true, Bool.false_or, Bool.true_or, zn_ok, zn_ok0, zn_N, zn_add, zn_mul, zn_sub, z_lt_T, z_lt_F, z_le_T, z_le_F, z_eq_T, z_ne_F, z_eq_F, z_ne_T, z_ix_T, z_lt_m, z_le_m, z_lt_m2, z_le_m2, z_eq_m, z_ne_m, zn_div, z_a31, zn_shl, zn_shr, z_bq_T, z_bq_F, z_bl_T, B_P_refuseLong]
    exact cResJ_st h _ _
theorem Q_sum (d : Nat) {G : zG} {B : zM} {x y : Int32} (h : rG G B) (w : wG G) : rResJ B (oSum G x y) (z_den zQ (d + 5) mQ_sum [.ref 15, .int x, .int y] B) := by
  unfold oSum
  by_cases g : sOk G x y
  · obtain ⟨p1, p2, p3, p4⟩ := rG_at h w g
    rw [pif_T g, B_Q_sum]
    by_cases g3 : tL (sA G x y) = true
    · rw [if_pos g3, E_Q_asks_lost d h w g g3]
      simp (disch := omega) only [z_bI_some, nL_0, neg_11, cond_false]
      exact rResJ_st h _ _
    rw [if_neg g3, E_Q_asks_ok d h w g g3]
    have h1 := rG_st h (zn 0)
    have hH := p4.2.2.2.1
    have r1 := rT_wI (a := 15) (k := 0) (v := zn 0) p3 (by unfold inR; omega)
    have hpo := E_Q_poolOf (d + 3) h1 w g
    have k4 := r1.2.2.2.2.1
    by_cases g4 : tH (sA G x y) < 5
    · rw [if_pos g4]
      simp (disch := omega) only [z_bI_some, nL_0, nL_5, z_le_T, z_le_F, cond_true, cond_false, hpo, z_ix_T, zn_N, k4, B_Q_finds, nL_2]
      exact rResJ_st' h _ _ _
    · rw [if_neg g4]
      have e1 := E_Q_sumOf (d + 1) _ _ _ p2 r1 p4
      simp (disch := omega) only [z_bI_some, nL_0, nL_5, z_le_T, z_le_F, cond_true, cond_false, hpo, z_ix_T, zn_N, k4, e1]
      exact rResJ_st h _ _
  · rw [pif_F g, B_Q_sum, E_Q_asks_no d h w g]
    simp (disch := omega) only [z_bI_some, nL_0, neg_1, cond_false]
    exact rResJ_st h _ _
/-- head -/
def hMo (j : Nat) : Nat := if j = 0 then 1 else if j = 1 then 3 else if j = 2 then 5 else 9
noncomputable def hVa (T : zT) (j : Nat) : Int32 := if j = 0 then tB T 0 else if j = 1 then shF (tB T 1) (tB T 2) else if j = 2 then shF (tB T 3) (tB T 4) else suF (tB T)
noncomputable def oHead (G : zG) (x y k : Int32) : Int64 × Int32 × zG := pif (sOk G x y ∧ 0 ≤ k.toInt ∧ k.toInt ≤ 3) (if tL (sA G x y) = true then (0, zn 1, G) else if tH (sA G x y) < hMo k.toNatClampNeg then (0, zn 2, G) else ((hVa (sA G x y) k.toNatClampNeg).toInt64, zn 0, G)) (0, -1, G)
theorem P_head (d : Nat) {G : zG} {al : Nat → Nat} {A : zM} {x y k : Int32} (h : cG G al A) (w : wG G) : cResJ 0 0 A (oHead G x y k) (z_den zQ (d + 4) mP_head [.ref 1, .int x, .int y, .int k] A) := by
  unfold oHead
  by_cases g : sOk G x y
  · obtain ⟨p1, p2, p3, p4, c, p5, p6⟩ := cG_at h w g
    have n0 := hd_n0 p2.1 (by decide)
    have hZ := tZ_le p3
    have k5 := p2.2.2.2.2.2.1
    obtain ⟨c', e12, hc1, hc2, hc3⟩ := p2.2.2.2.2.2.2.2.1
    have nA := fun fr n hq => E_S_numberAt (d + 2) (al (pO G x y)) fr n A c' hc3 p2.1 e12 hq
    have hy : ∀ i, i < 9 → i < tZ (sA G x y) → zI A (zP zQ A (al (pO G x y)) 4) i = tB (sA G x y) i := fun i hi hi2 => by rw [p2.2.2.2.2.2.2.2.2 i hi2]; unfold tY; rw [if_pos hi]
    rw [B_P_head, E_P_stripAt_ok _ h w g]
    rcases zn_cases k with hk | ⟨j, hj, rfl⟩
    · rw [pif_F (fun q => by omega)]
      simp (disch := omega) only [z_bV_some, z_bI_some, z_bJ_some, z_bD_some, z_bR_some, cond_true, cond_false, Bool.and_true, Bool.true_and, Bool.not_false, Bool.not_true, Bool.and_self, Bool.or_true, Bool.false_or, Bool.true_or, zn_ok, zn_ok0, zn_N, zn_add, zn_mul, zn_sub, z_lt_T, z_lt_F, z_le_T, z_le_F, z_eq_T, z_ne_F, z_eq_F, z_ne_T, z_ix_T, z_lt_m, z_le_m, z_lt_m2, z_le_m2, z_eq_m, z_ne_m, zn_div, z_a31, zn_shl, zn_shr, z_bq_T, z_bq_F, z_bl_T, nL_0, B_P_refuseLong]
      exact cResJ_st h _ _
    have tj := zn_toInt hj
    by_cases g5 : j ≤ 3
    rotate_left
    · rw [pif_F (fun q => by omega)]
      simp (disch := omega) only [z_bV_some, z_bI_some, z_bJ_some, z_bD_some, z_bR_some, cond_true, cond_false, Bool.and_true, Bool.true_and, Bool.not_false, Bool.not_true, Bool.and_self, Bool.or_true, Bool.false_or, Bool.true_or, zn_ok, zn_ok0, zn_N, zn_add, zn_mul, zn_sub, z_lt_T, z_lt_F, z_le_T, z_le_F, z_eq_T, z_ne_F, z_eq_F, z_ne_T, z_ix_T, z_lt_m, z_le_m, z_lt_m2, z_le_m2, z_eq_m, z_ne_m, zn_div, z_a31, zn_shl, zn_shr, z_bq_T, z_bq_F, z_bl_T, nL_0, nL_3, B_P_refuseLong]
      exact cResJ_st h _ _
    rw [pif_T ⟨g, by omega⟩, zn_N hj]
    by_cases g3 : tL (sA G x y) = true
    · rw [if_pos g3]
      simp (disch := omega) only [z_bV_some, z_bI_some, z_bJ_some, z_bD_some, z_bR_some, cond_true, cond_false, Bool.and_true, Bool.true_and, Bool.not_false, Bool.not_true, Bool.and_self, Bool.or_true, Bool.false_or, Bool.true_or, zn_ok, zn_ok0, zn_N, zn_add, zn_mul, zn_sub, z_lt_T, z_lt_F, z_le_T, z_le_F, z_eq_T, z_ne_F, z_eq_F, z_ne_T, z_ix_T, z_lt_m, z_le_m, z_lt_m2, z_le_m2, z_eq_m, z_ne_m, zn_div, z_a31, zn_shl, zn_shr, z_bq_T, z_bq_F, z_bl_T, nL_0, nL_1, nL_3, B_P_refuseLong, c9 p2.1, p2.2.2.2.2.2.2.1, pl_T g3]
      exact cResJ_st h _ _
    rw [if_neg g3]
    have hz := fun n hn => tZ_lt p3 (n := n) hn
    have z1 := hz 1 (by omega)
    have z3 := hz 3 (by omega)
    have z5 := hz 5 (by omega)
    have z9 := hz 9 (by omega)
    rcases (show j = 0 ∨ j = 1 ∨ j = 2 ∨ j = 3 by omega) with rfl | rfl | rfl | rfl
    · have em : hMo 0 = 1 := rfl
      rw [em]
      by_cases g4 : tH (sA G x y) < 1
      · rw [if_pos g4]
        simp (disch := omega) only [z_bV_some, z_bI_some, z_bJ_some, z_bD_some, z_bR_some, cond_true, cond_false, Bool.and_true, Bool.true_and, Bool.not_false, Bool.not_true, Bool.and_self, Bool.or_true, Bool.false_or, Bool.true_or, zn_ok, zn_ok0, zn_N, zn_add, zn_mul, zn_sub, z_lt_T, z_lt_F, z_le_T, z_le_F, z_eq_T, z_ne_F, z_eq_F, z_ne_T, z_ix_T, z_lt_m, z_le_m, z_lt_m2, z_le_m2, z_eq_m, z_ne_m, zn_div, z_a31, zn_shl, zn_shr, z_bq_T, z_bq_F, z_bl_T, nL_0, nL_1, nL_2, nL_3, B_P_refuseLong, c9 p2.1, p2.2.2.2.2.2.2.1, pl_F g3, k5]
        exact cResJ_st h _ _
      · rw [if_neg g4]
        have e1 := nA 0 1 (by omega)
        have e2 : nuF (zI A (zP zQ A (al (pO G x y)) 4)) 0 1 = hVa (sA G x y) 0 := hy 0 (by omega) (by omega)
        rw [e2] at e1
        simp (disch := omega) only [z_bV_some, z_bI_some, z_bJ_some, z_bD_some, z_bR_some, cond_true, cond_false, Bool.and_true, Bool.true_and, Bool.not_false, Bool.not_true, Bool.and_self, Bool.or_true, Bool.false_or, Bool.true_or, zn_ok, zn_ok0, zn_N, zn_add, zn_mul, zn_sub, z_lt_T, z_lt_F, z_le_T, z_le_F, z_eq_T, z_ne_F, z_eq_F, z_ne_T, z_ix_T, z_lt_m, z_le_m, z_lt_m2, z_le_m2, z_eq_m, z_ne_m, zn_div, z_a31, zn_shl, zn_shr, z_bq_T, z_bq_F, z_bl_T, nL_0, nL_1, nL_2, nL_3, B_P_doneLong, c9 p2.1, p2.2.2.2.2.2.2.1, pl_F g3, k5, e1]
        exact cResJ_st h _ _
    · have em : hMo 1 = 3 := rfl
      rw [em]
      by_cases g4 : tH (sA G x y) < 3
      · rw [if_pos g4]
        simp (disch := omega) only [z_bV_some, z_bI_some, z_bJ_some, z_bD_some, z_bR_some, cond_true, cond_false, Bool.and_true, Bool.true_and, Bool.not_false, Bool.not_true, Bool.and_self, Bool.or_true, Bool.false_or, Bool.true_or, zn_ok, zn_ok0, zn_N, zn_add, zn_mul, zn_sub, z_lt_T, z_lt_F, z_le_T, z_le_F, z_eq_T, z_ne_F, z_eq_F, z_ne_T, z_ix_T, z_lt_m, z_le_m, z_lt_m2, z_le_m2, z_eq_m, z_ne_m, zn_div, z_a31, zn_shl, zn_shr, z_bq_T, z_bq_F, z_bl_T, nL_0, nL_1, nL_2, nL_3, B_P_refuseLong, c9 p2.1, p2.2.2.2.2.2.2.1, pl_F g3, k5]
        exact cResJ_st h _ _
      · rw [if_neg g4]
        have e1 := nA 1 2 (by omega)
        have e2 : nuF (zI A (zP zQ A (al (pO G x y)) 4)) 1 2 = hVa (sA G x y) 1 := by
          show shF (zI A (zP zQ A (al (pO G x y)) 4) 1) (zI A (zP zQ A (al (pO G x y)) 4) (1 + 0 + 1)) = _
          rw [hy 1 (by omega) (by omega), hy (1 + 0 + 1) (by omega) (by omega)]; rfl
        rw [e2] at e1
        simp (disch := omega) only [z_bV_some, z_bI_some, z_bJ_some, z_bD_some, z_bR_some, cond_true, cond_false, Bool.and_true, Bool.true_and, Bool.not_false, Bool.not_true, Bool.and_self, Bool.or_true, Bool.false_or, Bool.true_or, zn_ok, zn_ok0, zn_N, zn_add, zn_mul, zn_sub, z_lt_T, z_lt_F, z_le_T, z_le_F, z_eq_T, z_ne_F, z_eq_F, z_ne_T, z_ix_T, z_lt_m, z_le_m, z_lt_m2, z_le_m2, z_eq_m, z_ne_m, zn_div, z_a31, zn_shl, zn_shr, z_bq_T, z_bq_F, z_bl_T, nL_0, nL_1, nL_2, nL_3, B_P_doneLong, c9 p2.1, p2.2.2.2.2.2.2.1, pl_F g3, k5, e1]
        exact cResJ_st h _ _
    · have em : hMo 2 = 5 := rfl
      rw [em]
      by_cases g4 : tH (sA G x y) < 5
      · rw [if_pos g4]
        simp (disch := omega) only [z_bV_some, z_bI_some, z_bJ_some, z_bD_some, z_bR_some, cond_true, cond_false, Bool.and_true, Bool.true_and, Bool.not_false, Bool.not_true, Bool.and_self, Bool.or_true, Bool.false_or, Bool.true_or, zn_ok, zn_ok0, zn_N, zn_add, zn_mul, zn_sub, z_lt_T, z_lt_F, z_le_T, z_le_F, z_eq_T, z_ne_F, z_eq_F, z_ne_T, z_ix_T, z_lt_m, z_le_m, z_lt_m2, z_le_m2, z_eq_m, z_ne_m, zn_div, z_a31, zn_shl, zn_shr, z_bq_T, z_bq_F, z_bl_T, nL_0, nL_1, nL_2, nL_3, B_P_refuseLong, c9 p2.1, p2.2.2.2.2.2.2.1, pl_F g3, k5]
        exact cResJ_st h _ _
      · rw [if_neg g4]
        have e1 := nA 3 2 (by omega)
        have e2 : nuF (zI A (zP zQ A (al (pO G x y)) 4)) 3 2 = hVa (sA G x y) 2 := by
          show shF (zI A (zP zQ A (al (pO G x y)) 4) 3) (zI A (zP zQ A (al (pO G x y)) 4) (3 + 0 + 1)) = _
          rw [hy 3 (by omega) (by omega), hy (3 + 0 + 1) (by omega) (by omega)]; rfl
        rw [e2] at e1
        simp (disch := omega) only [z_bV_some, z_bI_some, z_bJ_some, z_bD_some, z_bR_some, cond_true, cond_false, Bool.and_true, Bool.true_and, Bool.not_false, Bool.not_true, Bool.and_self, Bool.or_true, Bool.false_or, Bool.true_or, zn_ok, zn_ok0, zn_N, zn_add, zn_mul, zn_sub, z_lt_T, z_lt_F, z_le_T, z_le_F, z_eq_T, z_ne_F, z_eq_F, z_ne_T, z_ix_T, z_lt_m, z_le_m, z_lt_m2, z_le_m2, z_eq_m, z_ne_m, zn_div, z_a31, zn_shl, zn_shr, z_bq_T, z_bq_F, z_bl_T, nL_0, nL_1, nL_2, nL_3, B_P_doneLong, c9 p2.1, p2.2.2.2.2.2.2.1, pl_F g3, k5, e1]
        exact cResJ_st h _ _
    · have em : hMo 3 = 9 := rfl
      rw [em]
      by_cases g4 : tH (sA G x y) < 9
      · rw [if_pos g4]
        simp (disch := omega) only [z_bV_some, z_bI_some, z_bJ_some, z_bD_some, z_bR_some, cond_true, cond_false, Bool.and_true, Bool.true_and, Bool.not_false, Bool.not_true, Bool.and_self, Bool.or_true, Bool.false_or, Bool.true_or, zn_ok, zn_ok0, zn_N, zn_add, zn_mul, zn_sub, z_lt_T, z_lt_F, z_le_T, z_le_F, z_eq_T, z_ne_F, z_eq_F, z_ne_T, z_ix_T, z_lt_m, z_le_m, z_lt_m2, z_le_m2, z_eq_m, z_ne_m, zn_div, z_a31, zn_shl, zn_shr, z_bq_T, z_bq_F, z_bl_T, nL_0, nL_1, nL_2, nL_3, nL_5, nL_4, B_P_refuseLong, c9 p2.1, p2.2.2.2.2.2.2.1, pl_F g3, k5]
        exact cResJ_st h _ _
      · rw [if_neg g4]
        have e1 := nA 5 4 (by omega)
        have e2 : nuF (zI A (zP zQ A (al (pO G x y)) 4)) 5 4 = hVa (sA G x y) 3 := by
          show shF (shF (shF (zI A (zP zQ A (al (pO G x y)) 4) 5) (zI A (zP zQ A (al (pO G x y)) 4) (5 + 0 + 1))) (zI A (zP zQ A (al (pO G x y)) 4) (5 + 1 + 1))) (zI A (zP zQ A (al (pO G x y)) 4) (5 + 2 + 1)) = _
          rw [hy 5 (by omega) (by omega), hy (5 + 0 + 1) (by omega) (by omega), hy (5 + 1 + 1) (by omega) (by omega), hy (5 + 2 + 1) (by omega) (by omega)]; rfl
        rw [e2] at e1
        simp (disch := omega) only [z_bV_some, z_bI_some, z_bJ_some, z_bD_some, z_bR_some, cond_true, cond_false, Bool.and_true, Bool.true_and, Bool.not_false, Bool.not_true, Bool.and_self, Bool.or_true, Bool.false_or, Bool.true_or, zn_ok, zn_ok0, zn_N, zn_add, zn_mul, zn_sub, z_lt_T, z_lt_F, z_le_T, z_le_F, z_eq_T, z_ne_F, z_eq_F, z_ne_T, z_ix_T, z_lt_m, z_le_m, z_lt_m2, z_le_m2, z_eq_m, z_ne_m, zn_div, z_a31, zn_shl, zn_shr, z_bq_T, z_bq_F, z_bl_T, nL_0, nL_1, nL_2, nL_3, nL_5, nL_4, B_P_doneLong, c9 p2.1, p2.2.2.2.2.2.2.1, pl_F g3, k5, e1]
        exact cResJ_st h _ _
  · rw [pif_F (fun q => g q.1), B_P_head, E_P_stripAt_no _ h w g]
    simp (disch := omega) only [z_bV_some, z_bI_some, z_bJ_some, z_bD_some, z_bR_some, cond_true, cond_false, Bool.and_true, Bool.true_and, Bool.not_false, Bool.not_true, Bool.and_self, Bool.or_true, Bool.false_or, Bool.true_or, zn_ok, zn_ok0, zn_N, zn_add, zn_mul, zn_sub, z_lt_T, z_lt_F, z_le_T, z_le_F, z_eq_T, z_ne_F, z_eq_F, z_ne_T, z_ix_T, z_lt_m, z_le_m, z_lt_m2, z_le_m2, z_eq_m, z_ne_m, zn_div, z_a31, zn_shl, zn_shr, z_bq_T, z_bq_F, z_bl_T, B_P_refuseLong]
    exact cResJ_st h _ _
theorem Q_head (d : Nat) {G : zG} {B : zM} {x y k : Int32} (h : rG G B) (w : wG G) : rResJ B (oHead G x y k) (z_den zQ (d + 5) mQ_head [.ref 15, .int x, .int y, .int k] B) := by
  unfold oHead
  rw [B_Q_head]
  by_cases g4 : 0 ≤ k.toInt ∧ k.toInt ≤ 3
  rotate_left
  · rw [pif_F (fun q => g4 q.2)]
    have ew := Q_within_F (d := d + 3) (x := k) (a := 0) (n := 3) (M := B) (by omega) (by omega) g4
    simp (disch := omega) only [z_bV_some, z_bI_some, z_bJ_some, z_bD_some, z_bR_some, cond_true, cond_false, Bool.and_true, Bool.true_and, Bool.not_false, Bool.not_true, Bool.and_self, Bool.or_true, Bool.false_or, Bool.true_or, zn_ok, zn_ok0, zn_N, zn_add, zn_mul, zn_sub, z_lt_T, z_lt_F, z_le_T, z_le_F, z_eq_T, z_ne_F, z_eq_F, z_ne_T, z_ix_T, z_lt_m, z_le_m, z_lt_m2, z_le_m2, z_eq_m, z_ne_m, zn_div, z_a31, zn_shl, zn_shr, z_bq_T, z_bq_F, z_bl_T, nL_0, nL_3, ew, B_Q_no]
    exact rResJ_st h _ _
  have ew := Q_within_T (d := d + 3) (x := k) (a := 0) (n := 3) (M := B) (by omega) (by omega) g4
  by_cases g : sOk G x y
  rotate_left
  · rw [pif_F (fun q => g q.1), nL_0, nL_3, ew]
    simp (disch := omega) only [z_bI_some, z_ne_T, cond_true, E_Q_asks_no d h w g, neg_1, cond_false]
    exact rResJ_st h _ _
  rw [pif_T ⟨g, g4⟩]
  obtain ⟨p1, p2, p3, p4⟩ := rG_at h w g
  by_cases g3 : tL (sA G x y) = true
  · rw [if_pos g3, nL_0, nL_3, ew]
    simp (disch := omega) only [z_bI_some, z_ne_T, cond_true, E_Q_asks_lost d h w g g3, neg_11, cond_false]
    exact rResJ_st h _ _
  rw [if_neg g3]
  have h1 := rG_st h (zn 0)
  have hH := p4.2.2.2.1
  have r1 := rT_wI (a := 15) (k := 0) (v := zn 0) p3 (by unfold inR; omega)
  have hpo := E_Q_poolOf (d + 3) h1 w g
  have hak := E_Q_asks_ok d h w g g3
  have k4 := r1.2.2.2.2.1
  have s1 := E_Q_headShort (d + 3) _ 1 _ _ p2 r1 p4 (by omega)
  have s3 := E_Q_headShort (d + 3) _ 3 _ _ p2 r1 p4 (by omega)
  have s5 := E_Q_headSum (d + 3) _ _ _ p2 r1 p4
  have k60 := r1.2.2.2.2.2.2.1 0 (by omega)
  rw [Nat.add_zero] at k60
  obtain ⟨j, hj, rfl⟩ := zn_ex g4.1
  rw [zn_toInt hj] at g4
  rw [zn_N hj]
  rcases (show j = 0 ∨ j = 1 ∨ j = 2 ∨ j = 3 by omega) with rfl | rfl | rfl | rfl
  · have em : hMo 0 = 1 := rfl
    have ev : tB (sA G x y) 0 = hVa (sA G x y) 0 := rfl
    rw [em]
    by_cases g5 : tH (sA G x y) < 1
    · rw [if_pos g5]
      simp (disch := omega) only [z_bV_some, z_bI_some, z_bJ_some, z_bD_some, z_bR_some, cond_true, cond_false, Bool.and_true, Bool.true_and, Bool.not_false, Bool.not_true, Bool.and_self, Bool.or_true, Bool.false_or, Bool.true_or, zn_ok, zn_ok0, zn_N, zn_add, zn_mul, zn_sub, z_lt_T, z_lt_F, z_le_T, z_le_F, z_eq_T, z_ne_F, z_eq_F, z_ne_T, z_ix_T, z_lt_m, z_le_m, z_lt_m2, z_le_m2, z_eq_m, z_ne_m, zn_div, z_a31, zn_shl, zn_shr, z_bq_T, z_bq_F, z_bl_T, nL_0, nL_1, nL_2, nL_3, ew, hak, hpo, k4, B_Q_finds]
      exact rResJ_st' h _ _ _
    · rw [if_neg g5]
      simp (disch := omega) only [z_bV_some, z_bI_some, z_bJ_some, z_bD_some, z_bR_some, cond_true, cond_false, Bool.and_true, Bool.true_and, Bool.not_false, Bool.not_true, Bool.and_self, Bool.or_true, Bool.false_or, Bool.true_or, zn_ok, zn_ok0, zn_N, zn_add, zn_mul, zn_sub, z_lt_T, z_lt_F, z_le_T, z_le_F, z_eq_T, z_ne_F, z_eq_F, z_ne_T, z_ix_T, z_lt_m, z_le_m, z_lt_m2, z_le_m2, z_eq_m, z_ne_m, zn_div, z_a31, zn_shl, zn_shr, z_bq_T, z_bq_F, z_bl_T, nL_0, nL_1, nL_2, nL_3, nL_9, ew, hak, hpo, k4, k60, ev]
      exact rResJ_st h _ _
  · have em : hMo 1 = 3 := rfl
    have ev : shF (tB (sA G x y) 1) (tB (sA G x y) (1 + 1)) = hVa (sA G x y) 1 := rfl
    rw [em]
    by_cases g5 : tH (sA G x y) < 3
    · rw [if_pos g5]
      simp (disch := omega) only [z_bV_some, z_bI_some, z_bJ_some, z_bD_some, z_bR_some, cond_true, cond_false, Bool.and_true, Bool.true_and, Bool.not_false, Bool.not_true, Bool.and_self, Bool.or_true, Bool.false_or, Bool.true_or, zn_ok, zn_ok0, zn_N, zn_add, zn_mul, zn_sub, z_lt_T, z_lt_F, z_le_T, z_le_F, z_eq_T, z_ne_F, z_eq_F, z_ne_T, z_ix_T, z_lt_m, z_le_m, z_lt_m2, z_le_m2, z_eq_m, z_ne_m, zn_div, z_a31, zn_shl, zn_shr, z_bq_T, z_bq_F, z_bl_T, nL_0, nL_1, nL_2, nL_3, ew, hak, hpo, k4, B_Q_finds]
      exact rResJ_st' h _ _ _
    · rw [if_neg g5]
      rw [ev] at s1
      simp (disch := omega) only [z_bV_some, z_bI_some, z_bJ_some, z_bD_some, z_bR_some, cond_true, cond_false, Bool.and_true, Bool.true_and, Bool.not_false, Bool.not_true, Bool.and_self, Bool.or_true, Bool.false_or, Bool.true_or, zn_ok, zn_ok0, zn_N, zn_add, zn_mul, zn_sub, z_lt_T, z_lt_F, z_le_T, z_le_F, z_eq_T, z_ne_F, z_eq_F, z_ne_T, z_ix_T, z_lt_m, z_le_m, z_lt_m2, z_le_m2, z_eq_m, z_ne_m, zn_div, z_a31, zn_shl, zn_shr, z_bq_T, z_bq_F, z_bl_T, nL_0, nL_1, nL_2, nL_3, nL_9, ew, hak, hpo, k4, s1]
      exact rResJ_st h _ _
  · have em : hMo 2 = 5 := rfl
    have ev : shF (tB (sA G x y) 3) (tB (sA G x y) (3 + 1)) = hVa (sA G x y) 2 := rfl
    rw [em]
    by_cases g5 : tH (sA G x y) < 5
    · rw [if_pos g5]
      simp (disch := omega) only [z_bV_some, z_bI_some, z_bJ_some, z_bD_some, z_bR_some, cond_true, cond_false, Bool.and_true, Bool.true_and, Bool.not_false, Bool.not_true, Bool.and_self, Bool.or_true, Bool.false_or, Bool.true_or, zn_ok, zn_ok0, zn_N, zn_add, zn_mul, zn_sub, z_lt_T, z_lt_F, z_le_T, z_le_F, z_eq_T, z_ne_F, z_eq_F, z_ne_T, z_ix_T, z_lt_m, z_le_m, z_lt_m2, z_le_m2, z_eq_m, z_ne_m, zn_div, z_a31, zn_shl, zn_shr, z_bq_T, z_bq_F, z_bl_T, nL_0, nL_1, nL_2, nL_3, nL_5, ew, hak, hpo, k4, B_Q_finds]
      exact rResJ_st' h _ _ _
    · rw [if_neg g5]
      rw [ev] at s3
      simp (disch := omega) only [z_bV_some, z_bI_some, z_bJ_some, z_bD_some, z_bR_some, cond_true, cond_false, Bool.and_true, Bool.true_and, Bool.not_false, Bool.not_true, Bool.and_self, Bool.or_true, Bool.false_or, Bool.true_or, zn_ok, zn_ok0, zn_N, zn_add, zn_mul, zn_sub, z_lt_T, z_lt_F, z_le_T, z_le_F, z_eq_T, z_ne_F, z_eq_F, z_ne_T, z_ix_T, z_lt_m, z_le_m, z_lt_m2, z_le_m2, z_eq_m, z_ne_m, zn_div, z_a31, zn_shl, zn_shr, z_bq_T, z_bq_F, z_bl_T, nL_0, nL_1, nL_2, nL_3, nL_5, nL_9, ew, hak, hpo, k4, s3]
      exact rResJ_st h _ _
  · have em : hMo 3 = 9 := rfl
    have ev : suF (tB (sA G x y)) = hVa (sA G x y) 3 := rfl
    rw [em]
    by_cases g5 : tH (sA G x y) < 9
    · rw [if_pos g5]
      simp (disch := omega) only [z_bV_some, z_bI_some, z_bJ_some, z_bD_some, z_bR_some, cond_true, cond_false, Bool.and_true, Bool.true_and, Bool.not_false, Bool.not_true, Bool.and_self, Bool.or_true, Bool.false_or, Bool.true_or, zn_ok, zn_ok0, zn_N, zn_add, zn_mul, zn_sub, z_lt_T, z_lt_F, z_le_T, z_le_F, z_eq_T, z_ne_F, z_eq_F, z_ne_T, z_ix_T, z_lt_m, z_le_m, z_lt_m2, z_le_m2, z_eq_m, z_ne_m, zn_div, z_a31, zn_shl, zn_shr, z_bq_T, z_bq_F, z_bl_T, nL_0, nL_1, nL_2, nL_3, nL_9, ew, hak, hpo, k4, B_Q_finds]
      exact rResJ_st' h _ _ _
    · rw [if_neg g5]
      rw [ev] at s5
      simp (disch := omega) only [z_bV_some, z_bI_some, z_bJ_some, z_bD_some, z_bR_some, cond_true, cond_false, Bool.and_true, Bool.true_and, Bool.not_false, Bool.not_true, Bool.and_self, Bool.or_true, Bool.false_or, Bool.true_or, zn_ok, zn_ok0, zn_N, zn_add, zn_mul, zn_sub, z_lt_T, z_lt_F, z_le_T, z_le_F, z_eq_T, z_ne_F, z_eq_F, z_ne_T, z_ix_T, z_lt_m, z_le_m, z_lt_m2, z_le_m2, z_eq_m, z_ne_m, zn_div, z_a31, zn_shl, zn_shr, z_bq_T, z_bq_F, z_bl_T, nL_0, nL_1, nL_2, nL_3, nL_5, nL_9, ew, hak, hpo, k4, s5]
      exact rResJ_st h _ _
