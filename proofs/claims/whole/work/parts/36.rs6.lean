/-! S LEVEL: likeness, as both tell it. -/
theorem lk_iff {T T' : zT} (hw : wT T) (hw' : wT T') (hK : tK T = tK T') (hN : tN T = tN T') (hU : tU T = tU T') (hL : tL T = tL T') : lkT T T' = (if tH T = tH T' ∧ tS T = tS T' then (eqR (tB T) (tB T') 0 (tH T) && eqR (tE T) (tE T') 0 (tS T)) else false) := by
  have hW : tW T = tW T' := by unfold tW; rw [hK]
  have hp := wT_pos T
  have d1 : tZ T = tH T + tS T * tW T := rfl
  have d2 : tZ T' = tH T' + tS T' * tW T := by rw [hW]; rfl
  have m1 := mul_pos_le (a := tS T) hp
  have m2 := mul_pos_le (a := tS T') hp
  have w6 := hw.2.2.2.2.2.1
  have v6 := hw'.2.2.2.2.2.1
  have w4 := hw.2.2.2.1
  have v4 := hw'.2.2.2.1
  have hz : tZ T = tZ T' ↔ (tH T = tH T' ∧ tS T = tS T') := by
    constructor
    · intro e
      by_cases a : 0 < tS T
      · by_cases b : 0 < tS T'
        · have := w6 a
          have := v6 b
          have e2 : tS T * tW T = tS T' * tW T := by omega
          exact ⟨by omega, Nat.eq_of_mul_eq_mul_right hp e2⟩
        · have := w6 a
          have b0 : tS T' = 0 := by omega
          rw [b0, Nat.zero_mul] at d2
          omega
      · have a0 : tS T = 0 := by omega
        rw [a0, Nat.zero_mul] at d1
        by_cases b : 0 < tS T'
        · have := v6 b
          omega
        · have b0 : tS T' = 0 := by omega
          rw [b0, Nat.zero_mul] at d2
          omega
    · rintro ⟨e1, e2⟩
      rw [d1, d2, e1, e2]
  unfold lkT
  by_cases g : tH T = tH T' ∧ tS T = tS T'
  · rw [if_pos g, if_pos ⟨hK, hN, hU, hL, hz.mpr g⟩]
    rw [Bool.eq_iff_iff, Bool.and_eq_true, eqR_iff, eqR_iff, eqR_iff]
    constructor
    · intro h
      refine ⟨fun j _ j2 => ?_, fun k _ k2 => ?_⟩
      · have := h j (by omega) (by omega)
        unfold tY at this
        rw [if_pos (by omega), if_pos (by omega)] at this
        exact this
      · have hk : k < 256 := by have := hw.2.2.2.2.1; omega
        have e1 := nu_el hw hk
        have e2 := nu_el hw' hk
        have h9 := w6 (by omega)
        have q1 : (k + 1) * tW T ≤ tS T * tW T := Nat.mul_le_mul_right _ (by omega)
        rw [Nat.succ_mul] at q1
        have ec : nuF (tY T) (9 + k * tW T) (tW T) = nuF (tY T') (9 + k * tW T) (tW T) := nuF_congr _ (fun i i1 i2 => h i (by omega) (by omega))
        rw [← e1, ← e2, ec, hK, hW]
    · rintro ⟨h1, h2⟩ i _ i2
      by_cases h9 : i < 9
      · unfold tY
        rw [if_pos h9, if_pos h9]
        refine h1 i (by omega) ?_
        by_cases a : 0 < tS T
        · have := w6 a; omega
        · have a0 : tS T = 0 := by omega
          rw [a0, Nat.zero_mul] at d1
          omega
      · obtain ⟨q, j, hj, rfl⟩ := tY_ge (T := T) (i := i) (by omega)
        have e1 := tY_el (T := T) (k := q) hj
        have e2 := tY_el (T := T') (k := q) (j := j) (by omega)
        rw [← hW] at e2
        rw [e1, e2, h2 q (by omega)]
        have : q * tW T < tS T * tW T := by omega
        have := Nat.lt_of_mul_lt_mul_right this
        omega
  · rw [if_neg g, if_neg (fun q => g (hz.mp q.2.2.2.2))]
theorem L_al156 (d p q : Nat) (B : zM) (T T' : zT) (hp : p < 400) (hq : q < 400) (h : rT B p T) (h' : rT B q T') (hw : wT T) : ∀ (r i : Nat) (b : Bool), i + r = tS T →
    z_denF zQ (d + 1) mQ_areAlike (156, [some (.ref 15), some (.int (zn p)), some (.int (zn q)), some (.int (bI b)), some (.int (zn i))], [], B) = some (some (.int (bI (b && eqR (tE T) (tE T') i r))), B)
  | 0, i, b, hi => by
    have hs := hw.2.2.2.2.1
    have e1 : eqR (tE T) (tE T') i 0 = true := rfl
    rw [L_Q_areAlike_156]
    simp (disch := omega) only [z_bV_some, z_bI_some, z_bJ_some, z_bD_some, z_bR_some, cond_true, cond_false, Bool.and_true, Bool.true_and, Bool.not_false, Bool.not_true, Bool.and_self, Bool.or_true, Bool.false_or, Bool.true_or, zn_ok, zn_ok0, zn_N, zn_add, zn_mul, zn_sub, z_lt_T, z_lt_F, z_le_T, z_le_F, z_eq_T, z_ne_F, z_eq_F, z_ne_T, z_ix_T, z_lt_m, z_le_m, z_lt_m2, z_le_m2, z_eq_m, z_ne_m, zn_div, z_a31, zn_shl, zn_shr, z_bq_T, z_bq_F, z_bl_T, bI_ok, e1, h.2.2.2.2.2.1]
  | r + 1, i, b, hi => by
    have hs := hw.2.2.2.2.1
    have k7 := h.2.2.2.2.2.2.2 i (by omega)
    have l7 := h'.2.2.2.2.2.2.2 i (by omega)
    rw [L_Q_areAlike_156]
    cases b with
    | false =>
      have q0 : z_eq (bI false) (zn 0) = true := by rw [bI_F]; exact z_eq_T _
      simp (disch := omega) only [z_bV_some, z_bI_some, z_bJ_some, z_bD_some, z_bR_some, cond_true, cond_false, Bool.and_true, Bool.true_and, Bool.not_false, Bool.not_true, Bool.and_self, Bool.or_true, Bool.false_or, Bool.true_or, zn_ok, zn_ok0, zn_N, zn_add, zn_mul, zn_sub, z_lt_T, z_lt_F, z_le_T, z_le_F, z_eq_T, z_ne_F, z_eq_F, z_ne_T, z_ix_T, z_lt_m, z_le_m, z_lt_m2, z_le_m2, z_eq_m, z_ne_m, zn_div, z_a31, zn_shl, zn_shr, z_bq_T, z_bq_F, z_bl_T, nL_0, bI_ok, h.2.2.2.2.2.1, q0, Bool.false_and]
    | true =>
      have ih := fun b => L_al156 d p q B T T' hp hq h h' hw r (i + 1) b (by omega)
      have i0 := ih false
      have i1 := ih true
      rw [bI_F] at i0
      rw [bI_T] at i1
      unfold eqR
      by_cases e : tE T i = tE T' i
      · rw [if_pos e]
        simp (disch := omega) only [z_bV_some, z_bI_some, z_bJ_some, z_bD_some, z_bR_some, cond_true, cond_false, Bool.and_true, Bool.true_and, Bool.not_false, Bool.not_true, Bool.and_self, Bool.or_true, Bool.false_or, Bool.true_or, zn_ok, zn_ok0, zn_N, zn_add, zn_mul, zn_sub, z_lt_T, z_lt_F, z_le_T, z_le_F, z_eq_T, z_ne_F, z_eq_F, z_ne_T, z_ix_T, z_lt_m, z_le_m, z_lt_m2, z_le_m2, z_eq_m, z_ne_m, zn_div, z_a31, zn_shl, zn_shr, z_bq_T, z_bq_F, z_bl_T, nL_0, nL_1, nL_256, h.2.2.2.2.2.1, bI_T, k7, l7, e, i1]
      · rw [if_neg e]
        simp (disch := omega) only [z_bV_some, z_bI_some, z_bJ_some, z_bD_some, z_bR_some, cond_true, cond_false, Bool.and_true, Bool.true_and, Bool.not_false, Bool.not_true, Bool.and_self, Bool.or_true, Bool.false_or, Bool.true_or, zn_ok, zn_ok0, zn_N, zn_add, zn_mul, zn_sub, z_lt_T, z_lt_F, z_le_T, z_le_F, z_eq_T, z_ne_F, z_eq_F, z_ne_T, z_ix_T, z_lt_m, z_le_m, z_lt_m2, z_le_m2, z_eq_m, z_ne_m, zn_div, z_a31, zn_shl, zn_shr, z_bq_T, z_bq_F, z_bl_T, nL_0, nL_1, nL_256, h.2.2.2.2.2.1, bI_T, k7, l7, z_ne_N e, i0, Bool.false_and, Bool.and_false]
theorem L_al99 (d p q : Nat) (B : zM) (T T' : zT) (hp : p < 400) (hq : q < 400) (h : rT B p T) (h' : rT B q T') (hw : wT T) : ∀ (r i : Nat) (b : Bool), i + r = tH T →
    z_denF zQ (d + 1) mQ_areAlike (99, [some (.ref 15), some (.int (zn p)), some (.int (zn q)), some (.int (bI b)), some (.int (zn i))], [], B) = some (some (.int (bI (b && (eqR (tB T) (tB T') i r && eqR (tE T) (tE T') 0 (tS T))))), B)
  | 0, i, b, hi => by
    have hs := hw.2.2.2.1
    have e1 : eqR (tB T) (tB T') i 0 = true := rfl
    have e2 := L_al156 d p q B T T' hp hq h h' hw (tS T) 0 b (by omega)
    rw [L_Q_areAlike_99]
    simp (disch := omega) only [z_bV_some, z_bI_some, z_bJ_some, z_bD_some, z_bR_some, cond_true, cond_false, Bool.and_true, Bool.true_and, Bool.not_false, Bool.not_true, Bool.and_self, Bool.or_true, Bool.false_or, Bool.true_or, zn_ok, zn_ok0, zn_N, zn_add, zn_mul, zn_sub, z_lt_T, z_lt_F, z_le_T, z_le_F, z_eq_T, z_ne_F, z_eq_F, z_ne_T, z_ix_T, z_lt_m, z_le_m, z_lt_m2, z_le_m2, z_eq_m, z_ne_m, zn_div, z_a31, zn_shl, zn_shr, z_bq_T, z_bq_F, z_bl_T, nL_0, e1, e2, h.2.2.2.2.1]
  | r + 1, i, b, hi => by
    have hs := hw.2.2.2.1
    have k6 := h.2.2.2.2.2.2.1 i (by omega)
    have l6 := h'.2.2.2.2.2.2.1 i (by omega)
    rw [L_Q_areAlike_99]
    cases b with
    | false =>
      have e2 := L_al156 d p q B T T' hp hq h h' hw (tS T) 0 false (by omega)
      rw [bI_F] at e2
      simp (disch := omega) only [z_bV_some, z_bI_some, z_bJ_some, z_bD_some, z_bR_some, cond_true, cond_false, Bool.and_true, Bool.true_and, Bool.not_false, Bool.not_true, Bool.and_self, Bool.or_true, Bool.false_or, Bool.true_or, zn_ok, zn_ok0, zn_N, zn_add, zn_mul, zn_sub, z_lt_T, z_lt_F, z_le_T, z_le_F, z_eq_T, z_ne_F, z_eq_F, z_ne_T, z_ix_T, z_lt_m, z_le_m, z_lt_m2, z_le_m2, z_eq_m, z_ne_m, zn_div, z_a31, zn_shl, zn_shr, z_bq_T, z_bq_F, z_bl_T, nL_0, h.2.2.2.2.1, bI_F, Bool.false_and, e2]
    | true =>
      have ih := fun b => L_al99 d p q B T T' hp hq h h' hw r (i + 1) b (by omega)
      have i0 := ih false
      have i1 := ih true
      rw [bI_F] at i0
      rw [bI_T] at i1
      have eu : eqR (tB T) (tB T') i (r + 1) = if tB T i = tB T' i then eqR (tB T) (tB T') (i + 1) r else false := rfl
      rw [eu]
      by_cases e : tB T i = tB T' i
      · rw [if_pos e]
        simp (disch := omega) only [z_bV_some, z_bI_some, z_bJ_some, z_bD_some, z_bR_some, cond_true, cond_false, Bool.and_true, Bool.true_and, Bool.not_false, Bool.not_true, Bool.and_self, Bool.or_true, Bool.false_or, Bool.true_or, zn_ok, zn_ok0, zn_N, zn_add, zn_mul, zn_sub, z_lt_T, z_lt_F, z_le_T, z_le_F, z_eq_T, z_ne_F, z_eq_F, z_ne_T, z_ix_T, z_lt_m, z_le_m, z_lt_m2, z_le_m2, z_eq_m, z_ne_m, zn_div, z_a31, zn_shl, zn_shr, z_bq_T, z_bq_F, z_bl_T, nL_0, nL_1, nL_9, h.2.2.2.2.1, bI_T, k6, l6, e, i1]
      · rw [if_neg e]
        simp (disch := omega) only [z_bV_some, z_bI_some, z_bJ_some, z_bD_some, z_bR_some, cond_true, cond_false, Bool.and_true, Bool.true_and, Bool.not_false, Bool.not_true, Bool.and_self, Bool.or_true, Bool.false_or, Bool.true_or, zn_ok, zn_ok0, zn_N, zn_add, zn_mul, zn_sub, z_lt_T, z_lt_F, z_le_T, z_le_F, z_eq_T, z_ne_F, z_eq_F, z_ne_T, z_ix_T, z_lt_m, z_le_m, z_lt_m2, z_le_m2, z_eq_m, z_ne_m, zn_div, z_a31, zn_shl, zn_shr, z_bq_T, z_bq_F, z_bl_T, nL_0, nL_1, nL_9, h.2.2.2.2.1, bI_T, k6, l6, z_ne_N e, i0, Bool.false_and, Bool.and_false]
theorem E_Q_areAlike (d p q : Nat) (B : zM) (T T' : zT) (hp : p < 400) (hq : q < 400) (h : rT B p T) (h' : rT B q T') (hw : wT T) (hw' : wT T') : z_den zQ (d + 1) mQ_areAlike [.ref 15, .int (zn p), .int (zn q)] B = some (some (.int (bI (lkT T T'))), B) := by
  have e1 := L_al99 d p q B T T' hp hq h h' hw (tH T) 0 true (by omega)
  have e0 := L_al99 d p q B T T' hp hq h h' hw (tH T) 0 false (by omega)
  rw [bI_T] at e1
  rw [bI_F, Bool.false_and] at e0
  obtain ⟨k0, k1, k2, k3, k4, k5, k6, k7⟩ := h
  obtain ⟨l0, l1, l2, l3, l4, l5, l6, l7⟩ := h'
  have w1 := hw.1
  have w2 := hw.2.1
  have w3 := hw.2.2.1
  have w4 := hw.2.2.2.1
  have w5 := hw.2.2.2.2.1
  have v1 := hw'.1
  have v2 := hw'.2.1
  have v3 := hw'.2.2.1
  have v4 := hw'.2.2.2.1
  have v5 := hw'.2.2.2.2.1
  rw [B_Q_areAlike]
  by_cases g1 : tK T = tK T'
  · by_cases g2 : tN T = tN T'
    · by_cases g3 : tU T = tU T'
      · by_cases g4 : tL T = tL T'
        · rw [lk_iff hw hw' g1 g2 g3 g4]
          by_cases g5 : tH T = tH T'
          · by_cases g6 : tS T = tS T'
            · rw [if_pos ⟨g5, g6⟩]
              rw [g1] at k0; rw [g2] at k1; rw [g3] at k2; rw [g4] at k3; rw [g5] at k4; rw [g6] at k5
              simp (disch := omega) only [z_bV_some, z_bI_some, z_bJ_some, z_bD_some, z_bR_some, cond_true, cond_false, Bool.and_true, Bool.true_and, Bool.not_false, Bool.not_true, Bool.and_self, Bool.or_true, Bool.false_or, Bool.true_or, zn_ok, zn_ok0, zn_N, zn_add, zn_mul, zn_sub, z_lt_T, z_lt_F, z_le_T, z_le_F, z_eq_T, z_ne_F, z_eq_F, z_ne_T, z_ix_T, z_lt_m, z_le_m, z_lt_m2, z_le_m2, z_eq_m, z_ne_m, zn_div, z_a31, zn_shl, zn_shr, z_bq_T, z_bq_F, z_bl_T, nL_0, nL_1, k0, k1, k2, k3, k4, k5, l0, l1, l2, l3, l4, l5, e1]
            · rw [if_neg (fun q => g6 q.2)]
              rw [g1] at k0; rw [g2] at k1; rw [g3] at k2; rw [g4] at k3; rw [g5] at k4
              simp (disch := omega) only [z_bV_some, z_bI_some, z_bJ_some, z_bD_some, z_bR_some, cond_true, cond_false, Bool.and_true, Bool.true_and, Bool.not_false, Bool.not_true, Bool.and_self, Bool.or_true, Bool.false_or, Bool.true_or, zn_ok, zn_ok0, zn_N, zn_add, zn_mul, zn_sub, z_lt_T, z_lt_F, z_le_T, z_le_F, z_eq_T, z_ne_F, z_eq_F, z_ne_T, z_ix_T, z_lt_m, z_le_m, z_lt_m2, z_le_m2, z_eq_m, z_ne_m, zn_div, z_a31, zn_shl, zn_shr, z_bq_T, z_bq_F, z_bl_T, nL_0, nL_1, k0, k1, k2, k3, k4, k5, l0, l1, l2, l3, l4, l5, e0]
          · rw [if_neg (fun q => g5 q.1)]
            rw [g1] at k0; rw [g2] at k1; rw [g3] at k2; rw [g4] at k3
            simp (disch := omega) only [z_bV_some, z_bI_some, z_bJ_some, z_bD_some, z_bR_some, cond_true, cond_false, Bool.and_true, Bool.true_and, Bool.not_false, Bool.not_true, Bool.and_self, Bool.or_true, Bool.false_or, Bool.true_or, zn_ok, zn_ok0, zn_N, zn_add, zn_mul, zn_sub, z_lt_T, z_lt_F, z_le_T, z_le_F, z_eq_T, z_ne_F, z_eq_F, z_ne_T, z_ix_T, z_lt_m, z_le_m, z_lt_m2, z_le_m2, z_eq_m, z_ne_m, zn_div, z_a31, zn_shl, zn_shr, z_bq_T, z_bq_F, z_bl_T, nL_0, nL_1, k0, k1, k2, k3, k4, k5, l0, l1, l2, l3, l4, l5, e0]
        · have : lkT T T' = false := by unfold lkT; rw [if_neg (fun q => g4 q.2.2.2.1)]
          have n4 : bI (tL T) ≠ bI (tL T') := fun e => g4 (bI_inj e)
          rw [this]
          rw [g1] at k0; rw [g2] at k1; rw [g3] at k2
          simp (disch := omega) only [z_bV_some, z_bI_some, z_bJ_some, z_bD_some, z_bR_some, cond_true, cond_false, Bool.and_true, Bool.true_and, Bool.not_false, Bool.not_true, Bool.and_self, Bool.or_true, Bool.false_or, Bool.true_or, zn_ok, zn_ok0, zn_N, zn_add, zn_mul, zn_sub, z_lt_T, z_lt_F, z_le_T, z_le_F, z_eq_T, z_ne_F, z_eq_F, z_ne_T, z_ix_T, z_lt_m, z_le_m, z_lt_m2, z_le_m2, z_eq_m, z_ne_m, zn_div, z_a31, zn_shl, zn_shr, z_bq_T, z_bq_F, z_bl_T, nL_0, nL_1, k0, k1, k2, k3, k4, k5, l0, l1, l2, l3, l4, l5, e0, z_ne_N n4]
      · have : lkT T T' = false := by unfold lkT; rw [if_neg (fun q => g3 q.2.2.1)]
        rw [this]
        rw [g1] at k0; rw [g2] at k1
        simp (disch := omega) only [z_bV_some, z_bI_some, z_bJ_some, z_bD_some, z_bR_some, cond_true, cond_false, Bool.and_true, Bool.true_and, Bool.not_false, Bool.not_true, Bool.and_self, Bool.or_true, Bool.false_or, Bool.true_or, zn_ok, zn_ok0, zn_N, zn_add, zn_mul, zn_sub, z_lt_T, z_lt_F, z_le_T, z_le_F, z_eq_T, z_ne_F, z_eq_F, z_ne_T, z_ix_T, z_lt_m, z_le_m, z_lt_m2, z_le_m2, z_eq_m, z_ne_m, zn_div, z_a31, zn_shl, zn_shr, z_bq_T, z_bq_F, z_bl_T, nL_0, nL_1, k0, k1, k2, k3, k4, k5, l0, l1, l2, l3, l4, l5, e0]
    · have : lkT T T' = false := by unfold lkT; rw [if_neg (fun q => g2 q.2.1)]
      rw [this]
      rw [g1] at k0
      simp (disch := omega) only [z_bV_some, z_bI_some, z_bJ_some, z_bD_some, z_bR_some, cond_true, cond_false, Bool.and_true, Bool.true_and, Bool.not_false, Bool.not_true, Bool.and_self, Bool.or_true, Bool.false_or, Bool.true_or, zn_ok, zn_ok0, zn_N, zn_add, zn_mul, zn_sub, z_lt_T, z_lt_F, z_le_T, z_le_F, z_eq_T, z_ne_F, z_eq_F, z_ne_T, z_ix_T, z_lt_m, z_le_m, z_lt_m2, z_le_m2, z_eq_m, z_ne_m, zn_div, z_a31, zn_shl, zn_shr, z_bq_T, z_bq_F, z_bl_T, nL_0, nL_1, k0, k1, k2, k3, k4, k5, l0, l1, l2, l3, l4, l5, e0]
  · have : lkT T T' = false := by unfold lkT; rw [if_neg (fun q => g1 q.1)]
    rw [this]
    simp (disch := omega) only [z_bV_some, z_bI_some, z_bJ_some, z_bD_some, z_bR_some, cond_true, cond_false, Bool.and_true, Bool.true_and, Bool.not_false, Bool.not_true, Bool.and_self, Bool.or_true, Bool.false_or, Bool.true_or, zn_ok, zn_ok0, zn_N, zn_add, zn_mul, zn_sub, z_lt_T, z_lt_F, z_le_T, z_le_F, z_eq_T, z_ne_F, z_eq_F, z_ne_T, z_ix_T, z_lt_m, z_le_m, z_lt_m2, z_le_m2, z_eq_m, z_ne_m, zn_div, z_a31, zn_shl, zn_shr, z_bq_T, z_bq_F, z_bl_T, nL_0, nL_1, k0, k1, k2, k3, k4, k5, l0, l1, l2, l3, l4, l5, e0]
