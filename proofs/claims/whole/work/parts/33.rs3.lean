/-! S LEVEL, the reference: what is found. -/
theorem E_Q_findingOf (d p : Nat) (B : zM) (T : zT) (hp : p < 400) (h : rT B p T) (hw : wT T) : z_den zQ (d + 4) mQ_findingOf [.ref 15, .int (zn p)] B = some (some (.int (zn (findT T))), B) := by
  have e1 := E_Q_headShort (d + 2) p 3 B T hp h hw (by omega)
  have e2 := E_Q_headSum (d + 2) p B T hp h hw
  have e3 := E_Q_sumOf d p B T hp h hw
  obtain ⟨k0, k1, k2, k3, k4, k5, k6, k7⟩ := h
  have k60 := k6 0 (by omega)
  rw [Nat.add_zero] at k60
  have hs := hw.2.2.2.2.1
  have ts : (zn (tS T)).toInt = tS T := zn_toInt (by omega)
  have t0 : (zn 0).toInt = 0 := zn_toInt (by omega)
  have hH := hw.2.2.2.1
  rw [B_Q_findingOf]
  unfold findT
  by_cases g1 : tL T = true
  · rw [if_pos g1]
    simp (disch := omega) only [z_bV_some, z_bI_some, z_bJ_some, z_bD_some, z_bR_some, cond_true, cond_false, Bool.and_true, Bool.true_and, Bool.not_false, Bool.not_true, Bool.and_self, Bool.or_true, Bool.false_or, Bool.true_or, zn_ok, zn_ok0, zn_N, zn_add, zn_mul, zn_sub, z_lt_T, z_lt_F, z_le_T, z_le_F, z_eq_T, z_ne_F, z_eq_F, z_ne_T, z_ix_T, z_lt_m, z_le_m, z_lt_m2, z_le_m2, z_eq_m, z_ne_m, zn_div, z_a31, zn_shl, zn_shr, z_bq_T, z_bq_F, z_bl_T, nL_0, nL_1, k3, bI_1 g1]
  rw [if_neg g1]
  by_cases g2 : tH T < 9
  · rw [if_pos g2]
    simp (disch := omega) only [z_bV_some, z_bI_some, z_bJ_some, z_bD_some, z_bR_some, cond_true, cond_false, Bool.and_true, Bool.true_and, Bool.not_false, Bool.not_true, Bool.and_self, Bool.or_true, Bool.false_or, Bool.true_or, zn_ok, zn_ok0, zn_N, zn_add, zn_mul, zn_sub, z_lt_T, z_lt_F, z_le_T, z_le_F, z_eq_T, z_ne_F, z_eq_F, z_ne_T, z_ix_T, z_lt_m, z_le_m, z_lt_m2, z_le_m2, z_eq_m, z_ne_m, zn_div, z_a31, zn_shl, zn_shr, z_bq_T, z_bq_F, z_bl_T, nL_0, nL_9, nL_2, k3, bI_0 g1, k4]
  rw [if_neg g2]
  by_cases g3 : tB T 0 = zn (tK T)
  · rw [if_neg (fun q => q g3)]
    generalize shF (tB T 3) (tB T (3 + 1)) = y at *
    by_cases g4 : (tS T : Int) < y.toInt
    · rw [if_pos g4]
      have q : z_le y (zn (tS T)) = false := z_le_ff (by omega)
      have q1 : y ≠ zn (tS T) := fun e => by rw [e] at g4; omega
      simp (disch := omega) only [z_bV_some, z_bI_some, z_bJ_some, z_bD_some, z_bR_some, cond_true, cond_false, Bool.and_true, Bool.true_and, Bool.not_false, Bool.not_true, Bool.and_self, Bool.or_true, Bool.false_or, Bool.true_or, zn_ok, zn_ok0, zn_N, zn_add, zn_mul, zn_sub, z_lt_T, z_lt_F, z_le_T, z_le_F, z_eq_T, z_ne_F, z_eq_F, z_ne_T, z_ix_T, z_lt_m, z_le_m, z_lt_m2, z_le_m2, z_eq_m, z_ne_m, zn_div, z_a31, zn_shl, zn_shr, z_bq_T, z_bq_F, z_bl_T, nL_0, nL_9, nL_3, nL_7, k3, bI_0 g1, k4, k60, k0, g3, e1, k5, q, z_eq_N q1]
    rw [if_neg g4]
    have q : z_le y (zn (tS T)) = true := z_le_tt (by omega)
    by_cases g5 : y.toInt < 0
    · rw [if_pos g5]
      have q2 : z_le (zn 0) y = false := z_le_ff (by omega)
      have q1 : y ≠ zn (tS T) := fun e => by rw [e] at g5; omega
      simp (disch := omega) only [z_bV_some, z_bI_some, z_bJ_some, z_bD_some, z_bR_some, cond_true, cond_false, Bool.and_true, Bool.true_and, Bool.not_false, Bool.not_true, Bool.and_self, Bool.or_true, Bool.false_or, Bool.true_or, zn_ok, zn_ok0, zn_N, zn_add, zn_mul, zn_sub, z_lt_T, z_lt_F, z_le_T, z_le_F, z_eq_T, z_ne_F, z_eq_F, z_ne_T, z_ix_T, z_lt_m, z_le_m, z_lt_m2, z_le_m2, z_eq_m, z_ne_m, zn_div, z_a31, zn_shl, zn_shr, z_bq_T, z_bq_F, z_bl_T, nL_0, nL_9, nL_3, nL_8, k3, bI_0 g1, k4, k60, k0, g3, e1, k5, q, q2, z_eq_N q1]
    rw [if_neg g5]
    have q2 : z_le (zn 0) y = true := z_le_tt (by omega)
    by_cases g6 : y.toInt < tS T
    · rw [if_pos g6]
      have q1 : y ≠ zn (tS T) := fun e => by rw [e] at g6; omega
      simp (disch := omega) only [z_bV_some, z_bI_some, z_bJ_some, z_bD_some, z_bR_some, cond_true, cond_false, Bool.and_true, Bool.true_and, Bool.not_false, Bool.not_true, Bool.and_self, Bool.or_true, Bool.false_or, Bool.true_or, zn_ok, zn_ok0, zn_N, zn_add, zn_mul, zn_sub, z_lt_T, z_lt_F, z_le_T, z_le_F, z_eq_T, z_ne_F, z_eq_F, z_ne_T, z_ix_T, z_lt_m, z_le_m, z_lt_m2, z_le_m2, z_eq_m, z_ne_m, zn_div, z_a31, zn_shl, zn_shr, z_bq_T, z_bq_F, z_bl_T, nL_0, nL_9, nL_3, nL_8, k3, bI_0 g1, k4, k60, k0, g3, e1, k5, q, q2, z_eq_N q1]
    rw [if_neg g6]
    have q1 : y = zn (tS T) := tI_eq (by omega)
    by_cases g7 : suF (tB T) = tM T
    · rw [if_pos g7]
      simp (disch := omega) only [z_bV_some, z_bI_some, z_bJ_some, z_bD_some, z_bR_some, cond_true, cond_false, Bool.and_true, Bool.true_and, Bool.not_false, Bool.not_true, Bool.and_self, Bool.or_true, Bool.false_or, Bool.true_or, zn_ok, zn_ok0, zn_N, zn_add, zn_mul, zn_sub, z_lt_T, z_lt_F, z_le_T, z_le_F, z_eq_T, z_ne_F, z_eq_F, z_ne_T, z_ix_T, z_lt_m, z_le_m, z_lt_m2, z_le_m2, z_eq_m, z_ne_m, zn_div, z_a31, zn_shl, zn_shr, z_bq_T, z_bq_F, z_bl_T, nL_0, nL_9, nL_3, nL_8, k3, bI_0 g1, k4, k60, k0, g3, e1, k5, q1, e2, e3, g7]
    · rw [if_neg g7]
      simp (disch := omega) only [z_bV_some, z_bI_some, z_bJ_some, z_bD_some, z_bR_some, cond_true, cond_false, Bool.and_true, Bool.true_and, Bool.not_false, Bool.not_true, Bool.and_self, Bool.or_true, Bool.false_or, Bool.true_or, zn_ok, zn_ok0, zn_N, zn_add, zn_mul, zn_sub, z_lt_T, z_lt_F, z_le_T, z_le_F, z_eq_T, z_ne_F, z_eq_F, z_ne_T, z_ix_T, z_lt_m, z_le_m, z_lt_m2, z_le_m2, z_eq_m, z_ne_m, zn_div, z_a31, zn_shl, zn_shr, z_bq_T, z_bq_F, z_bl_T, nL_0, nL_9, nL_3, nL_8, k3, bI_0 g1, k4, k60, k0, g3, e1, k5, q1, e2, e3, z_ne_N g7]
  · rw [if_pos g3]
    simp (disch := omega) only [z_bV_some, z_bI_some, z_bJ_some, z_bD_some, z_bR_some, cond_true, cond_false, Bool.and_true, Bool.true_and, Bool.not_false, Bool.not_true, Bool.and_self, Bool.or_true, Bool.false_or, Bool.true_or, zn_ok, zn_ok0, zn_N, zn_add, zn_mul, zn_sub, z_lt_T, z_lt_F, z_le_T, z_le_F, z_eq_T, z_ne_F, z_eq_F, z_ne_T, z_ix_T, z_lt_m, z_le_m, z_lt_m2, z_le_m2, z_eq_m, z_ne_m, zn_div, z_a31, zn_shl, zn_shr, z_bq_T, z_bq_F, z_bl_T, nL_0, nL_9, nL_5, k3, bI_0 g1, k4, k60, k0, z_eq_N g3]
