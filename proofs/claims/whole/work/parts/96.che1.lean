/-! S LEVEL, acts: trace. What it answers is what the row says; t is that row, the same on both sides. -/
noncomputable def oTr (J : zJ) (t : Nat → Int32) (x : Int32) : Value × Int32 × zJ × List Nat := pif (0 ≤ x.toInt ∧ x.toInt ≤ 16) (.int (t x.toNatClampNeg), 0, J, []) (.int (-1), -1, J, [])
theorem P_trace (d : Nat) {J : zJ} {A : zM} {t : Nat → Int32} {x : Int32} (h : cJ J A) (ht : ∀ j, j < 17 → zI A 10 j = t j) : cResI 0 0 A (oTr J t x) (z_den zQ (d + 2) mP_trace [.ref 1, .int x] A) := by
  unfold oTr
  rw [B_P_trace]
  rcases zn_cases x with hk | ⟨n, hn, rfl⟩
  · rw [pif_F (fun q => by omega), lt_0T hk, cond_true, B_P_refuse, z_bI_some]
    exact cRI_st h _ _
  · rw [zn_toInt hn]
    by_cases g : n < 17
    · rw [pif_T ⟨by omega, by omega⟩, zn_N hn, ht n g]
      have e : z_lt (zn n) 0 = false := by rw [nL_0]; exact z_lt_F (by omega) (by omega)
      simp (disch := omega) only [z_bV_some, z_bI_some, z_bJ_some, z_bD_some, z_bR_some, cond_true, cond_false, Bool.and_true, Bool.true_and, Bool.not_false, Bool.not_true, Bool.and_self, Bool.or_true, Bool.false_or, Bool.true_or, zn_ok, zn_ok0, zn_N, zn_add, zn_mul, zn_sub, z_lt_T, z_lt_F, z_le_T, z_le_F, z_eq_T, z_ne_F, z_eq_F, z_ne_T, z_ix_T, z_lt_m, z_le_m, z_lt_m2, z_le_m2, z_eq_m, z_ne_m, zn_div, z_a31, zn_shl, zn_shr, z_bq_T, z_bq_F, z_bl_T, nL_17, e, B_P_done]
      exact cRI_st h _ _
    · rw [pif_F (fun q => by omega)]
      have e : z_lt (zn n) 0 = false := by rw [nL_0]; exact z_lt_F (by omega) (by omega)
      simp (disch := omega) only [z_bV_some, z_bI_some, z_bJ_some, z_bD_some, z_bR_some, cond_true, cond_false, Bool.and_true, Bool.true_and, Bool.not_false, Bool.not_true, Bool.and_self, Bool.or_true, Bool.false_or, Bool.true_or, zn_ok, zn_ok0, zn_N, zn_add, zn_mul, zn_sub, z_lt_T, z_lt_F, z_le_T, z_le_F, z_eq_T, z_ne_F, z_eq_F, z_ne_T, z_ix_T, z_lt_m, z_le_m, z_lt_m2, z_le_m2, z_eq_m, z_ne_m, zn_div, z_a31, zn_shl, zn_shr, z_bq_T, z_bq_F, z_bl_T, nL_17, e, B_P_refuse]
      exact cRI_st h _ _
theorem Q_trace (d : Nat) {J : zJ} {B : zM} {t : Nat → Int32} {x : Int32} (h : rJ J B) (ht : ∀ j, j < 17 → zI B 39 j = t j) : rResI B (oTr J t x) (z_den zQ (d + 2) mQ_trace [.ref 15, .int x] B) := by
  unfold oTr
  rw [B_Q_trace, nL_16]
  by_cases g : 0 ≤ x.toInt ∧ x.toInt ≤ 16
  · rw [pif_T g, show z_den zQ (d + 1) mQ_within [.int x, .int 0, .int (zn 16)] B = some (some (.int (zn 1)), B) by rw [nL_0]; exact Q_within_T (a := 0) (n := 16) (by omega) (by omega) g, z_bI_some, z_eq_10, cond_false]
    obtain ⟨n, hn, rfl⟩ := zn_ex g.1
    rw [zn_toInt hn] at g
    rw [zn_N hn, ht n (by omega)]
    simp (disch := omega) only [z_bV_some, z_bI_some, z_bJ_some, z_bD_some, z_bR_some, cond_true, cond_false, Bool.and_true, Bool.true_and, Bool.not_false, Bool.not_true, Bool.and_self, Bool.or_true, Bool.false_or, Bool.true_or, zn_ok, zn_ok0, zn_N, zn_add, zn_mul, zn_sub, z_lt_T, z_lt_F, z_le_T, z_le_F, z_eq_T, z_ne_F, z_eq_F, z_ne_T, z_ix_T, z_lt_m, z_le_m, z_lt_m2, z_le_m2, z_eq_m, z_ne_m, zn_div, z_a31, zn_shl, zn_shr, z_bq_T, z_bq_F, z_bl_T, B_Q_well]
    exact rRI_st h _ _
  · rw [pif_F g, show z_den zQ (d + 1) mQ_within [.int x, .int 0, .int (zn 16)] B = some (some (.int (zn 0)), B) by rw [nL_0]; exact Q_within_F (a := 0) (n := 16) (by omega) (by omega) g, z_bI_some, z_eq_00, cond_true, B_Q_no, z_bI_some]
    exact rRI_st h _ _
