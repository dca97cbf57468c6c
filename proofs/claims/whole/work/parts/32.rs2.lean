/-! S LEVEL, the reference: sum, head, finding. -/
theorem L_so46 (d p : Nat) (B : zM) (T : zT) (hp : p < 400) (h : rT B p T) (hw : wT T) : ∀ (r i : Nat) (s : Int32), 9 ≤ i → i + r = 9 + tS T * tW T →
    z_denF zQ (d + 3) mQ_sumOf (46, [some (.ref 15), some (.int (zn p)), some (.int s), some (.int (zn (tW T))), some (.int (zn i))], [], B) = some (some (.int (fB (tY T) i r s)), B)
  | 0, i, s, h9, hi => by
    have hW := wT_W hw
    rw [L_Q_sumOf_46]
    simp (disch := omega) only [z_bV_some, z_bI_some, z_bJ_some, z_bD_some, z_bR_some, cond_true, cond_false, Bool.and_true, Bool.true_and, Bool.not_false, Bool.not_true, Bool.and_self, Bool.or_true, Bool.false_or, Bool.true_or, zn_ok, zn_ok0, zn_N, zn_add, zn_mul, zn_sub, z_lt_T, z_lt_F, z_le_T, z_le_F, z_eq_T, z_ne_F, z_eq_F, z_ne_T, z_ix_T, z_lt_m, z_le_m, z_lt_m2, z_le_m2, z_eq_m, z_ne_m, zn_div, z_a31, zn_shl, zn_shr, z_bq_T, z_bq_F, z_bl_T, nL_9, h.2.2.2.2.2.1]
    rfl
  | r + 1, i, s, h9, hi => by
    have hW := wT_W hw
    have ih := fun s => L_so46 d p B T hp h hw r (i + 1) s (by omega) (by omega)
    have e1 := E_Q_byteAt d p i B T hp h hw (by omega)
    rw [L_Q_sumOf_46]
    simp (disch := omega) only [z_bV_some, z_bI_some, z_bJ_some, z_bD_some, z_bR_some, cond_true, cond_false, Bool.and_true, Bool.true_and, Bool.not_false, Bool.not_true, Bool.and_self, Bool.or_true, Bool.false_or, Bool.true_or, zn_ok, zn_ok0, zn_N, zn_add, zn_mul, zn_sub, z_lt_T, z_lt_F, z_le_T, z_le_F, z_eq_T, z_ne_F, z_eq_F, z_ne_T, z_ix_T, z_lt_m, z_le_m, z_lt_m2, z_le_m2, z_eq_m, z_ne_m, zn_div, z_a31, zn_shl, zn_shr, z_bq_T, z_bq_F, z_bl_T, nL_9, nL_31, nL_1, h.2.2.2.2.2.1, e1, ih]
    rfl
theorem L_so4 (d p : Nat) (B : zM) (T : zT) (hp : p < 400) (h : rT B p T) (hw : wT T) : ∀ (r i : Nat) (s : Int32), i + r = 5 →
    z_denF zQ (d + 3) mQ_sumOf (4, [some (.ref 15), some (.int (zn p)), some (.int s), some (.int (zn i)), none], [], B) = some (some (.int (fB (tY T) 9 (tS T * tW T) (fB (tB T) i r s))), B)
  | 0, i, s, hi => by
    have e1 := E_Q_width (d + 1) (tK T) hw.1 B
    have e2 := L_so46 d p B T hp h hw (tS T * tW T) 9 s (by omega) (by omega)
    have e3 : wF (tK T) = tW T := rfl
    rw [L_Q_sumOf_4]
    simp (disch := omega) only [z_bV_some, z_bI_some, z_bJ_some, z_bD_some, z_bR_some, cond_true, cond_false, Bool.and_true, Bool.true_and, Bool.not_false, Bool.not_true, Bool.and_self, Bool.or_true, Bool.false_or, Bool.true_or, zn_ok, zn_ok0, zn_N, zn_add, zn_mul, zn_sub, z_lt_T, z_lt_F, z_le_T, z_le_F, z_eq_T, z_ne_F, z_eq_F, z_ne_T, z_ix_T, z_lt_m, z_le_m, z_lt_m2, z_le_m2, z_eq_m, z_ne_m, zn_div, z_a31, zn_shl, zn_shr, z_bq_T, z_bq_F, z_bl_T, nL_5, nL_9, h.1, e1, e3, e2]
    rfl
  | r + 1, i, s, hi => by
    have ih := fun s => L_so4 d p B T hp h hw r (i + 1) s (by omega)
    have e1 := h.2.2.2.2.2.2.1 i (by omega)
    rw [L_Q_sumOf_4]
    simp (disch := omega) only [z_bV_some, z_bI_some, z_bJ_some, z_bD_some, z_bR_some, cond_true, cond_false, Bool.and_true, Bool.true_and, Bool.not_false, Bool.not_true, Bool.and_self, Bool.or_true, Bool.false_or, Bool.true_or, zn_ok, zn_ok0, zn_N, zn_add, zn_mul, zn_sub, z_lt_T, z_lt_F, z_le_T, z_le_F, z_eq_T, z_ne_F, z_eq_F, z_ne_T, z_ix_T, z_lt_m, z_le_m, z_lt_m2, z_le_m2, z_eq_m, z_ne_m, zn_div, z_a31, zn_shl, zn_shr, z_bq_T, z_bq_F, z_bl_T, nL_5, nL_9, nL_31, nL_1, e1, ih]
    rfl
theorem E_Q_sumOf (d p : Nat) (B : zM) (T : zT) (hp : p < 400) (h : rT B p T) (hw : wT T) : z_den zQ (d + 3) mQ_sumOf [.ref 15, .int (zn p)] B = some (some (.int (tM T)), B) := by
  rw [B_Q_sumOf, nL_1, nL_0]
  exact L_so4 d p B T hp h hw 5 0 _ (by omega)
theorem E_Q_headShort (d p i : Nat) (B : zM) (T : zT) (hp : p < 400) (h : rT B p T) (hw : wT T) (hi : i + 1 < 9) : z_den zQ (d + 1) mQ_headShort [.ref 15, .int (zn p), .int (zn i)] B = some (some (.int (shF (tB T i) (tB T (i + 1)))), B) := by
  have k6 := h.2.2.2.2.2.2.1
  have e1 := k6 i (by omega)
  have e2 := k6 (i + 1) (by omega)
  have e3 := sh16 (a := tB T i) (b := tB T (i + 1)) (hw.2.2.2.2.2.2.2.1 i (by omega))
  unfold shF at e3 ⊢
  rw [B_Q_headShort]
  simp (disch := omega) only [z_bV_some, z_bI_some, z_bJ_some, z_bD_some, z_bR_some, cond_true, cond_false, Bool.and_true, Bool.true_and, Bool.not_false, Bool.not_true, Bool.and_self, Bool.or_true, Bool.false_or, Bool.true_or, zn_ok, zn_ok0, zn_N, zn_add, zn_mul, zn_sub, z_lt_T, z_lt_F, z_le_T, z_le_F, z_eq_T, z_ne_F, z_eq_F, z_ne_T, z_ix_T, z_lt_m, z_le_m, z_lt_m2, z_le_m2, z_eq_m, z_ne_m, zn_div, z_a31, zn_shl, zn_shr, z_bq_T, z_bq_F, z_bl_T, nL_9, nL_8, nL_31, nL_255, nL_1, Nat.add_assoc, e1, e2, e3]
theorem su_eq {f : Nat → Int32} (h : isB (f 5)) : ((((f 5) <<< zn 24) ||| (((f 6) &&& zn 255) <<< zn 16)) ||| (((f 7) &&& zn 255) <<< zn 8)) ||| ((f 8) &&& zn 255) = suF f := by
  have h5 := (isB_iff _).mp h
  apply tI_eq
  rw [suF_toInt h]
  have e6 := tI_255 (f 6)
  have e7 := tI_255 (f 7)
  have e8 := tI_255 (f 8)
  have s5 : ((f 5) <<< zn 24).toInt = (f 5).toInt * 16777216 := by rw [tI_shl (by omega)] <;> simp <;> omega
  have s6 : (((f 6) &&& zn 255) <<< zn 16).toInt = (f 6).toInt % 256 * 65536 := by rw [tI_shl (by omega)] <;> rw [e6] <;> simp <;> omega
  have s7 : (((f 7) &&& zn 255) <<< zn 8).toInt = (f 7).toInt % 256 * 256 := by rw [tI_shl (by omega)] <;> rw [e7] <;> simp <;> omega
  have o1 : (((f 5) <<< zn 24) ||| (((f 6) &&& zn 255) <<< zn 16)).toInt = (f 5).toInt * 16777216 + (f 6).toInt % 256 * 65536 := by
    rw [tI_or 24 (by omega) (by rw [s5]; simp) (by rw [s6]; omega) (by rw [s6]; simp; omega), s5, s6]
  have o2 : ((((f 5) <<< zn 24) ||| (((f 6) &&& zn 255) <<< zn 16)) ||| (((f 7) &&& zn 255) <<< zn 8)).toInt = (f 5).toInt * 16777216 + (f 6).toInt % 256 * 65536 + (f 7).toInt % 256 * 256 := by
    rw [tI_or 16 (by omega) (by rw [o1]; simp; omega) (by rw [s7]; omega) (by rw [s7]; simp; omega), o1, s7]
  rw [tI_or 8 (by omega) (by rw [o2]; simp; omega) (by rw [e8]; omega) (by rw [e8]; simp; omega), o2, e8]
  omega
theorem E_Q_headSum (d p : Nat) (B : zM) (T : zT) (hp : p < 400) (h : rT B p T) (hw : wT T) : z_den zQ (d + 1) mQ_headSum [.ref 15, .int (zn p)] B = some (some (.int (suF (tB T))), B) := by
  have k6 := h.2.2.2.2.2.2.1
  have e5 := k6 5 (by omega)
  have e6 := k6 6 (by omega)
  have e7 := k6 7 (by omega)
  have e8 := k6 8 (by omega)
  have es := su_eq (f := tB T) (hw.2.2.2.2.2.2.2.1 5 (by omega))
  rw [B_Q_headSum]
  simp (disch := omega) only [z_bV_some, z_bI_some, z_bJ_some, z_bD_some, z_bR_some, cond_true, cond_false, Bool.and_true, Bool.true_and, Bool.not_false, Bool.not_true, Bool.and_self, Bool.or_true, Bool.false_or, Bool.true_or, zn_ok, zn_ok0, zn_N, zn_add, zn_mul, zn_sub, z_lt_T, z_lt_F, z_le_T, z_le_F, z_eq_T, z_ne_F, z_eq_F, z_ne_T, z_ix_T, z_lt_m, z_le_m, z_lt_m2, z_le_m2, z_eq_m, z_ne_m, zn_div, z_a31, zn_shl, zn_shr, z_bq_T, z_bq_F, z_bl_T, nL_9, nL_8, nL_31, nL_255, nL_5, nL_6, nL_7, nL_24, nL_16, e5, e6, e7, e8, es]
