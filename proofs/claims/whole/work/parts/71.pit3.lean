/-! S LEVEL: pitches of the plain kinds, the reference. -/
theorem r_floor (d : Nat) (M : zM) {x : UInt64} {a b : Nat} (h : nnD x a b) (ha : 1 ≤ a) (hb : b ≤ 1074) : z_den zQ (d + 1) mQ_floor [.double x] M = some (some (.double (UInt64.ofNat (iN (dN x)))), M) := by
  have hd := dN_ok h ha hb
  rw [B_Q_floor, hd.1, zl_n (by omega)]
theorem r_plain (d : Nat) (M : zM) {i s nr : Nat} {x : UInt64} (hi : i < 60) (h26 : zI M 26 i = zn s) (h31 : zI M 31 i = zn nr) (hn : nr ≤ 1) (hx : nr = 0 → zf_mul.1 (zD M 15 22) (zD M 32 i) = x) (hx0 : nr = 1 → x = 0) (hR : xR x) (hs : s ≤ 5) (hs3 : s ≠ 3) : z_den zQ (d + 3) mQ_plainOf [.ref 15, .int (zn i)] M = some (some (.double (ptF s x)), zbs 39 (bkF s) M) := by
  have n1 : z_num x = true := nnD_num hR (by omega)
  have n2 := nnD_num (x_h hR) (by omega)
  have n3 := nnD_num (x_h4 hR) (by omega)
  have n4 := nnD_num (x_8 hR) (by omega)
  have k1 := dN_ok (x_h4 hR) (by omega) (by omega)
  have k2 := dN_ok (x_8 hR) (by omega) (by omega)
  have k3 := dN_ok (i_8 (nr_lt hR)) (by omega) (by omega)
  have n5 := nnD_num (i_4 (show dN (zf_mul.1 (zf_div.1 x 4611686018427387904) 4616189618054758400) < 9007199254740992 by omega)) (by omega)
  have n6 := nnD_num (i_8 (nr_lt hR)) (by omega)
  have n7 := nP_num (za_q k3.2)
  have f1 := fun E : zM => r_floor (d + 1) E (x_h4 hR) (by omega) (by omega)
  have f2 := fun E : zM => r_floor (d + 1) E (i_8 (nr_lt hR)) (by omega) (by omega)
  have f3 := fun E : zM => Q_near d E k2.1 (nP_of (x_8 hR) (by omega) (by omega)) k2.2
  rw [B_Q_plainOf]
  have hnr : nr = 0 ∨ nr = 1 := by omega
  rcases hnr with g | g
  · subst g
    have hx := hx rfl
    have hs6 : s = 0 ∨ s = 1 ∨ s = 2 ∨ s = 4 ∨ s = 5 := by omega
    rcases hs6 with g | g | g | g | g <;> subst g <;> simp (disch := omega) only [z_bV_some, z_bI_some, z_bJ_some, z_bD_some, z_bR_some, cond_true, cond_false, Bool.and_true, Bool.true_and, Bool.not_false, Bool.not_true, Bool.and_self, Bool.or_true, Bool.false_or, Bool.true_or, zn_ok, zn_ok0, zn_N, zn_add, zn_mul, zn_sub, z_lt_T, z_lt_F, z_le_T, z_le_F, z_eq_T, z_ne_F, z_eq_F, z_ne_T, z_ix_T, z_lt_m, z_le_m, z_lt_m2, z_le_m2, z_eq_m, z_ne_m, zn_div, z_a31, zn_shl, zn_shr, z_bq_T, z_bq_F, z_bl_T, nL_0, nL_1, nL_2, nL_3, nL_4, nL_8, nL_9, nL_10, nL_11, nL_12, h26, h31, hx, n1, n2, n3, n4, n5, n6, n7, f1, f2, f3] <;> rfl
  · subst g
    have hx0 := hx0 rfl
    subst hx0
    have hs6 : s = 0 ∨ s = 1 ∨ s = 2 ∨ s = 4 ∨ s = 5 := by omega
    rcases hs6 with g | g | g | g | g <;> subst g <;> simp (disch := omega) only [z_bV_some, z_bI_some, z_bJ_some, z_bD_some, z_bR_some, cond_true, cond_false, Bool.and_true, Bool.true_and, Bool.not_false, Bool.not_true, Bool.and_self, Bool.or_true, Bool.false_or, Bool.true_or, zn_ok, zn_ok0, zn_N, zn_add, zn_mul, zn_sub, z_lt_T, z_lt_F, z_le_T, z_le_F, z_eq_T, z_ne_F, z_eq_F, z_ne_T, z_ix_T, z_lt_m, z_le_m, z_lt_m2, z_le_m2, z_eq_m, z_ne_m, zn_div, z_a31, zn_shl, zn_shr, z_bq_T, z_bq_F, z_bl_T, nL_0, nL_1, nL_2, nL_3, nL_4, nL_8, nL_9, nL_10, nL_11, nL_12, h26, h31, n1, n2, n3, n4, n5, n6, n7, f1, f2, f3] <;> rfl
