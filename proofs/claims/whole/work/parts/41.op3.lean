/-! S LEVEL, acts: punch. -/
theorem find_lt (T : zT) : findT T < 10 := by
  unfold findT
  (repeat' split) <;> omega
theorem rT_E {B : zM} {p k : Nat} {T : zT} {v : Int32} (h : rT B p T) (hk : k < 256) : rT (z_wI B 25 (256 * p + k) v) p (setE T k v) := by
  obtain ⟨k0, k1, k2, k3, k4, k5, k6, k7⟩ := h
  refine ⟨?_, ?_, ?_, ?_, ?_, ?_, fun j hj => ?_, fun j hj => ?_⟩
  · rw [zI_wI_a (by omega)]; exact k0
  · rw [zI_wI_a (by omega)]; exact k1
  · rw [zI_wI_a (by omega)]; exact k2
  · rw [zI_wI_a (by omega)]; exact k3
  · rw [zI_wI_a (by omega)]; exact k4
  · rw [zI_wI_a (by omega)]; exact k5
  · rw [zI_wI_a (by omega)]; exact k6 j hj
  · show _ = (if j = k then v else tE T j)
    by_cases e : j = k
    · rw [if_pos e, e, zI_wI_s]
    · rw [if_neg e, zI_wI_k (by omega)]; exact k7 j hj
noncomputable def puT (T : zT) (k : Nat) (v : Int32) : zT := if findT T = 0 then sealT (setE T k (loF (tK T) v)) else setE T k (loF (tK T) v)
theorem wT_pu {T : zT} (h : wT T) (hl : tL T = false) (k : Nat) (v : Int32) : wT (puT T k v) := by
  unfold puT
  split
  · exact wT_seal (wT_setE h k v) hl
  · exact wT_setE h k v
theorem tS_pu (T : zT) (k : Nat) (v : Int32) : tS (puT T k v) = tS T := by unfold puT; split <;> rfl
noncomputable def oPunch (pl : Bool) (G : zG) (x y k v : Int32) : Int32 × Int32 × zG := pif (sOk G x y) (if pl = true then (-3, -3, G) else if tL (sA G x y) = true then ((-10) - zn 1, zn 1, G) else pif (0 ≤ k.toInt ∧ k.toInt < tS (sA G x y)) (zn 1, zn 0, updT G (pO G x y) (puT (sA G x y) k.toNatClampNeg v) (gE G)) ((-10) - zn 2, zn 2, G)) (-1, -1, G)
theorem tL_f {T : zT} (h : ¬ tL T = true) : tL T = false := by cases q : tL T <;> simp_all
theorem put_xcU {A : zM} {a lo n : Nat} {g : Nat → Int32} : zFr 0 0 (xcU a (zP zQ A a 4)) A (z_put A (zP zQ A a 4) lo n g) := zFr_put (fun _ _ _ => Or.inl (Or.inl rfl))
theorem P_punch (d : Nat) {pl : Bool} {G : zG} {al : Nat → Nat} {A : zM} {x y k v : Int32} (h : cG G al A) (w : wG G) (hp : zI A 3 15 = bI pl) : cRes 0 0 A (oPunch pl G x y k v) (z_den zQ (d + 4) mP_punch [.ref 1, .int x, .int y, .int k, .int v] A) := by
  unfold oPunch
  by_cases g : sOk G x y
  · obtain ⟨p1, p2, p3, p4, m, p5, p6⟩ := cG_at h w g
    have n0 := hd_n0 p2.1 (by decide)
    rw [pif_T g, B_P_punch, E_P_stripAt_ok _ h w g]
    by_cases g2 : pl = true
    · rw [if_pos g2]
      simp (disch := omega) only [z_bV_some, z_bI_some, z_bJ_some, z_bD_some, z_bR_some, cond_true, cond_false, Bool.and_true, Bool.true_and, Bool.not_false, Bool.not_true, Bool.and_self, Bool.or_true, Bool.false_or, Bool.true_or, zn_ok, zn_ok0, zn_N, zn_add, zn_mul, zn_sub, z_lt_T, z_lt_F, z_le_T, z_le_F, z_eq_T, z_ne_F, z_eq_F, z_ne_T, z_ix_T, z_lt_m, z_le_m, z_lt_m2, z_le_m2, z_eq_m, z_ne_m, zn_div, z_a31, zn_shl, zn_shr, z_bq_T, z_bq_F, z_bl_T, nL_0, hp, pl_T g2, B_P_refuse]
      exact cRes_st h _ _
    rw [if_neg g2]
    by_cases g3 : tL (sA G x y) = true
    · rw [if_pos g3]
      simp (disch := omega) only [z_bV_some, z_bI_some, z_bJ_some, z_bD_some, z_bR_some, cond_true, cond_false, Bool.and_true, Bool.true_and, Bool.not_false, Bool.not_true, Bool.and_self, Bool.or_true, Bool.false_or, Bool.true_or, zn_ok, zn_ok0, zn_N, zn_add, zn_mul, zn_sub, z_lt_T, z_lt_F, z_le_T, z_le_F, z_eq_T, z_ne_F, z_eq_F, z_ne_T, z_ix_T, z_lt_m, z_le_m, z_lt_m2, z_le_m2, z_eq_m, z_ne_m, zn_div, z_a31, zn_shl, zn_shr, z_bq_T, z_bq_F, z_bl_T, nL_0, nL_1, hp, pl_F g2, B_P_found, c9 p2.1, p2.2.2.2.2.2.2.1, pl_T g3]
      exact cRes_st h _ _
    rw [if_neg g3]
    have e1 := E_S_elements (d + 2) (al (pO G x y)) A _ p2 (wT_w0 p3)
    have hS := p3.2.2.2.2.1
    rcases zn_cases k with hk | ⟨j, hj, rfl⟩
    · rw [pif_F (fun q => by omega)]
      simp (disch := omega) only [z_bV_some, z_bI_some, z_bJ_some, z_bD_some, z_bR_some, cond_true, cond_false, Bool.and_true, Bool.true_and, Bool.not_false, Bool.not_true, Bool.and_self, Bool.or_true, Bool.false_or, Bool.true_or, zn_ok, zn_ok0, zn_N, zn_add, zn_mul, zn_sub, z_lt_T, z_lt_F, z_le_T, z_le_F, z_eq_T, z_ne_F, z_eq_F, z_ne_T, z_ix_T, z_lt_m, z_le_m, z_lt_m2, z_le_m2, z_eq_m, z_ne_m, zn_div, z_a31, zn_shl, zn_shr, z_bq_T, z_bq_F, z_bl_T, nL_0, nL_2, hp, pl_F g2, c9 p2.1, p2.2.2.2.2.2.2.1, pl_F g3, B_P_found]
      exact cRes_st h _ _
    by_cases g4 : tS (sA G x y) ≤ j
    · rw [pif_F (fun q => by rw [zn_toInt hj] at q; omega)]
      simp (disch := omega) only [z_bV_some, z_bI_some, z_bJ_some, z_bD_some, z_bR_some, cond_true, cond_false, Bool.and_true, Bool.true_and, Bool.not_false, Bool.not_true, Bool.and_self, Bool.or_true, Bool.false_or, Bool.true_or, zn_ok, zn_ok0, zn_N, zn_add, zn_mul, zn_sub, z_lt_T, z_lt_F, z_le_T, z_le_F, z_eq_T, z_ne_F, z_eq_F, z_ne_T, z_ix_T, z_lt_m, z_le_m, z_lt_m2, z_le_m2, z_eq_m, z_ne_m, zn_div, z_a31, zn_shl, zn_shr, z_bq_T, z_bq_F, z_bl_T, nL_0, nL_2, hp, pl_F g2, c9 p2.1, p2.2.2.2.2.2.2.1, pl_F g3, B_P_found, e1]
      exact cRes_st h _ _
    rw [pif_T (by rw [zn_toInt hj]; omega), zn_N hj]
    have e2 := E_S_verdict (d + 1) (al (pO G x y)) A _ p2 p3
    obtain ⟨f, u1, u2⟩ := E_S_putElement (d + 1) (al (pO G x y)) j v A _ p2 p3 (by omega)
    have z0 : z_eq (zn 0) (zn 0) = true := z_eq_T _
    have z1 : z_eq (zn 1) (zn 0) = false := z_eq_F (by omega) (by omega) (by omega)
    by_cases g5 : findT (sA G x y) = 0
    · obtain ⟨A1, w1, w2, w3, w4⟩ := E_S_writeHead (d + 1) (al (pO G x y)) _ _ u2 (wT_setE p3 j v)
      have i5 := st_I w3 p4 p6 (t := 1) (by omega) 5
      rw [zI_put_a (by omega)] at i5
      have hpu : puT (sA G x y) j v = sealT (setE (sA G x y) j (loF (tK (sA G x y)) v)) := by unfold puT; rw [if_pos g5]
      rw [g5] at e2
      simp (disch := omega) only [z_bV_some, z_bI_some, z_bJ_some, z_bD_some, z_bR_some, cond_true, cond_false, Bool.and_true, Bool.true_and, Bool.not_false, Bool.not_true, Bool.and_self, Bool.or_true, Bool.false_or, Bool.true_or, zn_ok, zn_ok0, zn_N, zn_add, zn_mul, zn_sub, z_lt_T, z_lt_F, z_le_T, z_le_F, z_eq_T, z_ne_F, z_eq_F, z_ne_T, z_ix_T, z_lt_m, z_le_m, z_lt_m2, z_le_m2, z_eq_m, z_ne_m, zn_div, z_a31, zn_shl, zn_shr, z_bq_T, z_bq_F, z_bl_T, zI_put_a, zP_put, zD_put, z_hd_put, z_cls_put, z_ia_put, z_ln_put, z_new_put, zI_wI_s, zI_wP, zI_wD, zD_wI, zD_wP, zD_wD_s, zP_wI, zP_wD, z_hd_wI, z_hd_wP, z_hd_wD, z_hd_cpy, z_cls_wI, z_cls_wP, z_cls_wD, z_cls_cpy, z_ia_wI, z_ia_wP, z_ia_wD, z_ia_cpy, z_ln_wI, z_ln_wP, z_ln_wD, z_ln_cpy, z_new_wI, z_new_wP, z_new_wD, z_new_cpy, z_new_nw, zP_cpy, zI_uI_s, zP_uI, zD_uI, z_hd_uI, z_cls_uI, z_ia_uI, z_ln_uI, z_new_uI, zI_wI_a, zI_wI_k, zI_uI_a, zI_cpy_a, zP_wP_s, zP_wP_a, zP_wP_k, nL_0, nL_1, hp, pl_F g2, c9 p2.1, p2.2.2.2.2.2.2.1, pl_F g3, e1, e2, u1, c9 u2.1, w1, B_P_done]
      rw [hpu]
      exact cRes_up h p1 (zFr_trans put_xcU w3 (fun _ _ _ h => xS_xcU _ _ h)) w2 (Or.inl w4) (by rw [i5]; exact h.2.2.1)
    · have hpu : puT (sA G x y) j v = setE (sA G x y) j (loF (tK (sA G x y)) v) := by unfold puT; rw [if_neg g5]
      have hf9 := find_lt (sA G x y)
      simp (disch := omega) only [z_bV_some, z_bI_some, z_bJ_some, z_bD_some, z_bR_some, cond_true, cond_false, Bool.and_true, Bool.true_and, Bool.not_false, Bool.not_true, Bool.and_self, Bool.or_true, Bool.false_or, Bool.true_or, zn_ok, zn_ok0, zn_N, zn_add, zn_mul, zn_sub, z_lt_T, z_lt_F, z_le_T, z_le_F, z_eq_T, z_ne_F, z_eq_F, z_ne_T, z_ix_T, z_lt_m, z_le_m, z_lt_m2, z_le_m2, z_eq_m, z_ne_m, zn_div, z_a31, zn_shl, zn_shr, z_bq_T, z_bq_F, z_bl_T, zI_put_a, zP_put, zD_put, z_hd_put, z_cls_put, z_ia_put, z_ln_put, z_new_put, zI_wI_s, zI_wP, zI_wD, zD_wI, zD_wP, zD_wD_s, zP_wI, zP_wD, z_hd_wI, z_hd_wP, z_hd_wD, z_hd_cpy, z_cls_wI, z_cls_wP, z_cls_wD, z_cls_cpy, z_ia_wI, z_ia_wP, z_ia_wD, z_ia_cpy, z_ln_wI, z_ln_wP, z_ln_wD, z_ln_cpy, z_new_wI, z_new_wP, z_new_wD, z_new_cpy, z_new_nw, zP_cpy, zI_uI_s, zP_uI, zD_uI, z_hd_uI, z_cls_uI, z_ia_uI, z_ln_uI, z_new_uI, zI_wI_a, zI_wI_k, zI_uI_a, zI_cpy_a, zP_wP_s, zP_wP_a, zP_wP_k, nL_0, nL_1, hp, pl_F g2, c9 p2.1, p2.2.2.2.2.2.2.1, pl_F g3, e1, e2, u1, c9 u2.1, B_P_done]
      rw [hpu]
      exact cRes_up h p1 put_xcU u2 (Or.inl rfl) (by rw [zI_put_a (by omega)]; exact h.2.2.1)
  · rw [pif_F g, B_P_punch, E_P_stripAt_no _ h w g]
    simp (disch := omega) only [z_bV_some, z_bI_some, z_bJ_some, z_bD_some, z_bR_some, cond_true, cond_false, Bool.and_true, Bool.true_and, Bool.not_false, Bool.not_true, Bool.and_self, Bool.or_true, Bool.false_or, Bool.true_or, zn_ok, zn_ok0, zn_N, zn_add, zn_mul, zn_sub, z_lt_T, z_lt_F, z_le_T, z_le_F, z_eq_T, z_ne_F, z_eq_F, z_ne_T, z_ix_T, z_lt_m, z_le_m, z_lt_m2, z_le_m2, z_eq_m, z_ne_m, zn_div, z_a31, zn_shl, zn_shr, z_bq_T, z_bq_F, z_bl_T, B_P_refuse]
    exact cRes_st h _ _
theorem Q_within_F {d : Nat} {x : Int32} {a n : Nat} {M : zM} (hn : n < 2147483648) (ha : a < 2147483648) (h : ¬ ((a : Int) ≤ x.toInt ∧ x.toInt ≤ n)) : z_den zQ (d + 1) mQ_within [.int x, .int (zn a), .int (zn n)] M = some (some (.int (zn 0)), M) := by
  rw [E_Q_within, bI_0 (by rw [decide_eq_true_iff, zn_toInt hn, zn_toInt ha]; exact h)]
theorem Q_within_T {d : Nat} {x : Int32} {a n : Nat} {M : zM} (hn : n < 2147483648) (ha : a < 2147483648) (h : ((a : Int) ≤ x.toInt ∧ x.toInt ≤ n)) : z_den zQ (d + 1) mQ_within [.int x, .int (zn a), .int (zn n)] M = some (some (.int (zn 1)), M) := by
  rw [E_Q_within, bI_1 (by rw [decide_eq_true_iff, zn_toInt hn, zn_toInt ha]; exact h)]
/-- within 0 .. n - 1 -/
theorem Q_in_F {d : Nat} {x : Int32} {n : Nat} {M : zM} (hn : n < 2147483648) (h : ¬ (0 ≤ x.toInt ∧ x.toInt < n)) : z_den zQ (d + 1) mQ_within [.int x, .int (zn 0), .int (zn n - zn 1)] M = some (some (.int (zn 0)), M) := by
  have t0 : (zn 0).toInt = 0 := zn_toInt (by omega)
  have t1 := tI_pred (m := n) hn
  rw [E_Q_within, bI_0 (by rw [decide_eq_true_iff]; omega)]
theorem Q_in_T {d : Nat} {x : Int32} {n : Nat} {M : zM} (hn : n < 2147483648) (h : 0 ≤ x.toInt ∧ x.toInt < n) : z_den zQ (d + 1) mQ_within [.int x, .int (zn 0), .int (zn n - zn 1)] M = some (some (.int (zn 1)), M) := by
  have t0 : (zn 0).toInt = 0 := zn_toInt (by omega)
  have t1 := tI_pred (m := n) hn
  rw [E_Q_within, bI_1 (by rw [decide_eq_true_iff]; omega)]
theorem rRes_st' {B : zM} {G : zG} (h : rG G B) (x v u : Int32) : rRes B (x, v, G) (some (some (.int x), z_wI (z_wI B 15 0 u) 15 0 v)) := by
  have e : z_wI (z_wI B 15 0 u) 15 0 v = z_wI B 15 0 v := by
    unfold z_wI
    congr 2
    funext a k
    by_cases q : a = 15 ∧ k = 0
    · rw [if_pos q, if_pos q]
    · rw [if_neg q, if_neg q]; exact if_neg q
  rw [e]
  exact rRes_st h x v
theorem Q_punch (d : Nat) {pl : Bool} {G : zG} {B : zM} {x y k v : Int32} (h : rG G B) (w : wG G) (hp : zI B 15 36 = bI pl) : rRes B (oPunch pl G x y k v) (z_den zQ (d + 5) mQ_punch [.ref 15, .int x, .int y, .int k, .int v] B) := by
  unfold oPunch
  by_cases g : sOk G x y
  · obtain ⟨p1, p2, p3, p4⟩ := rG_at h w g
    rw [pif_T g, B_Q_punch]
    by_cases g2 : pl = true
    · rw [if_pos g2, E_Q_bars_busy d h w hp g g2]
      simp (disch := omega) only [z_bI_some, nL_0, neg_3, cond_false]
      exact rRes_st h _ _
    rw [if_neg g2]
    by_cases g3 : tL (sA G x y) = true
    · rw [if_pos g3, E_Q_bars_lost d h w hp g g2 g3]
      simp (disch := omega) only [z_bI_some, nL_0, neg_11, cond_false]
      exact rRes_st h _ _
    rw [if_neg g3, E_Q_bars_ok d h w hp g g2 g3]
    have h1 := rG_st h (zn 0)
    have hl := tL_f g3
    have hS := p4.2.2.2.2.1
    have r1 := rT_wI (a := 15) (k := 0) (v := zn 0) p3 (by unfold inR; omega)
    have e24 := r1.2.2.2.2.2.1
    have hpo := E_Q_poolOf (d + 3) h1 w g
    by_cases g4 : 0 ≤ k.toInt ∧ k.toInt < tS (sA G x y)
    · rw [pif_T g4]
      obtain ⟨j, hj, rfl⟩ := zn_ex g4.1
      rw [zn_toInt hj] at g4
      rw [zn_N hj]
      have ew := Q_in_T (d := d + 3) (x := zn j) (n := tS (sA G x y)) (M := z_wI B 15 0 (zn 0)) (by omega) (by rw [zn_toInt hj]; exact g4)
      have ef := E_Q_findingOf d _ _ _ p2 r1 p4
      have el := fun M => E_Q_low (d + 3) (tK (sA G x y)) p4.1 v M
      have r2 := rT_E (k := j) (v := loF (tK (sA G x y)) v) r1 (by omega)
      have f1 : zFr 0 0 (xrU (pO G x y)) B (z_wI (z_wI B 15 0 (zn 0)) 25 (256 * pO G x y + j) (loF (tK (sA G x y)) v)) := zFr_trans (xrU_fr _ _) (zFr_wI (X := xrU (pO G x y)) (by unfold xrU inR; omega)) (fun _ _ _ h => h)
      have hf9 := find_lt (sA G x y)
      have e18 := r1.1
      by_cases g5 : findT (sA G x y) = 0
      · obtain ⟨B1, s1, s2, s3⟩ := E_Q_sealIt d _ _ _ p2 r2 (wT_set9 (wT_setE p4 j v) hl) hl
        have f2 := zFr_trans f1 s3 (fun a k _ hx => Or.inl hx)
        have e13 : zI B1 15 13 = zn (gE G) := by
          rw [zFr_I s3 _ (by have := z_new_ge (z_wI (z_wI B 15 0 (zn 0)) 25 (256 * pO G x y + j) (loF (tK (sA G x y)) v)); omega) (by unfold inR; omega), zI_wI_a (by omega), zI_wI_k (by omega)]; exact h.2.2.1
        have hpu : puT (sA G x y) j v = sealT (setE (sA G x y) j (loF (tK (sA G x y)) v)) := by unfold puT; rw [if_pos g5]
        rw [g5] at ef
        simp (disch := omega) only [z_bI_some, nL_0, z_le_T, cond_true, hpo, z_ix_T, zn_N, e24, nL_1, ew, z_ne_T, ef, z_ne_F, cond_false, e18, el, nL_256, zn_mul, zn_add, z_eq_F, s1, z_bV_some, B_Q_well]
        rw [hpu]
        exact rRes_up h p1 w.2.1 f2 s2 e13
      · have hpu : puT (sA G x y) j v = setE (sA G x y) j (loF (tK (sA G x y)) v) := by unfold puT; rw [if_neg g5]
        simp (disch := omega) only [z_bI_some, nL_0, z_le_T, cond_true, hpo, z_ix_T, zn_N, e24, nL_1, ew, z_ne_T, ef, z_ne_F, cond_false, e18, el, nL_256, zn_mul, zn_add, z_eq_T, z_bV_some, B_Q_well]
        rw [hpu]
        exact rRes_up h p1 w.2.1 f1 r2 (by rw [zI_wI_a (by omega), zI_wI_k (by omega)]; exact h.2.2.1)
    · rw [pif_F g4]
      have ew := Q_in_F (d := d + 3) (x := k) (n := tS (sA G x y)) (M := z_wI B 15 0 (zn 0)) (by omega) g4
      simp (disch := omega) only [z_bI_some, nL_0, z_le_T, cond_true, hpo, z_ix_T, zn_N, e24, nL_1, ew, z_ne_F, cond_false, B_Q_finds, nL_2]
      exact rRes_st' h _ _ _
  · rw [pif_F g, B_Q_punch, E_Q_bars_no d h w g]
    simp (disch := omega) only [z_bI_some, nL_0, neg_1, cond_false]
    exact rRes_st h _ _
