/-! S LEVEL, acts: lose, tear, punch. -/
theorem cT_w1 {A : zM} {a t k : Nat} {v : Int32} {T : zT} (h : cT A a T) (ha : 56 ≤ a) (hb : 56 ≤ zP zQ A a 4) (ht : t < 56) : cT (z_wI A t k v) a T :=
  (cT_fr (zFr_wI (X := fun a' _ => a' = t) rfl) h (fun k e => by omega) (fun k e => by omega)).1
theorem w1_xcU {A : zM} {a b k : Nat} {v : Int32} (hk : k = 5 ∨ k = 7) : zFr 0 0 (xcU a b) A (z_wI A 1 k v) := zFr_wI (Or.inr ⟨rfl, hk⟩)
noncomputable def oLose (pl : Bool) (G : zG) (x y : Int32) : Int32 × Int32 × zG := pif (sOk G x y) (if pl = true then (-3, -3, G) else if tL (sA G x y) = true then (zn 0, zn 0, G) else (zn 1, zn 0, updT G (pO G x y) (dropT (sA G x y)) (gE G - tS (sA G x y)))) (-1, -1, G)
theorem gE_ge {G : zG} (w : wG G) {p : Nat} (hp : p < gN G) : tS (gT G p) ≤ gE G := by
  rw [w.2.2.2.2.2.1]
  exact sumN_le (f := fun p => tS (gT G p)) _ _ hp
theorem P_lose (d : Nat) {pl : Bool} {G : zG} {al : Nat → Nat} {A : zM} {x y : Int32} (h : cG G al A) (w : wG G) (hp : zI A 3 15 = bI pl) : cRes 0 0 A (oLose pl G x y) (z_den zQ (d + 4) mP_lose [.ref 1, .int x, .int y] A) := by
  unfold oLose
  by_cases g : sOk G x y
  · obtain ⟨p1, p2, p3, p4, m, p5, p6⟩ := cG_at h w g
    have n0 := hd_n0 p2.1 (by decide)
    rw [pif_T g, B_P_lose, E_P_stripAt_ok _ h w g]
    by_cases g2 : pl = true
    · rw [if_pos g2]
      simp (disch := omega) only [z_bV_some, z_bI_some, z_bJ_some, z_bD_some, z_bR_some, cond_true, cond_false, Bool.and_true, Bool.true_and, Bool.not_false, Bool.not_true, Bool.and_self, Bool.or_true, Bool.false_or, Bool.true_or, zn_ok, zn_ok0, zn_N, zn_add, zn_mul, zn_sub, z_lt_T, z_lt_F, z_le_T, z_le_F, z_eq_T, z_ne_F, z_eq_F, z_ne_T, z_ix_T, z_lt_m, z_le_m, z_lt_m2, z_le_m2, z_eq_m, z_ne_m, zn_div, z_a31, zn_shl, zn_shr, z_bq_T, z_bq_F, z_bl_T, nL_0, hp, pl_T g2, B_P_refuse]
      exact cRes_st h _ _
    rw [if_neg g2]
    by_cases g3 : tL (sA G x y) = true
    · rw [if_pos g3]
      simp (disch := omega) only [z_bV_some, z_bI_some, z_bJ_some, z_bD_some, z_bR_some, cond_true, cond_false, Bool.and_true, Bool.true_and, Bool.not_false, Bool.not_true, Bool.and_self, Bool.or_true, Bool.false_or, Bool.true_or, zn_ok, zn_ok0, zn_N, zn_add, zn_mul, zn_sub, z_lt_T, z_lt_F, z_le_T, z_le_F, z_eq_T, z_ne_F, z_eq_F, z_ne_T, z_ix_T, z_lt_m, z_le_m, z_lt_m2, z_le_m2, z_eq_m, z_ne_m, zn_div, z_a31, zn_shl, zn_shr, z_bq_T, z_bq_F, z_bl_T, nL_0, hp, pl_F g2, B_P_done, c9 p2.1, p2.2.2.2.2.2.2.1, pl_T g3]
      exact cRes_st h _ _
    rw [if_neg g3]
    have he := gE_ge w p1
    have he2 : tS (sA G x y) ≤ gE G := he
    have e1 := E_S_elements (d + 2) (al (pO G x y)) A _ p2 (wT_w0 p3)
    have c0 := cT_w1 (t := 1) (k := 5) (v := zn (gE G - tS (sA G x y))) p2 p4 p6 (by omega)
    obtain ⟨A1, w1, w2, w3, w4⟩ := E_S_dropAll (d + 2) (al (pO G x y)) _ _ c0
    have i5 := st_I w3 p4 p6 (t := 1) (by omega) 5
    rw [zI_wI_s] at i5
    simp (disch := omega) only [z_bV_some, z_bI_some, z_bJ_some, z_bD_some, z_bR_some, cond_true, cond_false, Bool.and_true, Bool.true_and, Bool.not_false, Bool.not_true, Bool.and_self, Bool.or_true, Bool.false_or, Bool.true_or, zn_ok, zn_ok0, zn_N, zn_add, zn_mul, zn_sub, z_lt_T, z_lt_F, z_le_T, z_le_F, z_eq_T, z_ne_F, z_eq_F, z_ne_T, z_ix_T, z_lt_m, z_le_m, z_lt_m2, z_le_m2, z_eq_m, z_ne_m, zn_div, z_a31, zn_shl, zn_shr, z_bq_T, z_bq_F, z_bl_T, zI_put_a, zP_put, zD_put, z_hd_put, z_cls_put, z_ia_put, z_ln_put, z_new_put, zI_wI_s, zI_wP, zI_wD, zD_wI, zD_wP, zD_wD_s, zP_wI, zP_wD, z_hd_wI, z_hd_wP, z_hd_wD, z_hd_cpy, z_cls_wI, z_cls_wP, z_cls_wD, z_cls_cpy, z_ia_wI, z_ia_wP, z_ia_wD, z_ia_cpy, z_ln_wI, z_ln_wP, z_ln_wD, z_ln_cpy, z_new_wI, z_new_wP, z_new_wD, z_new_cpy, z_new_nw, zP_cpy, zI_uI_s, zP_uI, zD_uI, z_hd_uI, z_cls_uI, z_ia_uI, z_ln_uI, z_new_uI, zI_wI_a, zI_wI_k, zI_uI_a, zI_cpy_a, zP_wP_s, zP_wP_a, zP_wP_k, nL_0, nL_1, hp, pl_F g2, c9 p2.1, p2.2.2.2.2.2.2.1, pl_F g3, e1, h.2.2.1, w1, B_P_done]
    exact cRes_up h p1 (zFr_trans (w1_xcU (by omega)) w3 (fun _ _ _ h => xS_xcU _ _ h)) w2 (Or.inl w4) i5
  · rw [pif_F g, B_P_lose, E_P_stripAt_no _ h w g]
    simp (disch := omega) only [z_bV_some, z_bI_some, z_bJ_some, z_bD_some, z_bR_some, cond_true, cond_false, Bool.and_true, Bool.true_and, Bool.not_false, Bool.not_true, Bool.and_self, Bool.or_true, Bool.false_or, Bool.true_or, zn_ok, zn_ok0, zn_N, zn_add, zn_mul, zn_sub, z_lt_T, z_lt_F, z_le_T, z_le_F, z_eq_T, z_ne_F, z_eq_F, z_ne_T, z_ix_T, z_lt_m, z_le_m, z_lt_m2, z_le_m2, z_eq_m, z_ne_m, zn_div, z_a31, zn_shl, zn_shr, z_bq_T, z_bq_F, z_bl_T, B_P_refuse]
    exact cRes_st h _ _
theorem Q_lose (d : Nat) {pl : Bool} {G : zG} {B : zM} {x y : Int32} (h : rG G B) (w : wG G) (hp : zI B 15 36 = bI pl) : rRes B (oLose pl G x y) (z_den zQ (d + 4) mQ_lose [.ref 15, .int x, .int y] B) := by
  unfold oLose
  by_cases g : sOk G x y
  · obtain ⟨p1, p2, p3, p4⟩ := rG_at h w g
    rw [pif_T g, B_Q_lose, E_Q_isStrip_ok d h w g]
    by_cases g2 : pl = true
    · rw [if_pos g2]
      simp (disch := omega) only [z_bV_some, z_bI_some, z_bJ_some, z_bD_some, z_bR_some, cond_true, cond_false, Bool.and_true, Bool.true_and, Bool.not_false, Bool.not_true, Bool.and_self, Bool.or_true, Bool.false_or, Bool.true_or, zn_ok, zn_ok0, zn_N, zn_add, zn_mul, zn_sub, z_lt_T, z_lt_F, z_le_T, z_le_F, z_eq_T, z_ne_F, z_eq_F, z_ne_T, z_ix_T, z_lt_m, z_le_m, z_lt_m2, z_le_m2, z_eq_m, z_ne_m, zn_div, z_a31, zn_shl, zn_shr, z_bq_T, z_bq_F, z_bl_T, nL_0, hp, pl_T g2, B_Q_no]
      exact rRes_st h _ _
    rw [if_neg g2]
    by_cases g3 : tL (sA G x y) = true
    · rw [if_pos g3]
      simp (disch := omega) only [z_bV_some, z_bI_some, z_bJ_some, z_bD_some, z_bR_some, cond_true, cond_false, Bool.and_true, Bool.true_and, Bool.not_false, Bool.not_true, Bool.and_self, Bool.or_true, Bool.false_or, Bool.true_or, zn_ok, zn_ok0, zn_N, zn_add, zn_mul, zn_sub, z_lt_T, z_lt_F, z_le_T, z_le_F, z_eq_T, z_ne_F, z_eq_F, z_ne_T, z_ix_T, z_lt_m, z_le_m, z_lt_m2, z_le_m2, z_eq_m, z_ne_m, zn_div, z_a31, zn_shl, zn_shr, z_bq_T, z_bq_F, z_bl_T, nL_0, hp, pl_F g2, E_Q_poolOf _ h w g, p3.2.2.2.1, pl_T g3, B_Q_well]
      exact rRes_st h _ _
    rw [if_neg g3]
    have he := gE_ge w p1
    have he2 : tS (sA G x y) ≤ gE G := he
    simp (disch := omega) only [z_bV_some, z_bI_some, z_bJ_some, z_bD_some, z_bR_some, cond_true, cond_false, Bool.and_true, Bool.true_and, Bool.not_false, Bool.not_true, Bool.and_self, Bool.or_true, Bool.false_or, Bool.true_or, zn_ok, zn_ok0, zn_N, zn_add, zn_mul, zn_sub, z_lt_T, z_lt_F, z_le_T, z_le_F, z_eq_T, z_ne_F, z_eq_F, z_ne_T, z_ix_T, z_lt_m, z_le_m, z_lt_m2, z_le_m2, z_eq_m, z_ne_m, zn_div, z_a31, zn_shl, zn_shr, z_bq_T, z_bq_F, z_bl_T, nL_0, nL_1, hp, pl_F g2, E_Q_poolOf _ h w g, p3.2.2.2.1, pl_F g3, B_Q_empty, p3.2.2.2.2.2.1, h.2.2.1, B_Q_well]
    refine rRes_up h p1 w.2.1 ?_ ?_ ?_
    · have q0 : ∀ (M : zM) (a k : Nat) (v : Int32), xrU (pO G x y) a k → zFr 0 0 (xrU (pO G x y)) M (z_wI M a k v) := fun M a k v h => zFr_wI h
      have tr : ∀ (M M' : zM) (a k : Nat) (v : Int32), xrU (pO G x y) a k → zFr 0 0 (xrU (pO G x y)) M M' → zFr 0 0 (xrU (pO G x y)) M (z_wI M' a k v) := fun M M' a k v hx h => zFr_trans h (q0 M' a k v hx) (fun _ _ _ h => h)
      refine tr _ _ _ _ _ ?_ (tr _ _ _ _ _ ?_ (tr _ _ _ _ _ ?_ (q0 _ _ _ _ ?_))) <;> (unfold xrU inR; omega)
    · obtain ⟨k0, k1, k2, k3, k4, k5, k6, k7⟩ := p3
      refine ⟨?_, ?_, ?_, ?_, ?_, ?_, fun i hi => ?_, fun k hk => ?_⟩
      · simp (disch := omega) only [zI_put_a, zP_put, zD_put, z_hd_put, z_cls_put, z_ia_put, z_ln_put, z_new_put, zI_wI_s, zI_wP, zI_wD, zD_wI, zD_wP, zD_wD_s, zP_wI, zP_wD, z_hd_wI, z_hd_wP, z_hd_wD, z_hd_cpy, z_cls_wI, z_cls_wP, z_cls_wD, z_cls_cpy, z_ia_wI, z_ia_wP, z_ia_wD, z_ia_cpy, z_ln_wI, z_ln_wP, z_ln_wD, z_ln_cpy, z_new_wI, z_new_wP, z_new_wD, z_new_cpy, z_new_nw, zP_cpy, zI_uI_s, zP_uI, zD_uI, z_hd_uI, z_cls_uI, z_ia_uI, z_ln_uI, z_new_uI, zI_wI_a, zI_wI_k, zI_uI_a, zI_cpy_a, zP_wP_s, zP_wP_a, zP_wP_k]; exact k0
      · simp (disch := omega) only [zI_put_a, zP_put, zD_put, z_hd_put, z_cls_put, z_ia_put, z_ln_put, z_new_put, zI_wI_s, zI_wP, zI_wD, zD_wI, zD_wP, zD_wD_s, zP_wI, zP_wD, z_hd_wI, z_hd_wP, z_hd_wD, z_hd_cpy, z_cls_wI, z_cls_wP, z_cls_wD, z_cls_cpy, z_ia_wI, z_ia_wP, z_ia_wD, z_ia_cpy, z_ln_wI, z_ln_wP, z_ln_wD, z_ln_cpy, z_new_wI, z_new_wP, z_new_wD, z_new_cpy, z_new_nw, zP_cpy, zI_uI_s, zP_uI, zD_uI, z_hd_uI, z_cls_uI, z_ia_uI, z_ln_uI, z_new_uI, zI_wI_a, zI_wI_k, zI_uI_a, zI_cpy_a, zP_wP_s, zP_wP_a, zP_wP_k]; exact k1
      · simp (disch := omega) only [zI_put_a, zP_put, zD_put, z_hd_put, z_cls_put, z_ia_put, z_ln_put, z_new_put, zI_wI_s, zI_wP, zI_wD, zD_wI, zD_wP, zD_wD_s, zP_wI, zP_wD, z_hd_wI, z_hd_wP, z_hd_wD, z_hd_cpy, z_cls_wI, z_cls_wP, z_cls_wD, z_cls_cpy, z_ia_wI, z_ia_wP, z_ia_wD, z_ia_cpy, z_ln_wI, z_ln_wP, z_ln_wD, z_ln_cpy, z_new_wI, z_new_wP, z_new_wD, z_new_cpy, z_new_nw, zP_cpy, zI_uI_s, zP_uI, zD_uI, z_hd_uI, z_cls_uI, z_ia_uI, z_ln_uI, z_new_uI, zI_wI_a, zI_wI_k, zI_uI_a, zI_cpy_a, zP_wP_s, zP_wP_a, zP_wP_k]; exact k2
      · simp (disch := omega) only [zI_put_a, zP_put, zD_put, z_hd_put, z_cls_put, z_ia_put, z_ln_put, z_new_put, zI_wI_s, zI_wP, zI_wD, zD_wI, zD_wP, zD_wD_s, zP_wI, zP_wD, z_hd_wI, z_hd_wP, z_hd_wD, z_hd_cpy, z_cls_wI, z_cls_wP, z_cls_wD, z_cls_cpy, z_ia_wI, z_ia_wP, z_ia_wD, z_ia_cpy, z_ln_wI, z_ln_wP, z_ln_wD, z_ln_cpy, z_new_wI, z_new_wP, z_new_wD, z_new_cpy, z_new_nw, zP_cpy, zI_uI_s, zP_uI, zD_uI, z_hd_uI, z_cls_uI, z_ia_uI, z_ln_uI, z_new_uI, zI_wI_a, zI_wI_k, zI_uI_a, zI_cpy_a, zP_wP_s, zP_wP_a, zP_wP_k]; rfl
      · simp (disch := omega) only [zI_put_a, zP_put, zD_put, z_hd_put, z_cls_put, z_ia_put, z_ln_put, z_new_put, zI_wI_s, zI_wP, zI_wD, zD_wI, zD_wP, zD_wD_s, zP_wI, zP_wD, z_hd_wI, z_hd_wP, z_hd_wD, z_hd_cpy, z_cls_wI, z_cls_wP, z_cls_wD, z_cls_cpy, z_ia_wI, z_ia_wP, z_ia_wD, z_ia_cpy, z_ln_wI, z_ln_wP, z_ln_wD, z_ln_cpy, z_new_wI, z_new_wP, z_new_wD, z_new_cpy, z_new_nw, zP_cpy, zI_uI_s, zP_uI, zD_uI, z_hd_uI, z_cls_uI, z_ia_uI, z_ln_uI, z_new_uI, zI_wI_a, zI_wI_k, zI_uI_a, zI_cpy_a, zP_wP_s, zP_wP_a, zP_wP_k]; rfl
      · simp (disch := omega) only [zI_put_a, zP_put, zD_put, z_hd_put, z_cls_put, z_ia_put, z_ln_put, z_new_put, zI_wI_s, zI_wP, zI_wD, zD_wI, zD_wP, zD_wD_s, zP_wI, zP_wD, z_hd_wI, z_hd_wP, z_hd_wD, z_hd_cpy, z_cls_wI, z_cls_wP, z_cls_wD, z_cls_cpy, z_ia_wI, z_ia_wP, z_ia_wD, z_ia_cpy, z_ln_wI, z_ln_wP, z_ln_wD, z_ln_cpy, z_new_wI, z_new_wP, z_new_wD, z_new_cpy, z_new_nw, zP_cpy, zI_uI_s, zP_uI, zD_uI, z_hd_uI, z_cls_uI, z_ia_uI, z_ln_uI, z_new_uI, zI_wI_a, zI_wI_k, zI_uI_a, zI_cpy_a, zP_wP_s, zP_wP_a, zP_wP_k]; rfl
      · simp (disch := omega) only [zI_put_a, zP_put, zD_put, z_hd_put, z_cls_put, z_ia_put, z_ln_put, z_new_put, zI_wI_s, zI_wP, zI_wD, zD_wI, zD_wP, zD_wD_s, zP_wI, zP_wD, z_hd_wI, z_hd_wP, z_hd_wD, z_hd_cpy, z_cls_wI, z_cls_wP, z_cls_wD, z_cls_cpy, z_ia_wI, z_ia_wP, z_ia_wD, z_ia_cpy, z_ln_wI, z_ln_wP, z_ln_wD, z_ln_cpy, z_new_wI, z_new_wP, z_new_wD, z_new_cpy, z_new_nw, zP_cpy, zI_uI_s, zP_uI, zD_uI, z_hd_uI, z_cls_uI, z_ia_uI, z_ln_uI, z_new_uI, zI_wI_a, zI_wI_k, zI_uI_a, zI_cpy_a, zP_wP_s, zP_wP_a, zP_wP_k]; exact k6 i hi
      · simp (disch := omega) only [zI_put_a, zP_put, zD_put, z_hd_put, z_cls_put, z_ia_put, z_ln_put, z_new_put, zI_wI_s, zI_wP, zI_wD, zD_wI, zD_wP, zD_wD_s, zP_wI, zP_wD, z_hd_wI, z_hd_wP, z_hd_wD, z_hd_cpy, z_cls_wI, z_cls_wP, z_cls_wD, z_cls_cpy, z_ia_wI, z_ia_wP, z_ia_wD, z_ia_cpy, z_ln_wI, z_ln_wP, z_ln_wD, z_ln_cpy, z_new_wI, z_new_wP, z_new_wD, z_new_cpy, z_new_nw, zP_cpy, zI_uI_s, zP_uI, zD_uI, z_hd_uI, z_cls_uI, z_ia_uI, z_ln_uI, z_new_uI, zI_wI_a, zI_wI_k, zI_uI_a, zI_cpy_a, zP_wP_s, zP_wP_a, zP_wP_k]; exact k7 k hk
    · simp (disch := omega) only [zI_put_a, zP_put, zD_put, z_hd_put, z_cls_put, z_ia_put, z_ln_put, z_new_put, zI_wI_s, zI_wP, zI_wD, zD_wI, zD_wP, zD_wD_s, zP_wI, zP_wD, z_hd_wI, z_hd_wP, z_hd_wD, z_hd_cpy, z_cls_wI, z_cls_wP, z_cls_wD, z_cls_cpy, z_ia_wI, z_ia_wP, z_ia_wD, z_ia_cpy, z_ln_wI, z_ln_wP, z_ln_wD, z_ln_cpy, z_new_wI, z_new_wP, z_new_wD, z_new_cpy, z_new_nw, zP_cpy, zI_uI_s, zP_uI, zD_uI, z_hd_uI, z_cls_uI, z_ia_uI, z_ln_uI, z_new_uI, zI_wI_a, zI_wI_k, zI_uI_a, zI_cpy_a, zP_wP_s, zP_wP_a, zP_wP_k]
  · rw [pif_F g, B_Q_lose, E_Q_isStrip_no d h w g]
    simp (disch := omega) only [z_bV_some, z_bI_some, z_bJ_some, z_bD_some, z_bR_some, cond_true, cond_false, Bool.and_true, Bool.true_and, Bool.not_false, Bool.not_true, Bool.and_self, Bool.or_true, Bool.false_or, Bool.true_or, zn_ok, zn_ok0, zn_N, zn_add, zn_mul, zn_sub, z_lt_T, z_lt_F, z_le_T, z_le_F, z_eq_T, z_ne_F, z_eq_F, z_ne_T, z_ix_T, z_lt_m, z_le_m, z_lt_m2, z_le_m2, z_eq_m, z_ne_m, zn_div, z_a31, zn_shl, zn_shr, z_bq_T, z_bq_F, z_bl_T, nL_0, B_Q_no]
    exact rRes_st h _ _
/-- tear -/
noncomputable def oTear (pl : Bool) (G : zG) (x y n : Int32) : Int32 × Int32 × zG := pif (sOk G x y ∧ 0 ≤ n.toInt) (if pl = true then (-3, -3, G) else if tL (sA G x y) = true then ((-10) - zn 1, zn 1, G) else (zn (tS (tearT (sA G x y) n.toNatClampNeg)), zn 0, updT G (pO G x y) (tearT (sA G x y) n.toNatClampNeg) (gE G - tS (sA G x y) + tS (tearT (sA G x y) n.toNatClampNeg)))) (-1, -1, G)
theorem tear_le (T : zT) (n : Nat) : tS (tearT T n) ≤ tS T := by
  rw [tS_tear]
  generalize (if n < 9 then 0 else (n - 9) / tW T) = q
  split <;> omega
theorem P_tear (d : Nat) {pl : Bool} {G : zG} {al : Nat → Nat} {A : zM} {x y n : Int32} (h : cG G al A) (w : wG G) (hp : zI A 3 15 = bI pl) : cRes 0 0 A (oTear pl G x y n) (z_den zQ (d + 4) mP_tear [.ref 1, .int x, .int y, .int n] A) := by
  unfold oTear
  by_cases g : sOk G x y
  · obtain ⟨p1, p2, p3, p4, m, p5, p6⟩ := cG_at h w g
    have n0 := hd_n0 p2.1 (by decide)
    rw [B_P_tear, E_P_stripAt_ok _ h w g]
    rcases zn_cases n with hn | ⟨k, hk, rfl⟩
    · rw [pif_F (fun q => by omega)]
      simp (disch := omega) only [z_bV_some, z_bI_some, z_bJ_some, z_bD_some, z_bR_some, cond_true, cond_false, Bool.and_true, Bool.true_and, Bool.not_false, Bool.not_true, Bool.and_self, Bool.or_true, Bool.false_or, Bool.true_or, zn_ok, zn_ok0, zn_N, zn_add, zn_mul, zn_sub, z_lt_T, z_lt_F, z_le_T, z_le_F, z_eq_T, z_ne_F, z_eq_F, z_ne_T, z_ix_T, z_lt_m, z_le_m, z_lt_m2, z_le_m2, z_eq_m, z_ne_m, zn_div, z_a31, zn_shl, zn_shr, z_bq_T, z_bq_F, z_bl_T, nL_0, B_P_refuse]
      exact cRes_st h _ _
    rw [pif_T ⟨g, by rw [zn_toInt hk]; omega⟩, zn_N hk]
    by_cases g2 : pl = true
    · rw [if_pos g2]
      simp (disch := omega) only [z_bV_some, z_bI_some, z_bJ_some, z_bD_some, z_bR_some, cond_true, cond_false, Bool.and_true, Bool.true_and, Bool.not_false, Bool.not_true, Bool.and_self, Bool.or_true, Bool.false_or, Bool.true_or, zn_ok, zn_ok0, zn_N, zn_add, zn_mul, zn_sub, z_lt_T, z_lt_F, z_le_T, z_le_F, z_eq_T, z_ne_F, z_eq_F, z_ne_T, z_ix_T, z_lt_m, z_le_m, z_lt_m2, z_le_m2, z_eq_m, z_ne_m, zn_div, z_a31, zn_shl, zn_shr, z_bq_T, z_bq_F, z_bl_T, nL_0, hp, pl_T g2, B_P_refuse]
      exact cRes_st h _ _
    rw [if_neg g2]
    by_cases g3 : tL (sA G x y) = true
    · rw [if_pos g3]
      simp (disch := omega) only [z_bV_some, z_bI_some, z_bJ_some, z_bD_some, z_bR_some, cond_true, cond_false, Bool.and_true, Bool.true_and, Bool.not_false, Bool.not_true, Bool.and_self, Bool.or_true, Bool.false_or, Bool.true_or, zn_ok, zn_ok0, zn_N, zn_add, zn_mul, zn_sub, z_lt_T, z_lt_F, z_le_T, z_le_F, z_eq_T, z_ne_F, z_eq_F, z_ne_T, z_ix_T, z_lt_m, z_le_m, z_lt_m2, z_le_m2, z_eq_m, z_ne_m, zn_div, z_a31, zn_shl, zn_shr, z_bq_T, z_bq_F, z_bl_T, nL_0, nL_1, hp, pl_F g2, B_P_found, c9 p2.1, p2.2.2.2.2.2.2.1, pl_T g3]
      exact cRes_st h _ _
    rw [if_neg g3]
    have he := gE_ge w p1
    have he2 : tS (sA G x y) ≤ gE G := he
    have h8 := w.2.2.2.2.2.2
    have hle := tear_le (sA G x y) k
    have e1 := E_S_elements (d + 2) (al (pO G x y)) A _ p2 (wT_w0 p3)
    have c0 := cT_w1 (t := 1) (k := 5) (v := zn (gE G - tS (sA G x y))) p2 p4 p6 (by omega)
    obtain ⟨A1, w1, w2, w3, w4⟩ := E_S_keepFirst (d + 2) (al (pO G x y)) k _ _ c0 p3 hk
    have i5 := st_I w3 p4 p6 (t := 1) (by omega) 5
    rw [zI_wI_s] at i5
    have hw' := wT_tear p3 k
    have e2 := E_S_elements (d + 2) (al (pO G x y)) A1 _ w2 (wT_w0 hw')
    have b6 : 56 ≤ zP zQ A1 (al (pO G x y)) 4 := by rw [w4, zP_wI]; exact p6
    have c2 := cT_w1 (t := 1) (k := 5) (v := zn (gE G - tS (sA G x y) + tS (tearT (sA G x y) k))) w2 p4 b6 (by omega)
    have e3 := E_S_elements (d + 2) (al (pO G x y)) _ _ c2 (wT_w0 hw')
    simp (disch := omega) only [z_bV_some, z_bI_some, z_bJ_some, z_bD_some, z_bR_some, cond_true, cond_false, Bool.and_true, Bool.true_and, Bool.not_false, Bool.not_true, Bool.and_self, Bool.or_true, Bool.false_or, Bool.true_or, zn_ok, zn_ok0, zn_N, zn_add, zn_mul, zn_sub, z_lt_T, z_lt_F, z_le_T, z_le_F, z_eq_T, z_ne_F, z_eq_F, z_ne_T, z_ix_T, z_lt_m, z_le_m, z_lt_m2, z_le_m2, z_eq_m, z_ne_m, zn_div, z_a31, zn_shl, zn_shr, z_bq_T, z_bq_F, z_bl_T, zI_put_a, zP_put, zD_put, z_hd_put, z_cls_put, z_ia_put, z_ln_put, z_new_put, zI_wI_s, zI_wP, zI_wD, zD_wI, zD_wP, zD_wD_s, zP_wI, zP_wD, z_hd_wI, z_hd_wP, z_hd_wD, z_hd_cpy, z_cls_wI, z_cls_wP, z_cls_wD, z_cls_cpy, z_ia_wI, z_ia_wP, z_ia_wD, z_ia_cpy, z_ln_wI, z_ln_wP, z_ln_wD, z_ln_cpy, z_new_wI, z_new_wP, z_new_wD, z_new_cpy, z_new_nw, zP_cpy, zI_uI_s, zP_uI, zD_uI, z_hd_uI, z_cls_uI, z_ia_uI, z_ln_uI, z_new_uI, zI_wI_a, zI_wI_k, zI_uI_a, zI_cpy_a, zP_wP_s, zP_wP_a, zP_wP_k, nL_0, nL_1, hp, pl_F g2, c9 p2.1, p2.2.2.2.2.2.2.1, pl_F g3, e1, h.2.2.1, w1, c9 w2.1, e2, i5, e3, B_P_done]
    exact cRes_up h p1 (zFr_trans (zFr_trans (w1_xcU (by omega)) w3 (fun _ _ _ h => xS_xcU _ _ h)) (w1_xcU (by omega)) (fun _ _ _ h => h)) c2 (Or.inl (by rw [zP_wI]; exact w4)) (zI_wI_s _ _ _ _)
  · rw [pif_F (fun q => g q.1), B_P_tear, E_P_stripAt_no _ h w g]
    simp (disch := omega) only [z_bV_some, z_bI_some, z_bJ_some, z_bD_some, z_bR_some, cond_true, cond_false, Bool.and_true, Bool.true_and, Bool.not_false, Bool.not_true, Bool.and_self, Bool.or_true, Bool.false_or, Bool.true_or, zn_ok, zn_ok0, zn_N, zn_add, zn_mul, zn_sub, z_lt_T, z_lt_F, z_le_T, z_le_F, z_eq_T, z_ne_F, z_eq_F, z_ne_T, z_ix_T, z_lt_m, z_le_m, z_lt_m2, z_le_m2, z_eq_m, z_ne_m, zn_div, z_a31, zn_shl, zn_shr, z_bq_T, z_bq_F, z_bl_T, B_P_refuse]
    exact cRes_st h _ _
theorem rT_SH {B : zM} {p : Nat} {T T' : zT} (h : rT B p T) (e1 : tK T' = tK T) (e2 : tN T' = tN T) (e3 : tU T' = tU T) (e4 : tL T' = tL T) (e7 : tB T' = tB T) (e8 : tE T' = tE T) (v : Int32) : rT (z_wI (z_wI (z_wI B 22 p (zn (tH T'))) 15 13 v) 24 p (zn (tS T'))) p T' := by
  obtain ⟨k0, k1, k2, k3, k4, k5, k6, k7⟩ := h
  unfold rT
  rw [e1, e2, e3, e4, e7, e8]
  refine ⟨?_, ?_, ?_, ?_, ?_, ?_, fun i hi => ?_, fun k hk => ?_⟩
  · simp (disch := omega) only [zI_put_a, zP_put, zD_put, z_hd_put, z_cls_put, z_ia_put, z_ln_put, z_new_put, zI_wI_s, zI_wP, zI_wD, zD_wI, zD_wP, zD_wD_s, zP_wI, zP_wD, z_hd_wI, z_hd_wP, z_hd_wD, z_hd_cpy, z_cls_wI, z_cls_wP, z_cls_wD, z_cls_cpy, z_ia_wI, z_ia_wP, z_ia_wD, z_ia_cpy, z_ln_wI, z_ln_wP, z_ln_wD, z_ln_cpy, z_new_wI, z_new_wP, z_new_wD, z_new_cpy, z_new_nw, zP_cpy, zI_uI_s, zP_uI, zD_uI, z_hd_uI, z_cls_uI, z_ia_uI, z_ln_uI, z_new_uI, zI_wI_a, zI_wI_k, zI_uI_a, zI_cpy_a, zP_wP_s, zP_wP_a, zP_wP_k]; exact k0
  · simp (disch := omega) only [zI_put_a, zP_put, zD_put, z_hd_put, z_cls_put, z_ia_put, z_ln_put, z_new_put, zI_wI_s, zI_wP, zI_wD, zD_wI, zD_wP, zD_wD_s, zP_wI, zP_wD, z_hd_wI, z_hd_wP, z_hd_wD, z_hd_cpy, z_cls_wI, z_cls_wP, z_cls_wD, z_cls_cpy, z_ia_wI, z_ia_wP, z_ia_wD, z_ia_cpy, z_ln_wI, z_ln_wP, z_ln_wD, z_ln_cpy, z_new_wI, z_new_wP, z_new_wD, z_new_cpy, z_new_nw, zP_cpy, zI_uI_s, zP_uI, zD_uI, z_hd_uI, z_cls_uI, z_ia_uI, z_ln_uI, z_new_uI, zI_wI_a, zI_wI_k, zI_uI_a, zI_cpy_a, zP_wP_s, zP_wP_a, zP_wP_k]; exact k1
  · simp (disch := omega) only [zI_put_a, zP_put, zD_put, z_hd_put, z_cls_put, z_ia_put, z_ln_put, z_new_put, zI_wI_s, zI_wP, zI_wD, zD_wI, zD_wP, zD_wD_s, zP_wI, zP_wD, z_hd_wI, z_hd_wP, z_hd_wD, z_hd_cpy, z_cls_wI, z_cls_wP, z_cls_wD, z_cls_cpy, z_ia_wI, z_ia_wP, z_ia_wD, z_ia_cpy, z_ln_wI, z_ln_wP, z_ln_wD, z_ln_cpy, z_new_wI, z_new_wP, z_new_wD, z_new_cpy, z_new_nw, zP_cpy, zI_uI_s, zP_uI, zD_uI, z_hd_uI, z_cls_uI, z_ia_uI, z_ln_uI, z_new_uI, zI_wI_a, zI_wI_k, zI_uI_a, zI_cpy_a, zP_wP_s, zP_wP_a, zP_wP_k]; exact k2
  · simp (disch := omega) only [zI_put_a, zP_put, zD_put, z_hd_put, z_cls_put, z_ia_put, z_ln_put, z_new_put, zI_wI_s, zI_wP, zI_wD, zD_wI, zD_wP, zD_wD_s, zP_wI, zP_wD, z_hd_wI, z_hd_wP, z_hd_wD, z_hd_cpy, z_cls_wI, z_cls_wP, z_cls_wD, z_cls_cpy, z_ia_wI, z_ia_wP, z_ia_wD, z_ia_cpy, z_ln_wI, z_ln_wP, z_ln_wD, z_ln_cpy, z_new_wI, z_new_wP, z_new_wD, z_new_cpy, z_new_nw, zP_cpy, zI_uI_s, zP_uI, zD_uI, z_hd_uI, z_cls_uI, z_ia_uI, z_ln_uI, z_new_uI, zI_wI_a, zI_wI_k, zI_uI_a, zI_cpy_a, zP_wP_s, zP_wP_a, zP_wP_k]; exact k3
  · simp (disch := omega) only [zI_put_a, zP_put, zD_put, z_hd_put, z_cls_put, z_ia_put, z_ln_put, z_new_put, zI_wI_s, zI_wP, zI_wD, zD_wI, zD_wP, zD_wD_s, zP_wI, zP_wD, z_hd_wI, z_hd_wP, z_hd_wD, z_hd_cpy, z_cls_wI, z_cls_wP, z_cls_wD, z_cls_cpy, z_ia_wI, z_ia_wP, z_ia_wD, z_ia_cpy, z_ln_wI, z_ln_wP, z_ln_wD, z_ln_cpy, z_new_wI, z_new_wP, z_new_wD, z_new_cpy, z_new_nw, zP_cpy, zI_uI_s, zP_uI, zD_uI, z_hd_uI, z_cls_uI, z_ia_uI, z_ln_uI, z_new_uI, zI_wI_a, zI_wI_k, zI_uI_a, zI_cpy_a, zP_wP_s, zP_wP_a, zP_wP_k]
  · simp (disch := omega) only [zI_put_a, zP_put, zD_put, z_hd_put, z_cls_put, z_ia_put, z_ln_put, z_new_put, zI_wI_s, zI_wP, zI_wD, zD_wI, zD_wP, zD_wD_s, zP_wI, zP_wD, z_hd_wI, z_hd_wP, z_hd_wD, z_hd_cpy, z_cls_wI, z_cls_wP, z_cls_wD, z_cls_cpy, z_ia_wI, z_ia_wP, z_ia_wD, z_ia_cpy, z_ln_wI, z_ln_wP, z_ln_wD, z_ln_cpy, z_new_wI, z_new_wP, z_new_wD, z_new_cpy, z_new_nw, zP_cpy, zI_uI_s, zP_uI, zD_uI, z_hd_uI, z_cls_uI, z_ia_uI, z_ln_uI, z_new_uI, zI_wI_a, zI_wI_k, zI_uI_a, zI_cpy_a, zP_wP_s, zP_wP_a, zP_wP_k]
  · simp (disch := omega) only [zI_put_a, zP_put, zD_put, z_hd_put, z_cls_put, z_ia_put, z_ln_put, z_new_put, zI_wI_s, zI_wP, zI_wD, zD_wI, zD_wP, zD_wD_s, zP_wI, zP_wD, z_hd_wI, z_hd_wP, z_hd_wD, z_hd_cpy, z_cls_wI, z_cls_wP, z_cls_wD, z_cls_cpy, z_ia_wI, z_ia_wP, z_ia_wD, z_ia_cpy, z_ln_wI, z_ln_wP, z_ln_wD, z_ln_cpy, z_new_wI, z_new_wP, z_new_wD, z_new_cpy, z_new_nw, zP_cpy, zI_uI_s, zP_uI, zD_uI, z_hd_uI, z_cls_uI, z_ia_uI, z_ln_uI, z_new_uI, zI_wI_a, zI_wI_k, zI_uI_a, zI_cpy_a, zP_wP_s, zP_wP_a, zP_wP_k]; exact k6 i hi
  · simp (disch := omega) only [zI_put_a, zP_put, zD_put, z_hd_put, z_cls_put, z_ia_put, z_ln_put, z_new_put, zI_wI_s, zI_wP, zI_wD, zD_wI, zD_wP, zD_wD_s, zP_wI, zP_wD, z_hd_wI, z_hd_wP, z_hd_wD, z_hd_cpy, z_cls_wI, z_cls_wP, z_cls_wD, z_cls_cpy, z_ia_wI, z_ia_wP, z_ia_wD, z_ia_cpy, z_ln_wI, z_ln_wP, z_ln_wD, z_ln_cpy, z_new_wI, z_new_wP, z_new_wD, z_new_cpy, z_new_nw, zP_cpy, zI_uI_s, zP_uI, zD_uI, z_hd_uI, z_cls_uI, z_ia_uI, z_ln_uI, z_new_uI, zI_wI_a, zI_wI_k, zI_uI_a, zI_cpy_a, zP_wP_s, zP_wP_a, zP_wP_k]; exact k7 k hk
theorem Q_tear (d : Nat) {pl : Bool} {G : zG} {B : zM} {x y n : Int32} (h : rG G B) (w : wG G) (hp : zI B 15 36 = bI pl) : rRes B (oTear pl G x y n) (z_den zQ (d + 5) mQ_tear [.ref 15, .int x, .int y, .int n] B) := by
  unfold oTear
  by_cases g : sOk G x y
  · obtain ⟨p1, p2, p3, p4⟩ := rG_at h w g
    rw [B_Q_tear, E_Q_isStrip_ok (d + 1) h w g]
    rcases zn_cases n with hn | ⟨k, hk, rfl⟩
    · rw [pif_F (fun q => by omega)]
      simp (disch := omega) only [z_bV_some, z_bI_some, z_bJ_some, z_bD_some, z_bR_some, cond_true, cond_false, Bool.and_true, Bool.true_and, Bool.not_false, Bool.not_true, Bool.and_self, Bool.or_true, Bool.false_or, Bool.true_or, zn_ok, zn_ok0, zn_N, zn_add, zn_mul, zn_sub, z_lt_T, z_lt_F, z_le_T, z_le_F, z_eq_T, z_ne_F, z_eq_F, z_ne_T, z_ix_T, z_lt_m, z_le_m, z_lt_m2, z_le_m2, z_eq_m, z_ne_m, zn_div, z_a31, zn_shl, zn_shr, z_bq_T, z_bq_F, z_bl_T, nL_0, B_Q_no]
      exact rRes_st h _ _
    rw [pif_T ⟨g, by rw [zn_toInt hk]; omega⟩, zn_N hk]
    by_cases g2 : pl = true
    · rw [if_pos g2]
      simp (disch := omega) only [z_bV_some, z_bI_some, z_bJ_some, z_bD_some, z_bR_some, cond_true, cond_false, Bool.and_true, Bool.true_and, Bool.not_false, Bool.not_true, Bool.and_self, Bool.or_true, Bool.false_or, Bool.true_or, zn_ok, zn_ok0, zn_N, zn_add, zn_mul, zn_sub, z_lt_T, z_lt_F, z_le_T, z_le_F, z_eq_T, z_ne_F, z_eq_F, z_ne_T, z_ix_T, z_lt_m, z_le_m, z_lt_m2, z_le_m2, z_eq_m, z_ne_m, zn_div, z_a31, zn_shl, zn_shr, z_bq_T, z_bq_F, z_bl_T, nL_0, E_Q_bars_busy d h w hp g g2, neg_3]
      exact rRes_st h _ _
    rw [if_neg g2]
    by_cases g3 : tL (sA G x y) = true
    · rw [if_pos g3]
      simp (disch := omega) only [z_bV_some, z_bI_some, z_bJ_some, z_bD_some, z_bR_some, cond_true, cond_false, Bool.and_true, Bool.true_and, Bool.not_false, Bool.not_true, Bool.and_self, Bool.or_true, Bool.false_or, Bool.true_or, zn_ok, zn_ok0, zn_N, zn_add, zn_mul, zn_sub, z_lt_T, z_lt_F, z_le_T, z_le_F, z_eq_T, z_ne_F, z_eq_F, z_ne_T, z_ix_T, z_lt_m, z_le_m, z_lt_m2, z_le_m2, z_eq_m, z_ne_m, zn_div, z_a31, zn_shl, zn_shr, z_bq_T, z_bq_F, z_bl_T, nL_0, E_Q_bars_lost d h w hp g g2 g3, neg_11]
      exact rRes_st h _ _
    rw [if_neg g3]
    have he := gE_ge w p1
    have he2 : tS (sA G x y) ≤ gE G := he
    have h8 := w.2.2.2.2.2.2
    have h1 := rG_st h (zn 0)
    have r1 := rT_wI (a := 15) (k := 0) (v := zn 0) p3 (by unfold inR; omega)
    have hH := p4.2.2.2.1
    have hS := p4.2.2.2.2.1
    have hW : 0 < tW (sA G x y) := wT_pos _
    have hW4 : tW (sA G x y) ≤ 4 := by unfold tW; have := wF_c (tK (sA G x y)); omega
    have hpo := E_Q_poolOf (d + 3) h1 w g
    have hd9 : (k - 9) / tW (sA G x y) ≤ k - 9 := Nat.div_le_self _ _
    have i13 : zI (z_wI B 15 0 (zn 0)) 15 13 = zn (gE G) := by rw [zI_wI_k (by omega)]; exact h.2.2.1
    have fin : ∀ B' : zM, B' = z_wI (z_wI (z_wI (z_wI B 15 0 (zn 0)) 22 (pO G x y) (zn (tH (tearT (sA G x y) k)))) 15 13 (zn (gE G - tS (sA G x y) + tS (tearT (sA G x y) k)))) 24 (pO G x y) (zn (tS (tearT (sA G x y) k))) → rRes B (zn (tS (tearT (sA G x y) k)), zn 0, updT G (pO G x y) (tearT (sA G x y) k) (gE G - tS (sA G x y) + tS (tearT (sA G x y) k))) (some (some (.int (zn (tS (tearT (sA G x y) k)))), z_wI B' 15 0 (zn 0))) := by
      intro B' hB'
      rw [hB']
      refine rRes_up h p1 w.2.1 ?_ (rT_SH (T' := tearT (sA G x y) k) r1 rfl rfl rfl rfl rfl rfl _) ?_
      · have q0 : ∀ (M : zM) (a k : Nat) (v : Int32), xrU (pO G x y) a k → zFr 0 0 (xrU (pO G x y)) M (z_wI M a k v) := fun M a k v h => zFr_wI h
        have tr : ∀ (M M' : zM) (a k : Nat) (v : Int32), xrU (pO G x y) a k → zFr 0 0 (xrU (pO G x y)) M M' → zFr 0 0 (xrU (pO G x y)) M (z_wI M' a k v) := fun M M' a k v hx h => zFr_trans h (q0 M' a k v hx) (fun _ _ _ h => h)
        refine tr _ _ _ _ _ ?_ (tr _ _ _ _ _ ?_ (tr _ _ _ _ _ ?_ (q0 _ _ _ _ ?_))) <;> (unfold xrU inR; omega)
      · simp (disch := omega) only [zI_put_a, zP_put, zD_put, z_hd_put, z_cls_put, z_ia_put, z_ln_put, z_new_put, zI_wI_s, zI_wP, zI_wD, zD_wI, zD_wP, zD_wD_s, zP_wI, zP_wD, z_hd_wI, z_hd_wP, z_hd_wD, z_hd_cpy, z_cls_wI, z_cls_wP, z_cls_wD, z_cls_cpy, z_ia_wI, z_ia_wP, z_ia_wD, z_ia_cpy, z_ln_wI, z_ln_wP, z_ln_wD, z_ln_cpy, z_new_wI, z_new_wP, z_new_wD, z_new_cpy, z_new_nw, zP_cpy, zI_uI_s, zP_uI, zD_uI, z_hd_uI, z_cls_uI, z_ia_uI, z_ln_uI, z_new_uI, zI_wI_a, zI_wI_k, zI_uI_a, zI_cpy_a, zP_wP_s, zP_wP_a, zP_wP_k]
    have ew : ∀ M : zM, z_den zQ (d + 4) mQ_width [.int (zn (tK (sA G x y)))] M = some (some (.int (zn (tW (sA G x y)))), M) := fun M => E_Q_width (d + 3) _ p4.1 M
    have key : ∀ q : Nat, q ≤ tS (sA G x y) → gE G - tS (sA G x y) + q = gE G - (tS (sA G x y) - q) := fun q hq => by omega
    rw [tH_tear, tS_tear] at fin
    rw [tS_tear]
    by_cases g4 : tH (sA G x y) ≤ k
    · rw [if_neg (by omega)] at fin
      by_cases g5 : k < 9
      · rw [if_pos g5] at fin ⊢
        rw [if_neg (by omega)] at fin ⊢
        simp (disch := omega) only [z_bV_some, z_bI_some, z_bJ_some, z_bD_some, z_bR_some, cond_true, cond_false, Bool.and_true, Bool.true_and, Bool.not_false, Bool.not_true, Bool.and_self, Bool.or_true, Bool.false_or, Bool.true_or, zn_ok, zn_ok0, zn_N, zn_add, zn_mul, zn_sub, z_lt_T, z_lt_F, z_le_T, z_le_F, z_eq_T, z_ne_F, z_eq_F, z_ne_T, z_ix_T, z_lt_m, z_le_m, z_lt_m2, z_le_m2, z_eq_m, z_ne_m, zn_div, z_a31, zn_shl, zn_shr, z_bq_T, z_bq_F, z_bl_T, zI_put_a, zP_put, zD_put, z_hd_put, z_cls_put, z_ia_put, z_ln_put, z_new_put, zI_wI_s, zI_wP, zI_wD, zD_wI, zD_wP, zD_wD_s, zP_wI, zP_wD, z_hd_wI, z_hd_wP, z_hd_wD, z_hd_cpy, z_cls_wI, z_cls_wP, z_cls_wD, z_cls_cpy, z_ia_wI, z_ia_wP, z_ia_wD, z_ia_cpy, z_ln_wI, z_ln_wP, z_ln_wD, z_ln_cpy, z_new_wI, z_new_wP, z_new_wD, z_new_cpy, z_new_nw, zP_cpy, zI_uI_s, zP_uI, zD_uI, z_hd_uI, z_cls_uI, z_ia_uI, z_ln_uI, z_new_uI, zI_wI_a, zI_wI_k, zI_uI_a, zI_cpy_a, zP_wP_s, zP_wP_a, zP_wP_k, nL_0, nL_9, E_Q_bars_ok d h w hp g g2 g3, hpo, r1.2.2.2.2.1, r1.2.2.2.2.2.1, h.2.2.1, B_Q_well]
        exact fin _ rfl
      · rw [if_neg g5] at fin ⊢
        by_cases g6 : tS (sA G x y) < (k - 9) / tW (sA G x y)
        · rw [if_pos g6] at fin ⊢
          simp (disch := omega) only [z_bV_some, z_bI_some, z_bJ_some, z_bD_some, z_bR_some, cond_true, cond_false, Bool.and_true, Bool.true_and, Bool.not_false, Bool.not_true, Bool.and_self, Bool.or_true, Bool.false_or, Bool.true_or, zn_ok, zn_ok0, zn_N, zn_add, zn_mul, zn_sub, z_lt_T, z_lt_F, z_le_T, z_le_F, z_eq_T, z_ne_F, z_eq_F, z_ne_T, z_ix_T, z_lt_m, z_le_m, z_lt_m2, z_le_m2, z_eq_m, z_ne_m, zn_div, z_a31, zn_shl, zn_shr, z_bq_T, z_bq_F, z_bl_T, zI_put_a, zP_put, zD_put, z_hd_put, z_cls_put, z_ia_put, z_ln_put, z_new_put, zI_wI_s, zI_wP, zI_wD, zD_wI, zD_wP, zD_wD_s, zP_wI, zP_wD, z_hd_wI, z_hd_wP, z_hd_wD, z_hd_cpy, z_cls_wI, z_cls_wP, z_cls_wD, z_cls_cpy, z_ia_wI, z_ia_wP, z_ia_wD, z_ia_cpy, z_ln_wI, z_ln_wP, z_ln_wD, z_ln_cpy, z_new_wI, z_new_wP, z_new_wD, z_new_cpy, z_new_nw, zP_cpy, zI_uI_s, zP_uI, zD_uI, z_hd_uI, z_cls_uI, z_ia_uI, z_ln_uI, z_new_uI, zI_wI_a, zI_wI_k, zI_uI_a, zI_cpy_a, zP_wP_s, zP_wP_a, zP_wP_k, nL_0, nL_9, E_Q_bars_ok d h w hp g g2 g3, hpo, r1.1, r1.2.2.2.2.1, r1.2.2.2.2.2.1, h.2.2.1, B_Q_well, ew, Nat.sub_self, Nat.sub_zero]
          rw [show gE G - tS (sA G x y) + tS (sA G x y) = gE G by omega] at fin ⊢
          exact fin _ rfl
        · rw [if_neg g6] at fin ⊢
          simp (disch := omega) only [z_bV_some, z_bI_some, z_bJ_some, z_bD_some, z_bR_some, cond_true, cond_false, Bool.and_true, Bool.true_and, Bool.not_false, Bool.not_true, Bool.and_self, Bool.or_true, Bool.false_or, Bool.true_or, zn_ok, zn_ok0, zn_N, zn_add, zn_mul, zn_sub, z_lt_T, z_lt_F, z_le_T, z_le_F, z_eq_T, z_ne_F, z_eq_F, z_ne_T, z_ix_T, z_lt_m, z_le_m, z_lt_m2, z_le_m2, z_eq_m, z_ne_m, zn_div, z_a31, zn_shl, zn_shr, z_bq_T, z_bq_F, z_bl_T, zI_put_a, zP_put, zD_put, z_hd_put, z_cls_put, z_ia_put, z_ln_put, z_new_put, zI_wI_s, zI_wP, zI_wD, zD_wI, zD_wP, zD_wD_s, zP_wI, zP_wD, z_hd_wI, z_hd_wP, z_hd_wD, z_hd_cpy, z_cls_wI, z_cls_wP, z_cls_wD, z_cls_cpy, z_ia_wI, z_ia_wP, z_ia_wD, z_ia_cpy, z_ln_wI, z_ln_wP, z_ln_wD, z_ln_cpy, z_new_wI, z_new_wP, z_new_wD, z_new_cpy, z_new_nw, zP_cpy, zI_uI_s, zP_uI, zD_uI, z_hd_uI, z_cls_uI, z_ia_uI, z_ln_uI, z_new_uI, zI_wI_a, zI_wI_k, zI_uI_a, zI_cpy_a, zP_wP_s, zP_wP_a, zP_wP_k, nL_0, nL_9, E_Q_bars_ok d h w hp g g2 g3, hpo, r1.1, r1.2.2.2.2.1, r1.2.2.2.2.2.1, h.2.2.1, B_Q_well, ew]
          rw [show gE G - tS (sA G x y) + (k - 9) / tW (sA G x y) = gE G - (tS (sA G x y) - (k - 9) / tW (sA G x y)) from key _ (Nat.le_of_not_lt g6)] at fin ⊢
          exact fin _ (by rw [zn_sub (Nat.le_trans (Nat.sub_le _ _) he2)])
    · rw [if_pos (by omega)] at fin
      have g5 : k < 9 := by omega
      rw [if_pos g5] at fin ⊢
      rw [if_neg (by omega)] at fin ⊢
      simp (disch := omega) only [z_bV_some, z_bI_some, z_bJ_some, z_bD_some, z_bR_some, cond_true, cond_false, Bool.and_true, Bool.true_and, Bool.not_false, Bool.not_true, Bool.and_self, Bool.or_true, Bool.false_or, Bool.true_or, zn_ok, zn_ok0, zn_N, zn_add, zn_mul, zn_sub, z_lt_T, z_lt_F, z_le_T, z_le_F, z_eq_T, z_ne_F, z_eq_F, z_ne_T, z_ix_T, z_lt_m, z_le_m, z_lt_m2, z_le_m2, z_eq_m, z_ne_m, zn_div, z_a31, zn_shl, zn_shr, z_bq_T, z_bq_F, z_bl_T, zI_put_a, zP_put, zD_put, z_hd_put, z_cls_put, z_ia_put, z_ln_put, z_new_put, zI_wI_s, zI_wP, zI_wD, zD_wI, zD_wP, zD_wD_s, zP_wI, zP_wD, z_hd_wI, z_hd_wP, z_hd_wD, z_hd_cpy, z_cls_wI, z_cls_wP, z_cls_wD, z_cls_cpy, z_ia_wI, z_ia_wP, z_ia_wD, z_ia_cpy, z_ln_wI, z_ln_wP, z_ln_wD, z_ln_cpy, z_new_wI, z_new_wP, z_new_wD, z_new_cpy, z_new_nw, zP_cpy, zI_uI_s, zP_uI, zD_uI, z_hd_uI, z_cls_uI, z_ia_uI, z_ln_uI, z_new_uI, zI_wI_a, zI_wI_k, zI_uI_a, zI_cpy_a, zP_wP_s, zP_wP_a, zP_wP_k, nL_0, nL_9, E_Q_bars_ok d h w hp g g2 g3, hpo, r1.2.2.2.2.1, r1.2.2.2.2.2.1, h.2.2.1, B_Q_well]
      exact fin _ rfl
  · rw [pif_F (fun q => g q.1), B_Q_tear, E_Q_isStrip_no (d + 1) h w g]
    simp (disch := omega) only [z_bV_some, z_bI_some, z_bJ_some, z_bD_some, z_bR_some, cond_true, cond_false, Bool.and_true, Bool.true_and, Bool.not_false, Bool.not_true, Bool.and_self, Bool.or_true, Bool.false_or, Bool.true_or, zn_ok, zn_ok0, zn_N, zn_add, zn_mul, zn_sub, z_lt_T, z_lt_F, z_le_T, z_le_F, z_eq_T, z_ne_F, z_eq_F, z_ne_T, z_ix_T, z_lt_m, z_le_m, z_lt_m2, z_le_m2, z_eq_m, z_ne_m, zn_div, z_a31, zn_shl, zn_shr, z_bq_T, z_bq_F, z_bl_T, nL_0, B_Q_no]
    exact rRes_st h _ _
