/-! S LEVEL, acts: tune, the reference. -/
theorem z_eq_10 : z_eq (zn 1) 0 = false := by rw [nL_0]; exact z_eq_F (by omega) (by omega) (by omega)
theorem z_eq_00 : z_eq (zn 0) 0 = true := by rw [nL_0]; exact z_eq_T _
theorem Q_tune (d : Nat) {pl : Bool} {J : zJ} {B : zM} {x p q : Int32} (w : wJ J) (h : rJ J B) (hp : zI B 15 36 = bI pl) : rResI B (oTune pl J x p q) (z_den zQ (d + 3) mQ_tune [.ref 15, .int x, .int p, .int q] B) := by
  unfold oTune
  have w0 := w.1
  rw [B_Q_tune]
  by_cases gx : iOk J x
  · rw [r_isI d w h gx, z_bI_some, z_eq_10, cond_false, nL_1000, nL_0]
    obtain ⟨i, hi, hi2, rfl⟩ := iOk_ex gx
    have w1 := (w.2.2.2 i hi).1
    have g1 := (h.2.2.1 i hi).1
    by_cases gp : 0 ≤ p.toInt ∧ p.toInt ≤ 1000
    · rw [Q_within_T (a := 0) (n := 1000) (by omega) (by omega) gp, z_bI_some, z_eq_F (by omega) (by omega) (by omega), cond_false]
      by_cases gq : 0 ≤ q.toInt ∧ q.toInt ≤ 1000
      · rw [Q_within_T (a := 0) (n := 1000) (by omega) (by omega) gq, z_bI_some, z_eq_F (by omega) (by omega) (by omega), cond_false, hp, ← nL_0, bI_eq0, nL_0]
        obtain ⟨n, hn, rfl⟩ := zn_ex gp.1
        obtain ⟨m, hm, rfl⟩ := zn_ex gq.1
        rw [zn_toInt hn] at gp
        rw [zn_toInt hm] at gq
        rw [zn_toInt hn, zn_toInt hm, zn_N hn, zn_N hm, zn_N hi2]
        by_cases b3 : m = 0 ∧ n ≠ 0
        · rw [pif_F (fun e => by omega), b3.1]
          simp (disch := omega) only [z_bV_some, z_bI_some, z_bJ_some, z_bD_some, z_bR_some, cond_true, cond_false, Bool.and_true, Bool.true_and, Bool.not_false, Bool.not_true, Bool.and_self, Bool.or_true, Bool.false_or, Bool.true_or, zn_ok, zn_ok0, zn_N, zn_add, zn_mul, zn_sub, z_lt_T, z_lt_F, z_le_T, z_le_F, z_eq_T, z_ne_F, z_eq_F, z_ne_T, z_ix_T, z_lt_m, z_le_m, z_lt_m2, z_le_m2, z_eq_m, z_ne_m, zn_div, z_a31, zn_shl, zn_shr, z_bq_T, z_bq_F, z_bl_T, nL_0, B_Q_no]
          exact rRI_st h _ _
        · rw [pif_T ⟨gx, by omega, by omega, by omega⟩]
          cases pl
          · rw [if_neg (by decide)]
            by_cases k3 : jS J i = 3
            · rw [if_pos (Or.inl k3)]
              rw [k3] at g1
              by_cases m0 : m = 0
              · have n0 : n = 0 := by omega
                subst m0; subst n0
                simp (disch := omega) only [z_bV_some, z_bI_some, z_bJ_some, z_bD_some, z_bR_some, cond_true, cond_false, Bool.and_true, Bool.true_and, Bool.not_false, Bool.not_true, Bool.and_self, Bool.or_true, Bool.false_or, Bool.true_or, zn_ok, zn_ok0, zn_N, zn_add, zn_mul, zn_sub, z_lt_T, z_lt_F, z_le_T, z_le_F, z_eq_T, z_ne_F, z_eq_F, z_ne_T, z_ix_T, z_lt_m, z_le_m, z_lt_m2, z_le_m2, z_eq_m, z_ne_m, zn_div, z_a31, zn_shl, zn_shr, z_bq_T, z_bq_F, z_bl_T, nL_0, nL_3, g1, B_Q_finds]
                exact rRI_st h _ _
              · simp (disch := omega) only [z_bV_some, z_bI_some, z_bJ_some, z_bD_some, z_bR_some, cond_true, cond_false, Bool.and_true, Bool.true_and, Bool.not_false, Bool.not_true, Bool.and_self, Bool.or_true, Bool.false_or, Bool.true_or, zn_ok, zn_ok0, zn_N, zn_add, zn_mul, zn_sub, z_lt_T, z_lt_F, z_le_T, z_le_F, z_eq_T, z_ne_F, z_eq_F, z_ne_T, z_ix_T, z_lt_m, z_le_m, z_lt_m2, z_le_m2, z_eq_m, z_ne_m, zn_div, z_a31, zn_shl, zn_shr, z_bq_T, z_bq_F, z_bl_T, nL_0, nL_3, g1, B_Q_finds]
                exact rRI_st h _ _
            · by_cases k6 : jS J i = 6
              · rw [if_pos (Or.inr k6)]
                rw [k6] at g1
                by_cases m0 : m = 0
                · have n0 : n = 0 := by omega
                  subst m0; subst n0
                  simp (disch := omega) only [z_bV_some, z_bI_some, z_bJ_some, z_bD_some, z_bR_some, cond_true, cond_false, Bool.and_true, Bool.true_and, Bool.not_false, Bool.not_true, Bool.and_self, Bool.or_true, Bool.false_or, Bool.true_or, zn_ok, zn_ok0, zn_N, zn_add, zn_mul, zn_sub, z_lt_T, z_lt_F, z_le_T, z_le_F, z_eq_T, z_ne_F, z_eq_F, z_ne_T, z_ix_T, z_lt_m, z_le_m, z_lt_m2, z_le_m2, z_eq_m, z_ne_m, zn_div, z_a31, zn_shl, zn_shr, z_bq_T, z_bq_F, z_bl_T, nL_0, nL_3, nL_6, g1, B_Q_finds]
                  exact rRI_st h _ _
                · simp (disch := omega) only [z_bV_some, z_bI_some, z_bJ_some, z_bD_some, z_bR_some, cond_true, cond_false, Bool.and_true, Bool.true_and, Bool.not_false, Bool.not_true, Bool.and_self, Bool.or_true, Bool.false_or, Bool.true_or, zn_ok, zn_ok0, zn_N, zn_add, zn_mul, zn_sub, z_lt_T, z_lt_F, z_le_T, z_le_F, z_eq_T, z_ne_F, z_eq_F, z_ne_T, z_ix_T, z_lt_m, z_le_m, z_lt_m2, z_le_m2, z_eq_m, z_ne_m, zn_div, z_a31, zn_shl, zn_shr, z_bq_T, z_bq_F, z_bl_T, nL_0, nL_3, nL_6, g1, B_Q_finds]
                  exact rRI_st h _ _
              · rw [if_neg (by omega)]
                have hR : ∀ (v : Int32) (e : Nat) (y : UInt64), e = (if m = 0 then 1 else 0) → y = (if m = 0 then 0 else zf_div.1 (UInt64.ofNat (iN n)) (UInt64.ofNat (iN m))) → rResI B (.int v, zn 0, upR J i n m, []) (some (some (.int v), z_wI (z_wD (z_wI B 31 i (zn e)) 32 i y) 15 0 (zn 0))) := by
                  intro v e y he hy
                  have f1 : zFr 0 0 xrI B (z_wI B 31 i (zn e)) := zFr_wI (X := xrI) (Or.inr (Or.inr (Or.inl rfl)))
                  have f2 : zFr 0 0 xrI (z_wI B 31 i (zn e)) (z_wD (z_wI B 31 i (zn e)) 32 i y) := zFr_wD (X := xrI) (Or.inr (Or.inr (Or.inr (Or.inl rfl))))
                  have f3 : zFr 0 0 xrI (z_wD (z_wI B 31 i (zn e)) 32 i y) (z_wI (z_wD (z_wI B 31 i (zn e)) 32 i y) 15 0 (zn 0)) := zFr_wI (X := xrI) (Or.inl ⟨rfl, Or.inl rfl⟩)
                  refine ⟨_, rfl, ?_, zI_wI_s .., fun j _ => ?_, zFr_trans (zFr_trans f1 f2 (fun _ _ _ e => e)) f3 (fun _ _ _ e => e)⟩
                  · rw [he]; exact rJ_st (r_upR h n m hy hi) _
                  · rw [zI_wI_a (by omega), zI_wD, zI_wI_a (by omega)]; rfl
                by_cases m0 : m = 0
                · have n0 : n = 0 := by omega
                  subst m0; subst n0
                  simp (disch := omega) only [z_bV_some, z_bI_some, z_bJ_some, z_bD_some, z_bR_some, cond_true, cond_false, Bool.and_true, Bool.true_and, Bool.not_false, Bool.not_true, Bool.and_self, Bool.or_true, Bool.false_or, Bool.true_or, zn_ok, zn_ok0, zn_N, zn_add, zn_mul, zn_sub, z_lt_T, z_lt_F, z_le_T, z_le_F, z_eq_T, z_ne_F, z_eq_F, z_ne_T, z_ix_T, z_lt_m, z_le_m, z_lt_m2, z_le_m2, z_eq_m, z_ne_m, zn_div, z_a31, zn_shl, zn_shr, z_bq_T, z_bq_F, z_bl_T, nL_0, nL_1, nL_3, nL_6, g1, B_Q_well, if_true]
                  exact hR (zn 0) 1 0 rfl rfl
                · have hr : z_num (zf_div.1 (UInt64.ofNat (iN n)) (UInt64.ofNat (iN m))) = true := nnD_num (r_nn (by omega) (by omega) (by omega)) (by omega)
                  rw [if_neg m0, zi_n hn, zi_n hm]
                  simp (disch := omega) only [z_bV_some, z_bI_some, z_bJ_some, z_bD_some, z_bR_some, cond_true, cond_false, Bool.and_true, Bool.true_and, Bool.not_false, Bool.not_true, Bool.and_self, Bool.or_true, Bool.false_or, Bool.true_or, zn_ok, zn_ok0, zn_N, zn_add, zn_mul, zn_sub, z_lt_T, z_lt_F, z_le_T, z_le_F, z_eq_T, z_ne_F, z_eq_F, z_ne_T, z_ix_T, z_lt_m, z_le_m, z_lt_m2, z_le_m2, z_eq_m, z_ne_m, zn_div, z_a31, zn_shl, zn_shr, z_bq_T, z_bq_F, z_bl_T, nL_0, nL_1, nL_3, nL_6, g1, B_Q_well, hr]
                  exact hR (zn 1) 0 _ (by rw [if_neg m0]) (by rw [if_neg m0])
          · rw [if_pos rfl]
            by_cases m0 : m = 0
            · have n0 : n = 0 := by omega
              subst m0; subst n0
              simp (disch := omega) only [z_bV_some, z_bI_some, z_bJ_some, z_bD_some, z_bR_some, cond_true, cond_false, Bool.and_true, Bool.true_and, Bool.not_false, Bool.not_true, Bool.and_self, Bool.or_true, Bool.false_or, Bool.true_or, zn_ok, zn_ok0, zn_N, zn_add, zn_mul, zn_sub, z_lt_T, z_lt_F, z_le_T, z_le_F, z_eq_T, z_ne_F, z_eq_F, z_ne_T, z_ix_T, z_lt_m, z_le_m, z_lt_m2, z_le_m2, z_eq_m, z_ne_m, zn_div, z_a31, zn_shl, zn_shr, z_bq_T, z_bq_F, z_bl_T, nL_0, B_Q_no]
              exact rRI_st h _ _
            · simp (disch := omega) only [z_bV_some, z_bI_some, z_bJ_some, z_bD_some, z_bR_some, cond_true, cond_false, Bool.and_true, Bool.true_and, Bool.not_false, Bool.not_true, Bool.and_self, Bool.or_true, Bool.false_or, Bool.true_or, zn_ok, zn_ok0, zn_N, zn_add, zn_mul, zn_sub, z_lt_T, z_lt_F, z_le_T, z_le_F, z_eq_T, z_ne_F, z_eq_F, z_ne_T, z_ix_T, z_lt_m, z_le_m, z_lt_m2, z_le_m2, z_eq_m, z_ne_m, zn_div, z_a31, zn_shl, zn_shr, z_bq_T, z_bq_F, z_bl_T, nL_0, B_Q_no]
              exact rRI_st h _ _
      · rw [pif_F (fun e => gq e.2.2.1), Q_within_F (a := 0) (n := 1000) (by omega) (by omega) gq, z_bI_some, z_eq_T, cond_true, B_Q_no, z_bI_some]
        exact rRI_st h _ _
    · rw [pif_F (fun e => gp e.2.1), Q_within_F (a := 0) (n := 1000) (by omega) (by omega) gp, z_bI_some, z_eq_T, cond_true, B_Q_no, z_bI_some]
      exact rRI_st h _ _
  · rw [pif_F (fun e => gx e.1), r_isI_no d w h gx, z_bI_some, z_eq_00, cond_true, B_Q_no, z_bI_some]
    exact rRI_st h _ _
