/-! S LEVEL, acts: mute, higher. -/
theorem c_cls {J : zJ} {A : zM} (w : wJ J) (h : cJ J A) {i : Nat} (hi : i < jN J) : z_cls zQ A (zP zQ A 4 i) [0, 1, 2, 3, 5, 6, 7] = true := by
  obtain ⟨g1, -⟩ := h.2.2.1 i hi
  have w1 := (w.2.2.2 i hi).1
  rw [z_cls_of g1]
  have : jS J i = 0 ∨ jS J i = 1 ∨ jS J i = 2 ∨ jS J i = 3 ∨ jS J i = 4 ∨ jS J i = 5 ∨ jS J i = 6 := by omega
  rcases this with e | e | e | e | e | e | e <;> rw [e] <;> rfl
def muF (o : Option UInt64) : Int32 := match o with
  | none => 1
  | some _ => 0
noncomputable def oMute (J : zJ) (x : Int32) : Value × Int32 × zJ × List Nat := pif (iOk J x) (if jS J x.toNatClampNeg = 3 then (.int (-15), 5, J, []) else (.int (muF (pvJ J x.toNatClampNeg).1), 0, J, (pvJ J x.toNatClampNeg).2)) (.int (-1), -1, J, [])
theorem P_mute (d : Nat) {J : zJ} {A : zM} {x : Int32} (w : wJ J) (h : cJ J A) : cResI 0 0 A (oMute J x) (z_den zQ (d + 46) mP_mute [.ref 1, .int x] A) := by
  unfold oMute
  by_cases g : iOk J x
  · rw [pif_T g]
    obtain ⟨i, hi, hi2, rfl⟩ := iOk_ex g
    rw [zn_N hi2, B_P_mute, c_insAt _ w hi, z_bR_some]
    obtain ⟨g1, g2, g3, -⟩ := h.2.2.1 i hi
    have nz := cJ_nz h hi
    have w1 := (w.2.2.2 i hi).1
    have hc := c_cls w h hi
    by_cases g3' : jS J i = 3
    · rw [if_pos g3']
      rw [g3'] at g3
      simp (disch := omega) only [z_bV_some, z_bI_some, z_bJ_some, z_bD_some, z_bR_some, cond_true, cond_false, Bool.and_true, Bool.true_and, Bool.not_false, Bool.not_true, Bool.and_self, Bool.or_true, Bool.false_or, Bool.true_or, zn_ok, zn_ok0, zn_N, zn_add, zn_mul, zn_sub, z_lt_T, z_lt_F, z_le_T, z_le_F, z_eq_T, z_ne_F, z_eq_F, z_ne_T, z_ix_T, z_lt_m, z_le_m, z_lt_m2, z_le_m2, z_eq_m, z_ne_m, zn_div, z_a31, zn_shl, zn_shr, z_bq_T, z_bq_F, z_bl_T, nL_3, hc, g3, B_P_found]
      exact cRI_st h _ _
    · rw [if_neg g3']
      have hp := c_pOf d w h hi
      simp (disch := omega) only [z_bV_some, z_bI_some, z_bJ_some, z_bD_some, z_bR_some, cond_true, cond_false, Bool.and_true, Bool.true_and, Bool.not_false, Bool.not_true, Bool.and_self, Bool.or_true, Bool.false_or, Bool.true_or, zn_ok, zn_ok0, zn_N, zn_add, zn_mul, zn_sub, z_lt_T, z_lt_F, z_le_T, z_le_F, z_eq_T, z_ne_F, z_eq_F, z_ne_T, z_ix_T, z_lt_m, z_le_m, z_lt_m2, z_le_m2, z_eq_m, z_ne_m, zn_div, z_a31, zn_shl, zn_shr, z_bq_T, z_bq_F, z_bl_T, nL_3, hc, g3, hp]
      cases ho : (pvJ J i).1 with
      | none =>
        rw [dO_neg, cond_false, B_P_done, z_bI_some]
        exact cRI_bs w h _ _ _
      | some v =>
        show cResI 0 0 A _ (bif z_le 0 (zf_cmp.1 .g v 0) then _ else _)
        rw [zc_ge0 _ (oP_J w hi v ho), cond_true, B_P_done, z_bI_some]
        exact cRI_bs w h _ _ _
  · rw [pif_F g, B_P_mute, c_insAt_no _ w h g, z_bR_some]
    simp (disch := omega) only [z_bV_some, z_bI_some, z_bJ_some, z_bD_some, z_bR_some, cond_true, cond_false, Bool.and_true, Bool.true_and, Bool.not_false, Bool.not_true, Bool.and_self, Bool.or_true, Bool.false_or, Bool.true_or, show Nat.beq 0 0 = true from rfl, B_P_refuse]
    exact cRI_st h _ _
theorem Q_mute (d : Nat) {J : zJ} {B : zM} {x : Int32} (w : wJ J) (h : rJ J B) : rResI B (oMute J x) (z_den zQ (d + 5) mQ_mute [.ref 15, .int x] B) := by
  unfold oMute
  by_cases g : iOk J x
  · rw [pif_T g]
    obtain ⟨i, hi, hi2, rfl⟩ := iOk_ex g
    rw [zn_N hi2, B_Q_mute]
    by_cases g3 : jS J i = 3
    · rw [if_pos g3, r_tones_3 (d + 1) w h hi g3, z_bI_some, show z_le (0 : Int32) (-15) = false by rw [z_le_eq]; decide, cond_false]
      exact rRI_st h _ _
    · rw [if_neg g3, r_tones_T (d + 1) w h hi g3, z_bI_some, ← nL_0, z_le_00, cond_true]
      obtain ⟨l2, B', q1, q2, q3, q4⟩ := r_fOf d w (rJ_st h 0) hi
      rw [q1, z_bD_some]
      have f1 : zFr 0 0 xrI B (z_wI B 15 0 0) := zFr_wI (X := xrI) (Or.inl ⟨rfl, Or.inl rfl⟩)
      have f2 := zFr_trans f1 (xq_xrI q2) (fun _ _ _ e => e)
      have ht : trR B (pvJ J i).2 B' := fun j hj => by rw [q4 j hj]; exact zbs_two _ _ _ (fun k _ => zI_wI_a (by omega)) j hj
      have hJ' := rJ_fr (rJ_st h 0) q2
      have f3 : zFr 0 0 xrI B' (z_wI B' 15 0 0) := zFr_wI (X := xrI) (Or.inl ⟨rfl, Or.inl rfl⟩)
      have f4 := zFr_trans f2 f3 (fun _ _ _ e => e)
      cases ho : (pvJ J i).1 with
      | none =>
        rw [ho] at q3
        have q3 : zI B' 15 35 = zn 1 := q3
        rw [q3, nL_0, z_eq_F (by omega) (by omega) (by omega), cond_false, ← nL_0, B_Q_well, z_bI_some]
        exact ⟨_, rfl, rJ_st hJ' 0, zI_wI_s .., fun j hj => by rw [zI_wI_a (by omega)]; exact ht j hj, f4⟩
      | some v =>
        rw [ho] at q3
        obtain ⟨q3, rfl⟩ := q3
        rw [q3, nL_0, z_eq_T, cond_true, ← nL_0, B_Q_well, z_bI_some]
        exact ⟨_, rfl, rJ_st hJ' 0, zI_wI_s .., fun j hj => by rw [zI_wI_a (by omega)]; exact ht j hj, f4⟩
  · rw [pif_F g, B_Q_mute, r_tones_no (d + 1) w h g, z_bI_some, z_le_0m, cond_false]
    exact rRI_st h _ _
def hiF (a b : Option UInt64) : Int32 := match a, b with
  | some x, some y => if y.toNat < x.toNat then 1 else if x.toNat < y.toNat then 3 else 2
  | _, _ => 0
noncomputable def oHigh (J : zJ) (x y : Int32) : Value × Int32 × zJ × List Nat := pif (iOk J x ∧ iOk J y) (if jS J x.toNatClampNeg = 3 ∨ jS J y.toNatClampNeg = 3 then (.int (-15), 5, J, []) else (.int (hiF (pvJ J x.toNatClampNeg).1 (pvJ J y.toNatClampNeg).1), 0, J, (pvJ J x.toNatClampNeg).2 ++ (pvJ J y.toNatClampNeg).2)) (.int (-1), -1, J, [])
theorem P_higher (d : Nat) {J : zJ} {A : zM} {x y : Int32} (w : wJ J) (h : cJ J A) : cResI 0 0 A (oHigh J x y) (z_den zQ (d + 46) mP_higher [.ref 1, .int x, .int y] A) := by
  unfold oHigh
  by_cases gx : iOk J x
  · obtain ⟨i, hi, hi2, rfl⟩ := iOk_ex gx
    have nz := cJ_nz h hi
    rw [B_P_higher, c_insAt _ w hi, z_bR_some]
    by_cases gy : iOk J y
    · obtain ⟨j, hj, hj2, rfl⟩ := iOk_ex gy
      rw [pif_T ⟨gx, gy⟩, zn_N hi2, zn_N hj2, c_insAt _ w hj, z_bR_some]
      have nz2 := cJ_nz h hj
      have w1 := (w.2.2.2 i hi).1
      have w2 := (w.2.2.2 j hj).1
      have hc := c_cls w h hi
      have hc2 := c_cls w h hj
      obtain ⟨-, -, g3, -⟩ := h.2.2.1 i hi
      obtain ⟨-, -, k3, -⟩ := h.2.2.1 j hj
      by_cases g3' : jS J i = 3
      · rw [if_pos (Or.inl g3')]
        rw [g3'] at g3
        simp (disch := omega) only [z_bV_some, z_bI_some, z_bJ_some, z_bD_some, z_bR_some, cond_true, cond_false, Bool.and_true, Bool.true_and, Bool.not_false, Bool.not_true, Bool.and_self, Bool.or_true, Bool.false_or, Bool.true_or, zn_ok, zn_ok0, zn_N, zn_add, zn_mul, zn_sub, z_lt_T, z_lt_F, z_le_T, z_le_F, z_eq_T, z_ne_F, z_eq_F, z_ne_T, z_ix_T, z_lt_m, z_le_m, z_lt_m2, z_le_m2, z_eq_m, z_ne_m, zn_div, z_a31, zn_shl, zn_shr, z_bq_T, z_bq_F, z_bl_T, nL_3, hc, g3, B_P_found]
        exact cRI_st h _ _
      · by_cases k3' : jS J j = 3
        · rw [if_pos (Or.inr k3')]
          rw [k3'] at k3
          simp (disch := omega) only [z_bV_some, z_bI_some, z_bJ_some, z_bD_some, z_bR_some, cond_true, cond_false, Bool.and_true, Bool.true_and, Bool.not_false, Bool.not_true, Bool.and_self, Bool.or_true, Bool.false_or, Bool.true_or, zn_ok, zn_ok0, zn_N, zn_add, zn_mul, zn_sub, z_lt_T, z_lt_F, z_le_T, z_le_F, z_eq_T, z_ne_F, z_eq_F, z_ne_T, z_ix_T, z_lt_m, z_le_m, z_lt_m2, z_le_m2, z_eq_m, z_ne_m, zn_div, z_a31, zn_shl, zn_shr, z_bq_T, z_bq_F, z_bl_T, nL_3, hc, g3, hc2, k3, B_P_found]
          exact cRI_st h _ _
        · rw [if_neg (by omega)]
          have hp := c_pOf d w h hi
          have hq := c_pOf d w (cJ_bs h (pvJ J i).2 w) hj
          rw [zbs_P] at hq
          simp (disch := omega) only [z_bV_some, z_bI_some, z_bJ_some, z_bD_some, z_bR_some, cond_true, cond_false, Bool.and_true, Bool.true_and, Bool.not_false, Bool.not_true, Bool.and_self, Bool.or_true, Bool.false_or, Bool.true_or, zn_ok, zn_ok0, zn_N, zn_add, zn_mul, zn_sub, z_lt_T, z_lt_F, z_le_T, z_le_F, z_eq_T, z_ne_F, z_eq_F, z_ne_T, z_ix_T, z_lt_m, z_le_m, z_lt_m2, z_le_m2, z_eq_m, z_ne_m, zn_div, z_a31, zn_shl, zn_shr, z_bq_T, z_bq_F, z_bl_T, nL_3, hc, g3, hc2, k3, hp, hq]
          rw [← zbs_app]
          cases ho : (pvJ J i).1 with
          | none =>
            show cResI 0 0 A _ (bif z_lt (zf_cmp.1 .g 13830554455654793216 0) 0 then _ else _)
            rw [zc_neg, z_lt_m0, cond_true, B_P_done, z_bI_some]
            exact cRI_bs w h _ _ _
          | some u =>
            have hu := oP_J w hi u ho
            have hlt : z_lt (zf_cmp.1 .g u 0) 0 = false := by
              by_cases e : u = 0
              · subst e; rw [zc_eq _ nP_0, z_lt_00]
              · rw [zc_gt _ hu nP_0 ?_, z_lt_10]
                rcases hu with e' | ⟨e', t, _, h4, _, _⟩
                · exact absurd e' e
                · rw [h4, show (0 : UInt64).toNat = 0 by rfl]; unfold nrm; omega
            show cResI 0 0 A _ (bif z_lt (zf_cmp.1 .g u 0) 0 then _ else _)
            rw [hlt, cond_false]
            cases ho2 : (pvJ J j).1 with
            | none =>
              rw [dO_neg, cond_false, B_P_done, z_bI_some]
              exact cRI_bs w h _ _ _
            | some v =>
              have hv := oP_J w hj v ho2
              show cResI 0 0 A (.int (if v.toNat < u.toNat then 1 else if u.toNat < v.toNat then 3 else 2), _) (bif z_le 0 (zf_cmp.1 .g v 0) then (bif z_le (zf_cmp.1 .l u v) 0 then (bif z_le 0 (zf_cmp.1 .g u v) then _ else _) else _) else _)
              rw [zc_ge0 _ hv, cond_true]
              rcases Nat.lt_trichotomy u.toNat v.toNat with k | k | k
              · rw [zc_lt _ hu hv k, zc_lt _ hu hv k, z_le_m0, z_le_0m, cond_true, cond_false, if_neg (by omega), if_pos k, B_P_done, z_bI_some, ← nL_3]
                exact cRI_bs w h _ _ _
              · have e : u = v := UInt64.toNat_inj.mp k
                subst e
                rw [zc_eq _ hu, zc_eq _ hu, z_le_00, cond_true, cond_true, if_neg (by omega), if_neg (by omega), B_P_done, z_bI_some]
                exact cRI_bs w h _ _ _
              · rw [zc_gt _ hu hv k, z_le_10, cond_false, if_pos k, B_P_done, z_bI_some]
                exact cRI_bs w h _ _ _
    · rw [pif_F (fun e => gy e.2), c_insAt_no _ w h gy, z_bR_some]
      simp (disch := omega) only [z_bV_some, z_bI_some, z_bJ_some, z_bD_some, z_bR_some, cond_true, cond_false, Bool.and_true, Bool.true_and, Bool.not_false, Bool.not_true, Bool.and_self, Bool.or_true, Bool.false_or, Bool.true_or, zn_ok, zn_ok0, zn_N, zn_add, zn_mul, zn_sub, z_lt_T, z_lt_F, z_le_T, z_le_F, z_eq_T, z_ne_F, z_eq_F, z_ne_T, z_ix_T, z_lt_m, z_le_m, z_lt_m2, z_le_m2, z_eq_m, z_ne_m, zn_div, z_a31, zn_shl, zn_shr, z_bq_T, z_bq_F, z_bl_T, show Nat.beq 0 0 = true from rfl, B_P_refuse]
      exact cRI_st h _ _
  · rw [pif_F (fun e => gx e.1), B_P_higher, c_insAt_no _ w h gx, z_bR_some]
    by_cases gy : iOk J y
    · obtain ⟨j, hj, hj2, rfl⟩ := iOk_ex gy
      rw [c_insAt _ w hj, z_bR_some]
      simp (disch := omega) only [z_bV_some, z_bI_some, z_bJ_some, z_bD_some, z_bR_some, cond_true, cond_false, Bool.and_true, Bool.true_and, Bool.not_false, Bool.not_true, Bool.and_self, Bool.or_true, Bool.false_or, Bool.true_or, zn_ok, zn_ok0, zn_N, zn_add, zn_mul, zn_sub, z_lt_T, z_lt_F, z_le_T, z_le_F, z_eq_T, z_ne_F, z_eq_F, z_ne_T, z_ix_T, z_lt_m, z_le_m, z_lt_m2, z_le_m2, z_eq_m, z_ne_m, zn_div, z_a31, zn_shl, zn_shr, z_bq_T, z_bq_F, z_bl_T, show Nat.beq 0 0 = true from rfl, B_P_refuse]
      exact cRI_st h _ _
    · rw [c_insAt_no _ w h gy, z_bR_some]
      simp (disch := omega) only [z_bV_some, z_bI_some, z_bJ_some, z_bD_some, z_bR_some, cond_true, cond_false, Bool.and_true, Bool.true_and, Bool.not_false, Bool.not_true, Bool.and_self, Bool.or_true, Bool.false_or, Bool.true_or, zn_ok, zn_ok0, zn_N, zn_add, zn_mul, zn_sub, z_lt_T, z_lt_F, z_le_T, z_le_F, z_eq_T, z_ne_F, z_eq_F, z_ne_T, z_ix_T, z_lt_m, z_le_m, z_lt_m2, z_le_m2, z_eq_m, z_ne_m, zn_div, z_a31, zn_shl, zn_shr, z_bq_T, z_bq_F, z_bl_T, show Nat.beq 0 0 = true from rfl, B_P_refuse]
      exact cRI_st h _ _
