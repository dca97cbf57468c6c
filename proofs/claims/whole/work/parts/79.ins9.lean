/-! S LEVEL, acts: higher, the reference. -/
theorem rRI_2 {J : zJ} {B B1 B2 : zM} {l1 l2 : List Nat} (h : rJ J B) (q2 : zFr 0 0 xq B B1) (q4 : trR B l1 B1) (p2 : zFr 0 0 xq B1 B2) (p4 : trR B1 l2 B2) (x : Value) (v : Int32) : rResI B (x, v, J, l1 ++ l2) (some (some x, z_wI B2 15 0 v)) := by
  have f3 : zFr 0 0 xrI B2 (z_wI B2 15 0 v) := zFr_wI (X := xrI) (Or.inl ⟨rfl, Or.inl rfl⟩)
  refine ⟨_, rfl, rJ_st (rJ_fr (rJ_fr h q2) p2) v, zI_wI_s .., fun j hj => ?_, zFr_trans (xq_xrI (xq_tr q2 p2)) f3 (fun _ _ _ e => e)⟩
  rw [zI_wI_a (by omega), p4 j hj, zbs_app]
  exact zbs_two l2 B1 (zbs 39 l1 B) q4 j hj
theorem Q_higher (d : Nat) {J : zJ} {B : zM} {x y : Int32} (w : wJ J) (h : rJ J B) : rResI B (oHigh J x y) (z_den zQ (d + 5) mQ_higher [.ref 15, .int x, .int y] B) := by
  unfold oHigh
  have w0 := w.1
  by_cases gx : iOk J x
  · rw [B_Q_higher, r_isI (d + 2) w h gx, z_bI_some, nL_0, z_eq_F (by omega) (by omega) (by omega), cond_false]
    obtain ⟨i, hi, hi2, rfl⟩ := iOk_ex gx
    by_cases gy : iOk J y
    · rw [r_isI (d + 2) w h gy, z_bI_some, z_ne_T (by omega) (by omega) (by omega), cond_true]
      obtain ⟨j, hj, hj2, rfl⟩ := iOk_ex gy
      rw [pif_T ⟨gx, gy⟩, zn_N hi2, zn_N hj2]
      have w1 := (w.2.2.2 i hi).1
      have w2 := (w.2.2.2 j hj).1
      have g1 := (h.2.2.1 i hi).1
      have k1 := (h.2.2.1 j hj).1
      by_cases g3 : jS J i = 3
      · rw [if_pos (Or.inl g3)]
        rw [g3] at g1
        simp (disch := omega) only [z_bV_some, z_bI_some, z_bJ_some, z_bD_some, z_bR_some, cond_true, cond_false, Bool.and_true, Bool.true_and, Bool.not_false, Bool.not_true, Bool.and_self, Bool.or_true, Bool.false_or, Bool.true_or, zn_ok, zn_ok0, zn_N, zn_add, zn_mul, zn_sub, z_lt_T, z_lt_F, z_le_T, z_le_F, z_eq_T, z_ne_F, z_eq_F, z_ne_T, z_ix_T, z_lt_m, z_le_m, z_lt_m2, z_le_m2, z_eq_m, z_ne_m, zn_div, z_a31, zn_shl, zn_shr, z_bq_T, z_bq_F, z_bl_T, nL_3, g1, B_Q_finds]
        exact rRI_st h _ _
      · by_cases k3 : jS J j = 3
        · rw [if_pos (Or.inr k3)]
          rw [k3] at k1
          simp (disch := omega) only [z_bV_some, z_bI_some, z_bJ_some, z_bD_some, z_bR_some, cond_true, cond_false, Bool.and_true, Bool.true_and, Bool.not_false, Bool.not_true, Bool.and_self, Bool.or_true, Bool.false_or, Bool.true_or, zn_ok, zn_ok0, zn_N, zn_add, zn_mul, zn_sub, z_lt_T, z_lt_F, z_le_T, z_le_F, z_eq_T, z_ne_F, z_eq_F, z_ne_T, z_ix_T, z_lt_m, z_le_m, z_lt_m2, z_le_m2, z_eq_m, z_ne_m, zn_div, z_a31, zn_shl, zn_shr, z_bq_T, z_bq_F, z_bl_T, nL_3, g1, k1, B_Q_finds]
          exact rRI_st h _ _
        · rw [if_neg (by omega)]
          obtain ⟨l2, B1, q1, q2, q3, q4⟩ := r_fOf d w h hi
          obtain ⟨m2, B2, p1, p2, p3, p4⟩ := r_fOf d w (rJ_fr h q2) hj
          simp (disch := omega) only [z_bV_some, z_bI_some, z_bJ_some, z_bD_some, z_bR_some, cond_true, cond_false, Bool.and_true, Bool.true_and, Bool.not_false, Bool.not_true, Bool.and_self, Bool.or_true, Bool.false_or, Bool.true_or, zn_ok, zn_ok0, zn_N, zn_add, zn_mul, zn_sub, z_lt_T, z_lt_F, z_le_T, z_le_F, z_eq_T, z_ne_F, z_eq_F, z_ne_T, z_ix_T, z_lt_m, z_le_m, z_lt_m2, z_le_m2, z_eq_m, z_ne_m, zn_div, z_a31, zn_shl, zn_shr, z_bq_T, z_bq_F, z_bl_T, nL_3, g1, k1, q1, p1]
          cases ho : (pvJ J i).1 with
          | none =>
            rw [ho] at q3
            have q3 : zI B1 15 35 = zn 1 := q3
            rw [q3, z_ne_T (by omega) (by omega) (by omega), cond_true, B_Q_well, z_bI_some, ← nL_0]
            exact rRI_2 h q2 q4 p2 p4 _ _
          | some u =>
            rw [ho] at q3
            obtain ⟨q3, rfl⟩ := q3
            have hu := oP_J w hi l2 ho
            rw [q3, z_ne_F, cond_false]
            cases ho2 : (pvJ J j).1 with
            | none =>
              rw [ho2] at p3
              have p3 : zI B2 15 35 = zn 1 := p3
              rw [p3, z_eq_F (by omega) (by omega) (by omega), cond_false, B_Q_well, z_bI_some, ← nL_0]
              exact rRI_2 h q2 q4 p2 p4 _ _
            | some v =>
              rw [ho2] at p3
              obtain ⟨p3, rfl⟩ := p3
              have hv := oP_J w hj m2 ho2
              rw [p3, z_eq_T, cond_true, ← nL_0]
              show rResI B (.int (if m2.toNat < l2.toNat then 1 else if l2.toNat < m2.toNat then 3 else 2), _) _
              rcases Nat.lt_trichotomy l2.toNat m2.toNat with k | k | k
              · rw [zc_lt _ hu hv k, z_le_m0, z_ne_m0, cond_true, cond_true, if_neg (by omega), if_pos k, B_Q_well, z_bI_some, ← nL_3]
                exact rRI_2 h q2 q4 p2 p4 _ _
              · have e : l2 = m2 := UInt64.toNat_inj.mp k
                subst e
                rw [zc_eq _ hu, z_le_00, z_ne_00, cond_true, cond_false, if_neg (by omega), if_neg (by omega), B_Q_well, z_bI_some]
                exact rRI_2 h q2 q4 p2 p4 _ _
              · rw [zc_gt _ hu hv k, z_le_10, cond_false, if_pos k, B_Q_well, z_bI_some]
                exact rRI_2 h q2 q4 p2 p4 _ _
    · rw [r_isI_no (d + 2) w h gy, z_bI_some, z_ne_F, cond_false, B_Q_no, z_bI_some, pif_F (fun e => gy e.2)]
      exact rRI_st h _ _
  · rw [B_Q_higher, r_isI_no (d + 2) w h gx, z_bI_some, nL_0, z_eq_T, cond_true, B_Q_no, z_bI_some, pif_F (fun e => gx e.1)]
    exact rRI_st h _ _
