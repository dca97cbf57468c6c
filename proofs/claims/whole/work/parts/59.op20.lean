/-! S LEVEL, acts: copy. -/
noncomputable def oCopy (pl : Bool) (G : zG) (x y f n x' y' a : Int32) : Int32 × Int32 × zG := pif (sOk G x y ∧ sOk G x' y') (if pl = true then (-3, -3, G) else if tL (sA G x y) = true ∨ tL (sA G x' y') = true then ((-10) - zn 1, zn 1, G) else if tK (sA G x y) ≠ tK (sA G x' y') then ((-10) - zn 5, zn 5, G) else if spB (tS (sA G x y)) f n = true ∧ spB (tS (sA G x' y')) a n = true then (n, zn 0, updT G (pO G x' y') (spanT (sA G x' y') a.toNatClampNeg (sA G x y) f.toNatClampNeg n.toNatClampNeg) (gE G)) else ((-10) - zn 4, zn 4, G)) (-1, -1, G)
theorem spB_ex {S : Nat} {f n : Int32} (h : spB S f n = true) (hS : S ≤ 256) : ∃ F N, f = zn F ∧ n = zn N ∧ F + N ≤ S ∧ f.toNatClampNeg = F ∧ n.toNatClampNeg = N := by
  unfold spB at h
  rw [decide_eq_true_iff] at h
  obtain ⟨N, hN, rfl⟩ := zn_ex h.1
  obtain ⟨F, hF, rfl⟩ := zn_ex h.2.1
  rw [zn_toInt hN, zn_toInt hF] at h
  exact ⟨F, N, rfl, rfl, by omega, zn_N hF, zn_N hN⟩
theorem P_copy (d : Nat) {pl : Bool} {G : zG} {al : Nat → Nat} {A : zM} {x y f n x' y' a : Int32} (h : cG G al A) (w : wG G) (hp : zI A 3 15 = bI pl) : cRes 0 0 A (oCopy pl G x y f n x' y' a) (z_den zQ (d + 4) mP_copy [.ref 1, .int x, .int y, .int f, .int n, .int x', .int y', .int a] A) := by
  unfold oCopy
  rw [B_P_copy]
  by_cases g1 : sOk G x y
  rotate_left
  · rw [pif_F (fun q => g1 q.1), E_P_stripAt_no _ h w g1, z_bR_some]
    by_cases g2 : sOk G x' y'
    · rw [E_P_stripAt_ok _ h w g2]
      simp (disch := omega) only [z_bV_some, z_bI_some, z_bJ_some, z_bD_some, z_bR_some, cond_true, cond_false, Bool.and_true, Bool.true_and, Bool.not_false, Bool.not_true, Bool.and_self, Bool.or_true, Bool.false_or, Bool.true_or, zn_ok, zn_ok0, zn_N, zn_add, zn_mul, zn_sub, z_lt_T, z_lt_F, z_le_T, z_le_F, z_eq_T, z_ne_F, z_eq_F, z_ne_T, z_ix_T, z_lt_m, z_le_m, z_lt_m2, z_le_m2, z_eq_m, z_ne_m, zn_div, z_a31, zn_shl, zn_shr, z_bq_T, z_bq_F, z_bl_T, B_P_refuse]
      exact cRes_st h _ _
    · rw [E_P_stripAt_no _ h w g2]
      simp (disch := omega) only [z_bV_some, z_bI_some, z_bJ_some, z_bD_some, z_bR_some, cond_true, cond_false, Bool.and_true, Bool.true_and, Bool.not_false, Bool.not_true, Bool.and_self, Bool.or_true, Bool.false_or, Bool.true_or, zn_ok, zn_ok0, zn_N, zn_add, zn_mul, zn_sub, z_lt_T, z_lt_F, z_le_T, z_le_F, z_eq_T, z_ne_F, z_eq_F, z_ne_T, z_ix_T, z_lt_m, z_le_m, z_lt_m2, z_le_m2, z_eq_m, z_ne_m, zn_div, z_a31, zn_shl, zn_shr, z_bq_T, z_bq_F, z_bl_T, B_P_refuse]
      exact cRes_st h _ _
  obtain ⟨p1, p2, p3, p4, m, p5, p6⟩ := cG_at h w g1
  have n0 := hd_n0 p2.1 (by decide)
  rw [E_P_stripAt_ok _ h w g1, z_bR_some]
  by_cases g2 : sOk G x' y'
  rotate_left
  · rw [pif_F (fun q => g2 q.2), E_P_stripAt_no _ h w g2]
    simp (disch := omega) only [z_bV_some, z_bI_some, z_bJ_some, z_bD_some, z_bR_some, cond_true, cond_false, Bool.and_true, Bool.true_and, Bool.not_false, Bool.not_true, Bool.and_self, Bool.or_true, Bool.false_or, Bool.true_or, zn_ok, zn_ok0, zn_N, zn_add, zn_mul, zn_sub, z_lt_T, z_lt_F, z_le_T, z_le_F, z_eq_T, z_ne_F, z_eq_F, z_ne_T, z_ix_T, z_lt_m, z_le_m, z_lt_m2, z_le_m2, z_eq_m, z_ne_m, zn_div, z_a31, zn_shl, zn_shr, z_bq_T, z_bq_F, z_bl_T, B_P_refuse]
    exact cRes_st h _ _
  obtain ⟨v1, v2, v3, v4, m', v5, v6⟩ := cG_at h w g2
  have n0' := hd_n0 v2.1 (by decide)
  rw [pif_T ⟨g1, g2⟩, E_P_stripAt_ok _ h w g2, z_bR_some]
  by_cases gp : pl = true
  · rw [if_pos gp]
    simp (disch := omega) only [z_bV_some, z_bI_some, z_bJ_some, z_bD_some, z_bR_some, cond_true, cond_false, Bool.and_true, Bool.true_and, Bool.not_false, Bool.not_true, Bool.and_self, Bool.or_true, Bool.false_or, Bool.true_or, zn_ok, zn_ok0, zn_N, zn_add, zn_mul, zn_sub, z_lt_T, z_lt_F, z_le_T, z_le_F, z_eq_T, z_ne_F, z_eq_F, z_ne_T, z_ix_T, z_lt_m, z_le_m, z_lt_m2, z_le_m2, z_eq_m, z_ne_m, zn_div, z_a31, zn_shl, zn_shr, z_bq_T, z_bq_F, z_bl_T, nL_0, hp, pl_T gp, B_P_refuse]
    exact cRes_st h _ _
  rw [if_neg gp]
  have b1 := p3.1
  have b2 := v3.1
  by_cases g3 : tL (sA G x y) = true
  · rw [if_pos (Or.inl g3)]
    simp (disch := omega) only [z_bV_some, z_bI_some, z_bJ_some, z_bD_some, z_bR_some, cond_true, cond_false, Bool.and_true, Bool.true_and, Bool.not_false, Bool.not_true, Bool.and_self, Bool.or_true, Bool.false_or, Bool.true_or, zn_ok, zn_ok0, zn_N, zn_add, zn_mul, zn_sub, z_lt_T, z_lt_F, z_le_T, z_le_F, z_eq_T, z_ne_F, z_eq_F, z_ne_T, z_ix_T, z_lt_m, z_le_m, z_lt_m2, z_le_m2, z_eq_m, z_ne_m, zn_div, z_a31, zn_shl, zn_shr, z_bq_T, z_bq_F, z_bl_T, nL_0, nL_1, hp, pl_F gp, c9 p2.1, p2.2.2.2.2.2.2.1, pl_T' g3, B_P_found]
    exact cRes_st h _ _
  by_cases g4 : tL (sA G x' y') = true
  · rw [if_pos (Or.inr g4)]
    simp (disch := omega) only [z_bV_some, z_bI_some, z_bJ_some, z_bD_some, z_bR_some, cond_true, cond_false, Bool.and_true, Bool.true_and, Bool.not_false, Bool.not_true, Bool.and_self, Bool.or_true, Bool.false_or, Bool.true_or, zn_ok, zn_ok0, zn_N, zn_add, zn_mul, zn_sub, z_lt_T, z_lt_F, z_le_T, z_le_F, z_eq_T, z_ne_F, z_eq_F, z_ne_T, z_ix_T, z_lt_m, z_le_m, z_lt_m2, z_le_m2, z_eq_m, z_ne_m, zn_div, z_a31, zn_shl, zn_shr, z_bq_T, z_bq_F, z_bl_T, nL_0, nL_1, hp, pl_F gp, c9 p2.1, p2.2.2.2.2.2.2.1, pl_F' g3, c9 v2.1, v2.2.2.2.2.2.2.1, pl_T g4, B_P_found]
    exact cRes_st h _ _
  rw [if_neg (fun q => q.elim g3 g4)]
  by_cases g5 : tK (sA G x y) = tK (sA G x' y')
  rotate_left
  · rw [if_pos g5]
    simp (disch := omega) only [z_bV_some, z_bI_some, z_bJ_some, z_bD_some, z_bR_some, cond_true, cond_false, Bool.and_true, Bool.true_and, Bool.not_false, Bool.not_true, Bool.and_self, Bool.or_true, Bool.false_or, Bool.true_or, zn_ok, zn_ok0, zn_N, zn_add, zn_mul, zn_sub, z_lt_T, z_lt_F, z_le_T, z_le_F, z_eq_T, z_ne_F, z_eq_F, z_ne_T, z_ix_T, z_lt_m, z_le_m, z_lt_m2, z_le_m2, z_eq_m, z_ne_m, zn_div, z_a31, zn_shl, zn_shr, z_bq_T, z_bq_F, z_bl_T, nL_0, nL_1, nL_5, hp, pl_F gp, c9 p2.1, p2.2.2.2.2.2.2.1, pl_F' g3, c9 v2.1, v2.2.2.2.2.2.2.1, pl_F g4, p2.2.1, v2.2.1, B_P_found]
    exact cRes_st h _ _
  rw [if_neg (fun q => q g5)]
  have q5 : z_eq (zn (tK (sA G x y))) (zn (tK (sA G x' y'))) = true := by rw [g5]; exact z_eq_T _
  have e1 := E_S_hasSpan (d + 1) _ f n A _ p2 p3
  have e2 := E_S_hasSpan (d + 1) _ a n A _ v2 v3
  by_cases g6 : spB (tS (sA G x y)) f n = true
  rotate_left
  · rw [if_neg (fun q => g6 q.1)]
    simp (disch := omega) only [z_bV_some, z_bI_some, z_bJ_some, z_bD_some, z_bR_some, cond_true, cond_false, Bool.and_true, Bool.true_and, Bool.not_false, Bool.not_true, Bool.and_self, Bool.or_true, Bool.false_or, Bool.true_or, zn_ok, zn_ok0, zn_N, zn_add, zn_mul, zn_sub, z_lt_T, z_lt_F, z_le_T, z_le_F, z_eq_T, z_ne_F, z_eq_F, z_ne_T, z_ix_T, z_lt_m, z_le_m, z_lt_m2, z_le_m2, z_eq_m, z_ne_m, zn_div, z_a31, zn_shl, zn_shr, z_bq_T, z_bq_F, z_bl_T, nL_0, nL_4, hp, pl_F gp, c9 p2.1, p2.2.2.2.2.2.2.1, pl_F' g3, c9 v2.1, v2.2.2.2.2.2.2.1, pl_F g4, p2.2.1, v2.2.1, q5, e1, pl_F g6, B_P_found]
    exact cRes_st h _ _
  by_cases g7 : spB (tS (sA G x' y')) a n = true
  rotate_left
  · rw [if_neg (fun q => g7 q.2)]
    simp (disch := omega) only [z_bV_some, z_bI_some, z_bJ_some, z_bD_some, z_bR_some, cond_true, cond_false, Bool.and_true, Bool.true_and, Bool.not_false, Bool.not_true, Bool.and_self, Bool.or_true, Bool.false_or, Bool.true_or, zn_ok, zn_ok0, zn_N, zn_add, zn_mul, zn_sub, z_lt_T, z_lt_F, z_le_T, z_le_F, z_eq_T, z_ne_F, z_eq_F, z_ne_T, z_ix_T, z_lt_m, z_le_m, z_lt_m2, z_le_m2, z_eq_m, z_ne_m, zn_div, z_a31, zn_shl, zn_shr, z_bq_T, z_bq_F, z_bl_T, nL_0, nL_4, hp, pl_F gp, c9 p2.1, p2.2.2.2.2.2.2.1, pl_F' g3, c9 v2.1, v2.2.2.2.2.2.2.1, pl_F g4, p2.2.1, v2.2.1, q5, e1, pl_T g6, e2, pl_F' g7, B_P_found]
    exact cRes_st h _ _
  rw [if_pos ⟨g6, g7⟩]
  obtain ⟨F, N, ef, en, hFN, cf, cn⟩ := spB_ex g6 p3.2.2.2.2.1
  obtain ⟨F', N', ef', en', hFN', cf', cn'⟩ := spB_ex g7 v3.2.2.2.2.1
  have : N' = N := by omega
  subst this
  rw [cf, cn, cf']
  obtain ⟨A', t1, t2, t3, t4⟩ := E_S_takeElements (d + 2) _ _ F' F N' A _ _ v2 p2 v3 p3 g5 hFN hFN' h.2.2.2.2.2.2.2.2
  rw [← ef, ← en, ← ef'] at t1
  have i5 := st_I t3 v4 v6 (t := 1) (by omega) 5
  simp (disch := omega) only [z_bV_some, z_bI_some, z_bJ_some, z_bD_some, z_bR_some, cond_true, cond_false, Bool.and_true, Bool.true_and, Bool.not_false, Bool.not_true, Bool.and_self, Bool.or_true, Bool.false_or, Bool.true_or, zn_ok, zn_ok0, zn_N, zn_add, zn_mul, zn_sub, z_lt_T, z_lt_F, z_le_T, z_le_F, z_eq_T, z_ne_F, z_eq_F, z_ne_T, z_ix_T, z_lt_m, z_le_m, z_lt_m2, z_le_m2, z_eq_m, z_ne_m, zn_div, z_a31, zn_shl, zn_shr, z_bq_T, z_bq_F, z_bl_T, nL_0, hp, pl_F gp, c9 p2.1, p2.2.2.2.2.2.2.1, pl_F' g3, c9 v2.1, v2.2.2.2.2.2.2.1, pl_F g4, p2.2.1, v2.2.1, q5, e1, pl_T g6, e2, pl_T' g7, t1, B_P_done]
  exact cRes_up h v1 (zFr_mono t3 (by omega) (by omega) xS_xcU) t2 (Or.inl t4) (by rw [i5]; exact h.2.2.1)
theorem L_Qy2 (d : Nat) (l1 l2 l3 l5 l6 l8 : Int32) (q at_ n : Nat) (hq : q < 400) (hn : at_ + n ≤ 256) : ∀ (m k : Nat) (B : zM), k + m = n → z_denF zQ (d + 2) mQ_copy (197, [some (.ref 15), some (.int l1), some (.int l2), some (.int l3), some (.int (zn n)), some (.int l5), some (.int l6), some (.int (zn at_)), some (.int l8), some (.int (zn q)), some (.int (zn k))], [], B) = some (some (.int (zn n)), z_wI (z_put B 25 (256 * q + at_ + k) m (fun j => zI B 53 (j - (256 * q + at_)))) 15 0 (zn 0))
  | 0, k, B, hk => by
    rw [L_Q_copy_197, z_put_0]
    simp (disch := omega) only [z_bV_some, z_bI_some, z_bJ_some, z_bD_some, z_bR_some, cond_true, cond_false, Bool.and_true, Bool.true_and, Bool.not_false, Bool.not_true, Bool.and_self, Bool.or_true, Bool.false_or, Bool.true_or, zn_ok, zn_ok0, zn_N, zn_add, zn_mul, zn_sub, z_lt_T, z_lt_F, z_le_T, z_le_F, z_eq_T, z_ne_F, z_eq_F, z_ne_T, z_ix_T, z_lt_m, z_le_m, z_lt_m2, z_le_m2, z_eq_m, z_ne_m, zn_div, z_a31, zn_shl, zn_shr, z_bq_T, z_bq_F, z_bl_T, nL_0, B_Q_well]
  | m + 1, k, B, hk => by
    have ih := L_Qy2 d l1 l2 l3 l5 l6 l8 q at_ n hq hn m (k + 1) (z_wI B 25 (256 * q + at_ + k) (zI B 53 k)) (by omega)
    have ih : z_denF zQ (d + 1 + 1) mQ_copy _ = _ := ih
    rw [L_Q_copy_197]
    simp (disch := omega) only [z_bV_some, z_bI_some, z_bJ_some, z_bD_some, z_bR_some, cond_true, cond_false, Bool.and_true, Bool.true_and, Bool.not_false, Bool.not_true, Bool.and_self, Bool.or_true, Bool.false_or, Bool.true_or, zn_ok, zn_ok0, zn_N, zn_add, zn_mul, zn_sub, z_lt_T, z_lt_F, z_le_T, z_le_F, z_eq_T, z_ne_F, z_eq_F, z_ne_T, z_ix_T, z_lt_m, z_le_m, z_lt_m2, z_le_m2, z_eq_m, z_ne_m, zn_div, z_a31, zn_shl, zn_shr, z_bq_T, z_bq_F, z_bl_T, nL_1, nL_256, ih]
    congr 3
    rw [← z_put_lo, show 256 * q + at_ + (k + 1) = 256 * q + at_ + k + 1 by omega, show 256 * q + at_ + k - (256 * q + at_) = k by omega]
    apply z_put_congr
    intro j h1 h2
    rw [zI_wI_a (by omega)]
theorem L_Qy1 (d : Nat) (l1 l2 l5 l6 : Int32) (p q fr at_ n : Nat) (hp : p < 400) (hq : q < 400) (hf : fr + n ≤ 256) (hn : at_ + n ≤ 256) : ∀ (m k : Nat) (B : zM), k + m = n → z_denF zQ (d + 2) mQ_copy (158, [some (.ref 15), some (.int l1), some (.int l2), some (.int (zn fr)), some (.int (zn n)), some (.int l5), some (.int l6), some (.int (zn at_)), some (.int (zn p)), some (.int (zn q)), some (.int (zn k))], [], B) = some (some (.int (zn n)), z_wI (z_put (z_put B 53 k m (fun j => zI B 25 (256 * p + fr + j))) 25 (256 * q + at_ + 0) n (fun j => zI (z_put B 53 k m (fun j => zI B 25 (256 * p + fr + j))) 53 (j - (256 * q + at_)))) 15 0 (zn 0))
  | 0, k, B, hk => by
    have e := L_Qy2 d l1 l2 (zn fr) l5 l6 (zn p) q at_ n hq hn n 0 B (by omega)
    have e : z_denF zQ (d + 1 + 1) mQ_copy _ = _ := e
    rw [L_Q_copy_158, z_put_0]
    simp (disch := omega) only [z_bV_some, z_bI_some, z_bJ_some, z_bD_some, z_bR_some, cond_true, cond_false, Bool.and_true, Bool.true_and, Bool.not_false, Bool.not_true, Bool.and_self, Bool.or_true, Bool.false_or, Bool.true_or, zn_ok, zn_ok0, zn_N, zn_add, zn_mul, zn_sub, z_lt_T, z_lt_F, z_le_T, z_le_F, z_eq_T, z_ne_F, z_eq_F, z_ne_T, z_ix_T, z_lt_m, z_le_m, z_lt_m2, z_le_m2, z_eq_m, z_ne_m, zn_div, z_a31, zn_shl, zn_shr, z_bq_T, z_bq_F, z_bl_T, nL_0, e]
  | m + 1, k, B, hk => by
    have ih := L_Qy1 d l1 l2 l5 l6 p q fr at_ n hp hq hf hn m (k + 1) (z_wI B 53 k (zI B 25 (256 * p + fr + k))) (by omega)
    have ih : z_denF zQ (d + 1 + 1) mQ_copy _ = _ := ih
    have key : z_put (z_wI B 53 k (zI B 25 (256 * p + fr + k))) 53 (k + 1) m (fun j => zI (z_wI B 53 k (zI B 25 (256 * p + fr + k))) 25 (256 * p + fr + j)) = z_put B 53 k (m + 1) (fun j => zI B 25 (256 * p + fr + j)) := by
      rw [← z_put_lo]
      apply z_put_congr
      intro j h1 h2
      rw [zI_wI_a (by omega)]
    rw [key] at ih
    rw [L_Q_copy_158]
    simp (disch := omega) only [z_bV_some, z_bI_some, z_bJ_some, z_bD_some, z_bR_some, cond_true, cond_false, Bool.and_true, Bool.true_and, Bool.not_false, Bool.not_true, Bool.and_self, Bool.or_true, Bool.false_or, Bool.true_or, zn_ok, zn_ok0, zn_N, zn_add, zn_mul, zn_sub, z_lt_T, z_lt_F, z_le_T, z_le_F, z_eq_T, z_ne_F, z_eq_F, z_ne_T, z_ix_T, z_lt_m, z_le_m, z_lt_m2, z_le_m2, z_eq_m, z_ne_m, zn_div, z_a31, zn_shl, zn_shr, z_bq_T, z_bq_F, z_bl_T, nL_1, nL_256, ih]
theorem Q_copy (d : Nat) {pl : Bool} {G : zG} {B : zM} {x y f n x' y' a : Int32} (h : rG G B) (w : wG G) (hp : zI B 15 36 = bI pl) : rRes B (oCopy pl G x y f n x' y' a) (z_den zQ (d + 4) mQ_copy [.ref 15, .int x, .int y, .int f, .int n, .int x', .int y', .int a] B) := by
  unfold oCopy
  rw [B_Q_copy]
  by_cases g1 : sOk G x y
  rotate_left
  · rw [pif_F (fun q => g1 q.1), E_Q_isStrip_no d h w g1]
    simp (disch := omega) only [z_bV_some, z_bI_some, z_bJ_some, z_bD_some, z_bR_some, cond_true, cond_false, Bool.and_true, Bool.true_and, Bool.not_false, Bool.not_true, Bool.and_self, Bool.or_true, Bool.false_or, Bool.true_or, zn_ok, zn_ok0, zn_N, zn_add, zn_mul, zn_sub, z_lt_T, z_lt_F, z_le_T, z_le_F, z_eq_T, z_ne_F, z_eq_F, z_ne_T, z_ix_T, z_lt_m, z_le_m, z_lt_m2, z_le_m2, z_eq_m, z_ne_m, zn_div, z_a31, zn_shl, zn_shr, z_bq_T, z_bq_F, z_bl_T, nL_0, B_Q_no]
    exact rRes_st h _ _
  obtain ⟨p1, p2, p3, p4⟩ := rG_at h w g1
  rw [E_Q_isStrip_ok d h w g1]
  by_cases g2 : sOk G x' y'
  rotate_left
  · rw [pif_F (fun q => g2 q.2)]
    simp (disch := omega) only [z_bV_some, z_bI_some, z_bJ_some, z_bD_some, z_bR_some, cond_true, cond_false, Bool.and_true, Bool.true_and, Bool.not_false, Bool.not_true, Bool.and_self, Bool.or_true, Bool.false_or, Bool.true_or, zn_ok, zn_ok0, zn_N, zn_add, zn_mul, zn_sub, z_lt_T, z_lt_F, z_le_T, z_le_F, z_eq_T, z_ne_F, z_eq_F, z_ne_T, z_ix_T, z_lt_m, z_le_m, z_lt_m2, z_le_m2, z_eq_m, z_ne_m, zn_div, z_a31, zn_shl, zn_shr, z_bq_T, z_bq_F, z_bl_T, nL_0, E_Q_isStrip_no d h w g2, B_Q_no]
    exact rRes_st h _ _
  obtain ⟨v1, v2, v3, v4⟩ := rG_at h w g2
  have es := E_Q_isStrip_ok d h w g2
  rw [pif_T ⟨g1, g2⟩]
  by_cases gp : pl = true
  · rw [if_pos gp]
    simp (disch := omega) only [z_bV_some, z_bI_some, z_bJ_some, z_bD_some, z_bR_some, cond_true, cond_false, Bool.and_true, Bool.true_and, Bool.not_false, Bool.not_true, Bool.and_self, Bool.or_true, Bool.false_or, Bool.true_or, zn_ok, zn_ok0, zn_N, zn_add, zn_mul, zn_sub, z_lt_T, z_lt_F, z_le_T, z_le_F, z_eq_T, z_ne_F, z_eq_F, z_ne_T, z_ix_T, z_lt_m, z_le_m, z_lt_m2, z_le_m2, z_eq_m, z_ne_m, zn_div, z_a31, zn_shl, zn_shr, z_bq_T, z_bq_F, z_bl_T, nL_0, es, hp, pl_T gp, B_Q_no]
    exact rRes_st h _ _
  rw [if_neg gp]
  have e1 := E_Q_poolOf (d + 2) h w g1
  have e2 := E_Q_poolOf (d + 2) h w g2
  have b1 := p4.1
  have b2 := v4.1
  by_cases g3 : tL (sA G x y) = true
  · rw [if_pos (Or.inl g3)]
    simp (disch := omega) only [z_bV_some, z_bI_some, z_bJ_some, z_bD_some, z_bR_some, cond_true, cond_false, Bool.and_true, Bool.true_and, Bool.not_false, Bool.not_true, Bool.and_self, Bool.or_true, Bool.false_or, Bool.true_or, zn_ok, zn_ok0, zn_N, zn_add, zn_mul, zn_sub, z_lt_T, z_lt_F, z_le_T, z_le_F, z_eq_T, z_ne_F, z_eq_F, z_ne_T, z_ix_T, z_lt_m, z_le_m, z_lt_m2, z_le_m2, z_eq_m, z_ne_m, zn_div, z_a31, zn_shl, zn_shr, z_bq_T, z_bq_F, z_bl_T, nL_0, nL_1, es, hp, pl_F gp, e1, e2, p3.2.2.2.1, pl_T' g3, B_Q_finds]
    exact rRes_st h _ _
  by_cases g4 : tL (sA G x' y') = true
  · rw [if_pos (Or.inr g4)]
    simp (disch := omega) only [z_bV_some, z_bI_some, z_bJ_some, z_bD_some, z_bR_some, cond_true, cond_false, Bool.and_true, Bool.true_and, Bool.not_false, Bool.not_true, Bool.and_self, Bool.or_true, Bool.false_or, Bool.true_or, zn_ok, zn_ok0, zn_N, zn_add, zn_mul, zn_sub, z_lt_T, z_lt_F, z_le_T, z_le_F, z_eq_T, z_ne_F, z_eq_F, z_ne_T, z_ix_T, z_lt_m, z_le_m, z_lt_m2, z_le_m2, z_eq_m, z_ne_m, zn_div, z_a31, zn_shl, zn_shr, z_bq_T, z_bq_F, z_bl_T, nL_0, nL_1, es, hp, pl_F gp, e1, e2, p3.2.2.2.1, pl_F' g3, v3.2.2.2.1, pl_T g4, B_Q_finds]
    exact rRes_st h _ _
  rw [if_neg (fun q => q.elim g3 g4)]
  by_cases g5 : tK (sA G x y) = tK (sA G x' y')
  rotate_left
  · rw [if_pos g5]
    simp (disch := omega) only [z_bV_some, z_bI_some, z_bJ_some, z_bD_some, z_bR_some, cond_true, cond_false, Bool.and_true, Bool.true_and, Bool.not_false, Bool.not_true, Bool.and_self, Bool.or_true, Bool.false_or, Bool.true_or, zn_ok, zn_ok0, zn_N, zn_add, zn_mul, zn_sub, z_lt_T, z_lt_F, z_le_T, z_le_F, z_eq_T, z_ne_F, z_eq_F, z_ne_T, z_ix_T, z_lt_m, z_le_m, z_lt_m2, z_le_m2, z_eq_m, z_ne_m, zn_div, z_a31, zn_shl, zn_shr, z_bq_T, z_bq_F, z_bl_T, nL_0, nL_1, nL_5, es, hp, pl_F gp, e1, e2, p3.2.2.2.1, pl_F' g3, v3.2.2.2.1, pl_F g4, p3.1, v3.1, B_Q_finds]
    exact rRes_st h _ _
  rw [if_neg (fun q => q g5)]
  have q5 : z_eq (zn (tK (sA G x y))) (zn (tK (sA G x' y'))) = true := by rw [g5]; exact z_eq_T _
  have s1 := p4.2.2.2.2.1
  have s2 := v4.2.2.2.2.1
  have t0 : (zn 0).toInt = 0 := zn_toInt (by omega)
  have bn := tI_bd n
  by_cases gn : n.toInt < 0
  · rw [if_neg (fun q => by have q := q.1; unfold spB at q; rw [decide_eq_true_iff] at q; omega)]
    have z0 : z_lt n (zn 0) = true := z_lt_tt (by omega)
    simp (disch := omega) only [z_bV_some, z_bI_some, z_bJ_some, z_bD_some, z_bR_some, cond_true, cond_false, Bool.and_true, Bool.true_and, Bool.not_false, Bool.not_true, Bool.and_self, Bool.or_true, Bool.false_or, Bool.true_or, zn_ok, zn_ok0, zn_N, zn_add, zn_mul, zn_sub, z_lt_T, z_lt_F, z_le_T, z_le_F, z_eq_T, z_ne_F, z_eq_F, z_ne_T, z_ix_T, z_lt_m, z_le_m, z_lt_m2, z_le_m2, z_eq_m, z_ne_m, zn_div, z_a31, zn_shl, zn_shr, z_bq_T, z_bq_F, z_bl_T, nL_0, nL_4, es, hp, pl_F gp, e1, e2, p3.2.2.2.1, pl_F' g3, v3.2.2.2.1, pl_F g4, p3.1, v3.1, q5, z0, B_Q_finds]
    exact rRes_st h _ _
  have z0 : z_lt n (zn 0) = false := z_lt_ff (by omega)
  have w1 : z_den zQ (d + 3) mQ_within [.int f, .int (zn 0), .int (zn (tS (sA G x y)) - n)] B = some (some (.int (bI (spB (tS (sA G x y)) f n))), B) := by
    rw [E_Q_within, t0, tI_sub (by rw [zn_toInt (by omega)]; omega) (by rw [zn_toInt (by omega)]; omega), zn_toInt (by omega)]
    congr 5
    unfold spB
    exact decide_eq_decide.mpr (by omega)
  have w2 : z_den zQ (d + 3) mQ_within [.int a, .int (zn 0), .int (zn (tS (sA G x' y')) - n)] B = some (some (.int (bI (spB (tS (sA G x' y')) a n))), B) := by
    rw [E_Q_within, t0, tI_sub (by rw [zn_toInt (by omega)]; omega) (by rw [zn_toInt (by omega)]; omega), zn_toInt (by omega)]
    congr 5
    unfold spB
    exact decide_eq_decide.mpr (by omega)
  by_cases g6 : spB (tS (sA G x y)) f n = true
  rotate_left
  · rw [if_neg (fun q => g6 q.1)]
    simp (disch := omega) only [z_bI_some, cond_true, cond_false, z_eq_F, z_ne_T, z_ix_T, zn_N, nL_0, nL_4, es, hp, pl_F gp, e1, e2, p3.2.2.2.1, pl_F' g3, v3.2.2.2.1, pl_F g4, p3.1, v3.1, q5, z0, p3.2.2.2.2.2.1, w1, pl_F g6, B_Q_finds]
    exact rRes_st h _ _
  by_cases g7 : spB (tS (sA G x' y')) a n = true
  rotate_left
  · rw [if_neg (fun q => g7 q.2)]
    simp (disch := omega) only [z_bI_some, cond_true, cond_false, z_eq_F, z_ne_T, z_ix_T, zn_N, nL_0, nL_4, es, hp, pl_F gp, e1, e2, p3.2.2.2.1, pl_F' g3, v3.2.2.2.1, pl_F g4, p3.1, v3.1, q5, z0, p3.2.2.2.2.2.1, v3.2.2.2.2.2.1, w1, pl_T g6, w2, pl_F' g7, B_Q_finds]
    exact rRes_st h _ _
  rw [if_pos ⟨g6, g7⟩]
  obtain ⟨F, N, ef, en, hFN, cf, cn⟩ := spB_ex g6 s1
  obtain ⟨F', N', ef', en', hFN', cf', cn'⟩ := spB_ex g7 s2
  have : N' = N := by omega
  subst this
  rw [cf, cn, cf']
  subst ef en ef'
  have el := L_Qy1 (d + 2) x y x' y' (pO G x y) (pO G x' y') F F' N' p2 v2 (by omega) (by omega) N' 0 B (by omega)
  have el : z_denF zQ (d + 3 + 1) mQ_copy _ = _ := el
  simp (disch := omega) only [z_bI_some, cond_true, cond_false, z_eq_F, z_ne_T, z_ix_T, zn_N, nL_0, nL_4, es, hp, pl_F gp, e1, e2, p3.2.2.2.1, pl_F' g3, v3.2.2.2.1, pl_F g4, p3.1, v3.1, q5, z0, p3.2.2.2.2.2.1, v3.2.2.2.2.2.1, w1, pl_T g6, w2, pl_T' g7, el]
  generalize hB1 : z_put B 53 0 N' (fun j => zI B 25 (256 * pO G x y + F + j)) = B1
  have f1 : zFr 0 0 (fun a _ => a = 53) B B1 := by rw [← hB1]; exact zFr_put (fun _ _ _ => rfl)
  have hG1 : rG G B1 := rG_fr f1 h (by omega) (fun a k h1 h2 h3 => by omega)
  have r53 : ∀ j, j < N' → zI B1 53 j = tE (sA G x y) (F + j) := fun j hj => by
    rw [← hB1, zI_put_s, if_pos (by omega), show 256 * pO G x y + F + j = 256 * pO G x y + (F + j) by omega]
    exact p3.2.2.2.2.2.2.2 (F + j) (by omega)
  have f2 : zFr 0 0 (xrU (pO G x' y')) B1 (z_put B1 25 (256 * pO G x' y' + F' + 0) N' (fun j => zI B1 53 (j - (256 * pO G x' y' + F')))) := zFr_put (fun i h1 h2 => by unfold xrU inR; omega)
  have v3' : rT B1 (pO G x' y') (sA G x' y') := (rG_at hG1 w g2).2.2.1
  obtain ⟨B', i1, i2, i3, i4⟩ := rRes_up (x := zn N') (v := zn 0) (T := spanT (sA G x' y') F' (sA G x y) F N') (e := gE G) hG1 v1 w.2.1 f2 (by
    obtain ⟨k0, k1, k2, k3, k4, k5, k6, k7⟩ := v3'
    refine ⟨?_, ?_, ?_, ?_, ?_, ?_, fun i hi => ?_, fun k hk => ?_⟩
    · rw [zI_put_a (by omega)]; exact k0
    · rw [zI_put_a (by omega)]; exact k1
    · rw [zI_put_a (by omega)]; exact k2
    · rw [zI_put_a (by omega)]; exact k3
    · rw [zI_put_a (by omega)]; exact k4
    · rw [zI_put_a (by omega)]; exact k5
    · rw [zI_put_a (by omega)]; exact k6 i hi
    · rw [zI_put_s, tE_span]
      by_cases e : F' ≤ k ∧ k < F' + N'
      · rw [if_pos e, if_pos (by omega), show 256 * pO G x' y' + k - (256 * pO G x' y' + F') = k - F' by omega]
        exact r53 _ (by omega)
      · rw [if_neg e, if_neg (by omega)]; exact k7 k hk) (by rw [zI_put_a (by omega)]; exact hG1.2.2.1)
  cases i1
  exact ⟨_, rfl, i2, i3, zFr_trans (zFr_mono f1 (Nat.le_refl _) (Nat.le_refl _) (fun a k e => Or.inr (Or.inr e))) i4 (fun _ _ _ h => h)⟩
