/-! S LEVEL, acts: mend. -/
noncomputable def mnF (G : zG) (p r : Nat) : Nat → Nat → Int32 × Int32 × zG
  | _, 0 => (-4, zn 0, G)
  | i, n + 1 => if tK (gS G r i) = tK (gT G p) ∧ tN (gS G r i) = tN (gT G p) ∧ findT (gS G r i) = 0 then (if 8000 < gE G + tS (gS G r i) - tS (gT G p) then (-2, -2, G) else (zn i, zn 0, repG G p (gO G r i))) else mnF G p r (i + 1) n
noncomputable def oMend (pl : Bool) (G : zG) (x y z : Int32) : Int32 × Int32 × zG := pif (sOk G x y ∧ rOk G z) (if pl = true then (-3, -3, G) else if findT (sA G x y) = 0 then (y, zn 0, G) else mnF G (pO G x y) z.toNatClampNeg 0 (gZ G z.toNatClampNeg)) (-1, -1, G)
theorem wG_mn {G : zG} {p r : Nat} (w : wG G) (hp : p < gN G) (hr : r < gR G) : ∀ (n i : Nat), i + n = gZ G r → wG (mnF G p r i n).2.2
  | 0, i, _ => w
  | n + 1, i, hi => by
    unfold mnF
    by_cases g : tK (gS G r i) = tK (gT G p) ∧ tN (gS G r i) = tN (gT G p) ∧ findT (gS G r i) = 0
    · rw [if_pos g]
      by_cases g2 : 8000 < gE G + tS (gS G r i) - tS (gT G p)
      · rw [if_pos g2]; exact w
      · rw [if_neg g2]; exact wG_rep w hp (w.2.2.2.1 r i hr (by omega)) g.1 (Nat.le_of_not_lt g2)
    · rw [if_neg g]; exact wG_mn w hp hr n (i + 1) (by omega)
theorem L_Pn (d : Nat) {G : zG} {al : Nat → Nat} {A : zM} {p r : Nat} (l1 l2 l3 : Int32) (h : cG G al A) (w : wG G) (hp : p < gN G) (hr : r < gR G) : ∀ (n i : Nat) (o : Option Value), i + n = gZ G r → cRes 1 1033 A (mnF G p r i n) (z_denF zQ (d + 4) mP_mend (65, [some (.ref 1), some (.int l1), some (.int l2), some (.int l3), some (.ref (al p)), some (.ref (zP zQ A 2 r)), some (.int (zn i)), o], [], A))
  | 0, i, o, hi => by
    obtain ⟨q, q0, hz⟩ := cG_ro h w hr
    rw [L_P_mend_65]
    simp (disch := omega) only [z_bV_some, z_bI_some, z_bJ_some, z_bD_some, z_bR_some, cond_true, cond_false, Bool.and_true, Bool.true_and, Bool.not_false, Bool.not_true, Bool.and_self, Bool.or_true, Bool.false_or, Bool.true_or, zn_ok, zn_ok0, zn_N, zn_add, zn_mul, zn_sub, z_lt_T, z_lt_F, z_le_T, z_le_F, z_eq_T, z_ne_F, z_eq_F, z_ne_T, z_ix_T, z_lt_m, z_le_m, z_lt_m2, z_le_m2, z_eq_m, z_ne_m, zn_div, z_a31, zn_shl, zn_shr, z_bq_T, z_bq_F, z_bl_T, nL_0, c8 q.1, q.2.2, B_P_nothingThere]
    exact cRes_st h _ _
  | n + 1, i, o, hi => by
    obtain ⟨q, q0, hz⟩ := cG_ro h w hr
    obtain ⟨p1, p2, p3, p4⟩ := cG_rs h w hr (s := i) (by omega)
    have hTp := h.2.2.2.2.2.2.1 p hp
    have wp := w.2.2.2.2.1 p hp
    have e1 := E_L_at (d + 2) h w hr (s := i) (by omega)
    have e2 := E_S_verdict (d + 1) _ A _ p2 p3
    have ih := fun o => L_Pn d l1 l2 l3 h w hp hr n (i + 1) o (by omega)
    have b1 := p3.1
    have b2 := wp.1
    have b3 := p3.2.1
    have b4 := wp.2.1
    have hf := find_lt (gS G r i)
    obtain ⟨-, k0, k1, -⟩ := id p2
    obtain ⟨-, l0, l1', -⟩ := id hTp
    unfold mnF
    by_cases g1 : tK (gS G r i) = tK (gT G p)
    · have z1 : z_ne (zn (tK (gS G r i))) (zn (tK (gT G p))) = false := by rw [g1]; exact z_ne_F _
      by_cases g2 : tN (gS G r i) = tN (gT G p)
      · have z2 : z_eq (zn (tN (gS G r i))) (zn (tN (gT G p))) = true := by rw [g2]; exact z_eq_T _
        by_cases g3 : findT (gS G r i) = 0
        · rw [if_pos ⟨g1, g2, g3⟩]
          rw [g3] at e2
          by_cases g4 : 8000 < gE G + tS (gS G r i) - tS (gT G p)
          · rw [if_pos g4]
            have e3 := E_P_replaceBytes_no (d + 1) h w hp p1 g4
            rw [L_P_mend_65]
            simp (disch := omega) only [z_bV_some, z_bI_some, z_bJ_some, z_bD_some, z_bR_some, cond_true, cond_false, Bool.and_true, Bool.true_and, Bool.not_false, Bool.not_true, Bool.and_self, Bool.or_true, Bool.false_or, Bool.true_or, zn_ok, zn_ok0, zn_N, zn_add, zn_mul, zn_sub, z_lt_T, z_lt_F, z_le_T, z_le_F, z_eq_T, z_ne_F, z_eq_F, z_ne_T, z_ix_T, z_lt_m, z_le_m, z_lt_m2, z_le_m2, z_eq_m, z_ne_m, zn_div, z_a31, zn_shl, zn_shr, z_bq_T, z_bq_F, z_bl_T, nL_0, c8 q.1, q.2.2, e1, c9 p2.1, c9 hTp.1, k0, l0, z1, k1, l1', z2, e2, e3, B_P_refuse]
            exact cRes_st h _ _
          · rw [if_neg g4]
            obtain ⟨A', t1, t2, t3, t4, t5⟩ := E_P_replaceBytes d h w hp p1 g1 (Nat.le_of_not_lt g4)
            rw [L_P_mend_65]
            simp (disch := omega) only [z_bV_some, z_bI_some, z_bJ_some, z_bD_some, z_bR_some, cond_true, cond_false, Bool.and_true, Bool.true_and, Bool.not_false, Bool.not_true, Bool.and_self, Bool.or_true, Bool.false_or, Bool.true_or, zn_ok, zn_ok0, zn_N, zn_add, zn_mul, zn_sub, z_lt_T, z_lt_F, z_le_T, z_le_F, z_eq_T, z_ne_F, z_eq_F, z_ne_T, z_ix_T, z_lt_m, z_le_m, z_lt_m2, z_le_m2, z_eq_m, z_ne_m, zn_div, z_a31, zn_shl, zn_shr, z_bq_T, z_bq_F, z_bl_T, nL_0, c8 q.1, q.2.2, e1, c9 p2.1, c9 hTp.1, k0, l0, z1, k1, l1', z2, e2, t1, B_P_done]
            obtain ⟨A'', al', i1, i2, i3, i4⟩ := cRes_st (c := 0) (s := 0) t2 (zn i) (zn 0)
            cases i1
            exact ⟨_, al', rfl, i2, i3, zFr_mono (xcS_tr t3 (t2.1.trans h.1.symm) i4) (by omega) (by omega) (fun _ _ h => h)⟩
        · rw [if_neg (fun q => g3 q.2.2)]
          have ih2 := ih (some (.ref (al (gO G r i))))
          have hst : ∀ X, X = z_denF zQ (d + 4) mP_mend (65, [some (.ref 1), some (.int l1), some (.int l2), some (.int l3), some (.ref (al p)), some (.ref (zP zQ A 2 r)), some (.int (zn (i + 1))), some (.ref (al (gO G r i)))], [], A) → cRes 1 1033 A (mnF G p r (i + 1) n) X := fun X e => by rw [e]; exact ih2
          apply hst
          rw [L_P_mend_65]
          simp (disch := omega) only [z_bV_some, z_bI_some, z_bJ_some, z_bD_some, z_bR_some, cond_true, cond_false, Bool.and_true, Bool.true_and, Bool.not_false, Bool.not_true, Bool.and_self, Bool.or_true, Bool.false_or, Bool.true_or, zn_ok, zn_ok0, zn_N, zn_add, zn_mul, zn_sub, z_lt_T, z_lt_F, z_le_T, z_le_F, z_eq_T, z_ne_F, z_eq_F, z_ne_T, z_ix_T, z_lt_m, z_le_m, z_lt_m2, z_le_m2, z_eq_m, z_ne_m, zn_div, z_a31, zn_shl, zn_shr, z_bq_T, z_bq_F, z_bl_T, nL_0, nL_1, c8 q.1, q.2.2, e1, c9 p2.1, c9 hTp.1, k0, l0, z1, k1, l1', z2, e2]
      · rw [if_neg (fun q => g2 q.2.1)]
        have ih2 := ih (some (.ref (al (gO G r i))))
        have hst : ∀ X, X = z_denF zQ (d + 4) mP_mend (65, [some (.ref 1), some (.int l1), some (.int l2), some (.int l3), some (.ref (al p)), some (.ref (zP zQ A 2 r)), some (.int (zn (i + 1))), some (.ref (al (gO G r i)))], [], A) → cRes 1 1033 A (mnF G p r (i + 1) n) X := fun X e => by rw [e]; exact ih2
        apply hst
        rw [L_P_mend_65]
        simp (disch := omega) only [z_bV_some, z_bI_some, z_bJ_some, z_bD_some, z_bR_some, cond_true, cond_false, Bool.and_true, Bool.true_and, Bool.not_false, Bool.not_true, Bool.and_self, Bool.or_true, Bool.false_or, Bool.true_or, zn_ok, zn_ok0, zn_N, zn_add, zn_mul, zn_sub, z_lt_T, z_lt_F, z_le_T, z_le_F, z_eq_T, z_ne_F, z_eq_F, z_ne_T, z_ix_T, z_lt_m, z_le_m, z_lt_m2, z_le_m2, z_eq_m, z_ne_m, zn_div, z_a31, zn_shl, zn_shr, z_bq_T, z_bq_F, z_bl_T, nL_0, nL_1, c8 q.1, q.2.2, e1, c9 p2.1, c9 hTp.1, k0, l0, z1, k1, l1']
    · rw [if_neg (fun q => g1 q.1)]
      have ih2 := ih (some (.ref (al (gO G r i))))
      have hst : ∀ X, X = z_denF zQ (d + 4) mP_mend (65, [some (.ref 1), some (.int l1), some (.int l2), some (.int l3), some (.ref (al p)), some (.ref (zP zQ A 2 r)), some (.int (zn (i + 1))), some (.ref (al (gO G r i)))], [], A) → cRes 1 1033 A (mnF G p r (i + 1) n) X := fun X e => by rw [e]; exact ih2
      apply hst
      rw [L_P_mend_65]
      simp (disch := omega) only [z_bV_some, z_bI_some, z_bJ_some, z_bD_some, z_bR_some, cond_true, cond_false, Bool.and_true, Bool.true_and, Bool.not_false, Bool.not_true, Bool.and_self, Bool.or_true, Bool.false_or, Bool.true_or, zn_ok, zn_ok0, zn_N, zn_add, zn_mul, zn_sub, z_lt_T, z_lt_F, z_le_T, z_le_F, z_eq_T, z_ne_F, z_eq_F, z_ne_T, z_ix_T, z_lt_m, z_le_m, z_lt_m2, z_le_m2, z_eq_m, z_ne_m, zn_div, z_a31, zn_shl, zn_shr, z_bq_T, z_bq_F, z_bl_T, nL_0, nL_1, c8 q.1, q.2.2, e1, c9 p2.1, c9 hTp.1, k0, l0]
theorem P_mend (d : Nat) {pl : Bool} {G : zG} {al : Nat → Nat} {A : zM} {x y z : Int32} (h : cG G al A) (w : wG G) (hp : zI A 3 15 = bI pl) : cRes 1 1033 A (oMend pl G x y z) (z_den zQ (d + 4) mP_mend [.ref 1, .int x, .int y, .int z] A) := by
  unfold oMend
  rw [B_P_mend]
  by_cases g : sOk G x y
  rotate_left
  · rw [pif_F (fun q => g q.1), E_P_stripAt_no _ h w g, z_bR_some]
    rcases rOk_c w z with g' | ⟨r', hr', rfl⟩
    · rw [E_P_rollAt_no _ h w g']
      simp (disch := omega) only [z_bV_some, z_bI_some, z_bJ_some, z_bD_some, z_bR_some, cond_true, cond_false, Bool.and_true, Bool.true_and, Bool.not_false, Bool.not_true, Bool.and_self, Bool.or_true, Bool.false_or, Bool.true_or, zn_ok, zn_ok0, zn_N, zn_add, zn_mul, zn_sub, z_lt_T, z_lt_F, z_le_T, z_le_F, z_eq_T, z_ne_F, z_eq_F, z_ne_T, z_ix_T, z_lt_m, z_le_m, z_lt_m2, z_le_m2, z_eq_m, z_ne_m, zn_div, z_a31, zn_shl, zn_shr, z_bq_T, z_bq_F, z_bl_T, B_P_refuse]
      exact cRes_st h _ _
    · rw [E_P_ro _ h w hr']
      simp (disch := omega) only [z_bV_some, z_bI_some, z_bJ_some, z_bD_some, z_bR_some, cond_true, cond_false, Bool.and_true, Bool.true_and, Bool.not_false, Bool.not_true, Bool.and_self, Bool.or_true, Bool.false_or, Bool.true_or, zn_ok, zn_ok0, zn_N, zn_add, zn_mul, zn_sub, z_lt_T, z_lt_F, z_le_T, z_le_F, z_eq_T, z_ne_F, z_eq_F, z_ne_T, z_ix_T, z_lt_m, z_le_m, z_lt_m2, z_le_m2, z_eq_m, z_ne_m, zn_div, z_a31, zn_shl, zn_shr, z_bq_T, z_bq_F, z_bl_T, B_P_refuse]
      exact cRes_st h _ _
  obtain ⟨p1, p2, p3, p4, m, p5, p6⟩ := cG_at h w g
  have n0 := hd_n0 p2.1 (by decide)
  rw [E_P_stripAt_ok _ h w g, z_bR_some]
  rcases rOk_c w z with g' | ⟨r, hr, rfl⟩
  · rw [pif_F (fun q => g' q.2), E_P_rollAt_no _ h w g']
    simp (disch := omega) only [z_bV_some, z_bI_some, z_bJ_some, z_bD_some, z_bR_some, cond_true, cond_false, Bool.and_true, Bool.true_and, Bool.not_false, Bool.not_true, Bool.and_self, Bool.or_true, Bool.false_or, Bool.true_or, zn_ok, zn_ok0, zn_N, zn_add, zn_mul, zn_sub, z_lt_T, z_lt_F, z_le_T, z_le_F, z_eq_T, z_ne_F, z_eq_F, z_ne_T, z_ix_T, z_lt_m, z_le_m, z_lt_m2, z_le_m2, z_eq_m, z_ne_m, zn_div, z_a31, zn_shl, zn_shr, z_bq_T, z_bq_F, z_bl_T, B_P_refuse]
    exact cRes_st h _ _
  have hR := w.1
  obtain ⟨q, q0, hz⟩ := cG_ro h w hr
  rw [pif_T ⟨g, rOk_nat w hr⟩, E_P_ro _ h w hr, z_bR_some, zn_N (by omega)]
  by_cases g2 : pl = true
  · rw [if_pos g2]
    simp (disch := omega) only [z_bV_some, z_bI_some, z_bJ_some, z_bD_some, z_bR_some, cond_true, cond_false, Bool.and_true, Bool.true_and, Bool.not_false, Bool.not_true, Bool.and_self, Bool.or_true, Bool.false_or, Bool.true_or, zn_ok, zn_ok0, zn_N, zn_add, zn_mul, zn_sub, z_lt_T, z_lt_F, z_le_T, z_le_F, z_eq_T, z_ne_F, z_eq_F, z_ne_T, z_ix_T, z_lt_m, z_le_m, z_lt_m2, z_le_m2, z_eq_m, z_ne_m, zn_div, z_a31, zn_shl, zn_shr, z_bq_T, z_bq_F, z_bl_T, nL_0, hp, pl_T g2, B_P_refuse]
    exact cRes_st h _ _
  rw [if_neg g2]
  have e2 := E_S_verdict (d + 1) _ A _ p2 p3
  have hf := find_lt (sA G x y)
  by_cases g3 : findT (sA G x y) = 0
  · rw [if_pos g3]
    rw [g3] at e2
    simp (disch := omega) only [z_bV_some, z_bI_some, z_bJ_some, z_bD_some, z_bR_some, cond_true, cond_false, Bool.and_true, Bool.true_and, Bool.not_false, Bool.not_true, Bool.and_self, Bool.or_true, Bool.false_or, Bool.true_or, zn_ok, zn_ok0, zn_N, zn_add, zn_mul, zn_sub, z_lt_T, z_lt_F, z_le_T, z_le_F, z_eq_T, z_ne_F, z_eq_F, z_ne_T, z_ix_T, z_lt_m, z_le_m, z_lt_m2, z_le_m2, z_eq_m, z_ne_m, zn_div, z_a31, zn_shl, zn_shr, z_bq_T, z_bq_F, z_bl_T, nL_0, hp, pl_F g2, c9 p2.1, e2, B_P_done]
    exact cRes_st h _ _
  · rw [if_neg g3]
    have e := L_Pn d x y (zn r) h w p1 hr (gZ G r) 0 none (by omega)
    have e : cRes 1 1033 A _ (z_denF zQ (d + 3 + 1) mP_mend _) := e
    simp (disch := omega) only [z_bV_some, z_bI_some, z_bJ_some, z_bD_some, z_bR_some, cond_true, cond_false, Bool.and_true, Bool.true_and, Bool.not_false, Bool.not_true, Bool.and_self, Bool.or_true, Bool.false_or, Bool.true_or, zn_ok, zn_ok0, zn_N, zn_add, zn_mul, zn_sub, z_lt_T, z_lt_F, z_le_T, z_le_F, z_eq_T, z_ne_F, z_eq_F, z_ne_T, z_ix_T, z_lt_m, z_le_m, z_lt_m2, z_le_m2, z_eq_m, z_ne_m, zn_div, z_a31, zn_shl, zn_shr, z_bq_T, z_bq_F, z_bl_T, nL_0, hp, pl_F g2, c9 p2.1, e2]
    exact e
theorem L_Qn (d : Nat) {G : zG} {B : zM} {p r : Nat} (l1 l2 : Int32) (h : rG G B) (w : wG G) (hp : p < gN G) (hr : r < gR G) : ∀ (n i : Nat) (o : Option Value), i + n = gZ G r → rRes B (mnF G p r i n) (z_denF zQ (d + 5) mQ_mend (63, [some (.ref 15), some (.int l1), some (.int l2), some (.int (zn r)), some (.int (zn p)), some (.int (zn i)), o], [], B))
  | 0, i, o, hi => by
    have hR := w.1
    have := wG_z w hr
    have := w.2.1
    rw [L_Q_mend_63]
    simp (disch := omega) only [z_bV_some, z_bI_some, z_bJ_some, z_bD_some, z_bR_some, cond_true, cond_false, Bool.and_true, Bool.true_and, Bool.not_false, Bool.not_true, Bool.and_self, Bool.or_true, Bool.false_or, Bool.true_or, zn_ok, zn_ok0, zn_N, zn_add, zn_mul, zn_sub, z_lt_T, z_lt_F, z_le_T, z_le_F, z_eq_T, z_ne_F, z_eq_F, z_ne_T, z_ix_T, z_lt_m, z_le_m, z_lt_m2, z_le_m2, z_eq_m, z_ne_m, zn_div, z_a31, zn_shl, zn_shr, z_bq_T, z_bq_F, z_bl_T, nL_0, h.2.2.2.1 r hr, B_Q_well]
    exact rRes_st h _ _
  | n + 1, i, o, hi => by
    have hR := w.1
    have hzz := wG_z w hr
    have h4 := w.2.1
    obtain ⟨p1, p2, p3, p4⟩ := rG_rs h w hr (s := i) (by omega)
    have hTp := h.2.2.2.2.2.2.1 p hp
    have wp := w.2.2.2.2.1 p hp
    have hE := gE_ge w hp
    have hEm := w.2.2.2.2.2.2
    have e1 := E_Q_po (d + 3) h w hr (s := i) (by omega)
    have e2 := E_Q_findingOf d _ _ _ p2 p3 p4
    have ih := fun o => L_Qn d l1 l2 h w hp hr n (i + 1) o (by omega)
    have b1 := p4.1
    have b2 := wp.1
    have b3 := p4.2.1
    have b4 := wp.2.1
    have s1 := p4.2.2.2.2.1
    have hf := find_lt (gS G r i)
    have i16 := h.2.2.2.1 r hr
    unfold mnF
    by_cases g1 : tK (gS G r i) = tK (gT G p)
    · have z1 : z_ne (zn (tK (gS G r i))) (zn (tK (gT G p))) = false := by rw [g1]; exact z_ne_F _
      by_cases g2 : tN (gS G r i) = tN (gT G p)
      · have z2 : z_ne (zn (tN (gS G r i))) (zn (tN (gT G p))) = false := by rw [g2]; exact z_ne_F _
        by_cases g3 : findT (gS G r i) = 0
        · rw [if_pos ⟨g1, g2, g3⟩]
          rw [g3] at e2
          by_cases g4 : 8000 < gE G + tS (gS G r i) - tS (gT G p)
          · rw [if_pos g4]
            have z3 : z_le (zn (gE G) - zn (tS (gT G p)) + zn (tS (gS G r i))) (zn 8000) = false := by rw [zn_sa hE]; exact z_le_F g4 (by omega)
            rw [L_Q_mend_63]
            simp (disch := omega) only [z_bI_some, cond_true, cond_false, z_ix_T, zn_N, z_le_F, z_ne_F, nL_0, nL_8000, i16, e1, p3.1, hTp.1, z1, p3.2.1, hTp.2.1, z2, e2, h.2.2.1, p3.2.2.2.2.2.1, hTp.2.2.2.2.2.1, z3, B_Q_no]
            exact rRes_st h _ _
          · rw [if_neg g4]
            have z3 : z_le (zn (gE G) - zn (tS (gT G p)) + zn (tS (gS G r i))) (zn 8000) = true := by rw [zn_sa hE]; exact z_le_T (by omega) (by omega)
            obtain ⟨B', c1, c2, c3⟩ := E_Q_repC (d + 3) h w hp p1
            rw [L_Q_mend_63]
            simp (disch := omega) only [z_bI_some, z_bV_some, cond_true, cond_false, z_ix_T, zn_N, z_le_F, z_ne_F, nL_0, nL_8000, i16, e1, p3.1, hTp.1, z1, p3.2.1, hTp.2.1, z2, e2, h.2.2.1, p3.2.2.2.2.2.1, hTp.2.2.2.2.2.1, z3, c1, B_Q_well]
            exact rRes_K (zFr_mono c3 (Nat.le_refl _) (Nat.le_refl _) (xE_xrS _)) c2
        · rw [if_neg (fun q => g3 q.2.2)]
          have ih2 := ih (some (.int (zn (gO G r i))))
          have hst : ∀ X, X = z_denF zQ (d + 5) mQ_mend (63, [some (.ref 15), some (.int l1), some (.int l2), some (.int (zn r)), some (.int (zn p)), some (.int (zn (i + 1))), some (.int (zn (gO G r i)))], [], B) → rRes B (mnF G p r (i + 1) n) X := fun X e => by rw [e]; exact ih2
          apply hst
          rw [L_Q_mend_63]
          simp (disch := omega) only [z_bV_some, z_bI_some, z_bJ_some, z_bD_some, z_bR_some, cond_true, cond_false, Bool.and_true, Bool.true_and, Bool.not_false, Bool.not_true, Bool.and_self, Bool.or_true, Bool.false_or, Bool.true_or, zn_ok, zn_ok0, zn_N, zn_add, zn_mul, zn_sub, z_lt_T, z_lt_F, z_le_T, z_le_F, z_eq_T, z_ne_F, z_eq_F, z_ne_T, z_ix_T, z_lt_m, z_le_m, z_lt_m2, z_le_m2, z_eq_m, z_ne_m, zn_div, z_a31, zn_shl, zn_shr, z_bq_T, z_bq_F, z_bl_T, nL_0, nL_1, i16, e1, p3.1, hTp.1, z1, p3.2.1, hTp.2.1, z2, e2]
      · rw [if_neg (fun q => g2 q.2.1)]
        have ih2 := ih (some (.int (zn (gO G r i))))
        have hst : ∀ X, X = z_denF zQ (d + 5) mQ_mend (63, [some (.ref 15), some (.int l1), some (.int l2), some (.int (zn r)), some (.int (zn p)), some (.int (zn (i + 1))), some (.int (zn (gO G r i)))], [], B) → rRes B (mnF G p r (i + 1) n) X := fun X e => by rw [e]; exact ih2
        apply hst
        rw [L_Q_mend_63]
        simp (disch := omega) only [z_bV_some, z_bI_some, z_bJ_some, z_bD_some, z_bR_some, cond_true, cond_false, Bool.and_true, Bool.true_and, Bool.not_false, Bool.not_true, Bool.and_self, Bool.or_true, Bool.false_or, Bool.true_or, zn_ok, zn_ok0, zn_N, zn_add, zn_mul, zn_sub, z_lt_T, z_lt_F, z_le_T, z_le_F, z_eq_T, z_ne_F, z_eq_F, z_ne_T, z_ix_T, z_lt_m, z_le_m, z_lt_m2, z_le_m2, z_eq_m, z_ne_m, zn_div, z_a31, zn_shl, zn_shr, z_bq_T, z_bq_F, z_bl_T, nL_0, nL_1, i16, e1, p3.1, hTp.1, z1, p3.2.1, hTp.2.1]
    · rw [if_neg (fun q => g1 q.1)]
      have ih2 := ih (some (.int (zn (gO G r i))))
      have hst : ∀ X, X = z_denF zQ (d + 5) mQ_mend (63, [some (.ref 15), some (.int l1), some (.int l2), some (.int (zn r)), some (.int (zn p)), some (.int (zn (i + 1))), some (.int (zn (gO G r i)))], [], B) → rRes B (mnF G p r (i + 1) n) X := fun X e => by rw [e]; exact ih2
      apply hst
      rw [L_Q_mend_63]
      simp (disch := omega) only [z_bV_some, z_bI_some, z_bJ_some, z_bD_some, z_bR_some, cond_true, cond_false, Bool.and_true, Bool.true_and, Bool.not_false, Bool.not_true, Bool.and_self, Bool.or_true, Bool.false_or, Bool.true_or, zn_ok, zn_ok0, zn_N, zn_add, zn_mul, zn_sub, z_lt_T, z_lt_F, z_le_T, z_le_F, z_eq_T, z_ne_F, z_eq_F, z_ne_T, z_ix_T, z_lt_m, z_le_m, z_lt_m2, z_le_m2, z_eq_m, z_ne_m, zn_div, z_a31, zn_shl, zn_shr, z_bq_T, z_bq_F, z_bl_T, nL_0, nL_1, i16, e1, p3.1, hTp.1]
theorem Q_mend (d : Nat) {pl : Bool} {G : zG} {B : zM} {x y z : Int32} (h : rG G B) (w : wG G) (hp : zI B 15 36 = bI pl) : rRes B (oMend pl G x y z) (z_den zQ (d + 5) mQ_mend [.ref 15, .int x, .int y, .int z] B) := by
  unfold oMend
  rw [B_Q_mend]
  by_cases g : sOk G x y
  rotate_left
  · rw [pif_F (fun q => g q.1), E_Q_isStrip_no (d + 1) h w g]
    simp (disch := omega) only [z_bV_some, z_bI_some, z_bJ_some, z_bD_some, z_bR_some, cond_true, cond_false, Bool.and_true, Bool.true_and, Bool.not_false, Bool.not_true, Bool.and_self, Bool.or_true, Bool.false_or, Bool.true_or, zn_ok, zn_ok0, zn_N, zn_add, zn_mul, zn_sub, z_lt_T, z_lt_F, z_le_T, z_le_F, z_eq_T, z_ne_F, z_eq_F, z_ne_T, z_ix_T, z_lt_m, z_le_m, z_lt_m2, z_le_m2, z_eq_m, z_ne_m, zn_div, z_a31, zn_shl, zn_shr, z_bq_T, z_bq_F, z_bl_T, nL_0, B_Q_no]
    exact rRes_st h _ _
  obtain ⟨p1, p2, p3, p4⟩ := rG_at h w g
  rw [E_Q_isStrip_ok (d + 1) h w g]
  rcases rOk_c w z with g' | ⟨r, hr, rfl⟩
  · rw [pif_F (fun q => g' q.2)]
    simp (disch := omega) only [z_bV_some, z_bI_some, z_bJ_some, z_bD_some, z_bR_some, cond_true, cond_false, Bool.and_true, Bool.true_and, Bool.not_false, Bool.not_true, Bool.and_self, Bool.or_true, Bool.false_or, Bool.true_or, zn_ok, zn_ok0, zn_N, zn_add, zn_mul, zn_sub, z_lt_T, z_lt_F, z_le_T, z_le_F, z_eq_T, z_ne_F, z_eq_F, z_ne_T, z_ix_T, z_lt_m, z_le_m, z_lt_m2, z_le_m2, z_eq_m, z_ne_m, zn_div, z_a31, zn_shl, zn_shr, z_bq_T, z_bq_F, z_bl_T, nL_0, E_Q_isRoll_no _ h w g', B_Q_no]
    exact rRes_st h _ _
  have hR := w.1
  have er := E_Q_isRoll_ok (d + 2) h w (rOk_nat w hr)
  rw [pif_T ⟨g, rOk_nat w hr⟩, zn_N (by omega)]
  by_cases g2 : pl = true
  · rw [if_pos g2]
    simp (disch := omega) only [z_bV_some, z_bI_some, z_bJ_some, z_bD_some, z_bR_some, cond_true, cond_false, Bool.and_true, Bool.true_and, Bool.not_false, Bool.not_true, Bool.and_self, Bool.or_true, Bool.false_or, Bool.true_or, zn_ok, zn_ok0, zn_N, zn_add, zn_mul, zn_sub, z_lt_T, z_lt_F, z_le_T, z_le_F, z_eq_T, z_ne_F, z_eq_F, z_ne_T, z_ix_T, z_lt_m, z_le_m, z_lt_m2, z_le_m2, z_eq_m, z_ne_m, zn_div, z_a31, zn_shl, zn_shr, z_bq_T, z_bq_F, z_bl_T, nL_0, er, hp, pl_T g2, B_Q_no]
    exact rRes_st h _ _
  rw [if_neg g2]
  have e1 := E_Q_poolOf (d + 3) h w g
  have e2 := E_Q_findingOf d _ _ _ p2 p3 p4
  have hf := find_lt (sA G x y)
  by_cases g3 : findT (sA G x y) = 0
  · rw [if_pos g3]
    rw [g3] at e2
    simp (disch := omega) only [z_bV_some, z_bI_some, z_bJ_some, z_bD_some, z_bR_some, cond_true, cond_false, Bool.and_true, Bool.true_and, Bool.not_false, Bool.not_true, Bool.and_self, Bool.or_true, Bool.false_or, Bool.true_or, zn_ok, zn_ok0, zn_N, zn_add, zn_mul, zn_sub, z_lt_T, z_lt_F, z_le_T, z_le_F, z_eq_T, z_ne_F, z_eq_F, z_ne_T, z_ix_T, z_lt_m, z_le_m, z_lt_m2, z_le_m2, z_eq_m, z_ne_m, zn_div, z_a31, zn_shl, zn_shr, z_bq_T, z_bq_F, z_bl_T, nL_0, er, hp, pl_F g2, e1, e2, B_Q_well]
    exact rRes_st h _ _
  · rw [if_neg g3]
    have e := L_Qn d x y h w p1 hr (gZ G r) 0 none (by omega)
    have e : rRes B _ (z_denF zQ (d + 4 + 1) mQ_mend _) := e
    simp (disch := omega) only [z_bV_some, z_bI_some, z_bJ_some, z_bD_some, z_bR_some, cond_true, cond_false, Bool.and_true, Bool.true_and, Bool.not_false, Bool.not_true, Bool.and_self, Bool.or_true, Bool.false_or, Bool.true_or, zn_ok, zn_ok0, zn_N, zn_add, zn_mul, zn_sub, z_lt_T, z_lt_F, z_le_T, z_le_F, z_eq_T, z_ne_F, z_eq_F, z_ne_T, z_ix_T, z_lt_m, z_le_m, z_lt_m2, z_le_m2, z_eq_m, z_ne_m, zn_div, z_a31, zn_shl, zn_shr, z_bq_T, z_bq_F, z_bl_T, nL_0, er, hp, pl_F g2, e1, e2]
    exact e
