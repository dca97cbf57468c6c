/-! S LEVEL, acts: join, repeat. -/
noncomputable def oAdd (pl : Bool) (G : zG) (r at_ r' i n : Nat) : Int32 × Int32 × zG := if pl = true then (-3, -3, G) else pif (400 < gN G + n ∨ 8000 < gE G + sumE G r' i n) (-2, -2, G) (zn (gZ G r + n), zn 0, insG G r at_ r' i n)
noncomputable def oJoin (pl : Bool) (G : zG) (x y : Int32) : Int32 × Int32 × zG := pif (rOk G x ∧ rOk G y ∧ x ≠ y) (oAdd pl G x.toNatClampNeg (gZ G x.toNatClampNeg) y.toNatClampNeg 0 (gZ G y.toNatClampNeg)) (-1, -1, G)
noncomputable def oRepeat (pl : Bool) (G : zG) (x i n : Int32) : Int32 × Int32 × zG := pif (rOk G x ∧ (0 ≤ n.toInt ∧ n.toInt ≤ 8) ∧ (0 ≤ i.toInt ∧ i.toInt ≤ gZ G x.toNatClampNeg - n.toInt)) (oAdd pl G x.toNatClampNeg (i.toNatClampNeg + n.toNatClampNeg) x.toNatClampNeg i.toNatClampNeg n.toNatClampNeg) (-1, -1, G)
theorem cRes_mono {c s c' s' : Nat} {A : zM} {r : Int32 × Int32 × zG} {o : zR} (h : cRes c s A r o) (hc : c ≤ c') (hs : s ≤ s') : cRes c' s' A r o := by
  obtain ⟨A', al', h1, h2, h3, h4⟩ := h
  exact ⟨A', al', h1, h2, h3, zFr_mono h4 hc hs (fun _ _ h => h)⟩
theorem z_bI_id {c s : Nat} {A : zM} {r : Int32 × Int32 × zG} {o : zR} (h : cRes c s A r o) : cRes c s A r (z_bI o (fun x M => some (some (.int x), M))) := by
  obtain ⟨A', al', h1, h2⟩ := h
  rw [h1]
  exact ⟨A', al', rfl, h2⟩
theorem P_join (d : Nat) {pl : Bool} {G : zG} {al : Nat → Nat} {A : zM} {x y : Int32} (h : cG G al A) (w : wG G) (hp : zI A 3 15 = bI pl) : cRes (3 * nDel G (oJoin pl G x y)) (2100 * nDel G (oJoin pl G x y)) A (oJoin pl G x y) (z_den zQ (d + 5) mP_join [.ref 1, .int x, .int y] A) := by
  unfold oJoin
  rw [B_P_join]
  rcases rOk_c w x with g | ⟨r, hr, rfl⟩
  · rw [pif_F (fun q => g q.1), E_P_rollAt_no _ h w g]
    rcases rOk_c w y with g' | ⟨r', hr', rfl⟩
    · rw [z_bR_some, E_P_rollAt_no _ h w g']
      simp (disch := omega) only [z_bV_some, z_bI_some, z_bJ_some, z_bD_some, z_bR_some, cond_true, cond_false, Bool.and_true, Bool.true_and, Bool.not_false, Bool.not_true, Bool.and_self, Bool.or_true, Bool.false_or, Bool.true_or, zn_ok, zn_ok0, zn_N, zn_add, zn_mul, zn_sub, z_lt_T, z_lt_F, z_le_T, z_le_F, z_eq_T, z_ne_F, z_eq_F, z_ne_T, z_ix_T, z_lt_m, z_le_m, z_lt_m2, z_le_m2, z_eq_m, z_ne_m, zn_div, z_a31, zn_shl, zn_shr, z_bq_T, z_bq_F, z_bl_T, B_P_refuse]
      exact cRes_st h _ _
    · rw [z_bR_some, E_P_ro _ h w hr']
      simp (disch := omega) only [z_bV_some, z_bI_some, z_bJ_some, z_bD_some, z_bR_some, cond_true, cond_false, Bool.and_true, Bool.true_and, Bool.not_false, Bool.not_true, Bool.and_self, Bool.or_true, Bool.false_or, Bool.true_or, zn_ok, zn_ok0, zn_N, zn_add, zn_mul, zn_sub, z_lt_T, z_lt_F, z_le_T, z_le_F, z_eq_T, z_ne_F, z_eq_F, z_ne_T, z_ix_T, z_lt_m, z_le_m, z_lt_m2, z_le_m2, z_eq_m, z_ne_m, zn_div, z_a31, zn_shl, zn_shr, z_bq_T, z_bq_F, z_bl_T, B_P_refuse]
      exact cRes_st h _ _
  have hR := w.1
  obtain ⟨q, q0, hz⟩ := cG_ro h w hr
  rw [E_P_ro _ h w hr, z_bR_some]
  rcases rOk_c w y with g' | ⟨r', hr', rfl⟩
  · rw [pif_F (fun q => g' q.2.1), E_P_rollAt_no _ h w g']
    simp (disch := omega) only [z_bV_some, z_bI_some, z_bJ_some, z_bD_some, z_bR_some, cond_true, cond_false, Bool.and_true, Bool.true_and, Bool.not_false, Bool.not_true, Bool.and_self, Bool.or_true, Bool.false_or, Bool.true_or, zn_ok, zn_ok0, zn_N, zn_add, zn_mul, zn_sub, z_lt_T, z_lt_F, z_le_T, z_le_F, z_eq_T, z_ne_F, z_eq_F, z_ne_T, z_ix_T, z_lt_m, z_le_m, z_lt_m2, z_le_m2, z_eq_m, z_ne_m, zn_div, z_a31, zn_shl, zn_shr, z_bq_T, z_bq_F, z_bl_T, B_P_refuse]
    exact cRes_st h _ _
  obtain ⟨q', q0', hz'⟩ := cG_ro h w hr'
  rw [E_P_ro _ h w hr', z_bR_some]
  by_cases g : r = r'
  · subst g
    rw [pif_F (fun q => q.2.2 rfl)]
    simp (disch := omega) only [z_bV_some, z_bI_some, z_bJ_some, z_bD_some, z_bR_some, cond_true, cond_false, Bool.and_true, Bool.true_and, Bool.not_false, Bool.not_true, Bool.and_self, Bool.or_true, Bool.false_or, Bool.true_or, zn_ok, zn_ok0, zn_N, zn_add, zn_mul, zn_sub, z_lt_T, z_lt_F, z_le_T, z_le_F, z_eq_T, z_ne_F, z_eq_F, z_ne_T, z_ix_T, z_lt_m, z_le_m, z_lt_m2, z_le_m2, z_eq_m, z_ne_m, zn_div, z_a31, zn_shl, zn_shr, z_bq_T, z_bq_F, z_bl_T, B_P_refuse]
    exact cRes_st h _ _
  rw [pif_T ⟨rOk_nat w hr, rOk_nat w hr', fun e => g (zn_inj (by omega) (by omega) e)⟩, zn_N (by omega), zn_N (by omega)]
  unfold oAdd
  by_cases g2 : pl = true
  · rw [if_pos g2]
    simp (disch := omega) only [z_bV_some, z_bI_some, z_bJ_some, z_bD_some, z_bR_some, cond_true, cond_false, Bool.and_true, Bool.true_and, Bool.not_false, Bool.not_true, Bool.and_self, Bool.or_true, Bool.false_or, Bool.true_or, zn_ok, zn_ok0, zn_N, zn_add, zn_mul, zn_sub, z_lt_T, z_lt_F, z_le_T, z_le_F, z_eq_T, z_ne_F, z_eq_F, z_ne_T, z_ix_T, z_lt_m, z_le_m, z_lt_m2, z_le_m2, z_eq_m, z_ne_m, zn_div, z_a31, zn_shl, zn_shr, z_bq_T, z_bq_F, z_bl_T, nL_0, hp, pl_T g2, B_P_refuse]
    exact cRes_st h _ _
  rw [if_neg g2]
  have e := E_addCopies (pl := pl) d h w hr hr' (Nat.le_refl _) (i := 0) (n := gZ G r') (by omega) (fun e => absurd e.symm g)
  simp (disch := omega) only [nL_0, z_ne_T, cond_true, hp, pl_F g2, c8 q.1, c8 q'.1, q.2.2, q'.2.2, z_bq_F, cond_false]
  exact z_bI_id e
theorem P_repeat (d : Nat) {pl : Bool} {G : zG} {al : Nat → Nat} {A : zM} {x i n : Int32} (h : cG G al A) (w : wG G) (hp : zI A 3 15 = bI pl) : cRes (3 * nDel G (oRepeat pl G x i n)) (2100 * nDel G (oRepeat pl G x i n)) A (oRepeat pl G x i n) (z_den zQ (d + 5) mP_repeat [.ref 1, .int x, .int i, .int n] A) := by
  unfold oRepeat
  rw [B_P_repeat]
  rcases rOk_c w x with g | ⟨r, hr, rfl⟩
  · rw [pif_F (fun q => g q.1), E_P_rollAt_no _ h w g]
    simp (disch := omega) only [z_bV_some, z_bI_some, z_bJ_some, z_bD_some, z_bR_some, cond_true, cond_false, Bool.and_true, Bool.true_and, Bool.not_false, Bool.not_true, Bool.and_self, Bool.or_true, Bool.false_or, Bool.true_or, zn_ok, zn_ok0, zn_N, zn_add, zn_mul, zn_sub, z_lt_T, z_lt_F, z_le_T, z_le_F, z_eq_T, z_ne_F, z_eq_F, z_ne_T, z_ix_T, z_lt_m, z_le_m, z_lt_m2, z_le_m2, z_eq_m, z_ne_m, zn_div, z_a31, zn_shl, zn_shr, z_bq_T, z_bq_F, z_bl_T, B_P_refuse]
    exact cRes_st h _ _
  have hR := w.1
  obtain ⟨q, q0, hz⟩ := cG_ro h w hr
  rw [E_P_ro _ h w hr, z_bR_some, zn_N (by omega)]
  rcases zn_cases n with hn | ⟨N, hN, rfl⟩
  · rw [pif_F (fun q => by omega)]
    simp (disch := omega) only [z_bV_some, z_bI_some, z_bJ_some, z_bD_some, z_bR_some, cond_true, cond_false, Bool.and_true, Bool.true_and, Bool.not_false, Bool.not_true, Bool.and_self, Bool.or_true, Bool.false_or, Bool.true_or, zn_ok, zn_ok0, zn_N, zn_add, zn_mul, zn_sub, z_lt_T, z_lt_F, z_le_T, z_le_F, z_eq_T, z_ne_F, z_eq_F, z_ne_T, z_ix_T, z_lt_m, z_le_m, z_lt_m2, z_le_m2, z_eq_m, z_ne_m, zn_div, z_a31, zn_shl, zn_shr, z_bq_T, z_bq_F, z_bl_T, nL_0, B_P_refuse]
    exact cRes_st h _ _
  have tN' := zn_toInt hN
  by_cases gN' : 8 < N
  · rw [pif_F (fun q => by omega)]
    simp (disch := omega) only [z_bV_some, z_bI_some, z_bJ_some, z_bD_some, z_bR_some, cond_true, cond_false, Bool.and_true, Bool.true_and, Bool.not_false, Bool.not_true, Bool.and_self, Bool.or_true, Bool.false_or, Bool.true_or, zn_ok, zn_ok0, zn_N, zn_add, zn_mul, zn_sub, z_lt_T, z_lt_F, z_le_T, z_le_F, z_eq_T, z_ne_F, z_eq_F, z_ne_T, z_ix_T, z_lt_m, z_le_m, z_lt_m2, z_le_m2, z_eq_m, z_ne_m, zn_div, z_a31, zn_shl, zn_shr, z_bq_T, z_bq_F, z_bl_T, nL_0, nL_8, B_P_refuse]
    exact cRes_st h _ _
  rcases zn_cases i with hi | ⟨I, hI, rfl⟩
  · rw [pif_F (fun q => by omega)]
    simp (disch := omega) only [z_bV_some, z_bI_some, z_bJ_some, z_bD_some, z_bR_some, cond_true, cond_false, Bool.and_true, Bool.true_and, Bool.not_false, Bool.not_true, Bool.and_self, Bool.or_true, Bool.false_or, Bool.true_or, zn_ok, zn_ok0, zn_N, zn_add, zn_mul, zn_sub, z_lt_T, z_lt_F, z_le_T, z_le_F, z_eq_T, z_ne_F, z_eq_F, z_ne_T, z_ix_T, z_lt_m, z_le_m, z_lt_m2, z_le_m2, z_eq_m, z_ne_m, zn_div, z_a31, zn_shl, zn_shr, z_bq_T, z_bq_F, z_bl_T, nL_0, nL_8, B_P_refuse]
    exact cRes_st h _ _
  have tI' := zn_toInt hI
  have ts : (zn (gZ G r) - zn N).toInt = gZ G r - N := by rw [tI_sub (by rw [zn_toInt (by omega), tN']; omega) (by rw [zn_toInt (by omega), tN']; omega), zn_toInt (by omega), tN']
  by_cases g3 : (gZ G r : Int) - N < I
  · rw [pif_F (fun q => by omega)]
    have z1 : z_le (zn I) (zn (gZ G r) - zn N) = false := z_le_ff (by omega)
    rw [nL_0, nL_8, z_bq_F q0, cond_false, z_lt_F (by omega) (by omega), cond_false, z_le_T (by omega) (by omega), cond_true, z_lt_F (by omega) (by omega), cond_false, c8 q.1, cond_true, q.2.2, z1, cond_false, B_P_refuse, z_bI_some]
    exact cRes_st h _ _
  have z1 : z_le (zn I) (zn (gZ G r) - zn N) = true := z_le_tt (by omega)
  rw [pif_T ⟨rOk_nat w hr, by omega⟩, zn_N hN, zn_N hI]
  unfold oAdd
  by_cases g2 : pl = true
  · rw [if_pos g2]
    rw [nL_0, nL_8, z_bq_F q0, cond_false, z_lt_F (by omega) (by omega), cond_false, z_le_T (by omega) (by omega), cond_true, z_lt_F (by omega) (by omega), cond_false, c8 q.1, cond_true, q.2.2, z1, cond_true, hp, pl_T g2, cond_false, B_P_refuse, z_bI_some]
    exact cRes_st h _ _
  rw [if_neg g2]
  have e := E_addCopies (pl := pl) d h w hr hr (at_ := I + N) (i := I) (n := N) (by omega) (by omega) (fun _ => by omega)
  rw [nL_0, nL_8, z_bq_F q0, cond_false, z_lt_F (by omega) (by omega), cond_false, z_le_T (by omega) (by omega), cond_true, z_lt_F (by omega) (by omega), cond_false, c8 q.1, cond_true, q.2.2, z1, cond_true, hp, pl_F g2, cond_true, zn_add]
  exact z_bI_id e
