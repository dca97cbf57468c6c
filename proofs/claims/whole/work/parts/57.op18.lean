/-! S LEVEL, acts: move. -/
noncomputable def mvF (x i x' j : Int32) : Nat → Nat → zG → Int32 × Int32 × zG
  | 0, k, G => (zn k, zn 0, G)
  | m + 1, k, G => pif (hnF G x (i + zn k) x' (j + zn k) = zn 0) (mvF x i x' j m (k + 1) (repS G x (i + zn k) x' (j + zn k))) (zn k, hnF G x (i + zn k) x' (j + zn k), G)
noncomputable def oMove (pl : Bool) (G : zG) (x i n x' j : Int32) : Int32 × Int32 × zG := pif (rOk G x ∧ rOk G x' ∧ (0 ≤ n.toInt ∧ n.toInt ≤ 8)) (if pl = true then (-3, -3, G) else mvF x i x' j n.toNatClampNeg 0 G) (-1, -1, G)
theorem wG_repS {G : zG} {x y x' y' : Int32} (w : wG G) (h : hnF G x y x' y' = zn 0) : wG (repS G x y x' y') := by
  obtain ⟨h1, h2, h3, h4, h5, h6⟩ := hn_ok h
  exact wG_rep w (sOk_p w h2) (sOk_p w h1) h5 h6
theorem wG_mv (x i x' j : Int32) : ∀ (m k : Nat) (G : zG), wG G → wG (mvF x i x' j m k G).2.2
  | 0, k, G, w => w
  | m + 1, k, G, w => by
    unfold mvF
    by_cases g : hnF G x (i + zn k) x' (j + zn k) = zn 0
    · rw [pif_T g]; exact wG_mv x i x' j m (k + 1) _ (wG_repS w g)
    · rw [pif_F g]; exact w
theorem xcS_tr {c1 s1 c2 s2 : Nat} {A B C : zM} (h1 : zFr c1 s1 (xcS A) A B) (h13 : zI B 1 3 = zI A 1 3) (h2 : zFr c2 s2 (xcS B) B C) : zFr (c1 + c2) (s1 + s2) (xcS A) A C := by
  refine zFr_trans h1 h2 (fun a k ha hx => ?_)
  rcases hx with hx | hx | ⟨h, hh, ht⟩
  · exact Or.inl hx
  · exact Or.inr (Or.inl ⟨hx.1, by rw [← h13]; exact hx.2⟩)
  · refine Or.inr (Or.inr ⟨h, ?_, ht⟩)
    obtain ⟨⟨l, el, -⟩, -⟩ := h1
    rw [← z_hd_app el ha]; exact hh
theorem L_Pm (d : Nat) {r r' n : Nat} (i j l1 l4 : Int32) (hn : n ≤ 8) : ∀ (m k : Nat) (G : zG) (al : Nat → Nat) (A : zM) (ρ ρ' : Nat), k + m = n → cG G al A → wG G → r < gR G → r' < gR G → zP zQ A 2 r = ρ → zP zQ A 2 r' = ρ' → cRes m (1033 * m) A (mvF (zn r) i (zn r') j m k G) (z_denF zQ (d + 5) mP_move (64, [some (.ref 1), some (.int l1), some (.int i), some (.int (zn n)), some (.int l4), some (.int j), some (.ref ρ), some (.ref ρ'), some (.int (zn k)), some (.int (zn 0))], [], A))
  | 0, k, G, al, A, ρ, ρ', hk, h, w, hr, hr', hρ, hρ' => by
    rw [L_P_move_64]
    simp (disch := omega) only [z_bV_some, z_bI_some, z_bJ_some, z_bD_some, z_bR_some, cond_true, cond_false, Bool.and_true, Bool.true_and, Bool.not_false, Bool.not_true, Bool.and_self, Bool.or_true, Bool.false_or, Bool.true_or, zn_ok, zn_ok0, zn_N, zn_add, zn_mul, zn_sub, z_lt_T, z_lt_F, z_le_T, z_le_F, z_eq_T, z_ne_F, z_eq_F, z_ne_T, z_ix_T, z_lt_m, z_le_m, z_lt_m2, z_le_m2, z_eq_m, z_ne_m, zn_div, z_a31, zn_shl, zn_shr, z_bq_T, z_bq_F, z_bl_T]
    exact cRes_st h _ _
  | m + 1, k, G, al, A, ρ, ρ', hk, h, w, hr, hr', hρ, hρ' => by
    obtain ⟨q, q0, hz⟩ := cG_ro h w hr
    obtain ⟨q', q0', hz'⟩ := cG_ro h w hr'
    rw [hρ] at q
    rw [hρ'] at q'
    have e1 : z_den zQ (d + 4) mL_stripAt [.ref ρ, .int (i + zn k)] A = some (some (.ref (pif (sOk G (zn r) (i + zn k)) (al (pO G (zn r) (i + zn k))) 0)), A) := by
      rw [← hρ]
      by_cases g : sOk G (zn r) (i + zn k)
      · rw [pif_T g, E_L_sa_ok (d + 3) h w hr g]
      · rw [pif_F g, E_L_sa_no (d + 3) h w hr g]
    have e2 : z_den zQ (d + 4) mL_stripAt [.ref ρ', .int (j + zn k)] A = some (some (.ref (pif (sOk G (zn r') (j + zn k)) (al (pO G (zn r') (j + zn k))) 0)), A) := by
      rw [← hρ']
      by_cases g : sOk G (zn r') (j + zn k)
      · rw [pif_T g, E_L_sa_ok (d + 3) h w hr' g]
      · rw [pif_F g, E_L_sa_no (d + 3) h w hr' g]
    obtain ⟨A', t1, t2, t3, t4, t5⟩ := E_P_moveOne d (x := zn r) (y := i + zn k) (x' := zn r') (y' := j + zn k) h w
    unfold mvF
    by_cases g : hnF G (zn r) (i + zn k) (zn r') (j + zn k) = zn 0
    · rw [pif_T g]
      rw [pif_T g] at t2
      rw [g] at t1
      have ih := L_Pm d (r := r) (r' := r') i j l1 l4 hn m (k + 1) _ al A' ρ ρ' (by omega) t2 (wG_repS w g) hr hr' (by rw [t4]; exact hρ) (by rw [t4]; exact hρ')
      have hst : z_denF zQ (d + 5) mP_move (64, [some (.ref 1), some (.int l1), some (.int i), some (.int (zn n)), some (.int l4), some (.int j), some (.ref ρ), some (.ref ρ'), some (.int (zn k)), some (.int (zn 0))], [], A) = z_denF zQ (d + 5) mP_move (64, [some (.ref 1), some (.int l1), some (.int i), some (.int (zn n)), some (.int l4), some (.int j), some (.ref ρ), some (.ref ρ'), some (.int (zn (k + 1))), some (.int (zn 0))], [], A') := by
        rw [L_P_move_64]
        simp (disch := omega) only [z_bV_some, z_bI_some, z_bJ_some, z_bD_some, z_bR_some, cond_true, cond_false, Bool.and_true, Bool.true_and, Bool.not_false, Bool.not_true, Bool.and_self, Bool.or_true, Bool.false_or, Bool.true_or, zn_ok, zn_ok0, zn_N, zn_add, zn_mul, zn_sub, z_lt_T, z_lt_F, z_le_T, z_le_F, z_eq_T, z_ne_F, z_eq_F, z_ne_T, z_ix_T, z_lt_m, z_le_m, z_lt_m2, z_le_m2, z_eq_m, z_ne_m, zn_div, z_a31, zn_shl, zn_shr, z_bq_T, z_bq_F, z_bl_T, nL_0, nL_1, c8 q.1, c8 q'.1, e1, e2, t1]
      rw [hst]
      obtain ⟨A'', al', i1, i2, i3, i4⟩ := ih
      exact ⟨A'', al', i1, i2, i3, zFr_mono (xcS_tr t3 (t2.1.trans h.1.symm) i4) (by omega) (by omega) (fun _ _ h => h)⟩
    · rw [pif_F g]
      rw [pif_F g] at t2
      have hst : z_denF zQ (d + 5) mP_move (64, [some (.ref 1), some (.int l1), some (.int i), some (.int (zn n)), some (.int l4), some (.int j), some (.ref ρ), some (.ref ρ'), some (.int (zn k)), some (.int (zn 0))], [], A) = some (some (.int (zn k)), z_wI A' 1 7 (hnF G (zn r) (i + zn k) (zn r') (j + zn k))) := by
        have h2 : z_denF zQ (d + 5) mP_move (64, [some (.ref 1), some (.int l1), some (.int i), some (.int (zn n)), some (.int l4), some (.int j), some (.ref ρ), some (.ref ρ'), some (.int (zn k)), some (.int (hnF G (zn r) (i + zn k) (zn r') (j + zn k)))], [], A') = some (some (.int (zn k)), z_wI A' 1 7 (hnF G (zn r) (i + zn k) (zn r') (j + zn k))) := by
          rw [L_P_move_64, nL_0, z_le_F (by omega) (by omega), cond_false, z_ne_N g]; rfl
        rw [L_P_move_64]
        simp (disch := omega) only [z_bV_some, z_bI_some, z_bJ_some, z_bD_some, z_bR_some, cond_true, cond_false, Bool.and_true, Bool.true_and, Bool.not_false, Bool.not_true, Bool.and_self, Bool.or_true, Bool.false_or, Bool.true_or, zn_ok, zn_ok0, zn_N, zn_add, zn_mul, zn_sub, z_lt_T, z_lt_F, z_le_T, z_le_F, z_eq_T, z_ne_F, z_eq_F, z_ne_T, z_ix_T, z_lt_m, z_le_m, z_lt_m2, z_le_m2, z_eq_m, z_ne_m, zn_div, z_a31, zn_shl, zn_shr, z_bq_T, z_bq_F, z_bl_T, nL_0, nL_1, c8 q.1, c8 q'.1, e1, e2, t1, z_ne_N g, h2]
      rw [hst]
      obtain ⟨A'', al', i1, i2, i3, i4⟩ := cRes_st (c := 0) (s := 0) t2 (zn k) (hnF G (zn r) (i + zn k) (zn r') (j + zn k))
      cases i1
      exact ⟨_, al', rfl, i2, i3, zFr_mono (xcS_tr t3 (t2.1.trans h.1.symm) i4) (by omega) (by omega) (fun _ _ h => h)⟩
theorem P_move (d : Nat) {pl : Bool} {G : zG} {al : Nat → Nat} {A : zM} {x i n x' j : Int32} (h : cG G al A) (w : wG G) (hp : zI A 3 15 = bI pl) : cRes 8 8264 A (oMove pl G x i n x' j) (z_den zQ (d + 5) mP_move [.ref 1, .int x, .int i, .int n, .int x', .int j] A) := by
  unfold oMove
  rw [B_P_move]
  rcases rOk_c w x with g | ⟨r, hr, rfl⟩
  · rw [pif_F (fun q => g q.1), E_P_rollAt_no _ h w g]
    rcases rOk_c w x' with g' | ⟨r', hr', rfl⟩
    · rw [z_bR_some, E_P_rollAt_no _ h w g']
      simp (disch := omega) only [z_bV_some, z_bI_some, z_bJ_some, z_bD_some, z_bR_some, cond_true, cond_false, Bool.and_true, Bool.true_and, Bool.not_false, Bool.not_true, Bool.and_self, Bool.or_true, Bool.false_or, Bool.true_or, zn_ok, zn_ok0, zn_N, zn_add, zn_mul, zn_sub, z_lt_T, z_lt_F, z_le_T, z_le_F, z_eq_T, z_ne_F, z_eq_F, z_ne_T, z_ix_T, z_lt_m, z_le_m, z_lt_m2, z_le_m2, z_eq_m, z_ne_m, zn_div, z_a31, zn_shl, zn_shr, z_bq_T, z_bq_F, z_bl_T, B_P_refuse]
      exact cRes_st h _ _
    · rw [z_bR_some, E_P_ro _ h w hr']
      simp (disch := omega) only [z_bV_some, z_bI_some, z_bJ_some, z_bD_some, z_bR_some, cond_true, cond_false, Bool.and_true, Bool.true_and, Bool.not_false, Bool.not_true, Bool.and_self, Bool.or_true, Bool.false_or, Bool.true_or, zn_ok, zn_ok0, zn_N, zn_add, zn_mul, zn_sub, z_lt_T, z_lt_F, z_le_T, z_le_F, z_eq_T, z_ne_F, z_eq_F, z_ne_T, z_ix_T, z_lt_m, z_le_m, z_lt_m2, z_le_m2, z_eq_m, z_ne_m, zn_div, z_a31, zn_shl, zn_shr, z_bq_T, z_bq_F, z_bl_T, B_P_refuse]
      exact cRes_st h _ _
  have hR := w.1
  obtain ⟨q, q0, hz⟩ := cG_ro h w hr
  rw [E_P_ro _ h w hr, z_bR_some]
  rcases rOk_c w x' with g' | ⟨r', hr', rfl⟩
  · rw [pif_F (fun q => g' q.2.1), E_P_rollAt_no _ h w g']
    simp (disch := omega) only [z_bV_some, z_bI_some, z_bJ_some, z_bD_some, z_bR_some, cond_true, cond_false, Bool.and_true, Bool.true_and, Bool.not_false, Bool.not_true, Bool.and_self, Bool.or_true, Bool.false_or, Bool.true_or, zn_ok, zn_ok0, zn_N, zn_add, zn_mul, zn_sub, z_lt_T, z_lt_F, z_le_T, z_le_F, z_eq_T, z_ne_F, z_eq_F, z_ne_T, z_ix_T, z_lt_m, z_le_m, z_lt_m2, z_le_m2, z_eq_m, z_ne_m, zn_div, z_a31, zn_shl, zn_shr, z_bq_T, z_bq_F, z_bl_T, B_P_refuse]
    exact cRes_st h _ _
  obtain ⟨q', q0', hz'⟩ := cG_ro h w hr'
  rw [E_P_ro _ h w hr', z_bR_some]
  rcases zn_cases n with hn | ⟨N, hN, rfl⟩
  · rw [pif_F (fun q => by omega)]
    simp (disch := omega) only [z_bV_some, z_bI_some, z_bJ_some, z_bD_some, z_bR_some, cond_true, cond_false, Bool.and_true, Bool.true_and, Bool.not_false, Bool.not_true, Bool.and_self, Bool.or_true, Bool.false_or, Bool.true_or, zn_ok, zn_ok0, zn_N, zn_add, zn_mul, zn_sub, z_lt_T, z_lt_F, z_le_T, z_le_F, z_eq_T, z_ne_F, z_eq_F, z_ne_T, z_ix_T, z_lt_m, z_le_m, z_lt_m2, z_le_m2, z_eq_m, z_ne_m, zn_div, z_a31, zn_shl, zn_shr, z_bq_T, z_bq_F, z_bl_T, nL_0, B_P_refuse]
    exact cRes_st h _ _
  have tN' := zn_toInt hN
  by_cases gN' : 8 < N
  · rw [pif_F (fun q => by omega)]
    simp (disch := omega) only [z_bV_some, z_bI_some, z_bJ_some, z_bD_some, z_bR_some, cond_true, cond_false, Bool.and_true, Bool.true_and, Bool.not_false, Bool.not_true, Bool.and_self, Bool.or_true, Bool.false_or, Bool.true_or, zn_ok, zn_ok0, zn_N, zn_add, zn_mul, zn_sub, z_lt_T, z_lt_F, z_le_T, z_le_F, z_eq_T, z_ne_F, z_eq_F, z_ne_T, z_ix_T, z_lt_m, z_le_m, z_lt_m2, z_le_m2, z_eq_m, z_ne_m, zn_div, z_a31, zn_shl, zn_shr, z_bq_T, z_bq_F, z_bl_T, nL_0, nL_8, B_P_refuse]
    exact cRes_st h _ _
  rw [pif_T ⟨rOk_nat w hr, rOk_nat w hr', by omega⟩, zn_N hN]
  by_cases g2 : pl = true
  · rw [if_pos g2]
    simp (disch := omega) only [z_bV_some, z_bI_some, z_bJ_some, z_bD_some, z_bR_some, cond_true, cond_false, Bool.and_true, Bool.true_and, Bool.not_false, Bool.not_true, Bool.and_self, Bool.or_true, Bool.false_or, Bool.true_or, zn_ok, zn_ok0, zn_N, zn_add, zn_mul, zn_sub, z_lt_T, z_lt_F, z_le_T, z_le_F, z_eq_T, z_ne_F, z_eq_F, z_ne_T, z_ix_T, z_lt_m, z_le_m, z_lt_m2, z_le_m2, z_eq_m, z_ne_m, zn_div, z_a31, zn_shl, zn_shr, z_bq_T, z_bq_F, z_bl_T, nL_0, nL_8, hp, pl_T g2, B_P_refuse]
    exact cRes_st h _ _
  rw [if_neg g2]
  have e := L_Pm d (r := r) (r' := r') (n := N) i j (zn r) (zn r') (by omega) N 0 G al A _ _ (by omega) h w hr hr' rfl rfl
  simp (disch := omega) only [z_bV_some, z_bI_some, z_bJ_some, z_bD_some, z_bR_some, cond_true, cond_false, Bool.and_true, Bool.true_and, Bool.not_false, Bool.not_true, Bool.and_self, Bool.or_true, Bool.false_or, Bool.true_or, zn_ok, zn_ok0, zn_N, zn_add, zn_mul, zn_sub, z_lt_T, z_lt_F, z_le_T, z_le_F, z_eq_T, z_ne_F, z_eq_F, z_ne_T, z_ix_T, z_lt_m, z_le_m, z_lt_m2, z_le_m2, z_eq_m, z_ne_m, zn_div, z_a31, zn_shl, zn_shr, z_bq_T, z_bq_F, z_bl_T, nL_0, nL_8, hp, pl_F g2]
  exact cRes_mono e (by omega) (by omega)
/-- the reference -/
theorem E_Q_hinders (d : Nat) {G : zG} {B : zM} {x y x' y' : Int32} (h : rG G B) (w : wG G) : z_den zQ (d + 4) mQ_hinders [.ref 15, .int x, .int y, .int x', .int y'] B = some (some (.int (hnF G x y x' y')), B) := by
  rw [B_Q_hinders]
  unfold hnF
  by_cases g1 : sOk G x y
  · by_cases g2 : sOk G x' y'
    · obtain ⟨p1, p2, p3, p4⟩ := rG_at h w g1
      obtain ⟨v1, v2, v3, v4⟩ := rG_at h w g2
      have e1 := E_Q_poolOf (d + 2) h w g1
      have e2 := E_Q_poolOf (d + 2) h w g2
      have b1 := p4.1
      have b2 := v4.1
      have hE : tS (sA G x' y') ≤ gE G := gE_ge w v1
      have hEm := w.2.2.2.2.2.2
      have s1 := p4.2.2.2.2.1
      rw [pif_T ⟨g1, g2⟩]
      by_cases g3 : tL (sA G x y) = true
      · rw [if_pos (Or.inl g3)]
        simp (disch := omega) only [z_bV_some, z_bI_some, z_bJ_some, z_bD_some, z_bR_some, cond_true, cond_false, Bool.and_true, Bool.true_and, Bool.not_false, Bool.not_true, Bool.and_self, Bool.or_true, Bool.false_or, Bool.true_or, zn_ok, zn_ok0, zn_N, zn_add, zn_mul, zn_sub, z_lt_T, z_lt_F, z_le_T, z_le_F, z_eq_T, z_ne_F, z_eq_F, z_ne_T, z_ix_T, z_lt_m, z_le_m, z_lt_m2, z_le_m2, z_eq_m, z_ne_m, zn_div, z_a31, zn_shl, zn_shr, z_bq_T, z_bq_F, z_bl_T, nL_0, nL_1, E_Q_isStrip_ok d h w g1, E_Q_isStrip_ok d h w g2, e1, e2, p3.2.2.2.1, pl_T' g3]
      by_cases g4 : tL (sA G x' y') = true
      · rw [if_pos (Or.inr g4)]
        simp (disch := omega) only [z_bV_some, z_bI_some, z_bJ_some, z_bD_some, z_bR_some, cond_true, cond_false, Bool.and_true, Bool.true_and, Bool.not_false, Bool.not_true, Bool.and_self, Bool.or_true, Bool.false_or, Bool.true_or, zn_ok, zn_ok0, zn_N, zn_add, zn_mul, zn_sub, z_lt_T, z_lt_F, z_le_T, z_le_F, z_eq_T, z_ne_F, z_eq_F, z_ne_T, z_ix_T, z_lt_m, z_le_m, z_lt_m2, z_le_m2, z_eq_m, z_ne_m, zn_div, z_a31, zn_shl, zn_shr, z_bq_T, z_bq_F, z_bl_T, nL_0, nL_1, E_Q_isStrip_ok d h w g1, E_Q_isStrip_ok d h w g2, e1, e2, p3.2.2.2.1, pl_F' g3, v3.2.2.2.1, pl_T g4]
      rw [if_neg (fun q => q.elim g3 g4)]
      by_cases g5 : tK (sA G x y) = tK (sA G x' y')
      · have q5 : z_eq (zn (tK (sA G x y))) (zn (tK (sA G x' y'))) = true := by rw [g5]; exact z_eq_T _
        rw [if_neg (fun q => q g5)]
        by_cases g6 : 8000 < gE G + tS (sA G x y) - tS (sA G x' y')
        · rw [if_pos g6]
          have z1 : z_le (zn (gE G) - zn (tS (sA G x' y')) + zn (tS (sA G x y))) (zn 8000) = false := by rw [zn_sa hE]; exact z_le_F g6 (by omega)
          simp (disch := omega) only [z_bI_some, cond_true, cond_false, z_eq_F, z_ne_T, z_ix_T, zn_N, nL_0, nL_1, nL_8000, E_Q_isStrip_ok d h w g1, E_Q_isStrip_ok d h w g2, e1, e2, p3.2.2.2.1, pl_F' g3, v3.2.2.2.1, pl_F g4, p3.1, v3.1, q5, h.2.2.1, p3.2.2.2.2.2.1, v3.2.2.2.2.2.1, z1]
        · rw [if_neg g6]
          have z1 : z_le (zn (gE G) - zn (tS (sA G x' y')) + zn (tS (sA G x y))) (zn 8000) = true := by rw [zn_sa hE]; exact z_le_T (by omega) (by omega)
          simp (disch := omega) only [z_bI_some, cond_true, cond_false, z_eq_F, z_ne_T, z_ix_T, zn_N, nL_0, nL_1, nL_8000, E_Q_isStrip_ok d h w g1, E_Q_isStrip_ok d h w g2, e1, e2, p3.2.2.2.1, pl_F' g3, v3.2.2.2.1, pl_F g4, p3.1, v3.1, q5, h.2.2.1, p3.2.2.2.2.2.1, v3.2.2.2.2.2.1, z1]
      · rw [if_pos g5]
        simp (disch := omega) only [z_bV_some, z_bI_some, z_bJ_some, z_bD_some, z_bR_some, cond_true, cond_false, Bool.and_true, Bool.true_and, Bool.not_false, Bool.not_true, Bool.and_self, Bool.or_true, Bool.false_or, Bool.true_or, zn_ok, zn_ok0, zn_N, zn_add, zn_mul, zn_sub, z_lt_T, z_lt_F, z_le_T, z_le_F, z_eq_T, z_ne_F, z_eq_F, z_ne_T, z_ix_T, z_lt_m, z_le_m, z_lt_m2, z_le_m2, z_eq_m, z_ne_m, zn_div, z_a31, zn_shl, zn_shr, z_bq_T, z_bq_F, z_bl_T, nL_0, nL_1, nL_5, E_Q_isStrip_ok d h w g1, E_Q_isStrip_ok d h w g2, e1, e2, p3.2.2.2.1, pl_F' g3, v3.2.2.2.1, pl_F g4, p3.1, v3.1]
    · rw [pif_F (fun q => g2 q.2)]
      simp (disch := omega) only [z_bV_some, z_bI_some, z_bJ_some, z_bD_some, z_bR_some, cond_true, cond_false, Bool.and_true, Bool.true_and, Bool.not_false, Bool.not_true, Bool.and_self, Bool.or_true, Bool.false_or, Bool.true_or, zn_ok, zn_ok0, zn_N, zn_add, zn_mul, zn_sub, z_lt_T, z_lt_F, z_le_T, z_le_F, z_eq_T, z_ne_F, z_eq_F, z_ne_T, z_ix_T, z_lt_m, z_le_m, z_lt_m2, z_le_m2, z_eq_m, z_ne_m, zn_div, z_a31, zn_shl, zn_shr, z_bq_T, z_bq_F, z_bl_T, nL_0, nL_2, E_Q_isStrip_ok d h w g1, E_Q_isStrip_no d h w g2]
  · rw [pif_F (fun q => g1 q.1)]
    simp (disch := omega) only [z_bV_some, z_bI_some, z_bJ_some, z_bD_some, z_bR_some, cond_true, cond_false, Bool.and_true, Bool.true_and, Bool.not_false, Bool.not_true, Bool.and_self, Bool.or_true, Bool.false_or, Bool.true_or, zn_ok, zn_ok0, zn_N, zn_add, zn_mul, zn_sub, z_lt_T, z_lt_F, z_le_T, z_le_F, z_eq_T, z_ne_F, z_eq_F, z_ne_T, z_ix_T, z_lt_m, z_le_m, z_lt_m2, z_le_m2, z_eq_m, z_ne_m, zn_div, z_a31, zn_shl, zn_shr, z_bq_T, z_bq_F, z_bl_T, nL_0, nL_2, E_Q_isStrip_no d h w g1]
theorem E_Q_repC (d : Nat) {G : zG} {B : zM} {p q : Nat} (h : rG G B) (w : wG G) (hp : p < gN G) (hq : q < gN G) : ∃ B', z_den zQ (d + 1) mQ_copies [.ref 15, .int (zn p), .int (zn q)] B = some (none, B') ∧ rG (repG G p q) B' ∧ zFr 0 0 (xE p) B B' := by
  have h4 := w.2.1
  have hE := gE_ge w hp
  have s2 := (w.2.2.2.2.1 q hq).2.2.2.2.1
  obtain ⟨B', b1, b2, b3, b4⟩ := E_Q_copies d p q B _ _ (by omega) (by omega) (h.2.2.2.2.2.2.1 p hp) (h.2.2.2.2.2.2.1 q hq) s2 (fun e => by rw [e])
  refine ⟨B', b1, rG_upd h hp h4 (zFr_mono b3 (Nat.le_refl _) (Nat.le_refl _) (fun a k q => ?_)) b2 ?_, b3⟩
  · rcases q with q | q
    · exact Or.inl q
    · exact Or.inr ⟨q.1, Or.inl q.2⟩
  · rw [b4, h.2.2.1, zn_as (by omega)]
theorem xE_xrS (p : Nat) : ∀ a k, xE p a k → xrS a k := fun a k h => by unfold xE inR at h; unfold xrS; omega
theorem L_Qm (d : Nat) {r r' n : Nat} (i j : Int32) (hn : n ≤ 8) : ∀ (m k : Nat) (G : zG) (B : zM) (o : Option Value), k + m = n → rG G B → wG G → r < gR G → r' < gR G → zI B 15 0 = zn 0 → rRes B (mvF (zn r) i (zn r') j m k G) (z_denF zQ (d + 5) mQ_move (55, [some (.ref 15), some (.int (zn r)), some (.int i), some (.int (zn n)), some (.int (zn r')), some (.int j), some (.int (zn k)), o], [], B))
  | 0, k, G, B, o, hk, h, w, hr, hr', h0 => by
    have : k = n := by omega
    subst this
    rw [L_Q_move_55]
    simp (disch := omega) only [z_bV_some, z_bI_some, z_bJ_some, z_bD_some, z_bR_some, cond_true, cond_false, Bool.and_true, Bool.true_and, Bool.not_false, Bool.not_true, Bool.and_self, Bool.or_true, Bool.false_or, Bool.true_or, zn_ok, zn_ok0, zn_N, zn_add, zn_mul, zn_sub, z_lt_T, z_lt_F, z_le_T, z_le_F, z_eq_T, z_ne_F, z_eq_F, z_ne_T, z_ix_T, z_lt_m, z_le_m, z_lt_m2, z_le_m2, z_eq_m, z_ne_m, zn_div, z_a31, zn_shl, zn_shr, z_bq_T, z_bq_F, z_bl_T]
    exact ⟨B, rfl, h, h0, zFr_refl _ _⟩
  | m + 1, k, G, B, o, hk, h, w, hr, hr', h0 => by
    have e1 := E_Q_hinders d (x := zn r) (y := i + zn k) (x' := zn r') (y' := j + zn k) h w
    unfold mvF
    by_cases g : hnF G (zn r) (i + zn k) (zn r') (j + zn k) = zn 0
    · obtain ⟨h1, h2, -⟩ := hn_ok g
      have e2 := E_Q_poolOf (d + 3) h w h1
      have e3 := E_Q_poolOf (d + 3) h w h2
      obtain ⟨B', b1, b2, b3⟩ := E_Q_repC (d + 3) h w (sOk_p w h2) (sOk_p w h1)
      have b2 : rG (repS G (zn r) (i + zn k) (zn r') (j + zn k)) B' := b2
      rw [pif_T g]
      rw [g] at e1
      have ih := L_Qm d (r := r) (r' := r') i j hn m (k + 1) _ B' (some (.int (zn 0))) (by omega) b2 (wG_repS w g) hr hr' (by rw [zFr_I b3 _ (by have := z_new_ge B; omega) (by unfold xE inR; omega)]; exact h0)
      have hst : z_denF zQ (d + 5) mQ_move (55, [some (.ref 15), some (.int (zn r)), some (.int i), some (.int (zn n)), some (.int (zn r')), some (.int j), some (.int (zn k)), o], [], B) = z_denF zQ (d + 5) mQ_move (55, [some (.ref 15), some (.int (zn r)), some (.int i), some (.int (zn n)), some (.int (zn r')), some (.int j), some (.int (zn (k + 1))), some (.int (zn 0))], [], B') := by
        rw [L_Q_move_55]
        simp (disch := omega) only [z_bV_some, z_bI_some, z_bJ_some, z_bD_some, z_bR_some, cond_true, cond_false, Bool.and_true, Bool.true_and, Bool.not_false, Bool.not_true, Bool.and_self, Bool.or_true, Bool.false_or, Bool.true_or, zn_ok, zn_ok0, zn_N, zn_add, zn_mul, zn_sub, z_lt_T, z_lt_F, z_le_T, z_le_F, z_eq_T, z_ne_F, z_eq_F, z_ne_T, z_ix_T, z_lt_m, z_le_m, z_lt_m2, z_le_m2, z_eq_m, z_ne_m, zn_div, z_a31, zn_shl, zn_shr, z_bq_T, z_bq_F, z_bl_T, nL_0, nL_1, e1, e2, e3, b1]
      rw [hst]
      obtain ⟨B'', i1, i2, i3, i4⟩ := ih
      exact ⟨B'', i1, i2, i3, zFr_trans (zFr_mono b3 (Nat.le_refl _) (Nat.le_refl _) (xE_xrS _)) i4 (fun _ _ _ h => h)⟩
    · rw [pif_F g]
      rw [L_Q_move_55]
      simp (disch := omega) only [z_bV_some, z_bI_some, z_bJ_some, z_bD_some, z_bR_some, cond_true, cond_false, Bool.and_true, Bool.true_and, Bool.not_false, Bool.not_true, Bool.and_self, Bool.or_true, Bool.false_or, Bool.true_or, zn_ok, zn_ok0, zn_N, zn_add, zn_mul, zn_sub, z_lt_T, z_lt_F, z_le_T, z_le_F, z_eq_T, z_ne_F, z_eq_F, z_ne_T, z_ix_T, z_lt_m, z_le_m, z_lt_m2, z_le_m2, z_eq_m, z_ne_m, zn_div, z_a31, zn_shl, zn_shr, z_bq_T, z_bq_F, z_bl_T, nL_0, nL_1, e1, z_eq_N g]
      exact rRes_st h _ _
theorem Q_move (d : Nat) {pl : Bool} {G : zG} {B : zM} {x i n x' j : Int32} (h : rG G B) (w : wG G) (hp : zI B 15 36 = bI pl) : rRes B (oMove pl G x i n x' j) (z_den zQ (d + 5) mQ_move [.ref 15, .int x, .int i, .int n, .int x', .int j] B) := by
  unfold oMove
  rw [B_Q_move]
  rcases rOk_c w x with g | ⟨r, hr, rfl⟩
  · rw [pif_F (fun q => g q.1), E_Q_isRoll_no _ h w g]
    simp (disch := omega) only [z_bV_some, z_bI_some, z_bJ_some, z_bD_some, z_bR_some, cond_true, cond_false, Bool.and_true, Bool.true_and, Bool.not_false, Bool.not_true, Bool.and_self, Bool.or_true, Bool.false_or, Bool.true_or, zn_ok, zn_ok0, zn_N, zn_add, zn_mul, zn_sub, z_lt_T, z_lt_F, z_le_T, z_le_F, z_eq_T, z_ne_F, z_eq_F, z_ne_T, z_ix_T, z_lt_m, z_le_m, z_lt_m2, z_le_m2, z_eq_m, z_ne_m, zn_div, z_a31, zn_shl, zn_shr, z_bq_T, z_bq_F, z_bl_T, nL_0, B_Q_no]
    exact rRes_st h _ _
  have hR := w.1
  rw [E_Q_isRoll_ok _ h w (rOk_nat w hr)]
  rcases rOk_c w x' with g' | ⟨r', hr', rfl⟩
  · rw [pif_F (fun q => g' q.2.1)]
    simp (disch := omega) only [z_bV_some, z_bI_some, z_bJ_some, z_bD_some, z_bR_some, cond_true, cond_false, Bool.and_true, Bool.true_and, Bool.not_false, Bool.not_true, Bool.and_self, Bool.or_true, Bool.false_or, Bool.true_or, zn_ok, zn_ok0, zn_N, zn_add, zn_mul, zn_sub, z_lt_T, z_lt_F, z_le_T, z_le_F, z_eq_T, z_ne_F, z_eq_F, z_ne_T, z_ix_T, z_lt_m, z_le_m, z_lt_m2, z_le_m2, z_eq_m, z_ne_m, zn_div, z_a31, zn_shl, zn_shr, z_bq_T, z_bq_F, z_bl_T, nL_0, E_Q_isRoll_no _ h w g', B_Q_no]
    exact rRes_st h _ _
  have er' := E_Q_isRoll_ok (d + 2) h w (rOk_nat w hr')
  by_cases gN' : 0 ≤ n.toInt ∧ n.toInt ≤ 8
  rotate_left
  · rw [pif_F (fun q => gN' q.2.2)]
    have ew := Q_within_F (d := d + 3) (x := n) (a := 0) (n := 8) (M := B) (by omega) (by omega) gN'
    simp (disch := omega) only [z_bV_some, z_bI_some, z_bJ_some, z_bD_some, z_bR_some, cond_true, cond_false, Bool.and_true, Bool.true_and, Bool.not_false, Bool.not_true, Bool.and_self, Bool.or_true, Bool.false_or, Bool.true_or, zn_ok, zn_ok0, zn_N, zn_add, zn_mul, zn_sub, z_lt_T, z_lt_F, z_le_T, z_le_F, z_eq_T, z_ne_F, z_eq_F, z_ne_T, z_ix_T, z_lt_m, z_le_m, z_lt_m2, z_le_m2, z_eq_m, z_ne_m, zn_div, z_a31, zn_shl, zn_shr, z_bq_T, z_bq_F, z_bl_T, nL_0, nL_8, er', ew, B_Q_no]
    exact rRes_st h _ _
  have ew := Q_within_T (d := d + 3) (x := n) (a := 0) (n := 8) (M := B) (by omega) (by omega) gN'
  rw [pif_T ⟨rOk_nat w hr, rOk_nat w hr', gN'⟩]
  obtain ⟨N, hN, rfl⟩ := zn_ex gN'.1
  rw [zn_toInt hN] at gN'
  rw [zn_N hN]
  by_cases g2 : pl = true
  · rw [if_pos g2]
    simp (disch := omega) only [z_bV_some, z_bI_some, z_bJ_some, z_bD_some, z_bR_some, cond_true, cond_false, Bool.and_true, Bool.true_and, Bool.not_false, Bool.not_true, Bool.and_self, Bool.or_true, Bool.false_or, Bool.true_or, zn_ok, zn_ok0, zn_N, zn_add, zn_mul, zn_sub, z_lt_T, z_lt_F, z_le_T, z_le_F, z_eq_T, z_ne_F, z_eq_F, z_ne_T, z_ix_T, z_lt_m, z_le_m, z_lt_m2, z_le_m2, z_eq_m, z_ne_m, zn_div, z_a31, zn_shl, zn_shr, z_bq_T, z_bq_F, z_bl_T, nL_0, nL_8, er', ew, hp, pl_T g2, B_Q_no]
    exact rRes_st h _ _
  rw [if_neg g2]
  have e := L_Qm d (r := r) (r' := r') (n := N) i j (by omega) N 0 G _ none (by omega) (rG_st h (zn 0)) w hr hr' (zI_wI_s _ _ _ _)
  have e : rRes (z_wI B 15 0 (zn 0)) (mvF (zn r) i (zn r') j N 0 G) (z_denF zQ (d + 4 + 1) mQ_move _) := e
  simp (disch := omega) only [z_bV_some, z_bI_some, z_bJ_some, z_bD_some, z_bR_some, cond_true, cond_false, Bool.and_true, Bool.true_and, Bool.not_false, Bool.not_true, Bool.and_self, Bool.or_true, Bool.false_or, Bool.true_or, zn_ok, zn_ok0, zn_N, zn_add, zn_mul, zn_sub, z_lt_T, z_lt_F, z_le_T, z_le_F, z_eq_T, z_ne_F, z_eq_F, z_ne_T, z_ix_T, z_lt_m, z_le_m, z_lt_m2, z_le_m2, z_eq_m, z_ne_m, zn_div, z_a31, zn_shl, zn_shr, z_bq_T, z_bq_F, z_bl_T, nL_0, nL_8, er', ew, hp, pl_F g2]
  obtain ⟨B'', i1, i2, i3, i4⟩ := e
  exact ⟨B'', i1, i2, i3, zFr_trans (zFr_wI (X := xrS) (Or.inl ⟨rfl, by omega⟩)) i4 (fun _ _ _ h => h)⟩
