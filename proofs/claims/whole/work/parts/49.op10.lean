/-! S LEVEL, acts: strip. -/
theorem E_mkStrip (d r K N U n : Nat) {G : zG} {al : Nat → Nat} {A : zM} (h : cG G al A) (w : wG G) (hr : r < gR G) (hK : K ≤ 3) (hN : N ≤ 30000) (hU : U ≤ 256) (hn : n ≤ 256) (h4 : gN G < 400) : ∃ A1 A2, z_den zQ (d + 2) mS_init [.ref (z_new zQ A), .int (zn K), .int (zn N), .int (zn U), .int (zn n)] (z_nw zQ A (9, 7)) = some (none, A1) ∧ z_hd zQ (z_nw zQ A (9, 7)) (z_new zQ A) = some (9, 7) ∧ z_hd zQ A1 (z_new zQ A) = some (9, 7) ∧ z_den zQ (d + 2) mS_writeHead [.ref (z_new zQ A)] A1 = some (none, A2) ∧ cRo A2 (zP zQ A 2 r) (gZ G r) ∧ z_hd zQ A2 (z_new zQ A) = some (9, 7) ∧ zFr 2 1040 xN A A2 ∧ cK (gR G) (fun r' => if r' = r then gZ G r + 1 else gZ G r') (fun r' s => s < (if r' = r then gZ G r + 1 else gZ G r')) (fun r' s => if r' = r ∧ s = gZ G r then gN G else gO G r' s) (gN G + 1) (fun p => if p = gN G then sealT (newT K N U n) else gT G p) (fun p => if p = gN G then z_new zQ A else al p) (z_wI (z_wP A2 (zP zQ A2 (zP zQ A 2 r) 0) (gZ G r) (z_new zQ A)) (zP zQ A 2 r) 1 (zn (gZ G r + 1))) := by
  have g56 := z_new_ge A
  have f0 := zFr_nw xN A (9, 7)
  have hn0 : z_hd zQ (z_nw zQ A (9, 7)) (z_new zQ A) = some (9, 7) := z_hd_nw_s _ _
  have hA0n : z_new zQ (z_nw zQ A (9, 7)) = z_new zQ A + 1 := z_new_nw _ _ _
  obtain ⟨A1, i1, i2, i3, i4⟩ := E_S_init d (z_new zQ A) K N U n _ hn0 hK hN hU hn
  have hwn := wT_new hK hN hU hn
  obtain ⟨A2, w1, w2, w3, w4⟩ := E_S_writeHead d (z_new zQ A) A1 _ i2 hwn
  have r1 := zFr_trans (zFr_trans f0 i3 (fun x _ hx e => by have e : x = z_new zQ A := e; omega)) w3 (fun x _ hx e => by
    rcases e with e | e
    · omega
    · have := e.1; omega)
  have r1 : zFr 2 1040 xN A A2 := zFr_mono r1 (by omega) (by omega) (fun _ _ h => h)
  have hro := h.2.2.2.1 r hr
  have p2 : zP zQ A2 2 r = zP zQ A 2 r := zFr_P r1 _ (by omega) (fun q => q)
  have hro2 := (cRo_fr r1 hro (fun _ q => q)).1
  have k0 := ((cG_iff G al A).mp h).2.2.2
  have k1 := cK_add r1 k0 (Nat.le_refl _) w2 (by omega) (fun r s hr hs => w.2.2.2.1 r s hr hs)
  have k2 := cK_set (s := gZ G r) (p := gN G) k1 hr
  have k3 := cK_cnt (n := gZ G r + 1) k2 hr
  rw [if_pos rfl, zP_wP_a (by have := hd_lt56 hro2.2.1 (by omega); rw [p2]; omega), p2] at k3
  refine ⟨A1, A2, i1, hn0, i2.1, w1, hro2, w2.1, r1, cK_D k3 (fun r' hr' => rfl) (fun r' s hr' hd => ?_) (fun p hp => rfl)⟩
  refine ⟨?_, rfl⟩
  by_cases e : r' = r
  · rw [if_pos e] at hd
    by_cases e2 : s = gZ G r
    · exact Or.inr ⟨e, e2⟩
    · exact Or.inl (by rw [e]; omega)
  · rw [if_neg e] at hd
    exact Or.inl hd
theorem P_strip (d : Nat) {pl : Bool} {G : zG} {al : Nat → Nat} {A : zM} {x k m n t : Int32} (h : cG G al A) (w : wG G) (hp : zI A 3 15 = bI pl) : cRes 2 1040 A (oStrip pl G x k m n t) (z_den zQ (d + 3) mP_strip [.ref 1, .int x, .int k, .int m, .int n, .int t] A) := by
  unfold oStrip
  rw [B_P_strip]
  rcases rOk_c w x with g | ⟨r, hr, rfl⟩
  · rw [pif_F (fun q => g q.1), E_P_rollAt_no _ h w g]
    simp (disch := omega) only [z_bV_some, z_bI_some, z_bJ_some, z_bD_some, z_bR_some, cond_true, cond_false, Bool.and_true, Bool.true_and, Bool.not_false, Bool.not_true, Bool.and_self, Bool.or_true, Bool.false_or, Bool.true_or, zn_ok, zn_ok0, zn_N, zn_add, zn_mul, zn_sub, z_lt_T, z_lt_F, z_le_T, z_le_F, z_eq_T, z_ne_F, z_eq_F, z_ne_T, z_ix_T, z_lt_m, z_le_m, z_lt_m2, z_le_m2, z_eq_m, z_ne_m, zn_div, z_a31, zn_shl, zn_shr, z_bq_T, z_bq_F, z_bl_T, B_P_refuse]
    exact cRes_st h _ _
  have hR := w.1
  obtain ⟨q, q0, hz⟩ := cG_ro h w hr
  rw [E_P_ro _ h w hr]
  have t0 : (zn 0).toInt = 0 := zn_toInt (by omega)
  rcases zn_cases k with hk | ⟨K, hK, rfl⟩
  · rw [pif_F (fun q => by omega)]
    simp (disch := omega) only [z_bV_some, z_bI_some, z_bJ_some, z_bD_some, z_bR_some, cond_true, cond_false, Bool.and_true, Bool.true_and, Bool.not_false, Bool.not_true, Bool.and_self, Bool.or_true, Bool.false_or, Bool.true_or, zn_ok, zn_ok0, zn_N, zn_add, zn_mul, zn_sub, z_lt_T, z_lt_F, z_le_T, z_le_F, z_eq_T, z_ne_F, z_eq_F, z_ne_T, z_ix_T, z_lt_m, z_le_m, z_lt_m2, z_le_m2, z_eq_m, z_ne_m, zn_div, z_a31, zn_shl, zn_shr, z_bq_T, z_bq_F, z_bl_T, nL_0, B_P_refuse]
    exact cRes_st h _ _
  have tK' := zn_toInt hK
  by_cases gK : 3 < K
  · rw [pif_F (fun q => by omega)]
    simp (disch := omega) only [z_bV_some, z_bI_some, z_bJ_some, z_bD_some, z_bR_some, cond_true, cond_false, Bool.and_true, Bool.true_and, Bool.not_false, Bool.not_true, Bool.and_self, Bool.or_true, Bool.false_or, Bool.true_or, zn_ok, zn_ok0, zn_N, zn_add, zn_mul, zn_sub, z_lt_T, z_lt_F, z_le_T, z_le_F, z_eq_T, z_ne_F, z_eq_F, z_ne_T, z_ix_T, z_lt_m, z_le_m, z_lt_m2, z_le_m2, z_eq_m, z_ne_m, zn_div, z_a31, zn_shl, zn_shr, z_bq_T, z_bq_F, z_bl_T, nL_0, nL_3, B_P_refuse]
    exact cRes_st h _ _
  rcases zn_cases m with hm | ⟨N, hN, rfl⟩
  · rw [pif_F (fun q => by omega)]
    simp (disch := omega) only [z_bV_some, z_bI_some, z_bJ_some, z_bD_some, z_bR_some, cond_true, cond_false, Bool.and_true, Bool.true_and, Bool.not_false, Bool.not_true, Bool.and_self, Bool.or_true, Bool.false_or, Bool.true_or, zn_ok, zn_ok0, zn_N, zn_add, zn_mul, zn_sub, z_lt_T, z_lt_F, z_le_T, z_le_F, z_eq_T, z_ne_F, z_eq_F, z_ne_T, z_ix_T, z_lt_m, z_le_m, z_lt_m2, z_le_m2, z_eq_m, z_ne_m, zn_div, z_a31, zn_shl, zn_shr, z_bq_T, z_bq_F, z_bl_T, nL_0, nL_3, B_P_refuse]
    exact cRes_st h _ _
  have tN' := zn_toInt hN
  by_cases gN' : 30000 < N
  · rw [pif_F (fun q => by omega)]
    simp (disch := omega) only [z_bV_some, z_bI_some, z_bJ_some, z_bD_some, z_bR_some, cond_true, cond_false, Bool.and_true, Bool.true_and, Bool.not_false, Bool.not_true, Bool.and_self, Bool.or_true, Bool.false_or, Bool.true_or, zn_ok, zn_ok0, zn_N, zn_add, zn_mul, zn_sub, z_lt_T, z_lt_F, z_le_T, z_le_F, z_eq_T, z_ne_F, z_eq_F, z_ne_T, z_ix_T, z_lt_m, z_le_m, z_lt_m2, z_le_m2, z_eq_m, z_ne_m, zn_div, z_a31, zn_shl, zn_shr, z_bq_T, z_bq_F, z_bl_T, nL_0, nL_3, nL_30000, B_P_refuse]
    exact cRes_st h _ _
  by_cases gn : 256 < n.toInt
  · rw [pif_F (fun q => by omega)]
    have z1 : z_le n (zn 256) = false := z_le_ff (by rw [zn_toInt (by omega)]; omega)
    simp (disch := omega) only [z_bV_some, z_bI_some, z_bJ_some, z_bD_some, z_bR_some, cond_true, cond_false, Bool.and_true, Bool.true_and, Bool.not_false, Bool.not_true, Bool.and_self, Bool.or_true, Bool.false_or, Bool.true_or, zn_ok, zn_ok0, zn_N, zn_add, zn_mul, zn_sub, z_lt_T, z_lt_F, z_le_T, z_le_F, z_eq_T, z_ne_F, z_eq_F, z_ne_T, z_ix_T, z_lt_m, z_le_m, z_lt_m2, z_le_m2, z_eq_m, z_ne_m, zn_div, z_a31, zn_shl, zn_shr, z_bq_T, z_bq_F, z_bl_T, nL_0, nL_3, nL_30000, nL_256, z1, B_P_refuse]
    exact cRes_st h _ _
  have z1 : z_le n (zn 256) = true := z_le_tt (by rw [zn_toInt (by omega)]; omega)
  rcases zn_cases t with ht | ⟨U, hU, rfl⟩
  · rw [pif_F (fun q => by omega)]
    simp (disch := omega) only [z_bV_some, z_bI_some, z_bJ_some, z_bD_some, z_bR_some, cond_true, cond_false, Bool.and_true, Bool.true_and, Bool.not_false, Bool.not_true, Bool.and_self, Bool.or_true, Bool.false_or, Bool.true_or, zn_ok, zn_ok0, zn_N, zn_add, zn_mul, zn_sub, z_lt_T, z_lt_F, z_le_T, z_le_F, z_eq_T, z_ne_F, z_eq_F, z_ne_T, z_ix_T, z_lt_m, z_le_m, z_lt_m2, z_le_m2, z_eq_m, z_ne_m, zn_div, z_a31, zn_shl, zn_shr, z_bq_T, z_bq_F, z_bl_T, nL_0, nL_3, nL_30000, nL_256, z1, B_P_refuse]
    exact cRes_st h _ _
  have tU' := zn_toInt hU
  by_cases gU : 256 < U
  · rw [pif_F (fun q => by omega)]
    simp (disch := omega) only [z_bV_some, z_bI_some, z_bJ_some, z_bD_some, z_bR_some, cond_true, cond_false, Bool.and_true, Bool.true_and, Bool.not_false, Bool.not_true, Bool.and_self, Bool.or_true, Bool.false_or, Bool.true_or, zn_ok, zn_ok0, zn_N, zn_add, zn_mul, zn_sub, z_lt_T, z_lt_F, z_le_T, z_le_F, z_eq_T, z_ne_F, z_eq_F, z_ne_T, z_ix_T, z_lt_m, z_le_m, z_lt_m2, z_le_m2, z_eq_m, z_ne_m, zn_div, z_a31, zn_shl, zn_shr, z_bq_T, z_bq_F, z_bl_T, nL_0, nL_3, nL_30000, nL_256, z1, B_P_refuse]
    exact cRes_st h _ _
  rw [pif_T ⟨rOk_nat w hr, by omega⟩]
  by_cases g2 : pl = true
  · rw [if_pos g2]
    simp (disch := omega) only [z_bV_some, z_bI_some, z_bJ_some, z_bD_some, z_bR_some, cond_true, cond_false, Bool.and_true, Bool.true_and, Bool.not_false, Bool.not_true, Bool.and_self, Bool.or_true, Bool.false_or, Bool.true_or, zn_ok, zn_ok0, zn_N, zn_add, zn_mul, zn_sub, z_lt_T, z_lt_F, z_le_T, z_le_F, z_eq_T, z_ne_F, z_eq_F, z_ne_T, z_ix_T, z_lt_m, z_le_m, z_lt_m2, z_le_m2, z_eq_m, z_ne_m, zn_div, z_a31, zn_shl, zn_shr, z_bq_T, z_bq_F, z_bl_T, nL_0, nL_3, nL_30000, nL_256, z1, hp, pl_T g2, B_P_refuse]
    exact cRes_st h _ _
  rw [if_neg g2]
  have h400 := w.2.1
  have h8 := w.2.2.2.2.2.2
  have i4 := h.2.1
  have i5 := h.2.2.1
  by_cases g4 : gN G = 400
  · rw [pif_T (Or.inl g4)]
    simp (disch := omega) only [z_bV_some, z_bI_some, z_bJ_some, z_bD_some, z_bR_some, cond_true, cond_false, Bool.and_true, Bool.true_and, Bool.not_false, Bool.not_true, Bool.and_self, Bool.or_true, Bool.false_or, Bool.true_or, zn_ok, zn_ok0, zn_N, zn_add, zn_mul, zn_sub, z_lt_T, z_lt_F, z_le_T, z_le_F, z_eq_T, z_ne_F, z_eq_F, z_ne_T, z_ix_T, z_lt_m, z_le_m, z_lt_m2, z_le_m2, z_eq_m, z_ne_m, zn_div, z_a31, zn_shl, zn_shr, z_bq_T, z_bq_F, z_bl_T, nL_0, nL_3, nL_30000, nL_256, nL_400, z1, hp, pl_F g2, i4, B_P_refuse]
    exact cRes_st h _ _
  have z2 : z_le (zn 400) (zn (gN G)) = false := z_le_F (by omega) (by omega)
  rcases zn_cases n with hn | ⟨S, hS, rfl⟩
  · rw [pif_F (fun q => by omega), pif_T hn]
    simp (disch := omega) only [z_bV_some, z_bI_some, z_bJ_some, z_bD_some, z_bR_some, cond_true, cond_false, Bool.and_true, Bool.true_and, Bool.not_false, Bool.not_true, Bool.and_self, Bool.or_true, Bool.false_or, Bool.true_or, zn_ok, zn_ok0, zn_N, zn_add, zn_mul, zn_sub, z_lt_T, z_lt_F, z_le_T, z_le_F, z_eq_T, z_ne_F, z_eq_F, z_ne_T, z_ix_T, z_lt_m, z_le_m, z_lt_m2, z_le_m2, z_eq_m, z_ne_m, zn_div, z_a31, zn_shl, zn_shr, z_bq_T, z_bq_F, z_bl_T, nL_0, nL_3, nL_30000, nL_256, nL_400, z1, hp, pl_F g2, i4, B_P_found]
    exact cRes_st h _ _
  have tS' := zn_toInt hS
  rw [tS'] at gn
  by_cases g5 : 8000 < gE G + S
  · rw [pif_T (Or.inr (by omega))]
    have em : z_den zQ (d + 2) mP_tooManyElements [.ref 1, .int (zn S)] A = some (some (.int (zn 1)), A) := by
      rw [B_P_tooManyElements, i5]
      simp (disch := omega) only [z_bV_some, z_bI_some, z_bJ_some, z_bD_some, z_bR_some, cond_true, cond_false, Bool.and_true, Bool.true_and, Bool.not_false, Bool.not_true, Bool.and_self, Bool.or_true, Bool.false_or, Bool.true_or, zn_ok, zn_ok0, zn_N, zn_add, zn_mul, zn_sub, z_lt_T, z_lt_F, z_le_T, z_le_F, z_eq_T, z_ne_F, z_eq_F, z_ne_T, z_ix_T, z_lt_m, z_le_m, z_lt_m2, z_le_m2, z_eq_m, z_ne_m, zn_div, z_a31, zn_shl, zn_shr, z_bq_T, z_bq_F, z_bl_T, nL_8000, nL_1]
    simp (disch := omega) only [z_bV_some, z_bI_some, z_bJ_some, z_bD_some, z_bR_some, cond_true, cond_false, Bool.and_true, Bool.true_and, Bool.not_false, Bool.not_true, Bool.and_self, Bool.or_true, Bool.false_or, Bool.true_or, zn_ok, zn_ok0, zn_N, zn_add, zn_mul, zn_sub, z_lt_T, z_lt_F, z_le_T, z_le_F, z_eq_T, z_ne_F, z_eq_F, z_ne_T, z_ix_T, z_lt_m, z_le_m, z_lt_m2, z_le_m2, z_eq_m, z_ne_m, zn_div, z_a31, zn_shl, zn_shr, z_bq_T, z_bq_F, z_bl_T, nL_0, nL_3, nL_30000, nL_256, nL_400, z1, hp, pl_F g2, i4, em, B_P_refuse]
    exact cRes_st h _ _
  rw [pif_F (fun q => by omega), pif_F (by omega), zn_N (by omega), zn_N hK, zn_N hN, zn_N hU, zn_N hS]
  have em : z_den zQ (d + 2) mP_tooManyElements [.ref 1, .int (zn S)] A = some (some (.int (zn 0)), A) := by
    rw [B_P_tooManyElements, i5]
    simp (disch := omega) only [z_bV_some, z_bI_some, z_bJ_some, z_bD_some, z_bR_some, cond_true, cond_false, Bool.and_true, Bool.true_and, Bool.not_false, Bool.not_true, Bool.and_self, Bool.or_true, Bool.false_or, Bool.true_or, zn_ok, zn_ok0, zn_N, zn_add, zn_mul, zn_sub, z_lt_T, z_lt_F, z_le_T, z_le_F, z_eq_T, z_ne_F, z_eq_F, z_ne_T, z_ix_T, z_lt_m, z_le_m, z_lt_m2, z_le_m2, z_eq_m, z_ne_m, zn_div, z_a31, zn_shl, zn_shr, z_bq_T, z_bq_F, z_bl_T, nL_8000, nL_0]
  obtain ⟨A1, A2, e1, e2, e3, e4, e5, e6, e7, e8⟩ := E_mkStrip d r K N U S h w hr (by omega) (by omega) (by omega) (by omega) (by omega)
  have g56 := z_new_ge A
  have lρ := hd_lt56 q.1 (by omega)
  have la := hd_lt56 e5.2.1 (by omega)
  have hzn := wG_z w hr
  have ea := E_L_append (d + 1) _ _ (z_new zQ A) A2 e5 (by omega) e6
  have j4 : zI A2 1 4 = zn (gN G) := by rw [zFr_I e7 _ (by omega) (fun q => q)]; exact i4
  have j5 : zI A2 1 5 = zn (gE G) := by rw [zFr_I e7 _ (by omega) (fun q => q)]; exact i5
  have j3 : zI A2 1 3 = zn (gR G) := by rw [zFr_I e7 _ (by omega) (fun q => q)]; exact h.1
  generalize hA3 : z_wI (z_wP A2 (zP zQ A2 (zP zQ A 2 r) 0) (gZ G r) (z_new zQ A)) (zP zQ A 2 r) 1 (zn (gZ G r + 1)) = A3 at ea e8
  have m4 : zI A3 1 4 = zn (gN G) := by rw [← hA3, zI_wI_a (by omega), zI_wP]; exact j4
  have m5 : zI A3 1 5 = zn (gE G) := by rw [← hA3, zI_wI_a (by omega), zI_wP]; exact j5
  have m3 : zI A3 1 3 = zn (gR G) := by rw [← hA3, zI_wI_a (by omega), zI_wP]; exact j3
  have m8 : z_hd zQ A3 (zP zQ A 2 r) = some (8, 2) := by rw [← hA3, z_hd_wI, z_hd_wP]; exact e5.1
  have mc : zI A3 (zP zQ A 2 r) 1 = zn (gZ G r + 1) := by rw [← hA3, zI_wI_s]
  have fin : cRes 2 1040 A (zn (gZ G r), zn 0, addS G r (sealT (newT K N U S))) (some (some (.int (zn (gZ G r))), z_wI (z_wI (z_wI A3 1 4 (zn (gN G + 1))) 1 5 (zn (gE G + S))) 1 7 (zn 0))) := by
    refine cRes_K (G := addS G r (sealT (newT K N U S))) ?_ ?_ ?_ ?_ (cK_fr (zFr_wI (X := fun a _ => a = 1) rfl) (cK_fr (zFr_wI (X := fun a _ => a = 1) rfl) e8 ?_ ?_) ?_ ?_)
    · have t1 : zFr 0 0 (xcS A) A2 A3 := by
        rw [← hA3]
        refine zFr_trans (zFr_wP ?_) (zFr_wI (X := xcS A) ?_) (fun _ _ _ h => h)
        · have ex : zP zQ A2 (zP zQ A 2 r) 0 = zP zQ A (zP zQ A 2 r) 0 := zFr_P e7 _ (z_hd_lt q.1) (fun q => q)
          rw [ex]
          exact Or.inr (Or.inr ⟨_, q.2.1, by omega⟩)
        · exact Or.inr (Or.inr ⟨_, q.1, by omega⟩)
      exact zFr_mono (zFr_trans (zFr_trans (zFr_trans (xN_any e7) t1 (fun _ _ _ h => h)) (zFr_wI (X := xcS A) (Or.inl ⟨rfl, by omega⟩)) (fun _ _ _ h => h)) (zFr_wI (X := xcS A) (Or.inl ⟨rfl, by omega⟩)) (fun _ _ _ h => h)) (by omega) (by omega) (fun _ _ h => h)
    · rw [zI_wI_k (by omega), zI_wI_k (by omega)]; exact m3
    · rw [zI_wI_k (by omega), zI_wI_s]; rfl
    · rw [zI_wI_s]; rfl
    · intro k e; omega
    · intro a k t n ha ht e; have := hd_lt56 ha ht; omega
    · intro k e; omega
    · intro a k t n ha ht e; have := hd_lt56 ha ht; omega
  by_cases g6 : S = 0
  · subst g6
    simp (disch := omega) only [z_bV_some, z_bI_some, z_bJ_some, z_bD_some, z_bR_some, cond_true, cond_false, Bool.and_true, Bool.true_and, Bool.not_false, Bool.not_true, Bool.and_self, Bool.or_true, Bool.false_or, Bool.true_or, zn_ok, zn_ok0, zn_N, zn_add, zn_mul, zn_sub, z_lt_T, z_lt_F, z_le_T, z_le_F, z_eq_T, z_ne_F, z_eq_F, z_ne_T, z_ix_T, z_lt_m, z_le_m, z_lt_m2, z_le_m2, z_eq_m, z_ne_m, zn_div, z_a31, zn_shl, zn_shr, z_bq_T, z_bq_F, z_bl_T, zI_put_a, zP_put, zD_put, z_hd_put, z_cls_put, z_ia_put, z_ln_put, z_new_put, zI_wI_s, zI_wP, zI_wD, zD_wI, zD_wP, zD_wD_s, zP_wI, zP_wD, z_hd_wI, z_hd_wP, z_hd_wD, z_hd_cpy, z_cls_wI, z_cls_wP, z_cls_wD, z_cls_cpy, z_ia_wI, z_ia_wP, z_ia_wD, z_ia_cpy, z_ln_wI, z_ln_wP, z_ln_wD, z_ln_cpy, z_new_wI, z_new_wP, z_new_wD, z_new_cpy, z_new_nw, zP_cpy, zI_uI_s, zP_uI, zD_uI, z_hd_uI, z_cls_uI, z_ia_uI, z_ln_uI, z_new_uI, zI_wI_a, zI_wI_k, zI_uI_a, zI_cpy_a, zP_wP_s, zP_wP_a, zP_wP_k, nL_0, nL_3, nL_30000, nL_256, nL_400, nL_1, z1, hp, pl_F g2, i4, c9 e2, e1, c9 e3, e4, c8 e5.1, ea, m4, m5, c8 m8, mc, B_P_done, Nat.add_sub_cancel]
    exact fin
  · simp (disch := omega) only [z_bV_some, z_bI_some, z_bJ_some, z_bD_some, z_bR_some, cond_true, cond_false, Bool.and_true, Bool.true_and, Bool.not_false, Bool.not_true, Bool.and_self, Bool.or_true, Bool.false_or, Bool.true_or, zn_ok, zn_ok0, zn_N, zn_add, zn_mul, zn_sub, z_lt_T, z_lt_F, z_le_T, z_le_F, z_eq_T, z_ne_F, z_eq_F, z_ne_T, z_ix_T, z_lt_m, z_le_m, z_lt_m2, z_le_m2, z_eq_m, z_ne_m, zn_div, z_a31, zn_shl, zn_shr, z_bq_T, z_bq_F, z_bl_T, zI_put_a, zP_put, zD_put, z_hd_put, z_cls_put, z_ia_put, z_ln_put, z_new_put, zI_wI_s, zI_wP, zI_wD, zD_wI, zD_wP, zD_wD_s, zP_wI, zP_wD, z_hd_wI, z_hd_wP, z_hd_wD, z_hd_cpy, z_cls_wI, z_cls_wP, z_cls_wD, z_cls_cpy, z_ia_wI, z_ia_wP, z_ia_wD, z_ia_cpy, z_ln_wI, z_ln_wP, z_ln_wD, z_ln_cpy, z_new_wI, z_new_wP, z_new_wD, z_new_cpy, z_new_nw, zP_cpy, zI_uI_s, zP_uI, zD_uI, z_hd_uI, z_cls_uI, z_ia_uI, z_ln_uI, z_new_uI, zI_wI_a, zI_wI_k, zI_uI_a, zI_cpy_a, zP_wP_s, zP_wP_a, zP_wP_k, nL_0, nL_3, nL_30000, nL_256, nL_400, nL_1, z1, hp, pl_F g2, i4, em, c9 e2, e1, c9 e3, e4, c8 e5.1, ea, m4, m5, c8 m8, mc, B_P_done, Nat.add_sub_cancel]
    exact fin
theorem Q_strip (d : Nat) {pl : Bool} {G : zG} {B : zM} {x k m n t : Int32} (h : rG G B) (w : wG G) (hp : zI B 15 36 = bI pl) : rRes B (oStrip pl G x k m n t) (z_den zQ (d + 5) mQ_strip [.ref 15, .int x, .int k, .int m, .int n, .int t] B) := by
  unfold oStrip
  rw [B_Q_strip]
  rcases rOk_c w x with g | ⟨r, hr, rfl⟩
  · rw [pif_F (fun q => g q.1), E_Q_isRoll_no _ h w g]
    simp (disch := omega) only [z_bV_some, z_bI_some, z_bJ_some, z_bD_some, z_bR_some, cond_true, cond_false, Bool.and_true, Bool.true_and, Bool.not_false, Bool.not_true, Bool.and_self, Bool.or_true, Bool.false_or, Bool.true_or, zn_ok, zn_ok0, zn_N, zn_add, zn_mul, zn_sub, z_lt_T, z_lt_F, z_le_T, z_le_F, z_eq_T, z_ne_F, z_eq_F, z_ne_T, z_ix_T, z_lt_m, z_le_m, z_lt_m2, z_le_m2, z_eq_m, z_ne_m, zn_div, z_a31, zn_shl, zn_shr, z_bq_T, z_bq_F, z_bl_T, nL_0, B_Q_no]
    exact rRes_st h _ _
  have hR := w.1
  rw [E_Q_isRoll_ok _ h w (rOk_nat w hr)]
  by_cases gK : 0 ≤ k.toInt ∧ k.toInt ≤ 3
  rotate_left
  · rw [pif_F (fun q => gK q.2.1)]
    have ew := Q_within_F (d := d + 3) (x := k) (a := 0) (n := 3) (M := B) (by omega) (by omega) gK
    simp (disch := omega) only [z_bV_some, z_bI_some, z_bJ_some, z_bD_some, z_bR_some, cond_true, cond_false, Bool.and_true, Bool.true_and, Bool.not_false, Bool.not_true, Bool.and_self, Bool.or_true, Bool.false_or, Bool.true_or, zn_ok, zn_ok0, zn_N, zn_add, zn_mul, zn_sub, z_lt_T, z_lt_F, z_le_T, z_le_F, z_eq_T, z_ne_F, z_eq_F, z_ne_T, z_ix_T, z_lt_m, z_le_m, z_lt_m2, z_le_m2, z_eq_m, z_ne_m, zn_div, z_a31, zn_shl, zn_shr, z_bq_T, z_bq_F, z_bl_T, nL_0, nL_3, ew, B_Q_no]
    exact rRes_st h _ _
  have ew1 := Q_within_T (d := d + 3) (x := k) (a := 0) (n := 3) (M := B) (by omega) (by omega) gK
  by_cases gN' : 0 ≤ m.toInt ∧ m.toInt ≤ 30000
  rotate_left
  · rw [pif_F (fun q => gN' q.2.2.1)]
    have ew := Q_within_F (d := d + 3) (x := m) (a := 0) (n := 30000) (M := B) (by omega) (by omega) gN'
    simp (disch := omega) only [z_bV_some, z_bI_some, z_bJ_some, z_bD_some, z_bR_some, cond_true, cond_false, Bool.and_true, Bool.true_and, Bool.not_false, Bool.not_true, Bool.and_self, Bool.or_true, Bool.false_or, Bool.true_or, zn_ok, zn_ok0, zn_N, zn_add, zn_mul, zn_sub, z_lt_T, z_lt_F, z_le_T, z_le_F, z_eq_T, z_ne_F, z_eq_F, z_ne_T, z_ix_T, z_lt_m, z_le_m, z_lt_m2, z_le_m2, z_eq_m, z_ne_m, zn_div, z_a31, zn_shl, zn_shr, z_bq_T, z_bq_F, z_bl_T, nL_0, nL_3, nL_30000, ew1, ew, B_Q_no]
    exact rRes_st h _ _
  have ew2 := Q_within_T (d := d + 3) (x := m) (a := 0) (n := 30000) (M := B) (by omega) (by omega) gN'
  by_cases gn : n.toInt ≤ 256
  rotate_left
  · rw [pif_F (fun q => gn q.2.2.2.1)]
    have z1 : z_lt (zn 256) n = true := z_lt_tt (by rw [zn_toInt (by omega)]; omega)
    simp (disch := omega) only [z_bV_some, z_bI_some, z_bJ_some, z_bD_some, z_bR_some, cond_true, cond_false, Bool.and_true, Bool.true_and, Bool.not_false, Bool.not_true, Bool.and_self, Bool.or_true, Bool.false_or, Bool.true_or, zn_ok, zn_ok0, zn_N, zn_add, zn_mul, zn_sub, z_lt_T, z_lt_F, z_le_T, z_le_F, z_eq_T, z_ne_F, z_eq_F, z_ne_T, z_ix_T, z_lt_m, z_le_m, z_lt_m2, z_le_m2, z_eq_m, z_ne_m, zn_div, z_a31, zn_shl, zn_shr, z_bq_T, z_bq_F, z_bl_T, nL_0, nL_3, nL_30000, nL_256, ew1, ew2, z1, B_Q_no]
    exact rRes_st h _ _
  have z1 : z_lt (zn 256) n = false := z_lt_ff (by rw [zn_toInt (by omega)]; omega)
  by_cases gU : 0 ≤ t.toInt ∧ t.toInt ≤ 256
  rotate_left
  · rw [pif_F (fun q => gU q.2.2.2.2)]
    have ew := Q_within_F (d := d + 3) (x := t) (a := 0) (n := 256) (M := B) (by omega) (by omega) gU
    simp (disch := omega) only [z_bV_some, z_bI_some, z_bJ_some, z_bD_some, z_bR_some, cond_true, cond_false, Bool.and_true, Bool.true_and, Bool.not_false, Bool.not_true, Bool.and_self, Bool.or_true, Bool.false_or, Bool.true_or, zn_ok, zn_ok0, zn_N, zn_add, zn_mul, zn_sub, z_lt_T, z_lt_F, z_le_T, z_le_F, z_eq_T, z_ne_F, z_eq_F, z_ne_T, z_ix_T, z_lt_m, z_le_m, z_lt_m2, z_le_m2, z_eq_m, z_ne_m, zn_div, z_a31, zn_shl, zn_shr, z_bq_T, z_bq_F, z_bl_T, nL_0, nL_3, nL_30000, nL_256, ew1, ew2, z1, ew, B_Q_no]
    exact rRes_st h _ _
  have ew3 := Q_within_T (d := d + 3) (x := t) (a := 0) (n := 256) (M := B) (by omega) (by omega) gU
  rw [pif_T ⟨rOk_nat w hr, gK, gN', gn, gU⟩]
  by_cases g2 : pl = true
  · rw [if_pos g2]
    simp (disch := omega) only [z_bV_some, z_bI_some, z_bJ_some, z_bD_some, z_bR_some, cond_true, cond_false, Bool.and_true, Bool.true_and, Bool.not_false, Bool.not_true, Bool.and_self, Bool.or_true, Bool.false_or, Bool.true_or, zn_ok, zn_ok0, zn_N, zn_add, zn_mul, zn_sub, z_lt_T, z_lt_F, z_le_T, z_le_F, z_eq_T, z_ne_F, z_eq_F, z_ne_T, z_ix_T, z_lt_m, z_le_m, z_lt_m2, z_le_m2, z_eq_m, z_ne_m, zn_div, z_a31, zn_shl, zn_shr, z_bq_T, z_bq_F, z_bl_T, nL_0, nL_3, nL_30000, nL_256, ew1, ew2, z1, ew3, hp, pl_T g2, B_Q_no]
    exact rRes_st h _ _
  rw [if_neg g2]
  have h400 := w.2.1
  have h8 := w.2.2.2.2.2.2
  have i4 := h.2.1
  have i13 := h.2.2.1
  by_cases g4 : gN G = 400
  · rw [pif_T (Or.inl g4)]
    rw [g4] at i4
    simp (disch := omega) only [z_bV_some, z_bI_some, z_bJ_some, z_bD_some, z_bR_some, cond_true, cond_false, Bool.and_true, Bool.true_and, Bool.not_false, Bool.not_true, Bool.and_self, Bool.or_true, Bool.false_or, Bool.true_or, zn_ok, zn_ok0, zn_N, zn_add, zn_mul, zn_sub, z_lt_T, z_lt_F, z_le_T, z_le_F, z_eq_T, z_ne_F, z_eq_F, z_ne_T, z_ix_T, z_lt_m, z_le_m, z_lt_m2, z_le_m2, z_eq_m, z_ne_m, zn_div, z_a31, zn_shl, zn_shr, z_bq_T, z_bq_F, z_bl_T, nL_0, nL_3, nL_30000, nL_256, nL_400, ew1, ew2, z1, ew3, hp, pl_F g2, i4, B_Q_no]
    exact rRes_st h _ _
  have tE' : (zn (gE G)).toInt = gE G := zn_toInt (by omega)
  have bn := tI_bd n
  have ts : (zn (gE G) + n).toInt = gE G + n.toInt := by rw [tI_add (by omega) (by omega), tE']
  by_cases g5 : (8000 : Int) < gE G + n.toInt
  · rw [pif_T (Or.inr g5)]
    have z2 : z_le (zn (gE G) + n) (zn 8000) = false := z_le_ff (by rw [zn_toInt (by omega)]; omega)
    simp (disch := omega) only [z_bV_some, z_bI_some, z_bJ_some, z_bD_some, z_bR_some, cond_true, cond_false, Bool.and_true, Bool.true_and, Bool.not_false, Bool.not_true, Bool.and_self, Bool.or_true, Bool.false_or, Bool.true_or, zn_ok, zn_ok0, zn_N, zn_add, zn_mul, zn_sub, z_lt_T, z_lt_F, z_le_T, z_le_F, z_eq_T, z_ne_F, z_eq_F, z_ne_T, z_ix_T, z_lt_m, z_le_m, z_lt_m2, z_le_m2, z_eq_m, z_ne_m, zn_div, z_a31, zn_shl, zn_shr, z_bq_T, z_bq_F, z_bl_T, nL_0, nL_3, nL_30000, nL_256, nL_400, nL_8000, ew1, ew2, z1, ew3, hp, pl_F g2, i4, i13, z2, B_Q_no]
    exact rRes_st h _ _
  have z2 : z_le (zn (gE G) + n) (zn 8000) = true := z_le_tt (by rw [zn_toInt (by omega)]; omega)
  rw [pif_F (fun q => by omega)]
  rcases zn_cases n with hn | ⟨S, hS, rfl⟩
  · rw [pif_T hn]
    have z3 : z_le (zn 0) n = false := z_le_m2 hn (by omega)
    simp (disch := omega) only [z_bV_some, z_bI_some, z_bJ_some, z_bD_some, z_bR_some, cond_true, cond_false, Bool.and_true, Bool.true_and, Bool.not_false, Bool.not_true, Bool.and_self, Bool.or_true, Bool.false_or, Bool.true_or, zn_ok, zn_ok0, zn_N, zn_add, zn_mul, zn_sub, z_lt_T, z_lt_F, z_le_T, z_le_F, z_eq_T, z_ne_F, z_eq_F, z_ne_T, z_ix_T, z_lt_m, z_le_m, z_lt_m2, z_le_m2, z_eq_m, z_ne_m, zn_div, z_a31, zn_shl, zn_shr, z_bq_T, z_bq_F, z_bl_T, nL_0, nL_3, nL_30000, nL_256, nL_400, nL_8000, ew1, ew2, z1, ew3, hp, pl_F g2, i4, i13, z2, z3, B_Q_finds]
    exact rRes_st h _ _
  have tS' := zn_toInt hS
  rw [tS'] at gn g5
  obtain ⟨K, hK, rfl⟩ := zn_ex gK.1
  obtain ⟨N, hN, rfl⟩ := zn_ex gN'.1
  obtain ⟨U, hU, rfl⟩ := zn_ex gU.1
  rw [zn_toInt hK] at gK
  rw [zn_toInt hN] at gN'
  rw [zn_toInt hU] at gU
  rw [pif_F (by omega), zn_N (by omega), zn_N hK, zn_N hN, zn_N hU, zn_N hS]
  obtain ⟨a1, a2, a3, a4, a5, a6, a7, a8⟩ := h
  have hz := wG_z w hr
  have z0 := a8 (gN G) (Nat.le_refl _) (by omega)
  generalize hB1 : z_wI (z_wI (z_wI (z_wI (z_wI B 18 (gN G) (zn K)) 19 (gN G) (zn N)) 20 (gN G) (zn U)) 24 (gN G) (zn S)) 15 13 (zn (gE G + S)) = B1
  have f1 : zFr 0 0 (xrU (gN G)) B B1 := by
    rw [← hB1]
    have q0 : ∀ (M : zM) (a k : Nat) (v : Int32), xrU (gN G) a k → zFr 0 0 (xrU (gN G)) M (z_wI M a k v) := fun M a k v h => zFr_wI h
    have tr : ∀ (M M' : zM) (a k : Nat) (v : Int32), xrU (gN G) a k → zFr 0 0 (xrU (gN G)) M M' → zFr 0 0 (xrU (gN G)) M (z_wI M' a k v) := fun M M' a k v hx h => zFr_trans h (q0 M' a k v hx) (fun _ _ _ h => h)
    refine tr _ _ _ _ _ ?_ (tr _ _ _ _ _ ?_ (tr _ _ _ _ _ ?_ (tr _ _ _ _ _ ?_ (q0 _ _ _ _ ?_)))) <;> (unfold xrU inR; omega)
  have r1 : rT B1 (gN G) (K, N, U, false, 0, S, fun _ => zn 0, fun _ => zn 0) := by
    obtain ⟨z0, z1, z2, z3, z4, z5, z6, z7⟩ := z0
    rw [← hB1]
    refine ⟨?_, ?_, ?_, ?_, ?_, ?_, fun i hi => ?_, fun k hk => ?_⟩
    · simp (disch := omega) only [zI_put_a, zP_put, zD_put, z_hd_put, z_cls_put, z_ia_put, z_ln_put, z_new_put, zI_wI_s, zI_wP, zI_wD, zD_wI, zD_wP, zD_wD_s, zP_wI, zP_wD, z_hd_wI, z_hd_wP, z_hd_wD, z_hd_cpy, z_cls_wI, z_cls_wP, z_cls_wD, z_cls_cpy, z_ia_wI, z_ia_wP, z_ia_wD, z_ia_cpy, z_ln_wI, z_ln_wP, z_ln_wD, z_ln_cpy, z_new_wI, z_new_wP, z_new_wD, z_new_cpy, z_new_nw, zP_cpy, zI_uI_s, zP_uI, zD_uI, z_hd_uI, z_cls_uI, z_ia_uI, z_ln_uI, z_new_uI, zI_wI_a, zI_wI_k, zI_uI_a, zI_cpy_a, zP_wP_s, zP_wP_a, zP_wP_k]; rfl
    · simp (disch := omega) only [zI_put_a, zP_put, zD_put, z_hd_put, z_cls_put, z_ia_put, z_ln_put, z_new_put, zI_wI_s, zI_wP, zI_wD, zD_wI, zD_wP, zD_wD_s, zP_wI, zP_wD, z_hd_wI, z_hd_wP, z_hd_wD, z_hd_cpy, z_cls_wI, z_cls_wP, z_cls_wD, z_cls_cpy, z_ia_wI, z_ia_wP, z_ia_wD, z_ia_cpy, z_ln_wI, z_ln_wP, z_ln_wD, z_ln_cpy, z_new_wI, z_new_wP, z_new_wD, z_new_cpy, z_new_nw, zP_cpy, zI_uI_s, zP_uI, zD_uI, z_hd_uI, z_cls_uI, z_ia_uI, z_ln_uI, z_new_uI, zI_wI_a, zI_wI_k, zI_uI_a, zI_cpy_a, zP_wP_s, zP_wP_a, zP_wP_k]; rfl
    · simp (disch := omega) only [zI_put_a, zP_put, zD_put, z_hd_put, z_cls_put, z_ia_put, z_ln_put, z_new_put, zI_wI_s, zI_wP, zI_wD, zD_wI, zD_wP, zD_wD_s, zP_wI, zP_wD, z_hd_wI, z_hd_wP, z_hd_wD, z_hd_cpy, z_cls_wI, z_cls_wP, z_cls_wD, z_cls_cpy, z_ia_wI, z_ia_wP, z_ia_wD, z_ia_cpy, z_ln_wI, z_ln_wP, z_ln_wD, z_ln_cpy, z_new_wI, z_new_wP, z_new_wD, z_new_cpy, z_new_nw, zP_cpy, zI_uI_s, zP_uI, zD_uI, z_hd_uI, z_cls_uI, z_ia_uI, z_ln_uI, z_new_uI, zI_wI_a, zI_wI_k, zI_uI_a, zI_cpy_a, zP_wP_s, zP_wP_a, zP_wP_k]; rfl
    · simp (disch := omega) only [zI_put_a, zP_put, zD_put, z_hd_put, z_cls_put, z_ia_put, z_ln_put, z_new_put, zI_wI_s, zI_wP, zI_wD, zD_wI, zD_wP, zD_wD_s, zP_wI, zP_wD, z_hd_wI, z_hd_wP, z_hd_wD, z_hd_cpy, z_cls_wI, z_cls_wP, z_cls_wD, z_cls_cpy, z_ia_wI, z_ia_wP, z_ia_wD, z_ia_cpy, z_ln_wI, z_ln_wP, z_ln_wD, z_ln_cpy, z_new_wI, z_new_wP, z_new_wD, z_new_cpy, z_new_nw, zP_cpy, zI_uI_s, zP_uI, zD_uI, z_hd_uI, z_cls_uI, z_ia_uI, z_ln_uI, z_new_uI, zI_wI_a, zI_wI_k, zI_uI_a, zI_cpy_a, zP_wP_s, zP_wP_a, zP_wP_k]; exact z3
    · simp (disch := omega) only [zI_put_a, zP_put, zD_put, z_hd_put, z_cls_put, z_ia_put, z_ln_put, z_new_put, zI_wI_s, zI_wP, zI_wD, zD_wI, zD_wP, zD_wD_s, zP_wI, zP_wD, z_hd_wI, z_hd_wP, z_hd_wD, z_hd_cpy, z_cls_wI, z_cls_wP, z_cls_wD, z_cls_cpy, z_ia_wI, z_ia_wP, z_ia_wD, z_ia_cpy, z_ln_wI, z_ln_wP, z_ln_wD, z_ln_cpy, z_new_wI, z_new_wP, z_new_wD, z_new_cpy, z_new_nw, zP_cpy, zI_uI_s, zP_uI, zD_uI, z_hd_uI, z_cls_uI, z_ia_uI, z_ln_uI, z_new_uI, zI_wI_a, zI_wI_k, zI_uI_a, zI_cpy_a, zP_wP_s, zP_wP_a, zP_wP_k]; exact z4
    · simp (disch := omega) only [zI_put_a, zP_put, zD_put, z_hd_put, z_cls_put, z_ia_put, z_ln_put, z_new_put, zI_wI_s, zI_wP, zI_wD, zD_wI, zD_wP, zD_wD_s, zP_wI, zP_wD, z_hd_wI, z_hd_wP, z_hd_wD, z_hd_cpy, z_cls_wI, z_cls_wP, z_cls_wD, z_cls_cpy, z_ia_wI, z_ia_wP, z_ia_wD, z_ia_cpy, z_ln_wI, z_ln_wP, z_ln_wD, z_ln_cpy, z_new_wI, z_new_wP, z_new_wD, z_new_cpy, z_new_nw, zP_cpy, zI_uI_s, zP_uI, zD_uI, z_hd_uI, z_cls_uI, z_ia_uI, z_ln_uI, z_new_uI, zI_wI_a, zI_wI_k, zI_uI_a, zI_cpy_a, zP_wP_s, zP_wP_a, zP_wP_k]; rfl
    · simp (disch := omega) only [zI_put_a, zP_put, zD_put, z_hd_put, z_cls_put, z_ia_put, z_ln_put, z_new_put, zI_wI_s, zI_wP, zI_wD, zD_wI, zD_wP, zD_wD_s, zP_wI, zP_wD, z_hd_wI, z_hd_wP, z_hd_wD, z_hd_cpy, z_cls_wI, z_cls_wP, z_cls_wD, z_cls_cpy, z_ia_wI, z_ia_wP, z_ia_wD, z_ia_cpy, z_ln_wI, z_ln_wP, z_ln_wD, z_ln_cpy, z_new_wI, z_new_wP, z_new_wD, z_new_cpy, z_new_nw, zP_cpy, zI_uI_s, zP_uI, zD_uI, z_hd_uI, z_cls_uI, z_ia_uI, z_ln_uI, z_new_uI, zI_wI_a, zI_wI_k, zI_uI_a, zI_cpy_a, zP_wP_s, zP_wP_a, zP_wP_k]; exact z6 i hi
    · simp (disch := omega) only [zI_put_a, zP_put, zD_put, z_hd_put, z_cls_put, z_ia_put, z_ln_put, z_new_put, zI_wI_s, zI_wP, zI_wD, zD_wI, zD_wP, zD_wD_s, zP_wI, zP_wD, z_hd_wI, z_hd_wP, z_hd_wD, z_hd_cpy, z_cls_wI, z_cls_wP, z_cls_wD, z_cls_cpy, z_ia_wI, z_ia_wP, z_ia_wD, z_ia_cpy, z_ln_wI, z_ln_wP, z_ln_wD, z_ln_cpy, z_new_wI, z_new_wP, z_new_wD, z_new_cpy, z_new_nw, zP_cpy, zI_uI_s, zP_uI, zD_uI, z_hd_uI, z_cls_uI, z_ia_uI, z_ln_uI, z_new_uI, zI_wI_a, zI_wI_k, zI_uI_a, zI_cpy_a, zP_wP_s, zP_wP_a, zP_wP_k]; exact z7 k hk
  have b4 : zI B1 15 4 = zn (gN G) := by rw [← hB1]; simp (disch := omega) only [zI_put_a, zP_put, zD_put, z_hd_put, z_cls_put, z_ia_put, z_ln_put, z_new_put, zI_wI_s, zI_wP, zI_wD, zD_wI, zD_wP, zD_wD_s, zP_wI, zP_wD, z_hd_wI, z_hd_wP, z_hd_wD, z_hd_cpy, z_cls_wI, z_cls_wP, z_cls_wD, z_cls_cpy, z_ia_wI, z_ia_wP, z_ia_wD, z_ia_cpy, z_ln_wI, z_ln_wP, z_ln_wD, z_ln_cpy, z_new_wI, z_new_wP, z_new_wD, z_new_cpy, z_new_nw, zP_cpy, zI_uI_s, zP_uI, zD_uI, z_hd_uI, z_cls_uI, z_ia_uI, z_ln_uI, z_new_uI, zI_wI_a, zI_wI_k, zI_uI_a, zI_cpy_a, zP_wP_s, zP_wP_a, zP_wP_k]; exact a2
  obtain ⟨B2, s1, s2, s3⟩ := E_Q_sealIt d (gN G) B1 _ (by omega) r1 (wT_new (K := K) (N := N) (U := U) (n := S) (by omega) (by omega) (by omega) (by omega)) rfl
  have s2 : rT B2 (gN G) (sealT (newT K N U S)) := s2
  have n56 := z_new_ge B
  have n561 := z_new_ge B1
  have f2 : zFr 0 0 (xrU (gN G)) B B2 := zFr_trans f1 s3 (fun _ _ _ h => Or.inl h)
  have st2 : ∀ a k, a < 56 → ¬ xrU (gN G) a k → zI B2 a k = zI B a k := fun a k ha hx => zFr_I f2 k (by omega) hx
  have c4 : zI B2 15 4 = zn (gN G) := by rw [st2 _ _ (by omega) (by unfold xrU inR; omega)]; exact a2
  have c13 : zI B2 15 13 = zn (gE G + S) := by
    rw [zFr_I s3 _ (by omega) (by unfold inR; omega), ← hB1]; simp (disch := omega) only [zI_put_a, zP_put, zD_put, z_hd_put, z_cls_put, z_ia_put, z_ln_put, z_new_put, zI_wI_s, zI_wP, zI_wD, zD_wI, zD_wP, zD_wD_s, zP_wI, zP_wD, z_hd_wI, z_hd_wP, z_hd_wD, z_hd_cpy, z_cls_wI, z_cls_wP, z_cls_wD, z_cls_cpy, z_ia_wI, z_ia_wP, z_ia_wD, z_ia_cpy, z_ln_wI, z_ln_wP, z_ln_wD, z_ln_cpy, z_new_wI, z_new_wP, z_new_wD, z_new_cpy, z_new_nw, zP_cpy, zI_uI_s, zP_uI, zD_uI, z_hd_uI, z_cls_uI, z_ia_uI, z_ln_uI, z_new_uI, zI_wI_a, zI_wI_k, zI_uI_a, zI_cpy_a, zP_wP_s, zP_wP_a, zP_wP_k]
  have c16 : ∀ r, zI B2 16 r = zI B 16 r := fun r => st2 _ _ (by omega) (by unfold xrU inR; omega)
  have c17 : ∀ r, zI B2 17 r = zI B 17 r := fun r => st2 _ _ (by omega) (by unfold xrU inR; omega)
  have c1 : zI B2 15 1 = zn (gR G) := by rw [st2 _ _ (by omega) (by unfold xrU inR; omega)]; exact a1
  have c16r : zI B2 16 r = zn (gZ G r) := by rw [c16]; exact a4 r hr
  have z3 : z_le (zn 0) (zn S) = true := z_le_T (by omega) (by omega)
  simp (disch := omega) only [z_bV_some, z_bI_some, z_bJ_some, z_bD_some, z_bR_some, cond_true, cond_false, Bool.and_true, Bool.true_and, Bool.not_false, Bool.not_true, Bool.and_self, Bool.or_true, Bool.false_or, Bool.true_or, zn_ok, zn_ok0, zn_N, zn_add, zn_mul, zn_sub, z_lt_T, z_lt_F, z_le_T, z_le_F, z_eq_T, z_ne_F, z_eq_F, z_ne_T, z_ix_T, z_lt_m, z_le_m, z_lt_m2, z_le_m2, z_eq_m, z_ne_m, zn_div, z_a31, zn_shl, zn_shr, z_bq_T, z_bq_F, z_bl_T, zI_put_a, zP_put, zD_put, z_hd_put, z_cls_put, z_ia_put, z_ln_put, z_new_put, zI_wI_s, zI_wP, zI_wD, zD_wI, zD_wP, zD_wD_s, zP_wI, zP_wD, z_hd_wI, z_hd_wP, z_hd_wD, z_hd_cpy, z_cls_wI, z_cls_wP, z_cls_wD, z_cls_cpy, z_ia_wI, z_ia_wP, z_ia_wD, z_ia_cpy, z_ln_wI, z_ln_wP, z_ln_wD, z_ln_cpy, z_new_wI, z_new_wP, z_new_wD, z_new_cpy, z_new_nw, zP_cpy, zI_uI_s, zP_uI, zD_uI, z_hd_uI, z_cls_uI, z_ia_uI, z_ln_uI, z_new_uI, zI_wI_a, zI_wI_k, zI_uI_a, zI_cpy_a, zP_wP_s, zP_wP_a, zP_wP_k, nL_0, nL_3, nL_30000, nL_256, nL_400, nL_8000, nL_1, ew1, ew2, z1, ew3, hp, pl_F g2, i4, i13, hB1, b4, s1, c4, c16r, B_Q_well, Nat.add_sub_cancel]
  refine rRes_K (G := addS G r (sealT (newT K N U S))) ?_ ?_
  · refine zFr_trans (zFr_trans (zFr_trans (zFr_mono f2 (Nat.le_refl _) (Nat.le_refl _) (xrU_xrS _)) (zFr_wI (X := xrS) ?_) (fun _ _ _ h => h)) (zFr_wI (X := xrS) ?_) (fun _ _ _ h => h)) (zFr_wI (X := xrS) ?_) (fun _ _ _ h => h) <;> (unfold xrS; omega)
  · have rt : ∀ p T, rT B2 p T → rT (z_wI (z_wI (z_wI B2 17 (400 * r + gZ G r) (zn (gN G))) 15 4 (zn (gN G + 1))) 16 r (zn (gZ G r + 1))) p T := fun p T q => rT_wI (rT_wI (rT_wI q (by unfold inR; omega)) (by unfold inR; omega)) (by unfold inR; omega)
    have ot : ∀ p T, p ≠ gN G → rT B p T → rT B2 p T := fun p T hne q => rT_fr f2 q (fun a k h1 h2 => by
      rcases h2 with h2 | h2
      · exact hne (inR_ne h1 h2)
      · unfold inR at h1; omega)
    refine ⟨?_, ?_, ?_, fun r' hr' => ?_, fun r' hr' hr2 => ?_, fun r' s hr' hs => ?_, fun p hp => ?_, fun p hp hp2 => ?_⟩
    · simp (disch := omega) only [zI_put_a, zP_put, zD_put, z_hd_put, z_cls_put, z_ia_put, z_ln_put, z_new_put, zI_wI_s, zI_wP, zI_wD, zD_wI, zD_wP, zD_wD_s, zP_wI, zP_wD, z_hd_wI, z_hd_wP, z_hd_wD, z_hd_cpy, z_cls_wI, z_cls_wP, z_cls_wD, z_cls_cpy, z_ia_wI, z_ia_wP, z_ia_wD, z_ia_cpy, z_ln_wI, z_ln_wP, z_ln_wD, z_ln_cpy, z_new_wI, z_new_wP, z_new_wD, z_new_cpy, z_new_nw, zP_cpy, zI_uI_s, zP_uI, zD_uI, z_hd_uI, z_cls_uI, z_ia_uI, z_ln_uI, z_new_uI, zI_wI_a, zI_wI_k, zI_uI_a, zI_cpy_a, zP_wP_s, zP_wP_a, zP_wP_k]; exact c1
    · simp (disch := omega) only [zI_put_a, zP_put, zD_put, z_hd_put, z_cls_put, z_ia_put, z_ln_put, z_new_put, zI_wI_s, zI_wP, zI_wD, zD_wI, zD_wP, zD_wD_s, zP_wI, zP_wD, z_hd_wI, z_hd_wP, z_hd_wD, z_hd_cpy, z_cls_wI, z_cls_wP, z_cls_wD, z_cls_cpy, z_ia_wI, z_ia_wP, z_ia_wD, z_ia_cpy, z_ln_wI, z_ln_wP, z_ln_wD, z_ln_cpy, z_new_wI, z_new_wP, z_new_wD, z_new_cpy, z_new_nw, zP_cpy, zI_uI_s, zP_uI, zD_uI, z_hd_uI, z_cls_uI, z_ia_uI, z_ln_uI, z_new_uI, zI_wI_a, zI_wI_k, zI_uI_a, zI_cpy_a, zP_wP_s, zP_wP_a, zP_wP_k]; rfl
    · simp (disch := omega) only [zI_put_a, zP_put, zD_put, z_hd_put, z_cls_put, z_ia_put, z_ln_put, z_new_put, zI_wI_s, zI_wP, zI_wD, zD_wI, zD_wP, zD_wD_s, zP_wI, zP_wD, z_hd_wI, z_hd_wP, z_hd_wD, z_hd_cpy, z_cls_wI, z_cls_wP, z_cls_wD, z_cls_cpy, z_ia_wI, z_ia_wP, z_ia_wD, z_ia_cpy, z_ln_wI, z_ln_wP, z_ln_wD, z_ln_cpy, z_new_wI, z_new_wP, z_new_wD, z_new_cpy, z_new_nw, zP_cpy, zI_uI_s, zP_uI, zD_uI, z_hd_uI, z_cls_uI, z_ia_uI, z_ln_uI, z_new_uI, zI_wI_a, zI_wI_k, zI_uI_a, zI_cpy_a, zP_wP_s, zP_wP_a, zP_wP_k]; exact c13
    · show _ = zn (if r' = r then gZ G r + 1 else gZ G r')
      by_cases e : r' = r
      · rw [if_pos e, e, zI_wI_s]
      · rw [if_neg e, zI_wI_k e]
        simp (disch := omega) only [zI_put_a, zP_put, zD_put, z_hd_put, z_cls_put, z_ia_put, z_ln_put, z_new_put, zI_wI_s, zI_wP, zI_wD, zD_wI, zD_wP, zD_wD_s, zP_wI, zP_wD, z_hd_wI, z_hd_wP, z_hd_wD, z_hd_cpy, z_cls_wI, z_cls_wP, z_cls_wD, z_cls_cpy, z_ia_wI, z_ia_wP, z_ia_wD, z_ia_cpy, z_ln_wI, z_ln_wP, z_ln_wD, z_ln_cpy, z_new_wI, z_new_wP, z_new_wD, z_new_cpy, z_new_nw, zP_cpy, zI_uI_s, zP_uI, zD_uI, z_hd_uI, z_cls_uI, z_ia_uI, z_ln_uI, z_new_uI, zI_wI_a, zI_wI_k, zI_uI_a, zI_cpy_a, zP_wP_s, zP_wP_a, zP_wP_k]
        rw [c16]; exact a4 r' hr'
    · have hr' : gR G ≤ r' := hr'
      rw [zI_wI_k (by omega)]
      simp (disch := omega) only [zI_put_a, zP_put, zD_put, z_hd_put, z_cls_put, z_ia_put, z_ln_put, z_new_put, zI_wI_s, zI_wP, zI_wD, zD_wI, zD_wP, zD_wD_s, zP_wI, zP_wD, z_hd_wI, z_hd_wP, z_hd_wD, z_hd_cpy, z_cls_wI, z_cls_wP, z_cls_wD, z_cls_cpy, z_ia_wI, z_ia_wP, z_ia_wD, z_ia_cpy, z_ln_wI, z_ln_wP, z_ln_wD, z_ln_cpy, z_new_wI, z_new_wP, z_new_wD, z_new_cpy, z_new_nw, zP_cpy, zI_uI_s, zP_uI, zD_uI, z_hd_uI, z_cls_uI, z_ia_uI, z_ln_uI, z_new_uI, zI_wI_a, zI_wI_k, zI_uI_a, zI_cpy_a, zP_wP_s, zP_wP_a, zP_wP_k]
      rw [c16]; exact a5 r' hr' hr2
    · have hr' : r' < gR G := hr'
      have hs : s < if r' = r then gZ G r + 1 else gZ G r' := hs
      show _ = zn (if r' = r ∧ s = gZ G r then gN G else gO G r' s)
      have hz' := wG_z w hr'
      rw [zI_wI_a (by omega), zI_wI_a (by omega)]
      by_cases e : r' = r ∧ s = gZ G r
      · rw [if_pos e, e.1, e.2, zI_wI_s]
      · rw [if_neg e]
        by_cases e1 : r' = r
        · rw [if_pos e1] at hs
          have : s ≠ gZ G r := fun q => e ⟨e1, q⟩
          rw [zI_wI_k (by omega), c17]
          exact a6 r' s hr' (by rw [e1]; omega)
        · rw [if_neg e1] at hs
          rw [zI_wI_k (by omega), c17]
          exact a6 r' s hr' hs
    · have hp : p < gN G + 1 := hp
      show rT _ p (if p = gN G then _ else gT G p)
      by_cases e : p = gN G
      · rw [if_pos e, e]; exact rt _ _ s2
      · rw [if_neg e]; exact rt _ _ (ot _ _ e (a7 p (by omega)))
    · have hp : gN G + 1 ≤ p := hp
      exact rt _ _ (ot _ _ (by omega) (a8 p (by omega) hp2))
