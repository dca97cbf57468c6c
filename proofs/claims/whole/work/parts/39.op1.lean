/-! S LEVEL, acts: seal, lose, tear. -/
def sA (G : zG) (x y : Int32) : zT := gT G (pO G x y)
theorem st_I {c s : Nat} {A A' : zM} {a b t : Nat} (hf : zFr c s (xS a b) A A') (ha : 56 ≤ a) (hb : 56 ≤ b) (ht : t < 56) (k : Nat) : zI A' t k = zI A t k := zFr_I hf k (by have := z_new_ge A; omega) (fun hx => by rcases hx with hx | hx <;> omega)
theorem xS_xcU {a b : Nat} : ∀ a' k, xS a b a' k → xcU a b a' k := fun _ _ h => Or.inl h
theorem pl_T {pl : Bool} (h : pl = true) : z_eq (bI pl) (zn 0) = false := by rw [bI_1 h]; exact z_eq_F (by omega) (by omega) (by omega)
theorem pl_F {pl : Bool} (h : ¬ pl = true) : z_eq (bI pl) (zn 0) = true := by rw [bI_0 h]; exact z_eq_T _
theorem pl_T' {pl : Bool} (h : pl = true) : z_ne (bI pl) (zn 0) = true := by rw [bI_1 h]; exact z_ne_T (by omega) (by omega) (by omega)
theorem pl_F' {pl : Bool} (h : ¬ pl = true) : z_ne (bI pl) (zn 0) = false := by rw [bI_0 h]; exact z_ne_F _
/-- what a strip at hand gives -/
theorem cG_at {G : zG} {al : Nat → Nat} {A : zM} {x y : Int32} (h : cG G al A) (w : wG G) (g : sOk G x y) : pO G x y < gN G ∧ cT A (al (pO G x y)) (sA G x y) ∧ wT (sA G x y) ∧ 56 ≤ al (pO G x y) ∧ ∃ m, z_hd zQ A (zP zQ A (al (pO G x y)) 4) = some (12, m) ∧ 56 ≤ zP zQ A (al (pO G x y)) 4 := by
  have hp := sOk_p w g
  have hT := h.2.2.2.2.2.2.1 _ hp
  obtain ⟨m, eb, -⟩ := hT.2.2.2.2.2.2.2.1
  exact ⟨hp, hT, w.2.2.2.2.1 _ hp, hd_lt56 hT.1 (by omega), m, eb, hd_lt56 eb (by omega)⟩
theorem rG_at {G : zG} {B : zM} {x y : Int32} (h : rG G B) (w : wG G) (g : sOk G x y) : pO G x y < gN G ∧ pO G x y < 400 ∧ rT B (pO G x y) (sA G x y) ∧ wT (sA G x y) := by
  have hp := sOk_p w g
  have := w.2.1
  exact ⟨hp, by omega, h.2.2.2.2.2.2.1 _ hp, w.2.2.2.2.1 _ hp⟩
/-- the reference's bars -/
theorem E_Q_bars_no (d : Nat) {G : zG} {B : zM} {x y : Int32} (h : rG G B) (w : wG G) (g : ¬ sOk G x y) : z_den zQ (d + 4) mQ_bars [.ref 15, .int x, .int y] B = some (some (.int (-1)), z_wI B 15 0 (-1)) := by
  rw [B_Q_bars, E_Q_isStrip_no d h w g, z_bI_some, nL_0, z_ne_F, cond_false, B_Q_no]
  rfl
theorem E_Q_bars_busy (d : Nat) {pl : Bool} {G : zG} {B : zM} {x y : Int32} (h : rG G B) (w : wG G) (hp : zI B 15 36 = bI pl) (g : sOk G x y) (g2 : pl = true) : z_den zQ (d + 4) mQ_bars [.ref 15, .int x, .int y] B = some (some (.int (-3)), z_wI B 15 0 (-3)) := by
  rw [B_Q_bars, E_Q_isStrip_ok d h w g, z_bI_some, nL_0, z_ne_T (by omega) (by omega) (by omega), cond_true, hp, pl_T g2, cond_false, B_Q_no]
  rfl
theorem E_Q_bars_lost (d : Nat) {pl : Bool} {G : zG} {B : zM} {x y : Int32} (h : rG G B) (w : wG G) (hp : zI B 15 36 = bI pl) (g : sOk G x y) (g2 : ¬ pl = true) (g3 : tL (sA G x y) = true) : z_den zQ (d + 4) mQ_bars [.ref 15, .int x, .int y] B = some (some (.int ((-10) - zn 1)), z_wI B 15 0 (zn 1)) := by
  obtain ⟨h1, h2, h3, h4⟩ := rG_at h w g
  rw [B_Q_bars, E_Q_isStrip_ok d h w g, z_bI_some, nL_0, z_ne_T (by omega) (by omega) (by omega), cond_true, hp, pl_F g2, cond_true, E_Q_poolOf _ h w g, z_bI_some, z_ix_T (by omega) (by omega), cond_true, zn_N (by omega), h3.2.2.2.1, pl_T g3, cond_false, B_Q_finds, nL_1]
  rfl
theorem E_Q_bars_ok (d : Nat) {pl : Bool} {G : zG} {B : zM} {x y : Int32} (h : rG G B) (w : wG G) (hp : zI B 15 36 = bI pl) (g : sOk G x y) (g2 : ¬ pl = true) (g3 : ¬ tL (sA G x y) = true) : z_den zQ (d + 4) mQ_bars [.ref 15, .int x, .int y] B = some (some (.int (zn 0)), z_wI B 15 0 (zn 0)) := by
  obtain ⟨h1, h2, h3, h4⟩ := rG_at h w g
  rw [B_Q_bars, E_Q_isStrip_ok d h w g, z_bI_some, nL_0, z_ne_T (by omega) (by omega) (by omega), cond_true, hp, pl_F g2, cond_true, E_Q_poolOf _ h w g, z_bI_some, z_ix_T (by omega) (by omega), cond_true, zn_N (by omega), h3.2.2.2.1, pl_F g3, cond_true, B_Q_well, nL_0]
  rfl
theorem rG_st {G : zG} {B : zM} (h : rG G B) (v : Int32) : rG G (z_wI B 15 0 v) := rG_fr (zFr_wI (X := fun a k => a = 15 ∧ k = 0) ⟨rfl, rfl⟩) h (by omega) (fun a k h1 h2 h3 => by omega)
theorem xrU_fr {B : zM} (p : Nat) (v : Int32) : zFr 0 0 (xrU p) B (z_wI B 15 0 v) := zFr_wI (Or.inr ⟨rfl, by omega⟩)
theorem neg_1 : z_le (zn 0) (-1) = false := z_le_ff (by have : (zn 0).toInt = 0 := zn_toInt (by omega); have : (-1 : Int32).toInt = -1 := rfl; omega)
theorem neg_3 : z_le (zn 0) (-3) = false := z_le_ff (by have : (zn 0).toInt = 0 := zn_toInt (by omega); have : (-3 : Int32).toInt = -3 := rfl; omega)
theorem neg_11 : z_le (zn 0) ((-10) - zn 1) = false := z_le_ff (by
  have : (zn 0).toInt = 0 := zn_toInt (by omega)
  have t1 : (zn 1).toInt = 1 := zn_toInt (by omega)
  have t2 : (-10 : Int32).toInt = -10 := rfl
  have : ((-10 : Int32) - zn 1).toInt = -11 := by rw [tI_sub (by omega) (by omega)]; omega
  omega)
/-- seal -/
noncomputable def oSeal (pl : Bool) (G : zG) (x y : Int32) : Int32 × Int32 × zG := pif (sOk G x y) (if pl = true then (-3, -3, G) else if tL (sA G x y) = true then ((-10) - zn 1, zn 1, G) else (zn (tS (sA G x y)), zn 0, updT G (pO G x y) (sealT (sA G x y)) (gE G))) (-1, -1, G)
theorem P_seal (d : Nat) {pl : Bool} {G : zG} {al : Nat → Nat} {A : zM} {x y : Int32} (h : cG G al A) (w : wG G) (hp : zI A 3 15 = bI pl) : cRes 0 0 A (oSeal pl G x y) (z_den zQ (d + 4) mP_seal [.ref 1, .int x, .int y] A) := by
  unfold oSeal
  by_cases g : sOk G x y
  · obtain ⟨p1, p2, p3, p4, m, p5, p6⟩ := cG_at h w g
    have n0 := hd_n0 p2.1 (by decide)
    rw [pif_T g, B_P_seal, E_P_stripAt_ok _ h w g]
    by_cases g2 : pl = true
    · rw [if_pos g2]
      simp (disch := omega) only [z_bV_some, z_bI_some, z_bJ_some, z_bD_some, z_bR_some, cond_true, cond_false, Bool.and_true, Bool.true_and, Bool.not_false, Bool.not_true, Bool.and_self, Bool.or_true, Bool.false_or, Bool.true_or, zn_ok, zn_ok0, zn_N, zn_add, zn_mul, zn_sub, z_lt_T, z_lt_F, z_le_T, z_le_F, z_eq_T, z_ne_F, z_eq_F, z_ne_T, z_ix_T, z_lt_m, z_le_m, z_lt_m2, z_le_m2, z_eq_m, z_ne_m, zn_div, z_a31, zn_shl, zn_shr, z_bq_T, z_bq_F, z_bl_T, nL_0, hp, pl_T g2, B_P_refuse]
      exact cRes_st h _ _
    rw [if_neg g2]
    by_cases g3 : tL (sA G x y) = true
    · rw [if_pos g3]
      simp (disch := omega) only [z_bV_some, z_bI_some, z_bJ_some, z_bD_some, z_bR_some, cond_true, cond_false, Bool.and_true, Bool.true_and, Bool.not_false, Bool.not_true, Bool.and_self, Bool.or_true, Bool.false_or, Bool.true_or, zn_ok, zn_ok0, zn_N, zn_add, zn_mul, zn_sub, z_lt_T, z_lt_F, z_le_T, z_le_F, z_eq_T, z_ne_F, z_eq_F, z_ne_T, z_ix_T, z_lt_m, z_le_m, z_lt_m2, z_le_m2, z_eq_m, z_ne_m, zn_div, z_a31, zn_shl, zn_shr, z_bq_T, z_bq_F, z_bl_T, nL_0, hp, pl_F g2, B_P_found, c9 p2.1, p2.2.2.2.2.2.2.1, pl_T g3, nL_1]
      exact cRes_st h _ _
    rw [if_neg g3]
    obtain ⟨A1, w1, w2, w3, w4⟩ := E_S_writeHead (d + 1) (al (pO G x y)) A _ p2 p3
    have e2 := E_S_elements (d + 2) (al (pO G x y)) A1 _ w2 ⟨Nat.le_refl 9, p3.2.2.2.2.1, fun _ => rfl⟩
    rw [tS_seal] at e2
    have i5 := st_I w3 p4 p6 (t := 1) (by omega) 5
    simp (disch := omega) only [z_bV_some, z_bI_some, z_bJ_some, z_bD_some, z_bR_some, cond_true, cond_false, Bool.and_true, Bool.true_and, Bool.not_false, Bool.not_true, Bool.and_self, Bool.or_true, Bool.false_or, Bool.true_or, zn_ok, zn_ok0, zn_N, zn_add, zn_mul, zn_sub, z_lt_T, z_lt_F, z_le_T, z_le_F, z_eq_T, z_ne_F, z_eq_F, z_ne_T, z_ix_T, z_lt_m, z_le_m, z_lt_m2, z_le_m2, z_eq_m, z_ne_m, zn_div, z_a31, zn_shl, zn_shr, z_bq_T, z_bq_F, z_bl_T, nL_0, hp, pl_F g2, c9 p2.1, p2.2.2.2.2.2.2.1, pl_F g3, w1, c9 w2.1, e2, B_P_done]
    exact cRes_up h p1 (zFr_mono w3 (by omega) (by omega) xS_xcU) w2 (Or.inl w4) (by rw [i5]; exact h.2.2.1)
  · rw [pif_F g, B_P_seal, E_P_stripAt_no _ h w g]
    simp (disch := omega) only [z_bV_some, z_bI_some, z_bJ_some, z_bD_some, z_bR_some, cond_true, cond_false, Bool.and_true, Bool.true_and, Bool.not_false, Bool.not_true, Bool.and_self, Bool.or_true, Bool.false_or, Bool.true_or, zn_ok, zn_ok0, zn_N, zn_add, zn_mul, zn_sub, z_lt_T, z_lt_F, z_le_T, z_le_F, z_eq_T, z_ne_F, z_eq_F, z_ne_T, z_ix_T, z_lt_m, z_le_m, z_lt_m2, z_le_m2, z_eq_m, z_ne_m, zn_div, z_a31, zn_shl, zn_shr, z_bq_T, z_bq_F, z_bl_T, B_P_refuse]
    exact cRes_st h _ _
theorem Q_seal (d : Nat) {pl : Bool} {G : zG} {B : zM} {x y : Int32} (h : rG G B) (w : wG G) (hp : zI B 15 36 = bI pl) : rRes B (oSeal pl G x y) (z_den zQ (d + 5) mQ_seal [.ref 15, .int x, .int y] B) := by
  unfold oSeal
  by_cases g : sOk G x y
  · obtain ⟨p1, p2, p3, p4⟩ := rG_at h w g
    rw [pif_T g, B_Q_seal]
    by_cases g2 : pl = true
    · rw [if_pos g2, E_Q_bars_busy d h w hp g g2]
      simp (disch := omega) only [z_bI_some, nL_0, neg_3, cond_false]
      exact rRes_st h _ _
    rw [if_neg g2]
    by_cases g3 : tL (sA G x y) = true
    · rw [if_pos g3, E_Q_bars_lost d h w hp g g2 g3]
      simp (disch := omega) only [z_bI_some, nL_0, neg_11, cond_false]
      exact rRes_st h _ _
    rw [if_neg g3, E_Q_bars_ok d h w hp g g2 g3]
    have h1 := rG_st h (zn 0)
    have hl : tL (sA G x y) = false := by cases q : tL (sA G x y) <;> simp_all
    have r1 := rT_wI (a := 15) (k := 0) (v := zn 0) p3 (by unfold inR; omega)
    obtain ⟨B1, s1, s2, s3⟩ := E_Q_sealIt d _ _ _ p2 r1 (wT_set9 p4 hl) hl
    have f1 : zFr 0 0 (xrU (pO G x y)) B B1 := zFr_trans (xrU_fr _ _) s3 (fun a k _ hx => Or.inl hx)
    have e13 : zI B1 15 13 = zn (gE G) := by
      rw [zFr_I s3 _ (by have := z_new_ge (z_wI B 15 0 (zn 0)); omega) (by unfold inR; omega), zI_wI_k (by omega)]; exact h.2.2.1
    have hG1 := rG_upd h p1 w.2.1 f1 s2 e13
    have e5 : zI B1 24 (pO G x y) = zn (tS (sA G x y)) := s2.2.2.2.2.2.1
    have ep := E_Q_poolOf (d + 3) hG1 (wG_upd w p1 (wT_seal p4 hl) rfl w.2.2.2.2.2.2) (x := x) (y := y) g
    have ep2 : pO (updT G (pO G x y) (sealT (sA G x y)) (gE G)) x y = pO G x y := rfl
    rw [ep2] at ep
    simp (disch := omega) only [z_bV_some, z_bI_some, z_bJ_some, z_bD_some, z_bR_some, cond_true, cond_false, Bool.and_true, Bool.true_and, Bool.not_false, Bool.not_true, Bool.and_self, Bool.or_true, Bool.false_or, Bool.true_or, zn_ok, zn_ok0, zn_N, zn_add, zn_mul, zn_sub, z_lt_T, z_lt_F, z_le_T, z_le_F, z_eq_T, z_ne_F, z_eq_F, z_ne_T, z_ix_T, z_lt_m, z_le_m, z_lt_m2, z_le_m2, z_eq_m, z_ne_m, zn_div, z_a31, zn_shl, zn_shr, z_bq_T, z_bq_F, z_bl_T, nL_0, E_Q_poolOf _ h1 w g, s1, ep, e5, B_Q_well]
    exact rRes_up h p1 w.2.1 f1 s2 e13
  · rw [pif_F g, B_Q_seal, E_Q_bars_no d h w g]
    simp (disch := omega) only [z_bI_some, nL_0, neg_1, cond_false]
    exact rRes_st h _ _
