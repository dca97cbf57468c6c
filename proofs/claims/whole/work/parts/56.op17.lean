/-! S LEVEL, acts: move, mend: a strip takes another's bytes. -/
theorem zn_as {a b c : Nat} (h : c ≤ a + b) : zn a + (zn b - zn c) = zn (a + b - c) := by
  rw [← zn_sub h, ← zn_add]
  apply Int32.toBitVec_inj.mp
  rw [Int32.toBitVec_add, Int32.toBitVec_sub, Int32.toBitVec_sub, Int32.toBitVec_add, BitVec.sub_eq_add_neg, BitVec.sub_eq_add_neg, BitVec.add_assoc]
theorem zn_sa {a b c : Nat} (h : c ≤ a) : zn a - zn c + zn b = zn (a + b - c) := by
  rw [zn_sub h, zn_add]
  congr 1
  omega
def repG (G : zG) (p q : Nat) : zG := updT G p (copyT (gT G p) (gT G q)) (gE G + tS (gT G q) - tS (gT G p))
theorem wG_rep {G : zG} {p q : Nat} (w : wG G) (hp : p < gN G) (hq : q < gN G) (hk : tK (gT G q) = tK (gT G p)) (h8 : gE G + tS (gT G q) - tS (gT G p) ≤ 8000) : wG (repG G p q) := by
  have := gE_ge w hp
  refine wG_upd w hp (wT_copy (w.2.2.2.2.1 p hp) (w.2.2.2.2.1 q hq) hk) ?_ h8
  show gE G + tS (gT G q) - tS (gT G p) + tS (gT G p) = gE G + tS (gT G q)
  omega
theorem E_P_replaceBytes_no (d : Nat) {G : zG} {al : Nat → Nat} {A : zM} {p q : Nat} (h : cG G al A) (w : wG G) (hp : p < gN G) (hq : q < gN G) (h8 : 8000 < gE G + tS (gT G q) - tS (gT G p)) : z_den zQ (d + 2) mP_replaceBytes [.ref 1, .ref (al p), .ref (al q)] A = some (some (.int (zn 0)), A) := by
  have hE := gE_ge w hp
  have hEm := w.2.2.2.2.2.2
  have hTp := h.2.2.2.2.2.2.1 p hp
  have hTq := h.2.2.2.2.2.2.1 q hq
  have wp := w.2.2.2.2.1 p hp
  have wq := w.2.2.2.2.1 q hq
  have s1 := wp.2.2.2.2.1
  have s2 := wq.2.2.2.2.1
  have e1 := E_S_elements d _ A _ hTq (wT_w0 wq)
  have e2 := E_S_elements d _ A _ hTp (wT_w0 wp)
  have em : z_den zQ (d + 1) mP_tooManyElements [.ref 1, .int (zn (tS (gT G q)) - zn (tS (gT G p)))] A = some (some (.int (zn 1)), A) := by
    rw [B_P_tooManyElements, h.2.2.1, zn_as (by omega), nL_8000, nL_1, z_le_F h8 (by omega)]; rfl
  rw [B_P_replaceBytes, c9 hTq.1, cond_true, e1, z_bI_some, c9 hTp.1, cond_true, e2, z_bI_some, em, z_bI_some, nL_0, z_eq_F (by omega) (by omega) (by omega)]
  rfl
theorem E_P_replaceBytes (d : Nat) {G : zG} {al : Nat → Nat} {A : zM} {p q : Nat} (h : cG G al A) (w : wG G) (hp : p < gN G) (hq : q < gN G) (hk : tK (gT G q) = tK (gT G p)) (h8 : gE G + tS (gT G q) - tS (gT G p) ≤ 8000) : ∃ A', z_den zQ (d + 3) mP_replaceBytes [.ref 1, .ref (al p), .ref (al q)] A = some (some (.int (zn 1)), A') ∧ cG (repG G p q) al A' ∧ zFr 1 1033 (xcS A) A A' ∧ (∀ r, zP zQ A' 2 r = zP zQ A 2 r) ∧ (∀ k, zI A' 3 k = zI A 3 k) := by
  have hE := gE_ge w hp
  have hEm := w.2.2.2.2.2.2
  have hTp := h.2.2.2.2.2.2.1 p hp
  have hTq := h.2.2.2.2.2.2.1 q hq
  have wp := w.2.2.2.2.1 p hp
  have wq := w.2.2.2.2.1 q hq
  have s1 := wp.2.2.2.2.1
  have s2 := wq.2.2.2.2.1
  obtain ⟨m, eb, -⟩ := hTp.2.2.2.2.2.2.2.1
  have la := hd_lt56 hTp.1 (by omega)
  have lb := hd_lt56 eb (by omega)
  have e1 := E_S_elements (d + 1) _ A _ hTq (wT_w0 wq)
  have e2 := E_S_elements (d + 1) _ A _ hTp (wT_w0 wp)
  have em : z_den zQ (d + 2) mP_tooManyElements [.ref 1, .int (zn (tS (gT G q)) - zn (tS (gT G p)))] A = some (some (.int (zn 0)), A) := by
    rw [B_P_tooManyElements, h.2.2.1, zn_as (by omega), nL_8000, nL_0, z_le_T h8 (by omega)]; rfl
  obtain ⟨A1, t1, t2, t3, t4⟩ := E_S_takeBytes d (al p) (al q) A _ _ hTp hTq wp wq hk h.2.2.2.2.2.2.2.2
  have i5 := st_I t3 la lb (t := 1) (by omega) 5
  have g56 := z_new_ge A
  have f1 : zFr 1 1033 (xcU (al p) (zP zQ A (al p) 4)) A (z_wI A1 1 5 (zn (gE G + tS (gT G q) - tS (gT G p)))) := zFr_mono (zFr_trans (zFr_mono t3 (Nat.le_refl _) (Nat.le_refl _) xS_xcU) (w1_xcU (by omega)) (fun _ _ _ h => h)) (by omega) (by omega) (fun _ _ h => h)
  have lb1 : 56 ≤ zP zQ A1 (al p) 4 := by rcases t4 with t4 | t4 <;> omega
  refine ⟨z_wI A1 1 5 (zn (gE G + tS (gT G q) - tS (gT G p))), ?_, ?_, zFr_mono f1 (Nat.le_refl _) (Nat.le_refl _) (xcU_xcS hTp.1 eb), fun r => ?_, fun k => ?_⟩
  · rw [B_P_replaceBytes, c9 hTq.1, cond_true, e1, z_bI_some, c9 hTp.1, cond_true, e2, z_bI_some, em, z_bI_some, nL_0, z_eq_T, cond_true, c9 hTp.1, cond_true, t1, z_bV_some, i5, h.2.2.1, zn_as (by omega), nL_1]
  · exact cG_upd h hp f1 (cT_w1 t2 la lb1 (by omega)) (by rw [zP_wI]; rcases t4 with t4 | t4; exact Or.inl t4; exact Or.inr (by omega)) (zI_wI_s _ _ _ _)
  · exact zFr_P f1 _ (by omega) (fun hx => by rcases hx with (hx | hx) | hx <;> omega)
  · exact zFr_I f1 _ (by omega) (fun hx => by rcases hx with (hx | hx) | hx <;> omega)
/-- a place of a roll, any number -/
theorem E_L_sa_ok (d : Nat) {G : zG} {al : Nat → Nat} {A : zM} {r : Nat} {y : Int32} (h : cG G al A) (w : wG G) (hr : r < gR G) (g : sOk G (zn r) y) : z_den zQ (d + 1) mL_stripAt [.ref (zP zQ A 2 r), .int y] A = some (some (.ref (al (pO G (zn r) y))), A) := by
  have hR := w.1
  obtain ⟨y0, y1⟩ := g.2
  obtain ⟨s, hs, rfl⟩ := zn_ex y0
  rw [zn_toInt hs, zn_N (by omega)] at y1
  rw [E_L_at d h w hr (by omega)]
  unfold pO
  rw [zn_N (by omega), zn_N hs]
theorem E_L_sa_no (d : Nat) {G : zG} {al : Nat → Nat} {A : zM} {r : Nat} {y : Int32} (h : cG G al A) (w : wG G) (hr : r < gR G) (g : ¬ sOk G (zn r) y) : z_den zQ (d + 1) mL_stripAt [.ref (zP zQ A 2 r), .int y] A = some (some (.ref 0), A) := by
  have hR := w.1
  obtain ⟨q, q0, hz⟩ := cG_ro h w hr
  refine E_L_stripAt_no d q (by omega) ?_
  by_cases e : y.toInt < 0
  · exact Or.inl e
  · refine Or.inr ?_
    by_cases e2 : y.toInt < gZ G r
    · exact absurd ⟨rOk_nat w hr, by omega, by rw [zn_N (by omega)]; exact e2⟩ g
    · omega
noncomputable def hnF (G : zG) (x y x' y' : Int32) : Int32 := pif (sOk G x y ∧ sOk G x' y') (if tL (sA G x y) = true ∨ tL (sA G x' y') = true then zn 1 else if tK (sA G x y) ≠ tK (sA G x' y') then zn 5 else if 8000 < gE G + tS (sA G x y) - tS (sA G x' y') then -2 else zn 0) (zn 2)
theorem neg2_ne : (-2 : Int32) ≠ zn 0 := by rw [← nL_0]; decide
theorem hn_ok {G : zG} {x y x' y' : Int32} (h : hnF G x y x' y' = zn 0) : sOk G x y ∧ sOk G x' y' ∧ ¬ tL (sA G x y) = true ∧ ¬ tL (sA G x' y') = true ∧ tK (sA G x y) = tK (sA G x' y') ∧ gE G + tS (sA G x y) - tS (sA G x' y') ≤ 8000 := by
  unfold hnF at h
  by_cases g : sOk G x y ∧ sOk G x' y'
  · rw [pif_T g] at h
    by_cases g1 : tL (sA G x y) = true ∨ tL (sA G x' y') = true
    · rw [if_pos g1] at h; have := zn_inj (by omega) (by omega) h; omega
    · rw [if_neg g1] at h
      by_cases g2 : tK (sA G x y) ≠ tK (sA G x' y')
      · rw [if_pos g2] at h; have := zn_inj (by omega) (by omega) h; omega
      · rw [if_neg g2] at h
        by_cases g3 : 8000 < gE G + tS (sA G x y) - tS (sA G x' y')
        · rw [if_pos g3] at h; exact absurd h neg2_ne
        · exact ⟨g.1, g.2, fun q => g1 (Or.inl q), fun q => g1 (Or.inr q), Decidable.of_not_not g2, by omega⟩
  · rw [pif_F g] at h; have := zn_inj (by omega) (by omega) h; omega
def repS (G : zG) (x y x' y' : Int32) : zG := repG G (pO G x' y') (pO G x y)
theorem E_P_moveOne (d : Nat) {G : zG} {al : Nat → Nat} {A : zM} {x y x' y' : Int32} (h : cG G al A) (w : wG G) : ∃ A', z_den zQ (d + 4) mP_moveOne [.ref 1, .ref (pif (sOk G x y) (al (pO G x y)) 0), .ref (pif (sOk G x' y') (al (pO G x' y')) 0)] A = some (some (.int (hnF G x y x' y')), A') ∧ cG (pif (hnF G x y x' y' = zn 0) (repS G x y x' y') G) al A' ∧ zFr 1 1033 (xcS A) A A' ∧ (∀ r, zP zQ A' 2 r = zP zQ A 2 r) ∧ (∀ k, zI A' 3 k = zI A 3 k) := by
  have stay : ∀ v : Int32, v ≠ zn 0 → hnF G x y x' y' = v → z_den zQ (d + 4) mP_moveOne [.ref 1, .ref (pif (sOk G x y) (al (pO G x y)) 0), .ref (pif (sOk G x' y') (al (pO G x' y')) 0)] A = some (some (.int v), A) → ∃ A', z_den zQ (d + 4) mP_moveOne [.ref 1, .ref (pif (sOk G x y) (al (pO G x y)) 0), .ref (pif (sOk G x' y') (al (pO G x' y')) 0)] A = some (some (.int (hnF G x y x' y')), A') ∧ cG (pif (hnF G x y x' y' = zn 0) (repS G x y x' y') G) al A' ∧ zFr 1 1033 (xcS A) A A' ∧ (∀ r, zP zQ A' 2 r = zP zQ A 2 r) ∧ (∀ k, zI A' 3 k = zI A 3 k) := by
    intro v hv e1 e2
    refine ⟨A, by rw [e1]; exact e2, ?_, zFr_mono (zFr_refl _ _) (by omega) (by omega) (fun _ _ h => h), fun _ => rfl, fun _ => rfl⟩
    rw [pif_F (by rw [e1]; exact hv)]; exact h
  have z12 : zn 2 ≠ zn 0 := fun e => by have := zn_inj (by omega) (by omega) e; omega
  have z11 : zn 1 ≠ zn 0 := fun e => by have := zn_inj (by omega) (by omega) e; omega
  have z15 : zn 5 ≠ zn 0 := fun e => by have := zn_inj (by omega) (by omega) e; omega
  by_cases g1 : sOk G x y
  · obtain ⟨p1, p2, p3, p4, -⟩ := cG_at h w g1
    have n1 := hd_n0 p2.1 (by decide)
    by_cases g2 : sOk G x' y'
    · obtain ⟨v1, v2, v3, v4, -⟩ := cG_at h w g2
      have n2 := hd_n0 v2.1 (by decide)
      have k0 := p2.2.1
      have l0 := v2.2.1
      have b1 := p3.1
      have b2 := v3.1
      by_cases g3 : tL (sA G x y) = true
      · refine stay (zn 1) z11 (by unfold hnF; rw [pif_T ⟨g1, g2⟩, if_pos (Or.inl g3)]) ?_
        rw [pif_T g1, pif_T g2, B_P_moveOne]
        simp (disch := omega) only [z_bV_some, z_bI_some, z_bJ_some, z_bD_some, z_bR_some, cond_true, cond_false, Bool.and_true, Bool.true_and, Bool.not_false, Bool.not_true, Bool.and_self, Bool.or_true, Bool.false_or, Bool.true_or, zn_ok, zn_ok0, zn_N, zn_add, zn_mul, zn_sub, z_lt_T, z_lt_F, z_le_T, z_le_F, z_eq_T, z_ne_F, z_eq_F, z_ne_T, z_ix_T, z_lt_m, z_le_m, z_lt_m2, z_le_m2, z_eq_m, z_ne_m, zn_div, z_a31, zn_shl, zn_shr, z_bq_T, z_bq_F, z_bl_T, nL_0, nL_1, c9 p2.1, p2.2.2.2.2.2.2.1, pl_T' g3]
      by_cases g4 : tL (sA G x' y') = true
      · refine stay (zn 1) z11 (by unfold hnF; rw [pif_T ⟨g1, g2⟩, if_pos (Or.inr g4)]) ?_
        rw [pif_T g1, pif_T g2, B_P_moveOne]
        simp (disch := omega) only [z_bV_some, z_bI_some, z_bJ_some, z_bD_some, z_bR_some, cond_true, cond_false, Bool.and_true, Bool.true_and, Bool.not_false, Bool.not_true, Bool.and_self, Bool.or_true, Bool.false_or, Bool.true_or, zn_ok, zn_ok0, zn_N, zn_add, zn_mul, zn_sub, z_lt_T, z_lt_F, z_le_T, z_le_F, z_eq_T, z_ne_F, z_eq_F, z_ne_T, z_ix_T, z_lt_m, z_le_m, z_lt_m2, z_le_m2, z_eq_m, z_ne_m, zn_div, z_a31, zn_shl, zn_shr, z_bq_T, z_bq_F, z_bl_T, nL_0, nL_1, c9 p2.1, p2.2.2.2.2.2.2.1, pl_F' g3, c9 v2.1, v2.2.2.2.2.2.2.1, pl_T g4]
      have g34 : ¬ (tL (sA G x y) = true ∨ tL (sA G x' y') = true) := fun q => q.elim g3 g4
      by_cases g5 : tK (sA G x y) = tK (sA G x' y')
      · have q5 : z_eq (zn (tK (sA G x y))) (zn (tK (sA G x' y'))) = true := by rw [g5]; exact z_eq_T _
        by_cases g6 : 8000 < gE G + tS (sA G x y) - tS (sA G x' y')
        · refine stay (-2) neg2_ne (by unfold hnF; rw [pif_T ⟨g1, g2⟩, if_neg g34, if_neg (fun q => q g5), if_pos g6]) ?_
          have e1 := E_P_replaceBytes_no (d + 1) h w v1 p1 g6
          rw [pif_T g1, pif_T g2, B_P_moveOne]
          simp (disch := omega) only [z_bV_some, z_bI_some, z_bJ_some, z_bD_some, z_bR_some, cond_true, cond_false, Bool.and_true, Bool.true_and, Bool.not_false, Bool.not_true, Bool.and_self, Bool.or_true, Bool.false_or, Bool.true_or, zn_ok, zn_ok0, zn_N, zn_add, zn_mul, zn_sub, z_lt_T, z_lt_F, z_le_T, z_le_F, z_eq_T, z_ne_F, z_eq_F, z_ne_T, z_ix_T, z_lt_m, z_le_m, z_lt_m2, z_le_m2, z_eq_m, z_ne_m, zn_div, z_a31, zn_shl, zn_shr, z_bq_T, z_bq_F, z_bl_T, nL_0, nL_1, c9 p2.1, p2.2.2.2.2.2.2.1, pl_F' g3, c9 v2.1, v2.2.2.2.2.2.2.1, pl_F g4, k0, l0, q5, e1]
        · have hh : hnF G x y x' y' = zn 0 := by unfold hnF; rw [pif_T ⟨g1, g2⟩, if_neg g34, if_neg (fun q => q g5), if_neg g6]
          obtain ⟨A', e1, e2, e3, e4, e5⟩ := E_P_replaceBytes d h w v1 p1 g5 (Nat.le_of_not_lt g6)
          refine ⟨A', ?_, ?_, e3, e4, e5⟩
          · rw [hh, pif_T g1, pif_T g2, B_P_moveOne]
            simp (disch := omega) only [z_bV_some, z_bI_some, z_bJ_some, z_bD_some, z_bR_some, cond_true, cond_false, Bool.and_true, Bool.true_and, Bool.not_false, Bool.not_true, Bool.and_self, Bool.or_true, Bool.false_or, Bool.true_or, zn_ok, zn_ok0, zn_N, zn_add, zn_mul, zn_sub, z_lt_T, z_lt_F, z_le_T, z_le_F, z_eq_T, z_ne_F, z_eq_F, z_ne_T, z_ix_T, z_lt_m, z_le_m, z_lt_m2, z_le_m2, z_eq_m, z_ne_m, zn_div, z_a31, zn_shl, zn_shr, z_bq_T, z_bq_F, z_bl_T, nL_0, nL_1, c9 p2.1, p2.2.2.2.2.2.2.1, pl_F' g3, c9 v2.1, v2.2.2.2.2.2.2.1, pl_F g4, k0, l0, q5, e1]
          · rw [pif_T hh]; exact e2
      · refine stay (zn 5) z15 (by unfold hnF; rw [pif_T ⟨g1, g2⟩, if_neg g34, if_pos g5]) ?_
        rw [pif_T g1, pif_T g2, B_P_moveOne]
        simp (disch := omega) only [z_bV_some, z_bI_some, z_bJ_some, z_bD_some, z_bR_some, cond_true, cond_false, Bool.and_true, Bool.true_and, Bool.not_false, Bool.not_true, Bool.and_self, Bool.or_true, Bool.false_or, Bool.true_or, zn_ok, zn_ok0, zn_N, zn_add, zn_mul, zn_sub, z_lt_T, z_lt_F, z_le_T, z_le_F, z_eq_T, z_ne_F, z_eq_F, z_ne_T, z_ix_T, z_lt_m, z_le_m, z_lt_m2, z_le_m2, z_eq_m, z_ne_m, zn_div, z_a31, zn_shl, zn_shr, z_bq_T, z_bq_F, z_bl_T, nL_0, nL_1, nL_5, c9 p2.1, p2.2.2.2.2.2.2.1, pl_F' g3, c9 v2.1, v2.2.2.2.2.2.2.1, pl_F g4, k0, l0]
    · refine stay (zn 2) z12 (by unfold hnF; rw [pif_F (fun q => g2 q.2)]) ?_
      rw [pif_T g1, pif_F g2, B_P_moveOne]
      simp (disch := omega) only [z_bV_some, z_bI_some, z_bJ_some, z_bD_some, z_bR_some, cond_true, cond_false, Bool.and_true, Bool.true_and, Bool.not_false, Bool.not_true, Bool.and_self, Bool.or_true, Bool.false_or, Bool.true_or, zn_ok, zn_ok0, zn_N, zn_add, zn_mul, zn_sub, z_lt_T, z_lt_F, z_le_T, z_le_F, z_eq_T, z_ne_F, z_eq_F, z_ne_T, z_ix_T, z_lt_m, z_le_m, z_lt_m2, z_le_m2, z_eq_m, z_ne_m, zn_div, z_a31, zn_shl, zn_shr, z_bq_T, z_bq_F, z_bl_T, nL_0, nL_2]
  · refine stay (zn 2) z12 (by unfold hnF; rw [pif_F (fun q => g1 q.1)]) ?_
    rw [pif_F g1, B_P_moveOne]
    simp (disch := omega) only [z_bV_some, z_bI_some, z_bJ_some, z_bD_some, z_bR_some, cond_true, cond_false, Bool.and_true, Bool.true_and, Bool.not_false, Bool.not_true, Bool.and_self, Bool.or_true, Bool.false_or, Bool.true_or, zn_ok, zn_ok0, zn_N, zn_add, zn_mul, zn_sub, z_lt_T, z_lt_F, z_le_T, z_le_F, z_eq_T, z_ne_F, z_eq_F, z_ne_T, z_ix_T, z_lt_m, z_le_m, z_lt_m2, z_le_m2, z_eq_m, z_ne_m, zn_div, z_a31, zn_shl, zn_shr, z_bq_T, z_bq_F, z_bl_T, nL_0, nL_2]
