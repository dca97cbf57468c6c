/-! S LEVEL, acts: roll, strip. -/
theorem cRes_K {c s : Nat} {A A' : zM} {G : zG} {al : Nat → Nat} {x v : Int32} (hf : zFr c s (xcS A) A A') (h1 : zI A' 1 3 = zn (gR G)) (h2 : zI A' 1 4 = zn (gN G)) (h3 : zI A' 1 5 = zn (gE G)) (hK : cK (gR G) (gZ G) (fun r s => s < gZ G r) (gO G) (gN G) (gT G) al A') : cRes c s A (x, v, G) (some (some (.int x), z_wI A' 1 7 v)) := by
  have hG : cG G al A' := (cG_iff G al A').mpr ⟨h1, h2, h3, hK⟩
  have f2 : zFr 0 0 (fun a k => a = 1 ∧ k = 7) A' (z_wI A' 1 7 v) := zFr_wI ⟨rfl, rfl⟩
  refine ⟨_, al, rfl, cG_fr f2 hG ?_ ?_ ?_, zI_wI_s _ _ _ _, ?_⟩
  · omega
  · intro k hk; omega
  · intro a k t n ha ht hx
    have := hd_lt56 ha ht
    omega
  · exact zFr_mono (zFr_trans hf f2 (fun a k _ hx => by rw [hx.1, hx.2]; exact xcS_st A)) (by omega) (by omega) (fun _ _ h => h)
theorem rRes_K {B B' : zM} {G : zG} {x v : Int32} (hf : zFr 0 0 xrS B B') (h : rG G B') : rRes B (x, v, G) (some (some (.int x), z_wI B' 15 0 v)) := by
  have f2 : zFr 0 0 (fun a k => a = 15 ∧ k = 0) B' (z_wI B' 15 0 v) := zFr_wI ⟨rfl, rfl⟩
  refine ⟨_, rfl, rG_fr f2 h (by omega) (fun a k h1 h2 h3 => by omega), zI_wI_s _ _ _ _, ?_⟩
  exact zFr_trans hf f2 (fun a k _ hx => Or.inl ⟨hx.1, by omega⟩)
theorem xN_any {c s : Nat} {X : Nat → Nat → Prop} {A A' : zM} (h : zFr c s xN A A') : zFr c s X A A' := zFr_mono h (Nat.le_refl _) (Nat.le_refl _) (fun _ _ q => False.elim q)
def addR (G : zG) : zG := (gR G + 1, fun r => if r = gR G then 0 else gZ G r, gO G, gN G, gT G, gE G)
noncomputable def oRoll (pl : Bool) (G : zG) : Int32 × Int32 × zG := if pl = true then (-3, -3, G) else if gR G = 20 then (-2, -2, G) else (zn (gR G), zn 0, addR G)
theorem wG_addR {G : zG} (w : wG G) (h : ¬ gR G = 20) : wG (addR G) := by
  obtain ⟨w1, w2, w3, w4, w5, w6, w7⟩ := w
  refine ⟨?_, w2, ?_, fun r s hr hs => ?_, w5, w6, w7⟩
  · show gR G + 1 ≤ 20; omega
  · show sumN (fun r => if r = gR G then 0 else gZ G r) (gR G) + (if gR G = gR G then 0 else gZ G (gR G)) = gN G
    rw [if_pos rfl, sumN_congr (g := gZ G) _ (fun i hi => if_neg (by omega))]
    exact w3
  · have hs : s < if r = gR G then 0 else gZ G r := hs
    have hr : r < gR G + 1 := hr
    by_cases e : r = gR G
    · rw [if_pos e] at hs; omega
    · rw [if_neg e] at hs; exact w4 r s (by omega) hs
theorem P_roll (d : Nat) {pl : Bool} {G : zG} {al : Nat → Nat} {A : zM} (h : cG G al A) (w : wG G) (hp : zI A 3 15 = bI pl) : cRes 2 402 A (oRoll pl G) (z_den zQ (d + 2) mP_roll [.ref 1] A) := by
  unfold oRoll
  rw [B_P_roll]
  by_cases g2 : pl = true
  · rw [if_pos g2]
    simp (disch := omega) only [z_bV_some, z_bI_some, z_bJ_some, z_bD_some, z_bR_some, cond_true, cond_false, Bool.and_true, Bool.true_and, Bool.not_false, Bool.not_true, Bool.and_self, Bool.or_true, Bool.false_or, Bool.true_or, zn_ok, zn_ok0, zn_N, zn_add, zn_mul, zn_sub, z_lt_T, z_lt_F, z_le_T, z_le_F, z_eq_T, z_ne_F, z_eq_F, z_ne_T, z_ix_T, z_lt_m, z_le_m, z_lt_m2, z_le_m2, z_eq_m, z_ne_m, zn_div, z_a31, zn_shl, zn_shr, z_bq_T, z_bq_F, z_bl_T, nL_0, hp, pl_T g2, B_P_refuse]
    exact cRes_st h _ _
  rw [if_neg g2]
  have hR := w.1
  have i3 := h.1
  by_cases g : gR G = 20
  · rw [if_pos g]
    simp (disch := omega) only [z_bV_some, z_bI_some, z_bJ_some, z_bD_some, z_bR_some, cond_true, cond_false, Bool.and_true, Bool.true_and, Bool.not_false, Bool.not_true, Bool.and_self, Bool.or_true, Bool.false_or, Bool.true_or, zn_ok, zn_ok0, zn_N, zn_add, zn_mul, zn_sub, z_lt_T, z_lt_F, z_le_T, z_le_F, z_eq_T, z_ne_F, z_eq_F, z_ne_T, z_ix_T, z_lt_m, z_le_m, z_lt_m2, z_le_m2, z_eq_m, z_ne_m, zn_div, z_a31, zn_shl, zn_shr, z_bq_T, z_bq_F, z_bl_T, nL_0, nL_20, hp, pl_F g2, i3, B_P_refuse]
    exact cRes_st h _ _
  rw [if_neg g]
  have g56 := z_new_ge A
  obtain ⟨A1, e1, e2, e3, e4⟩ := E_newRoll d A
  have h0 : z_hd zQ (z_nw zQ A (8, 2)) (z_new zQ A) = some (8, 2) := z_hd_nw_s _ _
  have j3 : zI A1 1 3 = zn (gR G) := by rw [zFr_I e4 _ (by omega) (fun q => q)]; exact i3
  have j4 : zI A1 1 4 = zn (gN G) := by rw [zFr_I e4 _ (by omega) (fun q => q)]; exact h.2.1
  have j5 : zI A1 1 5 = zn (gE G) := by rw [zFr_I e4 _ (by omega) (fun q => q)]; exact h.2.2.1
  simp (disch := omega) only [z_bV_some, z_bI_some, z_bJ_some, z_bD_some, z_bR_some, cond_true, cond_false, Bool.and_true, Bool.true_and, Bool.not_false, Bool.not_true, Bool.and_self, Bool.or_true, Bool.false_or, Bool.true_or, zn_ok, zn_ok0, zn_N, zn_add, zn_mul, zn_sub, z_lt_T, z_lt_F, z_le_T, z_le_F, z_eq_T, z_ne_F, z_eq_F, z_ne_T, z_ix_T, z_lt_m, z_le_m, z_lt_m2, z_le_m2, z_eq_m, z_ne_m, zn_div, z_a31, zn_shl, zn_shr, z_bq_T, z_bq_F, z_bl_T, zI_put_a, zP_put, zD_put, z_hd_put, z_cls_put, z_ia_put, z_ln_put, z_new_put, zI_wI_s, zI_wP, zI_wD, zD_wI, zD_wP, zD_wD_s, zP_wI, zP_wD, z_hd_wI, z_hd_wP, z_hd_wD, z_hd_cpy, z_cls_wI, z_cls_wP, z_cls_wD, z_cls_cpy, z_ia_wI, z_ia_wP, z_ia_wD, z_ia_cpy, z_ln_wI, z_ln_wP, z_ln_wD, z_ln_cpy, z_new_wI, z_new_wP, z_new_wD, z_new_cpy, z_new_nw, zP_cpy, zI_uI_s, zP_uI, zD_uI, z_hd_uI, z_cls_uI, z_ia_uI, z_ln_uI, z_new_uI, zI_wI_a, zI_wI_k, zI_uI_a, zI_cpy_a, zP_wP_s, zP_wP_a, zP_wP_k, nL_0, nL_20, nL_1, hp, pl_F g2, i3, c8 h0, e1, c8 e2.1, j3, B_P_done, Nat.add_sub_cancel]
  have t1 : zFr 0 0 (fun a k => a = 2 ∧ k = gR G) A1 (z_wP A1 2 (gR G) (z_new zQ A)) := zFr_wP ⟨rfl, rfl⟩
  have tk := zFr_trans (xN_any (X := fun a k => a = 2 ∧ k = gR G) e4) t1 (fun _ _ _ h => h)
  have p2 : zP zQ (z_wP A1 2 (gR G) (z_new zQ A)) 2 (gR G) = z_new zQ A := zP_wP_s (by omega) (by omega) (by omega)
  have pr : zP zQ (z_wP A1 2 (gR G) (z_new zQ A)) (z_new zQ A) 0 = z_new zQ A + 1 := by rw [zP_wP_a (by omega)]; exact e3
  have k1 := cK_roll (D' := fun _ => False) (O' := fun _ => 0) tk ((cG_iff G al A).mp h).2.2.2 p2 (n := 0) ⟨e2.1, by rw [pr, z_hd_wP, ← e3]; exact e2.2.1, e2.2.2⟩ (Nat.le_refl _) (by rw [pr]; omega) (fun _ q => False.elim q)
  have k2 := cK_fr (zFr_wI (X := fun a k => a = 1 ∧ k = 3) (A := z_wP A1 2 (gR G) (z_new zQ A)) (v := zn (gR G + 1)) ⟨rfl, rfl⟩) k1 (fun k q => by omega) (fun a k t n ha ht q => by have := hd_lt56 ha ht; omega)
  refine cRes_K (G := addR G) ?_ ?_ ?_ ?_ (cK_D k2 (fun r hr => rfl) (fun r s hr hd => ?_) (fun p hp => rfl))
  · exact zFr_mono (zFr_trans (zFr_trans (xN_any e4) (zFr_wP (X := xcS A) (Or.inr (Or.inl ⟨rfl, by rw [h.1, zn_N (by omega)]; exact Nat.le_refl _⟩))) (fun _ _ _ h => h)) (zFr_wI (X := xcS A) (Or.inl ⟨rfl, by omega⟩)) (fun _ _ _ h => h)) (by omega) (by omega) (fun _ _ h => h)
  · rw [zI_wI_s]; rfl
  · rw [zI_wI_k (by omega), zI_wP]; exact j4
  · rw [zI_wI_k (by omega), zI_wP]; exact j5
  · have hd : s < if r = gR G then 0 else gZ G r := hd
    by_cases e : r = gR G
    · rw [if_pos e] at hd; omega
    · rw [if_neg e] at hd
      exact ⟨by show if r = gR G then False else s < gZ G r; rw [if_neg e]; exact hd, by show gO G r s = if r = gR G then 0 else gO G r s; rw [if_neg e]⟩
theorem Q_roll (d : Nat) {pl : Bool} {G : zG} {B : zM} (h : rG G B) (w : wG G) (hp : zI B 15 36 = bI pl) : rRes B (oRoll pl G) (z_den zQ (d + 2) mQ_roll [.ref 15] B) := by
  unfold oRoll
  rw [B_Q_roll]
  by_cases g2 : pl = true
  · rw [if_pos g2]
    simp (disch := omega) only [z_bV_some, z_bI_some, z_bJ_some, z_bD_some, z_bR_some, cond_true, cond_false, Bool.and_true, Bool.true_and, Bool.not_false, Bool.not_true, Bool.and_self, Bool.or_true, Bool.false_or, Bool.true_or, zn_ok, zn_ok0, zn_N, zn_add, zn_mul, zn_sub, z_lt_T, z_lt_F, z_le_T, z_le_F, z_eq_T, z_ne_F, z_eq_F, z_ne_T, z_ix_T, z_lt_m, z_le_m, z_lt_m2, z_le_m2, z_eq_m, z_ne_m, zn_div, z_a31, zn_shl, zn_shr, z_bq_T, z_bq_F, z_bl_T, nL_0, hp, pl_T g2, B_Q_no]
    exact rRes_st h _ _
  rw [if_neg g2]
  have hR := w.1
  have i1 := h.1
  by_cases g : gR G = 20
  · rw [if_pos g]
    rw [g] at i1
    simp (disch := omega) only [z_bV_some, z_bI_some, z_bJ_some, z_bD_some, z_bR_some, cond_true, cond_false, Bool.and_true, Bool.true_and, Bool.not_false, Bool.not_true, Bool.and_self, Bool.or_true, Bool.false_or, Bool.true_or, zn_ok, zn_ok0, zn_N, zn_add, zn_mul, zn_sub, z_lt_T, z_lt_F, z_le_T, z_le_F, z_eq_T, z_ne_F, z_eq_F, z_ne_T, z_ix_T, z_lt_m, z_le_m, z_lt_m2, z_le_m2, z_eq_m, z_ne_m, zn_div, z_a31, zn_shl, zn_shr, z_bq_T, z_bq_F, z_bl_T, nL_0, nL_20, hp, pl_F g2, i1, B_Q_no]
    exact rRes_st h _ _
  rw [if_neg g]
  simp (disch := omega) only [z_bV_some, z_bI_some, z_bJ_some, z_bD_some, z_bR_some, cond_true, cond_false, Bool.and_true, Bool.true_and, Bool.not_false, Bool.not_true, Bool.and_self, Bool.or_true, Bool.false_or, Bool.true_or, zn_ok, zn_ok0, zn_N, zn_add, zn_mul, zn_sub, z_lt_T, z_lt_F, z_le_T, z_le_F, z_eq_T, z_ne_F, z_eq_F, z_ne_T, z_ix_T, z_lt_m, z_le_m, z_lt_m2, z_le_m2, z_eq_m, z_ne_m, zn_div, z_a31, zn_shl, zn_shr, z_bq_T, z_bq_F, z_bl_T, zI_put_a, zP_put, zD_put, z_hd_put, z_cls_put, z_ia_put, z_ln_put, z_new_put, zI_wI_s, zI_wP, zI_wD, zD_wI, zD_wP, zD_wD_s, zP_wI, zP_wD, z_hd_wI, z_hd_wP, z_hd_wD, z_hd_cpy, z_cls_wI, z_cls_wP, z_cls_wD, z_cls_cpy, z_ia_wI, z_ia_wP, z_ia_wD, z_ia_cpy, z_ln_wI, z_ln_wP, z_ln_wD, z_ln_cpy, z_new_wI, z_new_wP, z_new_wD, z_new_cpy, z_new_nw, zP_cpy, zI_uI_s, zP_uI, zD_uI, z_hd_uI, z_cls_uI, z_ia_uI, z_ln_uI, z_new_uI, zI_wI_a, zI_wI_k, zI_uI_a, zI_cpy_a, zP_wP_s, zP_wP_a, zP_wP_k, nL_0, nL_20, nL_1, hp, pl_F g2, i1, B_Q_well, Nat.add_sub_cancel]
  refine rRes_K (G := addR G) (zFr_wI (Or.inl ⟨rfl, by omega⟩)) ?_
  obtain ⟨a1, a2, a3, a4, a5, a6, a7, a8⟩ := h
  have rt : ∀ p T, rT B p T → rT (z_wI B 15 1 (zn (gR G + 1))) p T := fun p T q => rT_wI q (by unfold inR; omega)
  refine ⟨?_, ?_, ?_, fun r hr => ?_, fun r hr hr2 => ?_, fun r s hr hs => ?_, fun p hp => rt _ _ (a7 p hp), fun p hp hp2 => rt _ _ (a8 p hp hp2)⟩
  · rw [zI_wI_s]; rfl
  · rw [zI_wI_k (by omega)]; exact a2
  · rw [zI_wI_k (by omega)]; exact a3
  · rw [zI_wI_a (by omega)]
    have hr : r < gR G + 1 := hr
    show _ = zn (if r = gR G then 0 else gZ G r)
    by_cases e : r = gR G
    · rw [if_pos e, e]; exact a5 _ (Nat.le_refl _) (by omega)
    · rw [if_neg e]; exact a4 r (by omega)
  · rw [zI_wI_a (by omega)]
    have hr : gR G + 1 ≤ r := hr
    exact a5 r (by omega) hr2
  · rw [zI_wI_a (by omega)]
    have hr : r < gR G + 1 := hr
    have hs : s < if r = gR G then 0 else gZ G r := hs
    by_cases e : r = gR G
    · rw [if_pos e] at hs; omega
    · rw [if_neg e] at hs; exact a6 r s (by omega) hs
/-- a strip comes behind a roll's -/
def addS (G : zG) (r : Nat) (T : zT) : zG := (gR G, fun r' => if r' = r then gZ G r + 1 else gZ G r', fun r' s => if r' = r ∧ s = gZ G r then gN G else gO G r' s, gN G + 1, fun p => if p = gN G then T else gT G p, gE G + tS T)
theorem wG_addS {G : zG} {r : Nat} {T : zT} (w : wG G) (hr : r < gR G) (hn : gN G < 400) (hT : wT T) (he : gE G + tS T ≤ 8000) : wG (addS G r T) := by
  obtain ⟨w1, w2, w3, w4, w5, w6, w7⟩ := w
  refine ⟨w1, ?_, ?_, fun r' s hr' hs => ?_, fun p hp => ?_, ?_, he⟩
  · show gN G + 1 ≤ 400; omega
  · show sumN (fun r' => if r' = r then gZ G r + 1 else gZ G r') (gR G) = gN G + 1
    have := sumN_upd (f := gZ G) (p := r) (v := gZ G r + 1) (gR G) hr
    omega
  · show (if r' = r ∧ s = gZ G r then gN G else gO G r' s) < gN G + 1
    have hs : s < if r' = r then gZ G r + 1 else gZ G r' := hs
    have hr' : r' < gR G := hr'
    by_cases e : r' = r ∧ s = gZ G r
    · rw [if_pos e]; omega
    · rw [if_neg e]
      have : s < gZ G r' := by
        by_cases e1 : r' = r
        · rw [if_pos e1] at hs
          have : s ≠ gZ G r := fun q => e ⟨e1, q⟩
          rw [e1]; omega
        · rw [if_neg e1] at hs; exact hs
      have := w4 r' s hr' this
      omega
  · show wT (if p = gN G then T else gT G p)
    have hp : p < gN G + 1 := hp
    by_cases e : p = gN G
    · rw [if_pos e]; exact hT
    · rw [if_neg e]; exact w5 p (by omega)
  · show gE G + tS T = sumN (fun p => tS (if p = gN G then T else gT G p)) (gN G) + tS (if gN G = gN G then T else gT G (gN G))
    rw [if_pos rfl, sumN_congr (g := fun p => tS (gT G p)) _ (fun i hi => by rw [if_neg (by omega)]), ← w6]
noncomputable def oStrip (pl : Bool) (G : zG) (x k m n t : Int32) : Int32 × Int32 × zG := pif (rOk G x ∧ (0 ≤ k.toInt ∧ k.toInt ≤ 3) ∧ (0 ≤ m.toInt ∧ m.toInt ≤ 30000) ∧ n.toInt ≤ 256 ∧ (0 ≤ t.toInt ∧ t.toInt ≤ 256)) (if pl = true then (-3, -3, G) else pif (gN G = 400 ∨ (8000 : Int) < gE G + n.toInt) (-2, -2, G) (pif (n.toInt < 0) ((-10) - zn 3, zn 3, G) (zn (gZ G x.toNatClampNeg), zn 0, addS G x.toNatClampNeg (sealT (newT k.toNatClampNeg m.toNatClampNeg t.toNatClampNeg n.toNatClampNeg))))) (-1, -1, G)
theorem E_L_append (d ρ n a : Nat) (A : zM) (h : cRo A ρ n) (hn : n < 400) (ha : z_hd zQ A a = some (9, 7)) : z_den zQ (d + 1) mL_append [.ref ρ, .ref a] A = some (none, z_wI (z_wP A (zP zQ A ρ 0) n a) ρ 1 (zn (n + 1))) := by
  have l18 := hd_lt56 h.2.1 (by omega)
  have hf := z_free_T (a := zP zQ A ρ 0) (k := n) (by omega) (by omega) (by omega)
  rw [B_L_append, h.2.2]
  simp (disch := omega) only [z_bV_some, z_bI_some, z_bJ_some, z_bD_some, z_bR_some, cond_true, cond_false, Bool.and_true, Bool.true_and, Bool.not_false, Bool.not_true, Bool.and_self, Bool.or_true, Bool.false_or, Bool.true_or, zn_ok, zn_ok0, zn_N, zn_add, zn_mul, zn_sub, z_lt_T, z_lt_F, z_le_T, z_le_F, z_eq_T, z_ne_F, z_eq_F, z_ne_T, z_ix_T, z_lt_m, z_le_m, z_lt_m2, z_le_m2, z_eq_m, z_ne_m, zn_div, z_a31, zn_shl, zn_shr, z_bq_T, z_bq_F, z_bl_T, zI_put_a, zP_put, zD_put, z_hd_put, z_cls_put, z_ia_put, z_ln_put, z_new_put, zI_wI_s, zI_wP, zI_wD, zD_wI, zD_wP, zD_wD_s, zP_wI, zP_wD, z_hd_wI, z_hd_wP, z_hd_wD, z_hd_cpy, z_cls_wI, z_cls_wP, z_cls_wD, z_cls_cpy, z_ia_wI, z_ia_wP, z_ia_wD, z_ia_cpy, z_ln_wI, z_ln_wP, z_ln_wD, z_ln_cpy, z_new_wI, z_new_wP, z_new_wD, z_new_cpy, z_new_nw, zP_cpy, zI_uI_s, zP_uI, zD_uI, z_hd_uI, z_cls_uI, z_ia_uI, z_ln_uI, z_new_uI, zI_wI_a, zI_wI_k, zI_uI_a, zI_cpy_a, zP_wP_s, zP_wP_a, zP_wP_k, nL_400, nL_1, c8 h.1, hf, c9 ha, z_ia_of h.2.1]
