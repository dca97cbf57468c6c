/-! S LEVEL, acts: cut. -/
def cutG (G : zG) (r K : Nat) : zG := (gR G + 1, fun r' => if r' = r then K else if r' = gR G then gZ G r - K else gZ G r', fun r' s => if r' = gR G then gO G r (K + s) else gO G r' s, gN G, gT G, gE G)
noncomputable def oCut (pl : Bool) (G : zG) (x k : Int32) : Int32 × Int32 × zG := pif (rOk G x ∧ 0 ≤ k.toInt ∧ k.toInt ≤ gZ G x.toNatClampNeg) (if pl = true then (-3, -3, G) else if gR G = 20 then (-2, -2, G) else (zn (gR G), zn 0, cutG G x.toNatClampNeg k.toNatClampNeg)) (-1, -1, G)
theorem wG_cut {G : zG} {r K : Nat} (w : wG G) (hr : r < gR G) (hK : K ≤ gZ G r) (h20 : ¬ gR G = 20) : wG (cutG G r K) := by
  obtain ⟨w1, w2, w3, w4, w5, w6, w7⟩ := w
  refine ⟨?_, w2, ?_, fun r' s hr' hs => ?_, w5, w6, w7⟩
  · show gR G + 1 ≤ 20; omega
  · show sumN (fun r' => if r' = r then K else if r' = gR G then gZ G r - K else gZ G r') (gR G) + (if gR G = r then K else if gR G = gR G then gZ G r - K else gZ G (gR G)) = gN G
    have e1 : sumN (fun r' => if r' = r then K else if r' = gR G then gZ G r - K else gZ G r') (gR G) = sumN (fun r' => if r' = r then K else gZ G r') (gR G) := sumN_congr _ (fun i hi => by
      by_cases e : i = r
      · rw [if_pos e, if_pos e]
      · rw [if_neg e, if_neg e, if_neg (by omega)])
    have := sumN_upd (f := gZ G) (p := r) (v := K) (gR G) hr
    rw [e1, if_neg (by omega), if_pos rfl]
    omega
  · show (if r' = gR G then gO G r (K + s) else gO G r' s) < gN G
    have hs : s < if r' = r then K else if r' = gR G then gZ G r - K else gZ G r' := hs
    have hr' : r' < gR G + 1 := hr'
    by_cases e : r' = gR G
    · rw [if_neg (by omega), if_pos e] at hs
      rw [if_pos e]; exact w4 r (K + s) hr (by omega)
    · rw [if_neg e]
      refine w4 r' s (by omega) ?_
      by_cases e1 : r' = r
      · rw [if_pos e1] at hs; rw [e1]; omega
      · rw [if_neg e1, if_neg e] at hs; exact hs
theorem L_sp (d : Nat) {G : zG} {al : Nat → Nat} {A : zM} {r K ρ' ar : Nat} (h : cG G al A) (w : wG G) (hr : r < gR G) (hK : K ≤ gZ G r) (g1 : z_new zQ A ≤ ρ') (g2 : z_new zQ A ≤ ar) (g3 : ρ' ≠ ar) : ∀ (n j : Nat) (A' : zM), K + j + n = gZ G r → zFr 2 402 xN A A' → cRo A' ρ' j → zP zQ A' ρ' 0 = ar → (∀ s, s < j → zP zQ A' ar s = al (gO G r (K + s))) →
    ∃ A'', z_denF zQ (d + 2) mL_splitAt (17, [some (.ref (zP zQ A 2 r)), some (.int (zn K)), some (.ref ρ'), some (.int (zn K)), some (.int (zn (K + j)))], [], A') = some (some (.ref ρ'), z_wI A'' (zP zQ A 2 r) 1 (zn K)) ∧ zFr 2 402 xN A A'' ∧ cRo A'' ρ' (gZ G r - K) ∧ zP zQ A'' ρ' 0 = ar ∧ (∀ s, s < gZ G r - K → zP zQ A'' ar s = al (gO G r (K + s)))
  | 0, j, A', hj, hf, hc, ha, hs => by
    obtain ⟨q, q0, hz⟩ := cG_ro h w hr
    have q' := (cRo_fr hf q (fun _ q => q)).1
    have hmin : (bif z_lt (zn (gZ G r)) (zn K) then zn (gZ G r) else zn K) = zn K := by rw [z_lt_F hK (by omega)]; rfl
    refine ⟨A', ?_, hf, by rw [show gZ G r - K = j by omega]; exact hc, ha, fun s h => hs s (by omega)⟩
    rw [L_L_splitAt_17, q'.2.2]
    simp (disch := omega) only [z_bV_some, z_bI_some, z_bJ_some, z_bD_some, z_bR_some, cond_true, cond_false, Bool.and_true, Bool.true_and, Bool.not_false, Bool.not_true, Bool.and_self, Bool.or_true, Bool.false_or, Bool.true_or, zn_ok, zn_ok0, zn_N, zn_add, zn_mul, zn_sub, z_lt_T, z_lt_F, z_le_T, z_le_F, z_eq_T, z_ne_F, z_eq_F, z_ne_T, z_ix_T, z_lt_m, z_le_m, z_lt_m2, z_le_m2, z_eq_m, z_ne_m, zn_div, z_a31, zn_shl, zn_shr, z_bq_T, z_bq_F, z_bl_T, c8 q'.1, E_min, hmin]
  | n + 1, j, A', hj, hf, hc, ha, hs => by
    obtain ⟨q, q0, hz⟩ := cG_ro h w hr
    obtain ⟨p1, p2, p3, p4⟩ := cG_rs h w hr (s := K + j) (by omega)
    obtain ⟨q', qp⟩ := cRo_fr hf q (fun _ q => q)
    have p2' := (cT_fr hf p2 (fun _ q => q) (fun _ q => q)).1
    have e1 := E_L_stripAt_ok d (s := K + j) q' hz (by omega)
    rw [qp, zFr_P hf _ (z_hd_lt q.2.1) (fun q => q), h.2.2.2.2.1 r (K + j) hr (by omega)] at e1
    have e2 := E_L_append d _ _ (al (gO G r (K + j))) A' hc (by omega) p2'.1
    rw [ha] at e2
    have lar := hd_lt56 hc.2.1 (by omega)
    rw [ha] at lar
    have hc' : cRo (z_wI (z_wP A' ar j (al (gO G r (K + j)))) ρ' 1 (zn (j + 1))) ρ' (j + 1) := by
      refine ⟨hc.1, ?_, zI_wI_s _ _ _ _⟩
      rw [zP_wI, zP_wP_a g3, ha, z_hd_wI, z_hd_wP, ← ha]; exact hc.2.1
    have hf' : zFr 2 402 xN A (z_wI (z_wP A' ar j (al (gO G r (K + j)))) ρ' 1 (zn (j + 1))) := by
      have t1 := zFr_trans hf (zFr_wP (X := fun a _ => a = ar) (A := A') (k := j) (v := al (gO G r (K + j))) rfl) (fun x _ hx e => by have e : x = ar := e; omega)
      have t2 := zFr_trans t1 (zFr_wI (X := fun a _ => a = ρ') (A := z_wP A' ar j (al (gO G r (K + j)))) (k := 1) (v := zn (j + 1)) rfl) (fun x _ hx e => by have e : x = ρ' := e; omega)
      exact zFr_mono t2 (by omega) (by omega) (fun _ _ h => h)
    obtain ⟨A'', i1, i2⟩ := L_sp d h w hr hK g1 g2 g3 n (j + 1) _ (by omega) hf' hc' (by rw [zP_wI, zP_wP_a g3]; exact ha) (fun s hs' => by
      rw [zP_wI]
      by_cases e : s = j
      · rw [e, zP_wP_s (by omega) (by omega) (by omega)]
      · rw [zP_wP_k e]; exact hs s (by omega))
    refine ⟨A'', ?_, i2⟩
    rw [L_L_splitAt_17, q'.2.2]
    rw [show K + (j + 1) = K + j + 1 by omega] at i1
    simp (disch := omega) only [z_bV_some, z_bI_some, z_bJ_some, z_bD_some, z_bR_some, cond_true, cond_false, Bool.and_true, Bool.true_and, Bool.not_false, Bool.not_true, Bool.and_self, Bool.or_true, Bool.false_or, Bool.true_or, zn_ok, zn_ok0, zn_N, zn_add, zn_mul, zn_sub, z_lt_T, z_lt_F, z_le_T, z_le_F, z_eq_T, z_ne_F, z_eq_F, z_ne_T, z_ix_T, z_lt_m, z_le_m, z_lt_m2, z_le_m2, z_eq_m, z_ne_m, zn_div, z_a31, zn_shl, zn_shr, z_bq_T, z_bq_F, z_bl_T, nL_1, c8 q'.1, e1, c8 hc.1, e2, i1]
theorem P_cut (d : Nat) {pl : Bool} {G : zG} {al : Nat → Nat} {A : zM} {x k : Int32} (h : cG G al A) (w : wG G) (hp : zI A 3 15 = bI pl) : cRes 2 402 A (oCut pl G x k) (z_den zQ (d + 3) mP_cut [.ref 1, .int x, .int k] A) := by
  unfold oCut
  rw [B_P_cut]
  rcases rOk_c w x with g | ⟨r, hr, rfl⟩
  · rw [pif_F (fun q => g q.1), E_P_rollAt_no _ h w g]
    simp (disch := omega) only [z_bV_some, z_bI_some, z_bJ_some, z_bD_some, z_bR_some, cond_true, cond_false, Bool.and_true, Bool.true_and, Bool.not_false, Bool.not_true, Bool.and_self, Bool.or_true, Bool.false_or, Bool.true_or, zn_ok, zn_ok0, zn_N, zn_add, zn_mul, zn_sub, z_lt_T, z_lt_F, z_le_T, z_le_F, z_eq_T, z_ne_F, z_eq_F, z_ne_T, z_ix_T, z_lt_m, z_le_m, z_lt_m2, z_le_m2, z_eq_m, z_ne_m, zn_div, z_a31, zn_shl, zn_shr, z_bq_T, z_bq_F, z_bl_T, B_P_refuse]
    exact cRes_st h _ _
  have hR := w.1
  obtain ⟨q, q0, hz⟩ := cG_ro h w hr
  rw [E_P_ro _ h w hr, zn_N (by omega)]
  rcases zn_cases k with hk | ⟨K, hK, rfl⟩
  · rw [pif_F (fun q => by omega)]
    simp (disch := omega) only [z_bV_some, z_bI_some, z_bJ_some, z_bD_some, z_bR_some, cond_true, cond_false, Bool.and_true, Bool.true_and, Bool.not_false, Bool.not_true, Bool.and_self, Bool.or_true, Bool.false_or, Bool.true_or, zn_ok, zn_ok0, zn_N, zn_add, zn_mul, zn_sub, z_lt_T, z_lt_F, z_le_T, z_le_F, z_eq_T, z_ne_F, z_eq_F, z_ne_T, z_ix_T, z_lt_m, z_le_m, z_lt_m2, z_le_m2, z_eq_m, z_ne_m, zn_div, z_a31, zn_shl, zn_shr, z_bq_T, z_bq_F, z_bl_T, nL_0, B_P_refuse]
    exact cRes_st h _ _
  have tK' := zn_toInt hK
  rw [zn_N hK]
  by_cases gK : gZ G r < K
  · rw [pif_F (fun q => by omega)]
    simp (disch := omega) only [z_bV_some, z_bI_some, z_bJ_some, z_bD_some, z_bR_some, cond_true, cond_false, Bool.and_true, Bool.true_and, Bool.not_false, Bool.not_true, Bool.and_self, Bool.or_true, Bool.false_or, Bool.true_or, zn_ok, zn_ok0, zn_N, zn_add, zn_mul, zn_sub, z_lt_T, z_lt_F, z_le_T, z_le_F, z_eq_T, z_ne_F, z_eq_F, z_ne_T, z_ix_T, z_lt_m, z_le_m, z_lt_m2, z_le_m2, z_eq_m, z_ne_m, zn_div, z_a31, zn_shl, zn_shr, z_bq_T, z_bq_F, z_bl_T, nL_0, c8 q.1, q.2.2, B_P_refuse]
    exact cRes_st h _ _
  rw [pif_T ⟨rOk_nat w hr, by omega⟩]
  by_cases g2 : pl = true
  · rw [if_pos g2]
    simp (disch := omega) only [z_bV_some, z_bI_some, z_bJ_some, z_bD_some, z_bR_some, cond_true, cond_false, Bool.and_true, Bool.true_and, Bool.not_false, Bool.not_true, Bool.and_self, Bool.or_true, Bool.false_or, Bool.true_or, zn_ok, zn_ok0, zn_N, zn_add, zn_mul, zn_sub, z_lt_T, z_lt_F, z_le_T, z_le_F, z_eq_T, z_ne_F, z_eq_F, z_ne_T, z_ix_T, z_lt_m, z_le_m, z_lt_m2, z_le_m2, z_eq_m, z_ne_m, zn_div, z_a31, zn_shl, zn_shr, z_bq_T, z_bq_F, z_bl_T, nL_0, c8 q.1, q.2.2, hp, pl_T g2, B_P_refuse]
    exact cRes_st h _ _
  rw [if_neg g2]
  have i3 := h.1
  by_cases g : gR G = 20
  · rw [if_pos g]
    simp (disch := omega) only [z_bV_some, z_bI_some, z_bJ_some, z_bD_some, z_bR_some, cond_true, cond_false, Bool.and_true, Bool.true_and, Bool.not_false, Bool.not_true, Bool.and_self, Bool.or_true, Bool.false_or, Bool.true_or, zn_ok, zn_ok0, zn_N, zn_add, zn_mul, zn_sub, z_lt_T, z_lt_F, z_le_T, z_le_F, z_eq_T, z_ne_F, z_eq_F, z_ne_T, z_ix_T, z_lt_m, z_le_m, z_lt_m2, z_le_m2, z_eq_m, z_ne_m, zn_div, z_a31, zn_shl, zn_shr, z_bq_T, z_bq_F, z_bl_T, nL_0, nL_20, c8 q.1, q.2.2, hp, pl_F g2, i3, B_P_refuse]
    exact cRes_st h _ _
  rw [if_neg g]
  have g56 := z_new_ge A
  obtain ⟨A1, e1, e2, e3, e4⟩ := E_newRoll d A
  have h0 : z_hd zQ (z_nw zQ A (8, 2)) (z_new zQ A) = some (8, 2) := z_hd_nw_s _ _
  obtain ⟨A2, s1, s2, s3, s4, s5⟩ := L_sp d (ar := z_new zQ A + 1) h w hr (K := K) (by omega) (Nat.le_refl _) (by omega) (by omega) (gZ G r - K) 0 A1 (by omega) e4 e2 e3 (fun s hs => absurd hs (by omega))
  have hmax : (bif z_lt (zn K) (zn 0) then zn 0 else zn K) = zn K := by rw [z_lt_F (by omega) (by omega)]; rfl
  have es : z_den zQ (d + 2) mL_splitAt [.ref (zP zQ A 2 r), .int (zn K)] A = some (some (.ref (z_new zQ A)), z_wI A2 (zP zQ A 2 r) 1 (zn K)) := by
    rw [B_L_splitAt]
    simp (disch := omega) only [z_bV_some, z_bI_some, z_bJ_some, z_bD_some, z_bR_some, cond_true, cond_false, Bool.and_true, Bool.true_and, Bool.not_false, Bool.not_true, Bool.and_self, Bool.or_true, Bool.false_or, Bool.true_or, zn_ok, zn_ok0, zn_N, zn_add, zn_mul, zn_sub, z_lt_T, z_lt_F, z_le_T, z_le_F, z_eq_T, z_ne_F, z_eq_F, z_ne_T, z_ix_T, z_lt_m, z_le_m, z_lt_m2, z_le_m2, z_eq_m, z_ne_m, zn_div, z_a31, zn_shl, zn_shr, z_bq_T, z_bq_F, z_bl_T, nL_0, c8 h0, e1, E_max, hmax]
    exact s1
  have lρ := hd_lt56 q.1 (by omega)
  have j3 : zI A2 1 3 = zn (gR G) := by rw [zFr_I s2 _ (by omega) (fun q => q)]; exact i3
  have j4 : zI A2 1 4 = zn (gN G) := by rw [zFr_I s2 _ (by omega) (fun q => q)]; exact h.2.1
  have j5 : zI A2 1 5 = zn (gE G) := by rw [zFr_I s2 _ (by omega) (fun q => q)]; exact h.2.2.1
  simp (disch := omega) only [z_bV_some, z_bI_some, z_bJ_some, z_bD_some, z_bR_some, cond_true, cond_false, Bool.and_true, Bool.true_and, Bool.not_false, Bool.not_true, Bool.and_self, Bool.or_true, Bool.false_or, Bool.true_or, zn_ok, zn_ok0, zn_N, zn_add, zn_mul, zn_sub, z_lt_T, z_lt_F, z_le_T, z_le_F, z_eq_T, z_ne_F, z_eq_F, z_ne_T, z_ix_T, z_lt_m, z_le_m, z_lt_m2, z_le_m2, z_eq_m, z_ne_m, zn_div, z_a31, zn_shl, zn_shr, z_bq_T, z_bq_F, z_bl_T, zI_put_a, zP_put, zD_put, z_hd_put, z_cls_put, z_ia_put, z_ln_put, z_new_put, zI_wI_s, zI_wP, zI_wD, zD_wI, zD_wP, zD_wD_s, zP_wI, zP_wD, z_hd_wI, z_hd_wP, z_hd_wD, z_hd_cpy, z_cls_wI, z_cls_wP, z_cls_wD, z_cls_cpy, z_ia_wI, z_ia_wP, z_ia_wD, z_ia_cpy, z_ln_wI, z_ln_wP, z_ln_wD, z_ln_cpy, z_new_wI, z_new_wP, z_new_wD, z_new_cpy, z_new_nw, zP_cpy, zI_uI_s, zP_uI, zD_uI, z_hd_uI, z_cls_uI, z_ia_uI, z_ln_uI, z_new_uI, zI_wI_a, zI_wI_k, zI_uI_a, zI_cpy_a, zP_wP_s, zP_wP_a, zP_wP_k, nL_0, nL_20, nL_1, c8 q.1, q.2.2, hp, pl_F g2, i3, es, c8 s3.1, j3, B_P_done, Nat.add_sub_cancel]
  have t1 : zFr 0 0 (fun a k => a = 2 ∧ k = gR G) A2 (z_wP A2 2 (gR G) (z_new zQ A)) := zFr_wP ⟨rfl, rfl⟩
  have tk := zFr_trans (xN_any (X := fun a k => a = 2 ∧ k = gR G) s2) t1 (fun _ _ _ h => h)
  have p2 : zP zQ (z_wP A2 2 (gR G) (z_new zQ A)) 2 (gR G) = z_new zQ A := zP_wP_s (by omega) (by omega) (by omega)
  have pr : zP zQ (z_wP A2 2 (gR G) (z_new zQ A)) (z_new zQ A) 0 = z_new zQ A + 1 := by rw [zP_wP_a (by omega)]; exact s4
  have k1 := cK_roll (D' := fun s => s < gZ G r - K) (O' := fun s => gO G r (K + s)) tk ((cG_iff G al A).mp h).2.2.2 p2 (n := gZ G r - K) ⟨s3.1, by rw [pr, z_hd_wP, ← s4]; exact s3.2.1, s3.2.2⟩ (Nat.le_refl _) (by rw [pr]; omega) (fun s hs => by rw [pr, zP_wP_a (by omega)]; exact s5 s hs)
  have k2 := cK_cnt (r := r) (n := K) k1 (by omega)
  have pr2 : zP zQ (z_wP A2 2 (gR G) (z_new zQ A)) 2 r = zP zQ A 2 r := by rw [zP_wP_k (by omega)]; exact zFr_P s2 _ (by omega) (fun q => q)
  rw [pr2] at k2
  have k3 := cK_fr (zFr_wI (X := fun a k => a = 1 ∧ k = 3) (v := zn (gR G + 1)) ⟨rfl, rfl⟩) k2 (fun k q => by omega) (fun a k t n ha ht q => by have := hd_lt56 ha ht; omega)
  have ecom : z_wP (z_wI A2 (zP zQ A 2 r) 1 (zn K)) 2 (gR G) (z_new zQ A) = z_wI (z_wP A2 2 (gR G) (z_new zQ A)) (zP zQ A 2 r) 1 (zn K) := rfl
  rw [ecom]
  refine cRes_K (G := cutG G r K) ?_ ?_ ?_ ?_ (cK_D k3 (fun r' hr' => ?_) (fun r' s hr' hd => ?_) (fun p hp => rfl))
  · exact zFr_mono (zFr_trans (zFr_trans (zFr_trans (xN_any s2) (zFr_wP (X := xcS A) (Or.inr (Or.inl ⟨rfl, by rw [h.1, zn_N (by omega)]; exact Nat.le_refl _⟩))) (fun _ _ _ h => h)) (zFr_wI (X := xcS A) (Or.inr (Or.inr ⟨_, q.1, by omega⟩))) (fun _ _ _ h => h)) (zFr_wI (X := xcS A) (Or.inl ⟨rfl, by omega⟩)) (fun _ _ _ h => h)) (by omega) (by omega) (fun _ _ h => h)
  · rw [zI_wI_s]; rfl
  · rw [zI_wI_k (by omega), zI_wI_a (by omega), zI_wP]; exact j4
  · rw [zI_wI_k (by omega), zI_wI_a (by omega), zI_wP]; exact j5
  · rfl
  · have hd : s < if r' = r then K else if r' = gR G then gZ G r - K else gZ G r' := hd
    refine ⟨?_, rfl⟩
    show if r' = gR G then s < gZ G r - K else s < gZ G r'
    by_cases e : r' = gR G
    · rw [if_neg (by omega), if_pos e] at hd
      rw [if_pos e]; exact hd
    · rw [if_neg e]
      by_cases e1 : r' = r
      · rw [if_pos e1] at hd; rw [e1]; omega
      · rw [if_neg e1, if_neg e] at hd; exact hd
theorem L_Qc (d r K N nr : Nat) (hr : r < nr) (hnr : nr < 20) (hK : K ≤ N) (hN : N ≤ 400) : ∀ (n j : Nat) (B : zM), K + j + n = N → zI B 15 1 = zn nr → zI B 16 r = zn N → ∃ B', B' = z_put B 17 (400 * nr + j) n (fun i => zI B 17 (400 * r + K + (i - 400 * nr))) ∧
    z_denF zQ (d + 2) mQ_cut (60, [some (.ref 15), some (.int (zn r)), some (.int (zn K)), some (.int (zn (K + j)))], [], B) = some (some (.int (zn nr)), z_wI (z_wI (z_wI (z_wI B' 16 nr (zn (N - K))) 16 r (zn K)) 15 1 (zn (nr + 1))) 15 0 (zn 0))
  | 0, j, B, hj, h1, h2 => by
    refine ⟨_, rfl, ?_⟩
    rw [z_put_0, L_Q_cut_60]
    simp (disch := omega) only [z_bV_some, z_bI_some, z_bJ_some, z_bD_some, z_bR_some, cond_true, cond_false, Bool.and_true, Bool.true_and, Bool.not_false, Bool.not_true, Bool.and_self, Bool.or_true, Bool.false_or, Bool.true_or, zn_ok, zn_ok0, zn_N, zn_add, zn_mul, zn_sub, z_lt_T, z_lt_F, z_le_T, z_le_F, z_eq_T, z_ne_F, z_eq_F, z_ne_T, z_ix_T, z_lt_m, z_le_m, z_lt_m2, z_le_m2, z_eq_m, z_ne_m, zn_div, z_a31, zn_shl, zn_shr, z_bq_T, z_bq_F, z_bl_T, zI_put_a, zP_put, zD_put, z_hd_put, z_cls_put, z_ia_put, z_ln_put, z_new_put, zI_wI_s, zI_wP, zI_wD, zD_wI, zD_wP, zD_wD_s, zP_wI, zP_wD, z_hd_wI, z_hd_wP, z_hd_wD, z_hd_cpy, z_cls_wI, z_cls_wP, z_cls_wD, z_cls_cpy, z_ia_wI, z_ia_wP, z_ia_wD, z_ia_cpy, z_ln_wI, z_ln_wP, z_ln_wD, z_ln_cpy, z_new_wI, z_new_wP, z_new_wD, z_new_cpy, z_new_nw, zP_cpy, zI_uI_s, zP_uI, zD_uI, z_hd_uI, z_cls_uI, z_ia_uI, z_ln_uI, z_new_uI, zI_wI_a, zI_wI_k, zI_uI_a, zI_cpy_a, zP_wP_s, zP_wP_a, zP_wP_k, nL_1, nL_0, h1, h2, B_Q_well, Nat.add_sub_cancel]
  | n + 1, j, B, hj, h1, h2 => by
    obtain ⟨B', b1, b2⟩ := L_Qc d r K N nr hr hnr hK hN n (j + 1) (z_wI B 17 (400 * nr + j) (zI B 17 (400 * r + K + j))) (by omega) (by rw [zI_wI_a (by omega)]; exact h1) (by rw [zI_wI_a (by omega)]; exact h2)
    refine ⟨B', ?_, ?_⟩
    · rw [b1, ← z_put_lo, show 400 * nr + (j + 1) = 400 * nr + j + 1 by omega]
      have e : zI B 17 (400 * r + K + (400 * nr + j - 400 * nr)) = zI B 17 (400 * r + K + j) := by congr 1; omega
      rw [e]
      apply z_put_congr
      intro i i1 i2
      rw [zI_wI_k (by omega)]
    · rw [L_Q_cut_60]
      rw [show K + (j + 1) = K + j + 1 by omega] at b2
      have e1 : 400 * nr + (K + j) - K = 400 * nr + j := by omega
      have e2 : 400 * r + (K + j) = 400 * r + K + j := by omega
      simp (disch := omega) only [z_bV_some, z_bI_some, z_bJ_some, z_bD_some, z_bR_some, cond_true, cond_false, Bool.and_true, Bool.true_and, Bool.not_false, Bool.not_true, Bool.and_self, Bool.or_true, Bool.false_or, Bool.true_or, zn_ok, zn_ok0, zn_N, zn_add, zn_mul, zn_sub, z_lt_T, z_lt_F, z_le_T, z_le_F, z_eq_T, z_ne_F, z_eq_F, z_ne_T, z_ix_T, z_lt_m, z_le_m, z_lt_m2, z_le_m2, z_eq_m, z_ne_m, zn_div, z_a31, zn_shl, zn_shr, z_bq_T, z_bq_F, z_bl_T, nL_1, nL_400, h1, h2, e1, e2, b2]
theorem Q_cut (d : Nat) {pl : Bool} {G : zG} {B : zM} {x k : Int32} (h : rG G B) (w : wG G) (hp : zI B 15 36 = bI pl) : rRes B (oCut pl G x k) (z_den zQ (d + 3) mQ_cut [.ref 15, .int x, .int k] B) := by
  unfold oCut
  rw [B_Q_cut]
  rcases rOk_c w x with g | ⟨r, hr, rfl⟩
  · rw [pif_F (fun q => g q.1), E_Q_isRoll_no _ h w g]
    simp (disch := omega) only [z_bV_some, z_bI_some, z_bJ_some, z_bD_some, z_bR_some, cond_true, cond_false, Bool.and_true, Bool.true_and, Bool.not_false, Bool.not_true, Bool.and_self, Bool.or_true, Bool.false_or, Bool.true_or, zn_ok, zn_ok0, zn_N, zn_add, zn_mul, zn_sub, z_lt_T, z_lt_F, z_le_T, z_le_F, z_eq_T, z_ne_F, z_eq_F, z_ne_T, z_ix_T, z_lt_m, z_le_m, z_lt_m2, z_le_m2, z_eq_m, z_ne_m, zn_div, z_a31, zn_shl, zn_shr, z_bq_T, z_bq_F, z_bl_T, nL_0, B_Q_no]
    exact rRes_st h _ _
  have hR := w.1
  have hz := wG_z w hr
  have hn := w.2.1
  rw [E_Q_isRoll_ok _ h w (rOk_nat w hr), zn_N (by omega)]
  have i16 := h.2.2.2.1 r hr
  by_cases gK : 0 ≤ k.toInt ∧ k.toInt ≤ gZ G r
  rotate_left
  · rw [pif_F (fun q => gK q.2)]
    have ew := Q_within_F (d := d + 1) (x := k) (a := 0) (n := gZ G r) (M := B) (by omega) (by omega) gK
    simp (disch := omega) only [z_bV_some, z_bI_some, z_bJ_some, z_bD_some, z_bR_some, cond_true, cond_false, Bool.and_true, Bool.true_and, Bool.not_false, Bool.not_true, Bool.and_self, Bool.or_true, Bool.false_or, Bool.true_or, zn_ok, zn_ok0, zn_N, zn_add, zn_mul, zn_sub, z_lt_T, z_lt_F, z_le_T, z_le_F, z_eq_T, z_ne_F, z_eq_F, z_ne_T, z_ix_T, z_lt_m, z_le_m, z_lt_m2, z_le_m2, z_eq_m, z_ne_m, zn_div, z_a31, zn_shl, zn_shr, z_bq_T, z_bq_F, z_bl_T, nL_0, i16, ew, B_Q_no]
    exact rRes_st h _ _
  have ew := Q_within_T (d := d + 1) (x := k) (a := 0) (n := gZ G r) (M := B) (by omega) (by omega) gK
  rw [pif_T ⟨rOk_nat w hr, gK⟩]
  obtain ⟨K, hK, rfl⟩ := zn_ex gK.1
  rw [zn_toInt hK] at gK
  rw [zn_N hK]
  by_cases g2 : pl = true
  · rw [if_pos g2]
    simp (disch := omega) only [z_bV_some, z_bI_some, z_bJ_some, z_bD_some, z_bR_some, cond_true, cond_false, Bool.and_true, Bool.true_and, Bool.not_false, Bool.not_true, Bool.and_self, Bool.or_true, Bool.false_or, Bool.true_or, zn_ok, zn_ok0, zn_N, zn_add, zn_mul, zn_sub, z_lt_T, z_lt_F, z_le_T, z_le_F, z_eq_T, z_ne_F, z_eq_F, z_ne_T, z_ix_T, z_lt_m, z_le_m, z_lt_m2, z_le_m2, z_eq_m, z_ne_m, zn_div, z_a31, zn_shl, zn_shr, z_bq_T, z_bq_F, z_bl_T, nL_0, i16, ew, hp, pl_T g2, B_Q_no]
    exact rRes_st h _ _
  rw [if_neg g2]
  have i1 := h.1
  by_cases g : gR G = 20
  · rw [if_pos g]
    rw [g] at i1
    simp (disch := omega) only [z_bV_some, z_bI_some, z_bJ_some, z_bD_some, z_bR_some, cond_true, cond_false, Bool.and_true, Bool.true_and, Bool.not_false, Bool.not_true, Bool.and_self, Bool.or_true, Bool.false_or, Bool.true_or, zn_ok, zn_ok0, zn_N, zn_add, zn_mul, zn_sub, z_lt_T, z_lt_F, z_le_T, z_le_F, z_eq_T, z_ne_F, z_eq_F, z_ne_T, z_ix_T, z_lt_m, z_le_m, z_lt_m2, z_le_m2, z_eq_m, z_ne_m, zn_div, z_a31, zn_shl, zn_shr, z_bq_T, z_bq_F, z_bl_T, nL_0, nL_20, i16, ew, hp, pl_F g2, i1, B_Q_no]
    exact rRes_st h _ _
  rw [if_neg g]
  obtain ⟨B', b1, b2⟩ := L_Qc (d + 1) r K (gZ G r) (gR G) hr (by omega) (by omega) (by omega) (gZ G r - K) 0 B (by omega) i1 i16
  rw [Nat.add_zero] at b1
  rw [show K + 0 = K from rfl] at b2
  change z_denF zQ (d + 2 + 1) _ _ = _ at b2
  simp (disch := omega) only [z_bV_some, z_bI_some, z_bJ_some, z_bD_some, z_bR_some, cond_true, cond_false, Bool.and_true, Bool.true_and, Bool.not_false, Bool.not_true, Bool.and_self, Bool.or_true, Bool.false_or, Bool.true_or, zn_ok, zn_ok0, zn_N, zn_add, zn_mul, zn_sub, z_lt_T, z_lt_F, z_le_T, z_le_F, z_eq_T, z_ne_F, z_eq_F, z_ne_T, z_ix_T, z_lt_m, z_le_m, z_lt_m2, z_le_m2, z_eq_m, z_ne_m, zn_div, z_a31, zn_shl, zn_shr, z_bq_T, z_bq_F, z_bl_T, nL_0, nL_20, i16, ew, hp, pl_F g2, i1]
  rw [b2]
  obtain ⟨a1, a2, a3, a4, a5, a6, a7, a8⟩ := h
  have fB' : zFr 0 0 (fun a k => a = 17 ∧ 400 * gR G ≤ k ∧ k < 400 * gR G + 400) B B' := by
    rw [b1]; exact zFr_put (fun i i1 i2 => ⟨rfl, by omega, by omega⟩)
  have n56 := z_new_ge B
  have o : ∀ a k, a < 56 → a ≠ 17 → zI B' a k = zI B a k := fun a k ha hne => zFr_I fB' k (by omega) (fun q => hne q.1)
  refine rRes_K (G := cutG G r K) ?_ ?_
  · refine zFr_trans (zFr_trans (zFr_trans (zFr_mono fB' (Nat.le_refl _) (Nat.le_refl _) (fun a k q => ?_)) (zFr_wI (X := xrS) ?_) (fun _ _ _ h => h)) (zFr_wI (X := xrS) ?_) (fun _ _ _ h => h)) (zFr_wI (X := xrS) ?_) (fun _ _ _ h => h) <;> (unfold xrS; omega)
  · have rt : ∀ p T, rT B p T → rT (z_wI (z_wI (z_wI B' 16 (gR G) (zn (gZ G r - K))) 16 r (zn K)) 15 1 (zn (gR G + 1))) p T := fun p T q => rT_wI (rT_wI (rT_wI (rT_fr fB' q (fun a k h1 h2 => by unfold inR at h1; omega)) (by unfold inR; omega)) (by unfold inR; omega)) (by unfold inR; omega)
    refine ⟨?_, ?_, ?_, fun r' hr' => ?_, fun r' hr' hr2 => ?_, fun r' s hr' hs => ?_, fun p hp => rt _ _ (a7 p hp), fun p hp hp2 => rt _ _ (a8 p hp hp2)⟩
    · rw [zI_wI_s]; rfl
    · simp (disch := omega) only [zI_put_a, zP_put, zD_put, z_hd_put, z_cls_put, z_ia_put, z_ln_put, z_new_put, zI_wI_s, zI_wP, zI_wD, zD_wI, zD_wP, zD_wD_s, zP_wI, zP_wD, z_hd_wI, z_hd_wP, z_hd_wD, z_hd_cpy, z_cls_wI, z_cls_wP, z_cls_wD, z_cls_cpy, z_ia_wI, z_ia_wP, z_ia_wD, z_ia_cpy, z_ln_wI, z_ln_wP, z_ln_wD, z_ln_cpy, z_new_wI, z_new_wP, z_new_wD, z_new_cpy, z_new_nw, zP_cpy, zI_uI_s, zP_uI, zD_uI, z_hd_uI, z_cls_uI, z_ia_uI, z_ln_uI, z_new_uI, zI_wI_a, zI_wI_k, zI_uI_a, zI_cpy_a, zP_wP_s, zP_wP_a, zP_wP_k]; rw [o _ _ (by omega) (by omega)]; exact a2
    · simp (disch := omega) only [zI_put_a, zP_put, zD_put, z_hd_put, z_cls_put, z_ia_put, z_ln_put, z_new_put, zI_wI_s, zI_wP, zI_wD, zD_wI, zD_wP, zD_wD_s, zP_wI, zP_wD, z_hd_wI, z_hd_wP, z_hd_wD, z_hd_cpy, z_cls_wI, z_cls_wP, z_cls_wD, z_cls_cpy, z_ia_wI, z_ia_wP, z_ia_wD, z_ia_cpy, z_ln_wI, z_ln_wP, z_ln_wD, z_ln_cpy, z_new_wI, z_new_wP, z_new_wD, z_new_cpy, z_new_nw, zP_cpy, zI_uI_s, zP_uI, zD_uI, z_hd_uI, z_cls_uI, z_ia_uI, z_ln_uI, z_new_uI, zI_wI_a, zI_wI_k, zI_uI_a, zI_cpy_a, zP_wP_s, zP_wP_a, zP_wP_k]; rw [o _ _ (by omega) (by omega)]; exact a3
    · have hr' : r' < gR G + 1 := hr'
      show _ = zn (if r' = r then K else if r' = gR G then gZ G r - K else gZ G r')
      rw [zI_wI_a (by omega)]
      by_cases e : r' = r
      · rw [if_pos e, e, zI_wI_s]
      · rw [if_neg e, zI_wI_k e]
        by_cases e1 : r' = gR G
        · rw [if_pos e1, e1, zI_wI_s]
        · rw [if_neg e1, zI_wI_k e1, o _ _ (by omega) (by omega)]; exact a4 r' (by omega)
    · have hr' : gR G + 1 ≤ r' := hr'
      rw [zI_wI_a (by omega), zI_wI_k (by omega), zI_wI_k (by omega), o _ _ (by omega) (by omega)]
      exact a5 r' (by omega) hr2
    · have hr' : r' < gR G + 1 := hr'
      have hs : s < if r' = r then K else if r' = gR G then gZ G r - K else gZ G r' := hs
      show _ = zn (if r' = gR G then gO G r (K + s) else gO G r' s)
      rw [zI_wI_a (by omega), zI_wI_a (by omega), zI_wI_a (by omega), b1, zI_put_s]
      by_cases e : r' = gR G
      · rw [if_neg (by omega), if_pos e] at hs
        rw [if_pos e, e, if_pos (by omega), show 400 * r + K + (400 * gR G + s - 400 * gR G) = 400 * r + (K + s) by omega]
        exact a6 r (K + s) hr (by omega)
      · have hz' := wG_z w (r := r') (by omega)
        have hs' : s < gZ G r' := by
          by_cases e1 : r' = r
          · rw [if_pos e1] at hs; rw [e1]; omega
          · rw [if_neg e1, if_neg e] at hs; exact hs
        rw [if_neg e, if_neg (by omega)]
        exact a6 r' s (by omega) hs'
