/-! S LEVEL, acts: damage, byteOf, read, told. -/
theorem eb_msk (m : Int32) (s t : Nat) (hs : s < 4) (ht : t < 4) : ebF ((m &&& zn 255) <<< zn (8 * s)) t = if s = t then ebF m 0 else zn 0 := by
  have t0 : (zn 0).toInt = 0 := zn_toInt (by omega)
  have e := tI_255 m
  have hb : ∀ k, k < 31 → ((m &&& zn 255) <<< zn k).toInt = (m.toInt % 256 * (2 ^ k : Nat)).bmod (2 ^ 32) := fun k hk => by
    have : 2 ^ k ≤ 2 ^ 30 := Nat.pow_le_pow_right (by omega) (by omega)
    rw [zn_pow (by omega), Int32.toInt_mul, e, zn_toInt (by omega)]
  apply tI_eq
  have em := tI_eb0 m
  rcases (show s = 0 ∨ s = 1 ∨ s = 2 ∨ s = 3 by omega) with rfl | rfl | rfl | rfl
  · have y := hb (8 * 0) (by omega)
    rw [Int.bmod_def] at y
    simp at y
    generalize (m &&& zn 255) <<< zn (8 * 0) = z at *
    rcases (show t = 0 ∨ t = 1 ∨ t = 2 ∨ t = 3 by omega) with rfl | rfl | rfl | rfl
    · rw [if_pos rfl, tI_eb0, em]; split at y <;> omega
    · rw [if_neg (by omega), tI_eb1, t0]; split at y <;> omega
    · rw [if_neg (by omega), tI_eb2, t0]; split at y <;> omega
    · rw [if_neg (by omega), tI_eb3, t0]; split at y <;> omega
  · have y := hb (8 * 1) (by omega)
    rw [Int.bmod_def] at y
    simp at y
    generalize (m &&& zn 255) <<< zn (8 * 1) = z at *
    rcases (show t = 0 ∨ t = 1 ∨ t = 2 ∨ t = 3 by omega) with rfl | rfl | rfl | rfl
    · rw [if_neg (by omega), tI_eb0, t0]; split at y <;> omega
    · rw [if_pos rfl, tI_eb1, em]; split at y <;> omega
    · rw [if_neg (by omega), tI_eb2, t0]; split at y <;> omega
    · rw [if_neg (by omega), tI_eb3, t0]; split at y <;> omega
  · have y := hb (8 * 2) (by omega)
    rw [Int.bmod_def] at y
    simp at y
    generalize (m &&& zn 255) <<< zn (8 * 2) = z at *
    rcases (show t = 0 ∨ t = 1 ∨ t = 2 ∨ t = 3 by omega) with rfl | rfl | rfl | rfl
    · rw [if_neg (by omega), tI_eb0, t0]; split at y <;> omega
    · rw [if_neg (by omega), tI_eb1, t0]; split at y <;> omega
    · rw [if_pos rfl, tI_eb2, em]; split at y <;> omega
    · rw [if_neg (by omega), tI_eb3, t0]; split at y <;> omega
  · have y := hb (8 * 3) (by omega)
    rw [Int.bmod_def] at y
    simp at y
    generalize (m &&& zn 255) <<< zn (8 * 3) = z at *
    rcases (show t = 0 ∨ t = 1 ∨ t = 2 ∨ t = 3 by omega) with rfl | rfl | rfl | rfl
    · rw [if_neg (by omega), tI_eb0, t0]; split at y <;> omega
    · rw [if_neg (by omega), tI_eb1, t0]; split at y <;> omega
    · rw [if_neg (by omega), tI_eb2, t0]; split at y <;> omega
    · rw [if_pos rfl, tI_eb3, em]; split at y <;> omega
theorem xor_0 (x : Int32) : x ^^^ zn 0 = x := by
  apply Int32.toBitVec_inj.mp
  rw [Int32.toBitVec_xor, zn_bv]
  simp
def setH (T : zT) (i : Nat) (v : Int32) : zT := (tK T, tN T, tU T, tL T, tH T, tS T, (fun j => if j = i then v else tB T j), tE T)
noncomputable def dmV (T : zT) (i : Nat) (m : Int32) : Int32 := loF (tK T) (tE T ((i - 9) / tW T) ^^^ ((m &&& zn 255) <<< zn (8 * (tW T - 1 - (i - 9) % tW T))))
noncomputable def dmT (T : zT) (i : Nat) (m : Int32) : zT := if i < 9 then setH T i (ebF (tB T i ^^^ m) 0) else setE T ((i - 9) / tW T) (dmV T i m)
theorem wT_dm {T : zT} (h : wT T) (i : Nat) (m : Int32) : wT (dmT T i m) := by
  unfold dmT
  split
  · obtain ⟨w1, w2, w3, w4, w5, w6, w7, w8, w9⟩ := h
    refine ⟨w1, w2, w3, w4, w5, w6, w7, fun j hj => ?_, w9⟩
    show isB (if j = i then _ else _)
    split
    · exact isB_eb _ (by omega)
    · exact w8 j hj
  · exact wT_setE h _ _
theorem tS_dm (T : zT) (i : Nat) (m : Int32) : tS (dmT T i m) = tS T := by unfold dmT; split <;> rfl
theorem tK_dm (T : zT) (i : Nat) (m : Int32) : tK (dmT T i m) = tK T := by unfold dmT; split <;> rfl
theorem tZ_dm (T : zT) (i : Nat) (m : Int32) : tZ (dmT T i m) = tZ T := by unfold dmT; split <;> rfl
theorem tY_isB {T : zT} (h : wT T) (i : Nat) : isB (tY T i) := by
  unfold tY
  split
  · next q => exact h.2.2.2.2.2.2.2.1 i q
  · have : tW T ≤ 4 := by unfold tW; have := wF_c (tK T); omega
    exact isB_eb _ (by have := wT_pos T; omega)
theorem tY_dm {T : zT} (h : wT T) (i j : Nat) (m : Int32) : tY (dmT T i m) j = if j = i then ebF (tY T i ^^^ m) 0 else tY T j := by
  unfold dmT
  by_cases h9 : i < 9
  · rw [if_pos h9]
    unfold tY
    by_cases j9 : j < 9
    · rw [if_pos j9, if_pos j9, if_pos h9]; rfl
    · rw [if_neg j9, if_neg j9, if_neg (by omega)]; rfl
  · rw [if_neg h9]
    unfold dmV
    rw [tY_setE]
    have hp := wT_pos T
    have hW4 : tW T ≤ 4 := by unfold tW; have := wF_c (tK T); omega
    obtain ⟨q, r, hr, rfl⟩ := tY_ge (T := T) (i := i) (by omega)
    have e1 : (9 + q * tW T + r - 9) / tW T = q := by
      rw [show 9 + q * tW T + r - 9 = r + tW T * q by rw [Nat.mul_comm]; omega, Nat.add_mul_div_left _ _ hp, Nat.div_eq_of_lt hr, Nat.zero_add]
    have e2 : (9 + q * tW T + r - 9) % tW T = r := by
      rw [show 9 + q * tW T + r - 9 = r + tW T * q by rw [Nat.mul_comm]; omega, Nat.add_mul_mod_self_left, Nat.mod_eq_of_lt hr]
    rw [e1, e2]
    by_cases g : 9 + q * tW T ≤ j ∧ j < 9 + q * tW T + tW T
    · rw [if_pos g]
      obtain ⟨r', hr', rfl⟩ : ∃ r', r' < tW T ∧ j = 9 + q * tW T + r' := ⟨j - (9 + q * tW T), by omega, by omega⟩
      rw [eb_xor _ _ (by omega), eb_msk _ _ _ (by omega) (by omega), tY_el hr', tY_el hr, show 9 + q * tW T + tW T - 1 - (9 + q * tW T + r') = tW T - 1 - r' by omega]
      by_cases e : r' = r
      · rw [if_pos (by omega), if_pos (by omega), e, eb_xor _ _ (by omega), eb_eb _ (by omega)]
      · rw [if_neg (by omega), if_neg (by omega), xor_0]
    · rw [if_neg g, if_neg]
      rintro rfl
      omega
theorem z_wI_put (M : zM) (a k : Nat) (v : Int32) : z_wI M a k v = z_put M a k 1 (fun _ => v) := by
  rw [← z_put_lo M a k 0 (fun _ => v), z_put_0]
noncomputable def oDamage (pl : Bool) (G : zG) (x y i m : Int32) : Int32 × Int32 × zG := pif (sOk G x y) (if pl = true then (-3, -3, G) else if tL (sA G x y) = true then ((-10) - zn 1, zn 1, G) else pif (0 ≤ i.toInt ∧ i.toInt < tZ (sA G x y)) (ebF (tY (sA G x y) i.toNatClampNeg ^^^ m) 0 &&& zn 255, zn 0, updT G (pO G x y) (dmT (sA G x y) i.toNatClampNeg m) (gE G)) ((-10) - zn 2, zn 2, G)) (-1, -1, G)
theorem P_damage (d : Nat) {pl : Bool} {G : zG} {al : Nat → Nat} {A : zM} {x y i m : Int32} (h : cG G al A) (w : wG G) (hp : zI A 3 15 = bI pl) : cRes 0 0 A (oDamage pl G x y i m) (z_den zQ (d + 4) mP_damage [.ref 1, .int x, .int y, .int i, .int m] A) := by
  unfold oDamage
  by_cases g : sOk G x y
  · obtain ⟨p1, p2, p3, p4, c, p5, p6⟩ := cG_at h w g
    have n0 := hd_n0 p2.1 (by decide)
    rw [pif_T g, B_P_damage, E_P_stripAt_ok _ h w g]
    by_cases g2 : pl = true
    · rw [if_pos g2]
      simp (disch := omega) only [z_bV_some, z_bI_some, z_bJ_some, z_bD_some, z_bR_some, cond_true, cond_false, Bool.and_true, Bool.true_and, Bool.not_false, Bool.not_true, Bool.and_self, Bool.or_true, Bool.false_or, Bool.true_or, zn_ok, zn_ok0, zn_N, zn_add, zn_mul, zn_sub, z_lt_T, z_lt_F, z_le_T, z_le_F, z_eq_T, z_ne_F, z_eq_F, z_ne_T, z_ix_T, z_lt_m, z_le_m, z_lt_m2, z_le_m2, z_eq_m, z_ne_m, zn_div, z_a31, zn_shl, zn_shr, z_bq_T, z_bq_F, z_bl_T, nL_0, hp, pl_T g2, B_P_refuse]
      exact cRes_st h _ _
    rw [if_neg g2]
    by_cases g3 : tL (sA G x y) = true
    · rw [if_pos g3]
      simp (disch := omega) only [z_bV_some, z_bI_some, z_bJ_some, z_bD_some, z_bR_some, cond_true, cond_false, Bool.and_true, Bool.true_and, Bool.not_false, Bool.not_true, Bool.and_self, Bool.or_true, Bool.false_or, Bool.true_or, zn_ok, zn_ok0, zn_N, zn_add, zn_mul, zn_sub, z_lt_T, z_lt_F, z_le_T, z_le_F, z_eq_T, z_ne_F, z_eq_F, z_ne_T, z_ix_T, z_lt_m, z_le_m, z_lt_m2, z_le_m2, z_eq_m, z_ne_m, zn_div, z_a31, zn_shl, zn_shr, z_bq_T, z_bq_F, z_bl_T, nL_0, nL_1, hp, pl_F g2, B_P_found, c9 p2.1, p2.2.2.2.2.2.2.1, pl_T g3]
      exact cRes_st h _ _
    rw [if_neg g3]
    have hZ := tZ_le p3
    have k5 := p2.2.2.2.2.2.1
    rcases zn_cases i with hi | ⟨j, hj, rfl⟩
    · rw [pif_F (fun q => by omega)]
      simp (disch := omega) only [z_bV_some, z_bI_some, z_bJ_some, z_bD_some, z_bR_some, cond_true, cond_false, Bool.and_true, Bool.true_and, Bool.not_false, Bool.not_true, Bool.and_self, Bool.or_true, Bool.false_or, Bool.true_or, zn_ok, zn_ok0, zn_N, zn_add, zn_mul, zn_sub, z_lt_T, z_lt_F, z_le_T, z_le_F, z_eq_T, z_ne_F, z_eq_F, z_ne_T, z_ix_T, z_lt_m, z_le_m, z_lt_m2, z_le_m2, z_eq_m, z_ne_m, zn_div, z_a31, zn_shl, zn_shr, z_bq_T, z_bq_F, z_bl_T, nL_0, nL_2, hp, pl_F g2, c9 p2.1, p2.2.2.2.2.2.2.1, pl_F g3, B_P_found]
      exact cRes_st h _ _
    by_cases g4 : tZ (sA G x y) ≤ j
    · rw [pif_F (fun q => by rw [zn_toInt hj] at q; omega)]
      simp (disch := omega) only [z_bV_some, z_bI_some, z_bJ_some, z_bD_some, z_bR_some, cond_true, cond_false, Bool.and_true, Bool.true_and, Bool.not_false, Bool.not_true, Bool.and_self, Bool.or_true, Bool.false_or, Bool.true_or, zn_ok, zn_ok0, zn_N, zn_add, zn_mul, zn_sub, z_lt_T, z_lt_F, z_le_T, z_le_F, z_eq_T, z_ne_F, z_eq_F, z_ne_T, z_ix_T, z_lt_m, z_le_m, z_lt_m2, z_le_m2, z_eq_m, z_ne_m, zn_div, z_a31, zn_shl, zn_shr, z_bq_T, z_bq_F, z_bl_T, nL_0, nL_2, hp, pl_F g2, c9 p2.1, p2.2.2.2.2.2.2.1, pl_F g3, B_P_found, k5]
      exact cRes_st h _ _
    rw [pif_T (by rw [zn_toInt hj]; omega), zn_N hj]
    obtain ⟨c', e12, hc1, hc2, hc3⟩ := p2.2.2.2.2.2.2.2.1
    have hb := p2.2.2.2.2.2.2.2.2 j (by omega)
    have ct := cT_put (lo := j) (n := 1) (g := fun _ => ebF (tY (sA G x y) j ^^^ m) 0) (T' := dmT (sA G x y) j m) p2 (tK_dm _ _ _) (by unfold dmT; split <;> rfl) (by unfold dmT; split <;> rfl) (by unfold dmT; split <;> rfl) (tZ_dm _ _ _) (fun i hi => by
      rw [tY_dm p3]
      by_cases e : i = j
      · rw [if_pos e, if_pos (by omega)]
      · rw [if_neg e, if_neg (by omega)])
    rw [← z_wI_put] at ct
    simp (disch := omega) only [z_bV_some, z_bI_some, z_bJ_some, z_bD_some, z_bR_some, cond_true, cond_false, Bool.and_true, Bool.true_and, Bool.not_false, Bool.not_true, Bool.and_self, Bool.or_true, Bool.false_or, Bool.true_or, zn_ok, zn_ok0, zn_N, zn_add, zn_mul, zn_sub, z_lt_T, z_lt_F, z_le_T, z_le_F, z_eq_T, z_ne_F, z_eq_F, z_ne_T, z_ix_T, z_lt_m, z_le_m, z_lt_m2, z_le_m2, z_eq_m, z_ne_m, zn_div, z_a31, zn_shl, zn_shr, z_bq_T, z_bq_F, z_bl_T, zI_put_a, zP_put, zD_put, z_hd_put, z_cls_put, z_ia_put, z_ln_put, z_new_put, zI_wI_s, zI_wP, zI_wD, zD_wI, zD_wP, zD_wD_s, zP_wI, zP_wD, z_hd_wI, z_hd_wP, z_hd_wD, z_hd_cpy, z_cls_wI, z_cls_wP, z_cls_wD, z_cls_cpy, z_ia_wI, z_ia_wP, z_ia_wD, z_ia_cpy, z_ln_wI, z_ln_wP, z_ln_wD, z_ln_cpy, z_new_wI, z_new_wP, z_new_wD, z_new_cpy, z_new_nw, zP_cpy, zI_uI_s, zP_uI, zD_uI, z_hd_uI, z_cls_uI, z_ia_uI, z_ln_uI, z_new_uI, zI_wI_a, zI_wI_k, zI_uI_a, zI_cpy_a, zP_wP_s, zP_wP_a, zP_wP_k, nL_0, nL_255, hp, pl_F g2, c9 p2.1, p2.2.2.2.2.2.2.1, pl_F g3, k5, z_ia_of e12, hb, eb_zero, eb_eb, B_P_done]
    exact cRes_up h p1 (by rw [z_wI_put]; exact put_xcU) ct (Or.inl rfl) (by rw [zI_wI_a (by omega)]; exact h.2.2.1)
  · rw [pif_F g, B_P_damage, E_P_stripAt_no _ h w g]
    simp (disch := omega) only [z_bV_some, z_bI_some, z_bJ_some, z_bD_some, z_bR_some, cond_true, cond_false, Bool.and_true, Bool.true_and, Bool.not_false, Bool.not_true, Bool.and_self, Bool.or_true, Bool.false_or, Bool.true_or, zn_ok, zn_ok0, zn_N, zn_add, zn_mul, zn_sub, z_lt_T, z_lt_F, z_le_T, z_le_F, z_eq_T, z_ne_F, z_eq_F, z_ne_T, z_ix_T, z_lt_m, z_le_m, z_lt_m2, z_le_m2, z_eq_m, z_ne_m, zn_div, z_a31, zn_shl, zn_shr, z_bq_T, z_bq_F, z_bl_T, B_P_refuse]
    exact cRes_st h _ _
theorem xrU_el {p k : Nat} (h : k < 256) : xrU p 25 (256 * p + k) := by unfold xrU inR; omega
theorem rT_H {B : zM} {p i : Nat} {T : zT} {v : Int32} (h : rT B p T) (hi : i < 9) : rT (z_wI B 23 (9 * p + i) v) p (setH T i v) := by
  obtain ⟨k0, k1, k2, k3, k4, k5, k6, k7⟩ := h
  refine ⟨?_, ?_, ?_, ?_, ?_, ?_, fun j hj => ?_, fun k hk => ?_⟩
  · rw [zI_wI_a (by omega)]; exact k0
  · rw [zI_wI_a (by omega)]; exact k1
  · rw [zI_wI_a (by omega)]; exact k2
  · rw [zI_wI_a (by omega)]; exact k3
  · rw [zI_wI_a (by omega)]; exact k4
  · rw [zI_wI_a (by omega)]; exact k5
  · show _ = (if j = i then v else tB T j)
    by_cases e : j = i
    · rw [if_pos e, e, zI_wI_s]
    · rw [if_neg e, zI_wI_k (by omega)]; exact k6 j hj
  · rw [zI_wI_a (by omega)]; exact k7 k hk
theorem Q_damage (d : Nat) {pl : Bool} {G : zG} {B : zM} {x y i m : Int32} (h : rG G B) (w : wG G) (hp : zI B 15 36 = bI pl) : rRes B (oDamage pl G x y i m) (z_den zQ (d + 5) mQ_damage [.ref 15, .int x, .int y, .int i, .int m] B) := by
  unfold oDamage
  by_cases g : sOk G x y
  · obtain ⟨p1, p2, p3, p4⟩ := rG_at h w g
    rw [pif_T g, B_Q_damage]
    by_cases g2 : pl = true
    · rw [if_pos g2, E_Q_bars_busy d h w hp g g2]
      simp (disch := omega) only [z_bI_some, nL_0, neg_3, cond_false]
      exact rRes_st h _ _
    rw [if_neg g2]
    by_cases g3 : tL (sA G x y) = true
    · rw [if_pos g3, E_Q_bars_lost d h w hp g g2 g3]
      simp (disch := omega) only [z_bI_some, nL_0, neg_11, cond_false]
      exact rRes_st h _ _
    rw [if_neg g3, E_Q_bars_ok d h w hp g g2 g3]
    have h1 := rG_st h (zn 0)
    have hZ := tZ_le p4
    have r1 := rT_wI (a := 15) (k := 0) (v := zn 0) p3 (by unfold inR; omega)
    have hpo := E_Q_poolOf (d + 3) h1 w g
    have ebo := E_Q_bytesOf (d + 2) _ _ _ p2 r1 p4
    by_cases g4 : 0 ≤ i.toInt ∧ i.toInt < tZ (sA G x y)
    · rw [pif_T g4]
      obtain ⟨j, hj, rfl⟩ := zn_ex g4.1
      rw [zn_toInt hj] at g4
      rw [zn_N hj]
      have ew := Q_in_T (d := d + 3) (x := zn j) (n := tZ (sA G x y)) (M := z_wI B 15 0 (zn 0)) (by omega) (by rw [zn_toInt hj]; exact g4)
      have hY := tY_dm p4 j j m
      rw [if_pos rfl] at hY
      have hd : tZ (sA G x y) = tH (sA G x y) + tS (sA G x y) * tW (sA G x y) := rfl
      have hH := p4.2.2.2.1
      have hS := p4.2.2.2.2.1
      by_cases g5 : j < 9
      · have hdm : dmT (sA G x y) j m = setH (sA G x y) j (ebF (tB (sA G x y) j ^^^ m) 0) := by unfold dmT; rw [if_pos g5]
        have r2 := rT_H (i := j) (v := ebF (tB (sA G x y) j ^^^ m) 0) r1 g5
        rw [← hdm] at r2
        have eb := E_Q_byteAt (d + 2) _ j _ _ p2 r2 (wT_dm p4 j m) (Or.inl g5)
        rw [hY] at eb
        have e6 := r1.2.2.2.2.2.2.1 j g5
        simp (disch := omega) only [z_bI_some, nL_0, z_le_T, z_le_F, cond_true, cond_false, hpo, ebo, nL_1, ew, z_ne_T, nL_9, zn_mul, zn_add, z_ix_T, zn_N, e6, eb_zero, eb, B_Q_well, nL_255]
        exact rRes_up h p1 w.2.1 (zFr_trans (xrU_fr _ _) (zFr_wI (X := xrU (pO G x y)) (by unfold xrU inR; omega)) (fun _ _ _ h => h)) r2 (by rw [zI_wI_a (by omega), zI_wI_k (by omega)]; exact h.2.2.1)
      · have hdm : dmT (sA G x y) j m = setE (sA G x y) ((j - 9) / tW (sA G x y)) (dmV (sA G x y) j m) := by unfold dmT; rw [if_neg g5]
        have hpW : 0 < tW (sA G x y) := wT_pos _
        have hW4 : tW (sA G x y) ≤ 4 := by unfold tW; have := wF_c (tK (sA G x y)); omega
        have hdv : (j - 9) / tW (sA G x y) < 256 := (Nat.div_lt_iff_lt_mul hpW).mpr (by
          have := Nat.mul_le_mul_right (tW (sA G x y)) hS
          omega)
        have r2 := rT_E (k := (j - 9) / tW (sA G x y)) (v := dmV (sA G x y) j m) r1 hdv
        rw [← hdm] at r2
        have eb := E_Q_byteAt (d + 2) _ j _ _ p2 r2 (wT_dm p4 j m) (Or.inr (by rw [tS_dm, show tW (dmT (sA G x y) j m) = tW (sA G x y) by unfold tW; rw [tK_dm]]; omega))
        rw [hY] at eb
        have ewd : ∀ M : zM, z_den zQ (d + 4) mQ_width [.int (zn (tK (sA G x y)))] M = some (some (.int (zn (tW (sA G x y)))), M) := fun M => E_Q_width (d + 3) _ p4.1 M
        have elo : ∀ (v : Int32) (M : zM), z_den zQ (d + 4) mQ_low [.int (zn (tK (sA G x y))), .int v] M = some (some (.int (loF (tK (sA G x y)) v)), M) := fun v M => E_Q_low (d + 3) _ p4.1 v M
        have e7 := r1.2.2.2.2.2.2.2 _ hdv
        have e18 := r1.1
        have hdm2 : (j - 9) / tW (sA G x y) * tW (sA G x y) ≤ j - 9 := Nat.div_mul_le_self _ _
        have hmod : j - 9 - (j - 9) / tW (sA G x y) * tW (sA G x y) = (j - 9) % tW (sA G x y) := by have := Nat.div_add_mod (j - 9) (tW (sA G x y)); rw [Nat.mul_comm] at this; omega
        have hlt := Nat.mod_lt (j - 9) hpW
        have ew2 := ew
        rw [zn_sub (by omega)] at ew2
        have hV : loF (tK (sA G x y)) (tE (sA G x y) ((j - 9) / tW (sA G x y)) ^^^ (m &&& zn 255) <<< zn (8 * (tW (sA G x y) - 1 - (j - 9) % tW (sA G x y)))) = dmV (sA G x y) j m := rfl
        simp (disch := omega) only [z_bI_some, nL_0, z_le_T, z_le_F, cond_true, cond_false, hpo, ebo, nL_1, ew2, z_ne_T, nL_9, zn_mul, zn_add, zn_sub, zn_div, z_ix_T, zn_N, e18, ewd, nL_256, e7, nL_8, nL_31, z_a31, hmod, nL_255, hV, elo, eb, B_Q_well]
        exact rRes_up h p1 w.2.1 (zFr_trans (xrU_fr _ _) (zFr_wI (X := xrU (pO G x y)) (xrU_el hdv)) (fun _ _ _ h => h)) r2 (by rw [zI_wI_a (by omega), zI_wI_k (by omega)]; exact h.2.2.1)
    · rw [pif_F g4]
      have ew := Q_in_F (d := d + 3) (x := i) (n := tZ (sA G x y)) (M := z_wI B 15 0 (zn 0)) (by omega) g4
      simp (disch := omega) only [z_bI_some, nL_0, z_le_T, cond_true, hpo, ebo, nL_1, ew, z_ne_F, cond_false, B_Q_finds, nL_2]
      exact rRes_st' h _ _ _
  · rw [pif_F g, B_Q_damage, E_Q_bars_no d h w g]
    simp (disch := omega) only [z_bI_some, nL_0, neg_1, cond_false]
    exact rRes_st h _ _
