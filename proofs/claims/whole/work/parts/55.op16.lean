/-! S LEVEL, the reference: repeat. -/
theorem L_Qr1 (d : Nat) {G : zG} {r i n : Nat} (w : wG G) (hr : r < gR G) (hn : gZ G r + n ≤ 400) (ha : i + n ≤ gZ G r) : ∀ (m : Nat) (B : zM), i + n + m ≤ gZ G r → rK (gR G) (gZ G) (dM G r n (i + n + m)) (oM G r n (i + n + m)) (gN G) (gT G) (gE G) B → ∃ B', z_denF zQ (d + 1) mQ_repeat (101, [some (.ref 15), some (.int (zn r)), some (.int (zn i)), some (.int (zn n)), some (.int (zn (i + n + m) - zn 1))], [], B) = z_denF zQ (d + 1) mQ_repeat (146, [some (.ref 15), some (.int (zn r)), some (.int (zn i)), some (.int (zn n)), some (.int (zn i))], [], B') ∧ rK (gR G) (gZ G) (dM G r n (i + n)) (oM G r n (i + n)) (gN G) (gT G) (gE G) B' ∧ zFr 0 0 xrS B B'
  | 0, B, hm, hK => by
    have hR := w.1
    refine ⟨B, ?_, hK, zFr_refl _ _⟩
    rw [L_Q_repeat_101, zn_add, z_lt_pred (by omega) (by omega)]
    rfl
  | m + 1, B, hm, hK => by
    have hR := w.1
    have e0 : zn (i + n + (m + 1)) - zn 1 = zn (i + n + m) := by rw [zn_sub (by omega)]; rfl
    have hc := hK.2.2.2.2.2.1 r (i + n + m) hr (by show (if r = r then _ else _); rw [if_pos rfl]; omega)
    have ho : oM G r n (i + n + (m + 1)) r (i + n + m) = gO G r (i + n + m) := by unfold oM; rw [if_neg (by omega)]
    rw [ho] at hc
    have k1 := rK_set (r := r) (s := i + n + m + n) (p := gO G r (i + n + m)) hK (fun q s hq hd => by
      unfold dM at hd
      by_cases e : q = r
      · rw [if_pos e] at hd; omega
      · rw [if_neg e] at hd
        have := wG_z w hq
        have := w.2.1
        omega) (by omega)
    have k2 := rK_D (D' := dM G r n (i + n + m)) (O' := oM G r n (i + n + m)) k1 (fun _ _ => rfl) (fun q s hq hd => by
      unfold dM at hd ⊢
      unfold oM
      by_cases e : q = r
      · rw [if_pos e] at hd ⊢
        by_cases e2 : s = i + n + m + n
        · refine ⟨Or.inr ⟨e, e2⟩, ?_⟩
          rw [if_pos ⟨e, by omega⟩, if_pos ⟨e, e2⟩]
          congr 1; omega
        · refine ⟨Or.inl (by omega), ?_⟩
          by_cases e3 : i + n + m + n ≤ s
          · rw [if_pos ⟨e, e3⟩, if_neg (fun q => e2 q.2), if_pos ⟨e, by omega⟩]
          · rw [if_neg (fun q => e3 q.2), if_neg (fun q => e2 q.2), if_neg (fun q => by omega)]
      · rw [if_neg e] at hd ⊢
        refine ⟨Or.inl hd, ?_⟩
        rw [if_neg (fun q => e q.1), if_neg (fun q => e q.1), if_neg (fun q => e q.1)]) (fun _ _ => rfl)
    obtain ⟨B', i1, i2, i3⟩ := L_Qr1 d w hr hn ha m _ (by omega) k2
    refine ⟨B', ?_, i2, zFr_trans (zFr_wI (X := xrS) (by unfold xrS; omega)) i3 (fun _ _ _ h => h)⟩
    have ea : 400 * r + (i + n + m) + n = 400 * r + (i + n + m + n) := by omega
    rw [L_Q_repeat_101, e0]
    simp (disch := omega) only [z_bV_some, z_bI_some, z_bJ_some, z_bD_some, z_bR_some, cond_true, cond_false, Bool.and_true, Bool.true_and, Bool.not_false, Bool.not_true, Bool.and_self, Bool.or_true, Bool.false_or, Bool.true_or, zn_ok, zn_ok0, zn_N, zn_add, zn_mul, zn_sub, z_lt_T, z_lt_F, z_le_T, z_le_F, z_eq_T, z_ne_F, z_eq_F, z_ne_T, z_ix_T, z_lt_m, z_le_m, z_lt_m2, z_le_m2, z_eq_m, z_ne_m, zn_div, z_a31, zn_shl, zn_shr, z_bq_T, z_bq_F, z_bl_T, nL_400, z_dec, hc, ea]
    exact i1
theorem L_Qr2 (d : Nat) {G : zG} {r i n : Nat} (w : wG G) (hr : r < gR G) (ha : i + n ≤ gZ G r) (h4 : gN G + n ≤ 400) : ∀ (m k : Nat) (B : zM), k + m = n → rK (gR G) (gZ G) (dC G r (i + n) n k) (gO (insG G r (i + n) r i n)) (gN G + k) (gT (insG G r (i + n) r i n)) (gE G + sumE G r i k) B → ∃ B', z_denF zQ (d + 3) mQ_repeat (146, [some (.ref 15), some (.int (zn r)), some (.int (zn i)), some (.int (zn n)), some (.int (zn (i + k)))], [], B) = some (some (.int (zn (gZ G r + n))), z_wI (z_wI B' 16 r (zn (gZ G r + n))) 15 0 (zn 0)) ∧ rK (gR G) (gZ G) (dC G r (i + n) n n) (gO (insG G r (i + n) r i n)) (gN G + n) (gT (insG G r (i + n) r i n)) (gE G + sumE G r i n) B' ∧ zFr 0 0 xrS B B'
  | 0, k, B, hk, hK => by
    have hR := w.1
    have hz := wG_z w hr
    have hGn := w.2.1
    have : k = n := by omega
    subst this
    refine ⟨B, ?_, hK, zFr_refl _ _⟩
    rw [L_Q_repeat_146]
    simp (disch := omega) only [z_bV_some, z_bI_some, z_bJ_some, z_bD_some, z_bR_some, cond_true, cond_false, Bool.and_true, Bool.true_and, Bool.not_false, Bool.not_true, Bool.and_self, Bool.or_true, Bool.false_or, Bool.true_or, zn_ok, zn_ok0, zn_N, zn_add, zn_mul, zn_sub, z_lt_T, z_lt_F, z_le_T, z_le_F, z_eq_T, z_ne_F, z_eq_F, z_ne_T, z_ix_T, z_lt_m, z_le_m, z_lt_m2, z_le_m2, z_eq_m, z_ne_m, zn_div, z_a31, zn_shl, zn_shr, z_bq_T, z_bq_F, z_bl_T, zI_put_a, zP_put, zD_put, z_hd_put, z_cls_put, z_ia_put, z_ln_put, z_new_put, zI_wI_s, zI_wP, zI_wD, zD_wI, zD_wP, zD_wD_s, zP_wI, zP_wD, z_hd_wI, z_hd_wP, z_hd_wD, z_hd_cpy, z_cls_wI, z_cls_wP, z_cls_wD, z_cls_cpy, z_ia_wI, z_ia_wP, z_ia_wD, z_ia_cpy, z_ln_wI, z_ln_wP, z_ln_wD, z_ln_cpy, z_new_wI, z_new_wP, z_new_wD, z_new_cpy, z_new_nw, zP_cpy, zI_uI_s, zP_uI, zD_uI, z_hd_uI, z_cls_uI, z_ia_uI, z_ln_uI, z_new_uI, zI_wI_a, zI_wI_k, zI_uI_a, zI_cpy_a, zP_wP_s, zP_wP_a, zP_wP_k, nL_0, hK.2.2.2.1 r hr, B_Q_well]
  | m + 1, k, B, hk, hK => by
    have hR := w.1
    have hz := wG_z w hr
    have hGn := w.2.1
    have hz4 : gZ G r + n ≤ 400 := by omega
    have hO : gO (insG G r (i + n) r i n) r (i + k) = gO G r (i + k) := by
      show (if r = r then _ else _) = _
      rw [if_pos rfl, if_pos (by omega)]
    have hc := hK.2.2.2.2.2.1 r (i + k) hr (by unfold dC; rw [if_pos rfl]; omega)
    rw [hO] at hc
    have hp := w.2.2.2.1 r (i + k) hr (by omega)
    have e1 := E_Q_poK (d + 1) (by omega) (by omega) hc
    have hst : gT (insG G r (i + n) r i n) (gO G r (i + k)) = gS G r (i + k) := by
      show (if gN G ≤ gO G r (i + k) then _ else _) = _
      rw [if_neg (by omega)]; rfl
    obtain ⟨B1, c1, c2, c3⟩ := rK_copy d hK (p := gO G r (i + k)) (by omega) (by omega) (by rw [hst]; exact w.2.2.2.2.1 _ hp)
    have k2 := rK_set (r := r) (s := i + n + k) (p := gN G + k) c2 (fun q s hq hd => by
      unfold dC at hd
      by_cases e : q = r
      · rw [if_pos e] at hd; omega
      · rw [if_neg e] at hd
        have := wG_z w hq
        omega) (by omega)
    have eE : gE G + sumE G r i k + tS (gT (insG G r (i + n) r i n) (gO G r (i + k))) = gE G + sumE G r i (k + 1) := by
      rw [hst]
      show _ = gE G + (sumE G r i k + tS (gS G r (i + k)))
      omega
    rw [eE] at k2
    have k3 := rK_D (zs' := gZ G) (D' := dC G r (i + n) n (k + 1)) (O' := gO (insG G r (i + n) r i n)) (st' := gT (insG G r (i + n) r i n)) k2 (fun _ _ => rfl) (fun q s hq hd => by
      unfold dC at hd ⊢
      by_cases e : q = r
      · rw [if_pos e] at hd ⊢
        by_cases e2 : s = i + n + k
        · refine ⟨Or.inr ⟨e, e2⟩, ?_⟩
          rw [if_pos ⟨e, e2⟩]
          show (if q = r then (if s < i + n then gO G r s else if s < i + n + n then gN G + (s - (i + n)) else gO G r (s - n)) else gO G q s) = _
          rw [if_pos e, if_neg (by omega), if_pos (by omega)]; omega
        · refine ⟨Or.inl (by omega), ?_⟩
          rw [if_neg (fun q => e2 q.2)]
      · rw [if_neg e] at hd ⊢
        refine ⟨Or.inl hd, ?_⟩
        rw [if_neg (fun q => e q.1)]) (fun p hp => by
      by_cases e : p = gN G + k
      · rw [if_pos e, hst]
        show (if gN G ≤ p then twT (gS G r (i + (p - gN G))) else gT G p) = _
        rw [if_pos (by omega), show i + (p - gN G) = i + k by omega]
      · rw [if_neg e])
    obtain ⟨B', i1, i2, i3⟩ := L_Qr2 d w hr ha h4 m (k + 1) _ (by omega) k3
    refine ⟨B', ?_, i2, zFr_trans (zFr_trans c3 (zFr_wI (X := xrS) (by unfold xrS; omega)) (fun _ _ _ h => h)) i3 (fun _ _ _ h => h)⟩
    have i1 : z_denF zQ (d + 2 + 1) mQ_repeat _ = _ := i1
    rw [show i + (k + 1) = i + k + 1 by omega] at i1
    have ea : 400 * r + (i + k) + n = 400 * r + (i + n + k) := by omega
    rw [L_Q_repeat_146]
    simp (disch := omega) only [z_bV_some, z_bI_some, z_bJ_some, z_bD_some, z_bR_some, cond_true, cond_false, Bool.and_true, Bool.true_and, Bool.not_false, Bool.not_true, Bool.and_self, Bool.or_true, Bool.false_or, Bool.true_or, zn_ok, zn_ok0, zn_N, zn_add, zn_mul, zn_sub, z_lt_T, z_lt_F, z_le_T, z_le_F, z_eq_T, z_ne_F, z_eq_F, z_ne_T, z_ix_T, z_lt_m, z_le_m, z_lt_m2, z_le_m2, z_eq_m, z_ne_m, zn_div, z_a31, zn_shl, zn_shr, z_bq_T, z_bq_F, z_bl_T, nL_1, nL_400, e1, c1, ea, i1]
theorem Q_repeat (d : Nat) {pl : Bool} {G : zG} {B : zM} {x i n : Int32} (h : rG G B) (w : wG G) (hp : zI B 15 36 = bI pl) : rRes B (oRepeat pl G x i n) (z_den zQ (d + 3) mQ_repeat [.ref 15, .int x, .int i, .int n] B) := by
  unfold oRepeat
  rw [B_Q_repeat]
  rcases rOk_c w x with g | ⟨r, hr, rfl⟩
  · rw [pif_F (fun q => g q.1), E_Q_isRoll_no _ h w g]
    simp (disch := omega) only [z_bV_some, z_bI_some, z_bJ_some, z_bD_some, z_bR_some, cond_true, cond_false, Bool.and_true, Bool.true_and, Bool.not_false, Bool.not_true, Bool.and_self, Bool.or_true, Bool.false_or, Bool.true_or, zn_ok, zn_ok0, zn_N, zn_add, zn_mul, zn_sub, z_lt_T, z_lt_F, z_le_T, z_le_F, z_eq_T, z_ne_F, z_eq_F, z_ne_T, z_ix_T, z_lt_m, z_le_m, z_lt_m2, z_le_m2, z_eq_m, z_ne_m, zn_div, z_a31, zn_shl, zn_shr, z_bq_T, z_bq_F, z_bl_T, nL_0, B_Q_no]
    exact rRes_st h _ _
  have hR := w.1
  have hz := wG_z w hr
  have hGn := w.2.1
  have h8 := w.2.2.2.2.2.2
  rw [E_Q_isRoll_ok _ h w (rOk_nat w hr), zn_N (by omega)]
  by_cases gN' : 0 ≤ n.toInt ∧ n.toInt ≤ 8
  rotate_left
  · rw [pif_F (fun q => gN' q.2.1)]
    have ew := Q_within_F (d := d + 1) (x := n) (a := 0) (n := 8) (M := B) (by omega) (by omega) gN'
    simp (disch := omega) only [z_bV_some, z_bI_some, z_bJ_some, z_bD_some, z_bR_some, cond_true, cond_false, Bool.and_true, Bool.true_and, Bool.not_false, Bool.not_true, Bool.and_self, Bool.or_true, Bool.false_or, Bool.true_or, zn_ok, zn_ok0, zn_N, zn_add, zn_mul, zn_sub, z_lt_T, z_lt_F, z_le_T, z_le_F, z_eq_T, z_ne_F, z_eq_F, z_ne_T, z_ix_T, z_lt_m, z_le_m, z_lt_m2, z_le_m2, z_eq_m, z_ne_m, zn_div, z_a31, zn_shl, zn_shr, z_bq_T, z_bq_F, z_bl_T, nL_0, nL_8, ew, B_Q_no]
    exact rRes_st h _ _
  have ew1 := Q_within_T (d := d + 1) (x := n) (a := 0) (n := 8) (M := B) (by omega) (by omega) gN'
  obtain ⟨N, hN, rfl⟩ := zn_ex gN'.1
  have tN' := zn_toInt hN
  rw [tN'] at gN'
  have i16 := h.2.2.2.1 r hr
  have t0 : (zn 0).toInt = 0 := zn_toInt (by omega)
  have ts : (zn (gZ G r) - zn N).toInt = gZ G r - N := by rw [tI_sub (by rw [zn_toInt (by omega), tN']; omega) (by rw [zn_toInt (by omega), tN']; omega), zn_toInt (by omega), tN']
  have ew2 := E_Q_within (d + 1) i (zn 0) (zn (gZ G r) - zn N) B
  have pre : ∀ M : zM, z_ix (zn r) 20 = true := fun _ => z_ix_T (by omega) (by omega)
  by_cases gI : 0 ≤ i.toInt ∧ i.toInt ≤ gZ G r - N
  rotate_left
  · rw [pif_F (fun q => gI (by rw [tN'] at q; exact q.2.2))]
    rw [bI_0 (by rw [decide_eq_true_iff]; omega)] at ew2
    rw [z_bI_some, nL_0, z_eq_F (by omega) (by omega) (by omega), cond_false, nL_8, ew1, z_bI_some, z_eq_F (by omega) (by omega) (by omega), cond_false, pre B, cond_true, i16, ew2, z_bI_some, z_ne_F, cond_false, B_Q_no, z_bI_some]
    exact rRes_st h _ _
  rw [bI_1 (by rw [decide_eq_true_iff]; omega)] at ew2
  obtain ⟨I, hI, rfl⟩ := zn_ex gI.1
  have tI' := zn_toInt hI
  rw [tI'] at gI
  rw [pif_T ⟨rOk_nat w hr, by omega⟩, zn_N hN, zn_N hI]
  unfold oAdd
  by_cases g2 : pl = true
  · rw [if_pos g2]
    rw [z_bI_some, nL_0, z_eq_F (by omega) (by omega) (by omega), cond_false, nL_8, ew1, z_bI_some, z_eq_F (by omega) (by omega) (by omega), cond_false, pre B, cond_true, i16, ew2, z_bI_some, z_ne_T (by omega) (by omega) (by omega), cond_true, hp, pl_T g2, cond_false, B_Q_no, z_bI_some]
    exact rRes_st h _ _
  rw [if_neg g2]
  have i4 := h.2.1
  have i13 := h.2.2.1
  rw [z_bI_some, nL_0, z_eq_F (by omega) (by omega) (by omega), cond_false, nL_8, ew1, z_bI_some, z_eq_F (by omega) (by omega) (by omega), cond_false, pre B, cond_true, i16, ew2, z_bI_some, z_ne_T (by omega) (by omega) (by omega), cond_true, hp, pl_F g2, cond_true, i4, zn_add, nL_400]
  by_cases g3 : 400 < gN G + N
  · rw [pif_T (Or.inl g3), z_lt_T g3 (by omega), cond_true, B_Q_no, z_bI_some]
    exact rRes_st h _ _
  rw [z_lt_F (by omega) (by omega), cond_false]
  have hse := sumE_le w hr (i := I) (n := N) (by omega)
  have ee := E_Q_elementsOf d h w hr (i := I) (n := N) (by omega)
  rw [ee, z_bI_some, i13, zn_add, nL_8000]
  by_cases g4 : 8000 < gE G + sumE G r I N
  · rw [pif_T (Or.inr g4), z_le_F g4 (by omega), cond_false, B_Q_no, z_bI_some]
    exact rRes_st h _ _
  rw [pif_F (by omega), z_le_T (by omega) (by omega), cond_true, i16, nL_1, cond_true]
  have k1 := rK_D (D' := dM G r N (I + N + (gZ G r - (I + N)))) (O' := oM G r N (I + N + (gZ G r - (I + N)))) ((rG_iff G B).mp h) (fun _ _ => rfl) (fun q s hq hd => by
    unfold dM at hd
    unfold oM
    by_cases e : q = r
    · rw [if_pos e] at hd
      refine ⟨by rw [e]; omega, ?_⟩
      by_cases e2 : q = r ∧ I + N + (gZ G r - (I + N)) + N ≤ s
      · omega
      · rw [if_neg e2]
    · rw [if_neg e] at hd
      exact ⟨hd, by rw [if_neg (fun q => e q.1)]⟩) (fun _ _ => rfl)
  obtain ⟨B1, r1, r2, r3⟩ := L_Qr1 (d + 2) (i := I) w hr (by omega) (by omega) (gZ G r - (I + N)) B (by omega) k1
  rw [show I + N + (gZ G r - (I + N)) = gZ G r by omega] at r1
  have k2 := rK_D (zs' := gZ G) (D' := dC G r (I + N) N 0) (O' := gO (insG G r (I + N) r I N)) (st' := gT (insG G r (I + N) r I N)) r2 (fun _ _ => rfl) (fun q s hq hd => by
    unfold dC at hd
    unfold dM oM
    show _ ∧ (if q = r then (if s < I + N then gO G r s else if s < I + N + N then gN G + (s - (I + N)) else gO G r (s - N)) else gO G q s) = _
    by_cases e : q = r
    · rw [if_pos e] at hd ⊢
      refine ⟨hd, ?_⟩
      rw [if_pos e]
      by_cases e1 : s < I + N
      · rw [if_pos e1, if_neg (fun q => by omega), e]
      · rw [if_neg e1, if_neg (by omega), if_pos ⟨e, by omega⟩]
    · rw [if_neg e] at hd ⊢
      refine ⟨hd, ?_⟩
      rw [if_neg e, if_neg (fun q => e q.1)]) (fun p hp => by
    show (if gN G ≤ p then _ else gT G p) = gT G p
    rw [if_neg (by omega)])
  obtain ⟨B2, s1, s2, s3⟩ := L_Qr2 d (i := I) w hr (by omega) (by omega) N 0 B1 (by omega) k2
  have s1 : z_denF zQ (d + 2 + 1) mQ_repeat (146, [some (.ref 15), some (.int (zn r)), some (.int (zn I)), some (.int (zn N)), some (.int (zn I))], [], B1) = _ := s1
  rw [r1, s1]
  have k3 := rK_cnt (n := gZ G r + N) s2 hr
  refine rRes_K (G := insG G r (I + N) r I N) (zFr_trans (zFr_trans r3 s3 (fun _ _ _ h => h)) (zFr_wI (X := xrS) (by unfold xrS; omega)) (fun _ _ _ h => h)) ?_
  rw [rG_iff]
  refine rK_D k3 (fun _ _ => rfl) (fun q s hq hd => ⟨?_, rfl⟩) (fun _ _ => rfl)
  have hd : s < if q = r then gZ G r + N else gZ G q := hd
  unfold dC
  by_cases e : q = r
  · rw [if_pos e] at hd ⊢; omega
  · rw [if_neg e] at hd ⊢; exact hd
