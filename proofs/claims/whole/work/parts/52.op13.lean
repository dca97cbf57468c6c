/-! S LEVEL, the class: copies of strips come to a roll. -/
def dC (G : zG) (r at_ n k : Nat) : Nat → Nat → Prop := fun q s => if q = r then (s < at_ + k ∨ (at_ + n ≤ s ∧ s < gZ G r + n)) else s < gZ G q
theorem cK_ex {nr np : Nat} {cz : Nat → Nat} {D : Nat → Nat → Prop} {O : Nat → Nat → Nat} {st : Nat → zT} {al al' : Nat → Nat} {A : zM} (h : cK nr cz D O np st al A) (he : ∀ p, p < np → al' p = al p) (hD : ∀ r s, r < nr → D r s → O r s < np) : cK nr cz D O np st al' A := by
  obtain ⟨a4, a5, a6, a7, a8, a9⟩ := h
  refine ⟨a4, fun r s hr hd => ?_, a6, fun p hp => ?_, fun p q hp hq hne => ?_, a9⟩
  · rw [he _ (hD r s hr hd)]; exact a5 r s hr hd
  · rw [he p hp]; exact a7 p hp
  · rw [he p hp, he q hq]; exact a8 p q hp hq hne
theorem E_L_put (d ρ n s a : Nat) (A : zM) (h : cRo A ρ n) (hn : n ≤ 400) (hs : s < n) (ha : z_hd zQ A a = some (9, 7)) : z_den zQ (d + 1) mL_put [.ref ρ, .int (zn s), .ref a] A = some (none, z_wP A (zP zQ A ρ 0) s a) := by
  have l18 := hd_lt56 h.2.1 (by omega)
  have hf := z_free_T (a := zP zQ A ρ 0) (k := s) (by omega) (by omega) (by omega)
  rw [B_L_put, h.2.2]
  simp (disch := omega) only [z_bV_some, z_bI_some, z_bJ_some, z_bD_some, z_bR_some, cond_true, cond_false, Bool.and_true, Bool.true_and, Bool.not_false, Bool.not_true, Bool.and_self, Bool.or_true, Bool.false_or, Bool.true_or, zn_ok, zn_ok0, zn_N, zn_add, zn_mul, zn_sub, z_lt_T, z_lt_F, z_le_T, z_le_F, z_eq_T, z_ne_F, z_eq_F, z_ne_T, z_ix_T, z_lt_m, z_le_m, z_lt_m2, z_le_m2, z_eq_m, z_ne_m, zn_div, z_a31, zn_shl, zn_shr, z_bq_T, z_bq_F, z_bl_T, nL_0, nL_400, c8 h.1, hf, c9 ha, z_ia_of h.2.1]
theorem L_ac (d : Nat) {G : zG} {r r' at_ i n more : Nat} (w : wG G) (hr : r < gR G) (hr' : r' < gR G) (ha : at_ ≤ gZ G r) (hi : i + n ≤ gZ G r') (hrr : r' = r → i + n ≤ at_) (h4 : gN G + n ≤ 400) (ρ ρ' ar : Nat) : ∀ (m k : Nat) (al : Nat → Nat) (A : zM) (o : Option Value), k + m = n → zP zQ A 2 r = ρ → zP zQ A 2 r' = ρ' → zP zQ A ρ 0 = ar → zI A 1 4 = zn (gN G) → zI A 1 5 = zn (gE G) → cK (gR G) (gZ (insG G r at_ r' i n)) (dC G r at_ n k) (gO (insG G r at_ r' i n)) (gN G + k) (gT (insG G r at_ r' i n)) al A →
    ∃ A' al', z_denF zQ (d + 4) mP_addCopies (49, [some (.ref 1), some (.ref ρ), some (.int (zn at_)), some (.ref ρ'), some (.int (zn i)), some (.int (zn n)), some (.int (zn more)), some (.int (zn k)), o], [], A) = some (some (.int (zn (gZ G r + n))), z_wI (z_wI (z_wI A' 1 4 (zn (gN G + n))) 1 5 (zn (gE G + more))) 1 7 (zn 0)) ∧ zFr (3 * m) (2100 * m) (fun a _ => a = ar) A A' ∧ cK (gR G) (gZ (insG G r at_ r' i n)) (dC G r at_ n n) (gO (insG G r at_ r' i n)) (gN G + n) (gT (insG G r at_ r' i n)) al' A'
  | 0, k, al, A, o, hk, hρ, hρ', har, i4, i5, hK => by
    have q := hK.1 r hr
    rw [hρ] at q
    have hzr : gZ (insG G r at_ r' i n) r = gZ G r + n := by show (if r = r then _ else _) = _; rw [if_pos rfl]
    rw [hzr] at q
    have : k = n := by omega
    subst this
    have lρ := hd_lt56 q.1 (by omega)
    refine ⟨A, al, ?_, zFr_refl _ _, hK⟩
    rw [L_P_addCopies_49]
    simp (disch := omega) only [z_bV_some, z_bI_some, z_bJ_some, z_bD_some, z_bR_some, cond_true, cond_false, Bool.and_true, Bool.true_and, Bool.not_false, Bool.not_true, Bool.and_self, Bool.or_true, Bool.false_or, Bool.true_or, zn_ok, zn_ok0, zn_N, zn_add, zn_mul, zn_sub, z_lt_T, z_lt_F, z_le_T, z_le_F, z_eq_T, z_ne_F, z_eq_F, z_ne_T, z_ix_T, z_lt_m, z_le_m, z_lt_m2, z_le_m2, z_eq_m, z_ne_m, zn_div, z_a31, zn_shl, zn_shr, z_bq_T, z_bq_F, z_bl_T, zI_put_a, zP_put, zD_put, z_hd_put, z_cls_put, z_ia_put, z_ln_put, z_new_put, zI_wI_s, zI_wP, zI_wD, zD_wI, zD_wP, zD_wD_s, zP_wI, zP_wD, z_hd_wI, z_hd_wP, z_hd_wD, z_hd_cpy, z_cls_wI, z_cls_wP, z_cls_wD, z_cls_cpy, z_ia_wI, z_ia_wP, z_ia_wD, z_ia_cpy, z_ln_wI, z_ln_wP, z_ln_wD, z_ln_cpy, z_new_wI, z_new_wP, z_new_wD, z_new_cpy, z_new_nw, zP_cpy, zI_uI_s, zP_uI, zD_uI, z_hd_uI, z_cls_uI, z_ia_uI, z_ln_uI, z_new_uI, zI_wI_a, zI_wI_k, zI_uI_a, zI_cpy_a, zP_wP_s, zP_wP_a, zP_wP_k, nL_0, i4, i5, c8 q.1, q.2.2, B_P_done]
  | m + 1, k, al, A, o, hk, hρ, hρ', har, i4, i5, hK => by
    have hz := wG_z w hr
    have hz' := wG_z w hr'
    have hGn := w.2.1
    have q := hK.1 r hr
    have q' := hK.1 r' hr'
    rw [hρ] at q
    rw [hρ'] at q'
    have hzr : gZ (insG G r at_ r' i n) r = gZ G r + n := by show (if r = r then _ else _) = _; rw [if_pos rfl]
    have hzr' : gZ G r' ≤ gZ (insG G r at_ r' i n) r' ∧ gZ (insG G r at_ r' i n) r' ≤ 400 := by
      show gZ G r' ≤ (if r' = r then _ else _) ∧ (if r' = r then _ else _) ≤ 400
      by_cases e : r' = r
      · rw [if_pos e, e]
        have : gZ G r + n ≤ 400 := by omega
        omega
      · rw [if_neg e]; omega
    rw [hzr] at q
    have lρ := hd_lt56 q.1 (by omega)
    have q2 := q.2.1
    rw [har] at q2
    have lar := hd_lt56 q2 (by omega)
    have hD : ∀ q s, q < gR G → dC G r at_ n k q s → gO (insG G r at_ r' i n) q s < gN G + k := fun q s hq hd => by
      unfold dC at hd
      show (if q = r then (if s < at_ then gO G r s else if s < at_ + n then gN G + (s - at_) else gO G r (s - n)) else gO G q s) < gN G + k
      by_cases e : q = r
      · rw [if_pos e] at hd ⊢
        by_cases e1 : s < at_
        · rw [if_pos e1]; have := w.2.2.2.1 r s hr (by omega); omega
        · rw [if_neg e1]
          by_cases e2 : s < at_ + n
          · rw [if_pos e2]; omega
          · rw [if_neg e2]; have := w.2.2.2.1 r (s - n) hr (by omega); omega
      · rw [if_neg e] at hd ⊢
        have := w.2.2.2.1 q s hq hd; omega
    -- the strip that is copied
    have hsrc : dC G r at_ n k r' (i + k) ∧ gO (insG G r at_ r' i n) r' (i + k) = gO G r' (i + k) := by
      refine ⟨?_, ?_⟩
      · unfold dC
        by_cases e : r' = r
        · rw [if_pos e]; have := hrr e; omega
        · rw [if_neg e]; omega
      · show (if r' = r then _ else _) = _
        by_cases e : r' = r
        · have := hrr e
          rw [if_pos e, if_pos (by omega), e]
        · rw [if_neg e]
    have hc := hK.2.1 r' (i + k) hr' hsrc.1
    rw [hsrc.2, hρ'] at hc
    have hp := w.2.2.2.1 r' (i + k) hr' (by omega)
    have hT := hK.2.2.2.1 (gO G r' (i + k)) (by omega)
    have hgt : gT (insG G r at_ r' i n) (gO G r' (i + k)) = gS G r' (i + k) := by
      show (if gN G ≤ gO G r' (i + k) then _ else _) = _
      rw [if_neg (by omega)]; rfl
    rw [hgt] at hT
    have wS : wT (gS G r' (i + k)) := w.2.2.2.2.1 _ hp
    have e1 := E_L_stripAt_ok (d + 2) (s := i + k) q' hzr'.2 (by omega)
    rw [hc] at e1
    obtain ⟨A1, t1, t2, t3, t4⟩ := E_S_twin d _ A _ hT wS hK.2.2.2.2.2
    have n0 := hd_n0 hT.1 (by decide)
    have q1 := (cRo_fr t3 q (fun _ q => q)).1
    have qp1 := (cRo_fr t3 q (fun _ q => q)).2
    have e3 := E_L_put (d + 2) ρ (gZ G r + n) (at_ + k) (z_new zQ A) A1 q1 (by omega) (by omega) t2.1
    rw [qp1, har] at e3
    have k1 := cK_add t3 hK (Nat.le_refl _) t2 (by omega) hD
    have k2 := cK_set (s := at_ + k) (p := gN G + k) k1 hr
    have g56 := z_new_ge A
    have p2 : ∀ x, zP zQ A1 2 x = zP zQ A 2 x := fun x => zFr_P t3 _ (by omega) (fun q => q)
    rw [p2, hρ, qp1, har] at k2
    have k3 := cK_D (cz' := gZ (insG G r at_ r' i n)) (D' := dC G r at_ n (k + 1)) (O' := gO (insG G r at_ r' i n)) (st' := gT (insG G r at_ r' i n)) k2 (fun _ _ => rfl) (fun q s hq hd => by
      unfold dC at hd ⊢
      by_cases e : q = r
      · rw [if_pos e] at hd ⊢
        by_cases e2 : s = at_ + k
        · refine ⟨Or.inr ⟨e, e2⟩, ?_⟩
          rw [if_pos ⟨e, e2⟩]
          show (if q = r then (if s < at_ then gO G r s else if s < at_ + n then gN G + (s - at_) else gO G r (s - n)) else gO G q s) = _
          rw [if_pos e, if_neg (by omega), if_pos (by omega)]; omega
        · refine ⟨Or.inl (by omega), ?_⟩
          rw [if_neg (fun q => e2 q.2)]
      · rw [if_neg e] at hd ⊢
        refine ⟨Or.inl hd, ?_⟩
        rw [if_neg (fun q => e q.1)]) (fun p hp => by
      by_cases e : p = gN G + k
      · rw [if_pos e]
        show (if gN G ≤ p then twT (gS G r' (i + (p - gN G))) else gT G p) = _
        rw [if_pos (by omega), show i + (p - gN G) = i + k by omega]
        rfl
      · rw [if_neg e])
    rw [if_pos rfl] at k3
    obtain ⟨A', al', i1, i2, i3⟩ := L_ac d (more := more) w hr hr' ha hi hrr h4 ρ ρ' ar m (k + 1) _ (z_wP A1 ar (at_ + k) (z_new zQ A)) (some (.ref (al (gO G r' (i + k))))) (by omega) (by rw [zP_wP_a (by omega), p2]; exact hρ) (by rw [zP_wP_a (by omega), p2]; exact hρ') (by rw [zP_wP_a (fun e => by rw [← e, q.1] at q2; cases q2), qp1]; exact har) (by rw [zI_wP, zFr_I t3 _ (by omega) (fun q => q)]; exact i4) (by rw [zI_wP, zFr_I t3 _ (by omega) (fun q => q)]; exact i5) k3
    refine ⟨A', al', ?_, ?_, i3⟩
    · rw [L_P_addCopies_49]
      simp (disch := omega) only [z_bV_some, z_bI_some, z_bJ_some, z_bD_some, z_bR_some, cond_true, cond_false, Bool.and_true, Bool.true_and, Bool.not_false, Bool.not_true, Bool.and_self, Bool.or_true, Bool.false_or, Bool.true_or, zn_ok, zn_ok0, zn_N, zn_add, zn_mul, zn_sub, z_lt_T, z_lt_F, z_le_T, z_le_F, z_eq_T, z_ne_F, z_eq_F, z_ne_T, z_ix_T, z_lt_m, z_le_m, z_lt_m2, z_le_m2, z_eq_m, z_ne_m, zn_div, z_a31, zn_shl, zn_shr, z_bq_T, z_bq_F, z_bl_T, nL_1, c8 q'.1, e1, c9 hT.1, t1, c8 q1.1, e3, i1]
    · have f1 := zFr_trans (zFr_trans (xN_any (X := fun a _ => a = ar) t3) (zFr_wP (X := fun a _ => a = ar) (A := A1) (k := at_ + k) (v := z_new zQ A) rfl) (fun _ _ _ h => h)) i2 (fun _ _ _ h => h)
      exact zFr_mono f1 (by omega) (by omega) (fun _ _ h => h)
def nDel (G : zG) (r : Int32 × Int32 × zG) : Nat := gN r.2.2 - gN G
theorem E_addCopies (d : Nat) {pl : Bool} {G : zG} {al : Nat → Nat} {A : zM} {r r' at_ i n : Nat} (h : cG G al A) (w : wG G) (hr : r < gR G) (hr' : r' < gR G) (ha : at_ ≤ gZ G r) (hi : i + n ≤ gZ G r') (hrr : r' = r → i + n ≤ at_) : cRes (3 * nDel G (pif (400 < gN G + n ∨ 8000 < gE G + sumE G r' i n) (-2, -2, G) (zn (gZ G r + n), zn 0, insG G r at_ r' i n))) (2100 * nDel G (pif (400 < gN G + n ∨ 8000 < gE G + sumE G r' i n) (-2, -2, G) (zn (gZ G r + n), zn 0, insG G r at_ r' i n))) A (pif (400 < gN G + n ∨ 8000 < gE G + sumE G r' i n) (-2, -2, G) (zn (gZ G r + n), zn 0, insG G r at_ r' i n)) (z_den zQ (d + 4) mP_addCopies [.ref 1, .ref (zP zQ A 2 r), .int (zn at_), .ref (zP zQ A 2 r'), .int (zn i), .int (zn n)] A) := by
  obtain ⟨q, q0, hz⟩ := cG_ro h w hr
  obtain ⟨q', q0', hz'⟩ := cG_ro h w hr'
  have hGn := w.2.1
  have h8 := w.2.2.2.2.2.2
  have i4 := h.2.1
  have i5 := h.2.2.1
  have e1 := E_L_elementsIn (d + 1) h w hr' hi
  have hse : sumE G r' i n ≤ 256 * n := by
    unfold sumE
    have : ∀ m, m ≤ n → sumN (fun k => tS (gS G r' (i + k))) m ≤ 256 * m := by
      intro m
      induction m with
      | zero => intro _; exact Nat.le_refl _
      | succ m ih =>
        intro hm
        have := ih (by omega)
        have : tS (gS G r' (i + m)) ≤ 256 := (w.2.2.2.2.1 _ (w.2.2.2.1 r' (i + m) hr' (by omega))).2.2.2.2.1
        show sumN _ m + tS (gS G r' (i + m)) ≤ _
        omega
    exact this n (Nat.le_refl _)
  rw [B_P_addCopies]
  by_cases g1 : 400 < gN G + n
  · rw [pif_T (Or.inl g1)]
    simp (disch := omega) only [z_bV_some, z_bI_some, z_bJ_some, z_bD_some, z_bR_some, cond_true, cond_false, Bool.and_true, Bool.true_and, Bool.not_false, Bool.not_true, Bool.and_self, Bool.or_true, Bool.false_or, Bool.true_or, zn_ok, zn_ok0, zn_N, zn_add, zn_mul, zn_sub, z_lt_T, z_lt_F, z_le_T, z_le_F, z_eq_T, z_ne_F, z_eq_F, z_ne_T, z_ix_T, z_lt_m, z_le_m, z_lt_m2, z_le_m2, z_eq_m, z_ne_m, zn_div, z_a31, zn_shl, zn_shr, z_bq_T, z_bq_F, z_bl_T, nL_400, c8 q'.1, e1, i4, B_P_refuse]
    exact cRes_st h _ _
  have em : z_den zQ (d + 3) mP_tooManyElements [.ref 1, .int (zn (sumE G r' i n))] A = some (some (.int (bI (decide (8000 < gE G + sumE G r' i n)))), A) := by
    rw [B_P_tooManyElements, i5]
    by_cases g : 8000 < gE G + sumE G r' i n
    · rw [bI_1 (decide_eq_true g)]
      simp (disch := omega) only [z_bV_some, z_bI_some, z_bJ_some, z_bD_some, z_bR_some, cond_true, cond_false, Bool.and_true, Bool.true_and, Bool.not_false, Bool.not_true, Bool.and_self, Bool.or_true, Bool.false_or, Bool.true_or, zn_ok, zn_ok0, zn_N, zn_add, zn_mul, zn_sub, z_lt_T, z_lt_F, z_le_T, z_le_F, z_eq_T, z_ne_F, z_eq_F, z_ne_T, z_ix_T, z_lt_m, z_le_m, z_lt_m2, z_le_m2, z_eq_m, z_ne_m, zn_div, z_a31, zn_shl, zn_shr, z_bq_T, z_bq_F, z_bl_T, nL_8000, nL_1]
    · rw [bI_0 (by rw [decide_eq_true_iff]; exact g)]
      simp (disch := omega) only [z_bV_some, z_bI_some, z_bJ_some, z_bD_some, z_bR_some, cond_true, cond_false, Bool.and_true, Bool.true_and, Bool.not_false, Bool.not_true, Bool.and_self, Bool.or_true, Bool.false_or, Bool.true_or, zn_ok, zn_ok0, zn_N, zn_add, zn_mul, zn_sub, z_lt_T, z_lt_F, z_le_T, z_le_F, z_eq_T, z_ne_F, z_eq_F, z_ne_T, z_ix_T, z_lt_m, z_le_m, z_lt_m2, z_le_m2, z_eq_m, z_ne_m, zn_div, z_a31, zn_shl, zn_shr, z_bq_T, z_bq_F, z_bl_T, nL_8000, nL_0]
  by_cases g2 : 8000 < gE G + sumE G r' i n
  · rw [pif_T (Or.inr g2)]
    rw [bI_1 (decide_eq_true g2)] at em
    simp (disch := omega) only [z_bV_some, z_bI_some, z_bJ_some, z_bD_some, z_bR_some, cond_true, cond_false, Bool.and_true, Bool.true_and, Bool.not_false, Bool.not_true, Bool.and_self, Bool.or_true, Bool.false_or, Bool.true_or, zn_ok, zn_ok0, zn_N, zn_add, zn_mul, zn_sub, z_lt_T, z_lt_F, z_le_T, z_le_F, z_eq_T, z_ne_F, z_eq_F, z_ne_T, z_ix_T, z_lt_m, z_le_m, z_lt_m2, z_le_m2, z_eq_m, z_ne_m, zn_div, z_a31, zn_shl, zn_shr, z_bq_T, z_bq_F, z_bl_T, nL_400, nL_0, c8 q'.1, e1, i4, em, B_P_refuse]
    exact cRes_st h _ _
  rw [pif_F (by omega), show nDel G (zn (gZ G r + n), zn 0, insG G r at_ r' i n) = n by show gN G + n - gN G = n; omega]
  rw [bI_0 (by rw [decide_eq_true_iff]; exact g2)] at em
  have hzn := wG_z w hr
  have lar := hd_lt56 q.2.1 (by omega)
  have lρ := hd_lt56 q.1 (by omega)
  have k0 := ((cG_iff G al A).mp h).2.2.2
  have k1 := cK_D (D' := dM G r n (at_ + (gZ G r - at_))) (O' := oM G r n (at_ + (gZ G r - at_))) k0 (fun _ _ => rfl) (fun q s hq hd => by
    unfold dM at hd
    unfold oM
    by_cases e : q = r
    · rw [if_pos e] at hd
      refine ⟨by rw [e]; omega, ?_⟩
      by_cases e2 : q = r ∧ at_ + (gZ G r - at_) + n ≤ s
      · omega
      · rw [if_neg e2]
    · rw [if_neg e] at hd
      exact ⟨hd, by rw [if_neg (fun q => e q.1)]⟩) (fun _ _ => rfl)
  obtain ⟨A1, m1, m2, m3, m4⟩ := L_mr (d + 2) (n := n) (at_ := at_) w hr (by omega) (zP zQ A 2 r) _ lar (gZ G r - at_) A (by omega) rfl rfl k1
  rw [show at_ + (gZ G r - at_) = gZ G r by omega] at m1
  have em1 : z_den zQ (d + 3) mL_makeRoom [.ref (zP zQ A 2 r), .int (zn at_), .int (zn n)] A = some (none, z_wI A1 (zP zQ A 2 r) 1 (zn (gZ G r + n))) := by
    rw [B_L_makeRoom, q.2.2]
    have z1 : z_le (zn n) (zn 400 - zn (gZ G r)) = true := by rw [zn_sub (by omega)]; exact z_le_T (by omega) (by omega)
    rw [nL_0, nL_400, nL_1, z_lt_F (by omega) (by omega), z_lt_F (by omega) (by omega), c8 q.1, z1]
    exact m1
  have k2 := cK_cnt (n := gZ G r + n) m4 hr
  rw [m3] at k2
  have k3 := cK_D (cz' := gZ (insG G r at_ r' i n)) (D' := dC G r at_ n 0) (O' := gO (insG G r at_ r' i n)) (st' := gT (insG G r at_ r' i n)) k2 (fun _ _ => rfl) (fun q s hq hd => by
    unfold dC at hd
    unfold dM oM
    show _ ∧ (if q = r then (if s < at_ then gO G r s else if s < at_ + n then gN G + (s - at_) else gO G r (s - n)) else gO G q s) = _
    by_cases e : q = r
    · rw [if_pos e] at hd ⊢
      refine ⟨hd, ?_⟩
      rw [if_pos e]
      by_cases e1 : s < at_
      · rw [if_pos e1, if_neg (fun q => by omega), e]
      · rw [if_neg e1, if_neg (by omega), if_pos ⟨e, by omega⟩]
    · rw [if_neg e] at hd ⊢
      refine ⟨hd, ?_⟩
      rw [if_neg e, if_neg (fun q => e q.1)]) (fun p hp => by
    show (if gN G ≤ p then _ else gT G p) = gT G p
    rw [if_neg (by omega)])
  have g56 := z_new_ge A
  have nar : zP zQ A (zP zQ A 2 r) 0 ≠ 1 := by omega
  have st1 : ∀ k, zI A1 1 k = zI A 1 k := fun k => zFr_I m2 _ (by omega) (fun e => by have e : 1 = zP zQ A (zP zQ A 2 r) 0 := e; omega)
  have p2 : ∀ x, zP zQ A1 2 x = zP zQ A 2 x := fun x => zFr_P m2 _ (by omega) (fun e => by have e : 2 = zP zQ A (zP zQ A 2 r) 0 := e; omega)
  have pρ : zP zQ A1 (zP zQ A 2 r) 0 = zP zQ A (zP zQ A 2 r) 0 := zFr_P m2 _ (z_hd_lt q.1) (fun e => by
    have e : zP zQ A 2 r = zP zQ A (zP zQ A 2 r) 0 := e
    have := q.2.1
    rw [← e, q.1] at this; cases this)
  obtain ⟨A2, al', c1, c2, c3⟩ := L_ac d (more := sumE G r' i n) w hr hr' ha hi hrr (by omega) (zP zQ A 2 r) (zP zQ A 2 r') (zP zQ A (zP zQ A 2 r) 0) n 0 al (z_wI A1 (zP zQ A 2 r) 1 (zn (gZ G r + n))) none (by omega) (by rw [zP_wI, p2]) (by rw [zP_wI, p2]) (by rw [zP_wI]; exact pρ) (by rw [zI_wI_a (by omega), st1]; exact i4) (by rw [zI_wI_a (by omega), st1]; exact i5) k3
  have c1 : z_denF zQ (d + 3 + 1) mP_addCopies _ = _ := c1
  simp (disch := omega) only [z_bV_some, z_bI_some, z_bJ_some, z_bD_some, z_bR_some, cond_true, cond_false, Bool.and_true, Bool.true_and, Bool.not_false, Bool.not_true, Bool.and_self, Bool.or_true, Bool.false_or, Bool.true_or, zn_ok, zn_ok0, zn_N, zn_add, zn_mul, zn_sub, z_lt_T, z_lt_F, z_le_T, z_le_F, z_eq_T, z_ne_F, z_eq_F, z_ne_T, z_ix_T, z_lt_m, z_le_m, z_lt_m2, z_le_m2, z_eq_m, z_ne_m, zn_div, z_a31, zn_shl, zn_shr, z_bq_T, z_bq_F, z_bl_T, nL_400, nL_0, c8 q'.1, c8 q.1, e1, i4, em, em1, c1]
  have n56 := z_new_ge (z_wI A1 (zP zQ A 2 r) 1 (zn (gZ G r + n)))
  have f1 : zFr (3 * n) (2100 * n) (xcS A) A A2 := by
    have u1 : zFr 0 0 (xcS A) A A1 := zFr_mono m2 (Nat.le_refl _) (Nat.le_refl _) (fun a k e => Or.inr (Or.inr ⟨(18, 400), by have e : a = zP zQ A (zP zQ A 2 r) 0 := e; rw [e]; exact q.2.1, by omega⟩))
    have u2 := zFr_trans u1 (zFr_wI (X := xcS A) (A := A1) (a := zP zQ A 2 r) (k := 1) (v := zn (gZ G r + n)) (Or.inr (Or.inr ⟨_, q.1, by omega⟩))) (fun _ _ _ h => h)
    have u3 := zFr_trans u2 c2 (fun a k _ e => Or.inr (Or.inr ⟨(18, 400), by have e : a = zP zQ A (zP zQ A 2 r) 0 := e; rw [e]; exact q.2.1, by omega⟩))
    exact zFr_mono u3 (by omega) (by omega) (fun _ _ h => h)
  have j3 : zI A2 1 3 = zn (gR G) := by
    rw [zFr_I c2 _ (by omega) (fun e => by have e : 1 = zP zQ A (zP zQ A 2 r) 0 := e; omega), zI_wI_a (by omega), st1]; exact h.1
  refine cRes_K (G := insG G r at_ r' i n) (al := al') ?_ ?_ ?_ ?_ (cK_fr (zFr_wI (X := fun a _ => a = 1) rfl) (cK_fr (zFr_wI (X := fun a _ => a = 1) rfl) (cK_D c3 (fun _ _ => rfl) (fun q s hq hd => ⟨?_, rfl⟩) (fun _ _ => rfl)) ?_ ?_) ?_ ?_)
  · exact zFr_mono (zFr_trans (zFr_trans f1 (zFr_wI (X := xcS A) (Or.inl ⟨rfl, by omega⟩)) (fun _ _ _ h => h)) (zFr_wI (X := xcS A) (Or.inl ⟨rfl, by omega⟩)) (fun _ _ _ h => h)) (by omega) (by omega) (fun _ _ h => h)
  · rw [zI_wI_k (by omega), zI_wI_k (by omega)]; exact j3
  · rw [zI_wI_k (by omega), zI_wI_s]; rfl
  · rw [zI_wI_s]; rfl
  · have hd : s < if q = r then gZ G r + n else gZ G q := hd
    unfold dC
    by_cases e : q = r
    · rw [if_pos e] at hd ⊢; omega
    · rw [if_neg e] at hd ⊢; exact hd
  · intro k e; omega
  · intro a k t n ha ht e; have := hd_lt56 ha ht; omega
  · intro k e; omega
  · intro a k t n ha ht e; have := hd_lt56 ha ht; omega
