/-! S LEVEL, the reference: copies, likeness. -/
theorem z_put_rd {B : zM} {a lo n : Nat} {g : Nat → Int32} {i : Nat} (h : ¬ (lo ≤ i ∧ i < lo + n)) : zI (z_put B a lo n g) a i = zI B a i := by rw [zI_put_s, if_neg h]
theorem L_co60 (d p q : Nat) (hp : p < 400) (hq : q < 400) : ∀ (r i : Nat) (B : zM), i + r = 9 →
    z_denF zQ (d + 1) mQ_copies (60, [some (.ref 15), some (.int (zn p)), some (.int (zn q)), some (.int (zn i))], [], B) = z_denF zQ (d + 1) mQ_copies (96, [some (.ref 15), some (.int (zn p)), some (.int (zn q)), some (.int (zn 0))], [], z_put B 23 (9 * p + i) r (fun j => zI B 23 (9 * q + (j - 9 * p))))
  | 0, i, B, hi => by
    rw [L_Q_copies_60, z_put_0]
    simp (disch := omega) only [z_bV_some, z_bI_some, z_bJ_some, z_bD_some, z_bR_some, cond_true, cond_false, Bool.and_true, Bool.true_and, Bool.not_false, Bool.not_true, Bool.and_self, Bool.or_true, Bool.false_or, Bool.true_or, zn_ok, zn_ok0, zn_N, zn_add, zn_mul, zn_sub, z_lt_T, z_lt_F, z_le_T, z_le_F, z_eq_T, z_ne_F, z_eq_F, z_ne_T, z_ix_T, z_lt_m, z_le_m, z_lt_m2, z_le_m2, z_eq_m, z_ne_m, zn_div, z_a31, zn_shl, zn_shr, z_bq_T, z_bq_F, z_bl_T, nL_9, nL_0]
  | r + 1, i, B, hi => by
    have ih := fun B => L_co60 d p q hp hq r (i + 1) B (by omega)
    rw [L_Q_copies_60]
    have key : z_put (z_wI B 23 (9 * p + i) (zI B 23 (9 * q + i))) 23 (9 * p + (i + 1)) r (fun j => zI (z_wI B 23 (9 * p + i) (zI B 23 (9 * q + i))) 23 (9 * q + (j - 9 * p))) = z_put B 23 (9 * p + i) (r + 1) (fun j => zI B 23 (9 * q + (j - 9 * p))) := by
      rw [← z_put_lo, show 9 * p + (i + 1) = 9 * p + i + 1 by omega]
      have e : zI B 23 (9 * q + (9 * p + i - 9 * p)) = zI B 23 (9 * q + i) := by congr 1; omega
      rw [e]
      apply z_put_congr
      intro j h1 h2
      rw [zI_wI_k (by omega)]
    simp (disch := omega) only [z_bV_some, z_bI_some, z_bJ_some, z_bD_some, z_bR_some, cond_true, cond_false, Bool.and_true, Bool.true_and, Bool.not_false, Bool.not_true, Bool.and_self, Bool.or_true, Bool.false_or, Bool.true_or, zn_ok, zn_ok0, zn_N, zn_add, zn_mul, zn_sub, z_lt_T, z_lt_F, z_le_T, z_le_F, z_eq_T, z_ne_F, z_eq_F, z_ne_T, z_ix_T, z_lt_m, z_le_m, z_lt_m2, z_le_m2, z_eq_m, z_ne_m, zn_div, z_a31, zn_shl, zn_shr, z_bq_T, z_bq_F, z_bl_T, nL_9, nL_1, ih, key]
theorem L_co96 (d p q n : Nat) (hp : p < 400) (hq : q < 400) (hn : n ≤ 256) : ∀ (r i : Nat) (B : zM), i + r = n → zI B 24 q = zn n →
    z_denF zQ (d + 1) mQ_copies (96, [some (.ref 15), some (.int (zn p)), some (.int (zn q)), some (.int (zn i))], [], B) = some (none, z_put B 25 (256 * p + i) r (fun j => zI B 25 (256 * q + (j - 256 * p))))
  | 0, i, B, hi, hs => by
    rw [L_Q_copies_96, z_put_0]
    simp (disch := omega) only [z_bV_some, z_bI_some, z_bJ_some, z_bD_some, z_bR_some, cond_true, cond_false, Bool.and_true, Bool.true_and, Bool.not_false, Bool.not_true, Bool.and_self, Bool.or_true, Bool.false_or, Bool.true_or, zn_ok, zn_ok0, zn_N, zn_add, zn_mul, zn_sub, z_lt_T, z_lt_F, z_le_T, z_le_F, z_eq_T, z_ne_F, z_eq_F, z_ne_T, z_ix_T, z_lt_m, z_le_m, z_lt_m2, z_le_m2, z_eq_m, z_ne_m, zn_div, z_a31, zn_shl, zn_shr, z_bq_T, z_bq_F, z_bl_T, hs]
  | r + 1, i, B, hi, hs => by
    have ih := L_co96 d p q n hp hq hn r (i + 1) (z_wI B 25 (256 * p + i) (zI B 25 (256 * q + i))) (by omega) (by rw [zI_wI_a (by omega)]; exact hs)
    rw [L_Q_copies_96]
    simp (disch := omega) only [z_bV_some, z_bI_some, z_bJ_some, z_bD_some, z_bR_some, cond_true, cond_false, Bool.and_true, Bool.true_and, Bool.not_false, Bool.not_true, Bool.and_self, Bool.or_true, Bool.false_or, Bool.true_or, zn_ok, zn_ok0, zn_N, zn_add, zn_mul, zn_sub, z_lt_T, z_lt_F, z_le_T, z_le_F, z_eq_T, z_ne_F, z_eq_F, z_ne_T, z_ix_T, z_lt_m, z_le_m, z_lt_m2, z_le_m2, z_eq_m, z_ne_m, zn_div, z_a31, zn_shl, zn_shr, z_bq_T, z_bq_F, z_bl_T, nL_256, nL_1, hs, ih]
    congr 2
    rw [← z_put_lo, show 256 * p + (i + 1) = 256 * p + i + 1 by omega]
    have e : zI B 25 (256 * q + (256 * p + i - 256 * p)) = zI B 25 (256 * q + i) := by congr 1; omega
    rw [e]
    apply z_put_congr
    intro j h1 h2
    rw [zI_wI_k (by omega)]
def xE (p : Nat) : Nat → Nat → Prop := fun a k => inR p a k ∨ (a = 15 ∧ k = 13)
theorem bI_and1 (b : Bool) : bI b &&& (1 : Int32) = bI b := of_decide_eq_true (bI_ok b)
theorem E_Q_copies (d p q : Nat) (B : zM) (T T' : zT) (hp : p < 400) (hq : q < 400) (h : rT B p T) (h' : rT B q T') (hs : tS T' ≤ 256) (hpq : p = q → T = T') : ∃ B', z_den zQ (d + 1) mQ_copies [.ref 15, .int (zn p), .int (zn q)] B = some (none, B') ∧ rT B' p (copyT T T') ∧ zFr 0 0 (xE p) B B' ∧ zI B' 15 13 = zI B 15 13 + (zn (tS T') - zn (tS T)) := by
  obtain ⟨k0, k1, k2, k3, k4, k5, k6, k7⟩ := h
  obtain ⟨l0, l1, l2, l3, l4, l5, l6, l7⟩ := h'
  generalize hB4 : z_wI (z_wI (z_wI (z_wI B 15 13 (zI B 15 13 + (zn (tS T') - zn (tS T)))) 24 p (zn (tS T'))) 22 p (zn (tH T'))) 21 p (bI (tL T')) = B4
  have a23 : ∀ k, zI B4 23 k = zI B 23 k := fun k => by rw [← hB4]; simp (disch := omega) only [zI_put_a, zP_put, zD_put, z_hd_put, z_cls_put, z_ia_put, z_ln_put, z_new_put, zI_wI_s, zI_wP, zI_wD, zD_wI, zD_wP, zD_wD_s, zP_wI, zP_wD, z_hd_wI, z_hd_wP, z_hd_wD, z_hd_cpy, z_cls_wI, z_cls_wP, z_cls_wD, z_cls_cpy, z_ia_wI, z_ia_wP, z_ia_wD, z_ia_cpy, z_ln_wI, z_ln_wP, z_ln_wD, z_ln_cpy, z_new_wI, z_new_wP, z_new_wD, z_new_cpy, z_new_nw, zP_cpy, zI_uI_s, zP_uI, zD_uI, z_hd_uI, z_cls_uI, z_ia_uI, z_ln_uI, z_new_uI, zI_wI_a, zI_wI_k, zI_uI_a, zI_cpy_a, zP_wP_s, zP_wP_a, zP_wP_k]
  have a25 : ∀ k, zI B4 25 k = zI B 25 k := fun k => by rw [← hB4]; simp (disch := omega) only [zI_put_a, zP_put, zD_put, z_hd_put, z_cls_put, z_ia_put, z_ln_put, z_new_put, zI_wI_s, zI_wP, zI_wD, zD_wI, zD_wP, zD_wD_s, zP_wI, zP_wD, z_hd_wI, z_hd_wP, z_hd_wD, z_hd_cpy, z_cls_wI, z_cls_wP, z_cls_wD, z_cls_cpy, z_ia_wI, z_ia_wP, z_ia_wD, z_ia_cpy, z_ln_wI, z_ln_wP, z_ln_wD, z_ln_cpy, z_new_wI, z_new_wP, z_new_wD, z_new_cpy, z_new_nw, zP_cpy, zI_uI_s, zP_uI, zD_uI, z_hd_uI, z_cls_uI, z_ia_uI, z_ln_uI, z_new_uI, zI_wI_a, zI_wI_k, zI_uI_a, zI_cpy_a, zP_wP_s, zP_wP_a, zP_wP_k]
  have a24 : zI B4 24 q = zn (tS T') := by
    rw [← hB4]
    by_cases e : q = p
    · subst e; simp (disch := omega) only [zI_put_a, zP_put, zD_put, z_hd_put, z_cls_put, z_ia_put, z_ln_put, z_new_put, zI_wI_s, zI_wP, zI_wD, zD_wI, zD_wP, zD_wD_s, zP_wI, zP_wD, z_hd_wI, z_hd_wP, z_hd_wD, z_hd_cpy, z_cls_wI, z_cls_wP, z_cls_wD, z_cls_cpy, z_ia_wI, z_ia_wP, z_ia_wD, z_ia_cpy, z_ln_wI, z_ln_wP, z_ln_wD, z_ln_cpy, z_new_wI, z_new_wP, z_new_wD, z_new_cpy, z_new_nw, zP_cpy, zI_uI_s, zP_uI, zD_uI, z_hd_uI, z_cls_uI, z_ia_uI, z_ln_uI, z_new_uI, zI_wI_a, zI_wI_k, zI_uI_a, zI_cpy_a, zP_wP_s, zP_wP_a, zP_wP_k]
    · simp (disch := omega) only [zI_put_a, zP_put, zD_put, z_hd_put, z_cls_put, z_ia_put, z_ln_put, z_new_put, zI_wI_s, zI_wP, zI_wD, zD_wI, zD_wP, zD_wD_s, zP_wI, zP_wD, z_hd_wI, z_hd_wP, z_hd_wD, z_hd_cpy, z_cls_wI, z_cls_wP, z_cls_wD, z_cls_cpy, z_ia_wI, z_ia_wP, z_ia_wD, z_ia_cpy, z_ln_wI, z_ln_wP, z_ln_wD, z_ln_cpy, z_new_wI, z_new_wP, z_new_wD, z_new_cpy, z_new_nw, zP_cpy, zI_uI_s, zP_uI, zD_uI, z_hd_uI, z_cls_uI, z_ia_uI, z_ln_uI, z_new_uI, zI_wI_a, zI_wI_k, zI_uI_a, zI_cpy_a, zP_wP_s, zP_wP_a, zP_wP_k]; exact l5
  generalize hB5 : z_put B4 23 (9 * p + 0) 9 (fun j => zI B4 23 (9 * q + (j - 9 * p))) = B5
  have b25 : ∀ k, zI B5 25 k = zI B 25 k := fun k => by rw [← hB5, zI_put_a (by omega), a25]
  have b24 : zI B5 24 q = zn (tS T') := by rw [← hB5, zI_put_a (by omega), a24]
  refine ⟨z_put B5 25 (256 * p + 0) (tS T') (fun j => zI B5 25 (256 * q + (j - 256 * p))), ?_, ?_, ?_, ?_⟩
  · have e1 := L_co60 d p q hp hq 9 0 B4 (by omega)
    rw [hB5] at e1
    have e2 := L_co96 d p q (tS T') hp hq hs (tS T') 0 B5 (by omega) b24
    have hm : ∀ v v' : Int32, zI (z_wI (z_wI B 15 13 v) 24 p (zn (tS T'))) 22 q = zI B 22 q := fun v v' => by simp (disch := omega) only [zI_put_a, zP_put, zD_put, z_hd_put, z_cls_put, z_ia_put, z_ln_put, z_new_put, zI_wI_s, zI_wP, zI_wD, zD_wI, zD_wP, zD_wD_s, zP_wI, zP_wD, z_hd_wI, z_hd_wP, z_hd_wD, z_hd_cpy, z_cls_wI, z_cls_wP, z_cls_wD, z_cls_cpy, z_ia_wI, z_ia_wP, z_ia_wD, z_ia_cpy, z_ln_wI, z_ln_wP, z_ln_wD, z_ln_cpy, z_new_wI, z_new_wP, z_new_wD, z_new_cpy, z_new_nw, zP_cpy, zI_uI_s, zP_uI, zD_uI, z_hd_uI, z_cls_uI, z_ia_uI, z_ln_uI, z_new_uI, zI_wI_a, zI_wI_k, zI_uI_a, zI_cpy_a, zP_wP_s, zP_wP_a, zP_wP_k]
    have hm2 : ∀ v : Int32, zI (z_wI (z_wI (z_wI B 15 13 v) 24 p (zn (tS T'))) 22 p (zn (tH T'))) 21 q = zI B 21 q := fun v => by simp (disch := omega) only [zI_put_a, zP_put, zD_put, z_hd_put, z_cls_put, z_ia_put, z_ln_put, z_new_put, zI_wI_s, zI_wP, zI_wD, zD_wI, zD_wP, zD_wD_s, zP_wI, zP_wD, z_hd_wI, z_hd_wP, z_hd_wD, z_hd_cpy, z_cls_wI, z_cls_wP, z_cls_wD, z_cls_cpy, z_ia_wI, z_ia_wP, z_ia_wD, z_ia_cpy, z_ln_wI, z_ln_wP, z_ln_wD, z_ln_cpy, z_new_wI, z_new_wP, z_new_wD, z_new_cpy, z_new_nw, zP_cpy, zI_uI_s, zP_uI, zD_uI, z_hd_uI, z_cls_uI, z_ia_uI, z_ln_uI, z_new_uI, zI_wI_a, zI_wI_k, zI_uI_a, zI_cpy_a, zP_wP_s, zP_wP_a, zP_wP_k]
    rw [B_Q_copies]
    simp (disch := omega) only [z_bV_some, z_bI_some, z_bJ_some, z_bD_some, z_bR_some, cond_true, cond_false, Bool.and_true, Bool.true_and, Bool.not_false, Bool.not_true, Bool.and_self, Bool.or_true, Bool.false_or, Bool.true_or, zn_ok, zn_ok0, zn_N, zn_add, zn_mul, zn_sub, z_lt_T, z_lt_F, z_le_T, z_le_F, z_eq_T, z_ne_F, z_eq_F, z_ne_T, z_ix_T, z_lt_m, z_le_m, z_lt_m2, z_le_m2, z_eq_m, z_ne_m, zn_div, z_a31, zn_shl, zn_shr, z_bq_T, z_bq_F, z_bl_T, zI_put_a, zP_put, zD_put, z_hd_put, z_cls_put, z_ia_put, z_ln_put, z_new_put, zI_wI_s, zI_wP, zI_wD, zD_wI, zD_wP, zD_wD_s, zP_wI, zP_wD, z_hd_wI, z_hd_wP, z_hd_wD, z_hd_cpy, z_cls_wI, z_cls_wP, z_cls_wD, z_cls_cpy, z_ia_wI, z_ia_wP, z_ia_wD, z_ia_cpy, z_ln_wI, z_ln_wP, z_ln_wD, z_ln_cpy, z_new_wI, z_new_wP, z_new_wD, z_new_cpy, z_new_nw, zP_cpy, zI_uI_s, zP_uI, zD_uI, z_hd_uI, z_cls_uI, z_ia_uI, z_ln_uI, z_new_uI, zI_wI_a, zI_wI_k, zI_uI_a, zI_cpy_a, zP_wP_s, zP_wP_a, zP_wP_k, nL_0, l5, k5, l4, l3, bI_and1, hB4, e1, e2]
  · refine ⟨?_, ?_, ?_, ?_, ?_, ?_, fun i hi => ?_, fun k hk => ?_⟩
    · rw [zI_put_a (by omega), ← hB5, zI_put_a (by omega), ← hB4]; simp (disch := omega) only [zI_put_a, zP_put, zD_put, z_hd_put, z_cls_put, z_ia_put, z_ln_put, z_new_put, zI_wI_s, zI_wP, zI_wD, zD_wI, zD_wP, zD_wD_s, zP_wI, zP_wD, z_hd_wI, z_hd_wP, z_hd_wD, z_hd_cpy, z_cls_wI, z_cls_wP, z_cls_wD, z_cls_cpy, z_ia_wI, z_ia_wP, z_ia_wD, z_ia_cpy, z_ln_wI, z_ln_wP, z_ln_wD, z_ln_cpy, z_new_wI, z_new_wP, z_new_wD, z_new_cpy, z_new_nw, zP_cpy, zI_uI_s, zP_uI, zD_uI, z_hd_uI, z_cls_uI, z_ia_uI, z_ln_uI, z_new_uI, zI_wI_a, zI_wI_k, zI_uI_a, zI_cpy_a, zP_wP_s, zP_wP_a, zP_wP_k]; exact k0
    · rw [zI_put_a (by omega), ← hB5, zI_put_a (by omega), ← hB4]; simp (disch := omega) only [zI_put_a, zP_put, zD_put, z_hd_put, z_cls_put, z_ia_put, z_ln_put, z_new_put, zI_wI_s, zI_wP, zI_wD, zD_wI, zD_wP, zD_wD_s, zP_wI, zP_wD, z_hd_wI, z_hd_wP, z_hd_wD, z_hd_cpy, z_cls_wI, z_cls_wP, z_cls_wD, z_cls_cpy, z_ia_wI, z_ia_wP, z_ia_wD, z_ia_cpy, z_ln_wI, z_ln_wP, z_ln_wD, z_ln_cpy, z_new_wI, z_new_wP, z_new_wD, z_new_cpy, z_new_nw, zP_cpy, zI_uI_s, zP_uI, zD_uI, z_hd_uI, z_cls_uI, z_ia_uI, z_ln_uI, z_new_uI, zI_wI_a, zI_wI_k, zI_uI_a, zI_cpy_a, zP_wP_s, zP_wP_a, zP_wP_k]; exact k1
    · rw [zI_put_a (by omega), ← hB5, zI_put_a (by omega), ← hB4]; simp (disch := omega) only [zI_put_a, zP_put, zD_put, z_hd_put, z_cls_put, z_ia_put, z_ln_put, z_new_put, zI_wI_s, zI_wP, zI_wD, zD_wI, zD_wP, zD_wD_s, zP_wI, zP_wD, z_hd_wI, z_hd_wP, z_hd_wD, z_hd_cpy, z_cls_wI, z_cls_wP, z_cls_wD, z_cls_cpy, z_ia_wI, z_ia_wP, z_ia_wD, z_ia_cpy, z_ln_wI, z_ln_wP, z_ln_wD, z_ln_cpy, z_new_wI, z_new_wP, z_new_wD, z_new_cpy, z_new_nw, zP_cpy, zI_uI_s, zP_uI, zD_uI, z_hd_uI, z_cls_uI, z_ia_uI, z_ln_uI, z_new_uI, zI_wI_a, zI_wI_k, zI_uI_a, zI_cpy_a, zP_wP_s, zP_wP_a, zP_wP_k]; exact k2
    · rw [zI_put_a (by omega), ← hB5, zI_put_a (by omega), ← hB4]; simp (disch := omega) only [zI_put_a, zP_put, zD_put, z_hd_put, z_cls_put, z_ia_put, z_ln_put, z_new_put, zI_wI_s, zI_wP, zI_wD, zD_wI, zD_wP, zD_wD_s, zP_wI, zP_wD, z_hd_wI, z_hd_wP, z_hd_wD, z_hd_cpy, z_cls_wI, z_cls_wP, z_cls_wD, z_cls_cpy, z_ia_wI, z_ia_wP, z_ia_wD, z_ia_cpy, z_ln_wI, z_ln_wP, z_ln_wD, z_ln_cpy, z_new_wI, z_new_wP, z_new_wD, z_new_cpy, z_new_nw, zP_cpy, zI_uI_s, zP_uI, zD_uI, z_hd_uI, z_cls_uI, z_ia_uI, z_ln_uI, z_new_uI, zI_wI_a, zI_wI_k, zI_uI_a, zI_cpy_a, zP_wP_s, zP_wP_a, zP_wP_k]; rfl
    · rw [zI_put_a (by omega), ← hB5, zI_put_a (by omega), ← hB4]; simp (disch := omega) only [zI_put_a, zP_put, zD_put, z_hd_put, z_cls_put, z_ia_put, z_ln_put, z_new_put, zI_wI_s, zI_wP, zI_wD, zD_wI, zD_wP, zD_wD_s, zP_wI, zP_wD, z_hd_wI, z_hd_wP, z_hd_wD, z_hd_cpy, z_cls_wI, z_cls_wP, z_cls_wD, z_cls_cpy, z_ia_wI, z_ia_wP, z_ia_wD, z_ia_cpy, z_ln_wI, z_ln_wP, z_ln_wD, z_ln_cpy, z_new_wI, z_new_wP, z_new_wD, z_new_cpy, z_new_nw, zP_cpy, zI_uI_s, zP_uI, zD_uI, z_hd_uI, z_cls_uI, z_ia_uI, z_ln_uI, z_new_uI, zI_wI_a, zI_wI_k, zI_uI_a, zI_cpy_a, zP_wP_s, zP_wP_a, zP_wP_k]; rfl
    · rw [zI_put_a (by omega), ← hB5, zI_put_a (by omega), ← hB4]; simp (disch := omega) only [zI_put_a, zP_put, zD_put, z_hd_put, z_cls_put, z_ia_put, z_ln_put, z_new_put, zI_wI_s, zI_wP, zI_wD, zD_wI, zD_wP, zD_wD_s, zP_wI, zP_wD, z_hd_wI, z_hd_wP, z_hd_wD, z_hd_cpy, z_cls_wI, z_cls_wP, z_cls_wD, z_cls_cpy, z_ia_wI, z_ia_wP, z_ia_wD, z_ia_cpy, z_ln_wI, z_ln_wP, z_ln_wD, z_ln_cpy, z_new_wI, z_new_wP, z_new_wD, z_new_cpy, z_new_nw, zP_cpy, zI_uI_s, zP_uI, zD_uI, z_hd_uI, z_cls_uI, z_ia_uI, z_ln_uI, z_new_uI, zI_wI_a, zI_wI_k, zI_uI_a, zI_cpy_a, zP_wP_s, zP_wP_a, zP_wP_k]; rfl
    · rw [zI_put_a (by omega), ← hB5, zI_put_s, if_pos (by omega), a23, show 9 * q + (9 * p + i - 9 * p) = 9 * q + i by omega]; exact l6 i hi
    · rw [zI_put_s, tE_copy]
      by_cases e : k < tS T'
      · rw [if_pos (by omega), if_pos e, b25, show 256 * q + (256 * p + k - 256 * p) = 256 * q + k by omega]; exact l7 k hk
      · rw [if_neg (by omega), if_neg e, b25]; exact k7 k hk
  · have q0 : ∀ (M : zM) (a k : Nat) (v : Int32), xE p a k → zFr 0 0 (xE p) M (z_wI M a k v) := fun M a k v h => zFr_wI h
    have tr : ∀ (M M' : zM) (a k : Nat) (v : Int32), xE p a k → zFr 0 0 (xE p) M M' → zFr 0 0 (xE p) M (z_wI M' a k v) := fun M M' a k v hx h => zFr_trans h (q0 M' a k v hx) (fun _ _ _ h => h)
    have t1 : zFr 0 0 (xE p) B B4 := by
      rw [← hB4]
      refine tr _ _ _ _ _ ?_ (tr _ _ _ _ _ ?_ (tr _ _ _ _ _ ?_ (q0 _ _ _ _ ?_))) <;> (unfold xE inR; omega)
    have t2 : zFr 0 0 (xE p) B4 B5 := by rw [← hB5]; exact zFr_put (fun i h1 h2 => by unfold xE inR; omega)
    exact zFr_trans (zFr_trans t1 t2 (fun _ _ _ h => h)) (zFr_put (X := xE p) (fun i h1 h2 => by unfold xE inR; omega)) (fun _ _ _ h => h)
  · rw [zI_put_a (by omega), ← hB5, zI_put_a (by omega), ← hB4]; simp (disch := omega) only [zI_put_a, zP_put, zD_put, z_hd_put, z_cls_put, z_ia_put, z_ln_put, z_new_put, zI_wI_s, zI_wP, zI_wD, zD_wI, zD_wP, zD_wD_s, zP_wI, zP_wD, z_hd_wI, z_hd_wP, z_hd_wD, z_hd_cpy, z_cls_wI, z_cls_wP, z_cls_wD, z_cls_cpy, z_ia_wI, z_ia_wP, z_ia_wD, z_ia_cpy, z_ln_wI, z_ln_wP, z_ln_wD, z_ln_cpy, z_new_wI, z_new_wP, z_new_wD, z_new_cpy, z_new_nw, zP_cpy, zI_uI_s, zP_uI, zD_uI, z_hd_uI, z_cls_uI, z_ia_uI, z_ln_uI, z_new_uI, zI_wI_a, zI_wI_k, zI_uI_a, zI_cpy_a, zP_wP_s, zP_wP_a, zP_wP_k]
/-- a row that no strip has yet -/
noncomputable def zeroT : zT := (0, 0, 0, false, 0, 0, fun _ => zn 0, fun _ => zn 0)
theorem E_Q_copyOf (d p n : Nat) (B : zM) (T : zT) (hp : p < n) (hn : n < 400) (h : rT B p T) (h0 : rT B n zeroT) (h4 : zI B 15 4 = zn n) (hs : tS T ≤ 256) : ∃ B', z_den zQ (d + 2) mQ_copyOf [.ref 15, .int (zn p)] B = some (some (.int (zn n)), B') ∧ rT B' n (copyT (newT (tK T) (tN T) (tU T) (tS T)) T) ∧ zFr 0 0 (fun a k => xE n a k ∨ (a = 15 ∧ k = 4)) B B' ∧ zI B' 15 13 = zI B 15 13 + zn (tS T) ∧ zI B' 15 4 = zn (n + 1) := by
  have hr := h
  obtain ⟨k0, k1, k2, -⟩ := h
  obtain ⟨z0, z1, z2, z3, z4, z5, z6, z7⟩ := h0
  generalize hB4 : z_wI (z_wI (z_wI (z_wI B 18 n (zn (tK T))) 19 n (zn (tN T))) 20 n (zn (tU T))) 24 n (zn 0) = B4
  have t1 : zFr 0 0 (xE n) B B4 := by
    have q0 : ∀ (M : zM) (a k : Nat) (v : Int32), xE n a k → zFr 0 0 (xE n) M (z_wI M a k v) := fun M a k v h => zFr_wI h
    have tr : ∀ (M M' : zM) (a k : Nat) (v : Int32), xE n a k → zFr 0 0 (xE n) M M' → zFr 0 0 (xE n) M (z_wI M' a k v) := fun M M' a k v hx h => zFr_trans h (q0 M' a k v hx) (fun _ _ _ h => h)
    rw [← hB4]
    refine tr _ _ _ _ _ ?_ (tr _ _ _ _ _ ?_ (tr _ _ _ _ _ ?_ (q0 _ _ _ _ ?_))) <;> (unfold xE inR; omega)
  have r1 : rT B4 p T := rT_fr t1 hr (fun a k h1 h2 => by
    rcases h2 with h2 | h2
    · have := inR_ne h1 h2; omega
    · unfold inR at h1; omega)
  have r2 : rT B4 n (tK T, tN T, tU T, false, 0, 0, fun _ => zn 0, fun _ => zn 0) := by
    rw [← hB4]
    refine ⟨?_, ?_, ?_, ?_, ?_, ?_, fun i hi => ?_, fun k hk => ?_⟩
    · simp (disch := omega) only [zI_put_a, zP_put, zD_put, z_hd_put, z_cls_put, z_ia_put, z_ln_put, z_new_put, zI_wI_s, zI_wP, zI_wD, zD_wI, zD_wP, zD_wD_s, zP_wI, zP_wD, z_hd_wI, z_hd_wP, z_hd_wD, z_hd_cpy, z_cls_wI, z_cls_wP, z_cls_wD, z_cls_cpy, z_ia_wI, z_ia_wP, z_ia_wD, z_ia_cpy, z_ln_wI, z_ln_wP, z_ln_wD, z_ln_cpy, z_new_wI, z_new_wP, z_new_wD, z_new_cpy, z_new_nw, zP_cpy, zI_uI_s, zP_uI, zD_uI, z_hd_uI, z_cls_uI, z_ia_uI, z_ln_uI, z_new_uI, zI_wI_a, zI_wI_k, zI_uI_a, zI_cpy_a, zP_wP_s, zP_wP_a, zP_wP_k]; rfl
    · simp (disch := omega) only [zI_put_a, zP_put, zD_put, z_hd_put, z_cls_put, z_ia_put, z_ln_put, z_new_put, zI_wI_s, zI_wP, zI_wD, zD_wI, zD_wP, zD_wD_s, zP_wI, zP_wD, z_hd_wI, z_hd_wP, z_hd_wD, z_hd_cpy, z_cls_wI, z_cls_wP, z_cls_wD, z_cls_cpy, z_ia_wI, z_ia_wP, z_ia_wD, z_ia_cpy, z_ln_wI, z_ln_wP, z_ln_wD, z_ln_cpy, z_new_wI, z_new_wP, z_new_wD, z_new_cpy, z_new_nw, zP_cpy, zI_uI_s, zP_uI, zD_uI, z_hd_uI, z_cls_uI, z_ia_uI, z_ln_uI, z_new_uI, zI_wI_a, zI_wI_k, zI_uI_a, zI_cpy_a, zP_wP_s, zP_wP_a, zP_wP_k]; rfl
    · simp (disch := omega) only [zI_put_a, zP_put, zD_put, z_hd_put, z_cls_put, z_ia_put, z_ln_put, z_new_put, zI_wI_s, zI_wP, zI_wD, zD_wI, zD_wP, zD_wD_s, zP_wI, zP_wD, z_hd_wI, z_hd_wP, z_hd_wD, z_hd_cpy, z_cls_wI, z_cls_wP, z_cls_wD, z_cls_cpy, z_ia_wI, z_ia_wP, z_ia_wD, z_ia_cpy, z_ln_wI, z_ln_wP, z_ln_wD, z_ln_cpy, z_new_wI, z_new_wP, z_new_wD, z_new_cpy, z_new_nw, zP_cpy, zI_uI_s, zP_uI, zD_uI, z_hd_uI, z_cls_uI, z_ia_uI, z_ln_uI, z_new_uI, zI_wI_a, zI_wI_k, zI_uI_a, zI_cpy_a, zP_wP_s, zP_wP_a, zP_wP_k]; rfl
    · simp (disch := omega) only [zI_put_a, zP_put, zD_put, z_hd_put, z_cls_put, z_ia_put, z_ln_put, z_new_put, zI_wI_s, zI_wP, zI_wD, zD_wI, zD_wP, zD_wD_s, zP_wI, zP_wD, z_hd_wI, z_hd_wP, z_hd_wD, z_hd_cpy, z_cls_wI, z_cls_wP, z_cls_wD, z_cls_cpy, z_ia_wI, z_ia_wP, z_ia_wD, z_ia_cpy, z_ln_wI, z_ln_wP, z_ln_wD, z_ln_cpy, z_new_wI, z_new_wP, z_new_wD, z_new_cpy, z_new_nw, zP_cpy, zI_uI_s, zP_uI, zD_uI, z_hd_uI, z_cls_uI, z_ia_uI, z_ln_uI, z_new_uI, zI_wI_a, zI_wI_k, zI_uI_a, zI_cpy_a, zP_wP_s, zP_wP_a, zP_wP_k]; exact z3
    · simp (disch := omega) only [zI_put_a, zP_put, zD_put, z_hd_put, z_cls_put, z_ia_put, z_ln_put, z_new_put, zI_wI_s, zI_wP, zI_wD, zD_wI, zD_wP, zD_wD_s, zP_wI, zP_wD, z_hd_wI, z_hd_wP, z_hd_wD, z_hd_cpy, z_cls_wI, z_cls_wP, z_cls_wD, z_cls_cpy, z_ia_wI, z_ia_wP, z_ia_wD, z_ia_cpy, z_ln_wI, z_ln_wP, z_ln_wD, z_ln_cpy, z_new_wI, z_new_wP, z_new_wD, z_new_cpy, z_new_nw, zP_cpy, zI_uI_s, zP_uI, zD_uI, z_hd_uI, z_cls_uI, z_ia_uI, z_ln_uI, z_new_uI, zI_wI_a, zI_wI_k, zI_uI_a, zI_cpy_a, zP_wP_s, zP_wP_a, zP_wP_k]; exact z4
    · simp (disch := omega) only [zI_put_a, zP_put, zD_put, z_hd_put, z_cls_put, z_ia_put, z_ln_put, z_new_put, zI_wI_s, zI_wP, zI_wD, zD_wI, zD_wP, zD_wD_s, zP_wI, zP_wD, z_hd_wI, z_hd_wP, z_hd_wD, z_hd_cpy, z_cls_wI, z_cls_wP, z_cls_wD, z_cls_cpy, z_ia_wI, z_ia_wP, z_ia_wD, z_ia_cpy, z_ln_wI, z_ln_wP, z_ln_wD, z_ln_cpy, z_new_wI, z_new_wP, z_new_wD, z_new_cpy, z_new_nw, zP_cpy, zI_uI_s, zP_uI, zD_uI, z_hd_uI, z_cls_uI, z_ia_uI, z_ln_uI, z_new_uI, zI_wI_a, zI_wI_k, zI_uI_a, zI_cpy_a, zP_wP_s, zP_wP_a, zP_wP_k]; rfl
    · simp (disch := omega) only [zI_put_a, zP_put, zD_put, z_hd_put, z_cls_put, z_ia_put, z_ln_put, z_new_put, zI_wI_s, zI_wP, zI_wD, zD_wI, zD_wP, zD_wD_s, zP_wI, zP_wD, z_hd_wI, z_hd_wP, z_hd_wD, z_hd_cpy, z_cls_wI, z_cls_wP, z_cls_wD, z_cls_cpy, z_ia_wI, z_ia_wP, z_ia_wD, z_ia_cpy, z_ln_wI, z_ln_wP, z_ln_wD, z_ln_cpy, z_new_wI, z_new_wP, z_new_wD, z_new_cpy, z_new_nw, zP_cpy, zI_uI_s, zP_uI, zD_uI, z_hd_uI, z_cls_uI, z_ia_uI, z_ln_uI, z_new_uI, zI_wI_a, zI_wI_k, zI_uI_a, zI_cpy_a, zP_wP_s, zP_wP_a, zP_wP_k]; exact z6 i hi
    · simp (disch := omega) only [zI_put_a, zP_put, zD_put, z_hd_put, z_cls_put, z_ia_put, z_ln_put, z_new_put, zI_wI_s, zI_wP, zI_wD, zD_wI, zD_wP, zD_wD_s, zP_wI, zP_wD, z_hd_wI, z_hd_wP, z_hd_wD, z_hd_cpy, z_cls_wI, z_cls_wP, z_cls_wD, z_cls_cpy, z_ia_wI, z_ia_wP, z_ia_wD, z_ia_cpy, z_ln_wI, z_ln_wP, z_ln_wD, z_ln_cpy, z_new_wI, z_new_wP, z_new_wD, z_new_cpy, z_new_nw, zP_cpy, zI_uI_s, zP_uI, zD_uI, z_hd_uI, z_cls_uI, z_ia_uI, z_ln_uI, z_new_uI, zI_wI_a, zI_wI_k, zI_uI_a, zI_cpy_a, zP_wP_s, zP_wP_a, zP_wP_k]; exact z7 k hk
  have b4 : zI B4 15 4 = zn n := by rw [← hB4]; simp (disch := omega) only [zI_put_a, zP_put, zD_put, z_hd_put, z_cls_put, z_ia_put, z_ln_put, z_new_put, zI_wI_s, zI_wP, zI_wD, zD_wI, zD_wP, zD_wD_s, zP_wI, zP_wD, z_hd_wI, z_hd_wP, z_hd_wD, z_hd_cpy, z_cls_wI, z_cls_wP, z_cls_wD, z_cls_cpy, z_ia_wI, z_ia_wP, z_ia_wD, z_ia_cpy, z_ln_wI, z_ln_wP, z_ln_wD, z_ln_cpy, z_new_wI, z_new_wP, z_new_wD, z_new_cpy, z_new_nw, zP_cpy, zI_uI_s, zP_uI, zD_uI, z_hd_uI, z_cls_uI, z_ia_uI, z_ln_uI, z_new_uI, zI_wI_a, zI_wI_k, zI_uI_a, zI_cpy_a, zP_wP_s, zP_wP_a, zP_wP_k]; exact h4
  have b13 : zI B4 15 13 = zI B 15 13 := by rw [← hB4]; simp (disch := omega) only [zI_put_a, zP_put, zD_put, z_hd_put, z_cls_put, z_ia_put, z_ln_put, z_new_put, zI_wI_s, zI_wP, zI_wD, zD_wI, zD_wP, zD_wD_s, zP_wI, zP_wD, z_hd_wI, z_hd_wP, z_hd_wD, z_hd_cpy, z_cls_wI, z_cls_wP, z_cls_wD, z_cls_cpy, z_ia_wI, z_ia_wP, z_ia_wD, z_ia_cpy, z_ln_wI, z_ln_wP, z_ln_wD, z_ln_cpy, z_new_wI, z_new_wP, z_new_wD, z_new_cpy, z_new_nw, zP_cpy, zI_uI_s, zP_uI, zD_uI, z_hd_uI, z_cls_uI, z_ia_uI, z_ln_uI, z_new_uI, zI_wI_a, zI_wI_k, zI_uI_a, zI_cpy_a, zP_wP_s, zP_wP_a, zP_wP_k]
  obtain ⟨B5, c1, c2, c3, c4⟩ := E_Q_copies d n p B4 _ T hn (by omega) r2 r1 hs (fun e => absurd e (by omega))
  have e5 : zI B5 15 4 = zn n := by
    rw [zFr_I c3 _ (by have := z_new_ge B4; omega) (by unfold xE inR; omega)]; exact b4
  refine ⟨z_wI B5 15 4 (zn (n + 1)), ?_, ?_, ?_, ?_, ?_⟩
  · rw [B_Q_copyOf, h4]
    simp (disch := omega) only [z_bV_some, z_bI_some, z_bJ_some, z_bD_some, z_bR_some, cond_true, cond_false, Bool.and_true, Bool.true_and, Bool.not_false, Bool.not_true, Bool.and_self, Bool.or_true, Bool.false_or, Bool.true_or, zn_ok, zn_ok0, zn_N, zn_add, zn_mul, zn_sub, z_lt_T, z_lt_F, z_le_T, z_le_F, z_eq_T, z_ne_F, z_eq_F, z_ne_T, z_ix_T, z_lt_m, z_le_m, z_lt_m2, z_le_m2, z_eq_m, z_ne_m, zn_div, z_a31, zn_shl, zn_shr, z_bq_T, z_bq_F, z_bl_T, zI_put_a, zP_put, zD_put, z_hd_put, z_cls_put, z_ia_put, z_ln_put, z_new_put, zI_wI_s, zI_wP, zI_wD, zD_wI, zD_wP, zD_wD_s, zP_wI, zP_wD, z_hd_wI, z_hd_wP, z_hd_wD, z_hd_cpy, z_cls_wI, z_cls_wP, z_cls_wD, z_cls_cpy, z_ia_wI, z_ia_wP, z_ia_wD, z_ia_cpy, z_ln_wI, z_ln_wP, z_ln_wD, z_ln_cpy, z_new_wI, z_new_wP, z_new_wD, z_new_cpy, z_new_nw, zP_cpy, zI_uI_s, zP_uI, zD_uI, z_hd_uI, z_cls_uI, z_ia_uI, z_ln_uI, z_new_uI, zI_wI_a, zI_wI_k, zI_uI_a, zI_cpy_a, zP_wP_s, zP_wP_a, zP_wP_k, nL_0, nL_1, k0, k1, k2, hB4, c1, e5, Nat.add_sub_cancel]
  · exact rT_wI c2 (by unfold inR; omega)
  · have m1 : zFr 0 0 (fun a k => xE n a k ∨ (a = 15 ∧ k = 4)) B B5 := zFr_mono (zFr_trans t1 c3 (fun _ _ _ h => h)) (by omega) (by omega) (fun _ _ h => Or.inl h)
    exact zFr_trans m1 (zFr_wI (X := fun a k => xE n a k ∨ (a = 15 ∧ k = 4)) (Or.inr ⟨rfl, rfl⟩)) (fun _ _ _ h => h)
  · rw [zI_wI_k (by omega), c4, b13]
    show _ + (zn (tS T) - zn 0) = _
    rw [zn_sub (by omega)]
    rfl
  · rw [zI_wI_s]
