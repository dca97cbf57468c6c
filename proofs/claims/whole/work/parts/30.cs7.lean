/-! S LEVEL, the class: likeness and digest of strips. -/
def eqR (f g : Nat → Int32) : Nat → Nat → Bool
  | _, 0 => true
  | i, n + 1 => if f i = g i then eqR f g (i + 1) n else false
theorem eqR_iff (f g : Nat → Int32) : ∀ (n i : Nat), eqR f g i n = true ↔ ∀ j, i ≤ j → j < i + n → f j = g j
  | 0, i => by simp [eqR]; intro j h1 h2; omega
  | n + 1, i => by
    unfold eqR
    by_cases h : f i = g i
    · rw [if_pos h, eqR_iff f g n (i + 1)]
      constructor
      · intro q j h1 h2
        by_cases e : j = i
        · rw [e]; exact h
        · exact q j (by omega) (by omega)
      · intro q j h1 h2
        exact q j (by omega) (by omega)
    · rw [if_neg h]
      constructor
      · intro q; exact absurd q Bool.false_ne_true
      · intro q; exact absurd (q i (Nat.le_refl _) (by omega)) h
noncomputable def lkT (T T' : zT) : Bool := if tK T = tK T' ∧ tN T = tN T' ∧ tU T = tU T' ∧ tL T = tL T' ∧ tZ T = tZ T' then eqR (tY T) (tY T') 0 (tZ T) else false
theorem bI_inj {a b : Bool} (h : bI a = bI b) : a = b := by
  cases a <;> cases b <;> first | rfl | (rw [bI_T, bI_F] at h; have := zn_inj (by omega) (by omega) h; omega)
theorem L_lk (d a a' : Nat) (A : zM) (n c c' : Nat) (h1 : z_hd zQ A a = some (9, 7)) (h2 : z_hd zQ A (zP zQ A a 4) = some (12, c)) (h1' : z_hd zQ A a' = some (9, 7)) (h2' : z_hd zQ A (zP zQ A a' 4) = some (12, c')) (h5 : zI A a 5 = zn n) (hn : n ≤ c) (hn' : n ≤ c') (hc : c ≤ 1033) : ∀ (r i : Nat), i + r = n →
    z_denF zQ (d + 1) mS_isLike (61, [some (.ref a), some (.ref a'), some (.int (zn i))], [], A) = some (some (.int (bI (eqR (zI A (zP zQ A a 4)) (zI A (zP zQ A a' 4)) i r))), A)
  | 0, i, hi => by
    rw [L_S_isLike_61, h5]
    simp (disch := omega) only [z_bV_some, z_bI_some, z_bJ_some, z_bD_some, z_bR_some, cond_true, cond_false, Bool.and_true, Bool.true_and, Bool.not_false, Bool.not_true, Bool.and_self, Bool.or_true, Bool.false_or, Bool.true_or, zn_ok, zn_ok0, zn_N, zn_add, zn_mul, zn_sub, z_lt_T, z_lt_F, z_le_T, z_le_F, z_eq_T, z_ne_F, z_eq_F, z_ne_T, z_ix_T, z_lt_m, z_le_m, z_lt_m2, z_le_m2, z_eq_m, z_ne_m, zn_div, z_a31, zn_shl, zn_shr, z_bq_T, z_bq_F, z_bl_T, nL_1, c9 h1]
    rfl
  | r + 1, i, hi => by
    rw [L_S_isLike_61, h5]
    have ih := L_lk d a a' A n c c' h1 h2 h1' h2' h5 hn hn' hc r (i + 1) (by omega)
    unfold eqR
    by_cases g : zI A (zP zQ A a 4) i = zI A (zP zQ A a' 4) i
    · rw [if_pos g]
      simp (disch := omega) only [z_bV_some, z_bI_some, z_bJ_some, z_bD_some, z_bR_some, cond_true, cond_false, Bool.and_true, Bool.true_and, Bool.not_false, Bool.not_true, Bool.and_self, Bool.or_true, Bool.false_or, Bool.true_or, zn_ok, zn_ok0, zn_N, zn_add, zn_mul, zn_sub, z_lt_T, z_lt_F, z_le_T, z_le_F, z_eq_T, z_ne_F, z_eq_F, z_ne_T, z_ix_T, z_lt_m, z_le_m, z_lt_m2, z_le_m2, z_eq_m, z_ne_m, zn_div, z_a31, zn_shl, zn_shr, z_bq_T, z_bq_F, z_bl_T, nL_1, c9 h1, c9 h1', z_ia_of h2, z_ia_of h2', g, ih]
    · rw [if_neg g]
      simp (disch := omega) only [z_bV_some, z_bI_some, z_bJ_some, z_bD_some, z_bR_some, cond_true, cond_false, Bool.and_true, Bool.true_and, Bool.not_false, Bool.not_true, Bool.and_self, Bool.or_true, Bool.false_or, Bool.true_or, zn_ok, zn_ok0, zn_N, zn_add, zn_mul, zn_sub, z_lt_T, z_lt_F, z_le_T, z_le_F, z_eq_T, z_ne_F, z_eq_F, z_ne_T, z_ix_T, z_lt_m, z_le_m, z_lt_m2, z_le_m2, z_eq_m, z_ne_m, zn_div, z_a31, zn_shl, zn_shr, z_bq_T, z_bq_F, z_bl_T, nL_1, nL_0, c9 h1, c9 h1', z_ia_of h2, z_ia_of h2', z_eq_N g]
      rfl
theorem eqR_congr {f g f' g' : Nat → Int32} : ∀ (n i : Nat), (∀ j, i ≤ j → j < i + n → f j = f' j ∧ g j = g' j) → eqR f g i n = eqR f' g' i n
  | 0, i, _ => rfl
  | n + 1, i, h => by
    unfold eqR
    rw [(h i (Nat.le_refl _) (by omega)).1, (h i (Nat.le_refl _) (by omega)).2, eqR_congr n (i + 1) (fun j h1 h2 => h j (by omega) (by omega))]
theorem E_S_isLike (d a a' : Nat) (A : zM) (T T' : zT) (h : cT A a T) (h' : cT A a' T') (hw : wT T) (hw' : wT T') : z_den zQ (d + 1) mS_isLike [.ref a, .ref a'] A = some (some (.int (bI (lkT T T'))), A) := by
  have hz := tZ_le hw
  have hz' := tZ_le hw'
  obtain ⟨h1, k0, k1, k2, k3, k5, k6, ⟨c, h2, hc1, hc2, hc3⟩, hb⟩ := h
  obtain ⟨h1', k0', k1', k2', k3', k5', k6', ⟨c', h2', hc1', hc2', hc3'⟩, hb'⟩ := h'
  obtain ⟨w1, w2, w3, -⟩ := hw
  obtain ⟨v1, v2, v3, -⟩ := hw'
  rw [B_S_isLike, k0, k0', k1, k1', k2, k2', k6, k6', k5, k5']
  unfold lkT
  by_cases g1 : tK T = tK T'
  · by_cases g2 : tN T = tN T'
    · by_cases g3 : tU T = tU T'
      · by_cases g4 : tL T = tL T'
        · by_cases g5 : tZ T = tZ T'
          · rw [if_pos ⟨g1, g2, g3, g4, g5⟩, g1, g2, g3, g4]
            have hl := L_lk d a a' A (tZ T) c c' h1 h2 h1' h2' k5 hc1 (by omega) hc3 (tZ T) 0 (by omega)
            rw [eqR_congr (tZ T) 0 (f' := tY T) (g' := tY T') (fun j _ j2 => ⟨hb j (by omega), hb' j (by omega)⟩)] at hl
            have q5 : z_eq (zn (tZ T)) (zn (tZ T')) = true := by rw [g5]; exact z_eq_T _
            simp (disch := omega) only [z_bV_some, z_bI_some, z_bJ_some, z_bD_some, z_bR_some, cond_true, cond_false, Bool.and_true, Bool.true_and, Bool.not_false, Bool.not_true, Bool.and_self, Bool.or_true, Bool.false_or, Bool.true_or, zn_ok, zn_ok0, zn_N, zn_add, zn_mul, zn_sub, z_lt_T, z_lt_F, z_le_T, z_le_F, z_eq_T, z_ne_F, z_eq_F, z_ne_T, z_ix_T, z_lt_m, z_le_m, z_lt_m2, z_le_m2, z_eq_m, z_ne_m, zn_div, z_a31, zn_shl, zn_shr, z_bq_T, z_bq_F, z_bl_T, nL_0, c9 h1, c9 h1', hl, q5]
          · rw [if_neg (fun q => g5 q.2.2.2.2), g1, g2, g3, g4]
            simp (disch := omega) only [z_bV_some, z_bI_some, z_bJ_some, z_bD_some, z_bR_some, cond_true, cond_false, Bool.and_true, Bool.true_and, Bool.not_false, Bool.not_true, Bool.and_self, Bool.or_true, Bool.false_or, Bool.true_or, zn_ok, zn_ok0, zn_N, zn_add, zn_mul, zn_sub, z_lt_T, z_lt_F, z_le_T, z_le_F, z_eq_T, z_ne_F, z_eq_F, z_ne_T, z_ix_T, z_lt_m, z_le_m, z_lt_m2, z_le_m2, z_eq_m, z_ne_m, zn_div, z_a31, zn_shl, zn_shr, z_bq_T, z_bq_F, z_bl_T, nL_0, c9 h1, c9 h1']
            rfl
        · rw [if_neg (fun q => g4 q.2.2.2.1), g1, g2, g3]
          have : bI (tL T) ≠ bI (tL T') := fun e => g4 (bI_inj e)
          simp (disch := omega) only [z_bV_some, z_bI_some, z_bJ_some, z_bD_some, z_bR_some, cond_true, cond_false, Bool.and_true, Bool.true_and, Bool.not_false, Bool.not_true, Bool.and_self, Bool.or_true, Bool.false_or, Bool.true_or, zn_ok, zn_ok0, zn_N, zn_add, zn_mul, zn_sub, z_lt_T, z_lt_F, z_le_T, z_le_F, z_eq_T, z_ne_F, z_eq_F, z_ne_T, z_ix_T, z_lt_m, z_le_m, z_lt_m2, z_le_m2, z_eq_m, z_ne_m, zn_div, z_a31, zn_shl, zn_shr, z_bq_T, z_bq_F, z_bl_T, nL_0, c9 h1, c9 h1', z_ne_N this]
          rfl
      · rw [if_neg (fun q => g3 q.2.2.1), g1, g2]
        simp (disch := omega) only [z_bV_some, z_bI_some, z_bJ_some, z_bD_some, z_bR_some, cond_true, cond_false, Bool.and_true, Bool.true_and, Bool.not_false, Bool.not_true, Bool.and_self, Bool.or_true, Bool.false_or, Bool.true_or, zn_ok, zn_ok0, zn_N, zn_add, zn_mul, zn_sub, z_lt_T, z_lt_F, z_le_T, z_le_F, z_eq_T, z_ne_F, z_eq_F, z_ne_T, z_ix_T, z_lt_m, z_le_m, z_lt_m2, z_le_m2, z_eq_m, z_ne_m, zn_div, z_a31, zn_shl, zn_shr, z_bq_T, z_bq_F, z_bl_T, nL_0, c9 h1, c9 h1']
        rfl
    · rw [if_neg (fun q => g2 q.2.1), g1]
      simp (disch := omega) only [z_bV_some, z_bI_some, z_bJ_some, z_bD_some, z_bR_some, cond_true, cond_false, Bool.and_true, Bool.true_and, Bool.not_false, Bool.not_true, Bool.and_self, Bool.or_true, Bool.false_or, Bool.true_or, zn_ok, zn_ok0, zn_N, zn_add, zn_mul, zn_sub, z_lt_T, z_lt_F, z_le_T, z_le_F, z_eq_T, z_ne_F, z_eq_F, z_ne_T, z_ix_T, z_lt_m, z_le_m, z_lt_m2, z_le_m2, z_eq_m, z_ne_m, zn_div, z_a31, zn_shl, zn_shr, z_bq_T, z_bq_F, z_bl_T, nL_0, c9 h1, c9 h1']
      rfl
  · rw [if_neg (fun q => g1 q.1)]
    simp (disch := omega) only [z_bV_some, z_bI_some, z_bJ_some, z_bD_some, z_bR_some, cond_true, cond_false, Bool.and_true, Bool.true_and, Bool.not_false, Bool.not_true, Bool.and_self, Bool.or_true, Bool.false_or, Bool.true_or, zn_ok, zn_ok0, zn_N, zn_add, zn_mul, zn_sub, z_lt_T, z_lt_F, z_le_T, z_le_F, z_eq_T, z_ne_F, z_eq_F, z_ne_T, z_ix_T, z_lt_m, z_le_m, z_lt_m2, z_le_m2, z_eq_m, z_ne_m, zn_div, z_a31, zn_shl, zn_shr, z_bq_T, z_bq_F, z_bl_T, nL_0, c9 h1, c9 h1']
    rfl
noncomputable def dgT (T : zT) (s : Int32) : Int32 := fB (tY T) 0 (tZ T) (((s * zn 31 + zn (tK T)) * zn 31 + zn (tN T)) * zn 31 + zn (tU T))
theorem L_dg (d a : Nat) (A : zM) (n c : Nat) (l1 : Int32) (h1 : z_hd zQ A a = some (9, 7)) (h2 : z_hd zQ A (zP zQ A a 4) = some (12, c)) (h5 : zI A a 5 = zn n) (hn : n ≤ c) (hc : c ≤ 1033) : ∀ (r i : Nat) (s : Int32), i + r = n →
    z_denF zQ (d + 1) mS_digestOnto (32, [some (.ref a), some (.int l1), some (.int s), some (.int (zn i))], [], A) = some (some (.int (fB (zI A (zP zQ A a 4)) i r s)), A)
  | 0, i, s, hi => by
    rw [L_S_digestOnto_32, h5]
    simp (disch := omega) only [z_bV_some, z_bI_some, z_bJ_some, z_bD_some, z_bR_some, cond_true, cond_false, Bool.and_true, Bool.true_and, Bool.not_false, Bool.not_true, Bool.and_self, Bool.or_true, Bool.false_or, Bool.true_or, zn_ok, zn_ok0, zn_N, zn_add, zn_mul, zn_sub, z_lt_T, z_lt_F, z_le_T, z_le_F, z_eq_T, z_ne_F, z_eq_F, z_ne_T, z_ix_T, z_lt_m, z_le_m, z_lt_m2, z_le_m2, z_eq_m, z_ne_m, zn_div, z_a31, zn_shl, zn_shr, z_bq_T, z_bq_F, z_bl_T, c9 h1]
    rfl
  | r + 1, i, s, hi => by
    rw [L_S_digestOnto_32, h5]
    have ih := fun s => L_dg d a A n c l1 h1 h2 h5 hn hc r (i + 1) s (by omega)
    simp (disch := omega) only [z_bV_some, z_bI_some, z_bJ_some, z_bD_some, z_bR_some, cond_true, cond_false, Bool.and_true, Bool.true_and, Bool.not_false, Bool.not_true, Bool.and_self, Bool.or_true, Bool.false_or, Bool.true_or, zn_ok, zn_ok0, zn_N, zn_add, zn_mul, zn_sub, z_lt_T, z_lt_F, z_le_T, z_le_F, z_eq_T, z_ne_F, z_eq_F, z_ne_T, z_ix_T, z_lt_m, z_le_m, z_lt_m2, z_le_m2, z_eq_m, z_ne_m, zn_div, z_a31, zn_shl, zn_shr, z_bq_T, z_bq_F, z_bl_T, nL_1, nL_31, c9 h1, z_ia_of h2, ih]
    rfl
theorem E_S_digestOnto (d a : Nat) (s : Int32) (A : zM) (T : zT) (h : cT A a T) (hw : wT T) : z_den zQ (d + 1) mS_digestOnto [.ref a, .int s] A = some (some (.int (dgT T s)), A) := by
  have hz := tZ_le hw
  obtain ⟨h1, k0, k1, k2, k3, k5, k6, ⟨c, h2, hc1, hc2, hc3⟩, hb⟩ := h
  have hl := fun l1 s => L_dg d a A (tZ T) c l1 h1 h2 k5 hc1 hc3 (tZ T) 0 s (by omega)
  rw [B_S_digestOnto, k0, k1, k2]
  simp (disch := omega) only [z_bV_some, z_bI_some, z_bJ_some, z_bD_some, z_bR_some, cond_true, cond_false, Bool.and_true, Bool.true_and, Bool.not_false, Bool.not_true, Bool.and_self, Bool.or_true, Bool.false_or, Bool.true_or, nL_0, nL_31, c9 h1, hl]
  unfold dgT
  rw [fB_congr _ (tY T) _ _ _ (fun i _ i2 => hb i (by omega))]
