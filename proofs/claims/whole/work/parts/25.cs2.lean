/-! S LEVEL, the class: numbers among a strip's bytes. -/
theorem L_wn (d a fr : Nat) (l2 l3 : Int32) (c : Nat) (hc : c ≤ 1033) : ∀ (m : Nat) (rest : Int32) (A : zM), m ≤ 4 → z_hd zQ A a = some (9, 7) → z_hd zQ A (zP zQ A a 4) = some (12, c) → fr + m ≤ c →
    z_denF zQ (d + 1) mS_writeNumber (10, [some (.ref a), some (.int (zn fr)), some (.int l2), some (.int l3), some (.int rest), some (.int (zn (fr + m) - zn 1))], [], A) = some (none, z_put A (zP zQ A a 4) fr m (fun i => ebF rest (fr + m - 1 - i)))
  | 0, rest, A, _, h1, h2, h3 => by
    rw [L_S_writeNumber_10, z_lt_pred (by omega) (by omega), z_put_0]
    rfl
  | m + 1, rest, A, h0, h1, h2, h3 => by
    have e : zn (fr + (m + 1)) - zn 1 = zn (fr + m) := by rw [zn_sub (by omega)]; rfl
    rw [L_S_writeNumber_10, e]
    have hh : zP zQ (z_wI A (zP zQ A a 4) (fr + m) (ebF rest 0)) a 4 = zP zQ A a 4 := rfl
    have ih := L_wn d a fr l2 l3 c hc m (rest >>> zn 8) (z_wI A (zP zQ A a 4) (fr + m) (ebF rest 0)) (by omega) h1 h2 (by omega)
    have hz : Int32.ofNat c = zn c := (zn_eq c).symm
    simp (disch := omega) only [z_bV_some, z_bI_some, z_bJ_some, z_bD_some, z_bR_some, cond_true, cond_false, Bool.and_true, Bool.true_and, Bool.not_false, Bool.not_true, Bool.and_self, Bool.or_true, Bool.false_or, Bool.true_or, zn_ok, zn_ok0, zn_N, zn_add, zn_mul, zn_sub, z_lt_T, z_lt_F, z_le_T, z_le_F, z_eq_T, z_ne_F, z_eq_F, z_ne_T, z_ix_T, z_lt_m, z_le_m, z_lt_m2, z_le_m2, z_eq_m, z_ne_m, zn_div, z_a31, zn_shl, zn_shr, z_bq_T, z_bq_F, z_bl_T, nL_8, nL_31, c9 h1, c12 h2, z_ln_of h2, hz, z_ia_of h2, z_dec, eb_zero, eb_eb]
    rw [ih, hh]
    congr 2
    rw [← z_put_up]
    have : ebF rest (fr + (m + 1) - 1 - (fr + m)) = ebF rest 0 := by congr 1; omega
    rw [this]
    apply z_put_congr
    intro i hi1 hi2
    rw [eb_shr _ (by omega)]
    congr 1
    omega
theorem E_S_writeNumber (d a fr n : Nat) (v : Int32) (A : zM) (c : Nat) (hc : c ≤ 1033) (h0 : n ≤ 4) (h1 : z_hd zQ A a = some (9, 7)) (h2 : z_hd zQ A (zP zQ A a 4) = some (12, c)) (h3 : fr + n ≤ c) :
    z_den zQ (d + 1) mS_writeNumber [.ref a, .int (zn fr), .int (zn n), .int v] A = some (none, z_put A (zP zQ A a 4) fr n (fun i => ebF v (fr + n - 1 - i))) := by
  rw [B_S_writeNumber, zn_add, nL_1]
  exact L_wn d a fr _ _ c hc n v A h0 h1 h2 h3
/-- the number of n bytes from fr on -/
noncomputable def nuF (f : Nat → Int32) (fr : Nat) : Nat → Int32
  | 0 => zn 0
  | 1 => f fr
  | n + 2 => shF (nuF f fr (n + 1)) (f (fr + n + 1))
theorem L_na (d a fr n : Nat) (c : Nat) (hc : c ≤ 1033) (A : zM) (h1 : z_hd zQ A a = some (9, 7)) (h2 : z_hd zQ A (zP zQ A a 4) = some (12, c)) (h3 : fr + n ≤ c) : ∀ (r j : Nat), j + r = n →
    z_denF zQ (d + 1) mS_numberAt (5, [some (.ref a), some (.int (zn fr)), some (.int (zn n)), some (.int (nuF (zI A (zP zQ A a 4)) fr j)), some (.int (zn (fr + j)))], [], A) = some (some (.int (nuF (zI A (zP zQ A a 4)) fr n)), A)
  | 0, j, hj => by
    have : j = n := by omega
    subst this
    rw [L_S_numberAt_5]
    simp (disch := omega) only [z_bV_some, z_bI_some, z_bJ_some, z_bD_some, z_bR_some, cond_true, cond_false, Bool.and_true, Bool.true_and, Bool.not_false, Bool.not_true, Bool.and_self, Bool.or_true, Bool.false_or, Bool.true_or, zn_ok, zn_ok0, zn_N, zn_add, zn_mul, zn_sub, z_lt_T, z_lt_F, z_le_T, z_le_F, z_eq_T, z_ne_F, z_eq_F, z_ne_T, z_ix_T, z_lt_m, z_le_m, z_lt_m2, z_le_m2, z_eq_m, z_ne_m, zn_div, z_a31, zn_shl, zn_shr, z_bq_T, z_bq_F, z_bl_T]
  | r + 1, j, hj => by
    rw [L_S_numberAt_5]
    have ih := L_na d a fr n c hc A h1 h2 h3 r (j + 1) (by omega)
    have hz : Int32.ofNat c = zn c := (zn_eq c).symm
    by_cases h : j = 0
    · subst h
      simp (disch := omega) only [z_bV_some, z_bI_some, z_bJ_some, z_bD_some, z_bR_some, cond_true, cond_false, Bool.and_true, Bool.true_and, Bool.not_false, Bool.not_true, Bool.and_self, Bool.or_true, Bool.false_or, Bool.true_or, zn_ok, zn_ok0, zn_N, zn_add, zn_mul, zn_sub, z_lt_T, z_lt_F, z_le_T, z_le_F, z_eq_T, z_ne_F, z_eq_F, z_ne_T, z_ix_T, z_lt_m, z_le_m, z_lt_m2, z_le_m2, z_eq_m, z_ne_m, zn_div, z_a31, zn_shl, zn_shr, z_bq_T, z_bq_F, z_bl_T, nL_8, nL_31, nL_255, nL_1, c9 h1, c12 h2, z_ln_of h2, hz, z_ia_of h2, Nat.add_zero]
      exact ih
    · simp (disch := omega) only [z_bV_some, z_bI_some, z_bJ_some, z_bD_some, z_bR_some, cond_true, cond_false, Bool.and_true, Bool.true_and, Bool.not_false, Bool.not_true, Bool.and_self, Bool.or_true, Bool.false_or, Bool.true_or, zn_ok, zn_ok0, zn_N, zn_add, zn_mul, zn_sub, z_lt_T, z_lt_F, z_le_T, z_le_F, z_eq_T, z_ne_F, z_eq_F, z_ne_T, z_ix_T, z_lt_m, z_le_m, z_lt_m2, z_le_m2, z_eq_m, z_ne_m, zn_div, z_a31, zn_shl, zn_shr, z_bq_T, z_bq_F, z_bl_T, nL_8, nL_31, nL_255, nL_1, c9 h1, c12 h2, z_ln_of h2, hz, z_ia_of h2]
      obtain ⟨i, rfl⟩ : ∃ i, j = i + 1 := ⟨j - 1, by omega⟩
      exact ih
theorem E_S_numberAt (d a fr n : Nat) (A : zM) (c : Nat) (hc : c ≤ 1033) (h1 : z_hd zQ A a = some (9, 7)) (h2 : z_hd zQ A (zP zQ A a 4) = some (12, c)) (h3 : fr + n ≤ c) :
    z_den zQ (d + 1) mS_numberAt [.ref a, .int (zn fr), .int (zn n)] A = some (some (.int (nuF (zI A (zP zQ A a 4)) fr n)), A) := by
  rw [B_S_numberAt, nL_0]
  exact L_na d a fr n c hc A h1 h2 h3 n 0 (by omega)
