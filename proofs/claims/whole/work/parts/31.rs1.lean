/-! S LEVEL, the reference: a strip's cells. -/
def inR (p a k : Nat) : Prop := ((a = 18 ∨ a = 19 ∨ a = 20 ∨ a = 21 ∨ a = 22 ∨ a = 24) ∧ k = p) ∨ (a = 23 ∧ 9 * p ≤ k ∧ k < 9 * p + 9) ∨ (a = 25 ∧ 256 * p ≤ k ∧ k < 256 * p + 256)
theorem inR_ne {p q a k : Nat} (h : inR p a k) (h2 : inR q a k) : p = q := by unfold inR at h h2; omega
theorem inR_lt {p a k : Nat} (h : inR p a k) (M : zM) : a < z_new zQ M := by have := z_new_ge M; unfold inR at h; omega
theorem rT_fr {c s : Nat} {X : Nat → Nat → Prop} {B B' : zM} {p : Nat} {T : zT} (hf : zFr c s X B B') (h : rT B p T) (hx : ∀ a k, inR p a k → ¬ X a k) : rT B' p T := by
  have g : ∀ a k, inR p a k → zI B' a k = zI B a k := fun a k h => zFr_I hf k (inR_lt h B) (hx a k h)
  obtain ⟨k0, k1, k2, k3, k4, k5, k6, k7⟩ := h
  refine ⟨?_, ?_, ?_, ?_, ?_, ?_, fun i hi => ?_, fun k hk => ?_⟩
  · rw [g _ _ (by unfold inR; omega)]; exact k0
  · rw [g _ _ (by unfold inR; omega)]; exact k1
  · rw [g _ _ (by unfold inR; omega)]; exact k2
  · rw [g _ _ (by unfold inR; omega)]; exact k3
  · rw [g _ _ (by unfold inR; omega)]; exact k4
  · rw [g _ _ (by unfold inR; omega)]; exact k5
  · rw [g _ _ (by unfold inR; omega)]; exact k6 i hi
  · rw [g _ _ (by unfold inR; omega)]; exact k7 k hk
theorem E_Q_width (d K : Nat) (hK : K ≤ 3) (M : zM) : z_den zQ (d + 1) mQ_width [.int (zn K)] M = some (some (.int (zn (wF K))), M) := by
  rw [B_Q_width]
  rcases (show K = 0 ∨ K = 1 ∨ K = 2 ∨ K = 3 by omega) with rfl | rfl | rfl | rfl <;> simp (disch := omega) only [z_bV_some, z_bI_some, z_bJ_some, z_bD_some, z_bR_some, cond_true, cond_false, Bool.and_true, Bool.true_and, Bool.not_false, Bool.not_true, Bool.and_self, Bool.or_true, Bool.false_or, Bool.true_or, zn_ok, zn_ok0, zn_N, zn_add, zn_mul, zn_sub, z_lt_T, z_lt_F, z_le_T, z_le_F, z_eq_T, z_ne_F, z_eq_F, z_ne_T, z_ix_T, z_lt_m, z_le_m, z_lt_m2, z_le_m2, z_eq_m, z_ne_m, zn_div, z_a31, zn_shl, zn_shr, z_bq_T, z_bq_F, z_bl_T, nL_0, nL_3, nL_1, nL_2, nL_4] <;> rfl
theorem E_Q_low (d K : Nat) (hK : K ≤ 3) (v : Int32) (M : zM) : z_den zQ (d + 1) mQ_low [.int (zn K), .int v] M = some (some (.int (loF K v)), M) := by
  rw [B_Q_low]
  unfold loF
  rcases (show K = 0 ∨ K = 1 ∨ K = 2 ∨ K = 3 by omega) with rfl | rfl | rfl | rfl <;> simp (disch := omega) only [z_bV_some, z_bI_some, z_bJ_some, z_bD_some, z_bR_some, cond_true, cond_false, Bool.and_true, Bool.true_and, Bool.not_false, Bool.not_true, Bool.and_self, Bool.or_true, Bool.false_or, Bool.true_or, zn_ok, zn_ok0, zn_N, zn_add, zn_mul, zn_sub, z_lt_T, z_lt_F, z_le_T, z_le_F, z_eq_T, z_ne_F, z_eq_F, z_ne_T, z_ix_T, z_lt_m, z_le_m, z_lt_m2, z_le_m2, z_eq_m, z_ne_m, zn_div, z_a31, zn_shl, zn_shr, z_bq_T, z_bq_F, z_bl_T, nL_0, nL_3, nL_1, nL_2, nL_65535, eb_zero] <;> rfl
theorem E_Q_within (d : Nat) (x a b : Int32) (M : zM) : z_den zQ (d + 1) mQ_within [.int x, .int a, .int b] M = some (some (.int (bI (decide (a.toInt ≤ x.toInt ∧ x.toInt ≤ b.toInt)))), M) := by
  rw [B_Q_within, z_lt_iff, z_lt_iff, nL_0, nL_1]
  by_cases h1 : x.toInt < a.toInt
  · rw [decide_eq_true h1, bI_0 (by rw [decide_eq_true_iff]; omega)]; rfl
  · rw [decide_eq_false h1]
    by_cases h2 : b.toInt < x.toInt
    · rw [decide_eq_true h2, bI_0 (by rw [decide_eq_true_iff]; omega)]; rfl
    · rw [decide_eq_false h2, bI_1 (by rw [decide_eq_true_iff]; omega)]; rfl
theorem E_Q_bytesOf (d p : Nat) (B : zM) (T : zT) (hp : p < 400) (h : rT B p T) (hw : wT T) : z_den zQ (d + 2) mQ_bytesOf [.ref 15, .int (zn p)] B = some (some (.int (zn (tZ T))), B) := by
  obtain ⟨k0, k1, k2, k3, k4, k5, k6, k7⟩ := h
  have e1 := E_Q_width d (tK T) hw.1 B
  have e2 : tH T + tS T * wF (tK T) = tZ T := rfl
  rw [B_Q_bytesOf]
  simp (disch := omega) only [z_bV_some, z_bI_some, z_bJ_some, z_bD_some, z_bR_some, cond_true, cond_false, Bool.and_true, Bool.true_and, Bool.not_false, Bool.not_true, Bool.and_self, Bool.or_true, Bool.false_or, Bool.true_or, zn_ok, zn_ok0, zn_N, zn_add, zn_mul, zn_sub, z_lt_T, z_lt_F, z_le_T, z_le_F, z_eq_T, z_ne_F, z_eq_F, z_ne_T, z_ix_T, z_lt_m, z_le_m, z_lt_m2, z_le_m2, z_eq_m, z_ne_m, zn_div, z_a31, zn_shl, zn_shr, z_bq_T, z_bq_F, z_bl_T, k0, k4, k5, e1, e2]
theorem E_Q_byteAt (d p i : Nat) (B : zM) (T : zT) (hp : p < 400) (h : rT B p T) (hw : wT T) (hi : i < 9 ∨ i < 9 + tS T * tW T) : z_den zQ (d + 2) mQ_byteAt [.ref 15, .int (zn p), .int (zn i)] B = some (some (.int (tY T i)), B) := by
  obtain ⟨k0, k1, k2, k3, k4, k5, k6, k7⟩ := h
  have e1 := E_Q_width d (tK T) hw.1 B
  have hW := wT_W hw
  have hs := hw.2.2.2.2.1
  rw [B_Q_byteAt]
  unfold tY
  by_cases g : i < 9
  · rw [if_pos g]
    simp (disch := omega) only [z_bV_some, z_bI_some, z_bJ_some, z_bD_some, z_bR_some, cond_true, cond_false, Bool.and_true, Bool.true_and, Bool.not_false, Bool.not_true, Bool.and_self, Bool.or_true, Bool.false_or, Bool.true_or, zn_ok, zn_ok0, zn_N, zn_add, zn_mul, zn_sub, z_lt_T, z_lt_F, z_le_T, z_le_F, z_eq_T, z_ne_F, z_eq_F, z_ne_T, z_ix_T, z_lt_m, z_le_m, z_lt_m2, z_le_m2, z_eq_m, z_ne_m, zn_div, z_a31, zn_shl, zn_shr, z_bq_T, z_bq_F, z_bl_T, nL_9]
    rw [k6 i g]
  · rw [if_neg g]
    have hpW : 0 < tW T := wT_pos T
    have hW4 : tW T ≤ 4 := by unfold tW; have := wF_c (tK T); omega
    have hdm : (i - 9) / tW T * tW T ≤ i - 9 := Nat.div_mul_le_self _ _
    have hmod : i - 9 - (i - 9) / tW T * tW T = (i - 9) % tW T := by have := Nat.div_add_mod (i - 9) (tW T); rw [Nat.mul_comm] at this; omega
    have hlt := Nat.mod_lt (i - 9) hpW
    have hdv : (i - 9) / tW T < 256 := (Nat.div_lt_iff_lt_mul hpW).mpr (by
      have := Nat.mul_le_mul_right (tW T) hs
      omega)
    have e2 : wF (tK T) = tW T := rfl
    simp (disch := omega) only [z_bV_some, z_bI_some, z_bJ_some, z_bD_some, z_bR_some, cond_true, cond_false, Bool.and_true, Bool.true_and, Bool.not_false, Bool.not_true, Bool.and_self, Bool.or_true, Bool.false_or, Bool.true_or, zn_ok, zn_ok0, zn_N, zn_add, zn_mul, zn_sub, z_lt_T, z_lt_F, z_le_T, z_le_F, z_eq_T, z_ne_F, z_eq_F, z_ne_T, z_ix_T, z_lt_m, z_le_m, z_lt_m2, z_le_m2, z_eq_m, z_ne_m, zn_div, z_a31, zn_shl, zn_shr, z_bq_T, z_bq_F, z_bl_T, nL_9, nL_256, nL_0, nL_8, nL_1, nL_31, k0, e1, e2, hmod, eb_zero]
    rw [k7 _ hdv]
    unfold ebF
    simp (disch := omega) only [Nat.mul_zero]
    rw [show (zn 0) = (0 : Int32) from (nL_0).symm]
    have : ∀ x : Int32, x >>> (0 : Int32) = x := fun x => tI_eq (by rw [nL_0, tI_shr (by omega)]; simp)
    rw [this]
