/-! S LEVEL: PLACES: place. -/
def tkF (k s : Nat) : Prop := k = 7 ∨ k = s ∨ (k = 0 ∧ s < 3) ∨ (k = 1 ∧ s = 2) ∨ (k = 4 ∧ s = 5)
theorem c_isOf (d : Nat) {J : zJ} {A : zM} {i k : Nat} (w : wJ J) (h : cJ J A) (hi : i < jN J) (hk : k ≤ 7) : z_den zQ (d + 1) mN_isOf [.ref (zP zQ A 4 i), .int (zn k)] A = some (some (.int (pif (tkF k (jS J i)) (zn 1) (zn 0))), A) := by
  have hc := c_cls w h hi
  have w1 := (w.2.2.2 i hi).1
  have g3 := (h.2.2.1 i hi).2.2.1
  unfold tkF
  rw [B_N_isOf]
  by_cases b7 : k = 7
  · rw [pif_T (Or.inl b7), b7]
    simp (disch := omega) only [z_bV_some, z_bI_some, z_bJ_some, z_bD_some, z_bR_some, cond_true, cond_false, Bool.and_true, Bool.true_and, Bool.not_false, Bool.not_true, Bool.and_self, Bool.or_true, Bool.false_or, Bool.true_or, zn_ok, zn_ok0, zn_N, zn_add, zn_mul, zn_sub, z_lt_T, z_lt_F, z_le_T, z_le_F, z_eq_T, z_ne_F, z_eq_F, z_ne_T, z_ix_T, z_lt_m, z_le_m, z_lt_m2, z_le_m2, z_eq_m, z_ne_m, zn_div, z_a31, zn_shl, zn_shr, z_bq_T, z_bq_F, z_bl_T, nL_0, nL_1, nL_7]
  by_cases bs : k = jS J i
  · rw [pif_T (Or.inr (Or.inl bs))]
    rw [← bs] at g3
    simp (disch := omega) only [z_bV_some, z_bI_some, z_bJ_some, z_bD_some, z_bR_some, cond_true, cond_false, Bool.and_true, Bool.true_and, Bool.not_false, Bool.not_true, Bool.and_self, Bool.or_true, Bool.false_or, Bool.true_or, zn_ok, zn_ok0, zn_N, zn_add, zn_mul, zn_sub, z_lt_T, z_lt_F, z_le_T, z_le_F, z_eq_T, z_ne_F, z_eq_F, z_ne_T, z_ix_T, z_lt_m, z_le_m, z_lt_m2, z_le_m2, z_eq_m, z_ne_m, zn_div, z_a31, zn_shl, zn_shr, z_bq_T, z_bq_F, z_bl_T, nL_0, nL_1, nL_7, hc, g3]
  by_cases b0 : k = 0
  · subst b0
    by_cases s1 : jS J i = 1
    · rw [pif_T (Or.inr (Or.inr (Or.inl ⟨rfl, by omega⟩)))]
      rw [s1] at g3
      simp (disch := omega) only [z_bV_some, z_bI_some, z_bJ_some, z_bD_some, z_bR_some, cond_true, cond_false, Bool.and_true, Bool.true_and, Bool.not_false, Bool.not_true, Bool.and_self, Bool.or_true, Bool.false_or, Bool.true_or, zn_ok, zn_ok0, zn_N, zn_add, zn_mul, zn_sub, z_lt_T, z_lt_F, z_le_T, z_le_F, z_eq_T, z_ne_F, z_eq_F, z_ne_T, z_ix_T, z_lt_m, z_le_m, z_lt_m2, z_le_m2, z_eq_m, z_ne_m, zn_div, z_a31, zn_shl, zn_shr, z_bq_T, z_bq_F, z_bl_T, nL_0, nL_1, nL_2, nL_7, hc, g3]
    by_cases s2 : jS J i = 2
    · rw [pif_T (Or.inr (Or.inr (Or.inl ⟨rfl, by omega⟩)))]
      rw [s2] at g3
      simp (disch := omega) only [z_bV_some, z_bI_some, z_bJ_some, z_bD_some, z_bR_some, cond_true, cond_false, Bool.and_true, Bool.true_and, Bool.not_false, Bool.not_true, Bool.and_self, Bool.or_true, Bool.false_or, Bool.true_or, zn_ok, zn_ok0, zn_N, zn_add, zn_mul, zn_sub, z_lt_T, z_lt_F, z_le_T, z_le_F, z_eq_T, z_ne_F, z_eq_F, z_ne_T, z_ix_T, z_lt_m, z_le_m, z_lt_m2, z_le_m2, z_eq_m, z_ne_m, zn_div, z_a31, zn_shl, zn_shr, z_bq_T, z_bq_F, z_bl_T, nL_0, nL_1, nL_2, nL_7, hc, g3]
    rw [pif_F (by omega)]
    simp (disch := omega) only [z_bV_some, z_bI_some, z_bJ_some, z_bD_some, z_bR_some, cond_true, cond_false, Bool.and_true, Bool.true_and, Bool.not_false, Bool.not_true, Bool.and_self, Bool.or_true, Bool.false_or, Bool.true_or, zn_ok, zn_ok0, zn_N, zn_add, zn_mul, zn_sub, z_lt_T, z_lt_F, z_le_T, z_le_F, z_eq_T, z_ne_F, z_eq_F, z_ne_T, z_ix_T, z_lt_m, z_le_m, z_lt_m2, z_le_m2, z_eq_m, z_ne_m, zn_div, z_a31, zn_shl, zn_shr, z_bq_T, z_bq_F, z_bl_T, nL_0, nL_1, nL_2, nL_7, hc, g3]
  by_cases b1 : k = 1
  · subst b1
    by_cases s2 : jS J i = 2
    · rw [pif_T (Or.inr (Or.inr (Or.inr (Or.inl ⟨rfl, s2⟩))))]
      rw [s2] at g3
      simp (disch := omega) only [z_bV_some, z_bI_some, z_bJ_some, z_bD_some, z_bR_some, cond_true, cond_false, Bool.and_true, Bool.true_and, Bool.not_false, Bool.not_true, Bool.and_self, Bool.or_true, Bool.false_or, Bool.true_or, zn_ok, zn_ok0, zn_N, zn_add, zn_mul, zn_sub, z_lt_T, z_lt_F, z_le_T, z_le_F, z_eq_T, z_ne_F, z_eq_F, z_ne_T, z_ix_T, z_lt_m, z_le_m, z_lt_m2, z_le_m2, z_eq_m, z_ne_m, zn_div, z_a31, zn_shl, zn_shr, z_bq_T, z_bq_F, z_bl_T, nL_0, nL_1, nL_2, nL_7, hc, g3]
    rw [pif_F (by omega)]
    simp (disch := omega) only [z_bV_some, z_bI_some, z_bJ_some, z_bD_some, z_bR_some, cond_true, cond_false, Bool.and_true, Bool.true_and, Bool.not_false, Bool.not_true, Bool.and_self, Bool.or_true, Bool.false_or, Bool.true_or, zn_ok, zn_ok0, zn_N, zn_add, zn_mul, zn_sub, z_lt_T, z_lt_F, z_le_T, z_le_F, z_eq_T, z_ne_F, z_eq_F, z_ne_T, z_ix_T, z_lt_m, z_le_m, z_lt_m2, z_le_m2, z_eq_m, z_ne_m, zn_div, z_a31, zn_shl, zn_shr, z_bq_T, z_bq_F, z_bl_T, nL_0, nL_1, nL_2, nL_7, hc, g3]
  by_cases b4 : k = 4
  · subst b4
    by_cases s5 : jS J i = 5
    · rw [pif_T (Or.inr (Or.inr (Or.inr (Or.inr ⟨rfl, s5⟩))))]
      rw [s5] at g3
      simp (disch := omega) only [z_bV_some, z_bI_some, z_bJ_some, z_bD_some, z_bR_some, cond_true, cond_false, Bool.and_true, Bool.true_and, Bool.not_false, Bool.not_true, Bool.and_self, Bool.or_true, Bool.false_or, Bool.true_or, zn_ok, zn_ok0, zn_N, zn_add, zn_mul, zn_sub, z_lt_T, z_lt_F, z_le_T, z_le_F, z_eq_T, z_ne_F, z_eq_F, z_ne_T, z_ix_T, z_lt_m, z_le_m, z_lt_m2, z_le_m2, z_eq_m, z_ne_m, zn_div, z_a31, zn_shl, zn_shr, z_bq_T, z_bq_F, z_bl_T, nL_0, nL_1, nL_2, nL_4, nL_5, nL_7, hc, g3]
    rw [pif_F (by omega)]
    simp (disch := omega) only [z_bV_some, z_bI_some, z_bJ_some, z_bD_some, z_bR_some, cond_true, cond_false, Bool.and_true, Bool.true_and, Bool.not_false, Bool.not_true, Bool.and_self, Bool.or_true, Bool.false_or, Bool.true_or, zn_ok, zn_ok0, zn_N, zn_add, zn_mul, zn_sub, z_lt_T, z_lt_F, z_le_T, z_le_F, z_eq_T, z_ne_F, z_eq_F, z_ne_T, z_ix_T, z_lt_m, z_le_m, z_lt_m2, z_le_m2, z_eq_m, z_ne_m, zn_div, z_a31, zn_shl, zn_shr, z_bq_T, z_bq_F, z_bl_T, nL_0, nL_1, nL_2, nL_4, nL_5, nL_7, hc, g3]
  rw [pif_F (by omega)]
  simp (disch := omega) only [z_bV_some, z_bI_some, z_bJ_some, z_bD_some, z_bR_some, cond_true, cond_false, Bool.and_true, Bool.true_and, Bool.not_false, Bool.not_true, Bool.and_self, Bool.or_true, Bool.false_or, Bool.true_or, zn_ok, zn_ok0, zn_N, zn_add, zn_mul, zn_sub, z_lt_T, z_lt_F, z_le_T, z_le_F, z_eq_T, z_ne_F, z_eq_F, z_ne_T, z_ix_T, z_lt_m, z_le_m, z_lt_m2, z_le_m2, z_eq_m, z_ne_m, zn_div, z_a31, zn_shl, zn_shr, z_bq_T, z_bq_F, z_bl_T, nL_0, nL_1, nL_2, nL_4, nL_5, nL_7, hc, g3]
theorem r_takes (d : Nat) {B : zM} {k s : Nat} (hk : k ≤ 7) (hs : s ≤ 6) : z_den zQ (d + 1) mQ_takes [.int (zn k), .int (zn s)] B = some (some (.int (pif (tkF k s) (zn 1) (zn 0))), B) := by
  unfold tkF
  rw [B_Q_takes]
  by_cases b7 : k = 7
  · rw [pif_T (Or.inl b7), b7]
    simp (disch := omega) only [z_bV_some, z_bI_some, z_bJ_some, z_bD_some, z_bR_some, cond_true, cond_false, Bool.and_true, Bool.true_and, Bool.not_false, Bool.not_true, Bool.and_self, Bool.or_true, Bool.false_or, Bool.true_or, zn_ok, zn_ok0, zn_N, zn_add, zn_mul, zn_sub, z_lt_T, z_lt_F, z_le_T, z_le_F, z_eq_T, z_ne_F, z_eq_F, z_ne_T, z_ix_T, z_lt_m, z_le_m, z_lt_m2, z_le_m2, z_eq_m, z_ne_m, zn_div, z_a31, zn_shl, zn_shr, z_bq_T, z_bq_F, z_bl_T, nL_0, nL_1, nL_7]
  by_cases bs : k = s
  · subst bs
    rw [pif_T (Or.inr (Or.inl rfl))]
    simp (disch := omega) only [z_bV_some, z_bI_some, z_bJ_some, z_bD_some, z_bR_some, cond_true, cond_false, Bool.and_true, Bool.true_and, Bool.not_false, Bool.not_true, Bool.and_self, Bool.or_true, Bool.false_or, Bool.true_or, zn_ok, zn_ok0, zn_N, zn_add, zn_mul, zn_sub, z_lt_T, z_lt_F, z_le_T, z_le_F, z_eq_T, z_ne_F, z_eq_F, z_ne_T, z_ix_T, z_lt_m, z_le_m, z_lt_m2, z_le_m2, z_eq_m, z_ne_m, zn_div, z_a31, zn_shl, zn_shr, z_bq_T, z_bq_F, z_bl_T, nL_0, nL_1, nL_7]
  by_cases b0 : k = 0
  · subst b0
    by_cases s1 : s < 3
    · rw [pif_T (Or.inr (Or.inr (Or.inl ⟨rfl, by omega⟩)))]
      simp (disch := omega) only [z_bV_some, z_bI_some, z_bJ_some, z_bD_some, z_bR_some, cond_true, cond_false, Bool.and_true, Bool.true_and, Bool.not_false, Bool.not_true, Bool.and_self, Bool.or_true, Bool.false_or, Bool.true_or, zn_ok, zn_ok0, zn_N, zn_add, zn_mul, zn_sub, z_lt_T, z_lt_F, z_le_T, z_le_F, z_eq_T, z_ne_F, z_eq_F, z_ne_T, z_ix_T, z_lt_m, z_le_m, z_lt_m2, z_le_m2, z_eq_m, z_ne_m, zn_div, z_a31, zn_shl, zn_shr, z_bq_T, z_bq_F, z_bl_T, nL_0, nL_1, nL_2, nL_3, nL_7]
    rw [pif_F (by omega)]
    simp (disch := omega) only [z_bV_some, z_bI_some, z_bJ_some, z_bD_some, z_bR_some, cond_true, cond_false, Bool.and_true, Bool.true_and, Bool.not_false, Bool.not_true, Bool.and_self, Bool.or_true, Bool.false_or, Bool.true_or, zn_ok, zn_ok0, zn_N, zn_add, zn_mul, zn_sub, z_lt_T, z_lt_F, z_le_T, z_le_F, z_eq_T, z_ne_F, z_eq_F, z_ne_T, z_ix_T, z_lt_m, z_le_m, z_lt_m2, z_le_m2, z_eq_m, z_ne_m, zn_div, z_a31, zn_shl, zn_shr, z_bq_T, z_bq_F, z_bl_T, nL_0, nL_1, nL_2, nL_3, nL_4, nL_7]
  by_cases b1 : k = 1
  · subst b1
    by_cases s2 : s = 2
    · subst s2
      rw [pif_T (Or.inr (Or.inr (Or.inr (Or.inl ⟨rfl, rfl⟩))))]
      simp (disch := omega) only [z_bV_some, z_bI_some, z_bJ_some, z_bD_some, z_bR_some, cond_true, cond_false, Bool.and_true, Bool.true_and, Bool.not_false, Bool.not_true, Bool.and_self, Bool.or_true, Bool.false_or, Bool.true_or, zn_ok, zn_ok0, zn_N, zn_add, zn_mul, zn_sub, z_lt_T, z_lt_F, z_le_T, z_le_F, z_eq_T, z_ne_F, z_eq_F, z_ne_T, z_ix_T, z_lt_m, z_le_m, z_lt_m2, z_le_m2, z_eq_m, z_ne_m, zn_div, z_a31, zn_shl, zn_shr, z_bq_T, z_bq_F, z_bl_T, nL_0, nL_1, nL_2, nL_7]
    rw [pif_F (by omega)]
    simp (disch := omega) only [z_bV_some, z_bI_some, z_bJ_some, z_bD_some, z_bR_some, cond_true, cond_false, Bool.and_true, Bool.true_and, Bool.not_false, Bool.not_true, Bool.and_self, Bool.or_true, Bool.false_or, Bool.true_or, zn_ok, zn_ok0, zn_N, zn_add, zn_mul, zn_sub, z_lt_T, z_lt_F, z_le_T, z_le_F, z_eq_T, z_ne_F, z_eq_F, z_ne_T, z_ix_T, z_lt_m, z_le_m, z_lt_m2, z_le_m2, z_eq_m, z_ne_m, zn_div, z_a31, zn_shl, zn_shr, z_bq_T, z_bq_F, z_bl_T, nL_0, nL_1, nL_2, nL_4, nL_7]
  by_cases b4 : k = 4
  · subst b4
    by_cases s5 : s = 5
    · subst s5
      rw [pif_T (Or.inr (Or.inr (Or.inr (Or.inr ⟨rfl, rfl⟩))))]
      simp (disch := omega) only [z_bV_some, z_bI_some, z_bJ_some, z_bD_some, z_bR_some, cond_true, cond_false, Bool.and_true, Bool.true_and, Bool.not_false, Bool.not_true, Bool.and_self, Bool.or_true, Bool.false_or, Bool.true_or, zn_ok, zn_ok0, zn_N, zn_add, zn_mul, zn_sub, z_lt_T, z_lt_F, z_le_T, z_le_F, z_eq_T, z_ne_F, z_eq_F, z_ne_T, z_ix_T, z_lt_m, z_le_m, z_lt_m2, z_le_m2, z_eq_m, z_ne_m, zn_div, z_a31, zn_shl, zn_shr, z_bq_T, z_bq_F, z_bl_T, nL_0, nL_1, nL_2, nL_4, nL_5, nL_7]
    rw [pif_F (by omega)]
    simp (disch := omega) only [z_bV_some, z_bI_some, z_bJ_some, z_bD_some, z_bR_some, cond_true, cond_false, Bool.and_true, Bool.true_and, Bool.not_false, Bool.not_true, Bool.and_self, Bool.or_true, Bool.false_or, Bool.true_or, zn_ok, zn_ok0, zn_N, zn_add, zn_mul, zn_sub, z_lt_T, z_lt_F, z_le_T, z_le_F, z_eq_T, z_ne_F, z_eq_F, z_ne_T, z_ix_T, z_lt_m, z_le_m, z_lt_m2, z_le_m2, z_eq_m, z_ne_m, zn_div, z_a31, zn_shl, zn_shr, z_bq_T, z_bq_F, z_bl_T, nL_0, nL_1, nL_2, nL_4, nL_5, nL_7]
  rw [pif_F (by omega)]
  simp (disch := omega) only [z_bV_some, z_bI_some, z_bJ_some, z_bD_some, z_bR_some, cond_true, cond_false, Bool.and_true, Bool.true_and, Bool.not_false, Bool.not_true, Bool.and_self, Bool.or_true, Bool.false_or, Bool.true_or, zn_ok, zn_ok0, zn_N, zn_add, zn_mul, zn_sub, z_lt_T, z_lt_F, z_le_T, z_le_F, z_eq_T, z_ne_F, z_eq_F, z_ne_T, z_ix_T, z_lt_m, z_le_m, z_lt_m2, z_le_m2, z_eq_m, z_ne_m, zn_div, z_a31, zn_shl, zn_shr, z_bq_T, z_bq_F, z_bl_T, nL_0, nL_1, nL_2, nL_4, nL_5, nL_7]
theorem c_where (d : Nat) {n : Nat} {H : zH} {A : zM} {c : Nat} {x : Int32} (w : wH n H) (h : cH H A) (hc : c < chN H) : z_den zQ (d + 2) mO_whereIs [.ref 3, .int (zn c), .int x] A = some (some (.int (pif (0 ≤ x.toInt ∧ x.toInt < (chF H (c + 1) : Int) - chF H c) (zn (chF H c + x.toNatClampNeg)) (-1))), A) := by
  have w1 := w.1
  have w3 := w.2.2.1 c hc
  have w4 := w.2.2.2.1
  have w5 := chF_n w (c := c + 1) (by omega)
  have h1 := h.2.2.1 c (by omega)
  have h2 := h.2.2.1 (c + 1) (by omega)
  have e1 : z_eq (zn 1) 0 = false := z_eq_10
  rw [B_O_whereIs, c_hasC _ w h ⟨by rw [zn_toInt (by omega)]; omega, by rw [zn_toInt (by omega)]; omega⟩, z_bI_some, e1, cond_false, zn_1, z_ix_T (by omega) (by omega), cond_true, z_ix_T (by omega) (by omega), cond_true, cond_true, zn_N (by omega), zn_N (by omega), h1, h2, zn_sub w3]
  rcases zn_cases x with hx | ⟨y, hy, rfl⟩
  · rw [pif_F (fun q => by omega), nL_0, z_le_m2 hx (by omega), cond_false]
  · rw [zn_toInt hy, zn_N hy, nL_0, z_le_T (by omega) (by omega), cond_true]
    by_cases g : y < chF H (c + 1) - chF H c
    · rw [pif_T ⟨by omega, by omega⟩, z_le_F (by omega) (by omega), cond_false, zn_add]
    · rw [pif_F (fun q => by omega), z_le_T (by omega) (by omega), cond_true]
noncomputable def upP (H : zH) (p : Nat) (x : Int32) : zH := (H.1, H.2.1, H.2.2.1, (fun q => if q = p then x else H.2.2.2.1 q), H.2.2.2.2.1, H.2.2.2.2.2)
theorem w_upP {J : zJ} {H : zH} (w : wH (jN J) H) {p : Nat} {x : Int32} (hx : x = -1 ∨ iOk J x) : wH (jN J) (upP H p x) := by
  obtain ⟨w1, w2, w3, w4, w5, w6, w7⟩ := w
  refine ⟨w1, w2, w3, w4, w5, fun q hq => ?_, w7⟩
  show (if q = p then x else chP H q) = -1 ∨ ∃ i, i < jN J ∧ (if q = p then x else chP H q) = zn i
  by_cases e : q = p
  · rw [if_pos e]
    rcases hx with g | g
    · exact Or.inl g
    · obtain ⟨i, hi, _, rfl⟩ := iOk_ex g
      exact Or.inr ⟨i, hi, rfl⟩
  · rw [if_neg e]; exact w6 q hq
noncomputable def oPla (pl : Bool) (J : zJ) (H : zH) (c i x : Int32) : Int32 × Int32 × zH := pif (kOk H c ∧ (x = -1 ∨ iOk J x)) (if pl = true then (-3, -3, H) else pif (0 ≤ i.toInt ∧ i.toInt < (chF H (c.toNatClampNeg + 1) : Int) - chF H c.toNatClampNeg) (pif (x = -1 ∨ tkF (chK H c.toNatClampNeg) (jS J x.toNatClampNeg)) (1, 0, upP H (chF H c.toNatClampNeg + i.toNatClampNeg) x) (-16, 6, H)) (-12, 2, H)) (-1, -1, H)
theorem c_upP {H : zH} {A : zM} (h : cH H A) (p : Nat) (x : Int32) : cH (upP H p x) (z_wI A 7 p x) := by
  obtain ⟨h1, h2, h3, h4, h5⟩ := h
  refine ⟨by rw [zI_wI_a (by omega)]; exact h1, fun c hc => by rw [zI_wI_a (by omega)]; exact h2 c hc, fun c hc => by rw [zI_wI_a (by omega)]; exact h3 c hc, fun q hq => ?_, fun t ht => by rw [zI_wI_a (by omega), zI_wI_a (by omega)]; exact h5 t ht⟩
  show _ = if q = p then x else chP H q
  by_cases e : q = p
  · subst e; rw [zI_wI_s, if_pos rfl]
  · rw [zI_wI_k e, if_neg e]; exact h4 q hq
theorem r_upP {H : zH} {A : zM} (h : rH H A) (p : Nat) (x : Int32) : rH (upP H p x) (z_wI A 36 p (hQ x)) := by
  obtain ⟨h1, h2, h3, h4, h5⟩ := h
  refine ⟨by rw [zI_wI_a (by omega)]; exact h1, by rw [zI_wI_a (by omega)]; exact h2, fun c hc => by simp (disch := omega) only [zI_wI_a]; exact h3 c hc, fun q hq => ?_, fun t ht => by rw [zI_wI_a (by omega), zI_wI_a (by omega)]; exact h5 t ht⟩
  show _ = hQ (if q = p then x else chP H q)
  by_cases e : q = p
  · subst e; rw [zI_wI_s, if_pos rfl]
  · rw [zI_wI_k e, if_neg e]; exact h4 q hq
theorem zn_nm {i : Nat} (h : i < 2147483648) : zn i ≠ -1 := fun q => by
  have := congrArg Int32.toInt q
  rw [zn_toInt h, toI_m1] at this
  omega
theorem eq_mT : z_eq (-1 : Int32) (-1) = true := by rw [z_eq_eq]; rfl
theorem ne_mF : z_ne (-1 : Int32) (-1) = false := by rw [z_ne_eq]; rfl
theorem eq_mF {x : Int32} (h : x ≠ -1) : z_eq x (-1) = false := by rw [z_eq_eq]; exact decide_eq_false h
theorem ne_mT {x : Int32} (h : x ≠ -1) : z_ne x (-1) = true := by rw [z_ne_eq]; exact decide_eq_true h
theorem le_0m : z_le (0 : Int32) (-1) = false := by rw [z_le_eq]; rfl
theorem le_0n {n : Nat} (h : n < 2147483648) : z_le (0 : Int32) (zn n) = true := by rw [nL_0]; exact z_le_T (by omega) h
theorem ne_10 : z_ne (zn 1) 0 = true := z_ne_n0 (by omega) (by omega)
theorem ne_00 : z_ne (zn 0) 0 = false := by rw [nL_0]; exact z_ne_F _
theorem P_place (d : Nat) {pl : Bool} {J : zJ} {H : zH} {A : zM} {c i x : Int32} (wj : wJ J) (hj : cJ J A) (w : wH (jN J) H) (h : cH H A) (hp : zI A 3 15 = bI pl) : cResH A (oPla pl J H c i x) (z_den zQ (d + 3) mP_place [.ref 1, .int c, .int i, .int x] A) := by
  have w1 := w.1
  have w4 := w.2.2.2.1
  have wj1 := wj.1
  unfold oPla
  rw [B_P_place]
  by_cases gc : kOk H c
  · have hcc := c_hasC (d + 1) w h gc
    obtain ⟨m, hm, rfl⟩ := zn_ex gc.1
    have gm : m < chN H := by have := gc.2; rw [zn_toInt hm] at this; omega
    have w3 := w.2.2.1 m gm
    have w5 := chF_n w (c := m + 1) (by omega)
    have hK := w.2.2.2.2.1 m gm
    rw [zn_N hm]
    by_cases gx : x = -1
    · subst gx
      rw [pif_T ⟨gc, Or.inl rfl⟩, c_insAt_no _ wj hj (fun q => by have := q.1; rw [toI_m1] at this; omega), z_bR_some, hcc, z_bI_some, z_eq_10, cond_false, show Nat.beq 0 0 = true from rfl, cond_true, eq_mT, cond_true, hp, bI_eq0]
      cases pl
      · rw [if_neg (by decide), show (!false) = true from rfl, cond_true, c_where _ w h gm, z_bI_some]
        by_cases gi : 0 ≤ i.toInt ∧ i.toInt < (chF H (m + 1) : Int) - chF H m
        · obtain ⟨y, hy, rfl⟩ := zn_ex gi.1
          have g2 := gi.2
          rw [zn_toInt hy] at g2
          rw [pif_T gi, pif_T gi, pif_T (Or.inl rfl), zn_N hy, le_0n (by omega), cond_true, cond_true, z_ix_T (by omega) (by omega), cond_true, B_P_done, z_bI_some, zn_N (by omega)]
          exact cRH_to (c_upP h _ _) (zFr_wI (X := xcH) (Or.inr (Or.inr ⟨by omega, by omega⟩))) _ _
        · rw [pif_F gi, pif_F gi, le_0m, cond_false, B_P_found, z_bI_some]; exact cRH_st h _ _
      · rw [if_pos rfl, show (!true) = false from rfl, cond_false, B_P_refuse, z_bI_some]; exact cRH_st h _ _
    · by_cases gi' : iOk J x
      · obtain ⟨e, he, he2, rfl⟩ := iOk_ex gi'
        have nz := cJ_nz hj he
        have g1 := (hj.2.2.1 e he).1
        have ws := (wj.2.2.2 e he).1
        have ho : z_okU zQ A (zP zQ A 4 e) [(0, 137), (1, 137), (2, 137), (3, 137), (5, 137), (6, 137), (7, 137)] = true := by
          rw [okU_of g1]; unfold tgF; (repeat' split) <;> rfl
        have hs : z_selU zQ A (zP zQ A 4 e) [(0, 137), (1, 137), (2, 137), (3, 137), (5, 137), (6, 137), (7, 137)] = mN_isOf := by
          rw [selU_of g1]; unfold tgF; (repeat' split) <;> rfl
        rw [pif_T ⟨gc, Or.inr gi'⟩, c_insAt _ wj he, z_bR_some, hcc, z_bI_some, z_eq_10, cond_false, z_bq_F nz, cond_false, hp, bI_eq0]
        cases pl
        · rw [if_neg (by decide), show (!false) = true from rfl, cond_true, c_where _ w h gm, z_bI_some]
          by_cases gi : 0 ≤ i.toInt ∧ i.toInt < (chF H (m + 1) : Int) - chF H m
          · obtain ⟨y, hy, rfl⟩ := zn_ex gi.1
            have g2 := gi.2
            rw [zn_toInt hy] at g2
            rw [pif_T gi, pif_T gi, zn_N hy, zn_N he2, le_0n (by omega), cond_true, cond_false, z_ix_T (by omega) (by omega), cond_true, ho, cond_true, hs, h.2.1 m gm, c_isOf _ wj hj he hK, z_bI_some]
            by_cases gt : tkF (chK H m) (jS J e)
            · rw [pif_T gt, pif_T (Or.inr gt), ne_10, cond_true, z_ix_T (by omega) (by omega), cond_true, B_P_done, z_bI_some, zn_N (by omega)]
              exact cRH_to (c_upP h _ _) (zFr_wI (X := xcH) (Or.inr (Or.inr ⟨by omega, by omega⟩))) _ _
            · rw [pif_F gt, pif_F (fun q => q.elim gx gt), ne_00, cond_false, B_P_found, z_bI_some]; exact cRH_st h _ _
          · rw [pif_F gi, pif_F gi, le_0m, cond_false, B_P_found, z_bI_some]; exact cRH_st h _ _
        · rw [if_pos rfl, show (!true) = false from rfl, cond_false, B_P_refuse, z_bI_some]; exact cRH_st h _ _
      · rw [pif_F (fun q => q.2.elim gx gi'), c_insAt_no _ wj hj gi', z_bR_some, hcc, z_bI_some, z_eq_10, cond_false, show Nat.beq 0 0 = true from rfl, cond_true, eq_mF gx, cond_false, B_P_refuse, z_bI_some]
        exact cRH_st h _ _
  · rw [pif_F (fun q => gc q.1)]
    have hn := c_hasC_no (d + 1) w h gc
    by_cases gi' : iOk J x
    · obtain ⟨e, he, he2, rfl⟩ := iOk_ex gi'
      rw [c_insAt _ wj he, z_bR_some, hn, z_bI_some, z_eq_00, cond_true, B_P_refuse, z_bI_some]; exact cRH_st h _ _
    · rw [c_insAt_no _ wj hj gi', z_bR_some, hn, z_bI_some, z_eq_00, cond_true, B_P_refuse, z_bI_some]; exact cRH_st h _ _
theorem Q_place (d : Nat) {pl : Bool} {J : zJ} {H : zH} {B : zM} {c i x : Int32} (wj : wJ J) (hj : rJ J B) (w : wH (jN J) H) (h : rH H B) (hp : zI B 15 36 = bI pl) : rResH B (oPla pl J H c i x) (z_den zQ (d + 3) mQ_place [.ref 15, .int c, .int i, .int x] B) := by
  have w1 := w.1
  have w4 := w.2.2.2.1
  have wj1 := wj.1
  unfold oPla
  rw [B_Q_place, h.1]
  by_cases gc : kOk H c
  · rw [Q_wiT (by rw [toI_0, zn_p1 (by omega)]; have := gc.1; have := gc.2; omega), z_bI_some, z_eq_10, cond_false]
    obtain ⟨m, hm, rfl⟩ := zn_ex gc.1
    have gm : m < chN H := by have := gc.2; rw [zn_toInt hm] at this; omega
    have w3 := w.2.2.1 m gm
    have w5 := chF_n w (c := m + 1) (by omega)
    have hK := w.2.2.2.2.1 m gm
    obtain ⟨r1, r2, r3⟩ := h.2.2.1 m gm
    have hix : z_ix (zn m) 16 = true := z_ix_T (by omega) (by omega)
    have hwT : ∀ (d : Nat) {i : Int32}, (0 ≤ i.toInt ∧ i.toInt < (chF H (m + 1) : Int) - chF H m) → z_den zQ (d + 1) mQ_within [.int i, .int 0, .int (zn (chF H (m + 1) - chF H m) - 1)] B = some (some (.int (zn 1)), B) := fun d i gi => Q_wiT (by rw [toI_0, zn_p1 (by omega)]; omega)
    have hwF : ∀ (d : Nat) {i : Int32}, ¬ (0 ≤ i.toInt ∧ i.toInt < (chF H (m + 1) : Int) - chF H m) → z_den zQ (d + 1) mQ_within [.int i, .int 0, .int (zn (chF H (m + 1) - chF H m) - 1)] B = some (some (.int (zn 0)), B) := fun d i gi => Q_wiF (by rw [toI_0, zn_p1 (by omega)]; omega)
    rw [zn_N hm]
    by_cases gx : x = -1
    · subst gx
      rw [pif_T ⟨gc, Or.inl rfl⟩]
      cases pl
      · rw [if_neg (by decide)]
        by_cases gi : 0 ≤ i.toInt ∧ i.toInt < (chF H (m + 1) : Int) - chF H m
        · have hw := hwT (d + 1) gi
          rw [pif_T gi, pif_T (Or.inl rfl)]
          obtain ⟨y, hy, rfl⟩ := zn_ex gi.1
          have g2 := gi.2
          rw [zn_toInt hy] at g2
          simp (disch := omega) only [z_bV_some, z_bI_some, z_bJ_some, z_bD_some, z_bR_some, cond_true, cond_false, Bool.and_true, Bool.true_and, Bool.not_false, Bool.not_true, Bool.and_self, Bool.or_true, Bool.false_or, Bool.true_or, zn_N, zn_add, z_ix_T, eq_mT, ne_mF, hp, bI_eq0, hix, r1, r2, r3, hw, ne_10, B_Q_well]
          have e : hQ (-1) = -4 := pif_T rfl
          rw [← e]
          exact rRH_to (r_upP h _ _) (zFr_wI (X := xrH) (Or.inr ⟨by omega, by omega⟩)) _ _
        · have hw := hwF (d + 1) gi
          rw [pif_F gi]
          simp (disch := omega) only [z_bV_some, z_bI_some, z_bJ_some, z_bD_some, z_bR_some, cond_true, cond_false, Bool.and_true, Bool.true_and, Bool.not_false, Bool.not_true, Bool.and_self, Bool.or_true, Bool.false_or, Bool.true_or, zn_N, zn_add, z_ix_T, eq_mT, ne_mF, hp, bI_eq0, hix, r1, r2, r3, hw, ne_00, B_Q_finds]
          exact rRH_st h _ _
      · rw [if_pos rfl]
        simp (disch := omega) only [z_bV_some, z_bI_some, z_bJ_some, z_bD_some, z_bR_some, cond_true, cond_false, Bool.and_true, Bool.true_and, Bool.not_false, Bool.not_true, Bool.and_self, Bool.or_true, Bool.false_or, Bool.true_or, eq_mT, hp, bI_eq0, B_Q_no]
        exact rRH_st h _ _
    · by_cases gi' : iOk J x
      · have hii := r_isI d wj hj gi'
        obtain ⟨e, he, he2, rfl⟩ := iOk_ex gi'
        have ws := (wj.2.2.2 e he).1
        have r4 := (hj.2.2.1 e he).1
        have hnm := eq_mF (zn_nm he2)
        have hnm' := ne_mT (zn_nm he2)
        have hix2 : z_ix (zn e) 60 = true := z_ix_T (by omega) (by omega)
        rw [pif_T ⟨gc, Or.inr gi'⟩]
        cases pl
        · rw [if_neg (by decide)]
          by_cases gi : 0 ≤ i.toInt ∧ i.toInt < (chF H (m + 1) : Int) - chF H m
          · have hw := hwT (d + 1) gi
            rw [pif_T gi, zn_N he2]
            obtain ⟨y, hy, rfl⟩ := zn_ex gi.1
            have g2 := gi.2
            rw [zn_toInt hy] at g2
            have ht := r_takes (d + 1) (B := B) hK ws
            by_cases gt : tkF (chK H m) (jS J e)
            · rw [pif_T gt] at ht
              rw [pif_T (Or.inr gt)]
              simp (disch := omega) only [z_bV_some, z_bI_some, z_bJ_some, z_bD_some, z_bR_some, cond_true, cond_false, Bool.and_true, Bool.true_and, Bool.not_false, Bool.not_true, Bool.and_self, Bool.or_true, Bool.false_or, Bool.true_or, zn_N, zn_add, z_ix_T, hnm, hnm', hii, hp, bI_eq0, hix, hix2, r1, r2, r3, r4, hw, ht, ne_10, B_Q_well]
              have e' : hQ (zn e) = zn e := pif_F (zn_nm he2)
              have := rRH_to (r_upP h (chF H m + y) (zn e)) (zFr_wI (X := xrH) (Or.inr ⟨by omega, by omega⟩)) 1 0
              rw [e'] at this
              exact this
            · rw [pif_F gt] at ht
              rw [pif_F (fun q => q.elim gx gt)]
              simp (disch := omega) only [z_bV_some, z_bI_some, z_bJ_some, z_bD_some, z_bR_some, cond_true, cond_false, Bool.and_true, Bool.true_and, Bool.not_false, Bool.not_true, Bool.and_self, Bool.or_true, Bool.false_or, Bool.true_or, zn_N, zn_add, z_ix_T, hnm, hnm', hii, hp, bI_eq0, hix, hix2, r1, r2, r3, r4, hw, ht, ne_10, ne_00, B_Q_finds]
              exact rRH_st h _ _
          · have hw := hwF (d + 1) gi
            rw [pif_F gi]
            simp (disch := omega) only [z_bV_some, z_bI_some, z_bJ_some, z_bD_some, z_bR_some, cond_true, cond_false, Bool.and_true, Bool.true_and, Bool.not_false, Bool.not_true, Bool.and_self, Bool.or_true, Bool.false_or, Bool.true_or, zn_N, zn_add, z_ix_T, hnm, hnm', hii, hp, bI_eq0, hix, hix2, r1, r2, r3, r4, hw, ne_10, ne_00, B_Q_finds]
            exact rRH_st h _ _
        · rw [if_pos rfl]
          simp (disch := omega) only [z_bV_some, z_bI_some, z_bJ_some, z_bD_some, z_bR_some, cond_true, cond_false, Bool.and_true, Bool.true_and, Bool.not_false, Bool.not_true, Bool.and_self, Bool.or_true, Bool.false_or, Bool.true_or, hnm, hii, ne_10, hp, bI_eq0, B_Q_no]
          exact rRH_st h _ _
      · rw [pif_F (fun q => q.2.elim gx gi')]
        have hii := r_isI_no d wj hj gi'
        simp (disch := omega) only [z_bV_some, z_bI_some, z_bJ_some, z_bD_some, z_bR_some, cond_true, cond_false, Bool.and_true, Bool.true_and, Bool.not_false, Bool.not_true, Bool.and_self, Bool.or_true, Bool.false_or, Bool.true_or, eq_mF gx, hii, ne_00, B_Q_no]
        exact rRH_st h _ _
  · rw [pif_F (fun q => gc q.1), Q_wiF (by rw [toI_0, zn_p1 (by omega)]; exact fun q => gc ⟨q.1, by omega⟩), z_bI_some, z_eq_00, cond_true, B_Q_no, z_bI_some]
    exact rRH_st h _ _
