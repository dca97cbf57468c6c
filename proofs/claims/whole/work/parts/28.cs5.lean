/-! S LEVEL, the class: what is found of a strip; lost, torn, copied strips. -/
theorem z_eq_N {x y : Int32} (h : x ≠ y) : z_eq x y = false := by rw [z_eq_eq]; exact decide_eq_false h
theorem z_ne_N {x y : Int32} (h : x ≠ y) : z_ne x y = true := by rw [z_ne_eq]; exact decide_eq_true h
theorem z_le_tt {x y : Int32} (h : x.toInt ≤ y.toInt) : z_le x y = true := by rw [z_le_iff]; exact decide_eq_true h
theorem z_le_ff {x y : Int32} (h : y.toInt < x.toInt) : z_le x y = false := by rw [z_le_iff]; exact decide_eq_false (by omega)
theorem z_lt_tt {x y : Int32} (h : x.toInt < y.toInt) : z_lt x y = true := by rw [z_lt_iff]; exact decide_eq_true h
theorem z_lt_ff {x y : Int32} (h : y.toInt ≤ x.toInt) : z_lt x y = false := by rw [z_lt_iff]; exact decide_eq_false (by omega)
theorem bI_0 {b : Bool} (h : ¬ b = true) : bI b = zn 0 := by unfold bI; rw [if_neg h]
theorem bI_1 {b : Bool} (h : b = true) : bI b = zn 1 := by unfold bI; rw [if_pos h]
theorem E_S_verdict (d a : Nat) (A : zM) (T : zT) (h : cT A a T) (hw : wT T) : z_den zQ (d + 2) mS_verdict [.ref a] A = some (some (.int (zn (findT T))), A) := by
  have hcT := h
  have hz := tZ_le hw
  obtain ⟨h1, k0, k1, k2, k3, k5, k6, ⟨c, h2, hc1, hc2, hc3⟩, hb⟩ := h
  have hd : tZ T = tH T + tS T * tW T := rfl
  rw [B_S_verdict, k6]
  unfold findT
  by_cases g1 : tL T = true
  · rw [if_pos g1, bI_1 g1]
    simp (disch := omega) only [z_bV_some, z_bI_some, z_bJ_some, z_bD_some, z_bR_some, cond_true, cond_false, Bool.and_true, Bool.true_and, Bool.not_false, Bool.not_true, Bool.and_self, Bool.or_true, Bool.false_or, Bool.true_or, zn_ok, zn_ok0, zn_N, zn_add, zn_mul, zn_sub, z_lt_T, z_lt_F, z_le_T, z_le_F, z_eq_T, z_ne_F, z_eq_F, z_ne_T, z_ix_T, z_lt_m, z_le_m, z_lt_m2, z_le_m2, z_eq_m, z_ne_m, zn_div, z_a31, zn_shl, zn_shr, z_bq_T, z_bq_F, z_bl_T, nL_0, nL_1, c9 h1]
  rw [if_neg g1, bI_0 g1]
  by_cases g2 : tH T < 9
  · have : tS T = 0 := by
      by_cases h0 : 0 < tS T
      · have := hw.2.2.2.2.2.1 h0; omega
      · omega
    rw [this, Nat.zero_mul] at hd
    rw [if_pos g2]
    simp (disch := omega) only [z_bV_some, z_bI_some, z_bJ_some, z_bD_some, z_bR_some, cond_true, cond_false, Bool.and_true, Bool.true_and, Bool.not_false, Bool.not_true, Bool.and_self, Bool.or_true, Bool.false_or, Bool.true_or, zn_ok, zn_ok0, zn_N, zn_add, zn_mul, zn_sub, z_lt_T, z_lt_F, z_le_T, z_le_F, z_eq_T, z_ne_F, z_eq_F, z_ne_T, z_ix_T, z_lt_m, z_le_m, z_lt_m2, z_le_m2, z_eq_m, z_ne_m, zn_div, z_a31, zn_shl, zn_shr, z_bq_T, z_bq_F, z_bl_T, nL_0, nL_9, nL_2, c9 h1, k5]
  rw [if_neg g2]
  have h9 : tH T = 9 := by have := hw.2.2.2.1; omega
  have e1 := E_S_numberAt d a 0 1 A c hc3 h1 h2 (by omega)
  have e2 := E_S_numberAt d a 3 2 A c hc3 h1 h2 (by omega)
  have e3 := E_S_numberAt d a 5 4 A c hc3 h1 h2 (by omega)
  have e4 := E_S_elements d a A T hcT (wT_w0 hw)
  have e5 := E_S_sumNow d a A T hcT (wT_w0 hw) (by omega)
  have hy : ∀ i, i < 9 → zI A (zP zQ A a 4) i = tB T i := fun i hi => by rw [hb i (by omega)]; unfold tY; rw [if_pos hi]
  have n1 : nuF (zI A (zP zQ A a 4)) 0 1 = tB T 0 := hy 0 (by omega)
  have n2 : nuF (zI A (zP zQ A a 4)) 3 2 = shF (tB T 3) (tB T 4) := by
    show shF (zI A (zP zQ A a 4) 3) (zI A (zP zQ A a 4) (3 + 0 + 1)) = _
    rw [hy 3 (by omega), hy (3 + 0 + 1) (by omega)]
  have n3 : nuF (zI A (zP zQ A a 4)) 5 4 = suF (tB T) := by
    show shF (shF (shF (zI A (zP zQ A a 4) 5) (zI A (zP zQ A a 4) (5 + 0 + 1))) (zI A (zP zQ A a 4) (5 + 1 + 1))) (zI A (zP zQ A a 4) (5 + 2 + 1)) = _
    rw [hy 5 (by omega), hy (5 + 0 + 1) (by omega), hy (5 + 1 + 1) (by omega), hy (5 + 2 + 1) (by omega)]
    rfl
  rw [n1] at e1
  rw [n2] at e2
  rw [n3] at e3
  by_cases g3 : tB T 0 = zn (tK T)
  · rw [if_neg (fun q => q g3)]
    have hs := hw.2.2.2.2.1
    have ts : (zn (tS T)).toInt = tS T := zn_toInt (by omega)
    have t0 : (zn 0).toInt = 0 := zn_toInt (by omega)
    generalize shF (tB T 3) (tB T 4) = y at *
    by_cases g4 : (tS T : Int) < y.toInt
    · rw [if_pos g4]
      have q : z_le y (zn (tS T)) = false := z_le_ff (by omega)
      simp (disch := omega) only [z_bV_some, z_bI_some, z_bJ_some, z_bD_some, z_bR_some, cond_true, cond_false, Bool.and_true, Bool.true_and, Bool.not_false, Bool.not_true, Bool.and_self, Bool.or_true, Bool.false_or, Bool.true_or, zn_ok, zn_ok0, zn_N, zn_add, zn_mul, zn_sub, z_lt_T, z_lt_F, z_le_T, z_le_F, z_eq_T, z_ne_F, z_eq_F, z_ne_T, z_ix_T, z_lt_m, z_le_m, z_lt_m2, z_le_m2, z_eq_m, z_ne_m, zn_div, z_a31, zn_shl, zn_shr, z_bq_T, z_bq_F, z_bl_T, nL_0, nL_1, nL_9, nL_3, nL_2, nL_7, c9 h1, k5, k0, e1, e2, e4, q, g3]
    rw [if_neg g4]
    have q : z_le y (zn (tS T)) = true := z_le_tt (by omega)
    by_cases g5 : y.toInt < 0
    · rw [if_pos g5]
      have q2 : z_le (zn 0) y = false := z_le_ff (by omega)
      simp (disch := omega) only [z_bV_some, z_bI_some, z_bJ_some, z_bD_some, z_bR_some, cond_true, cond_false, Bool.and_true, Bool.true_and, Bool.not_false, Bool.not_true, Bool.and_self, Bool.or_true, Bool.false_or, Bool.true_or, zn_ok, zn_ok0, zn_N, zn_add, zn_mul, zn_sub, z_lt_T, z_lt_F, z_le_T, z_le_F, z_eq_T, z_ne_F, z_eq_F, z_ne_T, z_ix_T, z_lt_m, z_le_m, z_lt_m2, z_le_m2, z_eq_m, z_ne_m, zn_div, z_a31, zn_shl, zn_shr, z_bq_T, z_bq_F, z_bl_T, nL_0, nL_1, nL_9, nL_3, nL_2, c9 h1, k5, k0, e1, e2, e4, q, q2, g3]
    rw [if_neg g5]
    have q2 : z_le (zn 0) y = true := z_le_tt (by omega)
    by_cases g6 : y.toInt < tS T
    · rw [if_pos g6]
      have q3 : z_le (zn (tS T)) y = false := z_le_ff (by omega)
      simp (disch := omega) only [z_bV_some, z_bI_some, z_bJ_some, z_bD_some, z_bR_some, cond_true, cond_false, Bool.and_true, Bool.true_and, Bool.not_false, Bool.not_true, Bool.and_self, Bool.or_true, Bool.false_or, Bool.true_or, zn_ok, zn_ok0, zn_N, zn_add, zn_mul, zn_sub, z_lt_T, z_lt_F, z_le_T, z_le_F, z_eq_T, z_ne_F, z_eq_F, z_ne_T, z_ix_T, z_lt_m, z_le_m, z_lt_m2, z_le_m2, z_eq_m, z_ne_m, zn_div, z_a31, zn_shl, zn_shr, z_bq_T, z_bq_F, z_bl_T, nL_0, nL_1, nL_9, nL_3, nL_2, nL_8, c9 h1, k5, k0, e1, e2, e4, q, q2, q3, g3]
    rw [if_neg g6]
    have q3 : z_le (zn (tS T)) y = true := z_le_tt (by omega)
    by_cases g7 : suF (tB T) = tM T
    · rw [if_pos g7]
      simp (disch := omega) only [z_bV_some, z_bI_some, z_bJ_some, z_bD_some, z_bR_some, cond_true, cond_false, Bool.and_true, Bool.true_and, Bool.not_false, Bool.not_true, Bool.and_self, Bool.or_true, Bool.false_or, Bool.true_or, zn_ok, zn_ok0, zn_N, zn_add, zn_mul, zn_sub, z_lt_T, z_lt_F, z_le_T, z_le_F, z_eq_T, z_ne_F, z_eq_F, z_ne_T, z_ix_T, z_lt_m, z_le_m, z_lt_m2, z_le_m2, z_eq_m, z_ne_m, zn_div, z_a31, zn_shl, zn_shr, z_bq_T, z_bq_F, z_bl_T, nL_0, nL_1, nL_9, nL_3, nL_2, nL_5, nL_4, c9 h1, k5, k0, e1, e2, e3, e4, e5, q, q2, q3, g3, g7]
    · rw [if_neg g7]
      simp (disch := omega) only [z_bV_some, z_bI_some, z_bJ_some, z_bD_some, z_bR_some, cond_true, cond_false, Bool.and_true, Bool.true_and, Bool.not_false, Bool.not_true, Bool.and_self, Bool.or_true, Bool.false_or, Bool.true_or, zn_ok, zn_ok0, zn_N, zn_add, zn_mul, zn_sub, z_lt_T, z_lt_F, z_le_T, z_le_F, z_eq_T, z_ne_F, z_eq_F, z_ne_T, z_ix_T, z_lt_m, z_le_m, z_lt_m2, z_le_m2, z_eq_m, z_ne_m, zn_div, z_a31, zn_shl, zn_shr, z_bq_T, z_bq_F, z_bl_T, nL_0, nL_1, nL_9, nL_3, nL_2, nL_5, nL_4, c9 h1, k5, k0, e1, e2, e3, e4, e5, q, q2, q3, g3, z_ne_N g7]
  · rw [if_pos g3]
    simp (disch := omega) only [z_bV_some, z_bI_some, z_bJ_some, z_bD_some, z_bR_some, cond_true, cond_false, Bool.and_true, Bool.true_and, Bool.not_false, Bool.not_true, Bool.and_self, Bool.or_true, Bool.false_or, Bool.true_or, zn_ok, zn_ok0, zn_N, zn_add, zn_mul, zn_sub, z_lt_T, z_lt_F, z_le_T, z_le_F, z_eq_T, z_ne_F, z_eq_F, z_ne_T, z_ix_T, z_lt_m, z_le_m, z_lt_m2, z_le_m2, z_eq_m, z_ne_m, zn_div, z_a31, zn_shl, zn_shr, z_bq_T, z_bq_F, z_bl_T, nL_0, nL_1, nL_9, nL_5, c9 h1, k5, k0, e1, z_eq_N g3]
/-- lost -/
def dropT (T : zT) : zT := (tK T, tN T, tU T, true, 0, 0, tB T, tE T)
theorem wT_drop {T : zT} (h : wT T) : wT (dropT T) := by
  obtain ⟨w1, w2, w3, w4, w5, w6, w7, w8, w9⟩ := h
  exact ⟨w1, w2, w3, Nat.zero_le _, Nat.zero_le _, fun h => absurd h (Nat.lt_irrefl 0), fun _ => rfl, w8, w9⟩
theorem tZ_drop (T : zT) : tZ (dropT T) = 0 := by show 0 + 0 * _ = 0; rw [Nat.zero_mul]
theorem E_S_dropAll (d a : Nat) (A : zM) (T : zT) (h : cT A a T) : ∃ A', z_den zQ (d + 1) mS_dropAll [.ref a] A = some (none, A') ∧ cT A' a (dropT T) ∧ zFr 0 0 (xS a (zP zQ A a 4)) A A' ∧ zP zQ A' a 4 = zP zQ A a 4 := by
  obtain ⟨h1, k0, k1, k2, k3, k5, k6, ⟨c, h2, hc1, hc2, hc3⟩, hb⟩ := h
  refine ⟨z_wI (z_wI A a 6 (zn 1)) a 5 (zn 0), ?_, ⟨h1, ?_, ?_, ?_, ?_, ?_, ?_, ⟨c, h2, ?_, hc2, hc3⟩, fun i hi => ?_⟩, ?_, ?_⟩
  · rw [B_S_dropAll]
    simp (disch := omega) only [z_bV_some, z_bI_some, z_bJ_some, z_bD_some, z_bR_some, cond_true, cond_false, Bool.and_true, Bool.true_and, Bool.not_false, Bool.not_true, Bool.and_self, Bool.or_true, Bool.false_or, Bool.true_or, zI_put_a, zP_put, zD_put, z_hd_put, z_cls_put, z_ia_put, z_ln_put, z_new_put, zI_wI_s, zI_wP, zI_wD, zD_wI, zD_wP, zD_wD_s, zP_wI, zP_wD, z_hd_wI, z_hd_wP, z_hd_wD, z_hd_cpy, z_cls_wI, z_cls_wP, z_cls_wD, z_cls_cpy, z_ia_wI, z_ia_wP, z_ia_wD, z_ia_cpy, z_ln_wI, z_ln_wP, z_ln_wD, z_ln_cpy, z_new_wI, z_new_wP, z_new_wD, z_new_cpy, z_new_nw, zP_cpy, zI_uI_s, zP_uI, zD_uI, z_hd_uI, z_cls_uI, z_ia_uI, z_ln_uI, z_new_uI, zI_wI_a, zI_wI_k, zI_uI_a, zI_cpy_a, zP_wP_s, zP_wP_a, zP_wP_k, nL_0, nL_1, c9 h1]
  · rw [zI_wI_k (by omega), zI_wI_k (by omega)]; exact k0
  · rw [zI_wI_k (by omega), zI_wI_k (by omega)]; exact k1
  · rw [zI_wI_k (by omega), zI_wI_k (by omega)]; exact k2
  · rw [zI_wI_k (by omega), zI_wI_k (by omega)]; exact k3
  · rw [zI_wI_s, tZ_drop]
  · rw [zI_wI_k (by omega), zI_wI_s]; rfl
  · rw [tZ_drop]; omega
  · rw [tZ_drop] at hi; omega
  · exact zFr_trans (zFr_wI (Or.inr ⟨rfl, by omega⟩)) (zFr_wI (X := xS a (zP zQ A a 4)) (Or.inr ⟨rfl, by omega⟩)) (fun _ _ _ h => h)
  · rw [zP_wI, zP_wI]
/-- torn -/
def tearT (T : zT) (n : Nat) : zT := (tK T, tN T, tU T, tL T, (if n < tH T then n else tH T), (if tS T < (if n < 9 then 0 else (n - 9) / tW T) then tS T else (if n < 9 then 0 else (n - 9) / tW T)), tB T, tE T)
theorem tH_tear (T : zT) (n : Nat) : tH (tearT T n) = if n < tH T then n else tH T := rfl
theorem tS_tear (T : zT) (n : Nat) : tS (tearT T n) = if tS T < (if n < 9 then 0 else (n - 9) / tW T) then tS T else (if n < 9 then 0 else (n - 9) / tW T) := rfl
theorem tZ_tear {T : zT} (h : w0 T) (n : Nat) : tZ (tearT T n) = if tZ T ≤ n then tZ T else if n ≤ 9 then n else 9 + (n - 9) / tW T * tW T := by
  have hp := wT_pos T
  have hd : tZ T = tH T + tS T * tW T := rfl
  obtain ⟨w4, w5, w6⟩ := h
  show tH (tearT T n) + tS (tearT T n) * tW T = _
  rw [tH_tear, tS_tear]
  have hm := mul_pos_le (a := tS T) hp
  by_cases h0 : 0 < tS T
  · have h9 := w6 h0
    by_cases g : tZ T ≤ n
    · rw [if_pos g, if_neg (by omega), if_neg (show ¬ n < 9 by omega)]
      have hq : tS T ≤ (n - 9) / tW T := (Nat.le_div_iff_mul_le hp).mpr (by omega)
      by_cases g2 : tS T < (n - 9) / tW T
      · rw [if_pos g2]; omega
      · rw [if_neg g2, show (n - 9) / tW T = tS T by omega]; omega
    · rw [if_neg g]
      by_cases g3 : n < 9
      · rw [if_pos g3, if_pos (by omega), if_neg (by omega), if_pos (by omega), Nat.zero_mul]; omega
      · rw [if_neg g3, if_neg (by omega)]
        have hq : (n - 9) / tW T < tS T := (Nat.div_lt_iff_lt_mul hp).mpr (by omega)
        rw [if_neg (by omega)]
        by_cases g4 : n ≤ 9
        · rw [if_pos g4, show n - 9 = 0 by omega, Nat.zero_div, Nat.zero_mul]; omega
        · rw [if_neg g4]; omega
  · have hs : tS T = 0 := by omega
    rw [hs] at hd ⊢
    rw [Nat.zero_mul] at hd
    have hz : (if 0 < (if n < 9 then 0 else (n - 9) / tW T) then 0 else (if n < 9 then 0 else (n - 9) / tW T)) = 0 := by
      by_cases q : 0 < (if n < 9 then 0 else (n - 9) / tW T)
      · rw [if_pos q]
      · rw [if_neg q]; omega
    rw [hz, Nat.zero_mul]
    by_cases g : tZ T ≤ n
    · rw [if_pos g, if_neg (by omega)]; omega
    · rw [if_neg g, if_pos (by omega), if_pos (by omega)]; omega
theorem wT_tear {T : zT} (h : wT T) (n : Nat) : wT (tearT T n) := by
  obtain ⟨w1, w2, w3, w4, w5, w6, w7, w8, w9⟩ := h
  refine ⟨w1, w2, w3, ?_, ?_, ?_, ?_, w8, w9⟩
  · rw [tH_tear]; split <;> omega
  · rw [tS_tear]
    generalize (if n < 9 then 0 else (n - 9) / tW T) = q
    split <;> omega
  · rw [tS_tear, tH_tear]
    by_cases g : n < 9
    · rw [if_pos g]
      intro hh
      split at hh <;> omega
    · rw [if_neg g]
      intro hh
      have : 0 < tS T := by
        by_cases h0 : 0 < tS T
        · exact h0
        · split at hh <;> omega
      have := w6 this
      rw [if_neg (by omega)]; exact this
  · intro hl
    have := w7 hl
    rw [tH_tear, if_neg (by omega)]; exact this
theorem tY_tear (T : zT) (n i : Nat) : tY (tearT T n) i = tY T i := rfl
theorem E_S_keepFirst (d a n : Nat) (A : zM) (T : zT) (h : cT A a T) (hw : wT T) (hn : n < 2147483648) : ∃ A', z_den zQ (d + 1) mS_keepFirst [.ref a, .int (zn n)] A = some (none, A') ∧ cT A' a (tearT T n) ∧ zFr 0 0 (xS a (zP zQ A a 4)) A A' ∧ zP zQ A' a 4 = zP zQ A a 4 := by
  have hz := tZ_le hw
  have hcT := h
  obtain ⟨h1, k0, k1, k2, k3, k5, k6, ⟨c, h2, hc1, hc2, hc3⟩, hb⟩ := h
  have hZ := tZ_tear (wT_w0 hw) n
  have hwb := wbF_lt (tK T)
  have hab : a ≠ zP zQ A a 4 := fun e => by rw [← e, h1] at h2; cases h2
  have hdm := Nat.div_mul_le_self (n - 9) (tW T)
  have hle : tZ (tearT T n) ≤ tZ T := by
    rw [hZ]
    split
    · omega
    · split <;> omega
  by_cases g : tZ T ≤ n
  · rw [if_pos g] at hZ
    refine ⟨A, ?_, cT_congr hcT rfl rfl rfl rfl hZ (fun i _ => tY_tear T n i), zFr_refl _ _, rfl⟩
    rw [B_S_keepFirst, k5]
    simp (disch := omega) only [z_bV_some, z_bI_some, z_bJ_some, z_bD_some, z_bR_some, cond_true, cond_false, Bool.and_true, Bool.true_and, Bool.not_false, Bool.not_true, Bool.and_self, Bool.or_true, Bool.false_or, Bool.true_or, zn_ok, zn_ok0, zn_N, zn_add, zn_mul, zn_sub, z_lt_T, z_lt_F, z_le_T, z_le_F, z_eq_T, z_ne_F, z_eq_F, z_ne_T, z_ix_T, z_lt_m, z_le_m, z_lt_m2, z_le_m2, z_eq_m, z_ne_m, zn_div, z_a31, zn_shl, zn_shr, z_bq_T, z_bq_F, z_bl_T, c9 h1]
  · rw [if_neg g] at hZ
    refine ⟨z_wI A a 5 (zn (tZ (tearT T n))), ?_, ⟨h1, ?_, ?_, ?_, ?_, ?_, ?_, ⟨c, h2, by omega, hc2, hc3⟩, fun i hi => ?_⟩, zFr_wI (Or.inr ⟨rfl, by omega⟩), by rw [zP_wI]⟩
    · rw [B_S_keepFirst, k5, k3, hZ]
      by_cases g2 : n ≤ 9
      · rw [if_pos g2]
        simp (disch := omega) only [z_bV_some, z_bI_some, z_bJ_some, z_bD_some, z_bR_some, cond_true, cond_false, Bool.and_true, Bool.true_and, Bool.not_false, Bool.not_true, Bool.and_self, Bool.or_true, Bool.false_or, Bool.true_or, zn_ok, zn_ok0, zn_N, zn_add, zn_mul, zn_sub, z_lt_T, z_lt_F, z_le_T, z_le_F, z_eq_T, z_ne_F, z_eq_F, z_ne_T, z_ix_T, z_lt_m, z_le_m, z_lt_m2, z_le_m2, z_eq_m, z_ne_m, zn_div, z_a31, zn_shl, zn_shr, z_bq_T, z_bq_F, z_bl_T, nL_9, c9 h1]
      · rw [if_neg g2]
        have e1 : (n - 9) / 2 ^ wbF (tK T) * 2 ^ wbF (tK T) = (n - 9) / tW T * tW T := by rw [wF_pow]; rfl
        simp (disch := omega) only [z_bV_some, z_bI_some, z_bJ_some, z_bD_some, z_bR_some, cond_true, cond_false, Bool.and_true, Bool.true_and, Bool.not_false, Bool.not_true, Bool.and_self, Bool.or_true, Bool.false_or, Bool.true_or, zn_ok, zn_ok0, zn_N, zn_add, zn_mul, zn_sub, z_lt_T, z_lt_F, z_le_T, z_le_F, z_eq_T, z_ne_F, z_eq_F, z_ne_T, z_ix_T, z_lt_m, z_le_m, z_lt_m2, z_le_m2, z_eq_m, z_ne_m, zn_div, z_a31, zn_shl, zn_shr, z_bq_T, z_bq_F, z_bl_T, nL_9, nL_31, c9 h1, e1]
    · rw [zI_wI_k (by omega)]; exact k0
    · rw [zI_wI_k (by omega)]; exact k1
    · rw [zI_wI_k (by omega)]; exact k2
    · rw [zI_wI_k (by omega)]; exact k3
    · rw [zI_wI_s]
    · rw [zI_wI_k (by omega)]; exact k6
    · rw [zP_wI, zI_wI_a (fun e => hab e.symm), tY_tear]
      exact hb i (by omega)
/-- a span of a row -/
def spB (S : Nat) (f n : Int32) : Bool := decide (0 ≤ n.toInt ∧ 0 ≤ f.toInt ∧ f.toInt ≤ S - n.toInt)
theorem E_S_hasSpan (d a : Nat) (f n : Int32) (A : zM) (T : zT) (h : cT A a T) (hw : wT T) : z_den zQ (d + 2) mS_hasSpan [.ref a, .int f, .int n] A = some (some (.int (bI (spB (tS T) f n))), A) := by
  have e4 := E_S_elements d a A T h (wT_w0 hw)
  have hs := hw.2.2.2.2.1
  have ts : (zn (tS T)).toInt = tS T := zn_toInt (by omega)
  have t0 : (zn 0).toInt = 0 := zn_toInt (by omega)
  have bn := tI_bd n
  have bf := tI_bd f
  rw [B_S_hasSpan, nL_0, nL_1]
  unfold spB
  by_cases g1 : n.toInt < 0
  · rw [z_lt_tt (by omega), bI_0 (by rw [decide_eq_true_iff]; omega)]; rfl
  rw [z_lt_ff (by omega)]
  by_cases g2 : f.toInt < 0
  · rw [z_lt_tt (by omega), bI_0 (by rw [decide_eq_true_iff]; omega)]; rfl
  rw [z_lt_ff (by omega)]
  have td : (zn (tS T) - n).toInt = tS T - n.toInt := by rw [tI_sub (by omega) (by omega), ts]
  simp only [z_bV_some, z_bI_some, z_bJ_some, z_bD_some, z_bR_some, cond_true, cond_false, Bool.and_true, Bool.true_and, Bool.not_false, Bool.not_true, Bool.and_self, Bool.or_true, Bool.false_or, Bool.true_or, c9 h.1, e4]
  by_cases g3 : f.toInt ≤ tS T - n.toInt
  · rw [z_lt_ff (by omega), bI_1 (by rw [decide_eq_true_iff]; omega)]; rfl
  · rw [z_lt_tt (by omega), bI_0 (by rw [decide_eq_true_iff]; omega)]; rfl
