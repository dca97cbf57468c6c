/-! S LEVEL, the class: what a strip's methods do to what it holds. -/
theorem wT_W {T : zT} (h : wT T) : tS T * tW T ≤ 1024 := by
  have := tZ_le h
  unfold tZ at this
  by_cases h0 : 0 < tS T
  · have := h.2.2.2.2.2.1 h0; omega
  · have : tS T = 0 := by omega
    rw [this]; omega
theorem wT_pos (T : zT) : 0 < tW T := by unfold tW; have := wF_c (tK T); omega
theorem mul_pos_le {a b : Nat} (h : 0 < b) : a ≤ a * b := Nat.le_mul_of_pos_right a h
def w0 (T : zT) : Prop := tH T ≤ 9 ∧ tS T ≤ 256 ∧ (0 < tS T → tH T = 9)
theorem wT_w0 {T : zT} (h : wT T) : w0 T := ⟨h.2.2.2.1, h.2.2.2.2.1, h.2.2.2.2.2.1⟩
theorem w0_le {T : zT} (h : w0 T) : tZ T ≤ 1033 := by
  obtain ⟨h4, h5, -⟩ := h
  unfold tZ tW
  have := wF_c (tK T)
  have : tS T * wF (tK T) ≤ 256 * 4 := Nat.mul_le_mul h5 (by omega)
  omega
theorem E_S_elements (d a : Nat) (A : zM) (T : zT) (h : cT A a T) (hw : w0 T) : z_den zQ (d + 1) mS_elements [.ref a] A = some (some (.int (zn (tS T))), A) := by
  obtain ⟨h1, k0, k1, k2, k3, k5, k6, ⟨c, h2, hc1, hc2, hc3⟩, hb⟩ := h
  have hz := w0_le hw
  have hp := mul_pos_le (a := tS T) (wT_pos T)
  obtain ⟨w4, w5, w6⟩ := hw
  have hd : tZ T = tH T + tS T * tW T := rfl
  have hwb := wbF_lt (tK T)
  rw [B_S_elements, k5, k3]
  by_cases h0 : tZ T ≤ 9
  · have hs : tS T = 0 := by
      by_cases hq : 0 < tS T
      · have := w6 hq; omega
      · omega
    simp (disch := omega) only [z_bV_some, z_bI_some, z_bJ_some, z_bD_some, z_bR_some, cond_true, cond_false, Bool.and_true, Bool.true_and, Bool.not_false, Bool.not_true, Bool.and_self, Bool.or_true, Bool.false_or, Bool.true_or, zn_ok, zn_ok0, zn_N, zn_add, zn_mul, zn_sub, z_lt_T, z_lt_F, z_le_T, z_le_F, z_eq_T, z_ne_F, z_eq_F, z_ne_T, z_ix_T, z_lt_m, z_le_m, z_lt_m2, z_le_m2, z_eq_m, z_ne_m, zn_div, z_a31, zn_shl, zn_shr, z_bq_T, z_bq_F, z_bl_T, nL_9, nL_0, c9 h1, hs]
  · have hq : 0 < tS T := by
      by_cases hq : 0 < tS T
      · exact hq
      · have : tS T = 0 := by omega
        rw [this, Nat.zero_mul] at hd; omega
    have h9 := w6 hq
    have e : (tZ T - 9) / 2 ^ wbF (tK T) = tS T := by
      rw [wF_pow, hd, h9, Nat.add_sub_cancel_left]
      exact Nat.mul_div_cancel _ (wT_pos T)
    simp (disch := omega) only [z_bV_some, z_bI_some, z_bJ_some, z_bD_some, z_bR_some, cond_true, cond_false, Bool.and_true, Bool.true_and, Bool.not_false, Bool.not_true, Bool.and_self, Bool.or_true, Bool.false_or, Bool.true_or, zn_ok, zn_ok0, zn_N, zn_add, zn_mul, zn_sub, z_lt_T, z_lt_F, z_le_T, z_le_F, z_eq_T, z_ne_F, z_eq_F, z_ne_T, z_ix_T, z_lt_m, z_le_m, z_lt_m2, z_le_m2, z_eq_m, z_ne_m, zn_div, z_a31, zn_shl, zn_shr, z_bq_T, z_bq_F, z_bl_T, nL_9, nL_31, c9 h1, e]
theorem nuF_congr {f g : Nat → Int32} {fr : Nat} : ∀ n, (∀ i, fr ≤ i → i < fr + n → f i = g i) → nuF f fr n = nuF g fr n
  | 0, _ => rfl
  | 1, h => h fr (by omega) (by omega)
  | n + 2, h => by
    unfold nuF
    rw [nuF_congr (n + 1) (fun i h1 h2 => h i h1 (by omega)), h (fr + n + 1) (by omega) (by omega)]
/-- a byte of an element -/
theorem tY_el {T : zT} {k j : Nat} (hj : j < tW T) : tY T (9 + k * tW T + j) = ebF (tE T k) (tW T - 1 - j) := by
  have hp := wT_pos T
  unfold tY
  have e1 : (9 + k * tW T + j - 9) / tW T = k := by
    rw [show 9 + k * tW T + j - 9 = j + tW T * k by rw [Nat.mul_comm]; omega, Nat.add_mul_div_left _ _ hp, Nat.div_eq_of_lt hj, Nat.zero_add]
  have e2 : (9 + k * tW T + j - 9) % tW T = j := by
    rw [show 9 + k * tW T + j - 9 = j + tW T * k by rw [Nat.mul_comm]; omega, Nat.add_mul_mod_self_left, Nat.mod_eq_of_lt hj]
  rw [if_neg (by omega), e1, e2]
theorem tK_c {T : zT} (h : wT T) : tK T = 0 ∨ tK T = 1 ∨ tK T = 2 ∨ tK T = 3 := by have := h.1; omega
theorem nu_el {T : zT} (hw : wT T) {k : Nat} (hk : k < 256) : (if tK T = 2 then nuF (tY T) (9 + k * tW T) (tW T) &&& zn 65535 else nuF (tY T) (9 + k * tW T) (tW T)) = tE T k := by
  have hy : ∀ j, j < tW T → tY T (9 + k * tW T + j) = ebF (tE T k) (tW T - 1 - j) := fun j hj => tY_el hj
  have hl := hw.2.2.2.2.2.2.2.2 k hk
  have hbd := tI_bd (tE T k)
  generalize tE T k = e at *
  rcases tK_c hw with h | h | h | h
  · have hW : tW T = 1 := by unfold tW wF; rw [h]; rfl
    rw [if_neg (by omega)]
    rw [hW] at hy ⊢
    have := hy 0 (by omega)
    show tY T (9 + k * 1) = e
    rw [show 9 + k * 1 = 9 + k * 1 + 0 by omega, this]
    rw [h] at hl
    exact hl
  · have hW : tW T = 2 := by unfold tW wF; rw [h]; rfl
    rw [if_neg (by omega)]
    rw [hW] at hy ⊢
    have y0 := hy 0 (by omega)
    have y1 := hy 1 (by omega)
    show shF (tY T (9 + k * 2)) (tY T (9 + k * 2 + 0 + 1)) = e
    rw [show 9 + k * 2 = 9 + k * 2 + 0 by omega, y0, show 9 + k * 2 + 0 + 0 + 1 = 9 + k * 2 + 1 by omega, y1]
    rw [h] at hl
    have hl2 := congrArg Int32.toInt hl
    have hl3 : (Int32.toInt16 e).toInt32.toInt = e.toInt := hl2
    rw [tI_b16] at hl3
    apply tI_eq
    rw [shF_toInt (isB_eb _ (by omega)), tI_eb0, tI_eb1]
    omega
  · have hW : tW T = 2 := by unfold tW wF; rw [h]; rfl
    rw [if_pos h]
    rw [hW] at hy ⊢
    have y0 := hy 0 (by omega)
    have y1 := hy 1 (by omega)
    show shF (tY T (9 + k * 2)) (tY T (9 + k * 2 + 0 + 1)) &&& zn 65535 = e
    rw [show 9 + k * 2 = 9 + k * 2 + 0 by omega, y0, show 9 + k * 2 + 0 + 0 + 1 = 9 + k * 2 + 1 by omega, y1]
    rw [h] at hl
    have hl3 : (e &&& zn 65535).toInt = e.toInt := congrArg Int32.toInt hl
    rw [tI_65535] at hl3
    apply tI_eq
    rw [tI_65535, shF_toInt (isB_eb _ (by omega)), tI_eb0, tI_eb1]
    omega
  · have hW : tW T = 4 := by unfold tW wF; rw [h]; rfl
    rw [if_neg (by omega)]
    rw [hW] at hy ⊢
    have y0 := hy 0 (by omega)
    have y1 := hy 1 (by omega)
    have y2 := hy 2 (by omega)
    have y3 := hy 3 (by omega)
    show shF (shF (shF (tY T (9 + k * 4)) (tY T (9 + k * 4 + 0 + 1))) (tY T (9 + k * 4 + 1 + 1))) (tY T (9 + k * 4 + 2 + 1)) = e
    rw [show 9 + k * 4 = 9 + k * 4 + 0 by omega, y0, show 9 + k * 4 + 0 + 0 + 1 = 9 + k * 4 + 1 by omega, y1, show 9 + k * 4 + 0 + 1 + 1 = 9 + k * 4 + 2 by omega, y2, show 9 + k * 4 + 0 + 2 + 1 = 9 + k * 4 + 3 by omega, y3]
    apply tI_eq
    have e3 := tI_eb3 e
    have e2 := tI_eb2 e
    have e1 := tI_eb1 e
    have e0 := tI_eb0 e
    have s1 := shF_toInt (a := ebF e 3) (b := ebF e 2) (isB_eb _ (by omega))
    have s2 : (shF (shF (ebF e 3) (ebF e 2)) (ebF e 1)).toInt = (shF (ebF e 3) (ebF e 2)).toInt * 256 + (ebF e 1).toInt % 256 := tI_sh8 (by omega) (by omega)
    have s3 : (shF (shF (shF (ebF e 3) (ebF e 2)) (ebF e 1)) (ebF e 0)).toInt = (shF (shF (ebF e 3) (ebF e 2)) (ebF e 1)).toInt * 256 + (ebF e 0).toInt % 256 := tI_sh8 (by omega) (by omega)
    show (shF (shF (shF (ebF e 3) (ebF e 2)) (ebF e 1)) (ebF e 0)).toInt = e.toInt
    omega
theorem E_S_elementAt (d a k : Nat) (A : zM) (T : zT) (h : cT A a T) (hw : wT T) (hk : k < tS T) : z_den zQ (d + 2) mS_elementAt [.ref a, .int (zn k)] A = some (some (.int (tE T k)), A) := by
  have hz := tZ_le hw
  have hWW := wT_W hw
  have hel := nu_el hw (k := k) (by have := hw.2.2.2.2.1; omega)
  obtain ⟨h1, k0, k1, k2, k3, k5, k6, ⟨c, h2, hc1, hc2, hc3⟩, hb⟩ := h
  have h9 := hw.2.2.2.2.2.1 (by omega)
  have hd : tZ T = tH T + tS T * tW T := rfl
  have hk2 : (k + 1) * tW T ≤ tS T * tW T := Nat.mul_le_mul_right _ hk
  rw [Nat.succ_mul] at hk2
  have hwb := wbF_lt (tK T)
  have hn := E_S_numberAt d a (9 + k * tW T) (tW T) A c hc3 h1 h2 (by omega)
  have hcg : nuF (zI A (zP zQ A a 4)) (9 + k * tW T) (tW T) = nuF (tY T) (9 + k * tW T) (tW T) := nuF_congr _ (fun i i1 i2 => hb i (by omega))
  rw [hcg] at hn
  have e1 : k * 2 ^ wbF (tK T) = k * tW T := by rw [wF_pow]; rfl
  have e2 : 1 * 2 ^ wbF (tK T) = tW T := by rw [wF_pow, Nat.one_mul]; rfl
  rw [B_S_elementAt, k3]
  simp (disch := omega) only [z_bV_some, z_bI_some, z_bJ_some, z_bD_some, z_bR_some, cond_true, cond_false, Bool.and_true, Bool.true_and, Bool.not_false, Bool.not_true, Bool.and_self, Bool.or_true, Bool.false_or, Bool.true_or, zn_ok, zn_ok0, zn_N, zn_add, zn_mul, zn_sub, z_lt_T, z_lt_F, z_le_T, z_le_F, z_eq_T, z_ne_F, z_eq_F, z_ne_T, z_ix_T, z_lt_m, z_le_m, z_lt_m2, z_le_m2, z_eq_m, z_ne_m, zn_div, z_a31, zn_shl, zn_shr, z_bq_T, z_bq_F, z_bl_T, nL_9, nL_31, nL_1, c9 h1, e1, e2, hn, k0]
  by_cases hk2 : tK T = 2
  · rw [if_pos hk2] at hel
    rw [hk2, nL_2, z_ne_F, nL_65535, hel]; rfl
  · rw [if_neg hk2] at hel
    have := hw.1
    rw [nL_2, z_ne_T hk2 (by omega) (by omega), hel]; rfl
/-- bytes of a strip written anew -/
theorem cT_put {A : zM} {a : Nat} {T T' : zT} {lo n : Nat} {g : Nat → Int32} (h : cT A a T) (e1 : tK T' = tK T) (e2 : tN T' = tN T) (e3 : tU T' = tU T) (e4 : tL T' = tL T) (e5 : tZ T' = tZ T) (hy : ∀ i, i < tZ T → tY T' i = if lo ≤ i ∧ i < lo + n then g i else tY T i) : cT (z_put A (zP zQ A a 4) lo n g) a T' := by
  obtain ⟨h1, k0, k1, k2, k3, k5, k6, ⟨c, h2, hc1, hc2, hc3⟩, hb⟩ := h
  have hab : a ≠ zP zQ A a 4 := fun e => by rw [← e, h1] at h2; cases h2
  unfold cT
  rw [e1, e2, e3, e4, e5]
  refine ⟨h1, ?_, ?_, ?_, ?_, ?_, ?_, ⟨c, h2, hc1, hc2, hc3⟩, fun i hi => ?_⟩
  · rw [zI_put_a hab]; exact k0
  · rw [zI_put_a hab]; exact k1
  · rw [zI_put_a hab]; exact k2
  · rw [zI_put_a hab]; exact k3
  · rw [zI_put_a hab]; exact k5
  · rw [zI_put_a hab]; exact k6
  · rw [zP_put, zI_put_s, hy i hi, hb i hi]
noncomputable def setE (T : zT) (k : Nat) (v : Int32) : zT := (tK T, tN T, tU T, tL T, tH T, tS T, tB T, fun j => if j = k then v else tE T j)
theorem eb_lo (k : Nat) (v : Int32) {j : Nat} (hj : j < wF k) : ebF (loF k v) j = ebF v j := by
  unfold loF
  by_cases h0 : k = 0
  · rw [if_pos h0]
    have : j = 0 := by rw [h0] at hj; have : wF 0 = 1 := rfl; omega
    rw [this]
    exact eb_eb v (by omega)
  · rw [if_neg h0]
    by_cases h1 : k = 1
    · rw [if_pos h1]
      have : j = 0 ∨ j = 1 := by rw [h1] at hj; have : wF 1 = 2 := rfl; omega
      apply tI_eq
      rcases this with rfl | rfl
      · rw [tI_eb0, tI_eb0, tI_b16]; omega
      · rw [tI_eb1, tI_eb1, tI_b16]; omega
    · rw [if_neg h1]
      by_cases h2 : k = 2
      · rw [if_pos h2]
        have : j = 0 ∨ j = 1 := by rw [h2] at hj; have : wF 2 = 2 := rfl; omega
        apply tI_eq
        rcases this with rfl | rfl
        · rw [tI_eb0, tI_eb0, tI_65535]; omega
        · rw [tI_eb1, tI_eb1, tI_65535]; omega
      · rw [if_neg h2]
theorem lo_lo (k : Nat) (v : Int32) : loF k (loF k v) = loF k v := by
  unfold loF
  by_cases h0 : k = 0
  · rw [if_pos h0, if_pos h0]; exact eb_eb v (by omega)
  · rw [if_neg h0, if_neg h0]
    by_cases h1 : k = 1
    · rw [if_pos h1, if_pos h1]
      apply tI_eq
      rw [tI_b16, tI_b16]; omega
    · rw [if_neg h1, if_neg h1]
      by_cases h2 : k = 2
      · rw [if_pos h2, if_pos h2]
        apply tI_eq
        rw [tI_65535, tI_65535]; omega
      · rw [if_neg h2, if_neg h2]
theorem wT_setE {T : zT} (hw : wT T) (k : Nat) (v : Int32) : wT (setE T k (loF (tK T) v)) := by
  obtain ⟨w1, w2, w3, w4, w5, w6, w7, w8, w9⟩ := hw
  refine ⟨w1, w2, w3, w4, w5, w6, w7, w8, fun j hj => ?_⟩
  show loF (tK T) (if j = k then _ else _) = (if j = k then _ else _)
  by_cases e : j = k
  · rw [if_pos e, lo_lo]
  · rw [if_neg e]; exact w9 j hj
theorem tY_setE (T : zT) (k : Nat) (v : Int32) (i : Nat) : tY (setE T k (loF (tK T) v)) i = if 9 + k * tW T ≤ i ∧ i < 9 + k * tW T + tW T then ebF v (9 + k * tW T + tW T - 1 - i) else tY T i := by
  have hp := wT_pos T
  have hW : tW (setE T k (loF (tK T) v)) = tW T := rfl
  by_cases h9 : i < 9
  · have : tY (setE T k (loF (tK T) v)) i = tY T i := by unfold tY; rw [if_pos h9, if_pos h9]; rfl
    rw [this, if_neg (by omega)]
  · obtain ⟨q, j, hj, rfl⟩ : ∃ q j, j < tW T ∧ i = 9 + q * tW T + j := ⟨(i - 9) / tW T, (i - 9) % tW T, Nat.mod_lt _ hp, by have := Nat.div_add_mod (i - 9) (tW T); rw [Nat.mul_comm] at this; omega⟩
    rw [tY_el (T := T) hj]
    have := tY_el (T := setE T k (loF (tK T) v)) (k := q) (j := j) hj
    rw [hW] at this
    rw [this]
    show ebF (if q = k then _ else _) _ = _
    by_cases e : q = k
    · rw [if_pos e, e, if_pos (by omega), eb_lo _ _ (by show tW T - 1 - j < tW T; omega)]
      congr 1
      omega
    · rw [if_neg e, if_neg]
      intro ⟨x1, x2⟩
      apply e
      have a1 : q * tW T + j < (k + 1) * tW T := by rw [Nat.succ_mul]; omega
      have a2 : k * tW T < (q + 1) * tW T := by rw [Nat.succ_mul]; omega
      have b1 : q < k + 1 := Nat.lt_of_mul_lt_mul_right (a := tW T) (by omega)
      have b2 : k < q + 1 := Nat.lt_of_mul_lt_mul_right (a := tW T) a2
      omega
theorem E_S_putElement (d a k : Nat) (v : Int32) (A : zM) (T : zT) (h : cT A a T) (hw : wT T) (hk : k < tS T) : ∃ g, z_den zQ (d + 2) mS_putElement [.ref a, .int (zn k), .int v] A = some (none, z_put A (zP zQ A a 4) (9 + k * tW T) (tW T) g) ∧ cT (z_put A (zP zQ A a 4) (9 + k * tW T) (tW T) g) a (setE T k (loF (tK T) v)) := by
  have hz := tZ_le hw
  have hWW := wT_W hw
  have hcT := h
  obtain ⟨h1, k0, k1, k2, k3, k5, k6, ⟨c, h2, hc1, hc2, hc3⟩, hb⟩ := h
  have h9 := hw.2.2.2.2.2.1 (by omega)
  have hd : tZ T = tH T + tS T * tW T := rfl
  have hk2 : (k + 1) * tW T ≤ tS T * tW T := Nat.mul_le_mul_right _ hk
  rw [Nat.succ_mul] at hk2
  have hwb := wbF_lt (tK T)
  have hw4 : tW T ≤ 4 := by unfold tW; have := wF_c (tK T); omega
  have e1 : k * 2 ^ wbF (tK T) = k * tW T := by rw [wF_pow]; rfl
  have e2 : 1 * 2 ^ wbF (tK T) = tW T := by rw [wF_pow, Nat.one_mul]; rfl
  have hn := E_S_writeNumber d a (9 + k * tW T) (tW T) v A c hc3 hw4 h1 h2 (by omega)
  refine ⟨_, ?_, cT_put hcT rfl rfl rfl rfl rfl (fun i hi => tY_setE T k v i)⟩
  rw [B_S_putElement, k3]
  simp (disch := omega) only [z_bV_some, z_bI_some, z_bJ_some, z_bD_some, z_bR_some, cond_true, cond_false, Bool.and_true, Bool.true_and, Bool.not_false, Bool.not_true, Bool.and_self, Bool.or_true, Bool.false_or, Bool.true_or, zn_ok, zn_ok0, zn_N, zn_add, zn_mul, zn_sub, z_lt_T, z_lt_F, z_le_T, z_le_F, z_eq_T, z_ne_F, z_eq_F, z_ne_T, z_ix_T, z_lt_m, z_le_m, z_lt_m2, z_le_m2, z_eq_m, z_ne_m, zn_div, z_a31, zn_shl, zn_shr, z_bq_T, z_bq_F, z_bl_T, nL_9, nL_31, nL_1, c9 h1, e1, e2, hn]
