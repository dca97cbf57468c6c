/-! S LEVEL, the class: copies among strips. -/
def sc56 (A : zM) : Prop := ∃ L, z_hd zQ A 56 = some (20, L)
theorem sc_ne {A : zM} (h : sc56 A) {b : Nat} {g : Nat × Nat} (e : z_hd zQ A b = some g) (hg : g.1 ≠ 20) : b ≠ 56 := by
  obtain ⟨L, h⟩ := h
  rintro rfl
  rw [h] at e
  cases e
  exact hg rfl
theorem sc_fr {c s : Nat} {X : Nat → Nat → Prop} {A A' : zM} (hf : zFr c s X A A') (h : sc56 A) : sc56 A' := by
  obtain ⟨L, h⟩ := h
  exact ⟨L, zFr_hd hf h⟩
theorem z_fits_T {A : zM} {a b t c1 c2 sp dp n : Nat} (ht : t = 12 ∨ t = 14) (h1 : z_hd zQ A a = some (t, c1)) (h2 : z_hd zQ A b = some (t, c2)) (e1 : sp + n ≤ c1) (e2 : dp + n ≤ c2) (b1 : sp < 2147483648) (b2 : dp < 2147483648) (b3 : n < 2147483648) : z_fits zQ A a b (zn sp) (zn dp) (zn n) = true := by
  have nn : ∀ m : Nat, m < 2147483648 → decide (¬ zn m < 0) = true := fun m hm => decide_eq_true (by
    rw [Int32.lt_iff_toInt_lt, zn_toInt hm]
    have : (0 : Int32).toInt = 0 := rfl
    omega)
  unfold z_fits
  rw [h1, h2]
  simp only [nn sp b1, nn dp b2, nn n b3, zn_N b1, zn_N b2, zn_N b3, z_bl_T e1, z_bl_T e2, z_bq_T, Bool.true_and, Bool.and_true]
  rcases ht with rfl | rfl <;> rfl
def spanT (T : zT) (at_ : Nat) (T' : zT) (fr n : Nat) : zT := (tK T, tN T, tU T, tL T, tH T, tS T, tB T, fun k => if at_ ≤ k ∧ k < at_ + n then tE T' (fr + (k - at_)) else tE T k)
theorem tE_span (T T' : zT) (at_ fr n k : Nat) : tE (spanT T at_ T' fr n) k = if at_ ≤ k ∧ k < at_ + n then tE T' (fr + (k - at_)) else tE T k := rfl
theorem wT_span {T T' : zT} {at_ fr n : Nat} (h : wT T) (h' : wT T') (hk : tK T' = tK T) (hf : fr + n ≤ 256) : wT (spanT T at_ T' fr n) := by
  obtain ⟨w1, w2, w3, w4, w5, w6, w7, w8, w9⟩ := h
  refine ⟨w1, w2, w3, w4, w5, w6, w7, w8, fun k hk2 => ?_⟩
  show loF (tK T) _ = _
  rw [tE_span]
  by_cases e : at_ ≤ k ∧ k < at_ + n
  · rw [if_pos e, ← hk]; exact h'.2.2.2.2.2.2.2.2 _ (by omega)
  · rw [if_neg e]; exact w9 k hk2
theorem tY_ge {T : zT} {i : Nat} (h : 9 ≤ i) : ∃ q j, j < tW T ∧ i = 9 + q * tW T + j := ⟨(i - 9) / tW T, (i - 9) % tW T, Nat.mod_lt _ (wT_pos T), by have := Nat.div_add_mod (i - 9) (tW T); rw [Nat.mul_comm] at this; omega⟩
theorem tY_span {T T' : zT} {at_ fr n : Nat} (hk : tK T' = tK T) (i : Nat) : tY (spanT T at_ T' fr n) i = if 9 + at_ * tW T ≤ i ∧ i < 9 + at_ * tW T + n * tW T then tY T' (9 + fr * tW T + (i - (9 + at_ * tW T))) else tY T i := by
  have hp := wT_pos T
  have hW' : tW T' = tW T := by unfold tW; rw [hk]
  by_cases h9 : i < 9
  · rw [if_neg (by omega)]
    unfold tY
    rw [if_pos h9, if_pos h9]; rfl
  · obtain ⟨q, j, hj, rfl⟩ := tY_ge (T := T) (i := i) (by omega)
    have e0 : tY (spanT T at_ T' fr n) (9 + q * tW T + j) = ebF (tE (spanT T at_ T' fr n) q) (tW T - 1 - j) := tY_el (T := spanT T at_ T' fr n) hj
    rw [e0, tE_span]
    by_cases e : at_ ≤ q ∧ q < at_ + n
    · have a1 : at_ * tW T ≤ q * tW T := Nat.mul_le_mul_right _ e.1
      have a2 : (q + 1) * tW T ≤ (at_ + n) * tW T := Nat.mul_le_mul_right _ e.2
      rw [Nat.succ_mul, Nat.add_mul] at a2
      rw [if_pos e, if_pos (by omega)]
      have a3 : (fr + (q - at_)) * tW T = fr * tW T + (q * tW T - at_ * tW T) := by rw [Nat.add_mul, Nat.sub_mul]
      have := tY_el (T := T') (k := fr + (q - at_)) (j := j) (by rw [hW']; exact hj)
      rw [hW', a3] at this
      rw [← this]
      congr 1
      omega
    · rw [if_neg e, if_neg, tY_el hj]
      rintro ⟨x1, x2⟩
      apply e
      constructor
      · have : at_ * tW T < (q + 1) * tW T := by rw [Nat.succ_mul]; omega
        have := Nat.lt_of_mul_lt_mul_right this
        omega
      · have : q * tW T < (at_ + n) * tW T := by rw [Nat.add_mul]; omega
        exact Nat.lt_of_mul_lt_mul_right this
theorem E_S_takeElements (d a a' at_ fr n : Nat) (A : zM) (T T' : zT) (h : cT A a T) (h' : cT A a' T') (hw : wT T) (hw' : wT T') (hk : tK T' = tK T) (hf : fr + n ≤ tS T') (ha : at_ + n ≤ tS T) (hs : sc56 A) : ∃ A', z_den zQ (d + 1) mS_takeElements [.ref a, .int (zn at_), .ref a', .int (zn fr), .int (zn n)] A = some (none, A') ∧ cT A' a (spanT T at_ T' fr n) ∧ zFr 0 0 (xS a (zP zQ A a 4)) A A' ∧ zP zQ A' a 4 = zP zQ A a 4 := by
  have hz := tZ_le hw
  have hz' := tZ_le hw'
  have hcT := h
  obtain ⟨h1, k0, k1, k2, k3, k5, k6, ⟨c, h2, hc1, hc2, hc3⟩, hb⟩ := h
  obtain ⟨h1', -, -, -, -, -, -, ⟨c', h2', hc1', hc2', hc3'⟩, hb'⟩ := h'
  have hW' : tW T' = tW T := by unfold tW; rw [hk]
  have hp := wT_pos T
  have hd : tZ T = tH T + tS T * tW T := rfl
  have hd' : tZ T' = tH T' + tS T' * tW T := by rw [← hW']; rfl
  have hwb := wbF_lt (tK T)
  have m1 : (at_ + n) * tW T ≤ tS T * tW T := Nat.mul_le_mul_right _ ha
  have m2 : (fr + n) * tW T ≤ tS T' * tW T := Nat.mul_le_mul_right _ hf
  rw [Nat.add_mul] at m1 m2
  have hab : a ≠ zP zQ A a 4 := fun e => by rw [← e, h1] at h2; cases h2
  have hu := wT_W hw
  have hu' := wT_W hw'
  rw [hW'] at hu'
  have r1 : 9 + at_ * tW T + n * tW T ≤ c := by
    by_cases h0 : 0 < tS T
    · have := hw.2.2.2.2.2.1 h0; omega
    · have e0 : tS T = 0 := by omega
      have : at_ = 0 ∧ n = 0 := by omega
      rw [this.1, this.2, Nat.zero_mul]; omega
  have r2 : 9 + fr * tW T + n * tW T ≤ c' := by
    by_cases h0 : 0 < tS T'
    · have := hw'.2.2.2.2.2.1 h0; omega
    · have e0 : tS T' = 0 := by omega
      have : fr = 0 ∧ n = 0 := by omega
      rw [this.1, this.2, Nat.zero_mul]; omega
  have e1 : ∀ k, k * 2 ^ wbF (tK T) = k * tW T := fun k => by rw [wF_pow]; rfl
  have hft := z_fits_T (Or.inl rfl) h2' h2 r2 r1 (by omega) (by omega) (by omega)
  have h56 := sc_ne hs h2 (by show (12 : Nat) ≠ 20; decide)
  refine ⟨z_cpy A (zP zQ A a' 4) (zP zQ A a 4) (9 + fr * tW T) (9 + at_ * tW T) (n * tW T), ?_, ⟨h1, ?_, ?_, ?_, ?_, ?_, ?_, ⟨c, h2, hc1, hc2, hc3⟩, fun i hi => ?_⟩, zFr_cpy (fun _ _ _ => Or.inl rfl), rfl⟩
  · rw [B_S_takeElements, k3]
    simp (disch := omega) only [z_bV_some, z_bI_some, z_bJ_some, z_bD_some, z_bR_some, cond_true, cond_false, Bool.and_true, Bool.true_and, Bool.not_false, Bool.not_true, Bool.and_self, Bool.or_true, Bool.false_or, Bool.true_or, zn_ok, zn_ok0, zn_N, zn_add, zn_mul, zn_sub, z_lt_T, z_lt_F, z_le_T, z_le_F, z_eq_T, z_ne_F, z_eq_F, z_ne_T, z_ix_T, z_lt_m, z_le_m, z_lt_m2, z_le_m2, z_eq_m, z_ne_m, zn_div, z_a31, zn_shl, zn_shr, z_bq_T, z_bq_F, z_bl_T, nL_9, nL_31, c9 h1, c9 h1', e1, hft]
  · rw [zI_cpy_a hab]; exact k0
  · rw [zI_cpy_a hab]; exact k1
  · rw [zI_cpy_a hab]; exact k2
  · rw [zI_cpy_a hab]; exact k3
  · rw [zI_cpy_a hab]; exact k5
  · rw [zI_cpy_a hab]; exact k6
  · have hi' : i < tZ T := hi
    rw [zP_cpy, zI_cpy, tY_span hk]
    by_cases g : 9 + at_ * tW T ≤ i ∧ i < 9 + at_ * tW T + n * tW T
    · rw [if_pos ⟨rfl, g⟩, if_pos g, hb']
      by_cases h0 : 0 < tS T'
      · have := hw'.2.2.2.2.2.1 h0; omega
      · have e0 : tS T' = 0 := by omega
        have : n = 0 := by omega
        rw [this, Nat.zero_mul] at g; omega
    · rw [if_neg (fun e => g e.2), if_neg g]
      exact hb i hi'
/-- bytes taken over from another -/
def copyT (T T' : zT) : zT := (tK T, tN T, tU T, tL T', tH T', tS T', tB T', fun k => if k < tS T' then tE T' k else tE T k)
theorem tE_copy (T T' : zT) (k : Nat) : tE (copyT T T') k = if k < tS T' then tE T' k else tE T k := rfl
theorem wT_copy {T T' : zT} (h : wT T) (h' : wT T') (hk : tK T' = tK T) : wT (copyT T T') := by
  obtain ⟨w1, w2, w3, w4, w5, w6, w7, w8, w9⟩ := h
  obtain ⟨v1, v2, v3, v4, v5, v6, v7, v8, v9⟩ := h'
  refine ⟨w1, w2, w3, v4, v5, v6, v7, v8, fun k hk2 => ?_⟩
  show loF (tK T) _ = _
  rw [tE_copy]
  by_cases e : k < tS T'
  · rw [if_pos e, ← hk]; exact v9 _ hk2
  · rw [if_neg e]; exact w9 k hk2
theorem tZ_copy {T T' : zT} (hk : tK T' = tK T) : tZ (copyT T T') = tZ T' := by
  show tH T' + tS T' * tW T = tH T' + tS T' * tW T'
  have hW' : tW T' = tW T := by unfold tW; rw [hk]
  rw [hW']
theorem tY_copy {T T' : zT} (hw' : wT T') (hk : tK T' = tK T) {i : Nat} (hi : i < tZ T') : tY (copyT T T') i = tY T' i := by
  have hW' : tW T' = tW T := by unfold tW; rw [hk]
  have hd' : tZ T' = tH T' + tS T' * tW T := by rw [← hW']; rfl
  by_cases h9 : i < 9
  · unfold tY
    rw [if_pos h9, if_pos h9]; rfl
  · obtain ⟨q, j, hj, rfl⟩ := tY_ge (T := T) (i := i) (by omega)
    have e0 : tY (copyT T T') (9 + q * tW T + j) = ebF (tE (copyT T T') q) (tW T - 1 - j) := tY_el (T := copyT T T') hj
    have e1 := tY_el (T := T') (k := q) (j := j) (by rw [hW']; exact hj)
    rw [hW'] at e1
    rw [e0, e1, tE_copy, if_pos]
    have h4 := hw'.2.2.2.1
    have : q * tW T < tS T' * tW T := by omega
    exact Nat.lt_of_mul_lt_mul_right this
theorem bI_ok (b : Bool) : decide (bI b &&& 1 = bI b) = true := by
  cases b
  · rw [bI_F, ← nL_0]; decide
  · rw [bI_T, ← nL_1]; decide
/-- what the copying itself does, its row great enough -/
theorem cT_take {A : zM} {a a' : Nat} {T T' : zT} {c : Nat} (h1 : z_hd zQ A a = some (9, 7)) (k0 : zI A a 0 = zn (tK T)) (k1 : zI A a 1 = zn (tN T)) (k2 : zI A a 2 = zn (tU T)) (k3 : zI A a 3 = zn (wbF (tK T))) (h2 : z_hd zQ A (zP zQ A a 4) = some (12, c)) (hc1 : tZ T' ≤ c) (hc2 : 9 ≤ c) (hc3 : c ≤ 1033) (h' : ∀ i, i < tZ T' → zI A (zP zQ A a' 4) i = tY T' i) (hw' : wT T') (hk : tK T' = tK T) (hne : zP zQ A a' 4 ≠ a) : cT (z_wI (z_cpy (z_wI A a 5 (zn (tZ T'))) (zP zQ A a' 4) (zP zQ A a 4) 0 0 (tZ T')) a 6 (bI (tL T'))) a (copyT T T') := by
  have hab : a ≠ zP zQ A a 4 := fun e => by rw [← e, h1] at h2; cases h2
  refine ⟨h1, ?_, ?_, ?_, ?_, ?_, ?_, ⟨c, h2, by rw [tZ_copy hk]; exact hc1, hc2, hc3⟩, fun i hi => ?_⟩
  · rw [zI_wI_k (by omega), zI_cpy_a hab, zI_wI_k (by omega)]; exact k0
  · rw [zI_wI_k (by omega), zI_cpy_a hab, zI_wI_k (by omega)]; exact k1
  · rw [zI_wI_k (by omega), zI_cpy_a hab, zI_wI_k (by omega)]; exact k2
  · rw [zI_wI_k (by omega), zI_cpy_a hab, zI_wI_k (by omega)]; exact k3
  · rw [zI_wI_k (by omega), zI_cpy_a hab, zI_wI_s, tZ_copy hk]
  · rw [zI_wI_s]; rfl
  · rw [tZ_copy hk] at hi
    rw [zP_wI, zP_cpy, zP_wI, zI_wI_a (fun e => hab e.symm), zI_cpy, if_pos ⟨rfl, by omega, by omega⟩, tY_copy hw' hk hi]
    rw [zI_wI_a hne, show 0 + (i - 0) = i by omega]; exact h' i hi
theorem E_S_takeBytes (d a a' : Nat) (A : zM) (T T' : zT) (h : cT A a T) (h' : cT A a' T') (hw : wT T) (hw' : wT T') (hk : tK T' = tK T) (hs : sc56 A) : ∃ A', z_den zQ (d + 2) mS_takeBytes [.ref a, .ref a'] A = some (none, A') ∧ cT A' a (copyT T T') ∧ zFr 1 1033 (xS a (zP zQ A a 4)) A A' ∧ (zP zQ A' a 4 = zP zQ A a 4 ∨ zP zQ A' a 4 = z_new zQ A) := by
  have hz' := tZ_le hw'
  obtain ⟨h1, k0, k1, k2, k3, k5, k6, ⟨c, h2, hc1, hc2, hc3⟩, hb⟩ := h
  obtain ⟨h1', k0', k1', k2', k3', k5', k6', ⟨c', h2', hc1', hc2', hc3'⟩, hb'⟩ := h'
  have hwb := wbF_lt (tK T)
  have hab : a ≠ zP zQ A a 4 := fun e => by rw [← e, h1] at h2; cases h2
  have hab' : zP zQ A a' 4 ≠ a := fun e => by rw [e, h1] at h2'; cases h2'
  have ha'b : a' ≠ zP zQ A a 4 := fun e => by rw [← e, h1'] at h2; cases h2
  have hzn : Int32.ofNat c = zn c := (zn_eq c).symm
  by_cases g : tZ T' ≤ c
  · have hmin : (bif z_lt (zn c) (zn (tZ T')) then zn c else zn (tZ T')) = zn (tZ T') := by rw [z_lt_F (by omega) (by omega)]; rfl
    have hft := z_fits_T (A := A) (Or.inl rfl) h2' h2 (sp := 0) (dp := 0) (n := tZ T') (by omega) (by omega) (by omega) (by omega) (by omega)
    have hft2 : z_fits zQ (z_wI A a 5 (zn (tZ T'))) (zP zQ A a' 4) (zP zQ A a 4) (zn 0) (zn 0) (zn (tZ T')) = true := hft
    have h56 := sc_ne hs h2 (by show (12 : Nat) ≠ 20; decide)
    have hl : zI (z_cpy (z_wI A a 5 (zn (tZ T'))) (zP zQ A a' 4) (zP zQ A a 4) 0 0 (tZ T')) a' 6 = bI (tL T') := by
      rw [zI_cpy_a ha'b, zI_wI_k (by omega)]; exact k6'
    refine ⟨_, ?_, cT_take h1 k0 k1 k2 k3 h2 g hc2 hc3 hb' hw' hk hab', ?_, Or.inl rfl⟩
    · rw [B_S_takeBytes, k5']
      simp (disch := omega) only [z_bV_some, z_bI_some, z_bJ_some, z_bD_some, z_bR_some, cond_true, cond_false, Bool.and_true, Bool.true_and, Bool.not_false, Bool.not_true, Bool.and_self, Bool.or_true, Bool.false_or, Bool.true_or, zn_ok, zn_ok0, zn_N, zn_add, zn_mul, zn_sub, z_lt_T, z_lt_F, z_le_T, z_le_F, z_eq_T, z_ne_F, z_eq_F, z_ne_T, z_ix_T, z_lt_m, z_le_m, z_lt_m2, z_le_m2, z_eq_m, z_ne_m, zn_div, z_a31, zn_shl, zn_shr, z_bq_T, z_bq_F, z_bl_T, zI_put_a, zP_put, zD_put, z_hd_put, z_cls_put, z_ia_put, z_ln_put, z_new_put, zI_wI_s, zI_wP, zI_wD, zD_wI, zD_wP, zD_wD_s, zP_wI, zP_wD, z_hd_wI, z_hd_wP, z_hd_wD, z_hd_cpy, z_cls_wI, z_cls_wP, z_cls_wD, z_cls_cpy, z_ia_wI, z_ia_wP, z_ia_wD, z_ia_cpy, z_ln_wI, z_ln_wP, z_ln_wD, z_ln_cpy, z_new_wI, z_new_wP, z_new_wD, z_new_cpy, z_new_nw, zP_cpy, zI_uI_s, zP_uI, zD_uI, z_hd_uI, z_cls_uI, z_ia_uI, z_ln_uI, z_new_uI, zI_wI_a, zI_wI_k, zI_uI_a, zI_cpy_a, zP_wP_s, zP_wP_a, zP_wP_k, nL_0, c9 h1, c9 h1', c12 h2, z_ln_of h2, hzn, E_min, hmin, hft2, hl, bI_ok]
    · have t1 : zFr 0 0 (xS a (zP zQ A a 4)) A (z_wI A a 5 (zn (tZ T'))) := zFr_wI (Or.inr ⟨rfl, by omega⟩)
      have t2 : zFr 0 0 (xS a (zP zQ A a 4)) (z_wI A a 5 (zn (tZ T'))) (z_cpy (z_wI A a 5 (zn (tZ T'))) (zP zQ A a' 4) (zP zQ A a 4) 0 0 (tZ T')) := zFr_cpy (fun _ _ _ => Or.inl rfl)
      have t3 := zFr_trans (zFr_trans t1 t2 (fun _ _ _ h => h)) (zFr_wI (X := xS a (zP zQ A a 4)) (k := 6) (v := bI (tL T')) (Or.inr ⟨rfl, by omega⟩)) (fun _ _ _ h => h)
      exact zFr_mono t3 (by omega) (by omega) (fun _ _ h => h)
  · have hW : 256 * 2 ^ wbF (tK T) = 256 * tW T := by rw [wF_pow]; rfl
    have hW4 : tW T = 1 ∨ tW T = 2 ∨ tW T = 4 := wF_c (tK T)
    have hZW : tZ T' ≤ 9 + 256 * tW T := by
      have hW' : tW T' = tW T := by unfold tW; rw [hk]
      have hd' : tZ T' = tH T' + tS T' * tW T := by rw [← hW']; rfl
      have := Nat.mul_le_mul_right (tW T) hw'.2.2.2.2.1
      have := hw'.2.2.2.1
      omega
    have hn1 := z_hd_lt h1
    have hn1' := z_hd_lt h1'
    have hn2 := z_hd_lt h2
    have hn2' := z_hd_lt h2'
    have h56 := z_hd_lt hs.choose_spec
    have g56 := z_new_ge A
    have a3 : a ≠ 1 ∧ a ≠ 3 ∧ a ≠ 15 := by
      refine ⟨?_, ?_, ?_⟩ <;> (rintro rfl; cases h1)
    have haa : a' ≠ a := by
      rintro rfl
      rw [k5] at k5'
      have := zn_inj (by omega) (by omega) k5'
      omega
    generalize hN : z_nw zQ A (12, 9 + 256 * tW T) = N
    have n1 : z_hd zQ N a = some (9, 7) := by rw [← hN, z_hd_nw_o (by omega)]; exact h1
    have n1' : z_hd zQ N a' = some (9, 7) := by rw [← hN, z_hd_nw_o (by omega)]; exact h1'
    have n2' : z_hd zQ N (zP zQ A a' 4) = some (12, c') := by rw [← hN, z_hd_nw_o (by omega)]; exact h2'
    have nn : z_hd zQ N (z_new zQ A) = some (12, 9 + 256 * tW T) := by rw [← hN, z_hd_nw_s]
    have i0 : ∀ x k, x < z_new zQ A → zI N x k = zI A x k := fun x k hx => by rw [← hN, zI_nw_o (by omega)]
    have p0 : ∀ x k, x < z_new zQ A → zP zQ N x k = zP zQ A x k := fun x k hx => by rw [← hN, zP_nw_o (by omega)]
    generalize hN2 : z_wP N a 4 (z_new zQ A) = N2
    have m1 : z_hd zQ N2 a = some (9, 7) := by rw [← hN2, z_hd_wP]; exact n1
    have m1' : z_hd zQ N2 a' = some (9, 7) := by rw [← hN2, z_hd_wP]; exact n1'
    have m2' : z_hd zQ N2 (zP zQ A a' 4) = some (12, c') := by rw [← hN2, z_hd_wP]; exact n2'
    have mn : z_hd zQ N2 (z_new zQ A) = some (12, 9 + 256 * tW T) := by rw [← hN2, z_hd_wP]; exact nn
    have j0 : ∀ x k, x < z_new zQ A → zI N2 x k = zI A x k := fun x k hx => by rw [← hN2, zI_wP]; exact i0 x k hx
    have q4 : zP zQ N2 a 4 = z_new zQ A := by rw [← hN2, zP_wP_s a3.1 a3.2.1 a3.2.2]
    have q4' : zP zQ N2 a' 4 = zP zQ A a' 4 := by rw [← hN2, zP_wP_a haa]; exact p0 _ _ hn1'
    have hmin : (bif z_lt (zn (9 + 256 * tW T)) (zn (tZ T')) then zn (9 + 256 * tW T) else zn (tZ T')) = zn (tZ T') := by rw [z_lt_F (by omega) (by omega)]; rfl
    have hft := z_fits_T (A := N2) (Or.inl rfl) m2' mn (sp := 0) (dp := 0) (n := tZ T') (by omega) (by omega) (by omega) (by omega) (by omega)
    have hft2 : z_fits zQ (z_wI N2 a 5 (zn (tZ T'))) (zP zQ A a' 4) (z_new zQ A) (zn 0) (zn 0) (zn (tZ T')) = true := hft
    have hl : zI (z_cpy (z_wI N2 a 5 (zn (tZ T'))) (zP zQ A a' 4) (z_new zQ A) 0 0 (tZ T')) a' 6 = bI (tL T') := by
      rw [zI_cpy_a (by omega), zI_wI_k (by omega), j0 _ _ hn1']; exact k6'
    have ct := cT_take (A := N2) (a := a) (a' := a') (T := T) (T' := T') m1 (by rw [j0 _ _ hn1]; exact k0) (by rw [j0 _ _ hn1]; exact k1) (by rw [j0 _ _ hn1]; exact k2) (by rw [j0 _ _ hn1]; exact k3) (by rw [q4]; exact mn) hZW (by omega) (by omega) (fun i hi => by rw [q4', j0 _ _ hn2']; exact hb' i hi) hw' hk (by rw [q4']; exact hab')
    rw [q4, q4'] at ct
    have hzn2 : Int32.ofNat (9 + 256 * tW T) = zn (9 + 256 * tW T) := (zn_eq _).symm
    have hi5 : zI N a' 5 = zn (tZ T') := by rw [i0 _ _ hn1']; exact k5'
    have hf := z_free_T (k := 4) a3.1 a3.2.1 a3.2.2
    refine ⟨_, ?_, ct, ?_, Or.inr ?_⟩
    · rw [B_S_takeBytes, k5', k3]
      simp (disch := omega) only [z_bV_some, z_bI_some, z_bJ_some, z_bD_some, z_bR_some, cond_true, cond_false, Bool.and_true, Bool.true_and, Bool.not_false, Bool.not_true, Bool.and_self, Bool.or_true, Bool.false_or, Bool.true_or, zn_ok, zn_ok0, zn_N, zn_add, zn_mul, zn_sub, z_lt_T, z_lt_F, z_le_T, z_le_F, z_eq_T, z_ne_F, z_eq_F, z_ne_T, z_ix_T, z_lt_m, z_le_m, z_lt_m2, z_le_m2, z_eq_m, z_ne_m, zn_div, z_a31, zn_shl, zn_shr, z_bq_T, z_bq_F, z_bl_T, zI_put_a, zP_put, zD_put, z_hd_put, z_cls_put, z_ia_put, z_ln_put, z_new_put, zI_wI_s, zI_wP, zI_wD, zD_wI, zD_wP, zD_wD_s, zP_wI, zP_wD, z_hd_wI, z_hd_wP, z_hd_wD, z_hd_cpy, z_cls_wI, z_cls_wP, z_cls_wD, z_cls_cpy, z_ia_wI, z_ia_wP, z_ia_wD, z_ia_cpy, z_ln_wI, z_ln_wP, z_ln_wD, z_ln_cpy, z_new_wI, z_new_wP, z_new_wD, z_new_cpy, z_new_nw, zP_cpy, zI_uI_s, zP_uI, zD_uI, z_hd_uI, z_cls_uI, z_ia_uI, z_ln_uI, z_new_uI, zI_wI_a, zI_wI_k, zI_uI_a, zI_cpy_a, zP_wP_s, zP_wP_a, zP_wP_k, nL_0, nL_9, nL_31, nL_256, c9 h1, c9 h1', c12 h2, z_ln_of h2, hzn, hW, hN, hf, c9 n1, hN2, c9 m1, c9 m1', q4, q4', c12 mn, z_ln_of mn, hzn2, hi5, E_min, hmin, hft2, hl, bI_ok]
    · have t0 : zFr 1 (9 + 256 * tW T) (xS a (zP zQ A a 4)) A N := by rw [← hN]; exact zFr_nw _ _ _
      have t1 : zFr 0 0 (xS a (zP zQ A a 4)) N N2 := by rw [← hN2]; exact zFr_wP (Or.inr ⟨rfl, by omega⟩)
      have t2 : zFr 0 0 (xS a (zP zQ A a 4)) N2 (z_wI N2 a 5 (zn (tZ T'))) := zFr_wI (Or.inr ⟨rfl, by omega⟩)
      have t3 : zFr 0 0 (xS a (z_new zQ A)) (z_wI N2 a 5 (zn (tZ T'))) (z_cpy (z_wI N2 a 5 (zn (tZ T'))) (zP zQ A a' 4) (z_new zQ A) 0 0 (tZ T')) := zFr_cpy (fun _ _ _ => Or.inl rfl)
      have t4 := zFr_trans (zFr_trans (zFr_trans t0 t1 (fun _ _ _ h => h)) t2 (fun _ _ _ h => h)) t3 (fun x k hx hh => by
        rcases hh with hh | hh
        · omega
        · exact Or.inr hh)
      have t5 := zFr_trans t4 (zFr_wI (X := xS a (zP zQ A a 4)) (k := 6) (v := bI (tL T')) (Or.inr ⟨rfl, by omega⟩)) (fun _ _ _ h => h)
      exact zFr_mono t5 (by omega) (by omega) (fun _ _ h => h)
    · rw [zP_wI, zP_cpy, zP_wI]; exact q4
/-- a new strip -/
noncomputable def newT (K N U n : Nat) : zT := (K, N, U, false, 9, n, fun _ => zn 0, fun _ => zn 0)
theorem eb_0 (j : Nat) (hj : j < 4) : ebF (zn 0) j = zn 0 := by
  apply tI_eq
  have : (zn 0).toInt = 0 := zn_toInt (by omega)
  rw [tI_eb _ hj, this]
  simp
theorem lo_0 (k : Nat) : loF k (zn 0) = zn 0 := by
  have : (zn 0).toInt = 0 := zn_toInt (by omega)
  unfold loF
  split
  · exact eb_0 0 (by omega)
  · split
    · apply tI_eq; rw [tI_b16, this]; rfl
    · split
      · apply tI_eq; rw [tI_65535, this]; rfl
      · rfl
theorem wT_new {K N U n : Nat} (h1 : K ≤ 3) (h2 : N ≤ 30000) (h3 : U ≤ 256) (h4 : n ≤ 256) : wT (newT K N U n) :=
  ⟨h1, h2, h3, Nat.le_refl 9, h4, fun _ => rfl, fun h => absurd h Bool.false_ne_true, fun _ _ => eb_0 0 (by omega), fun _ _ => lo_0 K⟩
theorem tY_new (K N U n i : Nat) : tY (newT K N U n) i = zn 0 := by
  have hp := wT_pos (newT K N U n)
  unfold tY
  split
  · rfl
  · refine eb_0 _ ?_
    have : tW (newT K N U n) ≤ 4 := by unfold tW; have := wF_c (tK (newT K N U n)); omega
    omega
theorem E_S_init (d a K N U n : Nat) (A : zM) (h1 : z_hd zQ A a = some (9, 7)) (hK : K ≤ 3) (hN : N ≤ 30000) (hU : U ≤ 256) (hn : n ≤ 256) : ∃ A', z_den zQ (d + 2) mS_init [.ref a, .int (zn K), .int (zn N), .int (zn U), .int (zn n)] A = some (none, A') ∧ cT A' a (newT K N U n) ∧ zFr 1 1033 (fun a' _ => a' = a) A A' ∧ zP zQ A' a 4 = z_new zQ A := by
  have hmin : (bif z_lt (zn 256) (zn n) then zn 256 else zn n) = zn n := by rw [z_lt_F (by omega) (by omega)]; rfl
  have hmax : (bif z_lt (zn 0) (zn n) then zn n else zn 0) = zn n := by
    by_cases h : 0 < n
    · rw [z_lt_T h (by omega)]; rfl
    · rw [z_lt_F (by omega) (by omega), show n = 0 by omega]; rfl
  have hwb := wbF_lt K
  have hW4 := wF_c K
  have hnW : n * wF K ≤ 256 * 4 := Nat.mul_le_mul hn (by omega)
  have a3 : a ≠ 1 ∧ a ≠ 3 ∧ a ≠ 15 ∧ a ≠ 0 := by
    refine ⟨?_, ?_, ?_, ?_⟩ <;> (rintro rfl; cases h1)
  have hlt := z_hd_lt h1
  have hf := z_free_T (k := 4) a3.1 a3.2.1 a3.2.2.1
  generalize hB : z_wI (z_wI (z_wI (z_wI (z_wI (z_wI A a 6 (zn 0)) a 0 (zn K)) a 1 (zn N)) a 2 (zn U)) a 3 (zn (wbF K))) a 5 (zn (9 + n * wF K)) = B
  have b1 : z_hd zQ B a = some (9, 7) := by rw [← hB]; exact h1
  have bn : z_new zQ B = z_new zQ A := by rw [← hB]; rfl
  have i0 : zI B a 0 = zn K := by rw [← hB]; simp (disch := omega) only [zI_put_a, zP_put, zD_put, z_hd_put, z_cls_put, z_ia_put, z_ln_put, z_new_put, zI_wI_s, zI_wP, zI_wD, zD_wI, zD_wP, zD_wD_s, zP_wI, zP_wD, z_hd_wI, z_hd_wP, z_hd_wD, z_hd_cpy, z_cls_wI, z_cls_wP, z_cls_wD, z_cls_cpy, z_ia_wI, z_ia_wP, z_ia_wD, z_ia_cpy, z_ln_wI, z_ln_wP, z_ln_wD, z_ln_cpy, z_new_wI, z_new_wP, z_new_wD, z_new_cpy, z_new_nw, zP_cpy, zI_uI_s, zP_uI, zD_uI, z_hd_uI, z_cls_uI, z_ia_uI, z_ln_uI, z_new_uI, zI_wI_a, zI_wI_k, zI_uI_a, zI_cpy_a, zP_wP_s, zP_wP_a, zP_wP_k]
  have i1 : zI B a 1 = zn N := by rw [← hB]; simp (disch := omega) only [zI_put_a, zP_put, zD_put, z_hd_put, z_cls_put, z_ia_put, z_ln_put, z_new_put, zI_wI_s, zI_wP, zI_wD, zD_wI, zD_wP, zD_wD_s, zP_wI, zP_wD, z_hd_wI, z_hd_wP, z_hd_wD, z_hd_cpy, z_cls_wI, z_cls_wP, z_cls_wD, z_cls_cpy, z_ia_wI, z_ia_wP, z_ia_wD, z_ia_cpy, z_ln_wI, z_ln_wP, z_ln_wD, z_ln_cpy, z_new_wI, z_new_wP, z_new_wD, z_new_cpy, z_new_nw, zP_cpy, zI_uI_s, zP_uI, zD_uI, z_hd_uI, z_cls_uI, z_ia_uI, z_ln_uI, z_new_uI, zI_wI_a, zI_wI_k, zI_uI_a, zI_cpy_a, zP_wP_s, zP_wP_a, zP_wP_k]
  have i2 : zI B a 2 = zn U := by rw [← hB]; simp (disch := omega) only [zI_put_a, zP_put, zD_put, z_hd_put, z_cls_put, z_ia_put, z_ln_put, z_new_put, zI_wI_s, zI_wP, zI_wD, zD_wI, zD_wP, zD_wD_s, zP_wI, zP_wD, z_hd_wI, z_hd_wP, z_hd_wD, z_hd_cpy, z_cls_wI, z_cls_wP, z_cls_wD, z_cls_cpy, z_ia_wI, z_ia_wP, z_ia_wD, z_ia_cpy, z_ln_wI, z_ln_wP, z_ln_wD, z_ln_cpy, z_new_wI, z_new_wP, z_new_wD, z_new_cpy, z_new_nw, zP_cpy, zI_uI_s, zP_uI, zD_uI, z_hd_uI, z_cls_uI, z_ia_uI, z_ln_uI, z_new_uI, zI_wI_a, zI_wI_k, zI_uI_a, zI_cpy_a, zP_wP_s, zP_wP_a, zP_wP_k]
  have i3 : zI B a 3 = zn (wbF K) := by rw [← hB]; simp (disch := omega) only [zI_put_a, zP_put, zD_put, z_hd_put, z_cls_put, z_ia_put, z_ln_put, z_new_put, zI_wI_s, zI_wP, zI_wD, zD_wI, zD_wP, zD_wD_s, zP_wI, zP_wD, z_hd_wI, z_hd_wP, z_hd_wD, z_hd_cpy, z_cls_wI, z_cls_wP, z_cls_wD, z_cls_cpy, z_ia_wI, z_ia_wP, z_ia_wD, z_ia_cpy, z_ln_wI, z_ln_wP, z_ln_wD, z_ln_cpy, z_new_wI, z_new_wP, z_new_wD, z_new_cpy, z_new_nw, zP_cpy, zI_uI_s, zP_uI, zD_uI, z_hd_uI, z_cls_uI, z_ia_uI, z_ln_uI, z_new_uI, zI_wI_a, zI_wI_k, zI_uI_a, zI_cpy_a, zP_wP_s, zP_wP_a, zP_wP_k]
  have i5 : zI B a 5 = zn (9 + n * wF K) := by rw [← hB]; simp (disch := omega) only [zI_put_a, zP_put, zD_put, z_hd_put, z_cls_put, z_ia_put, z_ln_put, z_new_put, zI_wI_s, zI_wP, zI_wD, zD_wI, zD_wP, zD_wD_s, zP_wI, zP_wD, z_hd_wI, z_hd_wP, z_hd_wD, z_hd_cpy, z_cls_wI, z_cls_wP, z_cls_wD, z_cls_cpy, z_ia_wI, z_ia_wP, z_ia_wD, z_ia_cpy, z_ln_wI, z_ln_wP, z_ln_wD, z_ln_cpy, z_new_wI, z_new_wP, z_new_wD, z_new_cpy, z_new_nw, zP_cpy, zI_uI_s, zP_uI, zD_uI, z_hd_uI, z_cls_uI, z_ia_uI, z_ln_uI, z_new_uI, zI_wI_a, zI_wI_k, zI_uI_a, zI_cpy_a, zP_wP_s, zP_wP_a, zP_wP_k]
  have i6 : zI B a 6 = zn 0 := by rw [← hB]; simp (disch := omega) only [zI_put_a, zP_put, zD_put, z_hd_put, z_cls_put, z_ia_put, z_ln_put, z_new_put, zI_wI_s, zI_wP, zI_wD, zD_wI, zD_wP, zD_wD_s, zP_wI, zP_wD, z_hd_wI, z_hd_wP, z_hd_wD, z_hd_cpy, z_cls_wI, z_cls_wP, z_cls_wD, z_cls_cpy, z_ia_wI, z_ia_wP, z_ia_wD, z_ia_cpy, z_ln_wI, z_ln_wP, z_ln_wD, z_ln_cpy, z_new_wI, z_new_wP, z_new_wD, z_new_cpy, z_new_nw, zP_cpy, zI_uI_s, zP_uI, zD_uI, z_hd_uI, z_cls_uI, z_ia_uI, z_ln_uI, z_new_uI, zI_wI_a, zI_wI_k, zI_uI_a, zI_cpy_a, zP_wP_s, zP_wP_a, zP_wP_k]
  generalize hC : z_nw zQ B (12, 9 + n * wF K) = C
  have c1 : z_hd zQ C a = some (9, 7) := by rw [← hC, z_hd_nw_o (by omega)]; exact b1
  have c2 : z_hd zQ C (z_new zQ A) = some (12, 9 + n * wF K) := by rw [← hC, ← bn, z_hd_nw_s]
  have j0 : ∀ k, zI C a k = zI B a k := fun k => by rw [← hC, zI_nw_o (by omega)]
  have jn : ∀ k, zI C (z_new zQ A) k = zn 0 := fun k => by rw [← hC, ← bn, zI_nw_s, nL_0]
  have hp : zP zQ (z_wP C a 4 (z_new zQ A)) a 4 = z_new zQ A := zP_wP_s a3.1 a3.2.1 a3.2.2.1
  have e1 : n * 2 ^ wbF K = n * wF K := by rw [wF_pow]
  refine ⟨z_wP C a 4 (z_new zQ A), ?_, ⟨c1, ?_, ?_, ?_, ?_, ?_, ?_, ⟨9 + n * wF K, ?_, Nat.le_refl _, by omega, by omega⟩, fun i hi => ?_⟩, ?_, hp⟩
  · rw [B_S_init]
    rcases (show K = 0 ∨ K = 3 ∨ (K ≠ 0 ∧ K ≠ 3) by omega) with rfl | rfl | hk
    · have w0 : wbF 0 = 0 := rfl
      rw [w0] at hB e1 hwb
      simp (disch := omega) only [z_bV_some, z_bI_some, z_bJ_some, z_bD_some, z_bR_some, cond_true, cond_false, Bool.and_true, Bool.true_and, Bool.not_false, Bool.not_true, Bool.and_self, Bool.or_true, Bool.false_or, Bool.true_or, zn_ok, zn_ok0, zn_N, zn_add, zn_mul, zn_sub, z_lt_T, z_lt_F, z_le_T, z_le_F, z_eq_T, z_ne_F, z_eq_F, z_ne_T, z_ix_T, z_lt_m, z_le_m, z_lt_m2, z_le_m2, z_eq_m, z_ne_m, zn_div, z_a31, zn_shl, zn_shr, z_bq_T, z_bq_F, z_bl_T, zI_put_a, zP_put, zD_put, z_hd_put, z_cls_put, z_ia_put, z_ln_put, z_new_put, zI_wI_s, zI_wP, zI_wD, zD_wI, zD_wP, zD_wD_s, zP_wI, zP_wD, z_hd_wI, z_hd_wP, z_hd_wD, z_hd_cpy, z_cls_wI, z_cls_wP, z_cls_wD, z_cls_cpy, z_ia_wI, z_ia_wP, z_ia_wD, z_ia_cpy, z_ln_wI, z_ln_wP, z_ln_wD, z_ln_cpy, z_new_wI, z_new_wP, z_new_wD, z_new_cpy, z_new_nw, zP_cpy, zI_uI_s, zP_uI, zD_uI, z_hd_uI, z_cls_uI, z_ia_uI, z_ln_uI, z_new_uI, zI_wI_a, zI_wI_k, zI_uI_a, zI_cpy_a, zP_wP_s, zP_wP_a, zP_wP_k, nL_0, nL_3, nL_256, nL_9, nL_31, c9 h1, E_min, hmin, E_max, hmax, e1, hB, hC, hf, c9 c1, bn, i5]
    · have w0 : wbF 3 = 2 := rfl
      rw [w0] at hB e1 hwb
      simp (disch := omega) only [z_bV_some, z_bI_some, z_bJ_some, z_bD_some, z_bR_some, cond_true, cond_false, Bool.and_true, Bool.true_and, Bool.not_false, Bool.not_true, Bool.and_self, Bool.or_true, Bool.false_or, Bool.true_or, zn_ok, zn_ok0, zn_N, zn_add, zn_mul, zn_sub, z_lt_T, z_lt_F, z_le_T, z_le_F, z_eq_T, z_ne_F, z_eq_F, z_ne_T, z_ix_T, z_lt_m, z_le_m, z_lt_m2, z_le_m2, z_eq_m, z_ne_m, zn_div, z_a31, zn_shl, zn_shr, z_bq_T, z_bq_F, z_bl_T, zI_put_a, zP_put, zD_put, z_hd_put, z_cls_put, z_ia_put, z_ln_put, z_new_put, zI_wI_s, zI_wP, zI_wD, zD_wI, zD_wP, zD_wD_s, zP_wI, zP_wD, z_hd_wI, z_hd_wP, z_hd_wD, z_hd_cpy, z_cls_wI, z_cls_wP, z_cls_wD, z_cls_cpy, z_ia_wI, z_ia_wP, z_ia_wD, z_ia_cpy, z_ln_wI, z_ln_wP, z_ln_wD, z_ln_cpy, z_new_wI, z_new_wP, z_new_wD, z_new_cpy, z_new_nw, zP_cpy, zI_uI_s, zP_uI, zD_uI, z_hd_uI, z_cls_uI, z_ia_uI, z_ln_uI, z_new_uI, zI_wI_a, zI_wI_k, zI_uI_a, zI_cpy_a, zP_wP_s, zP_wP_a, zP_wP_k, nL_0, nL_2, nL_3, nL_256, nL_9, nL_31, c9 h1, E_min, hmin, E_max, hmax, e1, hB, hC, hf, c9 c1, bn, i5]
    · have w0 : wbF K = 1 := by unfold wbF; rw [if_neg hk.1, if_neg hk.2]
      rw [w0] at hB e1 hwb
      simp (disch := omega) only [z_bV_some, z_bI_some, z_bJ_some, z_bD_some, z_bR_some, cond_true, cond_false, Bool.and_true, Bool.true_and, Bool.not_false, Bool.not_true, Bool.and_self, Bool.or_true, Bool.false_or, Bool.true_or, zn_ok, zn_ok0, zn_N, zn_add, zn_mul, zn_sub, z_lt_T, z_lt_F, z_le_T, z_le_F, z_eq_T, z_ne_F, z_eq_F, z_ne_T, z_ix_T, z_lt_m, z_le_m, z_lt_m2, z_le_m2, z_eq_m, z_ne_m, zn_div, z_a31, zn_shl, zn_shr, z_bq_T, z_bq_F, z_bl_T, zI_put_a, zP_put, zD_put, z_hd_put, z_cls_put, z_ia_put, z_ln_put, z_new_put, zI_wI_s, zI_wP, zI_wD, zD_wI, zD_wP, zD_wD_s, zP_wI, zP_wD, z_hd_wI, z_hd_wP, z_hd_wD, z_hd_cpy, z_cls_wI, z_cls_wP, z_cls_wD, z_cls_cpy, z_ia_wI, z_ia_wP, z_ia_wD, z_ia_cpy, z_ln_wI, z_ln_wP, z_ln_wD, z_ln_cpy, z_new_wI, z_new_wP, z_new_wD, z_new_cpy, z_new_nw, zP_cpy, zI_uI_s, zP_uI, zD_uI, z_hd_uI, z_cls_uI, z_ia_uI, z_ln_uI, z_new_uI, zI_wI_a, zI_wI_k, zI_uI_a, zI_cpy_a, zP_wP_s, zP_wP_a, zP_wP_k, nL_0, nL_1, nL_3, nL_256, nL_9, nL_31, c9 h1, E_min, hmin, E_max, hmax, e1, hB, hC, hf, c9 c1, bn, i5]
  · rw [zI_wP, j0]; exact i0
  · rw [zI_wP, j0]; exact i1
  · rw [zI_wP, j0]; exact i2
  · rw [zI_wP, j0]; exact i3
  · rw [zI_wP, j0]; exact i5
  · rw [zI_wP, j0]; exact i6
  · rw [hp, z_hd_wP]; exact c2
  · rw [hp, zI_wP, tY_new]; exact jn i
  · have t1 : zFr 0 0 (fun a' _ => a' = a) A B := by
      rw [← hB]
      have q : ∀ (M : zM) (k : Nat) (v : Int32), zFr 0 0 (fun a' _ => a' = a) M (z_wI M a k v) := fun M k v => zFr_wI rfl
      have tr : ∀ (M M' : zM) (k : Nat) (v : Int32), zFr 0 0 (fun a' _ => a' = a) M M' → zFr 0 0 (fun a' _ => a' = a) M (z_wI M' a k v) := fun M M' k v h => zFr_trans h (q M' k v) (fun _ _ _ h => h)
      exact tr _ _ _ _ (tr _ _ _ _ (tr _ _ _ _ (tr _ _ _ _ (tr _ _ _ _ (q _ _ _)))))
    have t2 : zFr 1 (9 + n * wF K) (fun a' _ => a' = a) B C := by rw [← hC]; exact zFr_nw _ _ _
    have t3 := zFr_trans (zFr_trans t1 t2 (fun _ _ _ h => h)) (zFr_wP (X := fun a' _ => a' = a) (k := 4) (v := z_new zQ A) rfl) (fun _ _ _ h => h)
    exact zFr_mono t3 (by omega) (by omega) (fun _ _ h => h)
theorem E_S_twin (d a : Nat) (A : zM) (T : zT) (h : cT A a T) (hw : wT T) (hs : sc56 A) : ∃ A', z_den zQ (d + 3) mS_twin [.ref a] A = some (some (.ref (z_new zQ A)), A') ∧ cT A' (z_new zQ A) (copyT (newT (tK T) (tN T) (tU T) (tS T)) T) ∧ zFr 3 2100 (fun _ _ => False) A A' ∧ z_new zQ A < zP zQ A' (z_new zQ A) 4 := by
  have hn1 := z_hd_lt h.1
  have f0 := zFr_nw (fun _ _ => False) A (9, 7)
  obtain ⟨h0, hP0⟩ := cT_fr f0 h (fun _ h => h) (fun _ h => h)
  have s0 := sc_fr f0 hs
  have hn : z_hd zQ (z_nw zQ A (9, 7)) (z_new zQ A) = some (9, 7) := z_hd_nw_s _ _
  have e1 := E_S_elements (d + 1) a _ T h0 (wT_w0 hw)
  have k0 := h0.2.1
  have k1 := h0.2.2.1
  have k2 := h0.2.2.2.1
  generalize hA0 : z_nw zQ A (9, 7) = A0 at *
  have hA0n : z_new zQ A0 = z_new zQ A + 1 := by rw [← hA0, z_new_nw]
  obtain ⟨A1, i1, i2, i3, i4⟩ := E_S_init d (z_new zQ A) (tK T) (tN T) (tU T) (tS T) A0 hn hw.1 hw.2.1 hw.2.2.1 hw.2.2.2.2.1
  have hb1 : ∀ c, z_hd zQ A0 (zP zQ A0 a 4) = some (12, c) → zP zQ A0 a 4 ≠ z_new zQ A := fun c hc e => by rw [e, hn] at hc; cases hc
  obtain ⟨c0, hc0, -⟩ := h0.2.2.2.2.2.2.2.1
  obtain ⟨h1, hP1⟩ := cT_fr i3 h0 (fun _ e => by have e : a = z_new zQ A := e; omega) (fun _ e => hb1 c0 hc0 e)
  have s1 := sc_fr i3 s0
  have hge := zFr_ge i3
  obtain ⟨A2, t1, t2, t3, t4⟩ := E_S_takeBytes d (z_new zQ A) a A1 _ T i2 h1 (wT_new hw.1 hw.2.1 hw.2.2.1 hw.2.2.2.2.1) hw rfl s1
  refine ⟨A2, ?_, t2, ?_, ?_⟩
  · rw [B_S_twin, hA0]
    simp (disch := omega) only [z_bV_some, z_bI_some, z_bJ_some, z_bD_some, z_bR_some, cond_true, cond_false, Bool.and_true, Bool.true_and, Bool.not_false, Bool.not_true, Bool.and_self, Bool.or_true, Bool.false_or, Bool.true_or, c9 h0.1, c9 hn, e1, k0, k1, k2, i1, c9 i2.1, t1]
  · have r1 := zFr_trans (zFr_trans f0 i3 (fun x _ hx e => by have e : x = z_new zQ A := e; omega)) t3 (fun x _ hx e => by
      rcases e with e | e
      · omega
      · have := e.1; omega)
    exact zFr_mono r1 (by omega) (by omega) (fun _ _ h => h)
  · rcases t4 with t4 | t4 <;> omega
