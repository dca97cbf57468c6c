/-! S LEVEL, acts: tune. -/
def upR (J : zJ) (i p q : Nat) : zJ := (J.1, J.2.1, J.2.2.1, J.2.2.2.1, (fun j => if j = i then p else J.2.2.2.2.1 j), (fun j => if j = i then q else J.2.2.2.2.2.1 j), J.2.2.2.2.2.2.1, J.2.2.2.2.2.2.2)
theorem jP_upR (J : zJ) (i p q j : Nat) : jP (upR J i p q) j = if j = i then p else jP J j := rfl
theorem jQ_upR (J : zJ) (i p q j : Nat) : jQ (upR J i p q) j = if j = i then q else jQ J j := rfl
theorem w_upR {J : zJ} (w : wJ J) {i p q : Nat} (h1 : p ≤ 1000) (h2 : q ≤ 1000) : wJ (upR J i p q) := wJ_up w rfl rfl rfl rfl rfl ⟨w.2.1, w.2.2.1⟩ (fun j hj => by
  rw [jP_upR, jQ_upR]
  by_cases g : j = i
  · rw [if_pos g, if_pos g]; exact ⟨h1, h2⟩
  · rw [if_neg g, if_neg g]; exact ⟨(w.2.2.2 j hj).2.2.2.1, (w.2.2.2 j hj).2.2.2.2.1⟩)
theorem cJ_inj {J : zJ} {A : zM} (w : wJ J) (h : cJ J A) {i j : Nat} (hi : i < jN J) (hj : j < jN J) (e : zP zQ A 4 i = zP zQ A 4 j) : i = j := by
  have w0 := w.1
  have h1 := (h.2.2.1 i hi).2.1
  have h2 := (h.2.2.1 j hj).2.1
  rw [e, h2] at h1
  have := congrArg Int32.toInt h1
  rw [zn_toInt (by omega), zn_toInt (by omega)] at this
  omega
theorem cJ_n16 {J : zJ} {A : zM} (h : cJ J A) {i c n : Nat} (hi : i < jN J) (hc : z_hd zQ A c = some (16, n)) : zP zQ A 4 i ≠ c := by
  intro e
  have g1 := (h.2.2.1 i hi).1
  rw [e, hc] at g1
  have h7 : (16 : Nat) = tgF (jS J i) := congrArg Prod.fst (Option.some.inj g1)
  unfold tgF at h7
  (repeat' split at h7) <;> omega
theorem cJ_n3 {J : zJ} {A : zM} (h : cJ J A) {i : Nat} (hi : i < jN J) : zP zQ A 4 i ≠ 3 ∧ zP zQ A 4 i ≠ 1 ∧ zP zQ A 4 i ≠ 10 := by
  have g1 := (h.2.2.1 i hi).1
  have k : ∀ c t n, z_hd zQ A c = some (t, n) → (t = 4 ∨ t = 10 ∨ t = 14) → zP zQ A 4 i ≠ c := by
    intro c t n hc ht e
    rw [e, hc] at g1
    have h7 : t = tgF (jS J i) := congrArg Prod.fst (Option.some.inj g1)
    unfold tgF at h7
    (repeat' split at h7) <;> omega
  exact ⟨k 3 4 17 rfl (by omega), k 1 10 8 rfl (by omega), k 10 14 17 rfl (by omega)⟩
theorem c_upR {J : zJ} {A : zM} (w : wJ J) (h : cJ J A) {i : Nat} (hi : i < jN J) (p q : Nat) : cJ (upR J i p q) (z_wI (z_wI A (zP zQ A 4 i) 3 (zn p)) (zP zQ A 4 i) 4 (zn q)) := by
  have hinj := fun j hj => cJ_inj w h (i := i) (j := j) hi hj
  have n3 := cJ_n3 h hi
  obtain ⟨h1, h2, h3, h4, h5⟩ := h
  refine ⟨by rw [zI_wI_a (Ne.symm n3.1), zI_wI_a (Ne.symm n3.1)]; exact h1, by rw [zI_wI_a (Ne.symm n3.1), zI_wI_a (Ne.symm n3.1)]; exact h2, fun j hj => ?_, fun j a1 a2 => by rw [zP_wI, zP_wI]; exact h4 j a1 a2, fun j k a1 a2 a3 a4 a5 => by simp only [zP_wI]; exact h5 j k a1 a2 a3 a4 a5⟩
  obtain ⟨g1, g2, g3, g4, g5, g6, g7⟩ := h3 j hj
  rw [zP_wI, zP_wI]
  by_cases e : j = i
  · subst e
    refine ⟨g1, by rw [zI_wI_k (by omega), zI_wI_k (by omega)]; exact g2, by rw [zI_wI_k (by omega), zI_wI_k (by omega)]; exact g3, by rw [zI_wI_k (by omega), zI_wI_k (by omega)]; exact g4, by rw [zI_wI_k (by omega), zI_wI_s, jP_upR, if_pos rfl], by rw [zI_wI_s, jQ_upR, if_pos rfl], fun e => ?_⟩
    obtain ⟨k1, k2, k3⟩ := g7 e
    exact ⟨by rw [zI_wI_k (by omega), zI_wI_k (by omega)]; exact k1, by rw [zP_wI, zP_wI]; exact k2, fun k hk => by simp only [zP_wI]; exact k3 k hk⟩
  · have ne : zP zQ A 4 j ≠ zP zQ A 4 i := fun q => e (hinj j hj q.symm).symm
    refine ⟨g1, by rw [zI_wI_a ne, zI_wI_a ne]; exact g2, by rw [zI_wI_a ne, zI_wI_a ne]; exact g3, by rw [zI_wI_a ne, zI_wI_a ne]; exact g4, by rw [zI_wI_a ne, zI_wI_a ne, jP_upR, if_neg e]; exact g5, by rw [zI_wI_a ne, zI_wI_a ne, jQ_upR, if_neg e]; exact g6, fun e => ?_⟩
    obtain ⟨k1, k2, k3⟩ := g7 e
    exact ⟨by rw [zI_wI_a ne, zI_wI_a ne]; exact k1, by rw [zP_wI, zP_wI]; exact k2, fun k hk => by simp only [zP_wI]; exact k3 k hk⟩
theorem r_upR {J : zJ} {B : zM} (h : rJ J B) {i : Nat} (p q : Nat) {v : UInt64} (hv : v = if q = 0 then 0 else zf_div.1 (UInt64.ofNat (iN p)) (UInt64.ofNat (iN q))) (hi : i < jN J) : rJ (upR J i p q) (z_wD (z_wI B 31 i (zn (if q = 0 then 1 else 0))) 32 i v) := by
  obtain ⟨h1, h2, h3, h4⟩ := h
  refine ⟨by rw [zI_wD, zI_wI_a (by omega)]; exact h1, by rw [zD_wD, if_neg (by omega), zD_wI]; exact h2, fun j hj => ?_, fun j a1 a2 => ?_⟩
  · obtain ⟨g1, g2, g3, g4, g5, g6⟩ := h3 j hj
    refine ⟨by rw [zI_wD, zI_wI_a (by omega)]; exact g1, by rw [zI_wD, zI_wI_a (by omega)]; exact g2, by rw [zI_wD, zI_wI_a (by omega)]; exact g3, ?_, ?_, fun k hk => by rw [zI_wD, zI_wI_a (by omega)]; exact g6 k hk⟩
    · rw [zI_wD, jQ_upR]
      by_cases e : j = i
      · subst e; rw [zI_wI_s, if_pos rfl]
      · rw [zI_wI_k e, if_neg e]; exact g4
    · rw [jQ_upR, jP_upR]
      by_cases e : j = i
      · subst e; rw [zD_wD_s, if_pos rfl, if_pos rfl]; exact hv
      · rw [zD_wD, if_neg (fun q => e q.2), zD_wI, if_neg e, if_neg e]; exact g5
  · have h1 : ¬ j < i := fun _ => by have : jN J ≤ j := a1; omega
    have a1 : jN J ≤ j := a1
    rw [zI_wD, zI_wD, zI_wI_a (by omega), zI_wI_k (by omega)]; exact h4 j a1 a2
noncomputable def oTune (pl : Bool) (J : zJ) (x p q : Int32) : Value × Int32 × zJ × List Nat := pif (iOk J x ∧ (0 ≤ p.toInt ∧ p.toInt ≤ 1000) ∧ (0 ≤ q.toInt ∧ q.toInt ≤ 1000) ∧ (q.toInt = 0 → p.toInt = 0)) (if pl = true then (.int (-3), -3, J, []) else if jS J x.toNatClampNeg = 3 ∨ jS J x.toNatClampNeg = 6 then (.int (-15), 5, J, []) else (.int (if q.toNatClampNeg = 0 then 0 else 1), 0, upR J x.toNatClampNeg p.toNatClampNeg q.toNatClampNeg, [])) (.int (-1), -1, J, [])
theorem lt_0T {x : Int32} (h : x.toInt < 0) : z_lt x 0 = true := by rw [z_lt_eq]; exact decide_eq_true (Int32.lt_iff_toInt_lt.mpr (by rw [show (0 : Int32).toInt = 0 by rfl]; exact h))
theorem cond_same {α : Type} (b : Bool) (x : α) : (bif b then x else x) = x := by cases b <;> rfl
theorem z_ne_n0 {m : Nat} (h : ¬ m = 0) (hm : m < 2147483648) : z_ne (zn m) 0 = true := by rw [nL_0]; exact z_ne_T h hm (by omega)
theorem P_tune (d : Nat) {pl : Bool} {J : zJ} {A : zM} {x p q : Int32} (w : wJ J) (h : cJ J A) (hp : zI A 3 15 = bI pl) : cResI 0 0 A (oTune pl J x p q) (z_den zQ (d + 2) mP_tune [.ref 1, .int x, .int p, .int q] A) := by
  unfold oTune
  rw [B_P_tune]
  by_cases gx : iOk J x
  · obtain ⟨i, hi, hi2, rfl⟩ := iOk_ex gx
    have nz := cJ_nz h hi
    have w1 := (w.2.2.2 i hi).1
    rw [c_insAt _ w hi, z_bR_some, zn_N hi2, hp, bI_eq0, z_bq_F nz, cond_false]
    have hc := c_cls w h hi
    obtain ⟨g1, g2, g3, -⟩ := h.2.2.1 i hi
    rcases zn_cases p with hk | ⟨n, hn, rfl⟩
    · rw [pif_F (fun e => by omega), lt_0T hk, cond_true, B_P_refuse, z_bI_some]; exact cRI_st h _ _
    rcases zn_cases q with hk | ⟨m, hm, rfl⟩
    · rw [pif_F (fun e => by omega), lt_0T hk, nL_0, z_lt_F (by omega) (by omega), cond_false, cond_true, B_P_refuse, z_bI_some, cond_same]; exact cRI_st h _ _
    rw [zn_toInt hn, zn_toInt hm, zn_N hn, zn_N hm]
    by_cases b1 : n ≤ 1000
    · by_cases b2 : m ≤ 1000
      · by_cases b3 : m = 0 ∧ n ≠ 0
        · rw [pif_F (fun e => by omega), b3.1]
          simp (disch := omega) only [z_bV_some, z_bI_some, z_bJ_some, z_bD_some, z_bR_some, cond_true, cond_false, Bool.and_true, Bool.true_and, Bool.not_false, Bool.not_true, Bool.and_self, Bool.or_true, Bool.false_or, Bool.true_or, zn_ok, zn_ok0, zn_N, zn_add, zn_mul, zn_sub, z_lt_T, z_lt_F, z_le_T, z_le_F, z_eq_T, z_ne_F, z_eq_F, z_ne_T, z_ix_T, z_lt_m, z_le_m, z_lt_m2, z_le_m2, z_eq_m, z_ne_m, zn_div, z_a31, zn_shl, zn_shr, z_bq_T, z_bq_F, z_bl_T, nL_0, nL_1000, B_P_refuse]
          exact cRI_st h _ _
        · rw [pif_T ⟨gx, by omega, by omega, by omega⟩]
          cases pl
          · rw [if_neg (by decide)]
            by_cases k3 : jS J i = 3
            · rw [if_pos (Or.inl k3)]
              rw [k3] at g3
              by_cases m0 : m = 0
              · have n0 : n = 0 := by omega
                subst m0; subst n0
                simp (disch := omega) only [z_bV_some, z_bI_some, z_bJ_some, z_bD_some, z_bR_some, cond_true, cond_false, Bool.and_true, Bool.true_and, Bool.not_false, Bool.not_true, Bool.and_self, Bool.or_true, Bool.false_or, Bool.true_or, zn_ok, zn_ok0, zn_N, zn_add, zn_mul, zn_sub, z_lt_T, z_lt_F, z_le_T, z_le_F, z_eq_T, z_ne_F, z_eq_F, z_ne_T, z_ix_T, z_lt_m, z_le_m, z_lt_m2, z_le_m2, z_eq_m, z_ne_m, zn_div, z_a31, zn_shl, zn_shr, z_bq_T, z_bq_F, z_bl_T, nL_0, nL_3, nL_1000, hc, g3, B_P_found]
                exact cRI_st h _ _
              · simp (disch := omega) only [z_bV_some, z_bI_some, z_bJ_some, z_bD_some, z_bR_some, cond_true, cond_false, Bool.and_true, Bool.true_and, Bool.not_false, Bool.not_true, Bool.and_self, Bool.or_true, Bool.false_or, Bool.true_or, zn_ok, zn_ok0, zn_N, zn_add, zn_mul, zn_sub, z_lt_T, z_lt_F, z_le_T, z_le_F, z_eq_T, z_ne_F, z_eq_F, z_ne_T, z_ix_T, z_lt_m, z_le_m, z_lt_m2, z_le_m2, z_eq_m, z_ne_m, zn_div, z_a31, zn_shl, zn_shr, z_bq_T, z_bq_F, z_bl_T, nL_0, nL_3, nL_1000, hc, g3, B_P_found]
                exact cRI_st h _ _
            · by_cases k6 : jS J i = 6
              · rw [if_pos (Or.inr k6)]
                rw [k6] at g3
                by_cases m0 : m = 0
                · have n0 : n = 0 := by omega
                  subst m0; subst n0
                  simp (disch := omega) only [z_bV_some, z_bI_some, z_bJ_some, z_bD_some, z_bR_some, cond_true, cond_false, Bool.and_true, Bool.true_and, Bool.not_false, Bool.not_true, Bool.and_self, Bool.or_true, Bool.false_or, Bool.true_or, zn_ok, zn_ok0, zn_N, zn_add, zn_mul, zn_sub, z_lt_T, z_lt_F, z_le_T, z_le_F, z_eq_T, z_ne_F, z_eq_F, z_ne_T, z_ix_T, z_lt_m, z_le_m, z_lt_m2, z_le_m2, z_eq_m, z_ne_m, zn_div, z_a31, zn_shl, zn_shr, z_bq_T, z_bq_F, z_bl_T, nL_0, nL_3, nL_6, nL_1000, hc, g3, B_P_found]
                  exact cRI_st h _ _
                · simp (disch := omega) only [z_bV_some, z_bI_some, z_bJ_some, z_bD_some, z_bR_some, cond_true, cond_false, Bool.and_true, Bool.true_and, Bool.not_false, Bool.not_true, Bool.and_self, Bool.or_true, Bool.false_or, Bool.true_or, zn_ok, zn_ok0, zn_N, zn_add, zn_mul, zn_sub, z_lt_T, z_lt_F, z_le_T, z_le_F, z_eq_T, z_ne_F, z_eq_F, z_ne_T, z_ix_T, z_lt_m, z_le_m, z_lt_m2, z_le_m2, z_eq_m, z_ne_m, zn_div, z_a31, zn_shl, zn_shr, z_bq_T, z_bq_F, z_bl_T, nL_0, nL_3, nL_6, nL_1000, hc, g3, B_P_found]
                  exact cRI_st h _ _
              · rw [if_neg (by omega)]
                have hR : ∀ v : Int32, cResI 0 0 A (.int v, 0, upR J i n m, []) (some (some (.int v), z_wI (z_wI (z_wI A (zP zQ A 4 i) 3 (zn n)) (zP zQ A 4 i) 4 (zn m)) 1 7 0)) := by
                  intro v
                  have n3 := cJ_n3 h hi
                  have f1 : zFr 0 0 (xcI A) A (z_wI A (zP zQ A 4 i) 3 (zn n)) := zFr_wI (X := xcI A) (Or.inr (Or.inr (Or.inr (Or.inr ⟨_, g1, tg_I _⟩))))
                  have f2 : zFr 0 0 (xcI A) (z_wI A (zP zQ A 4 i) 3 (zn n)) (z_wI (z_wI A (zP zQ A 4 i) 3 (zn n)) (zP zQ A 4 i) 4 (zn m)) := zFr_wI (X := xcI A) (Or.inr (Or.inr (Or.inr (Or.inr ⟨_, g1, tg_I _⟩))))
                  have f3 : zFr 0 0 (xcI A) (z_wI (z_wI A (zP zQ A 4 i) 3 (zn n)) (zP zQ A 4 i) 4 (zn m)) (z_wI (z_wI (z_wI A (zP zQ A 4 i) 3 (zn n)) (zP zQ A 4 i) 4 (zn m)) 1 7 0) := zFr_wI (X := xcI A) (Or.inl ⟨rfl, rfl⟩)
                  refine ⟨_, rfl, cJ_st (c_upR w h hi n m) 0, zI_wI_s .., fun j _ => ?_, zFr_trans (zFr_trans f1 f2 (fun _ _ _ e => e)) f3 (fun _ _ _ e => e)⟩
                  rw [zI_wI_a (by omega), zI_wI_a (Ne.symm n3.2.2), zI_wI_a (Ne.symm n3.2.2)]; rfl
                by_cases m0 : m = 0
                · have n0 : n = 0 := by omega
                  subst m0; subst n0
                  simp (disch := omega) only [z_bV_some, z_bI_some, z_bJ_some, z_bD_some, z_bR_some, cond_true, cond_false, Bool.and_true, Bool.true_and, Bool.not_false, Bool.not_true, Bool.and_self, Bool.or_true, Bool.false_or, Bool.true_or, zn_ok, zn_ok0, zn_N, zn_add, zn_mul, zn_sub, z_lt_T, z_lt_F, z_le_T, z_le_F, z_eq_T, z_ne_F, z_eq_F, z_ne_T, z_ix_T, z_lt_m, z_le_m, z_lt_m2, z_le_m2, z_eq_m, z_ne_m, zn_div, z_a31, zn_shl, zn_shr, z_bq_T, z_bq_F, z_bl_T, nL_0, nL_3, nL_6, nL_1000, hc, z_cls_wI, g3, B_P_done, if_true]
                  rw [← nL_0] at hR ⊢
                  exact hR 0
                · rw [if_neg m0]
                  have hR1 := hR 1
                  rw [nL_0] at hR1
                  simp (disch := omega) only [z_bV_some, z_bI_some, z_bJ_some, z_bD_some, z_bR_some, cond_true, cond_false, Bool.and_true, Bool.true_and, Bool.not_false, Bool.not_true, Bool.and_self, Bool.or_true, Bool.false_or, Bool.true_or, zn_ok, zn_ok0, zn_N, zn_add, zn_mul, zn_sub, z_lt_T, z_lt_F, z_le_T, z_le_F, z_eq_T, z_ne_F, z_eq_F, z_ne_T, z_ix_T, z_lt_m, z_le_m, z_lt_m2, z_le_m2, z_eq_m, z_ne_m, zn_div, z_a31, zn_shl, zn_shr, z_bq_T, z_bq_F, z_bl_T, nL_0, nL_3, nL_6, nL_1000, hc, z_cls_wI, g3, B_P_done]
                  exact hR1
          · rw [if_pos rfl]
            by_cases m0 : m = 0
            · have n0 : n = 0 := by omega
              subst m0; subst n0
              simp (disch := omega) only [z_bV_some, z_bI_some, z_bJ_some, z_bD_some, z_bR_some, cond_true, cond_false, Bool.and_true, Bool.true_and, Bool.not_false, Bool.not_true, Bool.and_self, Bool.or_true, Bool.false_or, Bool.true_or, zn_ok, zn_ok0, zn_N, zn_add, zn_mul, zn_sub, z_lt_T, z_lt_F, z_le_T, z_le_F, z_eq_T, z_ne_F, z_eq_F, z_ne_T, z_ix_T, z_lt_m, z_le_m, z_lt_m2, z_le_m2, z_eq_m, z_ne_m, zn_div, z_a31, zn_shl, zn_shr, z_bq_T, z_bq_F, z_bl_T, nL_0, nL_1000, B_P_refuse]
              exact cRI_st h _ _
            · simp (disch := omega) only [z_bV_some, z_bI_some, z_bJ_some, z_bD_some, z_bR_some, cond_true, cond_false, Bool.and_true, Bool.true_and, Bool.not_false, Bool.not_true, Bool.and_self, Bool.or_true, Bool.false_or, Bool.true_or, zn_ok, zn_ok0, zn_N, zn_add, zn_mul, zn_sub, z_lt_T, z_lt_F, z_le_T, z_le_F, z_eq_T, z_ne_F, z_eq_F, z_ne_T, z_ix_T, z_lt_m, z_le_m, z_lt_m2, z_le_m2, z_eq_m, z_ne_m, zn_div, z_a31, zn_shl, zn_shr, z_bq_T, z_bq_F, z_bl_T, nL_0, nL_1000, B_P_refuse]
              exact cRI_st h _ _
      · rw [pif_F (fun e => by omega)]
        simp (disch := omega) only [z_bV_some, z_bI_some, z_bJ_some, z_bD_some, z_bR_some, cond_true, cond_false, Bool.and_true, Bool.true_and, Bool.not_false, Bool.not_true, Bool.and_self, Bool.or_true, Bool.false_or, Bool.true_or, zn_ok, zn_ok0, zn_N, zn_add, zn_mul, zn_sub, z_lt_T, z_lt_F, z_le_T, z_le_F, z_eq_T, z_ne_F, z_eq_F, z_ne_T, z_ix_T, z_lt_m, z_le_m, z_lt_m2, z_le_m2, z_eq_m, z_ne_m, zn_div, z_a31, zn_shl, zn_shr, z_bq_T, z_bq_F, z_bl_T, nL_0, nL_1000, B_P_refuse]
        exact cRI_st h _ _
    · rw [pif_F (fun e => by omega)]
      simp (disch := omega) only [z_bV_some, z_bI_some, z_bJ_some, z_bD_some, z_bR_some, cond_true, cond_false, Bool.and_true, Bool.true_and, Bool.not_false, Bool.not_true, Bool.and_self, Bool.or_true, Bool.false_or, Bool.true_or, zn_ok, zn_ok0, zn_N, zn_add, zn_mul, zn_sub, z_lt_T, z_lt_F, z_le_T, z_le_F, z_eq_T, z_ne_F, z_eq_F, z_ne_T, z_ix_T, z_lt_m, z_le_m, z_lt_m2, z_le_m2, z_eq_m, z_ne_m, zn_div, z_a31, zn_shl, zn_shr, z_bq_T, z_bq_F, z_bl_T, nL_0, nL_1000, B_P_refuse]
      exact cRI_st h _ _
  · rw [pif_F (fun e => gx e.1), c_insAt_no _ w h gx, z_bR_some]
    simp (disch := omega) only [z_bV_some, z_bI_some, z_bJ_some, z_bD_some, z_bR_some, cond_true, cond_false, Bool.and_true, Bool.true_and, Bool.not_false, Bool.not_true, Bool.and_self, Bool.or_true, Bool.false_or, Bool.true_or, show Nat.beq 0 0 = true from rfl, B_P_refuse]
    exact cRI_st h _ _
