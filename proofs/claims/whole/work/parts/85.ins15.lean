/-! S LEVEL, acts: instrument, the reference. -/
theorem one_1 : (4607182418800017408 : UInt64) = zf_div.1 (UInt64.ofNat (iN 1)) (UInt64.ofNat (iN 1)) := by rw [zf_div.2]; decide +kernel
theorem r_ad {J : zJ} {B : zM} (h : rJ J B) (hn : jN J < 60) (s : Nat) : rJ (adI J s) (z_wI (z_wI (z_wD (z_wI B 26 (jN J) (zn s)) 32 (jN J) 4607182418800017408) 29 (jN J) (zn 1)) 15 14 (zn (jN J + 1))) := by
  obtain ⟨h1, h2, h3, h4⟩ := h
  have io : ∀ a k, a ≠ 15 → a ≠ 29 → a ≠ 26 → zI (z_wI (z_wI (z_wD (z_wI B 26 (jN J) (zn s)) 32 (jN J) 4607182418800017408) 29 (jN J) (zn 1)) 15 14 (zn (jN J + 1))) a k = zI B a k := fun a k a1 a2 a3 => by rw [zI_wI_a a1, zI_wI_a a2, zI_wD, zI_wI_a a3]
  refine ⟨by rw [zI_wI_s, jN_ad], by rw [zD_wI, zD_wI, zD_wD, if_neg (by omega), zD_wI]; exact h2, fun i hi => ?_, fun i a1 a2 => ?_⟩
  · rw [jN_ad] at hi
    rw [jS_ad, jM_ad, jP_ad, jQ_ad, jZ_ad, jB_ad]
    by_cases e : i = jN J
    · subst e
      simp only [if_true]
      obtain ⟨k1, k2⟩ := h4 (jN J) (Nat.le_refl _) hn
      refine ⟨by rw [zI_wI_a (by omega), zI_wI_a (by omega), zI_wD, zI_wI_s], by rw [io 27 _ (by omega) (by omega) (by omega)]; exact k1, by rw [zI_wI_a (by omega), zI_wI_s], by rw [io 31 _ (by omega) (by omega) (by omega)]; exact k2, by rw [zD_wI, zD_wI, zD_wD_s]; exact one_1, fun k hk => absurd hk (Nat.not_lt_zero _)⟩
    · simp only [if_neg e]
      obtain ⟨g1, g2, g3, g4, g5, g6⟩ := h3 i (by omega)
      refine ⟨by rw [zI_wI_a (by omega), zI_wI_a (by omega), zI_wD, zI_wI_k e]; exact g1, by rw [io 27 _ (by omega) (by omega) (by omega)]; exact g2, by rw [zI_wI_a (by omega), zI_wI_k e, zI_wD, zI_wI_a (by omega)]; exact g3, by rw [io 31 _ (by omega) (by omega) (by omega)]; exact g4, by rw [zD_wI, zD_wI, zD_wD, if_neg (fun q => e q.2), zD_wI]; exact g5, fun k hk => by rw [io 28 _ (by omega) (by omega) (by omega)]; exact g6 k hk⟩
  · rw [jN_ad] at a1
    rw [io 27 _ (by omega) (by omega) (by omega), io 31 _ (by omega) (by omega) (by omega)]
    exact h4 i (by omega) a2
theorem Q_instrument (d : Nat) {pl : Bool} {J : zJ} {B : zM} {x : Int32} (w : wJ J) (h : rJ J B) (hp : zI B 15 36 = bI pl) : rResI B (oIns pl J x) (z_den zQ (d + 2) mQ_instrument [.ref 15, .int x] B) := by
  unfold oIns
  have w0 := w.1
  rw [B_Q_instrument, nL_6]
  by_cases g : 0 ≤ x.toInt ∧ x.toInt ≤ 6
  · rw [pif_T g, show z_den zQ (d + 1) mQ_within [.int x, .int 0, .int (zn 6)] B = some (some (.int (zn 1)), B) by rw [nL_0]; exact Q_within_T (a := 0) (n := 6) (by omega) (by omega) g, z_bI_some, hp, bI_eq0, h.1]
    obtain ⟨s, hs, rfl⟩ := zn_ex g.1
    rw [zn_N hs]
    cases pl
    · rw [if_neg (by decide)]
      by_cases hn : jN J < 60
      · rw [if_pos hn]
        have hr := r_ad h hn s
        simp (disch := omega) only [z_bV_some, z_bI_some, z_bJ_some, z_bD_some, z_bR_some, cond_true, cond_false, Bool.and_true, Bool.true_and, Bool.not_false, Bool.not_true, Bool.and_self, Bool.or_true, Bool.false_or, Bool.true_or, zn_ok, zn_ok0, zn_N, zn_add, zn_mul, zn_sub, z_lt_T, z_lt_F, z_le_T, z_le_F, z_eq_T, z_ne_F, z_eq_F, z_ne_T, z_ix_T, z_lt_m, z_le_m, z_lt_m2, z_le_m2, z_eq_m, z_ne_m, zn_div, z_a31, zn_shl, zn_shr, z_bq_T, z_bq_F, z_bl_T, nL_1, nL_60, zI_wI_s, B_Q_well, show z_ne (zn 1) 0 = true from z_ne_n0 (by omega) (by omega), Nat.add_sub_cancel]
        refine ⟨_, rfl, rJ_st hr 0, zI_wI_s .., fun j _ => ?_, ?_⟩
        · rw [zI_wI_a (by omega), zI_wI_a (by omega), zI_wI_a (by omega), zI_wD, zI_wI_a (by omega)]; rfl
        · have f1 : zFr 0 0 xrI B (z_wI B 26 (jN J) (zn s)) := zFr_wI (X := xrI) (Or.inr (Or.inl ⟨by omega, by omega⟩))
          have f2 : zFr 0 0 xrI (z_wI B 26 (jN J) (zn s)) (z_wD (z_wI B 26 (jN J) (zn s)) 32 (jN J) 4607182418800017408) := zFr_wD (X := xrI) (Or.inr (Or.inr (Or.inr (Or.inl rfl))))
          have t : ∀ {a k : Nat} {v : Int32} {M : zM}, xrI a k → zFr 0 0 xrI B M → zFr 0 0 xrI B (z_wI M a k v) := fun hx f => zFr_trans f (zFr_wI hx) (fun _ _ _ e => e)
          exact t (Or.inl ⟨rfl, Or.inl rfl⟩) (t (Or.inl ⟨rfl, Or.inr (Or.inl rfl)⟩) (t (Or.inr (Or.inl ⟨by omega, by omega⟩)) (zFr_trans f1 f2 (fun _ _ _ e => e))))
      · rw [if_neg hn]
        have e60 : jN J = 60 := by omega
        rw [e60]
        simp (disch := omega) only [z_bV_some, z_bI_some, z_bJ_some, z_bD_some, z_bR_some, cond_true, cond_false, Bool.and_true, Bool.true_and, Bool.not_false, Bool.not_true, Bool.and_self, Bool.or_true, Bool.false_or, Bool.true_or, zn_ok, zn_ok0, zn_N, zn_add, zn_mul, zn_sub, z_lt_T, z_lt_F, z_le_T, z_le_F, z_eq_T, z_ne_F, z_eq_F, z_ne_T, z_ix_T, z_lt_m, z_le_m, z_lt_m2, z_le_m2, z_eq_m, z_ne_m, zn_div, z_a31, zn_shl, zn_shr, z_bq_T, z_bq_F, z_bl_T, nL_60, B_Q_no, show z_ne (zn 1) 0 = true from z_ne_n0 (by omega) (by omega)]
        exact rRI_st h _ _
    · rw [if_pos rfl]
      simp (disch := omega) only [z_bV_some, z_bI_some, z_bJ_some, z_bD_some, z_bR_some, cond_true, cond_false, Bool.and_true, Bool.true_and, Bool.not_false, Bool.not_true, Bool.and_self, Bool.or_true, Bool.false_or, Bool.true_or, zn_ok, zn_ok0, zn_N, zn_add, zn_mul, zn_sub, z_lt_T, z_lt_F, z_le_T, z_le_F, z_eq_T, z_ne_F, z_eq_F, z_ne_T, z_ix_T, z_lt_m, z_le_m, z_lt_m2, z_le_m2, z_eq_m, z_ne_m, zn_div, z_a31, zn_shl, zn_shr, z_bq_T, z_bq_F, z_bl_T, B_Q_no, show z_ne (zn 1) 0 = true from z_ne_n0 (by omega) (by omega)]
      exact rRI_st h _ _
  · rw [pif_F g, show z_den zQ (d + 1) mQ_within [.int x, .int 0, .int (zn 6)] B = some (some (.int (zn 0)), B) by rw [nL_0]; exact Q_within_F (a := 0) (n := 6) (by omega) (by omega) g, z_bI_some, nL_0, z_ne_F, cond_false, B_Q_no, z_bI_some]
    exact rRI_st h _ _
