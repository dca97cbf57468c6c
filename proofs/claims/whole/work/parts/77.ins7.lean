/-! S LEVEL, acts: frequency, mute, higher. -/
theorem cRI_bs {c s : Nat} {J : zJ} {A : zM} (w : wJ J) (h : cJ J A) (l : List Nat) (x : Value) (v : Int32) : cResI c s A (x, v, J, l) (some (some x, z_wI (zbs 10 l A) 1 7 v)) := by
  refine ⟨_, rfl, cJ_st (cJ_bs h l w) v, zI_wI_s .., fun j _ => zI_wI_a (by omega), ?_⟩
  have f1 : zFr 0 0 (xcI A) A (zbs 10 l A) := zFr_mono (zbs_fr 10 l A) (Nat.le_refl _) (Nat.le_refl _) (fun _ _ e => Or.inr (Or.inl e))
  have f2 : zFr 0 0 (xcI A) (zbs 10 l A) (z_wI (zbs 10 l A) 1 7 v) := zFr_wI (X := xcI A) (Or.inl ⟨rfl, rfl⟩)
  exact zFr_mono (zFr_trans f1 f2 (fun _ _ _ e => e)) (Nat.zero_le _) (Nat.zero_le _) (fun _ _ e => e)
theorem xq_xrI {B B' : zM} (f : zFr 0 0 xq B B') : zFr 0 0 xrI B B' := zFr_mono f (Nat.le_refl _) (Nat.le_refl _) (fun a k e => by
  rcases e with e | e | e
  · exact Or.inr (Or.inr (Or.inr (Or.inr ⟨by omega, by omega⟩)))
  · exact Or.inr (Or.inr (Or.inr (Or.inr ⟨by omega, by omega⟩)))
  · exact Or.inl ⟨e.1, Or.inr (Or.inr (Or.inr e.2))⟩)
theorem z_bJ_id (x : Int64) (M : zM) : z_bJ (some (some (.long x), M)) (fun x M => some (some (.long x), M)) = some (some (.long x), M) := rfl
def fqF (o : Option UInt64) : Int64 := match o with
  | none => 9221120237041090560
  | some v => UInt64.toInt64 v
noncomputable def oFreq (J : zJ) (x : Int32) : Value × Int32 × zJ × List Nat := pif (iOk J x) (if jS J x.toNatClampNeg = 3 then (.long 0, 5, J, []) else (.long (fqF (pvJ J x.toNatClampNeg).1), 0, J, (pvJ J x.toNatClampNeg).2)) (.long 0, -1, J, [])
theorem oP_J {J : zJ} (w : wJ J) {i : Nat} (hi : i < jN J) : oP (pvJ J i).1 := oP_pv w (bs_R w) 40 i hi
theorem P_frequency (d : Nat) {J : zJ} {A : zM} {x : Int32} (w : wJ J) (h : cJ J A) : cResI 0 0 A (oFreq J x) (z_den zQ (d + 46) mP_frequency [.ref 1, .int x] A) := by
  unfold oFreq
  by_cases g : iOk J x
  · rw [pif_T g]
    obtain ⟨i, hi, hi2, rfl⟩ := iOk_ex g
    rw [zn_N hi2, B_P_frequency, c_insAt _ w hi, z_bR_some]
    obtain ⟨g1, g2, g3, -⟩ := h.2.2.1 i hi
    have nz := cJ_nz h hi
    have w1 := (w.2.2.2 i hi).1
    have hc : z_cls zQ A (zP zQ A 4 i) [0, 1, 2, 3, 5, 6, 7] = true := by
      rw [z_cls_of g1]
      have : jS J i = 0 ∨ jS J i = 1 ∨ jS J i = 2 ∨ jS J i = 3 ∨ jS J i = 4 ∨ jS J i = 5 ∨ jS J i = 6 := by omega
      rcases this with e | e | e | e | e | e | e <;> rw [e] <;> rfl
    by_cases g3' : jS J i = 3
    · rw [if_pos g3']
      rw [g3'] at g3
      simp (disch := omega) only [z_bV_some, z_bI_some, z_bJ_some, z_bD_some, z_bR_some, cond_true, cond_false, Bool.and_true, Bool.true_and, Bool.not_false, Bool.not_true, Bool.and_self, Bool.or_true, Bool.false_or, Bool.true_or, zn_ok, zn_ok0, zn_N, zn_add, zn_mul, zn_sub, z_lt_T, z_lt_F, z_le_T, z_le_F, z_eq_T, z_ne_F, z_eq_F, z_ne_T, z_ix_T, z_lt_m, z_le_m, z_lt_m2, z_le_m2, z_eq_m, z_ne_m, zn_div, z_a31, zn_shl, zn_shr, z_bq_T, z_bq_F, z_bl_T, nL_3, hc, g3, B_P_refuseLong]
      exact cRI_st h _ _
    · rw [if_neg g3']
      have hp := c_pOf d w h hi
      simp (disch := omega) only [z_bV_some, z_bI_some, z_bJ_some, z_bD_some, z_bR_some, cond_true, cond_false, Bool.and_true, Bool.true_and, Bool.not_false, Bool.not_true, Bool.and_self, Bool.or_true, Bool.false_or, Bool.true_or, zn_ok, zn_ok0, zn_N, zn_add, zn_mul, zn_sub, z_lt_T, z_lt_F, z_le_T, z_le_F, z_eq_T, z_ne_F, z_eq_F, z_ne_T, z_ix_T, z_lt_m, z_le_m, z_lt_m2, z_le_m2, z_eq_m, z_ne_m, zn_div, z_a31, zn_shl, zn_shr, z_bq_T, z_bq_F, z_bl_T, nL_3, hc, g3, hp]
      cases ho : (pvJ J i).1 with
      | none =>
        show cResI 0 0 A _ (z_bJ (z_den zQ (d + 44 + 1) mP_bitsOf [.double 13830554455654793216] _) _)
        rw [P_bits_m, z_bJ_some, B_P_doneLong, z_bJ_some]
        exact cRI_bs w h _ _ _
      | some v =>
        show cResI 0 0 A _ (z_bJ (z_den zQ (d + 44 + 1) mP_bitsOf [.double v] _) _)
        rw [P_bits _ _ (oP_J w hi v ho), z_bJ_some, B_P_doneLong, z_bJ_some]
        exact cRI_bs w h _ _ _
  · rw [pif_F g, B_P_frequency, c_insAt_no _ w h g, z_bR_some]
    simp (disch := omega) only [z_bV_some, z_bI_some, z_bJ_some, z_bD_some, z_bR_some, cond_true, cond_false, Bool.and_true, Bool.true_and, Bool.not_false, Bool.not_true, Bool.and_self, Bool.or_true, Bool.false_or, Bool.true_or, show Nat.beq 0 0 = true from rfl, B_P_refuseLong]
    exact cRI_st h _ _
theorem r_tones_T (d : Nat) {J : zJ} {B : zM} {i : Nat} (w : wJ J) (h : rJ J B) (hi : i < jN J) (h3 : jS J i ≠ 3) : z_den zQ (d + 3) mQ_tones [.ref 15, .int (zn i)] B = some (some (.int (zn 0)), z_wI B 15 0 (zn 0)) := by
  have w0 := w.1
  have w1 := (w.2.2.2 i hi).1
  have g1 := (h.2.2.1 i hi).1
  rw [B_Q_tones, r_isI d w h ⟨by rw [zn_toInt (by omega)]; omega, by rw [zn_toInt (by omega)]; omega⟩]
  simp (disch := omega) only [z_bV_some, z_bI_some, z_bJ_some, z_bD_some, z_bR_some, cond_true, cond_false, Bool.and_true, Bool.true_and, Bool.not_false, Bool.not_true, Bool.and_self, Bool.or_true, Bool.false_or, Bool.true_or, zn_ok, zn_ok0, zn_N, zn_add, zn_mul, zn_sub, z_lt_T, z_lt_F, z_le_T, z_le_F, z_eq_T, z_ne_F, z_eq_F, z_ne_T, z_ix_T, z_lt_m, z_le_m, z_lt_m2, z_le_m2, z_eq_m, z_ne_m, zn_div, z_a31, zn_shl, zn_shr, z_bq_T, z_bq_F, z_bl_T, nL_0, nL_1, nL_3, g1, B_Q_well]
theorem r_tones_3 (d : Nat) {J : zJ} {B : zM} {i : Nat} (w : wJ J) (h : rJ J B) (hi : i < jN J) (h3 : jS J i = 3) : z_den zQ (d + 3) mQ_tones [.ref 15, .int (zn i)] B = some (some (.int (-15)), z_wI B 15 0 5) := by
  have w0 := w.1
  have g1 := (h.2.2.1 i hi).1
  rw [h3] at g1
  rw [B_Q_tones, r_isI d w h ⟨by rw [zn_toInt (by omega)]; omega, by rw [zn_toInt (by omega)]; omega⟩]
  simp (disch := omega) only [z_bV_some, z_bI_some, z_bJ_some, z_bD_some, z_bR_some, cond_true, cond_false, Bool.and_true, Bool.true_and, Bool.not_false, Bool.not_true, Bool.and_self, Bool.or_true, Bool.false_or, Bool.true_or, zn_ok, zn_ok0, zn_N, zn_add, zn_mul, zn_sub, z_lt_T, z_lt_F, z_le_T, z_le_F, z_eq_T, z_ne_F, z_eq_F, z_ne_T, z_ix_T, z_lt_m, z_le_m, z_lt_m2, z_le_m2, z_eq_m, z_ne_m, zn_div, z_a31, zn_shl, zn_shr, z_bq_T, z_bq_F, z_bl_T, nL_0, nL_1, nL_3, g1, B_Q_finds]
  rfl
theorem r_tones_no (d : Nat) {J : zJ} {B : zM} {x : Int32} (w : wJ J) (h : rJ J B) (hx : ¬ iOk J x) : z_den zQ (d + 3) mQ_tones [.ref 15, .int x] B = some (some (.int (-1)), z_wI B 15 0 (-1)) := by
  rw [B_Q_tones, r_isI_no d w h hx]
  simp (disch := omega) only [z_bI_some, cond_true, cond_false, nL_0, z_ne_F, B_Q_no]
theorem Q_frequency (d : Nat) {J : zJ} {B : zM} {x : Int32} (w : wJ J) (h : rJ J B) : rResI B (oFreq J x) (z_den zQ (d + 5) mQ_frequency [.ref 15, .int x] B) := by
  unfold oFreq
  by_cases g : iOk J x
  · rw [pif_T g]
    obtain ⟨i, hi, hi2, rfl⟩ := iOk_ex g
    rw [zn_N hi2, B_Q_frequency]
    by_cases g3 : jS J i = 3
    · rw [if_pos g3, r_tones_3 (d + 1) w h hi g3, z_bI_some, show z_le (0 : Int32) (-15) = false by rw [z_le_eq]; decide, cond_false]
      exact rRI_st h _ _
    · rw [if_neg g3, r_tones_T (d + 1) w h hi g3, z_bI_some, ← nL_0, z_le_00, cond_true]
      obtain ⟨l2, B', q1, q2, q3, q4⟩ := r_fOf d w (rJ_st h 0) hi
      rw [q1, z_bD_some]
      have hn := new_56 (z_wI B 15 0 0)
      have e0 : zI B' 15 0 = 0 := by rw [zFr_I q2 0 (by omega) (by unfold xq; omega), zI_wI_s]
      have f1 : zFr 0 0 xrI B (z_wI B 15 0 0) := zFr_wI (X := xrI) (Or.inl ⟨rfl, Or.inl rfl⟩)
      have f2 := zFr_trans f1 (xq_xrI q2) (fun _ _ _ e => e)
      have ht : trR B (pvJ J i).2 B' := fun j hj => by rw [q4 j hj]; exact zbs_two _ _ _ (fun k _ => zI_wI_a (by omega)) j hj
      have hJ' := rJ_fr (rJ_st h 0) q2
      cases ho : (pvJ J i).1 with
      | none =>
        rw [ho] at q3
        have q3 : zI B' 15 35 = zn 1 := q3
        rw [q3, nL_0, z_eq_F (by omega) (by omega) (by omega), cond_false, ← nL_0]
        exact ⟨B', rfl, hJ', e0, ht, f2⟩
      | some v =>
        rw [ho] at q3
        obtain ⟨q3, rfl⟩ := q3
        rw [q3, nL_0, z_eq_T, cond_true, Q_bits (d + 2) B' (oP_J w hi l2 ho), z_bJ_some, ← nL_0]
        exact ⟨B', rfl, hJ', e0, ht, f2⟩
  · rw [pif_F g, B_Q_frequency, r_tones_no (d + 1) w h g, z_bI_some, z_le_0m, cond_false]
    exact rRI_st h _ _
