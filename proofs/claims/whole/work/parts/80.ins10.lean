/-! S LEVEL, acts: base, members. -/
def upE (J : zJ) (v : Nat) : zJ := (J.1, J.2.1, J.2.2.1, J.2.2.2.1, J.2.2.2.2.1, J.2.2.2.2.2.1, J.2.2.2.2.2.2.1, v)
theorem ms_cg {J J' : zJ} {i : Nat} : ∀ (m k : Nat), (∀ u, k ≤ u → u < k + m → jB J' i u = jB J i u) → msF J' i k m = msF J i k m
  | 0, _, _ => rfl
  | m + 1, k, h => by
    show jB J' i k :: msF J' i (k + 1) m = jB J i k :: msF J i (k + 1) m
    rw [h k (by omega) (by omega), ms_cg m (k + 1) (fun u h1 h2 => h u (by omega) (by omega))]
theorem smZ_cg {J J' : zJ} : ∀ (l : List Nat), (∀ i, i ∈ l → jZ J' i = jZ J i) → smZ J' l = smZ J l
  | [], _ => rfl
  | i :: r, h => by
    show jZ J' i + smZ J' r = jZ J i + smZ J r
    rw [h i (List.mem_cons_self ..), smZ_cg r (fun j hj => h j (List.mem_cons_of_mem _ hj))]
/-- only what pitches need has changed -/
theorem wJ_up {J J' : zJ} (w : wJ J) (eN : jN J' = jN J) (eS : jS J' = jS J) (eM : jM J' = jM J) (eB : jB J' = jB J) (eZ : jZ J' = jZ J) (hE : 1 ≤ jE J' ∧ jE J' ≤ 32000) (hP : ∀ i, i < jN J → jP J' i ≤ 1000 ∧ jQ J' i ≤ 1000) : wJ J' := by
  refine ⟨by rw [eN]; exact w.1, hE.1, hE.2, fun i hi => ?_⟩
  rw [eN] at hi
  obtain ⟨w1, w2, w3, w4, w5, w6, w7, w8⟩ := w.2.2.2 i hi
  rw [eS, eM, eZ, eB, eN]
  refine ⟨w1, w2, w3, (hP i hi).1, (hP i hi).2, ?_, w7, w8⟩
  rw [w6, ms_cg (J := J) (J' := J') (jM J i) 0 (fun u _ _ => by rw [eB]), smZ_cg (J := J) (J' := J') _ (fun j _ => by rw [eZ])]
theorem w_upE {J : zJ} (w : wJ J) {v : Nat} (h1 : 1 ≤ v) (h2 : v ≤ 32000) : wJ (upE J v) := wJ_up w rfl rfl rfl rfl rfl ⟨h1, h2⟩ (fun i hi => ⟨(w.2.2.2 i hi).2.2.2.1, (w.2.2.2 i hi).2.2.2.2.1⟩)
theorem c_upE {J : zJ} {A : zM} (h : cJ J A) (v : Nat) : cJ (upE J v) (z_wI A 3 12 (zn v)) := by
  obtain ⟨h1, h2, h3, h4, h5⟩ := h
  refine ⟨by rw [zI_wI_k (by omega)]; exact h1, zI_wI_s .., fun i hi => ?_, fun i a1 a2 => by rw [zP_wI]; exact h4 i a1 a2, fun i j a1 a2 a3 a4 a5 => by simp only [zP_wI]; exact h5 i j a1 a2 a3 a4 a5⟩
  obtain ⟨g1, g2, g3, g4, g5, g6, g7⟩ := h3 i hi
  have hne : zP zQ A 4 i ≠ 3 := by
    intro e
    rw [e, show z_hd zQ A 3 = some (4, 17) from rfl] at g1
    have h7 : (4 : Nat) = tgF (jS J i) := congrArg Prod.fst (Option.some.inj g1)
    unfold tgF at h7
    (repeat' split at h7) <;> omega
  rw [zP_wI]
  refine ⟨g1, by rw [zI_wI_a hne]; exact g2, by rw [zI_wI_a hne]; exact g3, by rw [zI_wI_a hne]; exact g4, by rw [zI_wI_a hne]; exact g5, by rw [zI_wI_a hne]; exact g6, fun e => ?_⟩
  obtain ⟨k1, k2, k3⟩ := g7 e
  exact ⟨by rw [zI_wI_a hne]; exact k1, by rw [zP_wI]; exact k2, fun k hk => by simp only [zP_wI]; exact k3 k hk⟩
theorem r_upE {J : zJ} {B : zM} (h : rJ J B) (v : Nat) : rJ (upE J v) (z_wD B 15 22 (zf_div.1 (UInt64.ofNat (iN v)) 4625196817309499392)) := by
  obtain ⟨h1, h2, h3, h4⟩ := h
  refine ⟨by rw [zI_wD]; exact h1, zD_wD_s .., fun i hi => ?_, fun i a1 a2 => by rw [zI_wD, zI_wD]; exact h4 i a1 a2⟩
  obtain ⟨g1, g2, g3, g4, g5, g6⟩ := h3 i hi
  exact ⟨by rw [zI_wD]; exact g1, by rw [zI_wD]; exact g2, by rw [zI_wD]; exact g3, by rw [zI_wD]; exact g4, by rw [zD_wD, if_neg (by omega)]; exact g5, fun k hk => by rw [zI_wD]; exact g6 k hk⟩
noncomputable def oBase (pl : Bool) (J : zJ) (x : Int32) : Value × Int32 × zJ × List Nat := pif (1 ≤ x.toInt ∧ x.toInt ≤ 32000) (if pl = true then (.int (-3), -3, J, []) else (.int 1, 0, upE J x.toNatClampNeg, [])) (.int (-1), -1, J, [])
theorem bI_eq0 (b : Bool) : z_eq (bI b) 0 = !b := by
  cases b
  · rw [bI_F, nL_0, z_eq_T]; rfl
  · rw [bI_T, nL_0, z_eq_F (by omega) (by omega) (by omega)]; rfl
theorem P_base (d : Nat) {pl : Bool} {J : zJ} {A : zM} {x : Int32} (h : cJ J A) (hp : zI A 3 15 = bI pl) : cResI 0 0 A (oBase pl J x) (z_den zQ (d + 2) mP_base [.ref 1, .int x] A) := by
  unfold oBase
  rw [B_P_base, hp, bI_eq0]
  by_cases g : 1 ≤ x.toInt ∧ x.toInt ≤ 32000
  · rw [pif_T g]
    obtain ⟨n, hn, rfl⟩ := zn_ex (show 0 ≤ x.toInt by omega)
    rw [zn_toInt hn] at g
    rw [zn_N hn, nL_1, z_lt_F (by omega) (by omega), show (32000 : Int32) = zn 32000 from (zn_eq 32000).symm, z_le_T (by omega) (by omega)]
    cases pl
    · simp only [Bool.not_false, cond_true, cond_false, B_P_done, z_bI_some, Bool.false_eq_true, if_false]
      refine ⟨_, rfl, cJ_st (c_upE h n) 0, zI_wI_s .., fun j _ => ?_, ?_⟩
      · rw [zI_wI_a (by omega), zI_wI_a (by omega)]; rfl
      · have f1 : zFr 0 0 (xcI A) A (z_wI A 3 12 (zn n)) := zFr_wI (X := xcI A) (Or.inr (Or.inr (Or.inl ⟨rfl, Or.inr rfl⟩)))
        have f2 : zFr 0 0 (xcI A) (z_wI A 3 12 (zn n)) (z_wI (z_wI A 3 12 (zn n)) 1 7 0) := zFr_wI (X := xcI A) (Or.inl ⟨rfl, rfl⟩)
        exact zFr_trans f1 f2 (fun _ _ _ e => e)
    · simp only [Bool.not_true, cond_true, cond_false, B_P_refuse, z_bI_some, if_true]
      exact cRI_st h _ _
  · rw [pif_F g]
    rcases zn_cases x with hk | ⟨n, hn, rfl⟩
    · rw [show z_lt x 1 = true by rw [z_lt_eq]; exact decide_eq_true (Int32.lt_iff_toInt_lt.mpr (by rw [show (1 : Int32).toInt = 1 by rfl]; omega)), cond_true, B_P_refuse, z_bI_some]
      exact cRI_st h _ _
    · rw [zn_toInt hn] at g
      by_cases g0 : n = 0
      · subst g0
        rw [show z_lt (zn 0) 1 = true by rw [nL_1, z_lt_T (by omega) (by omega)], cond_true, B_P_refuse, z_bI_some]
        exact cRI_st h _ _
      · rw [show z_lt (zn n) 1 = false by rw [nL_1, z_lt_F (by omega) (by omega)], show (32000 : Int32) = zn 32000 from (zn_eq 32000).symm, z_le_F (by omega) (by omega), cond_false, cond_false, B_P_refuse, z_bI_some]
        exact cRI_st h _ _
theorem Q_base (d : Nat) {pl : Bool} {J : zJ} {B : zM} {x : Int32} (h : rJ J B) (hp : zI B 15 36 = bI pl) : rResI B (oBase pl J x) (z_den zQ (d + 2) mQ_base [.ref 15, .int x] B) := by
  unfold oBase
  rw [B_Q_base, nL_1, show (32000 : Int32) = zn 32000 from (zn_eq 32000).symm]
  by_cases g : 1 ≤ x.toInt ∧ x.toInt ≤ 32000
  · rw [pif_T g, Q_within_T (a := 1) (n := 32000) (by omega) (by omega) g, z_bI_some, hp, bI_eq0, nL_0, z_ne_T (by omega) (by omega) (by omega), cond_true]
    obtain ⟨n, hn, rfl⟩ := zn_ex (show 0 ≤ x.toInt by omega)
    rw [zn_toInt hn] at g
    rw [zn_N hn, zi_n hn]
    cases pl
    · have hb : z_num (zf_div.1 (UInt64.ofNat (iN n)) 4625196817309499392) = true := nnD_num (b_R (by omega) (by omega)) (by omega)
      rw [hb]
      simp only [Bool.not_false, cond_true, cond_false, B_Q_well, z_bI_some, Bool.false_eq_true, if_false]
      refine ⟨_, rfl, rJ_st (r_upE h n) 0, by rw [zI_wI_s, nL_0], fun j _ => ?_, ?_⟩
      · rw [zI_wI_a (by omega), zI_wD]; rfl
      · have f1 : zFr 0 0 xrI B (z_wD B 15 22 (zf_div.1 (UInt64.ofNat (iN n)) 4625196817309499392)) := zFr_wD (X := xrI) (Or.inl ⟨rfl, Or.inr (Or.inr (Or.inl rfl))⟩)
        have f2 : zFr 0 0 xrI (z_wD B 15 22 (zf_div.1 (UInt64.ofNat (iN n)) 4625196817309499392)) (z_wI (z_wD B 15 22 (zf_div.1 (UInt64.ofNat (iN n)) 4625196817309499392)) 15 0 0) := zFr_wI (X := xrI) (Or.inl ⟨rfl, Or.inl rfl⟩)
        exact zFr_trans f1 f2 (fun _ _ _ e => e)
    · simp only [Bool.not_true, cond_true, cond_false, B_Q_no, z_bI_some, if_true]
      exact rRI_st h _ _
  · rw [pif_F g, Q_within_F (a := 1) (n := 32000) (by omega) (by omega) g, z_bI_some, nL_0, z_ne_F, cond_false, B_Q_no, z_bI_some]
    exact rRI_st h _ _
noncomputable def oMem (J : zJ) (x : Int32) : Value × Int32 × zJ × List Nat := pif (iOk J x) (if jS J x.toNatClampNeg = 6 then (.int (zn (jM J x.toNatClampNeg)), 0, J, []) else (.int (-15), 5, J, [])) (.int (-1), -1, J, [])
theorem c_is6 {J : zJ} {A : zM} (w : wJ J) (h : cJ J A) {i : Nat} (hi : i < jN J) : z_cls zQ A (zP zQ A 4 i) [2] = decide (jS J i = 6) ∧ z_cls zQ A (zP zQ A 4 i) [2, 0, 1, 3, 5, 6, 7] = true := by
  obtain ⟨g1, -⟩ := h.2.2.1 i hi
  have w1 := (w.2.2.2 i hi).1
  rw [z_cls_of g1, z_cls_of g1]
  have : jS J i = 0 ∨ jS J i = 1 ∨ jS J i = 2 ∨ jS J i = 3 ∨ jS J i = 4 ∨ jS J i = 5 ∨ jS J i = 6 := by omega
  rcases this with e | e | e | e | e | e | e <;> rw [e] <;> exact ⟨rfl, rfl⟩
theorem P_members (d : Nat) {J : zJ} {A : zM} {x : Int32} (w : wJ J) (h : cJ J A) : cResI 0 0 A (oMem J x) (z_den zQ (d + 2) mP_members [.ref 1, .int x] A) := by
  unfold oMem
  by_cases g : iOk J x
  · rw [pif_T g]
    obtain ⟨i, hi, hi2, rfl⟩ := iOk_ex g
    have nz := cJ_nz h hi
    rw [zn_N hi2, B_P_members, c_insAt _ w hi, z_bR_some, (c_is6 w h hi).1, (c_is6 w h hi).2]
    obtain ⟨g1, g2, g3, g4, g5, g6, g7⟩ := h.2.2.1 i hi
    by_cases g6' : jS J i = 6
    · rw [if_pos g6', (g7 g6').1, decide_eq_true g6']
      simp (disch := omega) only [z_bV_some, z_bI_some, z_bJ_some, z_bD_some, z_bR_some, cond_true, cond_false, Bool.and_true, Bool.true_and, Bool.not_false, Bool.not_true, Bool.and_self, Bool.or_true, Bool.false_or, Bool.true_or, zn_ok, zn_ok0, zn_N, zn_add, zn_mul, zn_sub, z_lt_T, z_lt_F, z_le_T, z_le_F, z_eq_T, z_ne_F, z_eq_F, z_ne_T, z_ix_T, z_lt_m, z_le_m, z_lt_m2, z_le_m2, z_eq_m, z_ne_m, zn_div, z_a31, zn_shl, zn_shr, z_bq_T, z_bq_F, z_bl_T, show z_eq (1 : Int32) 0 = false by rw [z_eq_eq]; decide, B_P_done]
      exact cRI_st h _ _
    · rw [if_neg g6', decide_eq_false g6']
      simp (disch := omega) only [z_bV_some, z_bI_some, z_bJ_some, z_bD_some, z_bR_some, cond_true, cond_false, Bool.and_true, Bool.true_and, Bool.not_false, Bool.not_true, Bool.and_self, Bool.or_true, Bool.false_or, Bool.true_or, zn_ok, zn_ok0, zn_N, zn_add, zn_mul, zn_sub, z_lt_T, z_lt_F, z_le_T, z_le_F, z_eq_T, z_ne_F, z_eq_F, z_ne_T, z_ix_T, z_lt_m, z_le_m, z_lt_m2, z_le_m2, z_eq_m, z_ne_m, zn_div, z_a31, zn_shl, zn_shr, z_bq_T, z_bq_F, z_bl_T, B_P_found]
      exact cRI_st h _ _
  · rw [pif_F g, B_P_members, c_insAt_no _ w h g, z_bR_some]
    simp (disch := omega) only [z_bV_some, z_bI_some, z_bJ_some, z_bD_some, z_bR_some, cond_true, cond_false, Bool.and_true, Bool.true_and, Bool.not_false, Bool.not_true, Bool.and_self, Bool.or_true, Bool.false_or, Bool.true_or, show Nat.beq 0 0 = true from rfl, B_P_refuse]
    exact cRI_st h _ _
theorem Q_members (d : Nat) {J : zJ} {B : zM} {x : Int32} (w : wJ J) (h : rJ J B) : rResI B (oMem J x) (z_den zQ (d + 3) mQ_members [.ref 15, .int x] B) := by
  unfold oMem
  by_cases g : iOk J x
  · rw [pif_T g, B_Q_members, r_isI d w h g, z_bI_some, nL_0, z_ne_T (by omega) (by omega) (by omega), cond_true]
    obtain ⟨i, hi, hi2, rfl⟩ := iOk_ex g
    have w0 := w.1
    have w1 := (w.2.2.2 i hi).1
    rw [zn_N hi2]
    obtain ⟨g1, g2, -⟩ := h.2.2.1 i hi
    by_cases g6 : jS J i = 6
    · rw [if_pos g6]
      rw [g6] at g1
      simp (disch := omega) only [z_bV_some, z_bI_some, z_bJ_some, z_bD_some, z_bR_some, cond_true, cond_false, Bool.and_true, Bool.true_and, Bool.not_false, Bool.not_true, Bool.and_self, Bool.or_true, Bool.false_or, Bool.true_or, zn_ok, zn_ok0, zn_N, zn_add, zn_mul, zn_sub, z_lt_T, z_lt_F, z_le_T, z_le_F, z_eq_T, z_ne_F, z_eq_F, z_ne_T, z_ix_T, z_lt_m, z_le_m, z_lt_m2, z_le_m2, z_eq_m, z_ne_m, zn_div, z_a31, zn_shl, zn_shr, z_bq_T, z_bq_F, z_bl_T, nL_6, g1, g2, B_Q_well]
      rw [← nL_0]
      exact rRI_st h _ _
    · rw [if_neg g6]
      simp (disch := omega) only [z_bV_some, z_bI_some, z_bJ_some, z_bD_some, z_bR_some, cond_true, cond_false, Bool.and_true, Bool.true_and, Bool.not_false, Bool.not_true, Bool.and_self, Bool.or_true, Bool.false_or, Bool.true_or, zn_ok, zn_ok0, zn_N, zn_add, zn_mul, zn_sub, z_lt_T, z_lt_F, z_le_T, z_le_F, z_eq_T, z_ne_F, z_eq_F, z_ne_T, z_ix_T, z_lt_m, z_le_m, z_lt_m2, z_le_m2, z_eq_m, z_ne_m, zn_div, z_a31, zn_shl, zn_shr, z_bq_T, z_bq_F, z_bl_T, nL_6, g1, B_Q_finds]
      exact rRI_st h _ _
  · rw [pif_F g, B_Q_members, r_isI_no d w h g, z_bI_some, nL_0, z_ne_F, cond_false, B_Q_no, z_bI_some]
    exact rRI_st h _ _
