/-! S LEVEL: pitches of the plain kinds, the class. -/
theorem okU_of {M : zM} {a t n : Nat} (h : z_hd zQ M a = some (t, n)) (l : List (Nat × Nat)) : z_okU zQ M a l = z_has l t := by unfold z_okU; rw [h]
theorem selU_of {M : zM} {a t n : Nat} (h : z_hd zQ M a = some (t, n)) (l : List (Nat × Nat)) : z_selU zQ M a l = z_sel l t := by unfold z_selU; rw [h]
theorem okU_wI (M : zM) (a k a' : Nat) (v : Int32) (l : List (Nat × Nat)) : z_okU zQ (z_wI M a k v) a' l = z_okU zQ M a' l := rfl
theorem selU_wI (M : zM) (a k a' : Nat) (v : Int32) (l : List (Nat × Nat)) : z_selU zQ (z_wI M a k v) a' l = z_selU zQ M a' l := rfl
theorem h_10 (M : zM) : z_hd zQ M 10 = some (14, 17) := rfl
def dO (o : Option UInt64) : UInt64 := match o with
  | none => 13830554455654793216
  | some x => x
noncomputable def xF (b : UInt64) (p q : Nat) : UInt64 := zf_mul.1 b (zf_div.1 (UInt64.ofNat (iN p)) (UInt64.ofNat (iN q)))
def bR (b : UInt64) : Prop := nnD b 1018 1034
theorem i_nn {p : Nat} (h : p ≤ 1000) : nnD (UInt64.ofNat (iN p)) 1023 1032 := by
  by_cases g : p = 0
  · subst g; exact Or.inl rfl
  · exact Or.inr (iN_pos (k := 9) (by omega) (by omega) (by omega) (by omega))
theorem r_nn {p q : Nat} (hp : p ≤ 1000) (hq : q ≤ 1000) (h0 : 0 < q) : nnD (zf_div.1 (UInt64.ofNat (iN p)) (UInt64.ofNat (iN q))) 1013 1033 := nnD_mono (zv_nn (i_nn hp) (iN_pos (k := 9) h0 (by omega) (by omega) (by omega)) (by omega) (by omega) (by omega) (by omega) (by omega) (by omega)) (by omega) (by omega)
theorem x_R {b : UInt64} {p q : Nat} (hb : bR b) (hp : p ≤ 1000) (hq : q ≤ 1000) (h0 : 0 < q) : xR (xF b p q) := nnD_mono (zm_nn hb (r_nn hp hq h0) (by omega) (by omega) (by omega) (by omega) (by omega) (by omega)) (by omega) (by omega)
theorem b_R {v : Nat} (h1 : 1 ≤ v) (h2 : v ≤ 32000) : bR (zf_div.1 (UInt64.ofNat (iN v)) 4625196817309499392) := nnD_mono (zv_nn (Or.inr (iN_pos (k := 14) (by omega) (by omega) (by omega) (by omega))) c_16 (by omega) (by omega) (by omega) (by omega) (by omega) (by omega)) (by omega) (by omega)
/-- a plain instrument's object: its tag, its ratio -/
def cN (M : zM) (a t p q : Nat) : Prop := (∃ n, z_hd zQ M a = some (t, n)) ∧ zI M a 3 = zn p ∧ zI M a 4 = zn q ∧ p ≤ 1000 ∧ q ≤ 1000 ∧ a ≠ 10
theorem cN_bp {M : zM} {a t p q : Nat} (h : cN M a t p q) (k : Nat) : cN (zbp 10 k M) a t p q := by
  obtain ⟨⟨n, h1⟩, h2, h3, h4, h5, h6⟩ := h
  exact ⟨⟨n, h1⟩, by rw [zbp_I h6]; exact h2, by rw [zbp_I h6]; exact h3, h4, h5, h6⟩
theorem c_rat (d : Nat) (M : zM) {a t p q : Nat} {b : UInt64} (h : cN M a t p q) (ht : z_mem t [0, 1, 2, 3, 5, 6, 7] = true) (hb : bR b) : z_den zQ (d + 1) mN_ratioOf [.ref a, .double b] M = some (some (.double (dO (if q = 0 then none else some (xF b p q)))), M) := by
  obtain ⟨⟨n, h1⟩, h2, h3, h4, h5, h6⟩ := h
  have hc : z_cls zQ M a [0, 1, 2, 3, 5, 6, 7] = true := by rw [z_cls_of h1]; exact ht
  rw [B_N_ratioOf, hc, h2, h3, nL_0, zi_n (show p < 2147483648 by omega), zi_n (show q < 2147483648 by omega)]
  by_cases g : q = 0
  · subst g; rw [z_ne_F, if_pos rfl]; rfl
  · rw [z_ne_T g (by omega) (by omega), if_neg g, nnD_num (r_nn h4 h5 (by omega)) (by omega)]
    have : z_num (zf_mul.1 b (zf_div.1 (UInt64.ofNat (iN p)) (UInt64.ofNat (iN q)))) = true := nnD_num (x_R hb h4 h5 (by omega)) (by omega)
    rw [this]; rfl
theorem c_pipe (d : Nat) (M : zM) {a t p q : Nat} {b : UInt64} (i : Int32) (h : cN M a t p q) (ht : t = 0 ∨ t = 5 ∨ t = 7) (hb : bR b) : z_den zQ (d + 2) mPipe_pitch [.ref a, .double b, .ref 10, .int i] M = some (some (.double (dO (if q = 0 then none else some (xF b p q)))), zbp 10 8 M) := by
  have hm : z_mem t [0, 1, 2, 3, 5, 6, 7] = true := by rcases ht with g | g | g <;> (subst g; rfl)
  have hr := c_rat d (zbp 10 8 M) (cN_bp h 8) hm hb
  obtain ⟨⟨n, h1⟩, -⟩ := h
  have ho : z_okU zQ M a [(0, 136), (5, 136), (7, 136)] = true := by rw [okU_of h1]; rcases ht with g | g | g <;> (subst g; rfl)
  have hs : z_selU zQ M a [(0, 136), (5, 136), (7, 136)] = mN_ratioOf := by rw [selU_of h1]; rcases ht with g | g | g <;> (subst g; rfl)
  unfold zbp at hr ⊢
  rw [B_Pipe_pitch, okU_wI, selU_wI, ho, hs]
  simp (disch := omega) only [z_bV_some, z_bI_some, z_bJ_some, z_bD_some, z_bR_some, cond_true, cond_false, Bool.and_true, Bool.true_and, Bool.not_false, Bool.not_true, Bool.and_self, Bool.or_true, Bool.false_or, Bool.true_or, zn_ok, zn_ok0, zn_N, zn_add, zn_mul, zn_sub, z_lt_T, z_lt_F, z_le_T, z_le_F, z_eq_T, z_ne_F, z_eq_F, z_ne_T, z_ix_T, z_lt_m, z_le_m, z_lt_m2, z_le_m2, z_eq_m, z_ne_m, zn_div, z_a31, zn_shl, zn_shr, z_bq_T, z_bq_F, z_bl_T, nL_1, nL_8, z_ia_of (h_10 _), hr]
theorem dO_neg (op : CmpOp) : z_le 0 (zf_cmp.1 op (dO none) 0) = false := by unfold dO; rw [zc_neg, z_le_0m]
theorem c_reed (d : Nat) (M : zM) {a t p q : Nat} {b : UInt64} (i : Int32) (h : cN M a t p q) (ht : t = 0 ∨ t = 7) (hb : bR b) : z_den zQ (d + 3) mReed_pitch [.ref a, .double b, .ref 10, .int i] M = some (some (.double (dO (if q = 0 then none else some (ptF 1 (xF b p q))))), zbp 10 8 (zbp 10 9 M)) := by
  have hr := c_pipe d (zbp 10 9 M) i (cN_bp h 9) (by omega) hb
  have hx := fun h0 => x_R (q := q) hb h.2.2.2.1 h.2.2.2.2.1 h0
  obtain ⟨⟨n, h1⟩, -⟩ := h
  have hc : z_cls zQ M a [0, 5, 7] = true := by rw [z_cls_of h1]; rcases ht with g | g <;> (subst g; rfl)
  generalize hE : zbp 10 8 (zbp 10 9 M) = E at hr ⊢
  unfold zbp at hr
  rw [B_Reed_pitch, z_cls_wI, hc]
  simp (disch := omega) only [z_bV_some, z_bI_some, z_bJ_some, z_bD_some, z_bR_some, cond_true, cond_false, Bool.and_true, Bool.true_and, Bool.not_false, Bool.not_true, Bool.and_self, Bool.or_true, Bool.false_or, Bool.true_or, zn_ok, zn_ok0, zn_N, zn_add, zn_mul, zn_sub, z_lt_T, z_lt_F, z_le_T, z_le_F, z_eq_T, z_ne_F, z_eq_F, z_ne_T, z_ix_T, z_lt_m, z_le_m, z_lt_m2, z_le_m2, z_eq_m, z_ne_m, zn_div, z_a31, zn_shl, zn_shr, z_bq_T, z_bq_F, z_bl_T, nL_1, nL_9, z_ia_of (h_10 _), hr]
  by_cases g : q = 0
  · rw [if_pos g, if_pos g, dO_neg]; rfl
  · rw [if_neg g, if_neg g]
    have h2 := hx (by omega)
    show (bif z_le 0 (zf_cmp.1 .g (xF b p q) 0) then bif z_num (zf_div.1 (xF b p q) 4611686018427387904) then some (some (Value.double (zf_div.1 (xF b p q) 4611686018427387904)), E) else none else _) = _
    rw [zc_ge0 _ (nP_of h2 (by omega) (by omega)), nnD_num (x_h h2) (by omega)]
    rfl
theorem c_bass (d : Nat) (M : zM) {a p q : Nat} {b : UInt64} (i : Int32) (h : cN M a 0 p q) (hb : bR b) : z_den zQ (d + 4) mBass_pitch [.ref a, .double b, .ref 10, .int i] M = some (some (.double (dO (if q = 0 then none else some (ptF 2 (xF b p q))))), zbp 10 8 (zbp 10 9 (zbp 10 10 M))) := by
  have hr := c_reed d (zbp 10 10 M) i (cN_bp h 10) (by omega) hb
  have hx := fun h0 => x_R (q := q) hb h.2.2.2.1 h.2.2.2.2.1 h0
  obtain ⟨⟨n, h1⟩, -⟩ := h
  have hc : z_cls zQ M a [0, 7] = true := by rw [z_cls_of h1]; rfl
  generalize hE : zbp 10 8 (zbp 10 9 (zbp 10 10 M)) = E at hr ⊢
  unfold zbp at hr
  rw [B_Bass_pitch, z_cls_wI, hc]
  simp (disch := omega) only [z_bV_some, z_bI_some, z_bJ_some, z_bD_some, z_bR_some, cond_true, cond_false, Bool.and_true, Bool.true_and, Bool.not_false, Bool.not_true, Bool.and_self, Bool.or_true, Bool.false_or, Bool.true_or, zn_ok, zn_ok0, zn_N, zn_add, zn_mul, zn_sub, z_lt_T, z_lt_F, z_le_T, z_le_F, z_eq_T, z_ne_F, z_eq_F, z_ne_T, z_ix_T, z_lt_m, z_le_m, z_lt_m2, z_le_m2, z_eq_m, z_ne_m, zn_div, z_a31, zn_shl, zn_shr, z_bq_T, z_bq_F, z_bl_T, nL_1, nL_10, z_ia_of (h_10 _), hr]
  by_cases g : q = 0
  · rw [if_pos g, if_pos g, dO_neg]; rfl
  · rw [if_neg g, if_neg g]
    have h2 := hx (by omega)
    have e1 : dO (some (ptF 1 (xF b p q))) = zf_div.1 (xF b p q) 4611686018427387904 := rfl
    have hd := dN_ok (x_h4 h2) (by omega) (by omega)
    rw [e1, zc_ge0 _ (nP_of (x_h h2) (by omega) (by omega)), nnD_num (x_h4 h2) (by omega), hd.1, zl_n (by omega), nnD_num (i_4 (by omega)) (by omega)]
    rfl
theorem c_pluck (d : Nat) (M : zM) {a t p q : Nat} {b : UInt64} (i : Int32) (h : cN M a t p q) (ht : t = 1 ∨ t = 6) (hb : bR b) : z_den zQ (d + 2) mPluck_pitch [.ref a, .double b, .ref 10, .int i] M = some (some (.double (dO (if q = 0 then none else some (ptF 4 (xF b p q))))), zbp 10 11 M) := by
  have hm : z_mem t [0, 1, 2, 3, 5, 6, 7] = true := by rcases ht with g | g <;> (subst g; rfl)
  have hr := c_rat d (zbp 10 11 M) (cN_bp h 11) hm hb
  have hx := fun h0 => x_R (q := q) hb h.2.2.2.1 h.2.2.2.2.1 h0
  obtain ⟨⟨n, h1⟩, -⟩ := h
  have ho : z_okU zQ M a [(1, 136), (6, 136)] = true := by rw [okU_of h1]; rcases ht with g | g <;> (subst g; rfl)
  have hs : z_selU zQ M a [(1, 136), (6, 136)] = mN_ratioOf := by rw [selU_of h1]; rcases ht with g | g <;> (subst g; rfl)
  unfold zbp at hr ⊢
  rw [B_Pluck_pitch, okU_wI, selU_wI, ho, hs]
  simp (disch := omega) only [z_bV_some, z_bI_some, z_bJ_some, z_bD_some, z_bR_some, cond_true, cond_false, Bool.and_true, Bool.true_and, Bool.not_false, Bool.not_true, Bool.and_self, Bool.or_true, Bool.false_or, Bool.true_or, zn_ok, zn_ok0, zn_N, zn_add, zn_mul, zn_sub, z_lt_T, z_lt_F, z_le_T, z_le_F, z_eq_T, z_ne_F, z_eq_F, z_ne_T, z_ix_T, z_lt_m, z_le_m, z_lt_m2, z_le_m2, z_eq_m, z_ne_m, zn_div, z_a31, zn_shl, zn_shr, z_bq_T, z_bq_F, z_bl_T, nL_1, nL_11, z_ia_of (h_10 _), hr]
  by_cases g : q = 0
  · rw [if_pos g, if_pos g, dO_neg]; rfl
  · rw [if_neg g, if_neg g]
    have h2 := hx (by omega)
    have e1 : dO (some (xF b p q)) = xF b p q := rfl
    have hd := dN_ok (x_8 h2) (by omega) (by omega)
    rw [e1, zc_ge0 _ (nP_of h2 (by omega) (by omega)), nnD_num (x_8 h2) (by omega), P_near d _ hd.1 (nP_of (x_8 h2) (by omega) (by omega)) hd.2, cond_true, cond_true, z_bD_some, nnD_num (i_8 (nr_lt h2)) (by omega)]
    rfl
theorem c_bell (d : Nat) (M : zM) {a p q : Nat} {b : UInt64} (i : Int32) (h : cN M a 1 p q) (hb : bR b) : z_den zQ (d + 3) mBell_pitch [.ref a, .double b, .ref 10, .int i] M = some (some (.double (dO (if q = 0 then none else some (ptF 5 (xF b p q))))), zbp 10 11 (zbp 10 12 M)) := by
  have hr := c_pluck d (zbp 10 12 M) i (cN_bp h 12) (by omega) hb
  have hx := fun h0 => x_R (q := q) hb h.2.2.2.1 h.2.2.2.2.1 h0
  obtain ⟨⟨n, h1⟩, -⟩ := h
  have hc : z_cls zQ M a [1, 6] = true := by rw [z_cls_of h1]; rfl
  generalize hE : zbp 10 11 (zbp 10 12 M) = E at hr ⊢
  unfold zbp at hr
  rw [B_Bell_pitch, z_cls_wI, hc]
  simp (disch := omega) only [z_bV_some, z_bI_some, z_bJ_some, z_bD_some, z_bR_some, cond_true, cond_false, Bool.and_true, Bool.true_and, Bool.not_false, Bool.not_true, Bool.and_self, Bool.or_true, Bool.false_or, Bool.true_or, zn_ok, zn_ok0, zn_N, zn_add, zn_mul, zn_sub, z_lt_T, z_lt_F, z_le_T, z_le_F, z_eq_T, z_ne_F, z_eq_F, z_ne_T, z_ix_T, z_lt_m, z_le_m, z_lt_m2, z_le_m2, z_eq_m, z_ne_m, zn_div, z_a31, zn_shl, zn_shr, z_bq_T, z_bq_F, z_bl_T, nL_1, nL_12, z_ia_of (h_10 _), hr]
  by_cases g : q = 0
  · rw [if_pos g, if_pos g, dO_neg]; rfl
  · rw [if_neg g, if_neg g]
    have h2 := hx (by omega)
    have e1 : dO (some (ptF 4 (xF b p q))) = zf_div.1 (UInt64.ofNat (iN (nrD (zf_mul.1 (xF b p q) 4620693217682128896) (dN (zf_mul.1 (xF b p q) 4620693217682128896))))) 4620693217682128896 := rfl
    have hd := dN_ok (i_8 (nr_lt h2)) (by omega) (by omega)
    rw [e1, zc_ge0 _ (nP_of (i_8 (nr_lt h2)) (by omega) (by omega)), hd.1, zl_n (by omega), nP_num (za_q hd.2)]
    rfl
