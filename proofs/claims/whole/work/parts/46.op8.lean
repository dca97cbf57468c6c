/-! S LEVEL, acts: equal, digest. -/
noncomputable def eqG (G : zG) (r r' : Nat) : Nat → Nat → Bool
  | _, 0 => true
  | i, n + 1 => if lkT (gS G r i) (gS G r' i) = true then eqG G r r' (i + 1) n else false
noncomputable def oEqual (G : zG) (x y : Int32) : Int32 × Int32 × zG := pif (rOk G x ∧ rOk G y) (bI (if gZ G x.toNatClampNeg = gZ G y.toNatClampNeg then eqG G x.toNatClampNeg y.toNatClampNeg 0 (gZ G x.toNatClampNeg) else false), zn 0, G) (-1, -1, G)
theorem L_Pe (d : Nat) {G : zG} {al : Nat → Nat} {A : zM} {r r' : Nat} (l1 l2 : Int32) (h : cG G al A) (w : wG G) (hr : r < gR G) (hr' : r' < gR G) (hz : gZ G r = gZ G r') : ∀ (n i : Nat) (o6 o7 : Option Value), i + n = gZ G r → z_denF zQ (d + 3) mP_equal (49, [some (.ref 1), some (.int l1), some (.int l2), some (.ref (zP zQ A 2 r)), some (.ref (zP zQ A 2 r')), some (.int (zn i)), o6, o7], [], A) = some (some (.int (bI (eqG G r r' i n))), z_wI A 1 7 (zn 0))
  | 0, i, o6, o7, hi => by
    obtain ⟨q, q0, hz⟩ := cG_ro h w hr
    rw [L_P_equal_49]
    simp (disch := omega) only [z_bV_some, z_bI_some, z_bJ_some, z_bD_some, z_bR_some, cond_true, cond_false, Bool.and_true, Bool.true_and, Bool.not_false, Bool.not_true, Bool.and_self, Bool.or_true, Bool.false_or, Bool.true_or, zn_ok, zn_ok0, zn_N, zn_add, zn_mul, zn_sub, z_lt_T, z_lt_F, z_le_T, z_le_F, z_eq_T, z_ne_F, z_eq_F, z_ne_T, z_ix_T, z_lt_m, z_le_m, z_lt_m2, z_le_m2, z_eq_m, z_ne_m, zn_div, z_a31, zn_shl, zn_shr, z_bq_T, z_bq_F, z_bl_T, nL_0, nL_1, c8 q.1, q.2.2, B_P_done]
    rfl
  | n + 1, i, o6, o7, hi => by
    obtain ⟨q, q0, hz1⟩ := cG_ro h w hr
    obtain ⟨q', q0', hz2⟩ := cG_ro h w hr'
    obtain ⟨p1, p2, p3, p4⟩ := cG_rs h w hr (s := i) (by omega)
    obtain ⟨v1, v2, v3, v4⟩ := cG_rs h w hr' (s := i) (by omega)
    have e1 := E_L_at (d + 1) h w hr (s := i) (by omega)
    have e2 := E_L_at (d + 1) h w hr' (s := i) (by omega)
    have e3 := E_S_isLike (d + 1) _ _ A _ _ p2 v2 p3 v3
    have ih := fun o6 o7 => L_Pe d l1 l2 h w hr hr' hz n (i + 1) o6 o7 (by omega)
    have eu : eqG G r r' i (n + 1) = if lkT (gS G r i) (gS G r' i) = true then eqG G r r' (i + 1) n else false := rfl
    rw [L_P_equal_49, eu]
    by_cases g : lkT (gS G r i) (gS G r' i) = true
    · rw [if_pos g]
      rw [bI_1 g] at e3
      simp (disch := omega) only [z_bV_some, z_bI_some, z_bJ_some, z_bD_some, z_bR_some, cond_true, cond_false, Bool.and_true, Bool.true_and, Bool.not_false, Bool.not_true, Bool.and_self, Bool.or_true, Bool.false_or, Bool.true_or, zn_ok, zn_ok0, zn_N, zn_add, zn_mul, zn_sub, z_lt_T, z_lt_F, z_le_T, z_le_F, z_eq_T, z_ne_F, z_eq_F, z_ne_T, z_ix_T, z_lt_m, z_le_m, z_lt_m2, z_le_m2, z_eq_m, z_ne_m, zn_div, z_a31, zn_shl, zn_shr, z_bq_T, z_bq_F, z_bl_T, nL_0, nL_1, c8 q.1, c8 q'.1, q.2.2, e1, e2, c9 p2.1, e3, ih]
    · rw [if_neg g]
      rw [bI_0 g] at e3
      simp (disch := omega) only [z_bV_some, z_bI_some, z_bJ_some, z_bD_some, z_bR_some, cond_true, cond_false, Bool.and_true, Bool.true_and, Bool.not_false, Bool.not_true, Bool.and_self, Bool.or_true, Bool.false_or, Bool.true_or, zn_ok, zn_ok0, zn_N, zn_add, zn_mul, zn_sub, z_lt_T, z_lt_F, z_le_T, z_le_F, z_eq_T, z_ne_F, z_eq_F, z_ne_T, z_ix_T, z_lt_m, z_le_m, z_lt_m2, z_le_m2, z_eq_m, z_ne_m, zn_div, z_a31, zn_shl, zn_shr, z_bq_T, z_bq_F, z_bl_T, nL_0, nL_1, c8 q.1, c8 q'.1, q.2.2, e1, e2, c9 p2.1, e3, B_P_done]
      rfl
theorem P_equal (d : Nat) {G : zG} {al : Nat → Nat} {A : zM} {x y : Int32} (h : cG G al A) (w : wG G) : cRes 0 0 A (oEqual G x y) (z_den zQ (d + 3) mP_equal [.ref 1, .int x, .int y] A) := by
  unfold oEqual
  rcases rOk_c w x with g | ⟨r, hr, rfl⟩
  · rw [pif_F (fun q => g q.1), B_P_equal, E_P_rollAt_no _ h w g]
    rcases rOk_c w y with g' | ⟨r', hr', rfl⟩
    · rw [z_bR_some, E_P_rollAt_no _ h w g']
      simp (disch := omega) only [z_bV_some, z_bI_some, z_bJ_some, z_bD_some, z_bR_some, cond_true, cond_false, Bool.and_true, Bool.true_and, Bool.not_false, Bool.not_true, Bool.and_self, Bool.or_true, Bool.false_or, Bool.true_or, zn_ok, zn_ok0, zn_N, zn_add, zn_mul, zn_sub, z_lt_T, z_lt_F, z_le_T, z_le_F, z_eq_T, z_ne_F, z_eq_F, z_ne_T, z_ix_T, z_lt_m, z_le_m, z_lt_m2, z_le_m2, z_eq_m, z_ne_m, zn_div, z_a31, zn_shl, zn_shr, z_bq_T, z_bq_F, z_bl_T, B_P_refuse]
      exact cRes_st h _ _
    · rw [z_bR_some, E_P_ro _ h w hr']
      simp (disch := omega) only [z_bV_some, z_bI_some, z_bJ_some, z_bD_some, z_bR_some, cond_true, cond_false, Bool.and_true, Bool.true_and, Bool.not_false, Bool.not_true, Bool.and_self, Bool.or_true, Bool.false_or, Bool.true_or, zn_ok, zn_ok0, zn_N, zn_add, zn_mul, zn_sub, z_lt_T, z_lt_F, z_le_T, z_le_F, z_eq_T, z_ne_F, z_eq_F, z_ne_T, z_ix_T, z_lt_m, z_le_m, z_lt_m2, z_le_m2, z_eq_m, z_ne_m, zn_div, z_a31, zn_shl, zn_shr, z_bq_T, z_bq_F, z_bl_T, B_P_refuse]
      exact cRes_st h _ _
  · have := w.1
    obtain ⟨q, q0, hz⟩ := cG_ro h w hr
    rw [B_P_equal, E_P_ro _ h w hr, z_bR_some]
    rcases rOk_c w y with g' | ⟨r', hr', rfl⟩
    · rw [pif_F (fun q => g' q.2), E_P_rollAt_no _ h w g']
      simp (disch := omega) only [z_bV_some, z_bI_some, z_bJ_some, z_bD_some, z_bR_some, cond_true, cond_false, Bool.and_true, Bool.true_and, Bool.not_false, Bool.not_true, Bool.and_self, Bool.or_true, Bool.false_or, Bool.true_or, zn_ok, zn_ok0, zn_N, zn_add, zn_mul, zn_sub, z_lt_T, z_lt_F, z_le_T, z_le_F, z_eq_T, z_ne_F, z_eq_F, z_ne_T, z_ix_T, z_lt_m, z_le_m, z_lt_m2, z_le_m2, z_eq_m, z_ne_m, zn_div, z_a31, zn_shl, zn_shr, z_bq_T, z_bq_F, z_bl_T, B_P_refuse]
      exact cRes_st h _ _
    · obtain ⟨q', q0', hz'⟩ := cG_ro h w hr'
      rw [pif_T ⟨rOk_nat w hr, rOk_nat w hr'⟩, E_P_ro _ h w hr', zn_N (by omega), zn_N (by omega)]
      by_cases g : gZ G r = gZ G r'
      · rw [if_pos g]
        have e := L_Pe d (zn r) (zn r') h w hr hr' g (gZ G r) 0 none none (by omega)
        have qz : z_eq (zn (gZ G r)) (zn (gZ G r')) = true := by rw [g]; exact z_eq_T _
        simp (disch := omega) only [z_bV_some, z_bI_some, z_bJ_some, z_bD_some, z_bR_some, cond_true, cond_false, Bool.and_true, Bool.true_and, Bool.not_false, Bool.not_true, Bool.and_self, Bool.or_true, Bool.false_or, Bool.true_or, zn_ok, zn_ok0, zn_N, zn_add, zn_mul, zn_sub, z_lt_T, z_lt_F, z_le_T, z_le_F, z_eq_T, z_ne_F, z_eq_F, z_ne_T, z_ix_T, z_lt_m, z_le_m, z_lt_m2, z_le_m2, z_eq_m, z_ne_m, zn_div, z_a31, zn_shl, zn_shr, z_bq_T, z_bq_F, z_bl_T, nL_0, c8 q.1, c8 q'.1, q.2.2, q'.2.2, qz, e]
        exact cRes_st h _ _
      · rw [if_neg g]
        simp (disch := omega) only [z_bV_some, z_bI_some, z_bJ_some, z_bD_some, z_bR_some, cond_true, cond_false, Bool.and_true, Bool.true_and, Bool.not_false, Bool.not_true, Bool.and_self, Bool.or_true, Bool.false_or, Bool.true_or, zn_ok, zn_ok0, zn_N, zn_add, zn_mul, zn_sub, z_lt_T, z_lt_F, z_le_T, z_le_F, z_eq_T, z_ne_F, z_eq_F, z_ne_T, z_ix_T, z_lt_m, z_le_m, z_lt_m2, z_le_m2, z_eq_m, z_ne_m, zn_div, z_a31, zn_shl, zn_shr, z_bq_T, z_bq_F, z_bl_T, nL_0, c8 q.1, c8 q'.1, q.2.2, q'.2.2, B_P_done]
        exact cRes_st h _ _
theorem L_Qe (d : Nat) {G : zG} {B : zM} {r r' : Nat} (h : rG G B) (w : wG G) (hr : r < gR G) (hr' : r' < gR G) : ∀ (n i : Nat) (b : Bool), i + n = gZ G r → (b = true → gZ G r = gZ G r') → z_denF zQ (d + 2) mQ_equal (46, [some (.ref 15), some (.int (zn r)), some (.int (zn r')), some (.int (bI b)), some (.int (zn i))], [], B) = some (some (.int (bI (b && eqG G r r' i n))), z_wI B 15 0 (zn 0))
  | 0, i, b, hi, hz => by
    have := w.1
    have := wG_z w hr
    have := w.2.1
    have eu : eqG G r r' i 0 = true := rfl
    rw [L_Q_equal_46, eu, Bool.and_true]
    cases b with
    | true =>
      have q0 : z_eq (bI true) (zn 0) = false := pl_T rfl
      simp (disch := omega) only [z_bV_some, z_bI_some, z_bJ_some, z_bD_some, z_bR_some, cond_true, cond_false, Bool.and_true, Bool.true_and, Bool.not_false, Bool.not_true, Bool.and_self, Bool.or_true, Bool.false_or, Bool.true_or, zn_ok, zn_ok0, zn_N, zn_add, zn_mul, zn_sub, z_lt_T, z_lt_F, z_le_T, z_le_F, z_eq_T, z_ne_F, z_eq_F, z_ne_T, z_ix_T, z_lt_m, z_le_m, z_lt_m2, z_le_m2, z_eq_m, z_ne_m, zn_div, z_a31, zn_shl, zn_shr, z_bq_T, z_bq_F, z_bl_T, nL_0, nL_1, h.2.2.2.1 r hr, q0, B_Q_well, bI_T]
    | false =>
      have q0 : z_eq (bI false) (zn 0) = true := pl_F (by simp)
      simp (disch := omega) only [z_bV_some, z_bI_some, z_bJ_some, z_bD_some, z_bR_some, cond_true, cond_false, Bool.and_true, Bool.true_and, Bool.not_false, Bool.not_true, Bool.and_self, Bool.or_true, Bool.false_or, Bool.true_or, zn_ok, zn_ok0, zn_N, zn_add, zn_mul, zn_sub, z_lt_T, z_lt_F, z_le_T, z_le_F, z_eq_T, z_ne_F, z_eq_F, z_ne_T, z_ix_T, z_lt_m, z_le_m, z_lt_m2, z_le_m2, z_eq_m, z_ne_m, zn_div, z_a31, zn_shl, zn_shr, z_bq_T, z_bq_F, z_bl_T, nL_0, nL_1, h.2.2.2.1 r hr, q0, B_Q_well, bI_F]
  | n + 1, i, b, hi, hz => by
    have := w.1
    have := wG_z w hr
    have := w.2.1
    rw [L_Q_equal_46]
    cases b with
    | false =>
      have q0 : z_eq (bI false) (zn 0) = true := pl_F (by simp)
      rw [Bool.false_and]
      simp (disch := omega) only [z_bV_some, z_bI_some, z_bJ_some, z_bD_some, z_bR_some, cond_true, cond_false, Bool.and_true, Bool.true_and, Bool.not_false, Bool.not_true, Bool.and_self, Bool.or_true, Bool.false_or, Bool.true_or, zn_ok, zn_ok0, zn_N, zn_add, zn_mul, zn_sub, z_lt_T, z_lt_F, z_le_T, z_le_F, z_eq_T, z_ne_F, z_eq_F, z_ne_T, z_ix_T, z_lt_m, z_le_m, z_lt_m2, z_le_m2, z_eq_m, z_ne_m, zn_div, z_a31, zn_shl, zn_shr, z_bq_T, z_bq_F, z_bl_T, nL_0, nL_1, h.2.2.2.1 r hr, q0, B_Q_well, bI_F]
    | true =>
      have hz := hz rfl
      have q0 : z_eq (bI true) (zn 0) = false := pl_T rfl
      obtain ⟨p1, p2, p3, p4⟩ := rG_rs h w hr (s := i) (by omega)
      obtain ⟨v1, v2, v3, v4⟩ := rG_rs h w hr' (s := i) (by omega)
      have e1 := E_Q_po d h w hr (s := i) (by omega)
      have e2 := E_Q_po d h w hr' (s := i) (by omega)
      have e3 := E_Q_areAlike d _ _ B _ _ p2 v2 p3 v3 p4 v4
      have ih := L_Qe d h w hr hr' n (i + 1) (lkT (gS G r i) (gS G r' i)) (by omega) (fun _ => hz)
      have eu : eqG G r r' i (n + 1) = if lkT (gS G r i) (gS G r' i) = true then eqG G r r' (i + 1) n else false := rfl
      have eu2 : (lkT (gS G r i) (gS G r' i) && eqG G r r' (i + 1) n) = eqG G r r' i (n + 1) := by
        rw [eu]
        cases lkT (gS G r i) (gS G r' i) <;> simp
      rw [Bool.true_and, ← eu2]
      simp (disch := omega) only [z_bV_some, z_bI_some, z_bJ_some, z_bD_some, z_bR_some, cond_true, cond_false, Bool.and_true, Bool.true_and, Bool.not_false, Bool.not_true, Bool.and_self, Bool.or_true, Bool.false_or, Bool.true_or, zn_ok, zn_ok0, zn_N, zn_add, zn_mul, zn_sub, z_lt_T, z_lt_F, z_le_T, z_le_F, z_eq_T, z_ne_F, z_eq_F, z_ne_T, z_ix_T, z_lt_m, z_le_m, z_lt_m2, z_le_m2, z_eq_m, z_ne_m, zn_div, z_a31, zn_shl, zn_shr, z_bq_T, z_bq_F, z_bl_T, nL_0, nL_1, h.2.2.2.1 r hr, q0, e1, e2, e3, ih]
theorem Q_equal (d : Nat) {G : zG} {B : zM} {x y : Int32} (h : rG G B) (w : wG G) : rRes B (oEqual G x y) (z_den zQ (d + 3) mQ_equal [.ref 15, .int x, .int y] B) := by
  unfold oEqual
  rcases rOk_c w x with g | ⟨r, hr, rfl⟩
  · rw [pif_F (fun q => g q.1), B_Q_equal, E_Q_isRoll_no _ h w g]
    simp (disch := omega) only [z_bV_some, z_bI_some, z_bJ_some, z_bD_some, z_bR_some, cond_true, cond_false, Bool.and_true, Bool.true_and, Bool.not_false, Bool.not_true, Bool.and_self, Bool.or_true, Bool.false_or, Bool.true_or, zn_ok, zn_ok0, zn_N, zn_add, zn_mul, zn_sub, z_lt_T, z_lt_F, z_le_T, z_le_F, z_eq_T, z_ne_F, z_eq_F, z_ne_T, z_ix_T, z_lt_m, z_le_m, z_lt_m2, z_le_m2, z_eq_m, z_ne_m, zn_div, z_a31, zn_shl, zn_shr, z_bq_T, z_bq_F, z_bl_T, nL_0, B_Q_no]
    exact rRes_st h _ _
  · have := w.1
    have z1 := wG_z w hr
    have := w.2.1
    rw [B_Q_equal, E_Q_isRoll_ok _ h w (rOk_nat w hr)]
    rcases rOk_c w y with g' | ⟨r', hr', rfl⟩
    · rw [pif_F (fun q => g' q.2)]
      simp (disch := omega) only [z_bV_some, z_bI_some, z_bJ_some, z_bD_some, z_bR_some, cond_true, cond_false, Bool.and_true, Bool.true_and, Bool.not_false, Bool.not_true, Bool.and_self, Bool.or_true, Bool.false_or, Bool.true_or, zn_ok, zn_ok0, zn_N, zn_add, zn_mul, zn_sub, z_lt_T, z_lt_F, z_le_T, z_le_F, z_eq_T, z_ne_F, z_eq_F, z_ne_T, z_ix_T, z_lt_m, z_le_m, z_lt_m2, z_le_m2, z_eq_m, z_ne_m, zn_div, z_a31, zn_shl, zn_shr, z_bq_T, z_bq_F, z_bl_T, nL_0, E_Q_isRoll_no _ h w g', B_Q_no]
      exact rRes_st h _ _
    · have z2 := wG_z w hr'
      rw [pif_T ⟨rOk_nat w hr, rOk_nat w hr'⟩, zn_N (by omega), zn_N (by omega)]
      have eT := fun (hz : gZ G r = gZ G r') => L_Qe (d + 1) h w hr hr' (gZ G r) 0 true (by omega) (fun _ => hz)
      have eF := L_Qe (d + 1) h w hr hr' (gZ G r) 0 false (by omega) (fun q => absurd q (by simp))
      rw [bI_T] at eT
      rw [bI_F] at eF
      by_cases g : gZ G r = gZ G r'
      · rw [if_pos g]
        have e1 := eT g
        have qz : z_ne (zn (gZ G r)) (zn (gZ G r')) = false := by rw [g]; exact z_ne_F _
        simp (disch := omega) only [z_bV_some, z_bI_some, z_bJ_some, z_bD_some, z_bR_some, cond_true, cond_false, Bool.and_true, Bool.true_and, Bool.not_false, Bool.not_true, Bool.and_self, Bool.or_true, Bool.false_or, Bool.true_or, zn_ok, zn_ok0, zn_N, zn_add, zn_mul, zn_sub, z_lt_T, z_lt_F, z_le_T, z_le_F, z_eq_T, z_ne_F, z_eq_F, z_ne_T, z_ix_T, z_lt_m, z_le_m, z_lt_m2, z_le_m2, z_eq_m, z_ne_m, zn_div, z_a31, zn_shl, zn_shr, z_bq_T, z_bq_F, z_bl_T, nL_0, nL_1, E_Q_isRoll_ok _ h w (rOk_nat w hr'), h.2.2.2.1 r hr, h.2.2.2.1 r' hr', qz, e1]
        exact rRes_st h _ _
      · rw [if_neg g]
        simp (disch := omega) only [z_bV_some, z_bI_some, z_bJ_some, z_bD_some, z_bR_some, cond_true, cond_false, Bool.and_true, Bool.true_and, Bool.not_false, Bool.not_true, Bool.and_self, Bool.or_true, Bool.false_or, Bool.true_or, zn_ok, zn_ok0, zn_N, zn_add, zn_mul, zn_sub, z_lt_T, z_lt_F, z_le_T, z_le_F, z_eq_T, z_ne_F, z_eq_F, z_ne_T, z_ix_T, z_lt_m, z_le_m, z_lt_m2, z_le_m2, z_eq_m, z_ne_m, zn_div, z_a31, zn_shl, zn_shr, z_bq_T, z_bq_F, z_bl_T, nL_0, nL_1, E_Q_isRoll_ok _ h w (rOk_nat w hr'), h.2.2.2.1 r hr, h.2.2.2.1 r' hr', eF, Bool.false_and]
        exact rRes_st h _ _
/-- digest -/
noncomputable def dG (G : zG) (r : Nat) : Nat → Nat → Int32 → Int32
  | _, 0, s => s
  | i, n + 1, s => dG G r (i + 1) n (dgT (gS G r i) s)
noncomputable def oDigest (G : zG) (x : Int32) : Int64 × Int32 × zG := pif (rOk G x) ((dG G x.toNatClampNeg 0 (gZ G x.toNatClampNeg) (zn 7)).toInt64, zn 0, G) (0, -1, G)
theorem L_Pd (d : Nat) {G : zG} {al : Nat → Nat} {A : zM} {r : Nat} (l1 : Int32) (h : cG G al A) (w : wG G) (hr : r < gR G) : ∀ (n i : Nat) (s : Int32) (o : Option Value), i + n = gZ G r → z_denF zQ (d + 3) mP_digest (22, [some (.ref 1), some (.int l1), some (.ref (zP zQ A 2 r)), some (.int s), some (.int (zn i)), o], [], A) = some (some (.long (dG G r i n s).toInt64), z_wI A 1 7 (zn 0))
  | 0, i, s, o, hi => by
    obtain ⟨q, q0, hz⟩ := cG_ro h w hr
    rw [L_P_digest_22]
    simp (disch := omega) only [z_bV_some, z_bI_some, z_bJ_some, z_bD_some, z_bR_some, cond_true, cond_false, Bool.and_true, Bool.true_and, Bool.not_false, Bool.not_true, Bool.and_self, Bool.or_true, Bool.false_or, Bool.true_or, zn_ok, zn_ok0, zn_N, zn_add, zn_mul, zn_sub, z_lt_T, z_lt_F, z_le_T, z_le_F, z_eq_T, z_ne_F, z_eq_F, z_ne_T, z_ix_T, z_lt_m, z_le_m, z_lt_m2, z_le_m2, z_eq_m, z_ne_m, zn_div, z_a31, zn_shl, zn_shr, z_bq_T, z_bq_F, z_bl_T, nL_0, c8 q.1, q.2.2, B_P_doneLong]
    rfl
  | n + 1, i, s, o, hi => by
    obtain ⟨q, q0, hz⟩ := cG_ro h w hr
    obtain ⟨p1, p2, p3, p4⟩ := cG_rs h w hr (s := i) (by omega)
    have e1 := E_L_at (d + 1) h w hr (s := i) (by omega)
    have e2 := fun s => E_S_digestOnto (d + 1) _ s A _ p2 p3
    have ih := fun s o => L_Pd d l1 h w hr n (i + 1) s o (by omega)
    have eu : dG G r i (n + 1) s = dG G r (i + 1) n (dgT (gS G r i) s) := rfl
    rw [L_P_digest_22, eu]
    simp (disch := omega) only [z_bV_some, z_bI_some, z_bJ_some, z_bD_some, z_bR_some, cond_true, cond_false, Bool.and_true, Bool.true_and, Bool.not_false, Bool.not_true, Bool.and_self, Bool.or_true, Bool.false_or, Bool.true_or, zn_ok, zn_ok0, zn_N, zn_add, zn_mul, zn_sub, z_lt_T, z_lt_F, z_le_T, z_le_F, z_eq_T, z_ne_F, z_eq_F, z_ne_T, z_ix_T, z_lt_m, z_le_m, z_lt_m2, z_le_m2, z_eq_m, z_ne_m, zn_div, z_a31, zn_shl, zn_shr, z_bq_T, z_bq_F, z_bl_T, nL_0, nL_1, c8 q.1, q.2.2, e1, c9 p2.1, e2, ih]
theorem P_digest (d : Nat) {G : zG} {al : Nat → Nat} {A : zM} {x : Int32} (h : cG G al A) (w : wG G) : cResJ 0 0 A (oDigest G x) (z_den zQ (d + 3) mP_digest [.ref 1, .int x] A) := by
  unfold oDigest
  rcases rOk_c w x with g | ⟨r, hr, rfl⟩
  · rw [pif_F g, B_P_digest, E_P_rollAt_no _ h w g]
    simp (disch := omega) only [z_bV_some, z_bI_some, z_bJ_some, z_bD_some, z_bR_some, cond_true, cond_false, Bool.and_true, Bool.true_and, Bool.not_false, Bool.not_true, Bool.and_self, Bool.or_true, Bool.false_or, Bool.true_or, zn_ok, zn_ok0, zn_N, zn_add, zn_mul, zn_sub, z_lt_T, z_lt_F, z_le_T, z_le_F, z_eq_T, z_ne_F, z_eq_F, z_ne_T, z_ix_T, z_lt_m, z_le_m, z_lt_m2, z_le_m2, z_eq_m, z_ne_m, zn_div, z_a31, zn_shl, zn_shr, z_bq_T, z_bq_F, z_bl_T, B_P_refuseLong]
    exact cResJ_st h _ _
  · have := w.1
    obtain ⟨q, q0, -⟩ := cG_ro h w hr
    have e := fun s o => L_Pd d (zn r) h w hr (gZ G r) 0 s o (by omega)
    rw [pif_T (rOk_nat w hr), B_P_digest, E_P_ro _ h w hr, zn_N (by omega)]
    simp (disch := omega) only [z_bV_some, z_bI_some, z_bJ_some, z_bD_some, z_bR_some, cond_true, cond_false, Bool.and_true, Bool.true_and, Bool.not_false, Bool.not_true, Bool.and_self, Bool.or_true, Bool.false_or, Bool.true_or, zn_ok, zn_ok0, zn_N, zn_add, zn_mul, zn_sub, z_lt_T, z_lt_F, z_le_T, z_le_F, z_eq_T, z_ne_F, z_eq_F, z_ne_T, z_ix_T, z_lt_m, z_le_m, z_lt_m2, z_le_m2, z_eq_m, z_ne_m, zn_div, z_a31, zn_shl, zn_shr, z_bq_T, z_bq_F, z_bl_T, nL_0, nL_7, e]
    exact cResJ_st h _ _
theorem L_Qd77 (d : Nat) {B : zM} {p : Nat} {T : zT} (l1 l3 : Int32) (hp : p < 400) (h : rT B p T) (hw : wT T) : ∀ (n i : Nat) (s : Int32), i + n = tZ T → z_denF zQ (d + 3) mQ_digest (77, [some (.ref 15), some (.int l1), some (.int s), some (.int l3), some (.int (zn p)), some (.int (zn i))], [], B) = z_denF zQ (d + 3) mQ_digest (21, [some (.ref 15), some (.int l1), some (.int (fB (tY T) i n s)), some (.int (l3 + zn 1)), some (.int (zn p)), some (.int (zn (tZ T)))], [], B)
  | 0, i, s, hi => by
    have hz := tZ_le hw
    have e1 := E_Q_bytesOf d p B T hp h hw
    have : i = tZ T := by omega
    rw [L_Q_digest_77]
    simp (disch := omega) only [z_bV_some, z_bI_some, z_bJ_some, z_bD_some, z_bR_some, cond_true, cond_false, Bool.and_true, Bool.true_and, Bool.not_false, Bool.not_true, Bool.and_self, Bool.or_true, Bool.false_or, Bool.true_or, zn_ok, zn_ok0, zn_N, zn_add, zn_mul, zn_sub, z_lt_T, z_lt_F, z_le_T, z_le_F, z_eq_T, z_ne_F, z_eq_F, z_ne_T, z_ix_T, z_lt_m, z_le_m, z_lt_m2, z_le_m2, z_eq_m, z_ne_m, zn_div, z_a31, zn_shl, zn_shr, z_bq_T, z_bq_F, z_bl_T, nL_1, e1, this]
    rfl
  | n + 1, i, s, hi => by
    have hz := tZ_le hw
    have hd : tZ T = tH T + tS T * tW T := rfl
    have hH := hw.2.2.2.1
    have e1 := E_Q_bytesOf d p B T hp h hw
    have e2 := E_Q_byteAt d p i B T hp h hw (by omega)
    have ih := fun s => L_Qd77 d l1 l3 hp h hw n (i + 1) s (by omega)
    rw [L_Q_digest_77]
    simp (disch := omega) only [z_bV_some, z_bI_some, z_bJ_some, z_bD_some, z_bR_some, cond_true, cond_false, Bool.and_true, Bool.true_and, Bool.not_false, Bool.not_true, Bool.and_self, Bool.or_true, Bool.false_or, Bool.true_or, zn_ok, zn_ok0, zn_N, zn_add, zn_mul, zn_sub, z_lt_T, z_lt_F, z_le_T, z_le_F, z_eq_T, z_ne_F, z_eq_F, z_ne_T, z_ix_T, z_lt_m, z_le_m, z_lt_m2, z_le_m2, z_eq_m, z_ne_m, zn_div, z_a31, zn_shl, zn_shr, z_bq_T, z_bq_F, z_bl_T, nL_1, nL_31, e1, e2, ih]
    rfl
theorem L_Qd (d : Nat) {G : zG} {B : zM} {r : Nat} (h : rG G B) (w : wG G) (hr : r < gR G) : ∀ (n i : Nat) (s : Int32) (o4 o5 : Option Value), i + n = gZ G r → z_denF zQ (d + 3) mQ_digest (21, [some (.ref 15), some (.int (zn r)), some (.int s), some (.int (zn i)), o4, o5], [], B) = some (some (.long (dG G r i n s).toInt64), z_wI B 15 0 (zn 0))
  | 0, i, s, o4, o5, hi => by
    have := w.1
    have := wG_z w hr
    have := w.2.1
    rw [L_Q_digest_21]
    simp (disch := omega) only [z_bV_some, z_bI_some, z_bJ_some, z_bD_some, z_bR_some, cond_true, cond_false, Bool.and_true, Bool.true_and, Bool.not_false, Bool.not_true, Bool.and_self, Bool.or_true, Bool.false_or, Bool.true_or, zn_ok, zn_ok0, zn_N, zn_add, zn_mul, zn_sub, z_lt_T, z_lt_F, z_le_T, z_le_F, z_eq_T, z_ne_F, z_eq_F, z_ne_T, z_ix_T, z_lt_m, z_le_m, z_lt_m2, z_le_m2, z_eq_m, z_ne_m, zn_div, z_a31, zn_shl, zn_shr, z_bq_T, z_bq_F, z_bl_T, nL_0, h.2.2.2.1 r hr, B_Q_well]
    rfl
  | n + 1, i, s, o4, o5, hi => by
    have := w.1
    have := wG_z w hr
    have := w.2.1
    obtain ⟨p1, p2, p3, p4⟩ := rG_rs h w hr (s := i) (by omega)
    have e1 := E_Q_po (d + 1) h w hr (s := i) (by omega)
    have ih := fun s o4 o5 => L_Qd d h w hr n (i + 1) s o4 o5 (by omega)
    have e2 := fun s => L_Qd77 d (zn r) (zn i) p2 p3 p4 (tZ (gS G r i)) 0 s (by omega)
    obtain ⟨k0, k1, k2, -⟩ := p3
    have eu : dG G r i (n + 1) s = dG G r (i + 1) n (dgT (gS G r i) s) := rfl
    have ed : ∀ s, fB (tY (gS G r i)) 0 (tZ (gS G r i)) (((s * zn 31 + zn (tK (gS G r i))) * zn 31 + zn (tN (gS G r i))) * zn 31 + zn (tU (gS G r i))) = dgT (gS G r i) s := fun _ => rfl
    rw [L_Q_digest_21, eu]
    simp (disch := omega) only [z_bV_some, z_bI_some, z_bJ_some, z_bD_some, z_bR_some, cond_true, cond_false, Bool.and_true, Bool.true_and, Bool.not_false, Bool.not_true, Bool.and_self, Bool.or_true, Bool.false_or, Bool.true_or, zn_ok, zn_ok0, zn_N, zn_add, zn_mul, zn_sub, z_lt_T, z_lt_F, z_le_T, z_le_F, z_eq_T, z_ne_F, z_eq_F, z_ne_T, z_ix_T, z_lt_m, z_le_m, z_lt_m2, z_le_m2, z_eq_m, z_ne_m, zn_div, z_a31, zn_shl, zn_shr, z_bq_T, z_bq_F, z_bl_T, nL_0, nL_1, nL_31, h.2.2.2.1 r hr, e1, k0, k1, k2, e2, ed, ih]
theorem Q_digest (d : Nat) {G : zG} {B : zM} {x : Int32} (h : rG G B) (w : wG G) : rResJ B (oDigest G x) (z_den zQ (d + 3) mQ_digest [.ref 15, .int x] B) := by
  unfold oDigest
  rcases rOk_c w x with g | ⟨r, hr, rfl⟩
  · rw [pif_F g, B_Q_digest, E_Q_isRoll_no _ h w g]
    simp (disch := omega) only [z_bV_some, z_bI_some, z_bJ_some, z_bD_some, z_bR_some, cond_true, cond_false, Bool.and_true, Bool.true_and, Bool.not_false, Bool.not_true, Bool.and_self, Bool.or_true, Bool.false_or, Bool.true_or, zn_ok, zn_ok0, zn_N, zn_add, zn_mul, zn_sub, z_lt_T, z_lt_F, z_le_T, z_le_F, z_eq_T, z_ne_F, z_eq_F, z_ne_T, z_ix_T, z_lt_m, z_le_m, z_lt_m2, z_le_m2, z_eq_m, z_ne_m, zn_div, z_a31, zn_shl, zn_shr, z_bq_T, z_bq_F, z_bl_T, nL_0, B_Q_no]
    exact rResJ_st h _ _
  · have := w.1
    have e := fun s o4 o5 => L_Qd d h w hr (gZ G r) 0 s o4 o5 (by omega)
    rw [pif_T (rOk_nat w hr), B_Q_digest, E_Q_isRoll_ok _ h w (rOk_nat w hr), zn_N (by omega)]
    simp (disch := omega) only [z_bV_some, z_bI_some, z_bJ_some, z_bD_some, z_bR_some, cond_true, cond_false, Bool.and_true, Bool.true_and, Bool.not_false, Bool.not_true, Bool.and_self, Bool.or_true, Bool.false_or, Bool.true_or, zn_ok, zn_ok0, zn_N, zn_add, zn_mul, zn_sub, z_lt_T, z_lt_F, z_le_T, z_le_F, z_eq_T, z_ne_F, z_eq_F, z_ne_T, z_ix_T, z_lt_m, z_le_m, z_lt_m2, z_le_m2, z_eq_m, z_ne_m, zn_div, z_a31, zn_shl, zn_shr, z_bq_T, z_bq_F, z_bl_T, nL_0, nL_7, e]
    exact rResJ_st h _ _
