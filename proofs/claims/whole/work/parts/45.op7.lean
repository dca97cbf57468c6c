/-! S LEVEL, acts on a roll that change nothing: whole, finding, equal, digest, strips. -/
def gS (G : zG) (r s : Nat) : zT := gT G (gO G r s)
theorem cG_ro {G : zG} {al : Nat → Nat} {A : zM} {r : Nat} (h : cG G al A) (w : wG G) (hr : r < gR G) : cRo A (zP zQ A 2 r) (gZ G r) ∧ zP zQ A 2 r ≠ 0 ∧ gZ G r ≤ 400 := ⟨h.2.2.2.1 r hr, hd_n0 (h.2.2.2.1 r hr).1 (by decide), by have := wG_z w hr; have := w.2.1; omega⟩
theorem cG_rs {G : zG} {al : Nat → Nat} {A : zM} {r s : Nat} (h : cG G al A) (w : wG G) (hr : r < gR G) (hs : s < gZ G r) : gO G r s < gN G ∧ cT A (al (gO G r s)) (gS G r s) ∧ wT (gS G r s) ∧ al (gO G r s) ≠ 0 := by
  have hp := w.2.2.2.1 r s hr hs
  have hT := h.2.2.2.2.2.2.1 _ hp
  exact ⟨hp, hT, w.2.2.2.2.1 _ hp, hd_n0 hT.1 (by decide)⟩
theorem E_L_at (d : Nat) {G : zG} {al : Nat → Nat} {A : zM} {r s : Nat} (h : cG G al A) (w : wG G) (hr : r < gR G) (hs : s < gZ G r) : z_den zQ (d + 1) mL_stripAt [.ref (zP zQ A 2 r), .int (zn s)] A = some (some (.ref (al (gO G r s))), A) := by
  obtain ⟨q, -, hz⟩ := cG_ro h w hr
  rw [E_L_stripAt_ok d q hz hs, h.2.2.2.2.1 r s hr hs]
theorem E_L_isWhole (d : Nat) {G : zG} {al : Nat → Nat} {A : zM} {r s : Nat} (h : cG G al A) (w : wG G) (hr : r < gR G) (hs : s < gZ G r) : z_den zQ (d + 3) mL_isWhole [.ref (zP zQ A 2 r), .int (zn s)] A = some (some (.int (bI (decide (findT (gS G r s) = 0)))), A) := by
  obtain ⟨q, -, hz⟩ := cG_ro h w hr
  obtain ⟨p1, p2, p3, p4⟩ := cG_rs h w hr hs
  have e1 := E_L_at (d + 1) h w hr hs
  have e2 := E_S_verdict d (al (gO G r s)) A _ p2 p3
  have hf := find_lt (gS G r s)
  rw [B_L_isWhole]
  by_cases g : findT (gS G r s) = 0
  · rw [bI_1 (decide_eq_true g)]
    rw [g] at e2
    simp (disch := omega) only [z_bV_some, z_bI_some, z_bJ_some, z_bD_some, z_bR_some, cond_true, cond_false, Bool.and_true, Bool.true_and, Bool.not_false, Bool.not_true, Bool.and_self, Bool.or_true, Bool.false_or, Bool.true_or, zn_ok, zn_ok0, zn_N, zn_add, zn_mul, zn_sub, z_lt_T, z_lt_F, z_le_T, z_le_F, z_eq_T, z_ne_F, z_eq_F, z_ne_T, z_ix_T, z_lt_m, z_le_m, z_lt_m2, z_le_m2, z_eq_m, z_ne_m, zn_div, z_a31, zn_shl, zn_shr, z_bq_T, z_bq_F, z_bl_T, nL_0, nL_1, c8 q.1, e1, c9 p2.1, e2]
  · rw [bI_0 (by rw [decide_eq_true_iff]; exact g)]
    simp (disch := omega) only [z_bV_some, z_bI_some, z_bJ_some, z_bD_some, z_bR_some, cond_true, cond_false, Bool.and_true, Bool.true_and, Bool.not_false, Bool.not_true, Bool.and_self, Bool.or_true, Bool.false_or, Bool.true_or, zn_ok, zn_ok0, zn_N, zn_add, zn_mul, zn_sub, z_lt_T, z_lt_F, z_le_T, z_le_F, z_eq_T, z_ne_F, z_eq_F, z_ne_T, z_ix_T, z_lt_m, z_le_m, z_lt_m2, z_le_m2, z_eq_m, z_ne_m, zn_div, z_a31, zn_shl, zn_shr, z_bq_T, z_bq_F, z_bl_T, nL_0, nL_1, c8 q.1, e1, c9 p2.1, e2]
theorem rG_rs {G : zG} {B : zM} {r s : Nat} (h : rG G B) (w : wG G) (hr : r < gR G) (hs : s < gZ G r) : gO G r s < gN G ∧ gO G r s < 400 ∧ rT B (gO G r s) (gS G r s) ∧ wT (gS G r s) := by
  have hp := w.2.2.2.1 r s hr hs
  have := w.2.1
  exact ⟨hp, by omega, h.2.2.2.2.2.2.1 _ hp, w.2.2.2.2.1 _ hp⟩
theorem sOk_nat {G : zG} (w : wG G) {r s : Nat} (hr : r < gR G) (hs : s < gZ G r) : sOk G (zn r) (zn s) ∧ pO G (zn r) (zn s) = gO G r s := by
  have h1 := w.1
  have h2 := wG_z w hr
  have h3 := w.2.1
  refine ⟨⟨⟨by rw [zn_toInt (by omega)]; omega, by rw [zn_toInt (by omega)]; omega⟩, by rw [zn_toInt (by omega)]; omega, ?_⟩, ?_⟩
  · rw [zn_toInt (by omega), zn_N (by omega)]; omega
  · unfold pO; rw [zn_N (by omega), zn_N (by omega)]
theorem E_Q_po (d : Nat) {G : zG} {B : zM} {r s : Nat} (h : rG G B) (w : wG G) (hr : r < gR G) (hs : s < gZ G r) : z_den zQ (d + 1) mQ_poolOf [.ref 15, .int (zn r), .int (zn s)] B = some (some (.int (zn (gO G r s))), B) := by
  obtain ⟨a, b⟩ := sOk_nat w hr hs
  rw [E_Q_poolOf d h w a, b]
theorem rOk_c {G : zG} (w : wG G) (x : Int32) : ¬ rOk G x ∨ ∃ r, r < gR G ∧ x = zn r := by
  by_cases g : rOk G x
  · obtain ⟨r, hr, e, -⟩ := rOk_ex g
    exact Or.inr ⟨r, hr, e⟩
  · exact Or.inl g
theorem rOk_nat {G : zG} (w : wG G) {r : Nat} (hr : r < gR G) : rOk G (zn r) := by
  have := w.1
  exact ⟨by rw [zn_toInt (by omega)]; omega, by rw [zn_toInt (by omega)]; omega⟩
theorem E_P_ro (d : Nat) {G : zG} {al : Nat → Nat} {A : zM} {r : Nat} (h : cG G al A) (w : wG G) (hr : r < gR G) : z_den zQ (d + 1) mP_rollAt [.ref 1, .int (zn r)] A = some (some (.ref (zP zQ A 2 r)), A) := by
  have := w.1
  rw [E_P_rollAt_ok d h w (rOk_nat w hr), zn_N (by omega)]
/-- strips -/
noncomputable def oStrips (G : zG) (x : Int32) : Int32 × Int32 × zG := pif (rOk G x) (zn (gZ G x.toNatClampNeg), zn 0, G) (-1, -1, G)
theorem P_strips (d : Nat) {G : zG} {al : Nat → Nat} {A : zM} {x : Int32} (h : cG G al A) (w : wG G) : cRes 0 0 A (oStrips G x) (z_den zQ (d + 2) mP_strips [.ref 1, .int x] A) := by
  unfold oStrips
  rcases rOk_c w x with g | ⟨r, hr, rfl⟩
  · rw [pif_F g, B_P_strips, E_P_rollAt_no _ h w g]
    simp (disch := omega) only [z_bV_some, z_bI_some, z_bJ_some, z_bD_some, z_bR_some, cond_true, cond_false, Bool.and_true, Bool.true_and, Bool.not_false, Bool.not_true, Bool.and_self, Bool.or_true, Bool.false_or, Bool.true_or, zn_ok, zn_ok0, zn_N, zn_add, zn_mul, zn_sub, z_lt_T, z_lt_F, z_le_T, z_le_F, z_eq_T, z_ne_F, z_eq_F, z_ne_T, z_ix_T, z_lt_m, z_le_m, z_lt_m2, z_le_m2, z_eq_m, z_ne_m, zn_div, z_a31, zn_shl, zn_shr, z_bq_T, z_bq_F, z_bl_T, B_P_refuse]
    exact cRes_st h _ _
  · have := w.1
    obtain ⟨q, q0, -⟩ := cG_ro h w hr
    rw [pif_T (rOk_nat w hr), B_P_strips, E_P_ro _ h w hr, zn_N (by omega)]
    simp (disch := omega) only [z_bV_some, z_bI_some, z_bJ_some, z_bD_some, z_bR_some, cond_true, cond_false, Bool.and_true, Bool.true_and, Bool.not_false, Bool.not_true, Bool.and_self, Bool.or_true, Bool.false_or, Bool.true_or, zn_ok, zn_ok0, zn_N, zn_add, zn_mul, zn_sub, z_lt_T, z_lt_F, z_le_T, z_le_F, z_eq_T, z_ne_F, z_eq_F, z_ne_T, z_ix_T, z_lt_m, z_le_m, z_lt_m2, z_le_m2, z_eq_m, z_ne_m, zn_div, z_a31, zn_shl, zn_shr, z_bq_T, z_bq_F, z_bl_T, nL_0, c8 q.1, q.2.2, B_P_done]
    exact cRes_st h _ _
theorem Q_strips (d : Nat) {G : zG} {B : zM} {x : Int32} (h : rG G B) (w : wG G) : rRes B (oStrips G x) (z_den zQ (d + 3) mQ_strips [.ref 15, .int x] B) := by
  unfold oStrips
  rcases rOk_c w x with g | ⟨r, hr, rfl⟩
  · rw [pif_F g, B_Q_strips, E_Q_isRoll_no _ h w g]
    simp (disch := omega) only [z_bV_some, z_bI_some, z_bJ_some, z_bD_some, z_bR_some, cond_true, cond_false, Bool.and_true, Bool.true_and, Bool.not_false, Bool.not_true, Bool.and_self, Bool.or_true, Bool.false_or, Bool.true_or, zn_ok, zn_ok0, zn_N, zn_add, zn_mul, zn_sub, z_lt_T, z_lt_F, z_le_T, z_le_F, z_eq_T, z_ne_F, z_eq_F, z_ne_T, z_ix_T, z_lt_m, z_le_m, z_lt_m2, z_le_m2, z_eq_m, z_ne_m, zn_div, z_a31, zn_shl, zn_shr, z_bq_T, z_bq_F, z_bl_T, nL_0, B_Q_no]
    exact rRes_st h _ _
  · have := w.1
    rw [pif_T (rOk_nat w hr), B_Q_strips, E_Q_isRoll_ok _ h w (rOk_nat w hr), zn_N (by omega)]
    simp (disch := omega) only [z_bV_some, z_bI_some, z_bJ_some, z_bD_some, z_bR_some, cond_true, cond_false, Bool.and_true, Bool.true_and, Bool.not_false, Bool.not_true, Bool.and_self, Bool.or_true, Bool.false_or, Bool.true_or, zn_ok, zn_ok0, zn_N, zn_add, zn_mul, zn_sub, z_lt_T, z_lt_F, z_le_T, z_le_F, z_eq_T, z_ne_F, z_eq_F, z_ne_T, z_ix_T, z_lt_m, z_le_m, z_lt_m2, z_le_m2, z_eq_m, z_ne_m, zn_div, z_a31, zn_shl, zn_shr, z_bq_T, z_bq_F, z_bl_T, nL_0, h.2.2.2.1 r hr, B_Q_well]
    exact rRes_st h _ _
/-- whole -/
noncomputable def cW (G : zG) (r : Nat) : Nat → Nat → Nat
  | _, 0 => 0
  | i, n + 1 => (if findT (gS G r i) = 0 then 1 else 0) + cW G r (i + 1) n
theorem cW_le (G : zG) (r : Nat) : ∀ n i, cW G r i n ≤ n
  | 0, _ => Nat.le_refl _
  | n + 1, i => by
    unfold cW
    have := cW_le G r n (i + 1)
    split <;> omega
noncomputable def oWhole (G : zG) (x : Int32) : Int32 × Int32 × zG := pif (rOk G x) (zn (cW G x.toNatClampNeg 0 (gZ G x.toNatClampNeg)), zn 0, G) (-1, -1, G)
theorem L_Pw (d : Nat) {G : zG} {al : Nat → Nat} {A : zM} {r : Nat} (l1 : Int32) (h : cG G al A) (w : wG G) (hr : r < gR G) : ∀ (n i c : Nat), i + n = gZ G r → c ≤ i → z_denF zQ (d + 4) mP_whole (21, [some (.ref 1), some (.int l1), some (.ref (zP zQ A 2 r)), some (.int (zn c)), some (.int (zn i))], [], A) = some (some (.int (zn (c + cW G r i n))), z_wI A 1 7 (zn 0))
  | 0, i, c, hi, hc => by
    obtain ⟨q, q0, hz⟩ := cG_ro h w hr
    rw [L_P_whole_21]
    simp (disch := omega) only [z_bV_some, z_bI_some, z_bJ_some, z_bD_some, z_bR_some, cond_true, cond_false, Bool.and_true, Bool.true_and, Bool.not_false, Bool.not_true, Bool.and_self, Bool.or_true, Bool.false_or, Bool.true_or, zn_ok, zn_ok0, zn_N, zn_add, zn_mul, zn_sub, z_lt_T, z_lt_F, z_le_T, z_le_F, z_eq_T, z_ne_F, z_eq_F, z_ne_T, z_ix_T, z_lt_m, z_le_m, z_lt_m2, z_le_m2, z_eq_m, z_ne_m, zn_div, z_a31, zn_shl, zn_shr, z_bq_T, z_bq_F, z_bl_T, nL_0, c8 q.1, q.2.2, B_P_done]
    rfl
  | n + 1, i, c, hi, hc => by
    obtain ⟨q, q0, hz⟩ := cG_ro h w hr
    have e1 := E_L_isWhole d h w hr (s := i) (by omega)
    have ih := fun c hc => L_Pw d l1 h w hr n (i + 1) c (by omega) hc
    have eu : cW G r i (n + 1) = (if findT (gS G r i) = 0 then 1 else 0) + cW G r (i + 1) n := rfl
    rw [L_P_whole_21, eu]
    by_cases g : findT (gS G r i) = 0
    · rw [if_pos g]
      rw [bI_1 (decide_eq_true g)] at e1
      simp (disch := omega) only [z_bV_some, z_bI_some, z_bJ_some, z_bD_some, z_bR_some, cond_true, cond_false, Bool.and_true, Bool.true_and, Bool.not_false, Bool.not_true, Bool.and_self, Bool.or_true, Bool.false_or, Bool.true_or, zn_ok, zn_ok0, zn_N, zn_add, zn_mul, zn_sub, z_lt_T, z_lt_F, z_le_T, z_le_F, z_eq_T, z_ne_F, z_eq_F, z_ne_T, z_ix_T, z_lt_m, z_le_m, z_lt_m2, z_le_m2, z_eq_m, z_ne_m, zn_div, z_a31, zn_shl, zn_shr, z_bq_T, z_bq_F, z_bl_T, nL_0, nL_1, c8 q.1, q.2.2, e1, ih (c + 1) (by omega), Nat.add_assoc]
    · rw [if_neg g]
      rw [bI_0 (by rw [decide_eq_true_iff]; exact g)] at e1
      simp (disch := omega) only [z_bV_some, z_bI_some, z_bJ_some, z_bD_some, z_bR_some, cond_true, cond_false, Bool.and_true, Bool.true_and, Bool.not_false, Bool.not_true, Bool.and_self, Bool.or_true, Bool.false_or, Bool.true_or, zn_ok, zn_ok0, zn_N, zn_add, zn_mul, zn_sub, z_lt_T, z_lt_F, z_le_T, z_le_F, z_eq_T, z_ne_F, z_eq_F, z_ne_T, z_ix_T, z_lt_m, z_le_m, z_lt_m2, z_le_m2, z_eq_m, z_ne_m, zn_div, z_a31, zn_shl, zn_shr, z_bq_T, z_bq_F, z_bl_T, nL_0, nL_1, c8 q.1, q.2.2, e1, ih c (by omega), Nat.zero_add]
theorem P_whole (d : Nat) {G : zG} {al : Nat → Nat} {A : zM} {x : Int32} (h : cG G al A) (w : wG G) : cRes 0 0 A (oWhole G x) (z_den zQ (d + 4) mP_whole [.ref 1, .int x] A) := by
  unfold oWhole
  rcases rOk_c w x with g | ⟨r, hr, rfl⟩
  · rw [pif_F g, B_P_whole, E_P_rollAt_no _ h w g]
    simp (disch := omega) only [z_bV_some, z_bI_some, z_bJ_some, z_bD_some, z_bR_some, cond_true, cond_false, Bool.and_true, Bool.true_and, Bool.not_false, Bool.not_true, Bool.and_self, Bool.or_true, Bool.false_or, Bool.true_or, zn_ok, zn_ok0, zn_N, zn_add, zn_mul, zn_sub, z_lt_T, z_lt_F, z_le_T, z_le_F, z_eq_T, z_ne_F, z_eq_F, z_ne_T, z_ix_T, z_lt_m, z_le_m, z_lt_m2, z_le_m2, z_eq_m, z_ne_m, zn_div, z_a31, zn_shl, zn_shr, z_bq_T, z_bq_F, z_bl_T, B_P_refuse]
    exact cRes_st h _ _
  · have := w.1
    obtain ⟨q, q0, -⟩ := cG_ro h w hr
    have e := L_Pw d (zn r) h w hr (gZ G r) 0 0 (by omega) (by omega)
    rw [Nat.zero_add] at e
    rw [pif_T (rOk_nat w hr), B_P_whole, E_P_ro _ h w hr, zn_N (by omega)]
    simp (disch := omega) only [z_bV_some, z_bI_some, z_bJ_some, z_bD_some, z_bR_some, cond_true, cond_false, Bool.and_true, Bool.true_and, Bool.not_false, Bool.not_true, Bool.and_self, Bool.or_true, Bool.false_or, Bool.true_or, zn_ok, zn_ok0, zn_N, zn_add, zn_mul, zn_sub, z_lt_T, z_lt_F, z_le_T, z_le_F, z_eq_T, z_ne_F, z_eq_F, z_ne_T, z_ix_T, z_lt_m, z_le_m, z_lt_m2, z_le_m2, z_eq_m, z_ne_m, zn_div, z_a31, zn_shl, zn_shr, z_bq_T, z_bq_F, z_bl_T, nL_0, e]
    exact cRes_st h _ _
theorem L_Qw (d : Nat) {G : zG} {B : zM} {r : Nat} (h : rG G B) (w : wG G) (hr : r < gR G) : ∀ (n i c : Nat), i + n = gZ G r → c ≤ i → z_denF zQ (d + 5) mQ_whole (18, [some (.ref 15), some (.int (zn r)), some (.int (zn c)), some (.int (zn i))], [], B) = some (some (.int (zn (c + cW G r i n))), z_wI B 15 0 (zn 0))
  | 0, i, c, hi, hc => by
    have := w.1
    have := wG_z w hr
    have := w.2.1
    rw [L_Q_whole_18]
    simp (disch := omega) only [z_bV_some, z_bI_some, z_bJ_some, z_bD_some, z_bR_some, cond_true, cond_false, Bool.and_true, Bool.true_and, Bool.not_false, Bool.not_true, Bool.and_self, Bool.or_true, Bool.false_or, Bool.true_or, zn_ok, zn_ok0, zn_N, zn_add, zn_mul, zn_sub, z_lt_T, z_lt_F, z_le_T, z_le_F, z_eq_T, z_ne_F, z_eq_F, z_ne_T, z_ix_T, z_lt_m, z_le_m, z_lt_m2, z_le_m2, z_eq_m, z_ne_m, zn_div, z_a31, zn_shl, zn_shr, z_bq_T, z_bq_F, z_bl_T, nL_0, h.2.2.2.1 r hr, B_Q_well]
    rfl
  | n + 1, i, c, hi, hc => by
    have := w.1
    have := wG_z w hr
    have := w.2.1
    obtain ⟨p1, p2, p3, p4⟩ := rG_rs h w hr (s := i) (by omega)
    have e0 := E_Q_po (d + 3) h w hr (s := i) (by omega)
    have e1 := E_Q_findingOf d _ _ _ p2 p3 p4
    have hf := find_lt (gS G r i)
    have ih := fun c hc => L_Qw d h w hr n (i + 1) c (by omega) hc
    have eu : cW G r i (n + 1) = (if findT (gS G r i) = 0 then 1 else 0) + cW G r (i + 1) n := rfl
    rw [L_Q_whole_18, eu]
    by_cases g : findT (gS G r i) = 0
    · rw [if_pos g]
      rw [g] at e1
      simp (disch := omega) only [z_bV_some, z_bI_some, z_bJ_some, z_bD_some, z_bR_some, cond_true, cond_false, Bool.and_true, Bool.true_and, Bool.not_false, Bool.not_true, Bool.and_self, Bool.or_true, Bool.false_or, Bool.true_or, zn_ok, zn_ok0, zn_N, zn_add, zn_mul, zn_sub, z_lt_T, z_lt_F, z_le_T, z_le_F, z_eq_T, z_ne_F, z_eq_F, z_ne_T, z_ix_T, z_lt_m, z_le_m, z_lt_m2, z_le_m2, z_eq_m, z_ne_m, zn_div, z_a31, zn_shl, zn_shr, z_bq_T, z_bq_F, z_bl_T, nL_0, nL_1, h.2.2.2.1 r hr, e0, e1, ih (c + 1) (by omega), Nat.add_assoc]
    · rw [if_neg g]
      simp (disch := omega) only [z_bV_some, z_bI_some, z_bJ_some, z_bD_some, z_bR_some, cond_true, cond_false, Bool.and_true, Bool.true_and, Bool.not_false, Bool.not_true, Bool.and_self, Bool.or_true, Bool.false_or, Bool.true_or, zn_ok, zn_ok0, zn_N, zn_add, zn_mul, zn_sub, z_lt_T, z_lt_F, z_le_T, z_le_F, z_eq_T, z_ne_F, z_eq_F, z_ne_T, z_ix_T, z_lt_m, z_le_m, z_lt_m2, z_le_m2, z_eq_m, z_ne_m, zn_div, z_a31, zn_shl, zn_shr, z_bq_T, z_bq_F, z_bl_T, nL_0, nL_1, h.2.2.2.1 r hr, e0, e1, ih c (by omega), Nat.zero_add, Nat.add_zero]
theorem Q_whole (d : Nat) {G : zG} {B : zM} {x : Int32} (h : rG G B) (w : wG G) : rRes B (oWhole G x) (z_den zQ (d + 5) mQ_whole [.ref 15, .int x] B) := by
  unfold oWhole
  rcases rOk_c w x with g | ⟨r, hr, rfl⟩
  · rw [pif_F g, B_Q_whole, E_Q_isRoll_no _ h w g]
    simp (disch := omega) only [z_bV_some, z_bI_some, z_bJ_some, z_bD_some, z_bR_some, cond_true, cond_false, Bool.and_true, Bool.true_and, Bool.not_false, Bool.not_true, Bool.and_self, Bool.or_true, Bool.false_or, Bool.true_or, zn_ok, zn_ok0, zn_N, zn_add, zn_mul, zn_sub, z_lt_T, z_lt_F, z_le_T, z_le_F, z_eq_T, z_ne_F, z_eq_F, z_ne_T, z_ix_T, z_lt_m, z_le_m, z_lt_m2, z_le_m2, z_eq_m, z_ne_m, zn_div, z_a31, zn_shl, zn_shr, z_bq_T, z_bq_F, z_bl_T, nL_0, B_Q_no]
    exact rRes_st h _ _
  · have := w.1
    have e := L_Qw d h w hr (gZ G r) 0 0 (by omega) (by omega)
    rw [Nat.zero_add] at e
    rw [pif_T (rOk_nat w hr), B_Q_whole, E_Q_isRoll_ok _ h w (rOk_nat w hr), zn_N (by omega)]
    simp (disch := omega) only [z_bV_some, z_bI_some, z_bJ_some, z_bD_some, z_bR_some, cond_true, cond_false, Bool.and_true, Bool.true_and, Bool.not_false, Bool.not_true, Bool.and_self, Bool.or_true, Bool.false_or, Bool.true_or, zn_ok, zn_ok0, zn_N, zn_add, zn_mul, zn_sub, z_lt_T, z_lt_F, z_le_T, z_le_F, z_eq_T, z_ne_F, z_eq_F, z_ne_T, z_ix_T, z_lt_m, z_le_m, z_lt_m2, z_le_m2, z_eq_m, z_ne_m, zn_div, z_a31, zn_shl, zn_shr, z_bq_T, z_bq_F, z_bl_T, nL_0, e]
    exact rRes_st h _ _
/-- finding -/
theorem z_dec2 (x : Int32) : x + -zn 1 = x - zn 1 := by rw [← nL_1]; rw [z_dec, nL_1]
noncomputable def fW (G : zG) (r : Nat) : Nat → Nat → Nat → Int32
  | _, 0, _ => -4
  | i, n + 1, k => if findT (gS G r i) = 0 then fW G r (i + 1) n k else if k = 0 then zn i else fW G r (i + 1) n (k - 1)
noncomputable def oFinding (G : zG) (x k : Int32) : Int32 × Int32 × zG := pif (rOk G x ∧ 0 ≤ k.toInt) (fW G x.toNatClampNeg 0 (gZ G x.toNatClampNeg) k.toNatClampNeg, zn 0, G) (-1, -1, G)
theorem L_Pf (d : Nat) {G : zG} {al : Nat → Nat} {A : zM} {r : Nat} (l1 : Int32) (K : Nat) (hK : K < 2147483648) (h : cG G al A) (w : wG G) (hr : r < gR G) : ∀ (n i c : Nat), i + n = gZ G r → c ≤ i → c ≤ K → z_denF zQ (d + 4) mP_finding (26, [some (.ref 1), some (.int l1), some (.int (zn K)), some (.ref (zP zQ A 2 r)), some (.int (zn c)), some (.int (zn i))], [], A) = some (some (.int (fW G r i n (K - c))), z_wI A 1 7 (zn 0))
  | 0, i, c, hi, hc, hk => by
    obtain ⟨q, q0, hz⟩ := cG_ro h w hr
    rw [L_P_finding_26]
    simp (disch := omega) only [z_bV_some, z_bI_some, z_bJ_some, z_bD_some, z_bR_some, cond_true, cond_false, Bool.and_true, Bool.true_and, Bool.not_false, Bool.not_true, Bool.and_self, Bool.or_true, Bool.false_or, Bool.true_or, zn_ok, zn_ok0, zn_N, zn_add, zn_mul, zn_sub, z_lt_T, z_lt_F, z_le_T, z_le_F, z_eq_T, z_ne_F, z_eq_F, z_ne_T, z_ix_T, z_lt_m, z_le_m, z_lt_m2, z_le_m2, z_eq_m, z_ne_m, zn_div, z_a31, zn_shl, zn_shr, z_bq_T, z_bq_F, z_bl_T, nL_0, c8 q.1, q.2.2, B_P_nothingThere]
    rfl
  | n + 1, i, c, hi, hc, hk => by
    obtain ⟨q, q0, hz⟩ := cG_ro h w hr
    have e1 := E_L_isWhole d h w hr (s := i) (by omega)
    have ih := fun c hc hk => L_Pf d l1 K hK h w hr n (i + 1) c (by omega) hc hk
    have eu : fW G r i (n + 1) (K - c) = if findT (gS G r i) = 0 then fW G r (i + 1) n (K - c) else if K - c = 0 then zn i else fW G r (i + 1) n (K - c - 1) := rfl
    rw [L_P_finding_26, eu]
    by_cases g : findT (gS G r i) = 0
    · rw [if_pos g]
      rw [bI_1 (decide_eq_true g)] at e1
      simp (disch := omega) only [z_bV_some, z_bI_some, z_bJ_some, z_bD_some, z_bR_some, cond_true, cond_false, Bool.and_true, Bool.true_and, Bool.not_false, Bool.not_true, Bool.and_self, Bool.or_true, Bool.false_or, Bool.true_or, zn_ok, zn_ok0, zn_N, zn_add, zn_mul, zn_sub, z_lt_T, z_lt_F, z_le_T, z_le_F, z_eq_T, z_ne_F, z_eq_F, z_ne_T, z_ix_T, z_lt_m, z_le_m, z_lt_m2, z_le_m2, z_eq_m, z_ne_m, zn_div, z_a31, zn_shl, zn_shr, z_bq_T, z_bq_F, z_bl_T, nL_0, nL_1, c8 q.1, q.2.2, e1, ih c (by omega) hk]
    · rw [if_neg g]
      rw [bI_0 (by rw [decide_eq_true_iff]; exact g)] at e1
      by_cases g2 : K - c = 0
      · have : c = K := by omega
        subst this
        rw [if_pos g2]
        simp (disch := omega) only [z_bV_some, z_bI_some, z_bJ_some, z_bD_some, z_bR_some, cond_true, cond_false, Bool.and_true, Bool.true_and, Bool.not_false, Bool.not_true, Bool.and_self, Bool.or_true, Bool.false_or, Bool.true_or, zn_ok, zn_ok0, zn_N, zn_add, zn_mul, zn_sub, z_lt_T, z_lt_F, z_le_T, z_le_F, z_eq_T, z_ne_F, z_eq_F, z_ne_T, z_ix_T, z_lt_m, z_le_m, z_lt_m2, z_le_m2, z_eq_m, z_ne_m, zn_div, z_a31, zn_shl, zn_shr, z_bq_T, z_bq_F, z_bl_T, nL_0, nL_1, c8 q.1, q.2.2, e1, B_P_done]
      · rw [if_neg g2]
        have e3 := ih (c + 1) (by omega) (by omega)
        rw [show K - (c + 1) = K - c - 1 by omega] at e3
        simp (disch := omega) only [z_bV_some, z_bI_some, z_bJ_some, z_bD_some, z_bR_some, cond_true, cond_false, Bool.and_true, Bool.true_and, Bool.not_false, Bool.not_true, Bool.and_self, Bool.or_true, Bool.false_or, Bool.true_or, zn_ok, zn_ok0, zn_N, zn_add, zn_mul, zn_sub, z_lt_T, z_lt_F, z_le_T, z_le_F, z_eq_T, z_ne_F, z_eq_F, z_ne_T, z_ix_T, z_lt_m, z_le_m, z_lt_m2, z_le_m2, z_eq_m, z_ne_m, zn_div, z_a31, zn_shl, zn_shr, z_bq_T, z_bq_F, z_bl_T, nL_0, nL_1, c8 q.1, q.2.2, e1, e3]
theorem P_finding (d : Nat) {G : zG} {al : Nat → Nat} {A : zM} {x k : Int32} (h : cG G al A) (w : wG G) : cRes 0 0 A (oFinding G x k) (z_den zQ (d + 4) mP_finding [.ref 1, .int x, .int k] A) := by
  unfold oFinding
  rcases rOk_c w x with g | ⟨r, hr, rfl⟩
  · rw [pif_F (fun q => g q.1), B_P_finding, E_P_rollAt_no _ h w g]
    simp (disch := omega) only [z_bV_some, z_bI_some, z_bJ_some, z_bD_some, z_bR_some, cond_true, cond_false, Bool.and_true, Bool.true_and, Bool.not_false, Bool.not_true, Bool.and_self, Bool.or_true, Bool.false_or, Bool.true_or, zn_ok, zn_ok0, zn_N, zn_add, zn_mul, zn_sub, z_lt_T, z_lt_F, z_le_T, z_le_F, z_eq_T, z_ne_F, z_eq_F, z_ne_T, z_ix_T, z_lt_m, z_le_m, z_lt_m2, z_le_m2, z_eq_m, z_ne_m, zn_div, z_a31, zn_shl, zn_shr, z_bq_T, z_bq_F, z_bl_T, B_P_refuse]
    exact cRes_st h _ _
  · have := w.1
    obtain ⟨q, q0, -⟩ := cG_ro h w hr
    rw [B_P_finding, E_P_ro _ h w hr, zn_N (by omega)]
    rcases zn_cases k with hk | ⟨j, hj, rfl⟩
    · rw [pif_F (fun q => by omega)]
      simp (disch := omega) only [z_bV_some, z_bI_some, z_bJ_some, z_bD_some, z_bR_some, cond_true, cond_false, Bool.and_true, Bool.true_and, Bool.not_false, Bool.not_true, Bool.and_self, Bool.or_true, Bool.false_or, Bool.true_or, zn_ok, zn_ok0, zn_N, zn_add, zn_mul, zn_sub, z_lt_T, z_lt_F, z_le_T, z_le_F, z_eq_T, z_ne_F, z_eq_F, z_ne_T, z_ix_T, z_lt_m, z_le_m, z_lt_m2, z_le_m2, z_eq_m, z_ne_m, zn_div, z_a31, zn_shl, zn_shr, z_bq_T, z_bq_F, z_bl_T, nL_0, B_P_refuse]
      exact cRes_st h _ _
    · have e := L_Pf d (zn r) j hj h w hr (gZ G r) 0 0 (by omega) (by omega) (by omega)
      rw [Nat.sub_zero] at e
      rw [pif_T ⟨rOk_nat w hr, by rw [zn_toInt hj]; omega⟩, zn_N hj]
      simp (disch := omega) only [z_bV_some, z_bI_some, z_bJ_some, z_bD_some, z_bR_some, cond_true, cond_false, Bool.and_true, Bool.true_and, Bool.not_false, Bool.not_true, Bool.and_self, Bool.or_true, Bool.false_or, Bool.true_or, zn_ok, zn_ok0, zn_N, zn_add, zn_mul, zn_sub, z_lt_T, z_lt_F, z_le_T, z_le_F, z_eq_T, z_ne_F, z_eq_F, z_ne_T, z_ix_T, z_lt_m, z_le_m, z_lt_m2, z_le_m2, z_eq_m, z_ne_m, zn_div, z_a31, zn_shl, zn_shr, z_bq_T, z_bq_F, z_bl_T, nL_0, e]
      exact cRes_st h _ _
theorem L_Qf (d : Nat) {G : zG} {B : zM} {r : Nat} (l2 : Int32) (h : rG G B) (w : wG G) (hr : r < gR G) : ∀ (n i k : Nat), i + n = gZ G r → k < 2147483648 → z_denF zQ (d + 5) mQ_finding (23, [some (.ref 15), some (.int (zn r)), some (.int l2), some (.int (zn k)), some (.int (zn i))], [], B) = some (some (.int (fW G r i n k)), z_wI B 15 0 (zn 0))
  | 0, i, k, hi, hk => by
    have := w.1
    have := wG_z w hr
    have := w.2.1
    rw [L_Q_finding_23]
    simp (disch := omega) only [z_bV_some, z_bI_some, z_bJ_some, z_bD_some, z_bR_some, cond_true, cond_false, Bool.and_true, Bool.true_and, Bool.not_false, Bool.not_true, Bool.and_self, Bool.or_true, Bool.false_or, Bool.true_or, zn_ok, zn_ok0, zn_N, zn_add, zn_mul, zn_sub, z_lt_T, z_lt_F, z_le_T, z_le_F, z_eq_T, z_ne_F, z_eq_F, z_ne_T, z_ix_T, z_lt_m, z_le_m, z_lt_m2, z_le_m2, z_eq_m, z_ne_m, zn_div, z_a31, zn_shl, zn_shr, z_bq_T, z_bq_F, z_bl_T, nL_0, h.2.2.2.1 r hr, B_Q_well]
    rfl
  | n + 1, i, k, hi, hk => by
    have := w.1
    have := wG_z w hr
    have := w.2.1
    obtain ⟨p1, p2, p3, p4⟩ := rG_rs h w hr (s := i) (by omega)
    have e0 := E_Q_po (d + 3) h w hr (s := i) (by omega)
    have e1 := E_Q_findingOf d _ _ _ p2 p3 p4
    have hf := find_lt (gS G r i)
    have ih := fun k hk => L_Qf d l2 h w hr n (i + 1) k (by omega) hk
    have eu : fW G r i (n + 1) k = if findT (gS G r i) = 0 then fW G r (i + 1) n k else if k = 0 then zn i else fW G r (i + 1) n (k - 1) := rfl
    rw [L_Q_finding_23, eu]
    by_cases g : findT (gS G r i) = 0
    · rw [if_pos g]
      rw [g] at e1
      simp (disch := omega) only [z_bV_some, z_bI_some, z_bJ_some, z_bD_some, z_bR_some, cond_true, cond_false, Bool.and_true, Bool.true_and, Bool.not_false, Bool.not_true, Bool.and_self, Bool.or_true, Bool.false_or, Bool.true_or, zn_ok, zn_ok0, zn_N, zn_add, zn_mul, zn_sub, z_lt_T, z_lt_F, z_le_T, z_le_F, z_eq_T, z_ne_F, z_eq_F, z_ne_T, z_ix_T, z_lt_m, z_le_m, z_lt_m2, z_le_m2, z_eq_m, z_ne_m, zn_div, z_a31, zn_shl, zn_shr, z_bq_T, z_bq_F, z_bl_T, nL_0, nL_1, h.2.2.2.1 r hr, e0, e1, ih k hk]
    · rw [if_neg g]
      by_cases g2 : k = 0
      · subst g2
        rw [if_pos rfl]
        simp (disch := omega) only [z_bV_some, z_bI_some, z_bJ_some, z_bD_some, z_bR_some, cond_true, cond_false, Bool.and_true, Bool.true_and, Bool.not_false, Bool.not_true, Bool.and_self, Bool.or_true, Bool.false_or, Bool.true_or, zn_ok, zn_ok0, zn_N, zn_add, zn_mul, zn_sub, z_lt_T, z_lt_F, z_le_T, z_le_F, z_eq_T, z_ne_F, z_eq_F, z_ne_T, z_ix_T, z_lt_m, z_le_m, z_lt_m2, z_le_m2, z_eq_m, z_ne_m, zn_div, z_a31, zn_shl, zn_shr, z_bq_T, z_bq_F, z_bl_T, nL_0, nL_1, h.2.2.2.1 r hr, e0, e1, B_Q_well]
      · rw [if_neg g2]
        simp (disch := omega) only [z_dec2, z_bV_some, z_bI_some, z_bJ_some, z_bD_some, z_bR_some, cond_true, cond_false, Bool.and_true, Bool.true_and, Bool.not_false, Bool.not_true, Bool.and_self, Bool.or_true, Bool.false_or, Bool.true_or, zn_ok, zn_ok0, zn_N, zn_add, zn_mul, zn_sub, z_lt_T, z_lt_F, z_le_T, z_le_F, z_eq_T, z_ne_F, z_eq_F, z_ne_T, z_ix_T, z_lt_m, z_le_m, z_lt_m2, z_le_m2, z_eq_m, z_ne_m, zn_div, z_a31, zn_shl, zn_shr, z_bq_T, z_bq_F, z_bl_T, nL_0, nL_1, h.2.2.2.1 r hr, e0, e1, ih (k - 1) (by omega)]
theorem Q_finding (d : Nat) {G : zG} {B : zM} {x k : Int32} (h : rG G B) (w : wG G) : rRes B (oFinding G x k) (z_den zQ (d + 5) mQ_finding [.ref 15, .int x, .int k] B) := by
  unfold oFinding
  rcases rOk_c w x with g | ⟨r, hr, rfl⟩
  · rw [pif_F (fun q => g q.1), B_Q_finding, E_Q_isRoll_no _ h w g]
    simp (disch := omega) only [z_bV_some, z_bI_some, z_bJ_some, z_bD_some, z_bR_some, cond_true, cond_false, Bool.and_true, Bool.true_and, Bool.not_false, Bool.not_true, Bool.and_self, Bool.or_true, Bool.false_or, Bool.true_or, zn_ok, zn_ok0, zn_N, zn_add, zn_mul, zn_sub, z_lt_T, z_lt_F, z_le_T, z_le_F, z_eq_T, z_ne_F, z_eq_F, z_ne_T, z_ix_T, z_lt_m, z_le_m, z_lt_m2, z_le_m2, z_eq_m, z_ne_m, zn_div, z_a31, zn_shl, zn_shr, z_bq_T, z_bq_F, z_bl_T, nL_0, B_Q_no]
    exact rRes_st h _ _
  · have := w.1
    rw [B_Q_finding, E_Q_isRoll_ok _ h w (rOk_nat w hr), zn_N (by omega)]
    rcases zn_cases k with hk | ⟨j, hj, rfl⟩
    · rw [pif_F (fun q => by omega)]
      simp (disch := omega) only [z_bV_some, z_bI_some, z_bJ_some, z_bD_some, z_bR_some, cond_true, cond_false, Bool.and_true, Bool.true_and, Bool.not_false, Bool.not_true, Bool.and_self, Bool.or_true, Bool.false_or, Bool.true_or, zn_ok, zn_ok0, zn_N, zn_add, zn_mul, zn_sub, z_lt_T, z_lt_F, z_le_T, z_le_F, z_eq_T, z_ne_F, z_eq_F, z_ne_T, z_ix_T, z_lt_m, z_le_m, z_lt_m2, z_le_m2, z_eq_m, z_ne_m, zn_div, z_a31, zn_shl, zn_shr, z_bq_T, z_bq_F, z_bl_T, nL_0, B_Q_no]
      exact rRes_st h _ _
    · have e := fun l2 => L_Qf d l2 h w hr (gZ G r) 0 j (by omega) hj
      rw [pif_T ⟨rOk_nat w hr, by rw [zn_toInt hj]; omega⟩, zn_N hj]
      simp (disch := omega) only [z_bV_some, z_bI_some, z_bJ_some, z_bD_some, z_bR_some, cond_true, cond_false, Bool.and_true, Bool.true_and, Bool.not_false, Bool.not_true, Bool.and_self, Bool.or_true, Bool.false_or, Bool.true_or, zn_ok, zn_ok0, zn_N, zn_add, zn_mul, zn_sub, z_lt_T, z_lt_F, z_le_T, z_le_F, z_eq_T, z_ne_F, z_eq_F, z_ne_T, z_ix_T, z_lt_m, z_le_m, z_lt_m2, z_le_m2, z_eq_m, z_ne_m, zn_div, z_a31, zn_shl, zn_shr, z_bq_T, z_bq_F, z_bl_T, nL_0, e]
      exact rRes_st h _ _
