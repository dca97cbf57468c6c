/-! S LEVEL: reaches, the reference. -/
theorem rJ_w42 {J : zJ} {M : zM} (h : rJ J M) (k : Nat) (v : Int32) : rJ J (z_wI M 42 k v) := by
  obtain ⟨h1, h2, h3, h4⟩ := h
  refine ⟨by rw [zI_wI_a (by omega)]; exact h1, by rw [zD_wI]; exact h2, fun i hi => ?_, fun i a1 a2 => ?_⟩
  · obtain ⟨g1, g2, g3, g4, g5, g6⟩ := h3 i hi
    exact ⟨by rw [zI_wI_a (by omega)]; exact g1, by rw [zI_wI_a (by omega)]; exact g2, by rw [zI_wI_a (by omega)]; exact g3, by rw [zI_wI_a (by omega)]; exact g4, by rw [zD_wI]; exact g5, fun k hk => by rw [zI_wI_a (by omega)]; exact g6 k hk⟩
  · rw [zI_wI_a (by omega), zI_wI_a (by omega)]; exact h4 i a1 a2
def mK (J : zJ) (M : zM) (mk : Nat → Nat) : Prop := ∀ j, j < jN J → zI M 42 j = zn (mk j) ∧ mk j ≤ 1
def mS (J : zJ) (c : Nat) (mk : Nat → Nat) : Prop := mk c = 1 ∧ ∀ j, j < jN J → mk j = 1 → 0 < twF J c 40 j
theorem smT_mem {g : Nat → Nat} {j : Nat} : ∀ {l : List Nat}, j ∈ l → g j ≤ smT g l
  | [], h => by cases h
  | i :: r, h => by
    show g j ≤ g i + smT g r
    rcases List.mem_cons.mp h with q | q
    · subst q; omega
    · have := smT_mem (g := g) q; omega
theorem and1_n {v : Nat} (h : v ≤ 1) : zn v &&& 1 = zn v := by
  have : v = 0 ∨ v = 1 := by omega
  rcases this with e | e
  · subst e; rw [← nL_0]; decide
  · subst e; rw [← nL_1]; decide
theorem r_55 (J : zJ) (w : wJ J) (d : Nat) {c : Nat} (l1 l2 : Int32) {j : Nat} (hj : j < jN J) : ∀ (n k ch : Nat) (mk : Nat → Nat) (M : zM), k + n = jM J j → ch ≤ 1 → rJ J M → mK J M mk → mS J c mk → ∃ (mk' : Nat → Nat) (ch' : Nat) (l5 : Int32) (M' : zM), z_denF zQ (d + 1) mQ_reaches (55, [some (.ref 15), some (.int l1), some (.int l2), some (.int (zn ch)), some (.int (zn j)), some (.int (zn k))], [], M) = z_denF zQ (d + 1) mQ_reaches (43, [some (.ref 15), some (.int l1), some (.int l2), some (.int (zn ch')), some (.int (zn (j + 1))), some (.int l5)], [], M') ∧ rJ J M' ∧ mK J M' mk' ∧ mS J c mk' ∧ ch' ≤ 1 ∧ (ch = 1 → ch' = 1) ∧ (∀ i, i < jN J → mk i ≤ mk' i) ∧ (ch' = 0 → (∀ i, i < jN J → mk' i = mk i) ∧ (mk j = 0 → ∀ u, k ≤ u → u < jM J j → mk (jB J j u) = 0)) ∧ (ch' = 1 → ch = 1 ∨ (mk j = 0 ∧ mk' j = 1)) ∧ zFr 0 0 (fun a _ => a = 42) M M' := by
  have w0 := w.1
  obtain ⟨w1, w2, w3, w4, w5, w6, w7, w8⟩ := w.2.2.2 j hj
  intro n
  induction n with
  | zero =>
    intro k ch mk M hk hch hJ hK hS
    obtain ⟨g1, g2, -⟩ := hJ.2.2.1 j hj
    refine ⟨mk, ch, zn k, M, ?_, hJ, hK, hS, hch, fun q => q, fun i _ => Nat.le_refl _, fun q => ⟨fun i _ => rfl, fun _ u a1 a2 => by omega⟩, fun q => Or.inl q, zFr_refl _ _⟩
    rw [L_Q_reaches_55]
    simp (disch := omega) only [z_bV_some, z_bI_some, z_bJ_some, z_bD_some, z_bR_some, cond_true, cond_false, Bool.and_true, Bool.true_and, Bool.not_false, Bool.not_true, Bool.and_self, Bool.or_true, Bool.false_or, Bool.true_or, zn_ok, zn_ok0, zn_N, zn_add, zn_mul, zn_sub, z_lt_T, z_lt_F, z_le_T, z_le_F, z_eq_T, z_ne_F, z_eq_F, z_ne_T, z_ix_T, z_lt_m, z_le_m, z_lt_m2, z_le_m2, z_eq_m, z_ne_m, zn_div, z_a31, zn_shl, zn_shr, z_bq_T, z_bq_F, z_bl_T, nL_1, g2]
  | succ n ih =>
    intro k ch mk M hk hch hJ hK hS
    obtain ⟨g1, g2, g3, g4, g5, g6⟩ := hJ.2.2.1 j hj
    have m1 := hK j hj
    by_cases e1 : mk j = 1
    · refine ⟨mk, ch, zn k, M, ?_, hJ, hK, hS, hch, fun q => q, fun i _ => Nat.le_refl _, fun q => ⟨fun i _ => rfl, fun q2 => by omega⟩, fun q => Or.inl q, zFr_refl _ _⟩
      have m2 := m1.1
      rw [e1] at m2
      rw [L_Q_reaches_55]
      simp (disch := omega) only [z_bV_some, z_bI_some, z_bJ_some, z_bD_some, z_bR_some, cond_true, cond_false, Bool.and_true, Bool.true_and, Bool.not_false, Bool.not_true, Bool.and_self, Bool.or_true, Bool.false_or, Bool.true_or, zn_ok, zn_ok0, zn_N, zn_add, zn_mul, zn_sub, z_lt_T, z_lt_F, z_le_T, z_le_F, z_eq_T, z_ne_F, z_eq_F, z_ne_T, z_ix_T, z_lt_m, z_le_m, z_lt_m2, z_le_m2, z_eq_m, z_ne_m, zn_div, z_a31, zn_shl, zn_shr, z_bq_T, z_bq_F, z_bl_T, nL_0, nL_1, g2, m2]
    · have e0 : mk j = 0 := by omega
      have hb := w8 k (by omega)
      have mb := hK (jB J j k) hb
      have hg := g6 k (by omega)
      have hjc : j ≠ c := fun q => by rw [q, hS.1] at e0; omega
      have hJ1 := rJ_w42 hJ j (zn (mk (jB J j k)))
      have hK1 : mK J (z_wI M 42 j (zn (mk (jB J j k)))) (fun i => if i = j then mk (jB J j k) else mk i) := by
        intro i hi
        by_cases e : i = j
        · subst e; simp only [if_true]; exact ⟨zI_wI_s .., mb.2⟩
        · simp only [if_neg e]; rw [zI_wI_k e]; exact hK i hi
      have hS1 : mS J c (fun i => if i = j then mk (jB J j k) else mk i) := by
        refine ⟨by simp only [if_neg (Ne.symm hjc)]; exact hS.1, fun i hi q => ?_⟩
        by_cases e : i = j
        · subst e
          simp only [if_true] at q
          have t1 := hS.2 (jB J i k) hb q
          have t2 := smT_mem (g := twF J c 40) (ms_k (J := J) (i := i) (show k < jM J i by omega))
          have t3 := tw_40 w c hi
          omega
        · simp only [if_neg e] at q; exact hS.2 i hi q
      have f1 : zFr 0 0 (fun a _ => a = 42) M (z_wI M 42 j (zn (mk (jB J j k)))) := zFr_wI (X := fun a _ => a = 42) rfl
      obtain ⟨mk', ch', l5, M', q1, q2, q3, q4, q5, q6, q7, q8, q9, q10⟩ := ih (k + 1) (if ch = 1 then 1 else mk (jB J j k)) _ _ (by omega) (by split <;> omega) hJ1 hK1 hS1
      refine ⟨mk', ch', l5, M', ?_, q2, q3, q4, q5, fun q => q6 (by rw [if_pos q]), fun i hi => ?_, fun q => ?_, fun q => ?_, zFr_trans f1 q10 (fun _ _ _ e => e)⟩
      · rw [← q1]
        have m2 := m1.1
        rw [e0] at m2
        have hch2 : ch = 0 ∨ ch = 1 := by omega
        have hv2 : mk (jB J j k) = 0 ∨ mk (jB J j k) = 1 := by omega
        have hva := and1_n mb.2
        rw [L_Q_reaches_55]
        rcases hch2 with c0 | c1
        · subst c0
          rw [if_neg (by omega)]
          rcases hv2 with v0 | v1
          · rw [v0] at mb hva ⊢
            simp (disch := omega) only [z_bV_some, z_bI_some, z_bJ_some, z_bD_some, z_bR_some, cond_true, cond_false, Bool.and_true, Bool.true_and, Bool.not_false, Bool.not_true, Bool.and_self, Bool.or_true, Bool.false_or, Bool.true_or, zn_ok, zn_ok0, zn_N, zn_add, zn_mul, zn_sub, z_lt_T, z_lt_F, z_le_T, z_le_F, z_eq_T, z_ne_F, z_eq_F, z_ne_T, z_ix_T, z_lt_m, z_le_m, z_lt_m2, z_le_m2, z_eq_m, z_ne_m, zn_div, z_a31, zn_shl, zn_shr, z_bq_T, z_bq_F, z_bl_T, nL_0, nL_8, g2, m2, hg, mb.1, hva, nL_1, zI_wI_s]
            rw [nL_1] at hva
            simp (disch := omega) only [z_bV_some, z_bI_some, z_bJ_some, z_bD_some, z_bR_some, cond_true, cond_false, Bool.and_true, Bool.true_and, Bool.not_false, Bool.not_true, Bool.and_self, Bool.or_true, Bool.false_or, Bool.true_or, zn_ok, zn_ok0, zn_N, zn_add, zn_mul, zn_sub, z_lt_T, z_lt_F, z_le_T, z_le_F, z_eq_T, z_ne_F, z_eq_F, z_ne_T, z_ix_T, z_lt_m, z_le_m, z_lt_m2, z_le_m2, z_eq_m, z_ne_m, zn_div, z_a31, zn_shl, zn_shr, z_bq_T, z_bq_F, z_bl_T, nL_0, nL_1, hva, zI_wI_s]
          · rw [v1] at mb hva ⊢
            simp (disch := omega) only [z_bV_some, z_bI_some, z_bJ_some, z_bD_some, z_bR_some, cond_true, cond_false, Bool.and_true, Bool.true_and, Bool.not_false, Bool.not_true, Bool.and_self, Bool.or_true, Bool.false_or, Bool.true_or, zn_ok, zn_ok0, zn_N, zn_add, zn_mul, zn_sub, z_lt_T, z_lt_F, z_le_T, z_le_F, z_eq_T, z_ne_F, z_eq_F, z_ne_T, z_ix_T, z_lt_m, z_le_m, z_lt_m2, z_le_m2, z_eq_m, z_ne_m, zn_div, z_a31, zn_shl, zn_shr, z_bq_T, z_bq_F, z_bl_T, nL_0, nL_8, g2, m2, hg, mb.1, nL_1, zI_wI_s]
            rw [nL_1] at hva
            simp (disch := omega) only [z_bV_some, z_bI_some, z_bJ_some, z_bD_some, z_bR_some, cond_true, cond_false, Bool.and_true, Bool.true_and, Bool.not_false, Bool.not_true, Bool.and_self, Bool.or_true, Bool.false_or, Bool.true_or, zn_ok, zn_ok0, zn_N, zn_add, zn_mul, zn_sub, z_lt_T, z_lt_F, z_le_T, z_le_F, z_eq_T, z_ne_F, z_eq_F, z_ne_T, z_ix_T, z_lt_m, z_le_m, z_lt_m2, z_le_m2, z_eq_m, z_ne_m, zn_div, z_a31, zn_shl, zn_shr, z_bq_T, z_bq_F, z_bl_T, nL_0, nL_1, hva, zI_wI_s]
        · subst c1
          rw [if_pos rfl]
          simp (disch := omega) only [z_bV_some, z_bI_some, z_bJ_some, z_bD_some, z_bR_some, cond_true, cond_false, Bool.and_true, Bool.true_and, Bool.not_false, Bool.not_true, Bool.and_self, Bool.or_true, Bool.false_or, Bool.true_or, zn_ok, zn_ok0, zn_N, zn_add, zn_mul, zn_sub, z_lt_T, z_lt_F, z_le_T, z_le_F, z_eq_T, z_ne_F, z_eq_F, z_ne_T, z_ix_T, z_lt_m, z_le_m, z_lt_m2, z_le_m2, z_eq_m, z_ne_m, zn_div, z_a31, zn_shl, zn_shr, z_bq_T, z_bq_F, z_bl_T, nL_0, nL_8, g2, m2, hg, mb.1, nL_1]
          rw [nL_1] at hva
          simp (disch := omega) only [z_bV_some, z_bI_some, z_bJ_some, z_bD_some, z_bR_some, cond_true, cond_false, Bool.and_true, Bool.true_and, Bool.not_false, Bool.not_true, Bool.and_self, Bool.or_true, Bool.false_or, Bool.true_or, zn_ok, zn_ok0, zn_N, zn_add, zn_mul, zn_sub, z_lt_T, z_lt_F, z_le_T, z_le_F, z_eq_T, z_ne_F, z_eq_F, z_ne_T, z_ix_T, z_lt_m, z_le_m, z_lt_m2, z_le_m2, z_eq_m, z_ne_m, zn_div, z_a31, zn_shl, zn_shr, z_bq_T, z_bq_F, z_bl_T, nL_0, nL_1, hva]
      · have := q7 i hi
        by_cases e : i = j
        · subst e; omega
        · simp only [if_neg e] at this; exact this
      · obtain ⟨a1, a2⟩ := q8 q
        have hch0 : ¬ (if ch = 1 then 1 else mk (jB J j k)) = 1 := fun z => by have := q6 z; omega
        have hc1 : ch ≠ 1 := fun z => by rw [if_pos z] at hch0; exact hch0 rfl
        rw [if_neg hc1] at hch0
        have hv : mk (jB J j k) = 0 := by omega
        refine ⟨fun i hi => ?_, fun _ u b1 b2 => ?_⟩
        · have := a1 i hi
          by_cases e : i = j
          · subst e; simp only [if_true] at this; omega
          · simp only [if_neg e] at this; exact this
        · by_cases eu : u = k
          · subst eu; exact hv
          · have := a2 (by simp only [if_true]; exact hv) u (by omega) b2
            by_cases e : jB J j u = j
            · rw [e]; exact e0
            · simp only [if_neg e] at this; exact this
      · by_cases hc1 : ch = 1
        · exact Or.inl hc1
        · refine Or.inr ⟨e0, ?_⟩
          rcases q9 q with z | z
          · rw [if_neg hc1] at z
            have := q7 j hj
            simp only [if_true] at this
            have := (q3 j hj).2
            omega
          · exact z.2
