/-! S LEVEL: reaches, the reference: the passes. -/
theorem r_43 (J : zJ) (w : wJ J) (d : Nat) {c : Nat} (l1 l2 : Int32) : ∀ (n j ch : Nat) (mk : Nat → Nat) (o5 : Option Value) (M : zM), j + n = jN J → ch ≤ 1 → rJ J M → mK J M mk → mS J c mk → ∃ (mk' : Nat → Nat) (ch' : Nat) (o4' o5' : Option Value) (M' : zM), z_denF zQ (d + 1) mQ_reaches (43, [some (.ref 15), some (.int l1), some (.int l2), some (.int (zn ch)), some (.int (zn j)), o5], [], M) = z_denF zQ (d + 1) mQ_reaches (34, [some (.ref 15), some (.int l1), some (.int l2), some (.int (zn ch')), o4', o5'], [], M') ∧ rJ J M' ∧ mK J M' mk' ∧ mS J c mk' ∧ ch' ≤ 1 ∧ (ch = 1 → ch' = 1) ∧ (∀ i, i < jN J → mk i ≤ mk' i) ∧ (ch' = 0 → (∀ i, i < jN J → mk' i = mk i) ∧ ∀ i, j ≤ i → i < jN J → mk i = 0 → ∀ u, u < jM J i → mk (jB J i u) = 0) ∧ (ch' = 1 → ch = 1 ∨ ∃ i, i < jN J ∧ mk i = 0 ∧ mk' i = 1) ∧ zFr 0 0 (fun a _ => a = 42) M M' := by
  have w0 := w.1
  intro n
  induction n with
  | zero =>
    intro j ch mk o5 M hj hch hJ hK hS
    refine ⟨mk, ch, some (.int (zn j)), o5, M, ?_, hJ, hK, hS, hch, fun q => q, fun i _ => Nat.le_refl _, fun _ => ⟨fun i _ => rfl, fun i a1 a2 => by omega⟩, fun q => Or.inl q, zFr_refl _ _⟩
    rw [L_Q_reaches_43, hJ.1, z_le_T (by omega) (by omega), cond_true]
  | succ n ih =>
    intro j ch mk o5 M hj hch hJ hK hS
    have hj' : j < jN J := by omega
    obtain ⟨mk1, ch1, l5, M1, p1, p2, p3, p4, p5, p6, p7, p8, p9, p10⟩ := r_55 J w d l1 l2 hj' (jM J j) 0 ch mk M (by omega) hch hJ hK hS
    obtain ⟨mk', ch', o4', o5', M', q1, q2, q3, q4, q5, q6, q7, q8, q9, q10⟩ := ih (j + 1) ch1 mk1 (some (.int l5)) M1 (by omega) p5 p2 p3 p4
    refine ⟨mk', ch', o4', o5', M', ?_, q2, q3, q4, q5, fun q => q6 (p6 q), fun i hi => Nat.le_trans (p7 i hi) (q7 i hi), fun q => ?_, fun q => ?_, zFr_trans p10 q10 (fun _ _ _ e => e)⟩
    · rw [← q1, ← p1, L_Q_reaches_43, hJ.1, z_le_F (by omega) (by omega), cond_false, nL_0]
    · have h1 : ch1 = 0 := by
        by_cases e : ch1 = 1
        · have := q6 e; omega
        · omega
      obtain ⟨a1, a2⟩ := q8 q
      obtain ⟨b1, b2⟩ := p8 h1
      refine ⟨fun i hi => by rw [a1 i hi, b1 i hi], fun i c1 c2 c3 u hu => ?_⟩
      by_cases e : i = j
      · subst e; exact b2 c3 u (by omega) hu
      · have := a2 i (by omega) c2 (by rw [b1 i c2]; exact c3) u hu
        rw [b1 _ (ms_lt w c2 hu)] at this
        exact this
    · rcases q9 q with z | ⟨i, z1, z2, z3⟩
      · rcases p9 z with y | y
        · exact Or.inl y
        · refine Or.inr ⟨j, hj', y.1, ?_⟩
          have := q7 j hj'
          have := (q3 j hj').2
          omega
      · refine Or.inr ⟨i, z1, ?_, z3⟩
        have := p7 i z1
        omega
/-- how many are not marked -/
def zcF (mk : Nat → Nat) : Nat → Nat
  | 0 => 0
  | n + 1 => zcF mk n + (1 - mk n)
theorem zc_le {mk mk' : Nat → Nat} : ∀ n : Nat, (∀ i, i < n → mk i ≤ mk' i) → zcF mk' n ≤ zcF mk n
  | 0, _ => Nat.le_refl _
  | n + 1, h => by
    have h1 := zc_le n (fun i hi => h i (by omega))
    have h2 := h n (by omega)
    show zcF mk' n + (1 - mk' n) ≤ zcF mk n + (1 - mk n)
    omega
theorem zc_ls {mk mk' : Nat → Nat} {i : Nat} : ∀ n : Nat, (∀ i, i < n → mk i ≤ mk' i) → i < n → mk i = 0 → mk' i = 1 → zcF mk' n < zcF mk n
  | 0, _, h, _, _ => by omega
  | n + 1, h, hi, e1, e2 => by
    show zcF mk' n + (1 - mk' n) < zcF mk n + (1 - mk n)
    have h2 := h n (by omega)
    by_cases e : i = n
    · subst e
      have h1 := zc_le (mk := mk) (mk' := mk') i (fun i hi => h i (by omega))
      omega
    · have h1 := zc_ls (mk := mk) (mk' := mk') n (fun i hi => h i (by omega)) (by omega) e1 e2
      omega
/-- marks that do not grow say all -/
theorem mk_fix {J : zJ} (w : wJ J) {c : Nat} {mk : Nat → Nat} (hS : mS J c mk) (hf : ∀ i, i < jN J → mk i = 0 → ∀ u, u < jM J i → mk (jB J i u) = 0) : ∀ (s i : Nat), jZ J i ≤ s → i < jN J → mk i = 0 → twF J c 40 i = 0
  | 0, i, h, hi, _ => by have := z_pos w hi; omega
  | s + 1, i, h, hi, e => by
    have ic : i ≠ c := fun q => by rw [q, hS.1] at e; omega
    rw [tw_40 w c hi, if_neg ic, Nat.zero_add]
    have : ∀ l : List Nat, (∀ j, j ∈ l → twF J c 40 j = 0) → smT (twF J c 40) l = 0 := by
      intro l
      induction l with
      | nil => intro _; rfl
      | cons a r ih =>
        intro hl
        show twF J c 40 a + smT (twF J c 40) r = 0
        rw [hl a (List.mem_cons_self ..), ih (fun j hj => hl j (List.mem_cons_of_mem _ hj))]
    refine this _ (fun j hj => ?_)
    have hz := ms_z w hi hj
    obtain ⟨u, u1, u2, u3⟩ := ms_mem hj
    exact mk_fix w hS hf s j (by omega) hz.1 (by rw [u3]; exact hf i hi e u (by omega))
theorem r_34 (J : zJ) (w : wJ J) (d : Nat) {c m : Nat} (hm : m < jN J) (l2 : Int32) : ∀ (n : Nat) (ch : Nat) (mk : Nat → Nat) (o4 o5 : Option Value) (M : zM), ch ≤ 1 → zcF mk (jN J) < n → rJ J M → mK J M mk → mS J c mk → (ch = 0 → ∀ i, i < jN J → mk i = 0 → ∀ u, u < jM J i → mk (jB J i u) = 0) → ∃ M', z_denF zQ (d + 1) mQ_reaches (34, [some (.ref 15), some (.int (zn m)), some (.int l2), some (.int (zn ch)), o4, o5], [], M) = some (some (.int (zn (if twF J c 40 m = 0 then 0 else 1))), M') ∧ rJ J M' ∧ zFr 0 0 (fun a _ => a = 42) M M' := by
  have w0 := w.1
  intro n
  induction n with
  | zero => intro ch mk o4 o5 M _ h; omega
  | succ n ih =>
    intro ch mk o4 o5 M hch hz hJ hK hS hf
    have hm1 := hK m hm
    have hc2 : ch = 0 ∨ ch = 1 := by omega
    rcases hc2 with e | e
    · subst e
      refine ⟨M, ?_, hJ, zFr_refl _ _⟩
      have ev : mk m = (if twF J c 40 m = 0 then 0 else 1) := by
        by_cases q : mk m = 0
        · rw [q, mk_fix w hS (hf rfl) (jZ J m) m (Nat.le_refl _) hm q, if_pos rfl]
        · have : mk m = 1 := by omega
          have h2 := hS.2 m hm this
          rw [this, if_neg (by omega)]
      have hva := and1_n hm1.2
      rw [L_Q_reaches_34, ← ev]
      simp (disch := omega) only [z_bV_some, z_bI_some, z_bJ_some, z_bD_some, z_bR_some, cond_true, cond_false, Bool.and_true, Bool.true_and, Bool.not_false, Bool.not_true, Bool.and_self, Bool.or_true, Bool.false_or, Bool.true_or, zn_ok, zn_ok0, zn_N, zn_add, zn_mul, zn_sub, z_lt_T, z_lt_F, z_le_T, z_le_F, z_eq_T, z_ne_F, z_eq_F, z_ne_T, z_ix_T, z_lt_m, z_le_m, z_lt_m2, z_le_m2, z_eq_m, z_ne_m, zn_div, z_a31, zn_shl, zn_shr, z_bq_T, z_bq_F, z_bl_T, nL_0, hm1.1, hva, decide_true]
    · subst e
      obtain ⟨mk', ch', o4', o5', M1, q1, q2, q3, q4, q5, -, q7, q8, q9, q10⟩ := r_43 J w d (zn m) l2 (jN J) 0 0 mk o5 M (by omega) (by omega) hJ hK hS
      have e0 : z_denF zQ (d + 1) mQ_reaches (34, [some (.ref 15), some (.int (zn m)), some (.int l2), some (.int (zn 1)), o4, o5], [], M) = z_denF zQ (d + 1) mQ_reaches (43, [some (.ref 15), some (.int (zn m)), some (.int l2), some (.int (zn 0)), some (.int (zn 0)), o5], [], M) := by
        rw [L_Q_reaches_34, nL_0, z_eq_F (by omega) (by omega) (by omega), cond_false]
      rw [e0, q1]
      have hc3 : ch' = 0 ∨ ch' = 1 := by omega
      rcases hc3 with e | e
      · subst e
        obtain ⟨a1, a2⟩ := q8 rfl
        have hzc : zcF mk' (jN J) < n + 1 := Nat.lt_of_le_of_lt (zc_le _ q7) hz
        have hf' : ∀ i, i < jN J → mk' i = 0 → ∀ u, u < jM J i → mk' (jB J i u) = 0 := fun i hi e u hu => by
          rw [a1 _ (ms_lt w hi hu)]
          exact a2 i (by omega) hi (by rw [← a1 i hi]; exact e) u hu
        have hm2 := q3 m hm
        refine ⟨M1, ?_, q2, q10⟩
        have ev : mk' m = (if twF J c 40 m = 0 then 0 else 1) := by
          by_cases q : mk' m = 0
          · rw [q, mk_fix w q4 hf' (jZ J m) m (Nat.le_refl _) hm q, if_pos rfl]
          · have : mk' m = 1 := by omega
            have h2 := q4.2 m hm this
            rw [this, if_neg (by omega)]
        have hva := and1_n hm2.2
        rw [L_Q_reaches_34, ← ev]
        simp (disch := omega) only [z_bV_some, z_bI_some, z_bJ_some, z_bD_some, z_bR_some, cond_true, cond_false, Bool.and_true, Bool.true_and, Bool.not_false, Bool.not_true, Bool.and_self, Bool.or_true, Bool.false_or, Bool.true_or, zn_ok, zn_ok0, zn_N, zn_add, zn_mul, zn_sub, z_lt_T, z_lt_F, z_le_T, z_le_F, z_eq_T, z_ne_F, z_eq_F, z_ne_T, z_ix_T, z_lt_m, z_le_m, z_lt_m2, z_le_m2, z_eq_m, z_ne_m, zn_div, z_a31, zn_shl, zn_shr, z_bq_T, z_bq_F, z_bl_T, nL_0, hm2.1, hva, decide_true]
      · subst e
        rcases q9 rfl with z | ⟨i, z1, z2, z3⟩
        · omega
        · have hzc := zc_ls (jN J) q7 z1 z2 z3
          obtain ⟨M', r1, r2, r3⟩ := ih 1 mk' o4' o5' M1 (by omega) (by omega) q2 q3 q4 (fun q => by omega)
          exact ⟨M', r1, r2, zFr_trans q10 r3 (fun _ _ _ e => e)⟩
theorem r_2 (J : zJ) (w : wJ J) (d : Nat) {c : Nat} (hc : c < jN J) (l1 : Int32) : ∀ (n k : Nat) (M : zM), k + n = jN J → rJ J M → (∀ j, j < k → zI M 42 j = zn (if j = c then 1 else 0)) → ∃ M', z_denF zQ (d + 1) mQ_reaches (2, [some (.ref 15), some (.int l1), some (.int (zn c)), some (.int (zn k)), none, none], [], M) = z_denF zQ (d + 1) mQ_reaches (34, [some (.ref 15), some (.int l1), some (.int (zn c)), some (.int (zn 1)), none, none], [], M') ∧ rJ J M' ∧ mK J M' (fun j => if j = c then 1 else 0) ∧ zFr 0 0 (fun a _ => a = 42) M M' := by
  have w0 := w.1
  intro n
  induction n with
  | zero =>
    intro k M hk hJ hM
    refine ⟨M, ?_, hJ, fun j hj => ⟨hM j (by omega), by show (if j = c then 1 else 0) ≤ 1; split <;> omega⟩, zFr_refl _ _⟩
    rw [L_Q_reaches_2, hJ.1, z_le_T (by omega) (by omega), cond_true, nL_1]
  | succ n ih =>
    intro k M hk hJ hM
    have f1 : ∀ v, zFr 0 0 (fun a _ => a = 42) M (z_wI M 42 k v) := fun v => zFr_wI (X := fun a _ => a = 42) rfl
    obtain ⟨M', q1, q2, q3, q4⟩ := ih (k + 1) (z_wI M 42 k (zn (if k = c then 1 else 0))) (by omega) (rJ_w42 hJ _ _) (fun j hj => by
      by_cases e : j = k
      · subst e; rw [zI_wI_s]
      · rw [zI_wI_k e]; exact hM j (by omega))
    refine ⟨M', ?_, q2, q3, zFr_trans (f1 _) q4 (fun _ _ _ e => e)⟩
    rw [← q1, L_Q_reaches_2, hJ.1]
    by_cases e : k = c
    · subst e
      rw [if_pos rfl]
      simp (disch := omega) only [z_bV_some, z_bI_some, z_bJ_some, z_bD_some, z_bR_some, cond_true, cond_false, Bool.and_true, Bool.true_and, Bool.not_false, Bool.not_true, Bool.and_self, Bool.or_true, Bool.false_or, Bool.true_or, zn_ok, zn_ok0, zn_N, zn_add, zn_mul, zn_sub, z_lt_T, z_lt_F, z_le_T, z_le_F, z_eq_T, z_ne_F, z_eq_F, z_ne_T, z_ix_T, z_lt_m, z_le_m, z_lt_m2, z_le_m2, z_eq_m, z_ne_m, zn_div, z_a31, zn_shl, zn_shr, z_bq_T, z_bq_F, z_bl_T, nL_0, nL_1]
    · rw [if_neg e]
      simp (disch := omega) only [z_bV_some, z_bI_some, z_bJ_some, z_bD_some, z_bR_some, cond_true, cond_false, Bool.and_true, Bool.true_and, Bool.not_false, Bool.not_true, Bool.and_self, Bool.or_true, Bool.false_or, Bool.true_or, zn_ok, zn_ok0, zn_N, zn_add, zn_mul, zn_sub, z_lt_T, z_lt_F, z_le_T, z_le_F, z_eq_T, z_ne_F, z_eq_F, z_ne_T, z_ix_T, z_lt_m, z_le_m, z_lt_m2, z_le_m2, z_eq_m, z_ne_m, zn_div, z_a31, zn_shl, zn_shr, z_bq_T, z_bq_F, z_bl_T, nL_0, nL_1]
theorem r_reach (d : Nat) {J : zJ} {M : zM} (w : wJ J) (h : rJ J M) {c m : Nat} (hc : c < jN J) (hm : m < jN J) : ∃ M', z_den zQ (d + 1) mQ_reaches [.ref 15, .int (zn m), .int (zn c)] M = some (some (.int (zn (if twF J c 40 m = 0 then 0 else 1))), M') ∧ rJ J M' ∧ zFr 0 0 (fun a _ => a = 42) M M' := by
  obtain ⟨M1, p1, p2, p3, p4⟩ := r_2 J w d hc (zn m) (jN J) 0 M (by omega) h (fun j hj => by omega)
  have hS : mS J c (fun j => if j = c then 1 else 0) := by
    refine ⟨if_pos rfl, fun j hj q => ?_⟩
    have e : j = c := by
      by_cases e : j = c
      · exact e
      · simp only [if_neg e] at q; omega
    rw [tw_40 w c hj, if_pos e]; omega
  obtain ⟨M2, q1, q2, q3⟩ := r_34 J w d (c := c) hm (zn c) _ 1 _ none none M1 (by omega) (Nat.lt_succ_self _) p2 p3 hS (fun q => by omega)
  refine ⟨M2, ?_, q2, zFr_trans p4 q3 (fun _ _ _ e => e)⟩
  rw [B_Q_reaches, nL_0, p1, q1]
