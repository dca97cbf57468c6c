/-! S LEVEL: reckon, the reference: one row. -/
def rS (J : zJ) (M : zM) : Prop := zI M 15 14 = zn (jN J) ∧ ∀ i, i < jN J → zI M 27 i = zn (jM J i) ∧ ∀ k, k < jM J i → zI M 28 (8 * i + k) = zn (jB J i k)
def vJ (J : zJ) : Prop := jN J ≤ 60 ∧ ∀ i, i < jN J → jM J i ≤ 8 ∧ ∀ k, k < jM J i → jB J i k < jN J
def vK (J : zJ) (M : zM) (v : Nat → Nat) : Prop := ∀ i, i < jN J → zI M 29 i = zn (v i)
theorem rS_w29 {J : zJ} {M : zM} (h : rS J M) (k : Nat) (x : Int32) : rS J (z_wI M 29 k x) := ⟨by rw [zI_wI_a (by omega)]; exact h.1, fun i hi => ⟨by rw [zI_wI_a (by omega)]; exact (h.2 i hi).1, fun u hu => by rw [zI_wI_a (by omega)]; exact (h.2 i hi).2 u hu⟩⟩
theorem r_51a (J : zJ) (w : vJ J) (d : Nat) (l1 l2 : Int32) {j : Nat} (hj : j < jN J) {v : Nat → Nat} {M : zM} (h : rS J M) (hv : vK J M v) : ∀ (n k s : Nat), k + n = jM J j → s + smT v (msF J j k n) ≤ 1000 → z_denF zQ (d + 1) mQ_reckon (51, [some (.ref 15), some (.int l1), some (.int l2), some (.int (zn j)), some (.int (zn s)), some (.int (zn k))], [], M) = z_denF zQ (d + 1) mQ_reckon (51, [some (.ref 15), some (.int l1), some (.int l2), some (.int (zn j)), some (.int (zn (s + smT v (msF J j k n)))), some (.int (zn (jM J j)))], [], M) := by
  have w0 := w.1
  obtain ⟨w1, w2⟩ := w.2 j hj
  obtain ⟨g1, g2⟩ := h.2 j hj
  intro n
  induction n with
  | zero =>
    intro k s hk _
    have e : k = jM J j := by omega
    subst e
    rfl
  | succ n ih =>
    intro k s hk hs
    have hs : s + (v (jB J j k) + smT v (msF J j (k + 1) n)) ≤ 1000 := hs
    have hb := w2 k (by omega)
    have e1 := g2 k (by omega)
    have e2 := hv _ hb
    have := ih (k + 1) (s + v (jB J j k)) (by omega) (by omega)
    show _ = z_denF zQ (d + 1) mQ_reckon (51, [some (.ref 15), some (.int l1), some (.int l2), some (.int (zn j)), some (.int (zn (s + (v (jB J j k) + smT v (msF J j (k + 1) n))))), some (.int (zn (jM J j)))], [], M)
    rw [← Nat.add_assoc, ← this, L_Q_reckon_51]
    simp (disch := omega) only [z_bV_some, z_bI_some, z_bJ_some, z_bD_some, z_bR_some, cond_true, cond_false, Bool.and_true, Bool.true_and, Bool.not_false, Bool.not_true, Bool.and_self, Bool.or_true, Bool.false_or, Bool.true_or, zn_ok, zn_ok0, zn_N, zn_add, zn_mul, zn_sub, z_lt_T, z_lt_F, z_le_T, z_le_F, z_eq_T, z_ne_F, z_eq_F, z_ne_T, z_ix_T, z_lt_m, z_le_m, z_lt_m2, z_le_m2, z_eq_m, z_ne_m, zn_div, z_a31, zn_shl, zn_shr, z_bq_T, z_bq_F, z_bl_T, nL_1, nL_8, g1, e1, e2]
theorem r_51 (J : zJ) (w : vJ J) (d : Nat) (l2 : Int32) {j fl : Nat} (hf : fl ≤ 1) (hj : j < jN J) {v : Nat → Nat} {M : zM} (h : rS J M) (hv : vK J M v) (hs : 1 + smT v (msF J j 0 (jM J j)) ≤ 1000) : z_denF zQ (d + 1) mQ_reckon (51, [some (.ref 15), some (.int (zn fl)), some (.int l2), some (.int (zn j)), some (.int (zn 1)), some (.int (zn 0))], [], M) = z_denF zQ (d + 1) mQ_reckon (37, [some (.ref 15), some (.int (zn (if 40 < 1 + smT v (msF J j 0 (jM J j)) then 0 else fl))), some (.int l2), some (.int (zn (j + 1))), some (.int (zn (1 + smT v (msF J j 0 (jM J j))))), some (.int (zn (jM J j)))], [], z_wI M 29 j (zn (min (1 + smT v (msF J j 0 (jM J j))) 41))) := by
  have w0 := w.1
  obtain ⟨w1, w2⟩ := w.2 j hj
  obtain ⟨g1, g2⟩ := h.2 j hj
  rw [r_51a J w d (zn fl) l2 hj h hv (jM J j) 0 1 (by omega) hs, L_Q_reckon_51]
  generalize 1 + smT v (msF J j 0 (jM J j)) = t at hs ⊢
  have hf2 : fl = 0 ∨ fl = 1 := by omega
  by_cases g : 40 < t
  · rw [if_pos g, show min t 41 = 41 by omega]
    rcases hf2 with e | e <;> subst e <;> simp (disch := omega) only [z_bV_some, z_bI_some, z_bJ_some, z_bD_some, z_bR_some, cond_true, cond_false, Bool.and_true, Bool.true_and, Bool.not_false, Bool.not_true, Bool.and_self, Bool.or_true, Bool.false_or, Bool.true_or, zn_ok, zn_ok0, zn_N, zn_add, zn_mul, zn_sub, z_lt_T, z_lt_F, z_le_T, z_le_F, z_eq_T, z_ne_F, z_eq_F, z_ne_T, z_ix_T, z_lt_m, z_le_m, z_lt_m2, z_le_m2, z_eq_m, z_ne_m, zn_div, z_a31, zn_shl, zn_shr, z_bq_T, z_bq_F, z_bl_T, nL_0, nL_1, nL_40, g1, show (41 : Int32) = zn 41 from (zn_eq 41).symm]
  · rw [if_neg g, show min t 41 = t by omega]
    rcases hf2 with e | e <;> subst e <;> simp (disch := omega) only [z_bV_some, z_bI_some, z_bJ_some, z_bD_some, z_bR_some, cond_true, cond_false, Bool.and_true, Bool.true_and, Bool.not_false, Bool.not_true, Bool.and_self, Bool.or_true, Bool.false_or, Bool.true_or, zn_ok, zn_ok0, zn_N, zn_add, zn_mul, zn_sub, z_lt_T, z_lt_F, z_le_T, z_le_F, z_eq_T, z_ne_F, z_eq_F, z_ne_T, z_ix_T, z_lt_m, z_le_m, z_lt_m2, z_le_m2, z_eq_m, z_ne_m, zn_div, z_a31, zn_shl, zn_shr, z_bq_T, z_bq_F, z_bl_T, nL_0, nL_1, nL_40, g1, show (41 : Int32) = zn 41 from (zn_eq 41).symm]
/-- sizes, as they must come out -/
def zEq (J : zJ) (z : Nat → Nat) : Prop := ∀ i, i < jN J → z i = 1 + smT z (msF J i 0 (jM J i))
def vOk (J : zJ) (z v : Nat → Nat) : Prop := ∀ i, i < jN J → 1 ≤ v i ∧ v i ≤ min (z i) 41
def rgt (J : zJ) (z v : Nat → Nat) (m : Nat) : Prop := ∀ i, i < jN J → z i < m → v i = min (z i) 41
theorem smT_41 {z v : Nat → Nat} : ∀ l : List Nat, (∀ i, i ∈ l → v i = min (z i) 41) → min (1 + smT v l) 41 = min (1 + smT z l) 41
  | [], _ => rfl
  | i :: r, h => by
    have h1 := h i (List.mem_cons_self ..)
    have h2 := smT_41 r (fun j hj => h j (List.mem_cons_of_mem _ hj))
    show min (1 + (v i + smT v r)) 41 = min (1 + (z i + smT z r)) 41
    omega
theorem ms_lt' {J : zJ} (w : vJ J) {i j : Nat} (hi : i < jN J) (hj : j ∈ msF J i 0 (jM J i)) : j < jN J := by
  obtain ⟨u, h1, h2, h3⟩ := ms_mem hj
  rw [h3]; exact (w.2 i hi).2 u (by omega)
theorem ms_zl {J : zJ} {z : Nat → Nat} (hz : zEq J z) {i j : Nat} (hi : i < jN J) (hj : j ∈ msF J i 0 (jM J i)) : z j < z i := by
  have h1 := hz i hi
  have h2 := smT_mem (g := z) hj
  omega
theorem smT_bd {J : zJ} (w : vJ J) {v : Nat → Nat} {i : Nat} (hi : i < jN J) (hb : ∀ j, j < jN J → v j ≤ 41) : smT v (msF J i 0 (jM J i)) ≤ 328 := by
  obtain ⟨w1, w2⟩ := w.2 i hi
  have : ∀ (n k : Nat), k + n = jM J i → smT v (msF J i k n) ≤ 41 * n := by
    intro n
    induction n with
    | zero => intro k _; exact Nat.zero_le _
    | succ n ih =>
      intro k hk
      have h1 := ih (k + 1) (by omega)
      have h2 := hb _ (w2 k (by omega))
      show v (jB J i k) + smT v (msF J i (k + 1) n) ≤ 41 * (n + 1)
      omega
  have := this (jM J i) 0 (by omega)
  omega
/-- one round -/
theorem r_37 (J : zJ) (w : vJ J) (d : Nat) (l2 : Nat) {z : Nat → Nat} (hz : zEq J z) (m : Nat) : ∀ (n j fl : Nat) (v : Nat → Nat) (o4 o5 : Option Value) (M : zM), j + n = jN J → fl ≤ 1 → rS J M → vK J M v → vOk J z v → rgt J z v m → (∀ i, i < j → z i = m → v i = min (z i) 41) → (fl = 1 → ∀ i, i < jN J → v i ≤ 40) → (fl = 0 → ∃ i, i < jN J ∧ 40 < z i) → ∃ (v' : Nat → Nat) (fl' : Nat) (o3 o4' o5' : Option Value) (M' : zM), z_denF zQ (d + 1) mQ_reckon (37, [some (.ref 15), some (.int (zn fl)), some (.int (zn l2)), some (.int (zn j)), o4, o5], [], M) = z_denF zQ (d + 1) mQ_reckon (27, [some (.ref 15), some (.int (zn fl')), some (.int (zn (l2 + 1))), o3, o4', o5'], [], M') ∧ fl' ≤ 1 ∧ rS J M' ∧ vK J M' v' ∧ vOk J z v' ∧ rgt J z v' (m + 1) ∧ (fl' = 1 → ∀ i, i < jN J → v' i ≤ 40) ∧ (fl' = 0 → ∃ i, i < jN J ∧ 40 < z i) ∧ zFr 0 0 (fun a _ => a = 29) M M' := by
  have w0 := w.1
  intro n
  induction n with
  | zero =>
    intro j fl v o4 o5 M hj hf hS hK hO hR hR2 h1 h0
    refine ⟨v, fl, some (.int (zn j)), o4, o5, M, ?_, hf, hS, hK, hO, fun i hi hlt => ?_, h1, h0, zFr_refl _ _⟩
    · rw [L_Q_reckon_37, hS.1, z_le_T (by omega) (by omega), cond_true, nL_1, zn_add]
    · by_cases e : z i = m
      · exact hR2 i (by omega) e
      · exact hR i hi (by omega)
  | succ n ih =>
    intro j fl v o4 o5 M hj hf hS hK hO hR hR2 h1 h0
    have hj' : j < jN J := by omega
    have hbd := smT_bd w hj' (v := v) (fun i hi => by have := (hO i hi).2; omega)
    have hle : smT v (msF J j 0 (jM J j)) ≤ smT z (msF J j 0 (jM J j)) := smT_le (fun i hi => by have := (hO i (ms_lt' w hj' hi)).2; omega)
    have hzj := hz j hj'
    have e1 := r_51 J w d (zn l2) hf hj' hS hK (by omega)
    generalize ht : 1 + smT v (msF J j 0 (jM J j)) = t at e1
    have f1 : zFr 0 0 (fun a _ => a = 29) M (z_wI M 29 j (zn (min t 41))) := zFr_wI (X := fun a _ => a = 29) rfl
    have hRj : z j ≤ m → min t 41 = min (z j) 41 := by
      intro q
      rw [← ht, hzj]
      exact smT_41 _ (fun i hi => hR i (ms_lt' w hj' hi) (by have := ms_zl hz hj' hi; omega))
    obtain ⟨v', fl', o3, o4', o5', M', q1, q2, q3, q4, q5, q6, q7, q8, q9⟩ := ih (j + 1) (if 40 < t then 0 else fl) (fun i => if i = j then min t 41 else v i) (some (.int (zn t))) (some (.int (zn (jM J j)))) (z_wI M 29 j (zn (min t 41))) (by omega) (by split <;> omega) (rS_w29 hS _ _) (fun i hi => by
        by_cases e : i = j
        · subst e; simp only [if_true]; rw [zI_wI_s]
        · simp only [if_neg e]; rw [zI_wI_k e]; exact hK i hi) (fun i hi => by
        by_cases e : i = j
        · subst e; simp only [if_true]; omega
        · simp only [if_neg e]; exact hO i hi) (fun i hi hlt => by
        by_cases e : i = j
        · subst e; simp only [if_true]; exact hRj (by omega)
        · simp only [if_neg e]; exact hR i hi hlt) (fun i hi hm => by
        by_cases e : i = j
        · subst e; simp only [if_true]; exact hRj (by omega)
        · simp only [if_neg e]; exact hR2 i (by omega) hm) (fun q i hi => by
        by_cases g : 40 < t
        · rw [if_pos g] at q; omega
        · rw [if_neg g] at q
          by_cases e : i = j
          · subst e; simp only [if_true]; omega
          · simp only [if_neg e]; exact h1 q i hi) (fun q => by
        by_cases g : 40 < t
        · exact ⟨j, hj', by omega⟩
        · rw [if_neg g] at q; exact h0 q)
    refine ⟨v', fl', o3, o4', o5', M', ?_, q2, q3, q4, q5, q6, q7, q8, zFr_trans f1 q9 (fun _ _ _ e => e)⟩
    rw [← q1, ← e1, L_Q_reckon_37, hS.1, z_le_F (by omega) (by omega), cond_false, nL_0, nL_1]
