/-! S LEVEL: reckon, the reference: all rounds. -/
def cnF (z : Nat → Nat) (m : Nat) : Nat → Nat
  | 0 => 0
  | n + 1 => cnF z m n + (if z n < m then 1 else 0)
theorem cn_le (z : Nat → Nat) (m : Nat) : ∀ n : Nat, cnF z m n ≤ n
  | 0 => Nat.le_refl _
  | n + 1 => by
    have := cn_le z m n
    show cnF z m n + (if z n < m then 1 else 0) ≤ n + 1
    split <;> omega
theorem cn_mo (z : Nat → Nat) {m m' : Nat} (h : m ≤ m') : ∀ n : Nat, cnF z m n ≤ cnF z m' n
  | 0 => Nat.le_refl _
  | n + 1 => by
    have := cn_mo z h n
    show cnF z m n + (if z n < m then 1 else 0) ≤ cnF z m' n + (if z n < m' then 1 else 0)
    by_cases g : z n < m
    · rw [if_pos g, if_pos (by omega)]; omega
    · rw [if_neg g]; split <;> omega
theorem cn_ls (z : Nat → Nat) {m m' i : Nat} (h : m ≤ m') (h1 : m ≤ z i) (h2 : z i < m') : ∀ n : Nat, i < n → cnF z m n < cnF z m' n
  | 0, hi => by omega
  | n + 1, hi => by
    show cnF z m n + (if z n < m then 1 else 0) < cnF z m' n + (if z n < m' then 1 else 0)
    by_cases e : i = n
    · subst e
      have := cn_mo z h i
      rw [if_neg (by omega), if_pos h2]; omega
    · have := cn_ls z h h1 h2 n (by omega)
      by_cases g : z n < m
      · rw [if_pos g, if_pos (by omega)]; omega
      · rw [if_neg g]; split <;> omega
theorem z_least {N m : Nat} {z : Nat → Nat} : ∀ (s i : Nat), i < N → m ≤ z i → z i ≤ s → ∃ m0, m ≤ m0 ∧ (∃ i, i < N ∧ z i = m0) ∧ ∀ i, i < N → z i < m0 → z i < m
  | 0, i, hi, h1, h2 => ⟨z i, h1, ⟨i, hi, rfl⟩, fun j _ hj => by omega⟩
  | s + 1, i, hi, h1, h2 => by
    by_cases g : ∃ j, j < N ∧ m ≤ z j ∧ z j < z i
    · obtain ⟨j, j1, j2, j3⟩ := g
      exact z_least s j j1 j2 (by omega)
    · refine ⟨z i, h1, ⟨i, hi, rfl⟩, fun j hj hlt => ?_⟩
      by_cases q : z j < m
      · exact q
      · exact absurd ⟨j, hj, by omega, hlt⟩ g
theorem r_27 (J : zJ) (w : vJ J) (d : Nat) {z : Nat → Nat} (hz : zEq J z) : ∀ (n r m fl : Nat) (v : Nat → Nat) (o3 o4 o5 : Option Value) (M : zM), r + n = jN J + 1 → fl ≤ 1 → rS J M → vK J M v → vOk J z v → rgt J z v m → (r ≤ cnF z m (jN J) ∨ ∀ i, i < jN J → z i < m) → (fl = 1 → ∀ i, i < jN J → v i ≤ 40) → (fl = 0 → ∃ i, i < jN J ∧ 40 < z i) → ∃ (fl' : Nat) (M' : zM), z_denF zQ (d + 1) mQ_reckon (27, [some (.ref 15), some (.int (zn fl)), some (.int (zn r)), o3, o4, o5], [], M) = some (some (.int (zn fl')), M') ∧ fl' ≤ 1 ∧ (fl' = 1 → ∀ i, i < jN J → z i ≤ 40) ∧ (fl' = 0 → ∃ i, i < jN J ∧ 40 < z i) ∧ (∀ i, i < jN J → zI M' 29 i = zn (min (z i) 41)) ∧ zFr 0 0 (fun a _ => a = 29) M M' := by
  have w0 := w.1
  intro n
  induction n with
  | zero =>
    intro r m fl v o3 o4 o5 M hr hf hS hK hO hR hC h1 h0
    have hcl := cn_le z m (jN J)
    have hall : ∀ i, i < jN J → z i < m := by
      rcases hC with q | q
      · omega
      · exact q
    refine ⟨fl, M, ?_, hf, fun q i hi => ?_, h0, fun i hi => by rw [hK i hi, hR i hi (hall i hi)], zFr_refl _ _⟩
    · have hva := and1_n hf
      rw [L_Q_reckon_27, hS.1, z_lt_T (by omega) (by omega), cond_true, hva]
      simp only [decide_true, cond_true]
    · have := h1 q i hi
      rw [hR i hi (hall i hi)] at this
      omega
  | succ n ih =>
    intro r m fl v o3 o4 o5 M hr hf hS hK hO hR hC h1 h0
    have e0 : z_denF zQ (d + 1) mQ_reckon (27, [some (.ref 15), some (.int (zn fl)), some (.int (zn r)), o3, o4, o5], [], M) = z_denF zQ (d + 1) mQ_reckon (37, [some (.ref 15), some (.int (zn fl)), some (.int (zn r)), some (.int (zn 0)), o4, o5], [], M) := by
      rw [L_Q_reckon_27, hS.1, z_lt_F (by omega) (by omega), cond_false, nL_0]
    rw [e0]
    have key : ∃ m0, rgt J z v m0 ∧ (r + 1 ≤ cnF z (m0 + 1) (jN J) ∨ ∀ i, i < jN J → z i < m0 + 1) := by
      by_cases g : ∃ i, i < jN J ∧ m ≤ z i
      · obtain ⟨i, hi, hmi⟩ := g
        obtain ⟨m0, a1, ⟨i0, b1, b2⟩, a3⟩ := z_least (N := jN J) (m := m) (z := z) (z i) i hi hmi (Nat.le_refl _)
        refine ⟨m0, fun j hj hlt => hR j hj (a3 j hj hlt), Or.inl ?_⟩
        rcases hC with q | q
        · have := cn_ls z (m := m) (m' := m0 + 1) (i := i0) (by omega) (by omega) (by omega) (jN J) b1
          omega
        · have := q i hi; omega
      · refine ⟨m, hR, Or.inr (fun i hi => ?_)⟩
        by_cases q : z i < m
        · omega
        · exact absurd ⟨i, hi, by omega⟩ g
    obtain ⟨m0, k1, k2⟩ := key
    obtain ⟨v', fl', o3', o4', o5', M1, q1, q2, q3, q4, q5, q6, q7, q8, q9⟩ := r_37 J w d r hz m0 (jN J) 0 fl v o4 o5 M (by omega) hf hS hK hO k1 (fun i hi => by omega) h1 h0
    obtain ⟨fl2, M2, p1, p2, p3, p4, p5, p6⟩ := ih (r + 1) (m0 + 1) fl' v' o3' o4' o5' M1 (by omega) q2 q3 q4 q5 q6 k2 q7 q8
    exact ⟨fl2, M2, by rw [q1, p1], p2, p3, p4, p5, zFr_trans q9 p6 (fun _ _ _ e => e)⟩
theorem r_k2 (J : zJ) (w : vJ J) (d : Nat) : ∀ (n k : Nat) (M : zM), k + n = jN J → rS J M → (∀ j, j < k → zI M 29 j = zn 1) → ∃ M', z_denF zQ (d + 1) mQ_reckon (2, [some (.ref 15), some (.int (zn k)), none, none, none, none], [], M) = z_denF zQ (d + 1) mQ_reckon (27, [some (.ref 15), some (.int (zn 1)), some (.int (zn 0)), none, none, none], [], M') ∧ rS J M' ∧ vK J M' (fun _ => 1) ∧ zFr 0 0 (fun a _ => a = 29) M M' := by
  have w0 := w.1
  intro n
  induction n with
  | zero =>
    intro k M hk hS hM
    refine ⟨M, ?_, hS, fun j hj => hM j (by omega), zFr_refl _ _⟩
    rw [L_Q_reckon_2, hS.1, z_le_T (by omega) (by omega), cond_true, nL_1, nL_0]
  | succ n ih =>
    intro k M hk hS hM
    have f1 : zFr 0 0 (fun a _ => a = 29) M (z_wI M 29 k (zn 1)) := zFr_wI (X := fun a _ => a = 29) rfl
    obtain ⟨M', q1, q2, q3, q4⟩ := ih (k + 1) (z_wI M 29 k (zn 1)) (by omega) (rS_w29 hS _ _) (fun j hj => by
      by_cases e : j = k
      · subst e; rw [zI_wI_s]
      · rw [zI_wI_k e]; exact hM j (by omega))
    refine ⟨M', ?_, q2, q3, zFr_trans f1 q4 (fun _ _ _ e => e)⟩
    rw [← q1, L_Q_reckon_2, hS.1]
    simp (disch := omega) only [z_bV_some, z_bI_some, z_bJ_some, z_bD_some, z_bR_some, cond_true, cond_false, Bool.and_true, Bool.true_and, Bool.not_false, Bool.not_true, Bool.and_self, Bool.or_true, Bool.false_or, Bool.true_or, zn_ok, zn_ok0, zn_N, zn_add, zn_mul, zn_sub, z_lt_T, z_lt_F, z_le_T, z_le_F, z_eq_T, z_ne_F, z_eq_F, z_ne_T, z_ix_T, z_lt_m, z_le_m, z_lt_m2, z_le_m2, z_eq_m, z_ne_m, zn_div, z_a31, zn_shl, zn_shr, z_bq_T, z_bq_F, z_bl_T, nL_1]
theorem r_reckon (d : Nat) {J : zJ} {M : zM} (w : vJ J) (h : rS J M) {z : Nat → Nat} (hz : zEq J z) : ∃ (fl : Nat) (M' : zM), z_den zQ (d + 1) mQ_reckon [.ref 15] M = some (some (.int (zn fl)), M') ∧ fl ≤ 1 ∧ (fl = 1 → ∀ i, i < jN J → z i ≤ 40) ∧ (fl = 0 → ∃ i, i < jN J ∧ 40 < z i) ∧ (∀ i, i < jN J → zI M' 29 i = zn (min (z i) 41)) ∧ zFr 0 0 (fun a _ => a = 29) M M' := by
  obtain ⟨M1, p1, p2, p3, p4⟩ := r_k2 J w d (jN J) 0 M (by omega) h (fun j hj => by omega)
  obtain ⟨fl, M2, q1, q2, q3, q4, q5, q6⟩ := r_27 J w d hz (jN J + 1) 0 0 1 (fun _ => 1) none none none M1 (by omega) (by omega) p2 p3 (fun i hi => by have := hz i hi; show 1 ≤ 1 ∧ 1 ≤ min (z i) 41; omega) (fun i hi q => by omega) (Or.inl (Nat.zero_le _)) (fun _ i _ => by show 1 ≤ 40; omega) (fun q => by omega)
  refine ⟨fl, M2, ?_, q2, q3, q4, q5, zFr_trans p4 q6 (fun _ _ _ e => e)⟩
  rw [B_Q_reckon, nL_0, p1, q1]
