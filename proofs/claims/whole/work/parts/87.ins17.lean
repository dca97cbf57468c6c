/-! S LEVEL: grow. -/
theorem upZ_id (J : zJ) : upZ J (jZ J) = J := rfl
def nzF (J : zJ) (c m : Nat) (i : Nat) : Nat := jZ J i + twF J c 40 i * m
theorem cJ_inj' {J : zJ} {A : zM} (w0 : jN J ≤ 60) (h : cJ J A) {i j : Nat} (hi : i < jN J) (hj : j < jN J) (e : zP zQ A 4 i = zP zQ A 4 j) : i = j := by
  have h1 := (h.2.2.1 i hi).2.1
  have h2 := (h.2.2.1 j hj).2.1
  rw [e, h2] at h1
  have := congrArg Int32.toInt h1
  rw [zn_toInt (by omega), zn_toInt (by omega)] at this
  omega
theorem c_upZ {J : zJ} {z : Nat → Nat} {A : zM} (w0 : jN J ≤ 60) (h : cJ (upZ J z) A) {i : Nat} (hi : i < jN J) (v : Nat) : cJ (upZ J (fun j => if j = i then v else z j)) (z_wI A (zP zQ A 4 i) 2 (zn v)) := by
  have hinj := fun j hj => cJ_inj' (J := upZ J z) w0 h (i := i) (j := j) hi hj
  have n3 := cJ_n3 h hi
  obtain ⟨h1, h2, h3, h4, h5⟩ := h
  refine ⟨by rw [zI_wI_a (Ne.symm n3.1)]; exact h1, by rw [zI_wI_a (Ne.symm n3.1)]; exact h2, fun j hj => ?_, fun j a1 a2 => by rw [zP_wI]; exact h4 j a1 a2, fun j k a1 a2 a3 a4 a5 => by simp only [zP_wI]; exact h5 j k a1 a2 a3 a4 a5⟩
  obtain ⟨g1, g2, g3, g4, g5, g6, g7⟩ := h3 j hj
  rw [zP_wI]
  by_cases e : j = i
  · subst e
    refine ⟨g1, by rw [zI_wI_k (by omega)]; exact g2, by rw [zI_wI_k (by omega)]; exact g3, ?_, by rw [zI_wI_k (by omega)]; exact g5, by rw [zI_wI_k (by omega)]; exact g6, fun e => ?_⟩
    · rw [zI_wI_s]; show zn v = zn (if j = j then v else z j); rw [if_pos rfl]
    · obtain ⟨k1, k2, k3⟩ := g7 e
      exact ⟨by rw [zI_wI_k (by omega)]; exact k1, by rw [zP_wI]; exact k2, fun k hk => by simp only [zP_wI]; exact k3 k hk⟩
  · have ne : zP zQ A 4 j ≠ zP zQ A 4 i := fun q => e (hinj j hj q.symm).symm
    refine ⟨g1, by rw [zI_wI_a ne]; exact g2, by rw [zI_wI_a ne]; exact g3, ?_, by rw [zI_wI_a ne]; exact g5, by rw [zI_wI_a ne]; exact g6, fun e => ?_⟩
    · rw [zI_wI_a ne]; show _ = zn (if j = i then v else z j); rw [if_neg e]; exact g4
    · obtain ⟨k1, k2, k3⟩ := g7 e
      exact ⟨by rw [zI_wI_a ne]; exact k1, by rw [zP_wI]; exact k2, fun k hk => by simp only [zP_wI]; exact k3 k hk⟩
theorem nz_le {J : zJ} (w : wJ J) {c m i : Nat} (hm : m ≤ 40) (hi : i < jN J) : nzF J c m i ≤ 1640 := by
  have h1 := tw_le w c 40 i hi
  have h2 := (w.2.2.2 i hi).2.2.2.2.2.2.1
  have h3 : twF J c 40 i * m ≤ 40 * 40 := Nat.mul_le_mul (by omega) hm
  unfold nzF
  omega
/-- the first loop: do all fit? -/
theorem c_grow2 (J : zJ) (w : wJ J) (d : Nat) {c m : Nat} (hc : c < 60) (hm : m ≤ 40) {A : zM} (h : cJ J A) : ∀ (n k : Nat) (o4 : Option Value), k + n = jN J → ((∀ j, k ≤ j → j < jN J → nzF J c m j ≤ 40) → ∃ o, z_denF zQ (d + 42 + 1) mO_grow (2, [some (.ref 3), some (.int (zn c)), some (.int (zn m)), some (.int (zn k)), o4], [], A) = z_denF zQ (d + 42 + 1) mO_grow (53, [some (.ref 3), some (.int (zn c)), some (.int (zn m)), some (.int (zn 0)), o], [], A)) ∧ ((¬ ∀ j, k ≤ j → j < jN J → nzF J c m j ≤ 40) → z_denF zQ (d + 42 + 1) mO_grow (2, [some (.ref 3), some (.int (zn c)), some (.int (zn m)), some (.int (zn k)), o4], [], A) = some (some (.int (zn 0)), A)) := by
  have w0 := w.1
  intro n
  induction n with
  | zero =>
    intro k o4 hk
    refine ⟨fun _ => ⟨o4, ?_⟩, fun hx => absurd (fun j h1 h2 => by omega) hx⟩
    rw [L_O_grow_2, h.1, z_le_T (by omega) (by omega), cond_true, nL_0]
  | succ n ih =>
    intro k o4 hk
    have hi : k < jN J := by omega
    obtain ⟨-, v2, v3, v4, v5, -⟩ := c_v (z := jZ J) w h hi
    have ht := c_tw J w hc (z := jZ J) h 40 d k 40 hi (w.2.2.2 k hi).2.2.2.2.2.2.1 (Nat.le_refl _) (Nat.le_refl _)
    have ht : z_den zQ (d + 42) (mtF (jS J k)) [.ref (zP zQ A 4 k), .int (zn c), .int (zn 40)] A = some (some (.int (zn (twF J c 40 k))), A) := ht
    have g4 := (h.2.2.1 k hi).2.2.2.1
    have hn := nz_le w (c := c) hm hi
    have hi' := c_insAt (d + 41) (A := A) w hi
    have e0 : z_denF zQ (d + 42 + 1) mO_grow (2, [some (.ref 3), some (.int (zn c)), some (.int (zn m)), some (.int (zn k)), o4], [], A) = bif z_le (zn (nzF J c m k)) (zn 40) then z_denF zQ (d + 42 + 1) mO_grow (2, [some (.ref 3), some (.int (zn c)), some (.int (zn m)), some (.int (zn (k + 1))), some (.ref (zP zQ A 4 k))], [], A) else some (some (.int (zn 0)), A) := by
      rw [L_O_grow_2, h.1]
      unfold nzF
      simp (disch := omega) only [z_le_F, cond_false, cond_true, z_bR_some, z_bI_some, hi', z_bq_F, v2, v4, v5, nL_40, ht, g4, zn_mul, zn_add, nL_1, nL_0]
    rw [e0]
    by_cases g : nzF J c m k ≤ 40
    · rw [z_le_T (by omega) (by omega), cond_true]
      have := ih (k + 1) (some (.ref (zP zQ A 4 k))) (by omega)
      refine ⟨fun hx => this.1 (fun j h1 h2 => hx j (by omega) h2), fun hx => this.2 (fun hy => hx (fun j h1 h2 => ?_))⟩
      by_cases e : j = k
      · subst e; exact g
      · exact hy j (by omega) h2
    · rw [z_le_F (by omega) (by omega), cond_false]
      exact ⟨fun hx => absurd (hx k (Nat.le_refl _) hi) g, fun _ => rfl⟩
def zkF (J : zJ) (c m k : Nat) : Nat → Nat := fun j => if j < k then nzF J c m j else jZ J j
theorem zk_s (J : zJ) (c m k : Nat) : (fun j => if j = k then nzF J c m k else zkF J c m k j) = zkF J c m (k + 1) := by
  funext j
  unfold zkF
  by_cases e : j = k
  · subst e; rw [if_pos rfl, if_pos (by omega)]
  · rw [if_neg e]
    by_cases g : j < k
    · rw [if_pos g, if_pos (by omega)]
    · rw [if_neg g, if_neg (by omega)]
def xgI (A : zM) (a _k : Nat) : Prop := ∃ g, z_hd zQ A a = some g ∧ tgI g
/-- the second loop: all grow -/
theorem c_grow53 (J : zJ) (w : wJ J) (d : Nat) {c m : Nat} (hc : c < 60) (hm : m ≤ 40) (A0 : zM) : ∀ (n k : Nat) (o4 : Option Value) (A : zM), k + n = jN J → (∀ a, z_hd zQ A a = z_hd zQ A0 a) → cJ (upZ J (zkF J c m k)) A → ∃ A', z_denF zQ (d + 42 + 1) mO_grow (53, [some (.ref 3), some (.int (zn c)), some (.int (zn m)), some (.int (zn k)), o4], [], A) = some (some (.int (zn 1)), A') ∧ cJ (upZ J (zkF J c m (jN J))) A' ∧ zFr 0 0 (xgI A0) A A' := by
  have w0 := w.1
  intro n
  induction n with
  | zero =>
    intro k o4 A hk hh h
    have e : k = jN J := by omega
    subst e
    refine ⟨A, ?_, h, zFr_refl _ _⟩
    have h1 : zI A 3 10 = zn (jN J) := h.1
    rw [L_O_grow_53, h1, z_le_T (by omega) (by omega), cond_true, nL_1]
  | succ n ih =>
    intro k o4 A hk hh h
    have hi : k < jN J := by omega
    obtain ⟨-, v2, v3, v4, v5, -⟩ := c_v w h hi
    have ht := c_tw J w hc h 40 d k 40 hi (w.2.2.2 k hi).2.2.2.2.2.2.1 (Nat.le_refl _) (Nat.le_refl _)
    have ht : z_den zQ (d + 42) (mtF (jS J k)) [.ref (zP zQ A 4 k), .int (zn c), .int (zn 40)] A = some (some (.int (zn (twF J c 40 k))), A) := ht
    have g1 := (h.2.2.1 k hi).1
    have g4 : zI A (zP zQ A 4 k) 2 = zn (zkF J c m k k) := (h.2.2.1 k hi).2.2.2.1
    have ez : zkF J c m k k = jZ J k := by unfold zkF; rw [if_neg (by omega)]
    rw [ez] at g4
    have hn := nz_le w (c := c) hm hi
    have hi' := c_insAt (d + 41) (A := A) w hi
    have h1 : zI A 3 10 = zn (jN J) := h.1
    have hc' := c_upZ w0 h hi (nzF J c m k)
    rw [zk_s] at hc'
    obtain ⟨A', q1, q2, q3⟩ := ih (k + 1) (some (.ref (zP zQ A 4 k))) _ (by omega) (fun a => by rw [z_hd_wI]; exact hh a) hc'
    have f1 : zFr 0 0 (xgI A0) A (z_wI A (zP zQ A 4 k) 2 (zn (nzF J c m k))) := zFr_wI (X := xgI A0) ⟨_, by rw [← hh]; exact g1, tg_I _⟩
    refine ⟨A', ?_, q2, zFr_trans f1 q3 (fun _ _ _ e => e)⟩
    rw [← q1, L_O_grow_53, h1]
    unfold nzF
    simp (disch := omega) only [z_le_F, cond_false, cond_true, z_bR_some, z_bI_some, hi', z_bq_F, v2, v4, v5, nL_40, ht, g4, zn_mul, zn_add, nL_1]
