/-! S LEVEL: how often one INSTRUMENT is within another. -/
def smT (g : Nat → Nat) : List Nat → Nat
  | [] => 0
  | i :: r => g i + smT g r
def twF (J : zJ) (c : Nat) : Nat → Nat → Nat
  | 0, _ => 0
  | f + 1, i => (if i = c then 1 else 0) + smT (twF J c f) (msF J i 0 (jM J i))
theorem smT_le {g g' : Nat → Nat} : ∀ {l : List Nat}, (∀ i, i ∈ l → g i ≤ g' i) → smT g l ≤ smT g' l
  | [], _ => Nat.le_refl _
  | i :: r, h => by
    have h1 := h i (List.mem_cons_self ..)
    have h2 := smT_le (l := r) (fun j hj => h j (List.mem_cons_of_mem _ hj))
    show g i + smT g r ≤ g' i + smT g' r
    omega
theorem smT_cg {g g' : Nat → Nat} : ∀ {l : List Nat}, (∀ i, i ∈ l → g i = g' i) → smT g l = smT g' l
  | [], _ => rfl
  | i :: r, h => by
    show g i + smT g r = g' i + smT g' r
    rw [h i (List.mem_cons_self ..), smT_cg (l := r) (fun j hj => h j (List.mem_cons_of_mem _ hj))]
theorem smZ_T (J : zJ) : ∀ l : List Nat, smZ J l = smT (jZ J) l
  | [] => rfl
  | i :: r => by show jZ J i + smZ J r = jZ J i + smT (jZ J) r; rw [smZ_T J r]
theorem tw_le {J : zJ} (w : wJ J) (c : Nat) : ∀ (f i : Nat), i < jN J → twF J c f i ≤ jZ J i
  | 0, _, _ => Nat.zero_le _
  | f + 1, i, hi => by
    have h1 := (w.2.2.2 i hi).2.2.2.2.2.1
    rw [smZ_T] at h1
    have h2 : smT (twF J c f) (msF J i 0 (jM J i)) ≤ smT (jZ J) (msF J i 0 (jM J i)) := smT_le (fun j hj => tw_le w c f j (ms_z w hi hj).1)
    show (if i = c then 1 else 0) + smT (twF J c f) (msF J i 0 (jM J i)) ≤ jZ J i
    split <;> omega
theorem tw_fu {J : zJ} (w : wJ J) (c : Nat) : ∀ (f f' i : Nat), i < jN J → jZ J i ≤ f → jZ J i ≤ f' → twF J c f i = twF J c f' i
  | 0, _, i, hi, h, _ => by have := z_pos w hi; omega
  | f + 1, 0, i, hi, _, h => by have := z_pos w hi; omega
  | f + 1, f' + 1, i, hi, h, h' => by
    show (if i = c then 1 else 0) + smT (twF J c f) (msF J i 0 (jM J i)) = (if i = c then 1 else 0) + smT (twF J c f') (msF J i 0 (jM J i))
    rw [smT_cg (g := twF J c f) (g' := twF J c f') (fun j hj => tw_fu w c f f' j (ms_z w hi hj).1 (by have := (ms_z w hi hj).2; omega) (by have := (ms_z w hi hj).2; omega))]
def mtF (s : Nat) : Nat := if s = 6 then mCoup_timesWithin else mN_timesWithin
def ltF : List (Nat × Nat) := [(0, 138), (1, 138), (2, 163), (3, 138), (5, 138), (6, 138), (7, 138)]
theorem mt_ok {s : Nat} (h : s ≤ 6) : z_has ltF (tgF s) = true ∧ z_sel ltF (tgF s) = mtF s := by
  have : s = 0 ∨ s = 1 ∨ s = 2 ∨ s = 3 ∨ s = 4 ∨ s = 5 ∨ s = 6 := by omega
  rcases this with g | g | g | g | g | g | g <;> subst g <;> exact ⟨rfl, rfl⟩
def upZ (J : zJ) (z : Nat → Nat) : zJ := (J.1, J.2.1, J.2.2.1, J.2.2.2.1, J.2.2.2.2.1, J.2.2.2.2.2.1, z, J.2.2.2.2.2.2.2)
/-- what timesWithin needs of an object: not its size -/
theorem c_v {J : zJ} {z : Nat → Nat} {A : zM} (w : wJ J) (h : cJ (upZ J z) A) {i : Nat} (hi : i < jN J) : z_cls zQ A (zP zQ A 4 i) [2] = decide (jS J i = 6) ∧ z_cls zQ A (zP zQ A 4 i) [0, 1, 2, 3, 5, 6, 7] = true ∧ zP zQ A 4 i ≠ 0 ∧ z_okU zQ A (zP zQ A 4 i) [(0, 138), (1, 138), (2, 163), (3, 138), (5, 138), (6, 138), (7, 138)] = true ∧ z_selU zQ A (zP zQ A 4 i) [(0, 138), (1, 138), (2, 163), (3, 138), (5, 138), (6, 138), (7, 138)] = mtF (jS J i) ∧ zI A (zP zQ A 4 i) 0 = zn i ∧ (jS J i = 6 → zI A (zP zQ A 4 i) 6 = zn (jM J i) ∧ ∀ d k, k < jM J i → z_den zQ (d + 1) mCoup_partAt [.ref (zP zQ A 4 i), .int (zn k)] A = some (some (.ref (zP zQ A 4 (jB J i k))), A)) := by
  obtain ⟨g1, g2, g3, g4, g5, g6, g7⟩ := h.2.2.1 i hi
  have g1 : z_hd zQ A (zP zQ A 4 i) = some (tgF (jS J i), if jS J i = 6 then 7 else 5) := g1
  have w1 := (w.2.2.2 i hi).1
  have w2 := (w.2.2.2 i hi).2.1
  have ms := mt_ok w1
  have hc : jS J i = 0 ∨ jS J i = 1 ∨ jS J i = 2 ∨ jS J i = 3 ∨ jS J i = 4 ∨ jS J i = 5 ∨ jS J i = 6 := by omega
  refine ⟨?_, ?_, cJ_nz h hi, by rw [okU_of g1]; exact ms.1, by rw [selU_of g1]; exact ms.2, g2, fun h6 => ?_⟩
  · rw [z_cls_of g1]; rcases hc with e | e | e | e | e | e | e <;> rw [e] <;> rfl
  · rw [z_cls_of g1]; rcases hc with e | e | e | e | e | e | e <;> rw [e] <;> rfl
  · obtain ⟨k1, k2, k3⟩ := g7 h6
    have k1 : zI A (zP zQ A 4 i) 6 = zn (jM J i) := k1
    have k3 : ∀ k, k < jM J i → zP zQ A (zP zQ A (zP zQ A 4 i) 5) k = zP zQ A 4 (jB J i k) := k3
    refine ⟨k1, fun d k hk => ?_⟩
    rw [h6] at g1
    have hcl : z_cls zQ A (zP zQ A 4 i) [2] = true := by rw [z_cls_of g1]; rfl
    rw [B_Coup_partAt, hcl, k1]
    simp (disch := omega) only [z_bV_some, z_bI_some, z_bJ_some, z_bD_some, z_bR_some, cond_true, cond_false, Bool.and_true, Bool.true_and, Bool.not_false, Bool.not_true, Bool.and_self, Bool.or_true, Bool.false_or, Bool.true_or, zn_ok, zn_ok0, zn_N, zn_add, zn_mul, zn_sub, z_lt_T, z_lt_F, z_le_T, z_le_F, z_eq_T, z_ne_F, z_eq_F, z_ne_T, z_ix_T, z_lt_m, z_le_m, z_lt_m2, z_le_m2, z_eq_m, z_ne_m, zn_div, z_a31, zn_shl, zn_shr, z_bq_T, z_bq_F, z_bl_T, nL_0, nL_8, z_ia_of k2, k3 k hk]
theorem ms_k {J : zJ} {i k : Nat} (hk : k < jM J i) : jB J i k ∈ msF J i 0 (jM J i) := by
  have : ∀ (m' k' : Nat), k' + m' = jM J i → k' ≤ k → jB J i k ∈ msF J i k' m' := by
    intro m'
    induction m' with
    | zero => intro k' e1 e2; omega
    | succ m' ih' =>
      intro k' e1 e2
      by_cases e : k' = k
      · subst e; exact List.mem_cons_self ..
      · exact List.mem_cons_of_mem _ (ih' (k' + 1) (by omega) (by omega))
  exact this (jM J i) 0 (by omega) (by omega)
theorem c_tw (J : zJ) (w : wJ J) {c : Nat} (hc : c < 60) {A : zM} {z : Nat → Nat} (hA : cJ (upZ J z) A) : ∀ (f d i dp : Nat), i < jN J → jZ J i ≤ f → f ≤ dp → dp ≤ 40 → z_den zQ (d + 2 + f) (mtF (jS J i)) [.ref (zP zQ A 4 i), .int (zn c), .int (zn dp)] A = some (some (.int (zn (twF J c f i))), A)
  | 0, _, i, _, hi, h, _, _ => by have := z_pos w hi; omega
  | f + 1, d, i, dp, hi, hz, hd, hd2 => by
    have w0 := w.1
    obtain ⟨w1, w2, w3, w4, w5, w6, w7, w8⟩ := w.2.2.2 i hi
    obtain ⟨v1, v2, v3, v4, v5, g2, v7⟩ := c_v w hA hi
    show _ = some (some (Value.int (zn ((if i = c then 1 else 0) + smT (twF J c f) (msF J i 0 (jM J i))))), A)
    by_cases h6 : jS J i = 6
    · have hcl : z_cls zQ A (zP zQ A 4 i) [2] = true := by rw [v1]; exact decide_eq_true h6
      rw [h6]
      show z_den zQ (d + 2 + f + 1) mCoup_timesWithin _ A = _
      have k1 := (v7 h6).1
      have bnd : ∀ (m k : Nat), k + m = jM J i → smT (twF J c f) (msF J i k m) ≤ 400 := by
        intro m
        induction m with
        | zero => intro k _; exact Nat.zero_le _
        | succ m ih =>
          intro k hk
          have h1 := ih (k + 1) (by omega)
          have hj := w8 k (by omega)
          have h2 := tw_le w c f (jB J i k) hj
          have h3 := (w.2.2.2 _ hj).2.2.2.2.2.2.1
          have h4 : smT (twF J c f) (msF J i (k + 1) m) ≤ 40 * m := by
            have : ∀ (m k : Nat), k + m = jM J i → smT (twF J c f) (msF J i k m) ≤ 40 * m := by
              intro m
              induction m with
              | zero => intro k _; exact Nat.zero_le _
              | succ m ih =>
                intro k hk
                have h1 := ih (k + 1) (by omega)
                have hj := w8 k (by omega)
                have h2 := tw_le w c f (jB J i k) hj
                have h3 := (w.2.2.2 _ hj).2.2.2.2.2.2.1
                show twF J c f (jB J i k) + smT (twF J c f) (msF J i (k + 1) m) ≤ 40 * (m + 1)
                omega
            exact this m (k + 1) (by omega)
          show twF J c f (jB J i k) + smT (twF J c f) (msF J i (k + 1) m) ≤ 400
          omega
      have L : ∀ (m k a : Nat) (o5 : Option Value), k + m = jM J i → a + smT (twF J c f) (msF J i k m) ≤ 1000 → z_denF zQ (d + 2 + f + 1) mCoup_timesWithin (17, [some (.ref (zP zQ A 4 i)), some (.int (zn c)), some (.int (zn dp)), some (.int (zn a)), some (.int (zn k)), o5], [], A) = some (some (.int (zn (a + smT (twF J c f) (msF J i k m)))), A) := by
        intro m
        induction m with
        | zero =>
          intro k a o5 hk ha
          rw [L_Coup_timesWithin_17, hcl, k1, z_le_T (by omega) (by omega)]
          rfl
        | succ m ih =>
          intro k a o5 hk ha
          have hp : z_den zQ (d + 2 + f) mCoup_partAt [.ref (zP zQ A 4 i), .int (zn k)] A = some (some (.ref (zP zQ A 4 (jB J i k))), A) := by
            rw [show d + 2 + f = d + 1 + f + 1 by omega]; exact (v7 h6).2 _ k (by omega)
          have hj : jB J i k < jN J := w8 k (by omega)
          have hjz := (ms_z w hi (ms_k (show k < jM J i by omega))).2
          have hr := c_tw J w hc hA f d (jB J i k) (dp - 1) hj (by omega) (by omega) (by omega)
          obtain ⟨-, -, nz, mt1, mt2, -⟩ := c_v w hA hj
          have ha' : a + (twF J c f (jB J i k) + smT (twF J c f) (msF J i (k + 1) m)) ≤ 1000 := ha
          rw [L_Coup_timesWithin_17, hcl, k1]
          simp (disch := omega) only [z_bV_some, z_bI_some, z_bJ_some, z_bD_some, z_bR_some, cond_true, cond_false, Bool.and_true, Bool.true_and, Bool.not_false, Bool.not_true, Bool.and_self, Bool.or_true, Bool.false_or, Bool.true_or, zn_ok, zn_ok0, zn_N, zn_add, zn_mul, zn_sub, z_lt_T, z_lt_F, z_le_T, z_le_F, z_eq_T, z_ne_F, z_eq_F, z_ne_T, z_ix_T, z_lt_m, z_le_m, z_lt_m2, z_le_m2, z_eq_m, z_ne_m, zn_div, z_a31, zn_shl, zn_shr, z_bq_T, z_bq_F, z_bl_T, nL_0, nL_1, hp, mt1, mt2, hr]
          rw [ih (k + 1) (a + twF J c f (jB J i k)) _ (by omega) (by omega)]
          show some (some (Value.int (zn (a + twF J c f (jB J i k) + smT (twF J c f) (msF J i (k + 1) m)))), A) = some (some (Value.int (zn (a + (twF J c f (jB J i k) + smT (twF J c f) (msF J i (k + 1) m))))), A)
          rw [Nat.add_assoc]
      have hb := bnd (jM J i) 0 (by omega)
      rw [B_Coup_timesWithin, hcl, g2]
      by_cases e : i = c
      · subst e
        rw [z_ne_F, if_pos rfl, nL_0, nL_1]
        exact L (jM J i) 0 1 none (by omega) (by omega)
      · rw [z_ne_T e (by omega) (by omega), if_neg e, nL_0]
        exact L (jM J i) 0 0 none (by omega) (by omega)
    · have hm0 := w3 h6
      have hcl := v2
      have em : mtF (jS J i) = mN_timesWithin := by unfold mtF; rw [if_neg h6]
      rw [em, hm0]
      show z_den zQ (d + 2 + f + 1) mN_timesWithin _ A = some (some (Value.int (zn ((if i = c then 1 else 0) + 0))), A)
      rw [B_N_timesWithin, hcl, g2]
      by_cases e : i = c
      · subst e; rw [z_ne_F, if_pos rfl, nL_1]; rfl
      · rw [z_ne_T e (by omega) (by omega), if_neg e, nL_0]; rfl
