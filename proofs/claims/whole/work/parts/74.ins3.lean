/-! S LEVEL: pitches, the reference. -/
def sK (J : zJ) (M : zM) : List Nat → Prop
  | [] => True
  | i :: r => zI M 40 r.length = zn i ∧ i < jN J ∧ sK J M r
theorem sK_le {J : zJ} (w : wJ J) {M : zM} : ∀ {st : List Nat}, sK J M st → st.length ≤ smZ J st
  | [], _ => Nat.le_refl _
  | i :: r, h => by
    have h1 := sK_le w h.2.2
    have h2 := z_pos w h.2.1
    show r.length + 1 ≤ jZ J i + smZ J r
    omega
theorem sK_fr {J : zJ} {M M' : zM} : ∀ {st : List Nat}, sK J M st → (∀ k, k < st.length → zI M' 40 k = zI M 40 k) → sK J M' st
  | [], _, _ => trivial
  | i :: r, h, e => ⟨by rw [e r.length (Nat.lt_succ_self _)]; exact h.1, h.2.1, sK_fr h.2.2 (fun k hk => e k (Nat.lt_succ_of_lt hk))⟩
theorem ms_len (J : zJ) (i : Nat) : ∀ m k : Nat, (msF J i k m).length = m
  | 0, _ => rfl
  | m + 1, k => by show (msF J i (k + 1) m).length + 1 = m + 1; rw [ms_len J i m]
def xq (a k : Nat) : Prop := a = 40 ∨ a = 39 ∨ (a = 15 ∧ k = 35)
theorem new_56 (M : zM) : 56 ≤ z_new zQ M := by
  have e : zQ.1 = 56 := rfl
  unfold z_new; rw [e]; omega
theorem rJ_fr {J : zJ} {M M' : zM} (h : rJ J M) (f : zFr 0 0 xq M M') : rJ J M' := by
  have hn := new_56 M
  obtain ⟨h1, h2, h3, h4⟩ := h
  have i1 : ∀ a k, a < 56 → ¬ xq a k → zI M' a k = zI M a k := fun a k ha hx => zFr_I f k (by omega) hx
  have d1 : ∀ a k, a < 56 → ¬ xq a k → zD M' a k = zD M a k := fun a k ha hx => zFr_D f k (by omega) hx
  have q : ∀ a k, a ≠ 40 → a ≠ 39 → (a = 15 → k ≠ 35) → ¬ xq a k := by
    intro a k a1 a2 a3 e
    rcases e with e | e | e
    · exact a1 e
    · exact a2 e
    · exact a3 e.1 e.2
  refine ⟨by rw [i1 15 14 (by omega) (q _ _ (by omega) (by omega) (by omega))]; exact h1, by rw [d1 15 22 (by omega) (q _ _ (by omega) (by omega) (by omega))]; exact h2, fun i hi => ?_, fun i a1 a2 => ?_⟩
  · obtain ⟨g1, g2, g3, g4, g5, g6⟩ := h3 i hi
    refine ⟨?_, ?_, ?_, ?_, ?_, fun k hk => ?_⟩
    · rw [i1 26 i (by omega) (q _ _ (by omega) (by omega) (by omega))]; exact g1
    · rw [i1 27 i (by omega) (q _ _ (by omega) (by omega) (by omega))]; exact g2
    · rw [i1 29 i (by omega) (q _ _ (by omega) (by omega) (by omega))]; exact g3
    · rw [i1 31 i (by omega) (q _ _ (by omega) (by omega) (by omega))]; exact g4
    · rw [d1 32 i (by omega) (q _ _ (by omega) (by omega) (by omega))]; exact g5
    · rw [i1 28 _ (by omega) (q _ _ (by omega) (by omega) (by omega))]; exact g6 k hk
  · rw [i1 27 i (by omega) (q _ _ (by omega) (by omega) (by omega)), i1 31 i (by omega) (q _ _ (by omega) (by omega) (by omega))]; exact h4 i a1 a2
noncomputable def dk (k : Nat) : Int32 := zn k - zn 1
theorem dk_s {k : Nat} (h : k < 1000) : dk (k + 1) = zn k := by unfold dk; rw [zn_sub (by omega)]; rfl
theorem dk_a (k : Nat) : zn k + -1 = dk k := by unfold dk; rw [nL_1, Int32.sub_eq_add_neg]
theorem dk_0 : z_lt (dk 0) 0 = true := by unfold dk; rw [← nL_0, ← nL_1, z_lt_eq]; decide
theorem r_push (J : zJ) (w : wJ J) (d : Nat) (l1 : Int32) (l2 : UInt64) {i : Nat} (hi : i < jN J) (r : List Nat) : ∀ (k : Nat) (M : zM), rJ J M → k ≤ jM J i → sK J M (msF J i k (jM J i - k) ++ r) → r.length + 8 ≤ 60 → ∃ M' l6, z_denF zQ (d + 1) mQ_frequencyOf (68, [some (.ref 15), some (.int l1), some (.double l2), none, some (.int (zn (jM J i - k + r.length))), some (.int (zn i)), some (.int (dk k)), none], [], M) = z_denF zQ (d + 1) mQ_frequencyOf (17, [some (.ref 15), some (.int l1), some (.double l2), none, some (.int (zn (jM J i + r.length))), some (.int (zn i)), some (.int l6), none], [], M') ∧ sK J M' (msF J i 0 (jM J i) ++ r) ∧ zFr 0 0 (fun a _ => a = 40) M M'
  | 0, M, hJ, hk, hs, hr => by
    refine ⟨M, dk 0, ?_, hs, zFr_refl _ _⟩
    rw [L_Q_frequencyOf_68, dk_0]; rfl
  | k + 1, M, hJ, hk, hs, hr => by
    obtain ⟨w1, w2, w3, w4, w5, w6, w7, w8⟩ := w.2.2.2 i hi
    have w0 := w.1
    obtain ⟨g1, g2, g3, g4, g5, g6⟩ := hJ.2.2.1 i hi
    have hb := w8 k (by omega)
    have f1 : zFr 0 0 (fun a _ => a = 40) M (z_wI M 40 (jM J i - (k + 1) + r.length) (zn (jB J i k))) := zFr_wI (X := fun a _ => a = 40) rfl
    have hJ' : rJ J (z_wI M 40 (jM J i - (k + 1) + r.length) (zn (jB J i k))) := rJ_fr hJ (zFr_mono f1 (Nat.le_refl _) (Nat.le_refl _) (fun a _ e => Or.inl e))
    have e1 : msF J i k (jM J i - k) = jB J i k :: msF J i (k + 1) (jM J i - (k + 1)) := by rw [show jM J i - k = jM J i - (k + 1) + 1 by omega]; rfl
    have el : (msF J i (k + 1) (jM J i - (k + 1)) ++ r).length = jM J i - (k + 1) + r.length := by rw [List.length_append, ms_len]
    have hs' : sK J (z_wI M 40 (jM J i - (k + 1) + r.length) (zn (jB J i k))) (msF J i k (jM J i - k) ++ r) := by
      rw [e1, List.cons_append]
      refine ⟨by rw [el, zI_wI_s], hb, sK_fr hs (fun j hj => ?_)⟩
      rw [el] at hj
      exact zI_wI_k (by omega)
    obtain ⟨M', l6, q1, q2, q3⟩ := r_push J w d l1 l2 hi r k _ hJ' (by omega) hs' hr
    refine ⟨M', l6, ?_, q2, zFr_trans f1 q3 (fun _ _ _ e => e)⟩
    rw [← q1, L_Q_frequencyOf_68, dk_s (by omega), dk_a]
    have hw : zI M 28 (8 * i + k) = zn (jB J i k) := g6 k (by omega)
    simp (disch := omega) only [z_bV_some, z_bI_some, z_bJ_some, z_bD_some, z_bR_some, cond_true, cond_false, Bool.and_true, Bool.true_and, Bool.not_false, Bool.not_true, Bool.and_self, Bool.or_true, Bool.false_or, Bool.true_or, zn_ok, zn_ok0, zn_N, zn_add, zn_mul, zn_sub, z_lt_T, z_lt_F, z_le_T, z_le_F, z_eq_T, z_ne_F, z_eq_F, z_ne_T, z_ix_T, z_lt_m, z_le_m, z_lt_m2, z_le_m2, z_eq_m, z_ne_m, zn_div, z_a31, zn_shl, zn_shr, z_bq_T, z_bq_F, z_bl_T, nL_0, nL_1, nL_8, hw]
    rw [show jM J i - (k + 1) + r.length + 1 = jM J i - k + r.length by omega]
