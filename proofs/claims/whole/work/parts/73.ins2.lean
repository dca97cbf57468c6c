/-! S LEVEL: pitches, the class: couplers. -/
theorem cJ_bs {J : zJ} {A : zM} (h : cJ J A) (l : List Nat) (w : wJ J) : cJ J (zbs 10 l A) := by
  obtain ⟨h1, h2, h3, h4, h5⟩ := h
  have ne : ∀ i, i < jN J → zP zQ A 4 i ≠ 10 := by
    intro i hi e
    have := (h3 i hi).1
    rw [e, h_10] at this
    have h6 := congrArg Prod.fst (Option.some.inj this)
    have h7 : (14 : Nat) = tgF (jS J i) := h6
    unfold tgF at h7
    (repeat' split at h7) <;> omega
  refine ⟨by rw [zbs_I (by omega)]; exact h1, by rw [zbs_I (by omega)]; exact h2, fun i hi => ?_, fun i a1 a2 => by rw [zbs_P]; exact h4 i a1 a2, fun i j a1 a2 a3 a4 a5 => by simp only [zbs_P]; exact h5 i j a1 a2 a3 a4 a5⟩
  obtain ⟨g1, g2, g3, g4, g5, g6, g7⟩ := h3 i hi
  have hne := ne i hi
  rw [zbs_P]
  refine ⟨by rw [zbs_hd]; exact g1, by rw [zbs_I hne]; exact g2, by rw [zbs_I hne]; exact g3, by rw [zbs_I hne]; exact g4, by rw [zbs_I hne]; exact g5, by rw [zbs_I hne]; exact g6, fun e => ?_⟩
  obtain ⟨k1, k2, k3⟩ := g7 e
  exact ⟨by rw [zbs_I hne]; exact k1, by rw [zbs_hd, zbs_P]; exact k2, fun k hk => by simp only [zbs_P]; exact k3 k hk⟩
def lpF : List (Nat × Nat) := [(0, 148), (1, 157), (2, 162), (3, 135), (5, 142), (6, 153), (7, 145)]
def mpF (s : Nat) : Nat := if s = 0 then mPipe_pitch else if s = 1 then mReed_pitch else if s = 2 then mBass_pitch else if s = 3 then mN_pitch else if s = 4 then mPluck_pitch else if s = 5 then mBell_pitch else mCoup_pitch
theorem mp_ok {s : Nat} (h : s ≤ 6) : z_has lpF (tgF s) = true ∧ z_sel lpF (tgF s) = mpF s := by
  have : s = 0 ∨ s = 1 ∨ s = 2 ∨ s = 3 ∨ s = 4 ∨ s = 5 ∨ s = 6 := by omega
  rcases this with g | g | g | g | g | g | g <;> subst g <;> exact ⟨rfl, rfl⟩
theorem cJ_nz {J : zJ} {A : zM} (h : cJ J A) {i : Nat} (hi : i < jN J) : zP zQ A 4 i ≠ 0 := by
  refine hd_n0 (h.2.2.1 i hi).1 ?_
  unfold tgF
  (repeat' split) <;> omega
theorem cJ_cN {J : zJ} {A : zM} (w : wJ J) (h : cJ J A) {i : Nat} (hi : i < jN J) : cN A (zP zQ A 4 i) (tgF (jS J i)) (jP J i) (jQ J i) := by
  obtain ⟨g1, g2, g3, g4, g5, g6, g7⟩ := h.2.2.1 i hi
  obtain ⟨-, -, -, w4, w5, -⟩ := w.2.2.2 i hi
  refine ⟨⟨_, g1⟩, g5, g6, w4, w5, fun e => ?_⟩
  rw [e, h_10] at g1
  have h7 : (14 : Nat) = tgF (jS J i) := congrArg Prod.fst (Option.some.inj g1)
  unfold tgF at h7
  (repeat' split at h7) <;> omega
theorem c_max {a r : Option UInt64} (ha : oP a) (hr : oP r) {α : Type} (F : UInt64 → α) : (bif z_le (zf_cmp.1 .l (dO r) (dO a)) 0 then F (dO a) else F (dO r)) = F (dO (mxO a r)) := by
  cases a with
  | none =>
    cases r with
    | none => show (bif z_le (zf_cmp.1 .l 13830554455654793216 13830554455654793216) 0 then _ else _) = _; rw [zc_nn, z_le_00]; rfl
    | some x => show (bif z_le (zf_cmp.1 .l x 13830554455654793216) 0 then _ else _) = _; rw [zc_np _ (hr x rfl), z_le_10]; rfl
  | some y =>
    cases r with
    | none => show (bif z_le (zf_cmp.1 .l 13830554455654793216 y) 0 then _ else _) = _; rw [zc_mp _ (ha y rfl), z_le_m0]; rfl
    | some x =>
      show (bif z_le (zf_cmp.1 .l x y) 0 then F y else F x) = F (if y.toNat < x.toNat then x else y)
      rcases Nat.lt_trichotomy y.toNat x.toNat with g | g | g
      · rw [if_pos g, zc_gt _ (hr x rfl) (ha y rfl) g, z_le_10]; rfl
      · have e : y = x := UInt64.toNat_inj.mp g
        subst e
        rw [zc_eq _ (ha y rfl), z_le_00, if_neg (by omega)]; rfl
      · rw [if_neg (by omega), zc_lt _ (hr x rfl) (ha y rfl) g, z_le_m0]; rfl
theorem c_maxz {a r : Option UInt64} (ha : oP a) (hr : oP r) {α : Type} (F : UInt64 → α) : (bif z_le (zf_cmp.1 .l (dO r) (dO a)) (zn 0) then F (dO a) else F (dO r)) = F (dO (mxO a r)) := by rw [← nL_0]; exact c_max ha hr F
theorem c_part (d : Nat) {J : zJ} {A : zM} (h : cJ J A) (w : wJ J) {i k : Nat} (hi : i < jN J) (h6 : jS J i = 6) (hk : k < jM J i) : z_den zQ (d + 1) mCoup_partAt [.ref (zP zQ A 4 i), .int (zn k)] A = some (some (.ref (zP zQ A 4 (jB J i k))), A) := by
  obtain ⟨g1, g2, g3, g4, g5, g6, g7⟩ := h.2.2.1 i hi
  obtain ⟨k1, k2, k3⟩ := g7 h6
  obtain ⟨-, w2, -⟩ := w.2.2.2 i hi
  rw [h6] at g1
  have hc : z_cls zQ A (zP zQ A 4 i) [2] = true := by rw [z_cls_of g1]; rfl
  rw [B_Coup_partAt, hc, k1]
  simp (disch := omega) only [z_bV_some, z_bI_some, z_bJ_some, z_bD_some, z_bR_some, cond_true, cond_false, Bool.and_true, Bool.true_and, Bool.not_false, Bool.not_true, Bool.and_self, Bool.or_true, Bool.false_or, Bool.true_or, zn_ok, zn_ok0, zn_N, zn_add, zn_mul, zn_sub, z_lt_T, z_lt_F, z_le_T, z_le_F, z_eq_T, z_ne_F, z_eq_F, z_ne_T, z_ix_T, z_lt_m, z_le_m, z_lt_m2, z_le_m2, z_eq_m, z_ne_m, zn_div, z_a31, zn_shl, zn_shr, z_bq_T, z_bq_F, z_bl_T, nL_0, nL_8, z_ia_of k2, k3 k hk]
/-- one pitch -/
theorem c_pitch (J : zJ) (w : wJ J) {b : UInt64} (hb : bR b) : ∀ (f d i dp : Nat) (A : zM), cJ J A → i < jN J → jZ J i ≤ f → f ≤ dp → dp ≤ 40 → z_den zQ (d + 4 + f) (mpF (jS J i)) [.ref (zP zQ A 4 i), .double b, .ref 10, .int (zn dp)] A = some (some (.double (dO (pvF J b f i).1)), zbs 10 (pvF J b f i).2 A)
  | 0, _, i, _, _, _, hi, h, _, _ => by have := z_pos w hi; omega
  | f + 1, d, i, dp, A, hA, hi, hz, hd, hd2 => by
    have hN := cJ_cN w hA hi
    obtain ⟨w1, w2, w3, w4, w5, w6, w7, w8⟩ := w.2.2.2 i hi
    show _ = some (some (Value.double (dO (if jS J i = 6 then evL (pvF J b f) (msF J i 0 (jM J i)) (none, [13]) else if jS J i = 3 then (none, []) else (if jQ J i = 0 then none else some (ptF (jS J i) (xF b (jP J i) (jQ J i))), bkF (jS J i))).1)), zbs 10 (if jS J i = 6 then evL (pvF J b f) (msF J i 0 (jM J i)) (none, [13]) else if jS J i = 3 then (none, []) else (if jQ J i = 0 then none else some (ptF (jS J i) (xF b (jP J i) (jQ J i))), bkF (jS J i))).2 A)
    by_cases h6 : jS J i = 6
    · rw [if_pos h6, h6]
      show z_den zQ (d + 4 + f + 1) mCoup_pitch _ A = _
      have L : ∀ (m k : Nat) (a : zV) (o8 o9 : Option Value), k + m = jM J i → oP a.1 → z_denF zQ (d + 4 + f + 1) mCoup_pitch (16, [some (.ref (zP zQ A 4 i)), some (.double b), none, some (.ref 10), some (.int (zn dp)), some (.double (dO a.1)), none, some (.int (zn k)), o8, o9, none], [], zbs 10 a.2 A) = some (some (.double (dO (evL (pvF J b f) (msF J i k m) a).1)), zbs 10 (evL (pvF J b f) (msF J i k m) a).2 A) := by
        intro m
        induction m with
        | zero =>
          intro k a o8 o9 hk ha
          have hA' := cJ_bs hA a.2 w
          obtain ⟨g1, g2, g3, g4, g5, g6, g7⟩ := hA'.2.2.1 i hi
          rw [h6] at g1
          rw [zbs_P] at g1 g7
          have hc : z_cls zQ (zbs 10 a.2 A) (zP zQ A 4 i) [2] = true := by rw [z_cls_of g1]; rfl
          rw [L_Coup_pitch_16, hc, (g7 h6).1, z_le_T (by omega) (by omega)]
          rfl
        | succ m ih =>
          intro k a o8 o9 hk ha
          have hA' := cJ_bs hA a.2 w
          obtain ⟨g1, g2, g3, g4, g5, g6, g7⟩ := hA'.2.2.1 i hi
          rw [h6] at g1
          rw [zbs_P] at g1 g7
          have hc : z_cls zQ (zbs 10 a.2 A) (zP zQ A 4 i) [2] = true := by rw [z_cls_of g1]; rfl
          have hp := c_part (d + 3 + f) hA' w hi h6 (show k < jM J i by omega)
          simp only [zbs_P] at hp
          have hj : jB J i k < jN J := w8 k (by omega)
          have hjz : jZ J (jB J i k) < jZ J i := by
            have hm : jB J i k ∈ msF J i k (m + 1) := List.mem_cons_self ..
            have : ∀ (k' m' : Nat), k' + m' = jM J i → k' ≤ k → jB J i k ∈ msF J i k' m' := by
              intro k' m'
              induction m' generalizing k' with
              | zero => intro e1 e2; omega
              | succ m' ih' =>
                intro e1 e2
                by_cases e : k' = k
                · subst e; exact List.mem_cons_self ..
                · exact List.mem_cons_of_mem _ (ih' (k' + 1) (by omega) (by omega))
            exact (ms_z w hi (this 0 (jM J i) (by omega) (by omega))).2
          have hr := c_pitch J w hb f d (jB J i k) (dp - 1) (zbs 10 a.2 A) hA' hj (by omega) (by omega) (by omega)
          rw [zbs_P] at hr
          have nz := cJ_nz hA' hj
          rw [zbs_P] at nz
          obtain ⟨q1, -⟩ := hA'.2.2.1 (jB J i k) hj
          rw [zbs_P] at q1
          have ms := mp_ok (w.2.2.2 _ hj).1
          have ho : z_okU zQ (zbs 10 a.2 A) (zP zQ A 4 (jB J i k)) [(0, 148), (1, 157), (2, 162), (3, 135), (5, 142), (6, 153), (7, 145)] = true := by rw [okU_of q1]; exact ms.1
          have hs : z_selU zQ (zbs 10 a.2 A) (zP zQ A 4 (jB J i k)) [(0, 148), (1, 157), (2, 162), (3, 135), (5, 142), (6, 153), (7, 145)] = mpF (jS J (jB J i k)) := by rw [selU_of q1]; exact ms.2
          rw [L_Coup_pitch_16, hc, (g7 h6).1]
          have hp : z_den zQ (d + 4 + f) mCoup_partAt [.ref (zP zQ A 4 i), .int (zn k)] (zbs 10 a.2 A) = some (some (.ref (zP zQ A 4 (jB J i k))), zbs 10 a.2 A) := by rw [show d + 4 + f = d + 3 + f + 1 by omega]; exact hp
          simp (disch := omega) only [z_bV_some, z_bI_some, z_bJ_some, z_bD_some, z_bR_some, cond_true, cond_false, Bool.and_true, Bool.true_and, Bool.not_false, Bool.not_true, Bool.and_self, Bool.or_true, Bool.false_or, Bool.true_or, zn_ok, zn_ok0, zn_N, zn_add, zn_mul, zn_sub, z_lt_T, z_lt_F, z_le_T, z_le_F, z_eq_T, z_ne_F, z_eq_F, z_ne_T, z_ix_T, z_lt_m, z_le_m, z_lt_m2, z_le_m2, z_eq_m, z_ne_m, zn_div, z_a31, zn_shl, zn_shr, z_bq_T, z_bq_F, z_bl_T, nL_0, nL_1, hp, ho, hs, hr]
          have hoP := oP_pv w hb f (jB J i k) hj
          rw [c_maxz ha hoP (fun v => z_denF zQ (d + 4 + f + 1) mCoup_pitch (16, [some (.ref (zP zQ A 4 i)), some (.double b), none, some (.ref 10), some (.int (zn dp)), some (.double v), none, some (.int (zn (k + 1))), some (.ref (zP zQ A 4 (jB J i k))), some (.double (dO (pvF J b f (jB J i k)).1)), none], [], zbs 10 (pvF J b f (jB J i k)).2 (zbs 10 a.2 A)))]
          have := ih (k + 1) (cmb a (pvF J b f (jB J i k))) (some (.ref (zP zQ A 4 (jB J i k)))) (some (.double (dO (pvF J b f (jB J i k)).1))) (by omega) (oP_mx ha hoP)
          rw [show (cmb a (pvF J b f (jB J i k))).2 = a.2 ++ (pvF J b f (jB J i k)).2 from rfl, zbs_app] at this
          exact this
      have := L (jM J i) 0 (none, [13]) none none (by omega) oP_n
      rw [B_Coup_pitch]
      simp (disch := omega) only [z_bV_some, z_bI_some, z_bJ_some, z_bD_some, z_bR_some, cond_true, cond_false, Bool.and_true, Bool.true_and, Bool.not_false, Bool.not_true, Bool.and_self, Bool.or_true, Bool.false_or, Bool.true_or, zn_ok, zn_ok0, zn_N, zn_add, zn_mul, zn_sub, z_lt_T, z_lt_F, z_le_T, z_le_F, z_eq_T, z_ne_F, z_eq_F, z_ne_T, z_ix_T, z_lt_m, z_le_m, z_lt_m2, z_le_m2, z_eq_m, z_ne_m, zn_div, z_a31, zn_shl, zn_shr, z_bq_T, z_bq_F, z_bl_T, nL_0, nL_1, nL_13, z_ia_of (h_10 _)]
      exact this
    · rw [if_neg h6]
      have hc : jS J i = 0 ∨ jS J i = 1 ∨ jS J i = 2 ∨ jS J i = 3 ∨ jS J i = 4 ∨ jS J i = 5 := by omega
      rcases hc with g | g | g | g | g | g
      · rw [g] at hN ⊢
        rw [if_neg (by omega), show d + 4 + (f + 1) = d + f + 3 + 2 by omega]
        exact c_pipe (d + f + 3) A (zn dp) hN (Or.inr (Or.inl rfl)) hb
      · rw [g] at hN ⊢
        rw [if_neg (by omega), show d + 4 + (f + 1) = d + f + 2 + 3 by omega]
        exact c_reed (d + f + 2) A (zn dp) hN (Or.inr rfl) hb
      · rw [g] at hN ⊢
        rw [if_neg (by omega), show d + 4 + (f + 1) = d + f + 1 + 4 by omega]
        exact c_bass (d + f + 1) A (zn dp) hN hb
      · rw [g, if_pos rfl]
        exact B_N_pitch (d + 4 + f) (zP zQ A 4 i) b 10 (zn dp) A
      · rw [g] at hN ⊢
        rw [if_neg (by omega), show d + 4 + (f + 1) = d + f + 3 + 2 by omega]
        exact c_pluck (d + f + 3) A (zn dp) hN (Or.inr rfl) hb
      · rw [g] at hN ⊢
        rw [if_neg (by omega), show d + 4 + (f + 1) = d + f + 2 + 3 by omega]
        exact c_bell (d + f + 2) A (zn dp) hN hb
