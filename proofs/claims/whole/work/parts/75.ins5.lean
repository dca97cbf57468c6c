/-! S LEVEL: pitches, the reference's loop. -/
def flR (M : zM) (l2 : UInt64) : Option UInt64 → Prop
  | none => zI M 15 35 = zn 1
  | some x => zI M 15 35 = zn 0 ∧ l2 = x
def trR (M0 : zM) (l : List Nat) (M : zM) : Prop := ∀ j, j < 17 → zI M 39 j = zI (zbs 39 l M0) 39 j
theorem trR_bs {M0 M : zM} {l : List Nat} (h : trR M0 l M) (l' : List Nat) : trR M0 (l ++ l') (zbs 39 l' M) := by
  intro j hj
  rw [zbs_app]
  exact zbs_two l' M (zbs 39 l M0) h j hj
theorem trR_fr {M0 M M' : zM} {l : List Nat} (h : trR M0 l M) (e : ∀ j, zI M' 39 j = zI M 39 j) : trR M0 l M' := fun j hj => by rw [e j]; exact h j hj
theorem zbs_xq (l : List Nat) (M : zM) : zFr 0 0 xq M (zbs 39 l M) := zFr_mono (zbs_fr 39 l M) (Nat.le_refl _) (Nat.le_refl _) (fun _ _ e => Or.inr (Or.inl e))
theorem xq_tr {M M1 M2 : zM} (h : zFr 0 0 xq M M1) (h' : zFr 0 0 xq M1 M2) : zFr 0 0 xq M M2 := zFr_trans h h' (fun _ _ _ e => e)
noncomputable def bsF (J : zJ) : UInt64 := zf_div.1 (UInt64.ofNat (iN (jE J))) 4625196817309499392
theorem bs_R {J : zJ} (w : wJ J) : bR (bsF J) := b_R w.2.1 w.2.2.1
theorem pv_6 {J : zJ} (w : wJ J) (b : UInt64) {i : Nat} (hi : i < jN J) (h6 : jS J i = 6) : pvF J b 40 i = evL (pvF J b 40) (msF J i 0 (jM J i)) (none, [13]) := by
  show (if jS J i = 6 then evL (pvF J b 39) (msF J i 0 (jM J i)) (none, [13]) else _) = _
  rw [if_pos h6]
  refine evL_cg _ _ (fun j hj => ?_)
  have h1 := ms_z w hi hj
  have h2 := (w.2.2.2 i hi).2.2.2.2.2.2.1
  exact pv_fu w b 39 40 j h1.1 (by omega) (by omega)
theorem pv_p {J : zJ} (b : UInt64) {i : Nat} (h6 : jS J i ≠ 6) (h3 : jS J i ≠ 3) : pvF J b 40 i = (if jQ J i = 0 then none else some (ptF (jS J i) (xF b (jP J i) (jQ J i))), bkF (jS J i)) := by
  show (if jS J i = 6 then _ else if jS J i = 3 then _ else _) = _
  rw [if_neg h6, if_neg h3]
theorem pv_3 {J : zJ} (b : UInt64) {i : Nat} (h3 : jS J i = 3) : pvF J b 40 i = (none, []) := by
  show (if jS J i = 6 then _ else if jS J i = 3 then _ else _) = _
  rw [if_neg (by omega), if_pos h3]
theorem r_loop (J : zJ) (w : wJ J) (d : Nat) (l1 : Int32) (M0 : zM) : ∀ (n : Nat) (st : List Nat) (a : zV) (l2 : UInt64) (o5 o6 : Option Value) (M : zM), smZ J st ≤ n → smZ J st ≤ 40 → rJ J M → sK J M st → flR M l2 a.1 → oP a.1 → trR M0 a.2 M → ∃ l2' M', z_denF zQ (d + 3 + 1) mQ_frequencyOf (17, [some (.ref 15), some (.int l1), some (.double l2), none, some (.int (zn st.length)), o5, o6, none], [], M) = some (some (.double l2'), M') ∧ zFr 0 0 xq M M' ∧ flR M' l2' (evL (pvF J (bsF J) 40) st a).1 ∧ trR M0 (evL (pvF J (bsF J) 40) st a).2 M' := by
  intro n
  induction n with
  | zero =>
    intro st a l2 o5 o6 M h1 h2 hJ hs hf ha ht
    have := sK_le w hs
    cases st with
    | nil =>
      refine ⟨l2, M, ?_, zFr_refl _ _, hf, ht⟩
      show z_denF zQ (d + 3 + 1) mQ_frequencyOf (17, [some (.ref 15), some (.int l1), some (.double l2), none, some (.int (zn 0)), o5, o6, none], [], M) = _
      rw [L_Q_frequencyOf_17, nL_0, z_le_T (by omega) (by omega)]; rfl
    | cons i r => simp only [List.length_cons] at this; omega
  | succ n ih =>
    intro st a l2 o5 o6 M h1 h2 hJ hs hf ha ht
    have hlen := sK_le w hs
    cases st with
    | nil =>
      refine ⟨l2, M, ?_, zFr_refl _ _, hf, ht⟩
      show z_denF zQ (d + 3 + 1) mQ_frequencyOf (17, [some (.ref 15), some (.int l1), some (.double l2), none, some (.int (zn 0)), o5, o6, none], [], M) = _
      rw [L_Q_frequencyOf_17, nL_0, z_le_T (by omega) (by omega)]; rfl
    | cons i r =>
      obtain ⟨s1, hi, s3⟩ := hs
      have w0 := w.1
      obtain ⟨w1, w2, w3, w4, w5, w6, w7, w8⟩ := w.2.2.2 i hi
      obtain ⟨g1, g2, g3, g4, g5, g6⟩ := hJ.2.2.1 i hi
      have hz : smZ J (i :: r) = jZ J i + smZ J r := rfl
      have hlr := sK_le w s3
      show ∃ l2' M', z_denF zQ (d + 3 + 1) mQ_frequencyOf (17, [some (.ref 15), some (.int l1), some (.double l2), none, some (.int (zn (r.length + 1))), o5, o6, none], [], M) = some (some (.double l2'), M') ∧ zFr 0 0 xq M M' ∧ flR M' l2' (evL (pvF J (bsF J) 40) r (cmb a (pvF J (bsF J) 40 i))).1 ∧ trR M0 (evL (pvF J (bsF J) 40) r (cmb a (pvF J (bsF J) 40 i))).2 M'
      have ez : zn (r.length + 1) + -1 = zn r.length := by rw [dk_a, dk_s (by omega)]
      rw [L_Q_frequencyOf_17, ez]
      by_cases h6 : jS J i = 6
      · rw [h6] at g1
        have f1 : zFr 0 0 xq M (zbp 39 13 M) := zFr_wI (X := xq) (Or.inr (Or.inl rfl))
        have hJ1 := rJ_fr hJ f1
        have s3' : sK J (zbp 39 13 M) r := sK_fr s3 (fun k _ => zbp_I (by omega))
        have s4 : sK J (zbp 39 13 M) (msF J i (jM J i) (jM J i - jM J i) ++ r) := by rw [Nat.sub_self]; exact s3'
        obtain ⟨M1, l6, q1, q2, q3⟩ := r_push J w (d + 3) l1 l2 hi r (jM J i) (zbp 39 13 M) hJ1 (Nat.le_refl _) s4 (by omega)
        have f2 : zFr 0 0 xq (zbp 39 13 M) M1 := zFr_mono q3 (Nat.le_refl _) (Nat.le_refl _) (fun _ _ e => Or.inl e)
        have f3 := xq_tr f1 f2
        have hn := new_56 (zbp 39 13 M)
        have e35 : zI M1 15 35 = zI M 15 35 := by rw [zFr_I q3 35 (by omega) (by omega), zbp_I (by omega)]
        have e39 : ∀ j, zI M1 39 j = zI (zbp 39 13 M) 39 j := fun j => zFr_I q3 j (by omega) (by omega)
        have hf' : flR M1 l2 (cmb a (none, [13])).1 := by
          show flR M1 l2 (mxO a.1 none)
          rw [mxO_n]
          cases ha1 : a.1 with
          | none => rw [ha1] at hf; show zI M1 15 35 = zn 1; rw [e35]; exact hf
          | some x => rw [ha1] at hf; show zI M1 15 35 = zn 0 ∧ l2 = x; rw [e35]; exact hf
        have ht' : trR M0 (cmb a (none, [13])).2 M1 := trR_fr (trR_bs ht [13]) e39
        have hz2 : smZ J (msF J i 0 (jM J i) ++ r) = jZ J i - 1 + smZ J r := by rw [smZ_app]; omega
        obtain ⟨l2', M', r1, r2, r3, r4⟩ := ih (msF J i 0 (jM J i) ++ r) (cmb a (none, [13])) l2 (some (.int (zn i))) (some (.int l6)) M1 (by omega) (by omega) (rJ_fr hJ f3) q2 hf' (by show oP (mxO a.1 none); rw [mxO_n]; exact ha) ht'
        rw [evL_app, evL_acc, ← pv_6 w (bsF J) hi h6] at r3 r4
        refine ⟨l2', M', ?_, xq_tr f3 r2, r3, r4⟩
        rw [← r1, List.length_append, ms_len, ← q1, Nat.sub_self, Nat.zero_add]
        unfold dk zbp
        simp (disch := omega) only [z_bV_some, z_bI_some, z_bJ_some, z_bD_some, z_bR_some, cond_true, cond_false, Bool.and_true, Bool.true_and, Bool.not_false, Bool.not_true, Bool.and_self, Bool.or_true, Bool.false_or, Bool.true_or, nL_0, nL_1, nL_6, nL_13, zn_N, z_le_F, z_ix_T, z_ne_F, s1, g1, g2]
      · by_cases h3 : jS J i = 3
        · rw [pv_3 _ h3, cmb_n]
          rw [h3] at g1
          obtain ⟨l2', M', r1, r2, r3, r4⟩ := ih r a l2 (some (.int (zn i))) o6 M (by have := z_pos w hi; omega) (by omega) hJ s3 hf ha ht
          refine ⟨l2', M', ?_, r2, r3, r4⟩
          rw [← r1]
          simp (disch := omega) only [z_bV_some, z_bI_some, z_bJ_some, z_bD_some, z_bR_some, cond_true, cond_false, Bool.and_true, Bool.true_and, Bool.not_false, Bool.not_true, Bool.and_self, Bool.or_true, Bool.false_or, Bool.true_or, zn_ok, zn_ok0, zn_N, zn_add, zn_mul, zn_sub, z_lt_T, z_lt_F, z_le_T, z_le_F, z_eq_T, z_ne_F, z_eq_F, z_ne_T, z_ix_T, z_lt_m, z_le_m, z_lt_m2, z_le_m2, z_eq_m, z_ne_m, zn_div, z_a31, zn_shl, zn_shr, z_bq_T, z_bq_F, z_bl_T, nL_0, nL_1, nL_3, nL_6, s1, g1]
        · have hb := bs_R w
          rw [pv_p _ h6 h3]
          have eb : zD M 15 22 = bsF J := hJ.2.1
          have hx : (if jQ J i = 0 then 1 else 0) = 0 → zf_mul.1 (zD M 15 22) (zD M 32 i) = (if jQ J i = 0 then 0 else xF (bsF J) (jP J i) (jQ J i)) := by
            intro e
            by_cases g : jQ J i = 0
            · rw [if_pos g] at e; omega
            · rw [eb, g5, if_neg g, if_neg g]; rfl
          have hx0 : (if jQ J i = 0 then 1 else 0) = 1 → (if jQ J i = 0 then 0 else xF (bsF J) (jP J i) (jQ J i)) = 0 := by
            intro e
            by_cases g : jQ J i = 0
            · rw [if_pos g]
            · rw [if_neg g] at e; omega
          have hR : xR (if jQ J i = 0 then 0 else xF (bsF J) (jP J i) (jQ J i)) := by
            by_cases g : jQ J i = 0
            · rw [if_pos g]; exact Or.inl rfl
            · rw [if_neg g]; exact x_R hb w4 w5 (by omega)
          have hp := r_plain d M (by omega) g1 g4 (by split <;> omega) hx hx0 hR (by omega) h3
          have n6 : z_ne (zn (jS J i)) (zn 6) = true := z_ne_T h6 (by omega) (by omega)
          have n3 : z_eq (zn (jS J i)) (zn 3) = false := z_eq_F h3 (by omega) (by omega)
          have f1 := zbs_xq (bkF (jS J i)) M
          have hJ1 := rJ_fr hJ f1
          have s3' : sK J (zbs 39 (bkF (jS J i)) M) r := sK_fr s3 (fun k _ => zbs_I (by omega) _ _)
          have e35 : zI (zbs 39 (bkF (jS J i)) M) 15 35 = zI M 15 35 := zbs_I (by omega) _ _
          have e31 : zI (zbs 39 (bkF (jS J i)) M) 31 i = zn (if jQ J i = 0 then 1 else 0) := by rw [zbs_I (by omega)]; exact g4
          have ht1 := trR_bs ht (bkF (jS J i))
          have zp := z_pos w hi
          by_cases gq : jQ J i = 0
          · rw [if_pos gq]
            rw [if_pos gq] at hp e31
            have hf' : flR (zbs 39 (bkF (jS J i)) M) l2 (cmb a (none, bkF (jS J i))).1 := by
              show flR _ l2 (mxO a.1 none)
              rw [mxO_n]
              cases ha1 : a.1 with
              | none => rw [ha1] at hf; show zI _ 15 35 = zn 1; rw [e35]; exact hf
              | some x => rw [ha1] at hf; show zI _ 15 35 = zn 0 ∧ l2 = x; rw [e35]; exact hf
            obtain ⟨l2', M', r1, r2, r3, r4⟩ := ih r (cmb a (none, bkF (jS J i))) l2 (some (.int (zn i))) (some (.double (ptF (jS J i) 0))) (zbs 39 (bkF (jS J i)) M) (by omega) (by omega) hJ1 s3' hf' (by show oP (mxO a.1 none); rw [mxO_n]; exact ha) ht1
            refine ⟨l2', M', ?_, xq_tr f1 r2, r3, r4⟩
            rw [← r1]
            simp (disch := omega) only [z_bV_some, z_bI_some, z_bJ_some, z_bD_some, z_bR_some, cond_true, cond_false, Bool.and_true, Bool.true_and, Bool.not_false, Bool.not_true, Bool.and_self, Bool.or_true, Bool.false_or, Bool.true_or, zn_ok, zn_ok0, zn_N, zn_add, zn_mul, zn_sub, z_lt_T, z_lt_F, z_le_T, z_le_F, z_eq_T, z_ne_F, z_eq_F, z_ne_T, z_ix_T, z_lt_m, z_le_m, z_lt_m2, z_le_m2, z_eq_m, z_ne_m, zn_div, z_a31, zn_shl, zn_shr, z_bq_T, z_bq_F, z_bl_T, nL_0, nL_1, nL_3, nL_6, s1, g1, n6, n3, hp, e31]
          · rw [if_neg gq]
            rw [if_neg gq] at hp e31 hR
            have hv : nP (ptF (jS J i) (xF (bsF J) (jP J i) (jQ J i))) := pt_nP hR _
            generalize ptF (jS J i) (xF (bsF J) (jP J i) (jQ J i)) = v at hp hv ⊢
            have f2 : zFr 0 0 xq (zbs 39 (bkF (jS J i)) M) (z_wI (zbs 39 (bkF (jS J i)) M) 15 35 (zn 0)) := zFr_wI (X := xq) (Or.inr (Or.inr ⟨rfl, rfl⟩))
            have hJ2 := rJ_fr hJ1 f2
            have s4 : sK J (z_wI (zbs 39 (bkF (jS J i)) M) 15 35 (zn 0)) r := sK_fr s3' (fun k _ => zI_wI_a (by omega))
            have ht2 : trR M0 (cmb a (some v, bkF (jS J i))).2 (z_wI (zbs 39 (bkF (jS J i)) M) 15 35 (zn 0)) := trR_fr ht1 (fun j => zI_wI_a (by omega))
            have ho : oP (cmb a (some v, bkF (jS J i))).1 := oP_mx ha (fun x hx => by rw [← Option.some.inj hx]; exact hv)
            cases ha1 : a.1 with
            | none =>
              rw [ha1] at hf
              have e35' : zI (zbs 39 (bkF (jS J i)) M) 15 35 = zn 1 := by rw [e35]; exact hf
              obtain ⟨l2', M', r1, r2, r3, r4⟩ := ih r (cmb a (some v, bkF (jS J i))) v (some (.int (zn i))) (some (.double v)) _ (by omega) (by omega) hJ2 s4 (by show flR _ v (mxO a.1 (some v)); rw [ha1]; exact ⟨zI_wI_s .., rfl⟩) ho ht2
              refine ⟨l2', M', ?_, xq_tr f1 (xq_tr f2 r2), r3, r4⟩
              rw [← r1]
              simp (disch := omega) only [z_bV_some, z_bI_some, z_bJ_some, z_bD_some, z_bR_some, cond_true, cond_false, Bool.and_true, Bool.true_and, Bool.not_false, Bool.not_true, Bool.and_self, Bool.or_true, Bool.false_or, Bool.true_or, zn_ok, zn_ok0, zn_N, zn_add, zn_mul, zn_sub, z_lt_T, z_lt_F, z_le_T, z_le_F, z_eq_T, z_ne_F, z_eq_F, z_ne_T, z_ix_T, z_lt_m, z_le_m, z_lt_m2, z_le_m2, z_eq_m, z_ne_m, zn_div, z_a31, zn_shl, zn_shr, z_bq_T, z_bq_F, z_bl_T, nL_0, nL_1, nL_3, nL_6, s1, g1, n6, n3, hp, e31, e35']
            | some x =>
              rw [ha1] at hf
              obtain ⟨hf1, hf2⟩ := hf
              subst hf2
              have e35' : zI (zbs 39 (bkF (jS J i)) M) 15 35 = zn 0 := by rw [e35]; exact hf1
              have hl : nP l2 := ha l2 ha1
              by_cases gc : l2.toNat < v.toNat
              · obtain ⟨l2', M', r1, r2, r3, r4⟩ := ih r (cmb a (some v, bkF (jS J i))) v (some (.int (zn i))) (some (.double v)) _ (by omega) (by omega) hJ2 s4 (by show flR _ v (mxO a.1 (some v)); rw [ha1]; show flR _ v (some (if l2.toNat < v.toNat then v else l2)); rw [if_pos gc]; exact ⟨zI_wI_s .., rfl⟩) ho ht2
                refine ⟨l2', M', ?_, xq_tr f1 (xq_tr f2 r2), r3, r4⟩
                rw [← r1]
                have hc : z_le (zf_cmp.1 .l v l2) (zn 0) = false := by rw [← nL_0, zc_gt _ hv hl gc, z_le_10]
                simp (disch := omega) only [z_bV_some, z_bI_some, z_bJ_some, z_bD_some, z_bR_some, cond_true, cond_false, Bool.and_true, Bool.true_and, Bool.not_false, Bool.not_true, Bool.and_self, Bool.or_true, Bool.false_or, Bool.true_or, zn_ok, zn_ok0, zn_N, zn_add, zn_mul, zn_sub, z_lt_T, z_lt_F, z_le_T, z_le_F, z_eq_T, z_ne_F, z_eq_F, z_ne_T, z_ix_T, z_lt_m, z_le_m, z_lt_m2, z_le_m2, z_eq_m, z_ne_m, zn_div, z_a31, zn_shl, zn_shr, z_bq_T, z_bq_F, z_bl_T, nL_0, nL_1, nL_3, nL_6, s1, g1, n6, n3, hp, e31, e35', hc]
              · obtain ⟨l2', M', r1, r2, r3, r4⟩ := ih r (cmb a (some v, bkF (jS J i))) l2 (some (.int (zn i))) (some (.double v)) _ (by omega) (by omega) hJ2 s4 (by show flR _ l2 (mxO a.1 (some v)); rw [ha1]; show flR _ l2 (some (if l2.toNat < v.toNat then v else l2)); rw [if_neg gc]; exact ⟨zI_wI_s .., rfl⟩) ho ht2
                refine ⟨l2', M', ?_, xq_tr f1 (xq_tr f2 r2), r3, r4⟩
                rw [← r1]
                have hc : z_le (zf_cmp.1 .l v l2) (zn 0) = true := by
                  rcases Nat.lt_or_eq_of_le (Nat.le_of_not_lt gc) with k | k
                  · rw [← nL_0, zc_lt _ hv hl k, z_le_m0]
                  · have e : v = l2 := UInt64.toNat_inj.mp k
                    rw [← nL_0, e, zc_eq _ hl, z_le_00]
                simp (disch := omega) only [z_bV_some, z_bI_some, z_bJ_some, z_bD_some, z_bR_some, cond_true, cond_false, Bool.and_true, Bool.true_and, Bool.not_false, Bool.not_true, Bool.and_self, Bool.or_true, Bool.false_or, Bool.true_or, zn_ok, zn_ok0, zn_N, zn_add, zn_mul, zn_sub, z_lt_T, z_lt_F, z_le_T, z_le_F, z_eq_T, z_ne_F, z_eq_F, z_ne_T, z_ix_T, z_lt_m, z_le_m, z_lt_m2, z_le_m2, z_eq_m, z_ne_m, zn_div, z_a31, zn_shl, zn_shr, z_bq_T, z_bq_F, z_bl_T, nL_0, nL_1, nL_3, nL_6, s1, g1, n6, n3, hp, e31, e35', hc]
