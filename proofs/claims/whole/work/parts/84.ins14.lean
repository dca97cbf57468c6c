/-! S LEVEL, acts: instrument. -/
def adI (J : zJ) (s : Nat) : zJ := (J.1 + 1, (fun j => if j = J.1 then s else J.2.1 j), (fun j => if j = J.1 then 0 else J.2.2.1 j), J.2.2.2.1, (fun j => if j = J.1 then 1 else J.2.2.2.2.1 j), (fun j => if j = J.1 then 1 else J.2.2.2.2.2.1 j), (fun j => if j = J.1 then 1 else J.2.2.2.2.2.2.1 j), J.2.2.2.2.2.2.2)
theorem jN_ad (J : zJ) (s : Nat) : jN (adI J s) = jN J + 1 := rfl
theorem jS_ad (J : zJ) (s j : Nat) : jS (adI J s) j = if j = jN J then s else jS J j := rfl
theorem jM_ad (J : zJ) (s j : Nat) : jM (adI J s) j = if j = jN J then 0 else jM J j := rfl
theorem jB_ad (J : zJ) (s : Nat) : jB (adI J s) = jB J := rfl
theorem jP_ad (J : zJ) (s j : Nat) : jP (adI J s) j = if j = jN J then 1 else jP J j := rfl
theorem jQ_ad (J : zJ) (s j : Nat) : jQ (adI J s) j = if j = jN J then 1 else jQ J j := rfl
theorem jZ_ad (J : zJ) (s j : Nat) : jZ (adI J s) j = if j = jN J then 1 else jZ J j := rfl
theorem jE_ad (J : zJ) (s : Nat) : jE (adI J s) = jE J := rfl
theorem w_ad {J : zJ} (w : wJ J) {s : Nat} (hs : s ≤ 6) (hn : jN J < 60) : wJ (adI J s) := by
  refine ⟨by rw [jN_ad]; omega, w.2.1, w.2.2.1, fun i hi => ?_⟩
  rw [jN_ad] at hi
  rw [jS_ad, jM_ad, jP_ad, jQ_ad, jZ_ad, jB_ad, jN_ad]
  by_cases e : i = jN J
  · simp only [if_pos e]
    exact ⟨hs, by omega, fun _ => trivial, by omega, by omega, rfl, by omega, fun k hk => by omega⟩
  · simp only [if_neg e]
    have hi' : i < jN J := by omega
    obtain ⟨w1, w2, w3, w4, w5, w6, w7, w8⟩ := w.2.2.2 i hi'
    refine ⟨w1, w2, w3, w4, w5, ?_, w7, fun k hk => by have := w8 k hk; omega⟩
    rw [w6, ms_cg (J := J) (J' := adI J s) (jM J i) 0 (fun u _ _ => rfl), smZ_cg (J := J) (J' := adI J s) _ (fun j hj => by
      have := (ms_z w hi' hj).1
      rw [jZ_ad, if_neg (by omega)])]
theorem c_ad {J : zJ} {A A2 : zM} {a s : Nat} (w : wJ J) (h0 : cJ J A) (h : cJ J A2) (hn : jN J < 60) (ho : nwO A2 a (jN J) s) (hs : s ≤ 6) (ha : z_new zQ A ≤ a) (hold : ∀ i, i < jN J → jS J i = 6 → zP zQ A2 (zP zQ A2 4 i) 5 < z_new zQ A) : cJ (adI J s) (z_wI (z_wP A2 4 (jN J) a) 3 10 (zn (jN J + 1))) := by
  have n3 := fun i hi => cJ_n3 h (i := i) hi
  have n4 := fun i hi => cJ_n16 h (i := i) hi (show z_hd zQ A2 4 = some (16, 60) from rfl)
  obtain ⟨h1, h2, h3, h4, h5⟩ := h
  have hA := new_56 A
  have p4 : ∀ k, k ≠ jN J → zP zQ (z_wI (z_wP A2 4 (jN J) a) 3 10 (zn (jN J + 1))) 4 k = zP zQ A2 4 k := fun k hk => by rw [zP_wI, zP_wP_k hk]
  have p4s : zP zQ (z_wI (z_wP A2 4 (jN J) a) 3 10 (zn (jN J + 1))) 4 (jN J) = a := by rw [zP_wI, zP_wP_s (by omega) (by omega) (by omega)]
  have po : ∀ c k, c ≠ 4 → zP zQ (z_wI (z_wP A2 4 (jN J) a) 3 10 (zn (jN J + 1))) c k = zP zQ A2 c k := fun c k hc => by rw [zP_wI, zP_wP_a hc]
  have io : ∀ c k, c ≠ 3 → zI (z_wI (z_wP A2 4 (jN J) a) 3 10 (zn (jN J + 1))) c k = zI A2 c k := fun c k hc => by rw [zI_wI_a hc, zI_wP]
  obtain ⟨o1, o2, o3, o4, o5, o6, o7⟩ := ho
  refine ⟨by rw [zI_wI_s, jN_ad], by rw [zI_wI_k (by omega), zI_wP]; exact h2, fun i hi => ?_, fun i a1 a2 => ?_, fun i j a1 a2 a3 a4 a5 => ?_⟩
  · rw [jN_ad] at hi
    by_cases e : i = jN J
    · subst e
      rw [p4s]
      unfold cJ1
      rw [jS_ad, jM_ad, jP_ad, jQ_ad, jZ_ad]
      simp only [if_true]
      refine ⟨o1, by rw [io a 0 (by omega)]; exact o2, by rw [io a 1 (by omega)]; exact o3, by rw [io a 2 (by omega)]; exact o4, by rw [io a 3 (by omega)]; exact o5, by rw [io a 4 (by omega)]; exact o6, fun e => ?_⟩
      obtain ⟨k1, k2, k3⟩ := o7 e
      rw [po a 5 (by omega)]
      exact ⟨by rw [io a 6 (by omega)]; exact k1, k2, fun k hk => absurd hk (Nat.not_lt_zero _)⟩
    · have hi' : i < jN J := by omega
      rw [p4 i e]
      unfold cJ1
      rw [jS_ad, jM_ad, jP_ad, jQ_ad, jZ_ad, if_neg e, if_neg e, if_neg e, if_neg e, if_neg e]
      obtain ⟨g1, g2, g3, g4, g5, g6, g7⟩ := h3 i hi'
      have hne := (n3 i hi').1
      refine ⟨g1, by rw [io _ 0 hne]; exact g2, by rw [io _ 1 hne]; exact g3, by rw [io _ 2 hne]; exact g4, by rw [io _ 3 hne]; exact g5, by rw [io _ 4 hne]; exact g6, fun e6 => ?_⟩
      obtain ⟨k1, k2, k3⟩ := g7 e6
      have c4 : zP zQ A2 (zP zQ A2 4 i) 5 ≠ 4 := by
        intro q
        rw [q, show z_hd zQ A2 4 = some (16, 60) from rfl] at k2
        have := congrArg Prod.snd (Option.some.inj k2)
        exact absurd this (by decide)
      rw [po _ 5 (n4 i hi')]
      refine ⟨by rw [io _ 6 hne]; exact k1, k2, fun k hk => ?_⟩
      rw [po _ k c4, k3 k hk, jB_ad, p4]
      have := ms_lt w hi' hk
      omega
  · rw [jN_ad] at a1
    rw [p4 i (by omega)]; exact h4 i (by omega) a2
  · rw [jN_ad] at a1 a2
    rw [jS_ad] at a3 a4
    by_cases e : i = jN J
    · have e' : j ≠ jN J := by omega
      rw [if_pos e] at a3
      rw [if_neg e'] at a4
      have hj : j < jN J := by omega
      subst e
      rw [p4s, p4 j e', po a 5 (by omega), po _ 5 (n4 j hj)]
      have := (o7 a3).2.2
      have := hold j hj a4
      omega
    · rw [if_neg e] at a3
      have hi' : i < jN J := by omega
      by_cases e' : j = jN J
      · rw [if_pos e'] at a4
        subst e'
        rw [p4s, p4 i e, po a 5 (by omega), po _ 5 (n4 i hi')]
        have := (o7 a4).2.2
        have := hold i hi' a3
        omega
      · rw [if_neg e'] at a4
        have hj : j < jN J := by omega
        rw [p4 i e, p4 j e', po _ 5 (n4 i hi'), po _ 5 (n4 j hj)]
        exact h5 i j hi' hj a3 a4 a5
noncomputable def oIns (pl : Bool) (J : zJ) (x : Int32) : Value × Int32 × zJ × List Nat := pif (0 ≤ x.toInt ∧ x.toInt ≤ 6) (if pl = true then (.int (-3), -3, J, []) else if jN J < 60 then (.int (zn (jN J)), 0, adI J x.toNatClampNeg, []) else (.int (-2), -2, J, [])) (.int (-1), -1, J, [])
theorem P_instrument (d : Nat) {pl : Bool} {J : zJ} {A : zM} {x : Int32} (w : wJ J) (h : cJ J A) (hp : zI A 3 15 = bI pl) : cResI 2 15 A (oIns pl J x) (z_den zQ (d + 7) mP_instrument [.ref 1, .int x] A) := by
  unfold oIns
  rw [B_P_instrument, hp, bI_eq0]
  by_cases g : 0 ≤ x.toInt ∧ x.toInt ≤ 6
  · rw [pif_T g]
    obtain ⟨s, hs, rfl⟩ := zn_ex g.1
    rw [zn_toInt hs] at g
    rw [zn_N hs, nL_0, z_lt_F (by omega) (by omega), show (6 : Int32) = zn 6 from nL_6, z_le_T (by omega) (by omega), cond_false, cond_true, ← nL_0]
    cases pl
    · rw [if_neg (by decide), h.1]
      simp only [Bool.not_false, cond_true]
      have w0 := w.1
      by_cases hn : jN J < 60
      · rw [if_pos hn]
        obtain ⟨A2, m1, m2, m3⟩ := c_made d A (n := jN J) (s := s) (by omega)
        have hA2 : cJ J A2 := cJ_fr m2 h (fun q => q) (fun q => q) (fun _ q => q) (fun _ _ _ _ _ q => q)
        have hold : ∀ i, i < jN J → jS J i = 6 → zP zQ A2 (zP zQ A2 4 i) 5 < z_new zQ A := by
          intro i hi h6
          have hn := new_56 A
          rw [zFr_P m2 i (by omega) (fun q => q), zFr_P m2 5 (z_hd_lt (h.2.2.1 i hi).1) (fun q => q)]
          exact z_hd_lt ((h.2.2.1 i hi).2.2.2.2.2.2 h6).2.1
        have hc := c_ad w h hA2 hn m3 (by omega) (Nat.le_refl _) hold
        have hN2 := hA2.1
        have hcl : z_cls zQ A2 (z_new zQ A) [0, 1, 2, 3, 5, 6, 7] = true := by
          rw [z_cls_of m3.1]
          have : s = 0 ∨ s = 1 ∨ s = 2 ∨ s = 3 ∨ s = 4 ∨ s = 5 ∨ s = 6 := by omega
          rcases this with e | e | e | e | e | e | e <;> rw [e] <;> rfl
        have ea : z_den zQ (d + 6) mO_addInstrument [.ref 3, .int (zn s)] A = some (some (.int (zn (jN J))), z_wI (z_wP A2 4 (jN J) (z_new zQ A)) 3 10 (zn (jN J + 1))) := by
          rw [B_O_addInstrument, h.1, m1]
          simp (disch := omega) only [z_bV_some, z_bI_some, z_bJ_some, z_bD_some, z_bR_some, cond_true, cond_false, Bool.and_true, Bool.true_and, Bool.not_false, Bool.not_true, Bool.and_self, Bool.or_true, Bool.false_or, Bool.true_or, zn_ok, zn_ok0, zn_N, zn_add, zn_mul, zn_sub, z_lt_T, z_lt_F, z_le_T, z_le_F, z_eq_T, z_ne_F, z_eq_F, z_ne_T, z_ix_T, z_lt_m, z_le_m, z_lt_m2, z_le_m2, z_eq_m, z_ne_m, zn_div, z_a31, zn_shl, zn_shr, z_bq_T, z_bq_F, z_bl_T, nL_0, nL_1, nL_60, hcl, hN2]
        rw [ea]
        simp (disch := omega) only [z_bV_some, z_bI_some, z_bJ_some, z_bD_some, z_bR_some, cond_true, cond_false, Bool.and_true, Bool.true_and, Bool.not_false, Bool.not_true, Bool.and_self, Bool.or_true, Bool.false_or, Bool.true_or, zn_ok, zn_ok0, zn_N, zn_add, zn_mul, zn_sub, z_lt_T, z_lt_F, z_le_T, z_le_F, z_eq_T, z_ne_F, z_eq_F, z_ne_T, z_ix_T, z_lt_m, z_le_m, z_lt_m2, z_le_m2, z_eq_m, z_ne_m, zn_div, z_a31, zn_shl, zn_shr, z_bq_T, z_bq_F, z_bl_T, nL_60, B_P_done]
        refine ⟨_, rfl, cJ_st hc 0, zI_wI_s .., fun j _ => ?_, ?_⟩
        · have hn := new_56 A
          rw [zI_wI_a (by omega), zI_wI_a (by omega), zI_wP, zFr_I m2 j (by omega) (fun q => q)]; rfl
        · have f1 : zFr 2 15 (xcI A) A A2 := zFr_mono m2 (Nat.le_refl _) (Nat.le_refl _) (fun _ _ q => q.elim)
          have f2 : zFr 0 0 (xcI A) A2 (z_wP A2 4 (jN J) (z_new zQ A)) := zFr_wP (X := xcI A) (Or.inr (Or.inr (Or.inr (Or.inl rfl))))
          have f3 : zFr 0 0 (xcI A) (z_wP A2 4 (jN J) (z_new zQ A)) (z_wI (z_wP A2 4 (jN J) (z_new zQ A)) 3 10 (zn (jN J + 1))) := zFr_wI (X := xcI A) (Or.inr (Or.inr (Or.inl ⟨rfl, Or.inl rfl⟩)))
          have f4 : zFr 0 0 (xcI A) (z_wI (z_wP A2 4 (jN J) (z_new zQ A)) 3 10 (zn (jN J + 1))) (z_wI (z_wI (z_wP A2 4 (jN J) (z_new zQ A)) 3 10 (zn (jN J + 1))) 1 7 0) := zFr_wI (X := xcI A) (Or.inl ⟨rfl, rfl⟩)
          exact zFr_trans (zFr_trans (zFr_trans f1 f2 (fun _ _ _ e => e)) f3 (fun _ _ _ e => e)) f4 (fun _ _ _ e => e)
      · rw [if_neg hn]
        simp (disch := omega) only [z_bV_some, z_bI_some, z_bJ_some, z_bD_some, z_bR_some, cond_true, cond_false, Bool.and_true, Bool.true_and, Bool.not_false, Bool.not_true, Bool.and_self, Bool.or_true, Bool.false_or, Bool.true_or, zn_ok, zn_ok0, zn_N, zn_add, zn_mul, zn_sub, z_lt_T, z_lt_F, z_le_T, z_le_F, z_eq_T, z_ne_F, z_eq_F, z_ne_T, z_ix_T, z_lt_m, z_le_m, z_lt_m2, z_le_m2, z_eq_m, z_ne_m, zn_div, z_a31, zn_shl, zn_shr, z_bq_T, z_bq_F, z_bl_T, nL_60, B_P_refuse]
        exact cRI_st h _ _
    · rw [if_pos rfl]
      simp only [Bool.not_true, cond_false, B_P_refuse, z_bI_some]
      exact cRI_st h _ _
  · rw [pif_F g]
    rcases zn_cases x with hk | ⟨s, hs, rfl⟩
    · rw [lt_0T hk, cond_true, B_P_refuse, z_bI_some]
      exact cRI_st h _ _
    · rw [zn_toInt hs] at g
      rw [nL_0, z_lt_F (by omega) (by omega), show (6 : Int32) = zn 6 from nL_6, z_le_F (by omega) (by omega), cond_false, cond_false, B_P_refuse, z_bI_some]
      exact cRI_st h _ _
