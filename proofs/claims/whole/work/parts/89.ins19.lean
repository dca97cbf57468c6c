/-! S LEVEL, acts: couple, the class. -/
noncomputable def oCpl (pl : Bool) (J : zJ) (x y : Int32) : Value × Int32 × zJ × List Nat := pif (iOk J x ∧ iOk J y ∧ twF J x.toNatClampNeg 40 y.toNatClampNeg = 0) (if pl = true then (.int (-3), -3, J, []) else if jS J x.toNatClampNeg = 6 then pif (jM J x.toNatClampNeg < 8 ∧ ∀ j, j < jN J → nzF J x.toNatClampNeg (jZ J y.toNatClampNeg) j ≤ 40) (.int (zn (jM J x.toNatClampNeg + 1)), 0, cpJ J x.toNatClampNeg y.toNatClampNeg, []) (.int (-2), -2, J, []) else (.int (-15), 5, J, [])) (.int (-1), -1, J, [])
theorem P_couple (d : Nat) {pl : Bool} {J : zJ} {A : zM} {x y : Int32} (w : wJ J) (h : cJ J A) (hp : zI A 3 15 = bI pl) : cResI 0 0 A (oCpl pl J x y) (z_den zQ (d + 44) mP_couple [.ref 1, .int x, .int y] A) := by
  unfold oCpl
  have w0 := w.1
  by_cases gx : iOk J x
  · obtain ⟨c, hc, hc2, rfl⟩ := iOk_ex gx
    have nz := cJ_nz h hc
    rw [B_P_couple, c_insAt _ w hc, z_bR_some]
    by_cases gy : iOk J y
    · obtain ⟨m, hm, hm2, rfl⟩ := iOk_ex gy
      have nz2 := cJ_nz h hm
      rw [zn_N hc2, zn_N hm2, c_insAt _ w hm, z_bR_some]
      obtain ⟨-, v2, v3, v4, v5, -⟩ := c_v (z := jZ J) w h hm
      have ht := c_tw J w (show c < 60 by omega) (z := jZ J) h 40 (d + 1) m 40 hm (w.2.2.2 m hm).2.2.2.2.2.2.1 (Nat.le_refl _) (Nat.le_refl _)
      have ht : z_den zQ (d + 43) (mtF (jS J m)) [.ref (zP zQ A 4 m), .int (zn c), .int (zn 40)] A = some (some (.int (zn (twF J c 40 m))), A) := by
        rw [show d + 43 = d + 1 + 2 + 40 by omega]; exact ht
      have htl := tw_le w c 40 m hm
      have hzm := (w.2.2.2 m hm).2.2.2.2.2.2.1
      have e0 : ∀ k : zR, (bif z_okU zQ A (zP zQ A 4 m) [(0, 138), (1, 138), (2, 163), (3, 138), (5, 138), (6, 138), (7, 138)] then k else none) = k := fun k => by rw [v4]; rfl
      rw [z_bq_F nz, z_bq_F nz2, cond_false, cond_false, e0, v5, nL_40, ht, z_bI_some, hp, bI_eq0]
      by_cases g0 : twF J c 40 m = 0
      · rw [pif_T ⟨gx, gy, g0⟩, g0, show z_le (zn 0) 0 = true by rw [nL_0]; exact z_le_T (by omega) (by omega), cond_true]
        cases pl
        · rw [if_neg (by decide), Bool.not_false, cond_true, (c_is6 w h hc).1, (c_is6 w h hc).2]
          by_cases h6 : jS J c = 6
          · rw [if_pos h6, decide_eq_true h6]
            have hcl : z_cls zQ A (zP zQ A 4 c) [2] = true := by rw [(c_is6 w h hc).1]; exact decide_eq_true h6
            obtain ⟨g1, -, -, -, -, -, g7⟩ := h.2.2.1 c hc
            have k1 := (g7 h6).1
            have w2 := (w.2.2.2 c hc).2.1
            have hccls := c_cls w h hm
            have g4 := (h.2.2.1 m hm).2.2.2.1
            have e10 : z_eq (1 : Int32) 0 = false := by rw [z_eq_eq]; decide
            rw [k1, g4]
            simp only [Bool.or_true, cond_true, cond_false, e10, hccls]
            by_cases h8 : jM J c < 8
            · rw [nL_8, z_le_F (by omega) (by omega), cond_false]
              have G := c_grow2 J w d (show c < 60 by omega) (m := jZ J m) (by omega) h (jN J) 0 none (by omega)
              have hg : z_den zQ (d + 42 + 1) mO_grow [.ref 3, .int (zn c), .int (zn (jZ J m))] A = z_denF zQ (d + 42 + 1) mO_grow (2, [some (.ref 3), some (.int (zn c)), some (.int (zn (jZ J m))), some (.int (zn 0)), none], [], A) := by rw [B_O_grow, nL_0]
              have hg' : z_den zQ (d + 43) mO_grow [.ref 3, .int (zn c), .int (zn (jZ J m))] A = z_denF zQ (d + 42 + 1) mO_grow (2, [some (.ref 3), some (.int (zn c)), some (.int (zn (jZ J m))), some (.int (zn 0)), none], [], A) := hg
              rw [hg']
              by_cases hz : ∀ j, j < jN J → nzF J c (jZ J m) j ≤ 40
              · rw [pif_T ⟨h8, hz⟩]
                obtain ⟨o, G1⟩ := G.1 (fun j _ hj => hz j hj)
                obtain ⟨A', q1, q2, q3⟩ := c_grow53 J w d (show c < 60 by omega) (m := jZ J m) (by omega) A (jN J) 0 o A (by omega) (fun _ => rfl) (by
                  have e : zkF J c (jZ J m) 0 = jZ J := by funext j; unfold zkF; rw [if_neg (by omega)]
                  rw [e]; exact h)
                have hn := new_56 A
                have x4 : ∀ k, ¬ xgI A 4 k := by
                  rintro k ⟨g, hg1, hg2⟩
                  rw [show z_hd zQ A 4 = some (16, 60) from rfl] at hg1
                  rw [← Option.some.inj hg1] at hg2
                  unfold tgI at hg2
                  simp at hg2
                have P4 : ∀ k, zP zQ A' 4 k = zP zQ A 4 k := fun k => zFr_P q3 k (by omega) (x4 k)
                have hcp := c_cp w hc hm h6 h8 q2
                obtain ⟨r1, -, -, -, -, -, r7⟩ := q2.2.2.1 c hc
                have r1 : z_hd zQ A' (zP zQ A' 4 c) = some (tgF (jS J c), if jS J c = 6 then 7 else 5) := r1
                rw [h6] at r1
                have R1 : zI A' (zP zQ A' 4 c) 6 = zn (jM J c) := (r7 h6).1
                have R2 : z_hd zQ A' (zP zQ A' (zP zQ A' 4 c) 5) = some (16, 8) := (r7 h6).2.1
                have hcl' : z_cls zQ A' (zP zQ A' 4 c) [2] = true := by rw [z_cls_of r1]; rfl
                obtain ⟨-, v2', v3', -⟩ := c_v w q2 hm
                have n16 := fun n (hh : z_hd zQ A' n = some (16, 8)) => (cJ_n16 q2 hc hh)
                have ρk : zP zQ A' (zP zQ A' 4 c) 5 ≠ 1 ∧ zP zQ A' (zP zQ A' 4 c) 5 ≠ 3 ∧ zP zQ A' (zP zQ A' 4 c) 5 ≠ 15 ∧ zP zQ A' (zP zQ A' 4 c) 5 ≠ 10 := by
                  refine ⟨?_, ?_, ?_, ?_⟩ <;> intro q <;> rw [q] at R2
                  · rw [show z_hd zQ A' 1 = some (10, 8) from rfl] at R2; exact absurd (congrArg Prod.fst (Option.some.inj R2)) (by decide)
                  · rw [show z_hd zQ A' 3 = some (4, 17) from rfl] at R2; exact absurd (congrArg Prod.fst (Option.some.inj R2)) (by decide)
                  · rw [show z_hd zQ A' 15 = some (11, 68) from rfl] at R2; exact absurd (congrArg Prod.fst (Option.some.inj R2)) (by decide)
                  · rw [show z_hd zQ A' 10 = some (14, 17) from rfl] at R2; exact absurd (congrArg Prod.fst (Option.some.inj R2)) (by decide)
                have fr := z_free_T (k := jM J c) ρk.1 ρk.2.1 ρk.2.2.1
                have nk := n16 _ R2
                have ea : z_den zQ (d + 43) mCoup_append [.ref (zP zQ A' 4 c), .ref (zP zQ A' 4 m)] A' = some (none, z_wI (z_wP A' (zP zQ A' (zP zQ A' 4 c) 5) (jM J c) (zP zQ A' 4 m)) (zP zQ A' 4 c) 6 (zn (jM J c + 1))) := by
                  rw [show d + 43 = d + 42 + 1 by omega, B_Coup_append, hcl', R1]
                  simp (disch := omega) only [z_bV_some, z_bI_some, z_bJ_some, z_bD_some, z_bR_some, cond_true, cond_false, Bool.and_true, Bool.true_and, Bool.not_false, Bool.not_true, Bool.and_self, Bool.or_true, Bool.false_or, Bool.true_or, zn_ok, zn_ok0, zn_N, zn_add, zn_mul, zn_sub, z_lt_T, z_lt_F, z_le_T, z_le_F, z_eq_T, z_ne_F, z_eq_F, z_ne_T, z_ix_T, z_lt_m, z_le_m, z_lt_m2, z_le_m2, z_eq_m, z_ne_m, zn_div, z_a31, zn_shl, zn_shr, z_bq_T, z_bq_F, z_bl_T, nL_1, nL_8, z_cls_wP, hcl', v2', fr, z_ia_of R2]
                rw [G1, q1, z_bI_some, z_ne_n0 (by omega) (by omega), cond_true, ← P4 c, ← P4 m, hcl', cond_true, ea]
                simp only [z_bV_some, z_bI_some, z_cls_wI, z_cls_wP, hcl', cond_true, zI_wI_s, B_P_done]
                refine ⟨_, rfl, cJ_st hcp 0, zI_wI_s .., fun j _ => ?_, ?_⟩
                · have n3 := cJ_n3 q2 hc
                  rw [zI_wI_a (by omega), zI_wI_a (Ne.symm n3.2.2), zI_wP, zFr_I q3 j (by omega) (by
                    rintro ⟨g, hg1, hg2⟩
                    rw [h_10] at hg1
                    rw [← Option.some.inj hg1] at hg2
                    unfold tgI at hg2
                    simp at hg2)]
                  rfl
                · have f1 : zFr 0 0 (xcI A) A A' := zFr_mono q3 (Nat.le_refl _) (Nat.le_refl _) (fun _ _ e => Or.inr (Or.inr (Or.inr (Or.inr e))))
                  have hd : ∀ a, z_hd zQ A' a = z_hd zQ A a := by
                    intro a
                    obtain ⟨l, l1, l2, -⟩ := q3.1
                    have : l = [] := List.length_eq_zero_iff.mp (by omega)
                    rw [this, List.append_nil] at l1
                    unfold z_hd
                    rw [l1]
                  have f2 : zFr 0 0 (xcI A) A' (z_wP A' (zP zQ A' (zP zQ A' 4 c) 5) (jM J c) (zP zQ A' 4 m)) := zFr_wP (X := xcI A) (Or.inr (Or.inr (Or.inr (Or.inr ⟨(16, 8), by rw [← hd]; exact R2, Or.inr (Or.inr (Or.inr (Or.inr rfl)))⟩))))
                  have t : ∀ {a k : Nat} {v : Int32} {M : zM}, xcI A a k → zFr 0 0 (xcI A) A M → zFr 0 0 (xcI A) A (z_wI M a k v) := fun hx f => zFr_trans f (zFr_wI hx) (fun _ _ _ e => e)
                  exact t (Or.inl ⟨rfl, rfl⟩) (t (Or.inr (Or.inr (Or.inr (Or.inr ⟨_, by rw [← hd]; exact r1, tg_I _⟩)))) (zFr_trans f1 f2 (fun _ _ _ e => e)))
              · rw [pif_F (fun q => hz q.2), G.2 (fun q => hz (fun j hj => q j (by omega) hj)), z_bI_some, nL_0, z_ne_F, cond_false, B_P_refuse, z_bI_some]
                exact cRI_st h _ _
            · rw [pif_F (fun q => h8 q.1), nL_8, z_le_T (by omega) (by omega), cond_true, B_P_refuse, z_bI_some]
              exact cRI_st h _ _
          · rw [if_neg h6, decide_eq_false h6]
            simp only [Bool.or_true, cond_true, cond_false, z_eq_T, B_P_found, z_bI_some]
            exact cRI_st h _ _
        · rw [if_pos rfl, Bool.not_true, cond_false, B_P_refuse, z_bI_some]
          exact cRI_st h _ _
      · rw [pif_F (fun q => g0 q.2.2), show z_le (zn (twF J c 40 m)) 0 = false by rw [nL_0]; exact z_le_F (by omega) (by omega), cond_false, B_P_refuse, z_bI_some]
        exact cRI_st h _ _
    · rw [pif_F (fun e => gy e.2.1), c_insAt_no _ w h gy, z_bR_some, z_bq_F nz, cond_false, show Nat.beq 0 0 = true from rfl, cond_true, B_P_refuse, z_bI_some]
      exact cRI_st h _ _
  · rw [pif_F (fun e => gx e.1), B_P_couple, c_insAt_no _ w h gx, z_bR_some]
    by_cases gy : iOk J y
    · obtain ⟨m, hm, hm2, rfl⟩ := iOk_ex gy
      rw [c_insAt _ w hm, z_bR_some, show Nat.beq 0 0 = true from rfl, cond_true, B_P_refuse, z_bI_some]
      exact cRI_st h _ _
    · rw [c_insAt_no _ w h gy, z_bR_some, show Nat.beq 0 0 = true from rfl, cond_true, B_P_refuse, z_bI_some]
      exact cRI_st h _ _
