/-! S LEVEL, acts: couple, the reference. -/
theorem fr_xrI {X : Nat → Nat → Prop} {B B' : zM} (f : zFr 0 0 X B B') (h : ∀ a k, X a k → a = 27 ∨ a = 28 ∨ a = 29 ∨ a = 42) : zFr 0 0 xrI B B' := zFr_mono f (Nat.le_refl _) (Nat.le_refl _) (fun a k e => by
  rcases h a k e with q | q | q | q
  · exact Or.inr (Or.inl ⟨by omega, by omega⟩)
  · exact Or.inr (Or.inl ⟨by omega, by omega⟩)
  · exact Or.inr (Or.inl ⟨by omega, by omega⟩)
  · exact Or.inr (Or.inr (Or.inr (Or.inr ⟨by omega, by omega⟩))))
theorem xrI_t {A B C : zM} (h : zFr 0 0 xrI A B) (h' : zFr 0 0 xrI B C) : zFr 0 0 xrI A C := zFr_trans h h' (fun _ _ _ e => e)
/-- an answer after rows 27, 28, 29, 42 were written -/
theorem rRI_w {J J' : zJ} {B B2 : zM} (x : Value) (v : Int32) (h : rJ J' B2) (f : zFr 0 0 xrI B B2) (e39 : ∀ j, zI B2 39 j = zI B 39 j) : rResI B (x, v, J', []) (some (some x, z_wI B2 15 0 v)) := by
  refine ⟨_, rfl, rJ_st h v, zI_wI_s .., fun j _ => by rw [zI_wI_a (by omega), e39]; rfl, xrI_t f (zFr_wI (X := xrI) (Or.inl ⟨rfl, Or.inl rfl⟩))⟩
theorem Q_couple (d : Nat) {pl : Bool} {J : zJ} {B : zM} {x y : Int32} (w : wJ J) (h : rJ J B) (hp : zI B 15 36 = bI pl) : rResI B (oCpl pl J x y) (z_den zQ (d + 3) mQ_couple [.ref 15, .int x, .int y] B) := by
  unfold oCpl
  have w0 := w.1
  rw [B_Q_couple]
  by_cases gx : iOk J x
  · rw [r_isI d w h gx, z_bI_some, z_eq_10, cond_false]
    obtain ⟨c, hc, hc2, rfl⟩ := iOk_ex gx
    by_cases gy : iOk J y
    · rw [r_isI d w h gy, z_bI_some, z_eq_10, cond_false]
      obtain ⟨m, hm, hm2, rfl⟩ := iOk_ex gy
      rw [zn_N hc2, zn_N hm2]
      obtain ⟨B1, a1, a2, a3⟩ := r_reach (d + 1) w h hc hm
      have hn := new_56 B
      have F1 : zFr 0 0 xrI B B1 := fr_xrI a3 (fun a k e => by omega)
      have E1 : ∀ j, zI B1 39 j = zI B 39 j := fun j => zFr_I a3 j (by omega) (by omega)
      have P1 : zI B1 15 36 = bI pl := by rw [zFr_I a3 36 (by omega) (by omega)]; exact hp
      rw [a1, z_bI_some, P1, bI_eq0]
      by_cases g0 : twF J c 40 m = 0
      · rw [pif_T ⟨gx, gy, g0⟩, if_pos g0, z_eq_00, cond_true]
        cases pl
        · rw [if_neg (by decide), Bool.not_false, cond_true]
          obtain ⟨g1, g2, -⟩ := a2.2.2.1 c hc
          have w1 := (w.2.2.2 c hc).1
          have w2 := (w.2.2.2 c hc).2.1
          by_cases h6 : jS J c = 6
          · rw [if_pos h6]
            rw [h6] at g1
            by_cases h8 : jM J c < 8
            · have hcp := rN_cp (m := m) w a2 hc h8
              generalize hW : z_wI (z_wI B1 28 (8 * c + jM J c) (zn m)) 27 c (zn (jM J c + 1)) = W at hcp
              have FW : zFr 0 0 xrI B1 W := by
                rw [← hW]
                exact xrI_t (zFr_wI (X := xrI) (Or.inr (Or.inl ⟨by omega, by omega⟩))) (zFr_wI (X := xrI) (Or.inr (Or.inl ⟨by omega, by omega⟩)))
              have EW : ∀ j, zI W 39 j = zI B1 39 j := fun j => by rw [← hW, zI_wI_a (by omega), zI_wI_a (by omega)]
              obtain ⟨fl, B2, b1, b2, b3, b4, b5, b6⟩ := r_reckon (d + 1) (vJ_cp w (c := c) hm h8) (rN_S hcp) (zE_cp w g0)
              have hnW := new_56 W
              have F2 : zFr 0 0 xrI W B2 := fr_xrI b6 (fun a k e => by omega)
              have E2 : ∀ j, zI B2 39 j = zI W 39 j := fun j => zFr_I b6 j (by omega) (by omega)
              have M2 : zI B2 27 c = zn (jM J c + 1) := by rw [zFr_I b6 c (by omega) (by omega), ← hW, zI_wI_s]
              have e0 : ∀ (K : Int32 → zM → zR), (bif z_ix (zn c) 60 then bif z_eq (zI B1 26 c) 6 then (bif z_ix (zn c) 60 then bif z_ne (zI B1 27 c) 8 then (bif z_ix (zn c) 60 then bif z_ix ((8 * zn c) + (zI B1 27 c)) 480 then bif z_ix (zn c) 60 then bif z_ix (zn c) 60 then z_bI (z_den zQ (d + 2) mQ_reckon [.ref 15] (z_wI (z_wI B1 28 (Int32.toNatClampNeg ((8 * zn c) + (zI B1 27 c))) (zn m)) 27 c ((zI B1 27 c) + 1))) K else none else none else none else none) else (z_bI (z_den zQ (d + 2) mQ_no [.ref 15, .int (-2)] B1) (fun x19 M20 => some (some (.int x19), M20))) else none) else (z_bI (z_den zQ (d + 2) mQ_finds [.ref 15, .int 5] B1) (fun x21 M22 => some (some (.int x21), M22))) else none) = K (zn fl) B2 := by
                intro K
                simp (disch := omega) only [z_bV_some, z_bI_some, z_bJ_some, z_bD_some, z_bR_some, cond_true, cond_false, Bool.and_true, Bool.true_and, Bool.not_false, Bool.not_true, Bool.and_self, Bool.or_true, Bool.false_or, Bool.true_or, zn_ok, zn_ok0, zn_N, zn_add, zn_mul, zn_sub, z_lt_T, z_lt_F, z_le_T, z_le_F, z_eq_T, z_ne_F, z_eq_F, z_ne_T, z_ix_T, z_lt_m, z_le_m, z_lt_m2, z_le_m2, z_eq_m, z_ne_m, zn_div, z_a31, zn_shl, zn_shr, z_bq_T, z_bq_F, z_bl_T, nL_1, nL_6, nL_8, g1, g2, hW, b1]
              rw [e0]
              by_cases hz : ∀ j, j < jN J → nzF J c (jZ J m) j ≤ 40
              · rw [pif_T ⟨h8, hz⟩]
                have hfl : fl = 1 := by
                  by_cases q : fl = 0
                  · obtain ⟨i, i1, i2⟩ := b4 q
                    have := hz i i1
                    omega
                  · omega
                subst hfl
                have hJ2 : rJ (cpJ J c m) B2 := rN_29 hcp b6 (fun i hi => by
                  rw [b5 i hi, jZ_cp J c m i hi]
                  have := hz i hi
                  rw [show min (nzF J c (jZ J m) i) 41 = nzF J c (jZ J m) i by omega])
                rw [z_ne_n0 (by omega) (by omega), cond_true]
                simp (disch := omega) only [z_bV_some, z_bI_some, z_bJ_some, z_bD_some, z_bR_some, cond_true, cond_false, Bool.and_true, Bool.true_and, Bool.not_false, Bool.not_true, Bool.and_self, Bool.or_true, Bool.false_or, Bool.true_or, zn_ok, zn_ok0, zn_N, zn_add, zn_mul, zn_sub, z_lt_T, z_lt_F, z_le_T, z_le_F, z_eq_T, z_ne_F, z_eq_F, z_ne_T, z_ix_T, z_lt_m, z_le_m, z_lt_m2, z_le_m2, z_eq_m, z_ne_m, zn_div, z_a31, zn_shl, zn_shr, z_bq_T, z_bq_F, z_bl_T, M2, B_Q_well]
                exact rRI_w (J := J) _ _ hJ2 (xrI_t (xrI_t F1 FW) F2) (fun j => by rw [E2, EW, E1])
              · rw [pif_F (fun q => hz q.2)]
                have hfl : fl = 0 := by
                  by_cases q : fl = 1
                  · exact absurd (fun j hj => b3 q j hj) hz
                  · omega
                subst hfl
                have hN3 : rN J (z_wI B2 27 c (zn (jM J c))) := by
                  have i1 : ∀ a k, a < 56 → a ≠ 29 → zI B2 a k = zI W a k := fun a k ha hx => zFr_I b6 k (by omega) hx
                  have d1 : ∀ a k, a < 56 → a ≠ 29 → zD B2 a k = zD W a k := fun a k ha hx => zFr_D b6 k (by omega) hx
                  obtain ⟨k1, k2, k3, k4⟩ := a2
                  refine ⟨by rw [zI_wI_a (by omega), i1 _ _ (by omega) (by omega), ← hW, zI_wI_a (by omega), zI_wI_a (by omega)]; exact k1, by rw [zD_wI, d1 _ _ (by omega) (by omega), ← hW, zD_wI, zD_wI]; exact k2, fun i hi => ?_, fun i a1 a2 => ?_⟩
                  · obtain ⟨u1, u2, u3, u4, u5, u6⟩ := k3 i hi
                    have wi := (w.2.2.2 i hi).2.1
                    refine ⟨by rw [zI_wI_a (by omega), i1 _ _ (by omega) (by omega), ← hW, zI_wI_a (by omega), zI_wI_a (by omega)]; exact u1, ?_, by rw [zI_wI_a (by omega), i1 _ _ (by omega) (by omega), ← hW, zI_wI_a (by omega), zI_wI_a (by omega)]; exact u4, by rw [zD_wI, d1 _ _ (by omega) (by omega), ← hW, zD_wI, zD_wI]; exact u5, fun k hk => ?_⟩
                    · by_cases e : i = c
                      · subst e; rw [zI_wI_s]
                      · rw [zI_wI_k e, i1 _ _ (by omega) (by omega), ← hW, zI_wI_k e, zI_wI_a (by omega)]; exact u2
                    · rw [zI_wI_a (by omega), i1 _ _ (by omega) (by omega), ← hW, zI_wI_a (by omega)]
                      have ne : 8 * i + k ≠ 8 * c + jM J c := by
                        intro q
                        by_cases e : i = c
                        · subst e; omega
                        · omega
                      rw [zI_wI_k ne]; exact u6 k hk
                  · rw [zI_wI_k (by omega), zI_wI_a (by omega), i1 _ _ (by omega) (by omega), i1 _ _ (by omega) (by omega), ← hW, zI_wI_k (by omega), zI_wI_a (by omega), zI_wI_a (by omega), zI_wI_a (by omega)]; exact k4 i a1 a2
                obtain ⟨fl3, B3, c1, c2, c3, c4, c5, c6⟩ := r_reckon (d + 1) (vJ_w w) (rN_S hN3) (zE_J w)
                have hJ3 : rJ J B3 := rN_29 hN3 c6 (fun i hi => by
                  rw [c5 i hi]
                  have := (w.2.2.2 i hi).2.2.2.2.2.2.1
                  rw [show min (jZ J i) 41 = jZ J i by omega])
                have F3 : zFr 0 0 xrI B2 (z_wI B2 27 c (zn (jM J c))) := zFr_wI (X := xrI) (Or.inr (Or.inl ⟨by omega, by omega⟩))
                have hn3 := new_56 (z_wI B2 27 c (zn (jM J c)))
                have F4 : zFr 0 0 xrI (z_wI B2 27 c (zn (jM J c))) B3 := fr_xrI c6 (fun a k e => by omega)
                have E3 : ∀ j, zI B3 39 j = zI B2 39 j := fun j => by rw [zFr_I c6 j (by omega) (by omega), zI_wI_a (by omega)]
                rw [show z_ne (zn 0) 0 = false by rw [nL_0]; exact z_ne_F _, cond_false]
                simp (disch := omega) only [z_bV_some, z_bI_some, z_bJ_some, z_bD_some, z_bR_some, cond_true, cond_false, Bool.and_true, Bool.true_and, Bool.not_false, Bool.not_true, Bool.and_self, Bool.or_true, Bool.false_or, Bool.true_or, zn_ok, zn_ok0, zn_N, zn_add, zn_mul, zn_sub, z_lt_T, z_lt_F, z_le_T, z_le_F, z_eq_T, z_ne_F, z_eq_F, z_ne_T, z_ix_T, z_lt_m, z_le_m, z_lt_m2, z_le_m2, z_eq_m, z_ne_m, zn_div, z_a31, zn_shl, zn_shr, z_bq_T, z_bq_F, z_bl_T, nL_1, M2, Nat.add_sub_cancel, c1, B_Q_no]
                exact rRI_w (J := J) _ _ hJ3 (xrI_t (xrI_t (xrI_t (xrI_t F1 FW) F2) F3) F4) (fun j => by rw [E3, E2, EW, E1])
            · have e8 : jM J c = 8 := by omega
              rw [pif_F (fun q => h8 q.1)]
              rw [e8] at g2
              simp (disch := omega) only [z_bV_some, z_bI_some, z_bJ_some, z_bD_some, z_bR_some, cond_true, cond_false, Bool.and_true, Bool.true_and, Bool.not_false, Bool.not_true, Bool.and_self, Bool.or_true, Bool.false_or, Bool.true_or, zn_ok, zn_ok0, zn_N, zn_add, zn_mul, zn_sub, z_lt_T, z_lt_F, z_le_T, z_le_F, z_eq_T, z_ne_F, z_eq_F, z_ne_T, z_ix_T, z_lt_m, z_le_m, z_lt_m2, z_le_m2, z_eq_m, z_ne_m, zn_div, z_a31, zn_shl, zn_shr, z_bq_T, z_bq_F, z_bl_T, nL_6, nL_8, g1, g2, B_Q_no]
              exact rRI_w (J := J) _ _ a2 F1 E1
          · rw [if_neg h6]
            simp (disch := omega) only [z_bV_some, z_bI_some, z_bJ_some, z_bD_some, z_bR_some, cond_true, cond_false, Bool.and_true, Bool.true_and, Bool.not_false, Bool.not_true, Bool.and_self, Bool.or_true, Bool.false_or, Bool.true_or, zn_ok, zn_ok0, zn_N, zn_add, zn_mul, zn_sub, z_lt_T, z_lt_F, z_le_T, z_le_F, z_eq_T, z_ne_F, z_eq_F, z_ne_T, z_ix_T, z_lt_m, z_le_m, z_lt_m2, z_le_m2, z_eq_m, z_ne_m, zn_div, z_a31, zn_shl, zn_shr, z_bq_T, z_bq_F, z_bl_T, nL_6, g1, B_Q_finds]
            exact rRI_w (J := J) _ _ a2 F1 E1
        · rw [if_pos rfl, Bool.not_true, cond_false, B_Q_no, z_bI_some]
          exact rRI_w (J := J) _ _ a2 F1 E1
      · rw [pif_F (fun q => g0 q.2.2), if_neg g0, z_eq_10, cond_false, B_Q_no, z_bI_some]
        exact rRI_w (J := J) _ _ a2 F1 E1
    · rw [pif_F (fun e => gy e.2.1), r_isI_no d w h gy, z_bI_some, z_eq_00, cond_true, B_Q_no, z_bI_some]
      exact rRI_st h _ _
  · rw [pif_F (fun e => gx e.1), r_isI_no d w h gx, z_bI_some, z_eq_00, cond_true, B_Q_no, z_bI_some]
    exact rRI_st h _ _
