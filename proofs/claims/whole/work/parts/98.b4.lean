/-! S LEVEL: play as a step. -/
theorem pl_pv {n cnt : Nat} {S : yR} (hn : n ≤ 60) : pv n cnt (plS S) [] := by
  have g8 : yG (plS S) 8 = 65535 := rfl
  refine ⟨⟨⟨hn, Nat.zero_le _, fun s hs => by cases hs⟩, fun t ht => ⟨Nat.zero_le _, fun _ => rfl⟩, fun c c1 c2 => ?_, 0, ?_, Nat.zero_le _⟩, ?_, Or.inl rfl, Or.inl ⟨rfl, ?_⟩⟩
  · rw [g8, bt_ff c c2, decide_eq_false (by omega)]
  · show (0 : Int32) = zn 0
    exact nL_0
  · show 0 ≤ (0 : Int32).toInt
    rw [toI_0]; omega
  · unfold evB evN
    have e : yG (plS S) 13 = 0 := rfl
    rw [e, toI_0, show Int32.toNatClampNeg (0 : Int32) = 0 by rw [nL_0]; exact zn_N (by omega)]
    exact ⟨Int.le_refl _, Nat.le_refl _⟩
theorem S_play (d : Nat) {W : zW} {al : Nat → Nat} {M : zM} (hC : SC W al M) (hR : SR W M) (hw : SW W) (x : Int32) : Step tvI W M (z_den zQ (d + 60) mP_play [.ref 1, .int x] M) (fun B => z_den zQ (d + 60) mQ_play [.ref 15, .int x] B) := by
  have h15 := hC.2.2.2.2.2.1
  rcases rOk_c hw.1 x with g | ⟨r, hr, rfl⟩
  · refine sim_st (v := (-1)) (st := -1) hC hR hw ?_ (fun B hB => ?_)
    · rw [B_P_play, E_P_rollAt_no _ hC.1 hw.1 g, z_bR_some, show Nat.beq 0 0 = true from rfl, cond_true, B_P_refuse, z_bI_some]
    · rw [B_Q_play, E_Q_isRoll_no _ hB.1 hw.1 g, z_bI_some, ne_00, cond_false, B_Q_no, z_bI_some]
  · obtain ⟨q, q0, hz⟩ := cG_ro hC.1 hw.1 hr
    have hr20 := hw.1.1
    have hok : rOk (wwG W) (zn r) := ⟨by rw [zn_toInt (by omega)]; omega, by rw [zn_toInt (by omega)]; omega⟩
    cases hp : wwB W
    · have hQ := hC.2.2.2.2.1
      have hn := z_new_ge M
      have h56 : 57 ≤ z_new zQ M := by
        obtain ⟨L, hL⟩ := hC.1.2.2.2.2.2.2.2.2
        exact z_hd_lt hL
      have hY := hQ.1.1
      obtain ⟨hl0, hiv, hg6⟩ := hw.2.2.2.2.2.1 (by rw [hp]; decide)
      have hn60 := hw.2.2.1.1
      have F1 := bgM_fr M (zP zQ M 2 r)
      have hY1 : cY (yG (plS (yqS (wwP W)))) [] (fun k => zI (bgM M (zP zQ M 2 r)) 11 k) := by
        refine ⟨fun j j1 j2 => ?_, ?_, fun k hk => absurd hk (Nat.not_lt_zero _)⟩
        · show zI (bgM M (zP zQ M 2 r)) 11 j = plG (yG (yqS (wwP W))) j
          rw [bgM_11]
          unfold plG
          rw [show (fun k => zI M 11 k) j = yG (yqS (wwP W)) j from hY.1 j j1 j2]
        · show zI (bgM M (zP zQ M 2 r)) 11 14 = zn 0
          rw [bgM_11]; exact nL_0
      have hP1 : cP (plS (yqS (wwP W))) [] (bgM M (zP zQ M 2 r)) := ⟨hY1, fun k => by rw [zFr_I F1 _ (by omega) (fun e => by omega)]; exact hQ.1.2.1 k, fun k => by rw [zFr_I F1 _ (by omega) (fun e => by omega)]; exact hQ.1.2.2 k⟩
      have hK1 := cKp_fr F1 hQ.2.1 (fun k => by omega)
      have e13 : zI (bgM M (zP zQ M 2 r)) 3 13 = zn 0 := by unfold bgM; rw [zI_wI_s]; exact nL_0
      obtain ⟨A', p1, p2, p3, p4, p5, p6⟩ := c_keep (d + 55) (n := jN (wwJ W)) (M := bgM M (zP zQ M 2 r)) (S := plS (yqS (wwP W))) (l := []) (hi := yqH (wwP W)) (K := yqK (wwP W)) (lo := 0) (go := 0) h56 (pl_pv (cnt := 0) (S := yqS (wwP W)) hn60).1.1 hY1 hK1 (fun t _ t2 => absurd t2 (Nat.not_lt_zero _)) nL_0 (Nat.zero_le _) (Nat.zero_le _) (Nat.le_refl _) e13
      have gK := keK_ge (yqK (wwP W)) 0
      have F2 : zFr (0 + (keK (yqK (wwP W)) 0 - yqK (wwP W))) (0 + 523 * (keK (yqK (wwP W)) 0 - yqK (wwP W))) (xcY M) M A' := zFr_trans (zFr_mono F1 (Nat.le_refl _) (Nat.le_refl _) (fun a k e => show xcY M a k by unfold xcY; omega)) p6 (fun a k ha e => by
        rcases e with e | e | ⟨e1, e2⟩
        · exact Or.inr (Or.inl (by omega))
        · exact Or.inl (by omega)
        · obtain ⟨⟨l, el, -⟩, -⟩ := F1
          rw [z_hd_app el ha] at e2
          exact Or.inr (Or.inr ⟨e1, e2⟩))
      rw [Nat.zero_add, Nat.zero_add] at F2
      have hxS : ∀ a k, z_hd zQ M a = some (8, 2) → ¬ xcY M a k := fun a k hd => xcY_S hd (by omega)
      have hn1 := z_new_ge (bgM M (zP zQ M 2 r))
      have k6 : ∀ k, k ≠ 13 → zI A' 3 k = zI (bgM M (zP zQ M 2 r)) 3 k := fun k hk => zFr_I p6 _ (by omega) (fun e => by unfold xcK at e; omega)
      have e15 : zI A' 3 15 = 1 := by rw [k6 _ (by omega)]; unfold bgM; rw [zI_wI_k (by omega), zI_wI_s]
      have e14 : zI A' 3 14 = zn (yqU (wwP W)) := by rw [k6 _ (by omega), zFr_I F1 _ (by omega) (fun e => by omega)]; exact hQ.2.2
      have e16 : zP zQ A' 3 16 = zP zQ A' 2 r := by
        rw [zFr_P p6 _ (by omega) (fun e => by unfold xcK at e; omega), zFr_P F2 _ (by omega) (fun e => by unfold xcY at e; omega)]
        have hz : zQp 3 16 = none := rfl
        unfold bgM
        rw [zP_wI, zP_wI, zP_wP hz, if_pos ⟨rfl, rfl⟩]
      have eq1 : zI A' (zP zQ M 2 r) 1 = zn (gZ (wwG W) r) := by rw [zFr_I F2 _ (z_hd_lt q.1) (hxS _ _ q.1)]; exact q.2.2
      have m0 : max 0 (0 - 500) = 0 := rfl
      rw [m0] at p3 p4
      have hgo : goN (plS (yqS (wwP W))) = 0 := go_z (S := plS (yqS (wwP W))) nL_0 (Nat.zero_le _)
      refine sim_T (v := (zn (gZ (wwG W) r))) (st := 0) (P' := (plS (yqS (wwP W)), [], upH (yqH (wwP W)) 0 (yG (plS (yqS (wwP W))), []), 0, keK (yqK (wwP W)) 0, yqU (wwP W))) (pl' := true) (r' := r) hC hR hw (A' := A') ?_ ⟨cP_fr p6 hP1 (fun a k e x => by unfold xcK at x; omega), p2, e14⟩ (by rw [e15, bI_T, nL_1]) (fun _ => ⟨⟨?_, p4⟩, e16⟩) gK.1 F2 (fun B hB => ?_) (fun _ => ⟨hr, ⟨pl_pv hn60, ?_, ?_, hw.2.2.2.2.2.2, ?_, ?_, fun t t1 t2 => ?_⟩⟩) (fun h => absurd rfl h) hw.2.2.2.2.2.2
      · have eb := bgM_eq (d + 58) M (zP zQ M 2 r)
        rw [B_P_play, E_P_ro _ hC.1 hw.1 hr, z_bR_some, z_bq_F q0, cond_false, h15, hp, bI_eq0, show (!false) = true from rfl, cond_true, eb, p1, z_bV_some, z_bV_some, z_cls_of (zFr_hd F2 q.1), show z_mem ((8, 2) : Nat × Nat).1 [8] = true from rfl, cond_true, eq1, B_P_done, z_bI_some]
      · show cHi _ 0 (goN (plS (yqS (wwP W))) + 1) _ _
        rw [hgo]; exact p3
      · have hYB := hB.2.2.2.2.1
        have hnB := z_new_ge B
        have f1 : zFr 0 0 (fun a k => a = 15 ∧ (k = 36 ∨ k = 37)) B (z_wI (z_wI B 15 36 1) 15 37 (zn r)) := x_tr (zFr_wI (X := fun a k => a = 15 ∧ (k = 36 ∨ k = 37)) ⟨rfl, Or.inl rfl⟩) (zFr_wI (X := fun a k => a = 15 ∧ (k = 36 ∨ k = 37)) ⟨rfl, Or.inr rfl⟩)
        have hn1 := z_new_ge (z_wI (z_wI B 15 36 1) 15 37 (zn r))
        obtain ⟨B1, s1, s2, s3⟩ := r_plY (d + 59) (l1 := zn r) (rY_cg hYB.1 (B' := z_wI (z_wI B 15 36 1) 15 37 (zn r)) (fun a k e => zFr_I f1 _ (by omega) (fun x => by omega)))
        have hn2 := z_new_ge B1
        have f2 : zFr 0 0 (fun a k => a = 15 ∧ (k = 62 ∨ k = 63)) B1 (z_wI (z_wI B1 15 63 0) 15 62 0) := x_tr (zFr_wI (X := fun a k => a = 15 ∧ (k = 62 ∨ k = 63)) ⟨rfl, Or.inr rfl⟩) (zFr_wI (X := fun a k => a = 15 ∧ (k = 62 ∨ k = 63)) ⟨rfl, Or.inl rfl⟩)
        have hn3 := z_new_ge (z_wI (z_wI B1 15 63 0) 15 62 0)
        obtain ⟨B2, t1, t2, t3, t4, t5, t6⟩ := r_lay (d + 58) (S := plS (yqS (wwP W))) (l := []) (B := z_wI (z_wI B1 15 63 0) 15 62 0) (hi := yqH (wwP W)) (lo := 0) (go := 0) (Nat.zero_le _) (rY_cg s2 (fun a k e => zFr_I f2 _ (by omega) (fun x => by omega))) (Or.inl rfl) (fun t _ h => absurd h (Nat.not_lt_zero _)) (fun t _ h => absurd h (Nat.not_lt_zero _)) (Nat.le_refl _) (by omega) (Nat.zero_le _) (by rw [zI_wI_s]; exact nL_0) (by rw [zI_wI_k (by omega), zI_wI_s]; exact nL_0)
        rw [m0] at t3 t5
        have kb : ∀ k, k = 36 ∨ k = 37 ∨ k = 60 → zI B2 15 k = zI (z_wI (z_wI B 15 36 1) 15 37 (zn r)) 15 k := fun k hk => by
          rw [zFr_I t6 _ (by omega) (fun e => by unfold xla at e; omega), zFr_I f2 _ (by omega) (fun e => by omega), zFr_I s3 _ (by omega) (fun e => by unfold xbe at e; omega)]
        have e16 : zI B2 16 r = zn (gZ (wwG W) r) := by
          rw [zFr_I t6 _ (by omega) (fun e => by unfold xla at e; omega), zFr_I f2 _ (by omega) (fun e => by omega), zFr_I s3 _ (by omega) (fun e => by unfold xbe at e; omega), zFr_I f1 _ (by omega) (fun e => by omega)]
          exact hB.1.2.2.2.1 r hr
        refine ⟨B2, ?_, ⟨t2, ?_⟩, ?_, fun _ => ⟨?_, ?_⟩, ?_⟩
        · rw [B_Q_play, E_Q_isRoll_ok _ hB.1 hw.1 hok, z_bI_some, ne_10, cond_true, hB.2.2.2.2.2.1, hp, bI_eq0, show (!false) = true from rfl, cond_true, s1, L_Q_play_148, show z_le (60 : Int32) (zn 60) = true by rw [nL_60]; exact z_le_T (Nat.le_refl _) (by omega), cond_true, t1, z_bV_some, z_ix_T (by omega) (by omega), cond_true, zn_N (by omega), e16, B_Q_well, z_bI_some]
        · rw [kb _ (by omega), zI_wI_k (by omega), zI_wI_k (by omega)]; exact hYB.2
        · rw [kb _ (by omega), zI_wI_k (by omega), zI_wI_s, bI_T, nL_1]
        · show rHi _ 0 (goN (plS (yqS (wwP W))) + 1) _ ∧ zI B2 15 62 = zn ((goN (plS (yqS (wwP W))) + 1) % 501) ∧ zI B2 15 63 = zn (goN (plS (yqS (wwP W))) + 1 - 0)
          rw [hgo]; exact ⟨t3, t4, t5⟩
        · rw [kb _ (by omega), zI_wI_s]
        · exact x_tr (x_tr (x_tr (zFr_mono f1 (Nat.le_refl _) (Nat.le_refl _) (fun a k e => by unfold xtY; omega)) (zFr_mono s3 (Nat.le_refl _) (Nat.le_refl _) (fun a k e => by unfold xbe at e; unfold xtY; omega))) (zFr_mono f2 (Nat.le_refl _) (Nat.le_refl _) (fun a k e => by unfold xtY; omega))) (zFr_mono t6 (Nat.le_refl _) (Nat.le_refl _) (fun a k e => by unfold xla at e; unfold xtY; omega))
      · show yG (plS (yqS (wwP W))) 3 = zn (goN (plS (yqS (wwP W))))
        rw [hgo]; exact nL_0
      · show goN (plS (yqS (wwP W))) ≤ _
        rw [hgo]; omega
      · show 0 ≤ goN (plS (yqS (wwP W)))
        omega
      · show goN (plS (yqS (wwP W))) ≤ 0 + 500
        rw [hgo]; omega
      · have t2 : t < goN (plS (yqS (wwP W))) + 1 := t2
        rw [hgo] at t2
        have t0 : t = 0 := by omega
        subst t0
        exact ⟨pv_g (pl_pv (S := yqS (wwP W)) hn60) rfl, nL_0⟩
    · refine sim_st (v := (-3)) (st := -3) hC hR hw ?_ (fun B hB => ?_)
      · rw [B_P_play, E_P_ro _ hC.1 hw.1 hr, z_bR_some, z_bq_F q0, cond_false, h15, hp, bI_eq0, show (!true) = false from rfl, cond_false, B_P_refuse, z_bI_some]
      · rw [B_Q_play, E_Q_isRoll_ok _ hB.1 hw.1 hok, z_bI_some, ne_10, cond_true, hB.2.2.2.2.2.1, hp, bI_eq0, show (!true) = false from rfl, cond_false, B_Q_no, z_bI_some]
