/-! S LEVEL: halt, back as steps. -/
theorem S_halt (d : Nat) {W : zW} {al : Nat → Nat} {M : zM} (hC : SC W al M) (hR : SR W M) (hw : SW W) : Step tvI W M (z_den zQ (d + 60) mP_halt [.ref 1] M) (fun B => z_den zQ (d + 60) mQ_halt [.ref 15] B) := by
  have h15 := hC.2.2.2.2.2.1
  cases hp : wwB W
  · refine sim_st (v := (-4)) (st := 0) hC hR hw ?_ (fun B hB => ?_)
    · rw [B_P_halt, h15, hp, bI_ne0, cond_false, B_P_nothingThere, z_bI_some]
    · rw [B_Q_halt, hB.2.2.2.2.2.1, hp, bI_ne0, cond_false, B_Q_well, z_bI_some]
  · obtain ⟨hr, hwq⟩ := hw.2.2.2.2.1 hp
    have hz : gZ (wwG W) (wwR W) ≤ 400 := by have := wG_z hw.1 hr; have := hw.1.2.1; omega
    have hv := hwq.1
    obtain ⟨b, he, hb⟩ := pv_b hv hz
    have hQ := hC.2.2.2.2.1
    have hA := cP_eq hQ.1
    have hn := z_new_ge M
    have z14 : z_ix (14 : Int32) 523 = true := ix_L nL_14 (by omega) (by omega)
    have n14 : Int32.toNatClampNeg (14 : Int32) = 14 := by rw [nL_14]; exact zn_N (by omega)
    have e14 : zI M 11 14 = zn (yqL (wwP W)).length := hQ.1.1.2.1
    obtain ⟨f1, p1, p2⟩ := c_sil (d + 55) (A := M) hv.1.1 hQ.1.1 he (by omega)
    rw [← hA] at p1
    have F : zFr 0 0 (fun a k => a = 10 ∨ a = 11 ∨ a = 13 ∨ (a = 3 ∧ k = 15)) M (z_wI (yC M f1 (siF (yqS (wwP W)) (yqL (wwP W)))) 3 15 0) := x_tr (zFr_mono (yC_fr M f1 _) (Nat.le_refl _) (Nat.le_refl _) (fun a k e => by omega)) (zFr_wI (X := fun a k => a = 10 ∨ a = 11 ∨ a = 13 ∨ (a = 3 ∧ k = 15)) (by omega))
    refine sim_T (v := (zn (yqL (wwP W)).length)) (st := 0) (P' := (siF (yqS (wwP W)) (yqL (wwP W)), [], yqH (wwP W), yqO (wwP W), yqK (wwP W), yqU (wwP W))) (pl' := false) (r' := wwR W) hC hR hw (A' := z_wI (yC M f1 (siF (yqS (wwP W)) (yqL (wwP W)))) 3 15 0) ?_ ⟨?_, ?_, ?_⟩ (by rw [zI_wI_s, bI_F, nL_0]) (fun h => by cases h) (Nat.le_refl _) ?_ (fun B hB => ?_) (fun h => by cases h) (fun _ => ⟨rfl, iv_si hv.1, ?_⟩) hw.2.2.2.2.2.2
    · rw [B_P_halt, h15, hp, bI_ne0, cond_true, z14, cond_true, p1, z_bV_some, n14, e14, B_P_done, z_bI_some]
      rfl
    · exact cP_fr (zFr_wI (X := fun a k => a = 3 ∧ k = 15) ⟨rfl, rfl⟩) (cP_of M p2) (fun a k e q => by omega)
    · exact cKp_fr F hQ.2.1 (fun k => by omega)
    · rw [zFr_I F _ (by omega) (fun e => by omega)]; exact hQ.2.2
    · show zFr (yqK (wwP W) - yqK (wwP W)) (523 * (yqK (wwP W) - yqK (wwP W))) _ _ _
      rw [Nat.sub_self]
      exact zFr_mono F (Nat.le_refl _) (Nat.le_refl _) (fun a k e => by unfold xcY; omega)
    · have hY := hB.2.2.2.2.1
      have hnB := z_new_ge B
      obtain ⟨B', q1, q2, q3⟩ := r_sil (d + 56) hv.1.1 hY.1 he (by omega)
      have e52 : zI B 15 52 = zn (yqL (wwP W)).length := hY.1.2.1.1
      have f36 : zFr 0 0 (fun a k => a = 15 ∧ k = 36) B' (z_wI B' 15 36 0) := zFr_wI (X := fun a k => a = 15 ∧ k = 36) ⟨rfl, rfl⟩
      refine ⟨z_wI B' 15 36 0, ?_, ⟨rY_cg q2 (fun a k e => by rw [zFr_I f36 _ (Nat.lt_of_lt_of_le (by omega) (z_new_ge B')) (fun x => by omega)]), ?_⟩, by rw [zI_wI_s, bI_F, nL_0], (fun h => by cases h), ?_⟩
      · rw [B_Q_halt, hB.2.2.2.2.2.1, hp, bI_ne0, cond_true, q1, z_bV_some, e52, B_Q_well, z_bI_some]
      · rw [zI_wI_k (by omega), zFr_I q3 _ (by omega) (fun e => by have := xel_no (xel_ea e); omega)]; exact hY.2
      · exact x_tr (zFr_mono q3 (Nat.le_refl _) (Nat.le_refl _) (fun a k e => by have := xel_no (xel_ea e); unfold xtY; omega)) (zFr_wI (X := xtY) (by unfold xtY; omega))
    · show yG (siF _ _) 6 = 0 ∨ yG (siF _ _) 6 = 1
      rw [si_G hv.1.1 (by omega) (by omega) (by omega)]; exact hv.2.2.1
theorem S_back (d : Nat) {W : zW} {al : Nat → Nat} {M : zM} (hC : SC W al M) (hR : SR W M) (hw : SW W) (x : Int32) : Step tvI W M (z_den zQ (d + 60) mP_back [.ref 1, .int x] M) (fun B => z_den zQ (d + 60) mQ_back [.ref 15, .int x] B) := by
  have h15 := hC.2.2.2.2.2.1
  by_cases gx : 0 ≤ x.toInt ∧ x.toInt ≤ 500
  · obtain ⟨m, hm, rfl⟩ := zn_ex gx.1
    rw [zn_toInt hm] at gx
    have e1 : z_lt (zn m) (0 : Int32) = false := by rw [nL_0]; exact z_lt_F (by omega) (by omega)
    have e2 : z_le (zn m) (500 : Int32) = true := by rw [nL_500]; exact z_le_T (by omega) (by omega)
    have e3 : ∀ B, z_den zQ (d + 59) mQ_within [.int (zn m), .int 0, .int 500] B = some (some (.int (zn 1)), B) := fun B => Q_wiT (by rw [toI_0, show (500 : Int32).toInt = 500 from rfl, zn_toInt hm]; omega)
    cases hp : wwB W
    · refine sim_st (v := (-4)) (st := 0) hC hR hw ?_ (fun B hB => ?_)
      · rw [B_P_back, e1, cond_false, e2, cond_true, h15, hp, bI_eq0, show (!false) = true from rfl, cond_true, B_P_nothingThere, z_bI_some]
      · rw [B_Q_back, e3, z_bI_some, ne_10, cond_true, hB.2.2.2.2.2.1, hp, bI_eq0, show (!false) = true from rfl, cond_true, B_Q_well, z_bI_some]
    · obtain ⟨hr, hwq⟩ := hw.2.2.2.2.1 hp
      obtain ⟨hq1, h16⟩ := hC.2.2.2.2.2.2.2 hp
      have hQ := hC.2.2.2.2.1
      have hn := z_new_ge M
      obtain ⟨w1, w2, w3, w4, w5, w6, w7⟩ := hwq
      have nf : (!true) = false := rfl
      obtain ⟨M', q1, q2, q3, q4⟩ := c_goB (d + 56) (n := jN (wwJ W)) (m := m) hQ.1.1 hQ.2.1 hq1.1 (fun t t1 t2 => (w7 t t1 (by omega)).1.1.1) w2 (by omega) (by omega) w5 hq1.2
      by_cases g : yqO (wwP W) + m ≤ goN (yqS (wwP W))
      · rw [if_pos g] at q1
        obtain ⟨v1, v2⟩ := w7 (goN (yqS (wwP W)) - m) (by omega) (by omega)
        have hY' := q2 g
        have z3 : z_ix (3 : Int32) 523 = true := ix_L nL_3 (by omega) (by omega)
        have n3 : Int32.toNatClampNeg (3 : Int32) = 3 := by rw [nL_3]; exact zn_N (by omega)
        have e11 : zI M' 11 3 = zn (goN (yqS (wwP W)) - m) := by rw [show zI M' 11 3 = _ from hY'.1 3 (by omega) (by omega)]; exact v2
        have k : ∀ a k, a ≠ 11 → a < 57 → a < z_new zQ M → zI M' a k = zI M a k := fun a k e _ e2 => zFr_I q4 _ e2 (fun x => e x)
        have hgo : goN ((yqH (wwP W) (goN (yqS (wwP W)) - m)).1, yE (yqS (wwP W)), yT (yqS (wwP W))) = goN (yqS (wwP W)) - m := go_z (S := ((yqH (wwP W) (goN (yqS (wwP W)) - m)).1, yE (yqS (wwP W)), yT (yqS (wwP W)))) v2 (by omega)
        refine sim_T (v := (zn (goN (yqS (wwP W)) - m))) (st := 0) (P' := (((yqH (wwP W) (goN (yqS (wwP W)) - m)).1, yE (yqS (wwP W)), yT (yqS (wwP W))), (yqH (wwP W) (goN (yqS (wwP W)) - m)).2, yqH (wwP W), yqO (wwP W), yqK (wwP W), yqU (wwP W))) (pl' := true) (r' := wwR W) hC hR hw (A' := M') ?_ ⟨⟨hY', fun k' => ?_, fun k' => ?_⟩, cKp_fr q4 hQ.2.1 (fun k' => by omega), ?_⟩ ?_ (fun _ => ⟨⟨?_, ?_⟩, ?_⟩) (Nat.le_refl _) ?_ (fun B hB => ?_) (fun _ => ⟨hr, ⟨pv_g v1 rfl, ?_, ?_, w4, ?_, ?_, fun t t1 t2 => ?_⟩⟩) (fun h => absurd rfl h) hw.2.2.2.2.2.2
        · rw [B_P_back, e1, cond_false, e2, cond_true, h15, hp, bI_eq0, nf, cond_false, q1, z_bI_some, show z_ne (1 : Int32) 0 = true by rw [z_ne_eq]; rfl, cond_true, z3, cond_true, n3, e11, B_P_done, z_bI_some]
        · rw [k _ _ (by omega) (by omega) (by omega)]; exact hQ.1.2.1 k'
        · rw [k _ _ (by omega) (by omega) (by omega)]; exact hQ.1.2.2 k'
        · rw [k _ _ (by omega) (by omega) (by omega)]; exact hQ.2.2
        · rw [k _ _ (by omega) (by omega) (by omega), h15, hp]
        · show cHi (yqH (wwP W)) (yqO (wwP W)) (goN ((yqH (wwP W) (goN (yqS (wwP W)) - m)).1, yE (yqS (wwP W)), yT (yqS (wwP W))) + 1) (yqK (wwP W)) M'
          rw [hgo]
          intro t t1 t2
          exact cHi_fr q4 hQ.2.1 hq1.1 (fun k => by omega) (fun a k e _ x => by omega) t t1 (by omega)
        · rw [k _ _ (by omega) (by omega) (by omega)]; exact hq1.2
        · rw [zFr_P q4 _ (by omega) (fun e => by omega), zFr_P q4 _ (by omega) (fun e => by omega)]; exact h16
        · show zFr (yqK (wwP W) - yqK (wwP W)) (523 * (yqK (wwP W) - yqK (wwP W))) _ _ _
          rw [Nat.sub_self]
          exact zFr_mono q4 (Nat.le_refl _) (Nat.le_refl _) (fun a k e => by have e : a = 11 := e; unfold xcY; omega)
        · obtain ⟨hq1', h37⟩ := hB.2.2.2.2.2.2.2 hp
          have hY := hB.2.2.2.2.1
          have hnB := z_new_ge B
          have a1 : (goN (yqS (wwP W)) + 1) % 501 + 501 - m - ((goN (yqS (wwP W)) + 1) % 501 + 501 - m) / 501 * 501 = (goN (yqS (wwP W)) - m + 1) % 501 := by omega
          have hm1 := Nat.mod_lt (goN (yqS (wwP W)) + 1) (show 501 > 0 by omega)
          have hm2 := Nat.mod_lt (goN (yqS (wwP W)) - m + 1) (show 501 > 0 by omega)
          have a2 := Nat.div_mul_le_self ((goN (yqS (wwP W)) + 1) % 501 + 501 - m) 501
          have z5 : (zn ((goN (yqS (wwP W)) + 1) % 501) + 501 - zn m) - (zn ((goN (yqS (wwP W)) + 1) % 501) + 501 - zn m) / 501 * 501 = zn ((goN (yqS (wwP W)) - m + 1) % 501) := by
            rw [nL_501, zn_add, zn_sub (by omega), zn_div (by omega) (by omega), zn_mul, zn_sub a2, a1]
          have f1 : zFr 0 0 (fun a k => a = 15 ∧ (k = 62 ∨ k = 63)) B (z_wI (z_wI B 15 62 (zn ((goN (yqS (wwP W)) - m + 1) % 501))) 15 63 (zn (goN (yqS (wwP W)) - m + 1 - yqO (wwP W)))) := x_tr (zFr_wI (X := fun a k => a = 15 ∧ (k = 62 ∨ k = 63)) ⟨rfl, Or.inl rfl⟩) (zFr_wI (X := fun a k => a = 15 ∧ (k = 62 ∨ k = 63)) ⟨rfl, Or.inr rfl⟩)
          have hls := v1.1.1.2.1
          have hW := rW_cg (B' := z_wI (z_wI B 15 62 (zn ((goN (yqS (wwP W)) - m + 1) % 501))) 15 63 (zn (goN (yqS (wwP W)) - m + 1 - yqO (wwP W)))) (hq1'.1 (goN (yqS (wwP W)) - m) (by omega) (by omega)) hls (fun j _ _ => zFr_I f1 _ (by omega) (fun e => by omega))
          have hY1 : rY (yqS (wwP W)) (yqL (wwP W)) (z_wI (z_wI B 15 62 (zn ((goN (yqS (wwP W)) - m + 1) % 501))) 15 63 (zn (goN (yqS (wwP W)) - m + 1 - yqO (wwP W)))) := rY_cg hY.1 (fun a k e => zFr_I f1 _ (by omega) (fun x => by omega))
          obtain ⟨B', s1, s2, s3⟩ := r_bec (d + 58) (a := 1210 * ((goN (yqS (wwP W)) - m + 1) % 501)) (by omega) hls hW hY1 v1.2.2.1
          have hn1 := z_new_ge (z_wI (z_wI B 15 62 (zn ((goN (yqS (wwP W)) - m + 1) % 501))) 15 63 (zn (goN (yqS (wwP W)) - m + 1 - yqO (wwP W))))
          have F : zFr 0 0 xtY B B' := x_tr (zFr_mono f1 (Nat.le_refl _) (Nat.le_refl _) (fun a k e => by unfold xtY; omega)) (zFr_mono s3 (Nat.le_refl _) (Nat.le_refl _) (fun a k e => by unfold xbe at e; unfold xtY; omega))
          have kb : ∀ k, k = 36 ∨ k = 37 ∨ k = 60 ∨ k = 62 ∨ k = 63 → zI B' 15 k = zI (z_wI (z_wI B 15 62 (zn ((goN (yqS (wwP W)) - m + 1) % 501))) 15 63 (zn (goN (yqS (wwP W)) - m + 1 - yqO (wwP W)))) 15 k := fun k hk => zFr_I s3 _ (by omega) (fun e => by unfold xbe at e; omega)
          refine ⟨B', ?_, ⟨s2, ?_⟩, ?_, fun _ => ⟨?_, ?_⟩, F⟩
          · have e48 : zI B' 15 48 = zn (goN (yqS (wwP W)) - m) := by rw [s2.1.2.1]; exact v2
            rw [B_Q_back, e3, z_bI_some, ne_10, cond_true, hB.2.2.2.2.2.1, hp, bI_eq0, nf, cond_false, hq1'.2.2, z_lt_T (by omega) (by omega), cond_true, show z_ne (501 : Int32) 0 = true by rw [z_ne_eq]; rfl, cond_true, hq1'.2.1, z5]
            simp (disch := omega) only [zI_wI_k, zI_wI_s]
            rw [hq1'.2.2, zn_sub (by omega), show goN (yqS (wwP W)) + 1 - yqO (wwP W) - m = goN (yqS (wwP W)) - m + 1 - yqO (wwP W) by omega, nL_1210, zn_mul, s1, z_bV_some, e48, B_Q_well, z_bI_some]
          · rw [kb _ (by omega), zI_wI_k (by omega), zI_wI_k (by omega)]; exact hY.2
          · rw [kb _ (by omega), zI_wI_k (by omega), zI_wI_k (by omega), hB.2.2.2.2.2.1, hp]
          · show rHi (yqH (wwP W)) (yqO (wwP W)) (goN ((yqH (wwP W) (goN (yqS (wwP W)) - m)).1, yE (yqS (wwP W)), yT (yqS (wwP W))) + 1) B' ∧ zI B' 15 62 = zn ((goN ((yqH (wwP W) (goN (yqS (wwP W)) - m)).1, yE (yqS (wwP W)), yT (yqS (wwP W))) + 1) % 501) ∧ zI B' 15 63 = zn (goN ((yqH (wwP W) (goN (yqS (wwP W)) - m)).1, yE (yqS (wwP W)), yT (yqS (wwP W))) + 1 - yqO (wwP W))
            rw [hgo]
            refine ⟨fun t t1 t2 => rW_cg (hq1'.1 t t1 (by omega)) (w7 t t1 (by omega)).1.1.1.2.1 (fun j _ _ => ?_), by rw [kb _ (by omega), zI_wI_k (by omega), zI_wI_s], by rw [kb _ (by omega), zI_wI_s]⟩
            rw [zFr_I s3 _ (by omega) (fun e => by unfold xbe at e; omega), zFr_I f1 _ (by omega) (fun e => by omega)]
          · rw [kb _ (by omega), zI_wI_k (by omega), zI_wI_k (by omega)]; exact h37
        · show (yqH (wwP W) (goN (yqS (wwP W)) - m)).1 3 = zn (goN ((yqH (wwP W) (goN (yqS (wwP W)) - m)).1, yE (yqS (wwP W)), yT (yqS (wwP W))))
          rw [hgo]; exact v2
        · show goN ((yqH (wwP W) (goN (yqS (wwP W)) - m)).1, yE (yqS (wwP W)), yT (yqS (wwP W))) ≤ yqU (wwP W)
          rw [hgo]; omega
        · show yqO (wwP W) ≤ goN ((yqH (wwP W) (goN (yqS (wwP W)) - m)).1, yE (yqS (wwP W)), yT (yqS (wwP W)))
          rw [hgo]; omega
        · show goN ((yqH (wwP W) (goN (yqS (wwP W)) - m)).1, yE (yqS (wwP W)), yT (yqS (wwP W))) ≤ yqO (wwP W) + 500
          rw [hgo]; omega
        · have t2 : t < goN ((yqH (wwP W) (goN (yqS (wwP W)) - m)).1, yE (yqS (wwP W)), yT (yqS (wwP W))) + 1 := t2
          rw [hgo] at t2
          exact w7 t t1 (by omega)
      · rw [if_neg g] at q1
        have hM := q3 g
        rw [hM] at q1
        refine sim_st (v := (-4)) (st := 0) hC hR hw ?_ (fun B hB => ?_)
        · rw [B_P_back, e1, cond_false, e2, cond_true, h15, hp, bI_eq0, nf, cond_false, q1, z_bI_some, show z_ne (0 : Int32) 0 = false by rw [z_ne_eq]; rfl, cond_false, B_P_nothingThere, z_bI_some]
        · obtain ⟨hq1', h37⟩ := hB.2.2.2.2.2.2.2 hp
          rw [B_Q_back, e3, z_bI_some, ne_10, cond_true, hB.2.2.2.2.2.1, hp, bI_eq0, nf, cond_false, hq1'.2.2, z_lt_F (by omega) (by omega), cond_false, B_Q_well, z_bI_some]
  · refine sim_st (v := (-1)) (st := -1) hC hR hw ?_ (fun B hB => ?_)
    · rw [B_P_back]
      rcases zn_cases x with hk | ⟨n, hn, rfl⟩
      · rw [lt_0T hk, cond_true, B_P_refuse, z_bI_some]
      · rw [zn_toInt hn] at gx
        rw [show z_lt (zn n) (0 : Int32) = false by rw [nL_0]; exact z_lt_F (by omega) (by omega), cond_false, show z_le (zn n) (500 : Int32) = false by rw [nL_500]; exact z_le_F (by omega) (by omega), cond_false, B_P_refuse, z_bI_some]
    · rw [B_Q_back, Q_wiF (by rw [toI_0, show (500 : Int32).toInt = 500 from rfl]; exact gx), z_bI_some, ne_00, cond_false, B_Q_no, z_bI_some]
