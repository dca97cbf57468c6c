/-! S LEVEL: open, sounding, spoil as steps. -/
theorem L_cot (d : Nat) {n : Nat} {A : zM} {S : yR} {l : yL} {f : Nat → Int32} {t : Nat} (hl : okL n l) (hY : cY (yG S) l f) (ht : t < 8) : ∀ (m k c : Nat), k + m = l.length → c ≤ k → z_denF zQ (d + 2) mO_countOfTrack (4, [some (.ref 3), some (.int (zn t)), some (.int (zn c)), some (.int (zn k))], [], yC A f S) = some (some (.int (zn (c + ctF t (l.drop k)))), yC A f S)
  | 0, k, c, hk, hc => by
    have hl2 := hl.2.1
    rw [L_O_countOfTrack_4, ix_L nL_14 (by omega) (by omega), cond_true, nL_14, zn_N (by omega), yC_11, hY.2.1, z_le_T (by omega) (by omega), cond_true, List.drop_eq_nil_of_le (by omega)]
    rfl
  | m + 1, k, c, hk, hc => by
    have hl2 := hl.2.1
    have hs := ok_at hl (k := k) (by omega)
    rw [L_O_countOfTrack_4, ix_L nL_14 (by omega) (by omega), cond_true, nL_14, zn_N (by omega), yC_11, hY.2.1, z_le_F (by omega) (by omega), cond_false, c_sndAt _ hY hl2 (by omega), z_bI_some, B_O_trackOf, en_t hs hl.1, z_bI_some, zn_1, zn_1, drop_s (show k < l.length by omega), ct_c]
    by_cases g : (l.getD k s0).2.1 = t
    · rw [g, z_ne_F, cond_false, L_cot d hl hY ht m (k + 1) (c + 1) (by omega) (by omega), if_pos rfl, show c + 1 + ctF t (l.drop (k + 1)) = c + (ctF t (l.drop (k + 1)) + 1) by omega]
    · rw [z_ne_T g (by have := hs.2.1; omega) (by omega), cond_true, L_cot d hl hY ht m (k + 1) c (by omega) (by omega), if_neg g]; rfl
theorem L_opQ (d : Nat) {n : Nat} {B : zM} {l : yL} {t : Nat} (hl : okL n l) (hL : rL l B) (ht : t < 8) : ∀ (m k c : Nat), k + m = l.length → c ≤ k → z_denF zQ (d + 2) mQ_open (36, [some (.ref 15), some (.int (zn t)), some (.int (zn c)), some (.int (zn k))], [], B) = some (some (.int (zn (c + ctF t (l.drop k)))), z_wI B 15 0 0)
  | 0, k, c, hk, hc => by
    have hl2 := hl.2.1
    rw [L_Q_open_36, hL.1, z_le_T (by omega) (by omega), cond_true, B_Q_well, z_bI_some, List.drop_eq_nil_of_le (by omega)]
    rfl
  | m + 1, k, c, hk, hc => by
    have hl2 := hl.2.1
    have hs := ok_at hl (k := k) (by omega)
    rw [L_Q_open_36, hL.1, z_le_F (by omega) (by omega), cond_false, z_ix_T (by omega) (by omega), cond_true, zn_N (by omega), (hL.2 k (by omega)).2.1, zn_1, zn_1, Int32.add_zero, drop_s (show k < l.length by omega), ct_c]
    by_cases g : (l.getD k s0).2.1 = t
    · rw [g, z_ne_F, cond_false, L_opQ d hl hL ht m (k + 1) (c + 1) (by omega) (by omega), if_pos rfl, show c + 1 + ctF t (l.drop (k + 1)) = c + (ctF t (l.drop (k + 1)) + 1) by omega]
    · rw [z_ne_T g (by have := hs.2.1; omega) (by omega), cond_true, L_opQ d hl hL ht m (k + 1) c (by omega) (by omega), if_neg g]; rfl
theorem S_open (d : Nat) {W : zW} {al : Nat → Nat} {M : zM} (hC : SC W al M) (hR : SR W M) (hw : SW W) (x : Int32) : Step tvI W M (z_den zQ (d + 60) mP_open [.ref 1, .int x] M) (fun B => z_den zQ (d + 60) mQ_open [.ref 15, .int x] B) := by
  have hP := hC.2.2.2.2.1.1
  have hA := cP_eq hP
  obtain ⟨hiv, -⟩ := SW_iv hw
  have hl := hiv.1
  rcases rg_c x 7 (by omega) with ⟨t, ht, rfl⟩ | g
  · have e7 : zI M 11 7 = yG (yqS (wwP W)) 7 := hP.1.1 7 (by omega) (by omega)
    have o1 := c_isOpen (d + 58) (A := M) (S := yqS (wwP W)) (f := fun k => zI M 11 k) (t := t) (by omega)
    rw [← hA] at o1
    have o1 : z_den zQ (d + 59) mO_isOpen [.ref 3, .int (zn t)] M = some (some (.int (bI (btF (yG (yqS (wwP W)) 7) t))), M) := by rw [← e7]; exact o1
    have o2 := L_cot (d + 57) (A := M) (t := t) hl hP.1 (by omega) (yqL (wwP W)).length 0 0 (Nat.zero_add _) (Nat.le_refl _)
    rw [← hA, List.drop_zero, Nat.zero_add] at o2
    cases hb : btF (yG (yqS (wwP W)) 7) t
    · refine sim_st (v := (-4)) (st := 0) hC hR hw ?_ (fun B hB => ?_)
      · rw [B_P_open, lt0_z (by omega), cond_false, show z_lt (zn t) (8 : Int32) = true by rw [nL_8]; exact z_lt_T (by omega) (by omega), cond_true, o1, z_bI_some, hb, bI_ne0, cond_false, B_P_nothingThere, z_bI_some]
      · have e43 := hB.2.2.2.2.1.1.2.2.2.1 t (by omega)
        rw [B_Q_open, Q_wiT (by rw [toI_0, toI_7, zn_toInt (by omega)]; omega), z_bI_some, ne_10, cond_true, z_ix_T (by omega) (by omega), cond_true, zn_N (by omega), e43, hb, bI_ne0, cond_false, B_Q_well, z_bI_some]
    · refine sim_st (v := (zn (ctF t (yqL (wwP W))))) (st := 0) hC hR hw ?_ (fun B hB => ?_)
      · rw [B_P_open, lt0_z (by omega), cond_false, show z_lt (zn t) (8 : Int32) = true by rw [nL_8]; exact z_lt_T (by omega) (by omega), cond_true, o1, z_bI_some, hb, bI_ne0, cond_true, B_O_countOfTrack, nL_0, o2, z_bI_some, B_P_done, z_bI_some, nL_0]
      · have e43 := hB.2.2.2.2.1.1.2.2.2.1 t (by omega)
        have o3 := L_opQ (d + 58) (t := t) hl hB.2.2.2.2.1.1.2.1 (by omega) (yqL (wwP W)).length 0 0 (Nat.zero_add _) (Nat.le_refl _)
        rw [List.drop_zero, Nat.zero_add, ← nL_0] at o3
        rw [B_Q_open, Q_wiT (by rw [toI_0, toI_7, zn_toInt (by omega)]; omega), z_bI_some, ne_10, cond_true, z_ix_T (by omega) (by omega), cond_true, zn_N (by omega), e43, hb, bI_ne0, cond_true]
        exact o3
  · refine sim_st (v := (-1)) (st := -1) hC hR hw ?_ (fun B hB => ?_)
    · rw [B_P_open]
      rcases zn_cases x with hk | ⟨n, hn, rfl⟩
      · rw [lt_0T hk, cond_true, B_P_refuse, z_bI_some]
      · rw [zn_toInt hn] at g
        rw [lt0_z hn, cond_false, show z_lt (zn n) (8 : Int32) = false by rw [nL_8]; exact z_lt_F (by omega) (by omega), cond_false, B_P_refuse, z_bI_some]
    · rw [B_Q_open, Q_wiF (by rw [toI_0, toI_7]; exact g), z_bI_some, ne_00, cond_false, B_Q_no, z_bI_some]
theorem S_sounding (d : Nat) {W : zW} {al : Nat → Nat} {M : zM} (hC : SC W al M) (hR : SR W M) (hw : SW W) (x y : Int32) : Step tvI W M (z_den zQ (d + 60) mP_sounding [.ref 1, .int x, .int y] M) (fun B => z_den zQ (d + 60) mQ_sounding [.ref 15, .int x, .int y] B) := by
  have hP := hC.2.2.2.2.1.1
  have hA := cP_eq hP
  obtain ⟨hiv, -⟩ := SW_iv hw
  have hl := hiv.1
  have hl2 := hl.2.1
  have n14 : Int32.toNatClampNeg (14 : Int32) = 14 := by rw [nL_14]; exact zn_N (by omega)
  have e14 : zI M 11 14 = zn (yqL (wwP W)).length := hP.1.2.1
  have e3 : zI M 11 3 = yG (yqS (wwP W)) 3 := hP.1.1 3 (by omega) (by omega)
  rcases zn_cases x with hk | ⟨k, hk, rfl⟩
  · refine sim_st (v := (-1)) (st := -1) hC hR hw ?_ (fun B hB => ?_)
    · rw [B_P_sounding, lt_0T hk, cond_true, B_P_refuse, z_bI_some]
    · rw [B_Q_sounding, lt_0T hk, cond_true, B_Q_no, z_bI_some]
  · rcases rg_c y 2 (by omega) with ⟨t, ht, rfl⟩ | g
    · have eQ : ∀ B, SR W B → z_den zQ (d + 59) mQ_within [.int (zn t), .int 0, .int 2] B = some (some (.int (zn 1)), B) := fun B _ => Q_wiT (by rw [toI_0, show (2 : Int32).toInt = 2 from rfl, zn_toInt (by omega)]; omega)
      by_cases gk : k < (yqL (wwP W)).length
      · have hs := ok_at hl gk
        have o1 := c_sndAt (d + 58) (A := M) (S := yqS (wwP W)) hP.1 hl2 gk
        rw [← hA] at o1
        refine sim_st (v := (if t = 0 then zn ((yqL (wwP W)).getD k s0).1 else if t = 1 then zn ((yqL (wwP W)).getD k s0).2.1 else yG (yqS (wwP W)) 3 - zn ((yqL (wwP W)).getD k s0).2.2)) (st := 0) hC hR hw ?_ (fun B hB => ?_)
        · rw [B_P_sounding, lt0_z hk, cond_false, lt0_z (by omega), cond_false, show z_le (zn t) (2 : Int32) = true by rw [nL_2]; exact z_le_T (by omega) (by omega), cond_true, ix_L nL_14 (by omega) (by omega), cond_true, n14, e14, z_lt_T gk (by omega), cond_true, o1, z_bI_some, ne_lit (by omega) (by omega) nL_0, ne_lit (by omega) (by omega) nL_1]
          by_cases g0 : t = 0
          · rw [decide_eq_false (fun q => q g0), cond_false, if_pos g0, B_O_instrumentOf, en_i hs hl.1, z_bI_some, B_P_done, z_bI_some]
          · rw [decide_eq_true (p := t ≠ 0) g0, cond_true, if_neg g0]
            by_cases g1 : t = 1
            · rw [decide_eq_false (fun q => q g1), cond_false, if_pos g1, B_O_trackOf, en_t hs hl.1, z_bI_some, B_P_done, z_bI_some]
            · rw [decide_eq_true (p := t ≠ 1) g1, cond_true, if_neg g1, B_O_ageOf, ix_L nL_3 (by omega) (by omega), cond_true, show Int32.toNatClampNeg (3 : Int32) = 3 by rw [nL_3]; exact zn_N (by omega), e3, en_s hs hl.1, z_bI_some, B_P_done, z_bI_some]
        · have hL := hB.2.2.2.2.1.1.2.1
          obtain ⟨k1, k2, k3⟩ := hL.2 k gk
          have k48 := hB.2.2.2.2.1.1.1.2.1
          rw [B_Q_sounding, lt0_z hk, cond_false, eQ B hB, z_bI_some, ne_10, cond_true, hL.1, z_lt_T gk (by omega), cond_true, ne_lit (by omega) (by omega) nL_0, ne_lit (by omega) (by omega) nL_1, z_ix_T (by omega) (by omega), zn_N hk, k1, k2, k3, k48]
          by_cases g0 : t = 0
          · rw [decide_eq_false (fun q => q g0), cond_false, if_pos g0, cond_true, B_Q_well, z_bI_some]
          · rw [decide_eq_true (p := t ≠ 0) g0, cond_true, if_neg g0]
            by_cases g1 : t = 1
            · rw [decide_eq_false (fun q => q g1), cond_false, if_pos g1, cond_true, B_Q_well, z_bI_some]
            · rw [decide_eq_true (p := t ≠ 1) g1, cond_true, if_neg g1, cond_true, B_Q_well, z_bI_some]
      · refine sim_st (v := (-4)) (st := 0) hC hR hw ?_ (fun B hB => ?_)
        · rw [B_P_sounding, lt0_z hk, cond_false, lt0_z (by omega), cond_false, show z_le (zn t) (2 : Int32) = true by rw [nL_2]; exact z_le_T (by omega) (by omega), cond_true, ix_L nL_14 (by omega) (by omega), cond_true, n14, e14, z_lt_F (by omega) hk, cond_false, B_P_nothingThere, z_bI_some]
        · rw [B_Q_sounding, lt0_z hk, cond_false, eQ B hB, z_bI_some, ne_10, cond_true, hB.2.2.2.2.1.1.2.1.1, z_lt_F (by omega) hk, cond_false, B_Q_well, z_bI_some]
    · refine sim_st (v := (-1)) (st := -1) hC hR hw ?_ (fun B hB => ?_)
      · rw [B_P_sounding, lt0_z hk, cond_false]
        rcases zn_cases y with hk | ⟨n, hn, rfl⟩
        · rw [lt_0T hk, cond_true, B_P_refuse, z_bI_some]
        · rw [zn_toInt hn] at g
          rw [lt0_z hn, cond_false, show z_le (zn n) (2 : Int32) = false by rw [nL_2]; exact z_le_F (by omega) (by omega), cond_false, B_P_refuse, z_bI_some]
      · rw [B_Q_sounding, lt0_z hk, cond_false, Q_wiF (by rw [toI_0, show (2 : Int32).toInt = 2 from rfl]; exact g), z_bI_some, ne_00, cond_false, B_Q_no, z_bI_some]
theorem rY_w30 {S : yR} {l : yL} {B : zM} {i : Nat} (h : rY S l B) (hi : i < 60) (v : Int32) : rY (uG S (23 + i) v) l (z_wI B 30 i v) := by
  have f : zFr 0 0 (fun a k => a = 30) B (z_wI B 30 i v) := zFr_wI (X := fun a k => a = 30) rfl
  obtain ⟨⟨k1, k2, k3, k4, k5⟩, h2, h3⟩ := h
  refine ⟨⟨?_, ?_, fun j hj => ?_, fun j hj => ?_, fun j hj => ?_⟩, rL_fr f h2 (by omega) (fun a k _ _ e => by omega), rA_fr f h3 (fun k _ e => by omega) (fun a k _ _ e => by omega) (fun j hj _ _ _ => by rw [yG_uG, up_o (by omega)])⟩
  · rw [yG_uG, up_o (by omega), zI_wI_a (by omega)]; exact k1
  · rw [yG_uG, up_o (by omega), zI_wI_a (by omega)]; exact k2
  · obtain ⟨a, b, c⟩ := k3 j hj
    refine ⟨?_, by rw [yG_uG, up_o (by omega), zI_wI_a (by omega)]; exact b, by rw [yG_uG, up_o (by omega), zI_wI_a (by omega)]; exact c⟩
    rw [yG_uG]
    by_cases e : j = i
    · subst e; rw [zI_wI_s, up_s]
    · rw [zI_wI_k e, up_o (by omega)]; exact a
  · rw [zI_wI_a (by omega)]; exact k4 j hj
  · rw [zI_wI_a (by omega)]; exact k5 j hj
theorem S_spoil (d : Nat) {W : zW} {al : Nat → Nat} {M : zM} (hC : SC W al M) (hR : SR W M) (hw : SW W) (x y : Int32) : Step tvI W M (z_den zQ (d + 60) mP_spoil [.ref 1, .int x, .int y] M) (fun B => z_den zQ (d + 60) mQ_spoil [.ref 15, .int x, .int y] B) := by
  have hQ := hC.2.2.2.2.1
  have hY := hQ.1.1
  have h15 := hC.2.2.2.2.2.1
  have wj := hw.2.2.1
  have w0 := wj.1
  rcases iOk_c (J := wwJ W) x with g | ⟨i, hi, rfl⟩
  · refine sim_st (v := (-1)) (st := -1) hC hR hw ?_ (fun B hB => ?_)
    · rw [B_P_spoil, c_insAt_no _ wj hC.2.2.1 g, z_bR_some, show Nat.beq 0 0 = true from rfl, cond_true, B_P_refuse, z_bI_some]
    · rw [B_Q_spoil, r_isI_no _ wj hB.2.2.1 g, z_bI_some, z_eq_00, cond_true, B_Q_no, z_bI_some]
  · have nz := cJ_nz hC.2.2.1 hi
    rcases rg_c y 1000 (by omega) with ⟨t, ht, rfl⟩ | g
    · have e23 : (23 : Int32) + zn i = zn (23 + i) := by rw [nL_23, zn_add]
      have ef : zI M 11 (23 + i) = yG (yqS (wwP W)) (23 + i) := hY.1 _ (by omega) (by omega)
      have eQ : ∀ B, z_den zQ (d + 59) mQ_within [.int (zn t), .int 0, .int 1000] B = some (some (.int (zn 1)), B) := fun B => Q_wiT (by rw [toI_0, show (1000 : Int32).toInt = 1000 from rfl, zn_toInt (by omega)]; omega)
      have eP : z_den zQ (d + 60) mP_spoil [.ref 1, .int (zn i), .int (zn t)] M = (bif !(wwB W) then (some (some (.int (yG (yqS (wwP W)) (23 + i))), z_wI (z_wI M 11 (23 + i) (zn t)) 1 7 0)) else (some (some (.int (-3)), z_wI M 1 7 (-3)))) := by
        rw [B_P_spoil, c_insAt _ wj hi, z_bR_some, z_bq_F nz, cond_false, lt0_z (by omega), cond_false, show z_le (zn t) (1000 : Int32) = true by rw [nL_1000]; exact z_le_T (by omega) (by omega), cond_true, h15, bI_eq0, e23, z_ix_T (by omega) (by omega), cond_true, cond_true, zn_N (by omega), ef, B_P_done, z_bI_some, B_P_refuse, z_bI_some]
      cases hp : wwB W
      · rw [hp, show (!false) = true from rfl, cond_true] at eP
        obtain ⟨hl0, hiv, hg6⟩ := hw.2.2.2.2.2.1 (by rw [hp]; decide)
        have hn := z_new_ge M
        have F : zFr 0 0 (fun a _ => a = 11) M (z_wI M 11 (23 + i) (zn t)) := zFr_wI (X := fun a _ => a = 11) rfl
        refine sim_T (v := (yG (yqS (wwP W)) (23 + i))) (st := 0) (P' := (uG (yqS (wwP W)) (23 + i) (zn t), yqL (wwP W), yqH (wwP W), yqO (wwP W), yqK (wwP W), yqU (wwP W))) (pl' := false) (r' := wwR W) hC hR hw eP ⟨⟨?_, fun k => ?_, fun k => ?_⟩, cKp_fr F hQ.2.1 (fun k => by omega), ?_⟩ ?_ (fun h => by cases h) (Nat.le_refl _) ?_ (fun B hB => ?_) (fun h => by cases h) (fun _ => ⟨hl0, ?_, ?_⟩) hw.2.2.2.2.2.2
        · refine cY_cg (cY_up hY (k := 23 + i) (by omega) (by omega) (zn t)) (fun j _ => ?_)
          show zI (z_wI M 11 (23 + i) (zn t)) 11 j = up (fun k => zI M 11 k) (23 + i) (zn t) j
          by_cases e : j = 23 + i
          · subst e; rw [zI_wI_s, up_s]
          · rw [zI_wI_k e, up_o e]
        · rw [zI_wI_a (by omega)]; exact hQ.1.2.1 k
        · rw [zI_wI_a (by omega)]; exact hQ.1.2.2 k
        · rw [zI_wI_a (by omega)]; exact hQ.2.2
        · rw [zI_wI_a (by omega), h15, hp]
        · show zFr (yqK (wwP W) - yqK (wwP W)) (523 * (yqK (wwP W) - yqK (wwP W))) _ _ _
          rw [Nat.sub_self]
          exact zFr_mono F (Nat.le_refl _) (Nat.le_refl _) (fun a k e => by have e : a = 11 := e; unfold xcY; omega)
        · have hYB := hB.2.2.2.2.1
          have e30 := (hYB.1.1.2.2.1 i (by omega)).1
          refine ⟨z_wI B 30 i (zn t), ?_, ⟨rY_w30 hYB.1 (by omega) _, by rw [zI_wI_a (by omega)]; exact hYB.2⟩, by rw [zI_wI_a (by omega), hB.2.2.2.2.2.1, hp], (fun h => by cases h), zFr_wI (X := xtY) (by unfold xtY; omega)⟩
          rw [B_Q_spoil, r_isI _ wj hB.2.2.1 (iOk_z wj hi), z_bI_some, z_eq_10, cond_false, eQ, z_bI_some, ne_10, cond_true, hB.2.2.2.2.2.1, hp, bI_eq0, show (!false) = true from rfl, cond_true, z_ix_T (by omega) (by omega), cond_true, cond_true, zn_N (by omega), e30, B_Q_well, z_bI_some]
        · exact iv_cg hiv (fun j hj => by show yG (uG _ _ _) j = _; rw [yG_uG, up_o (by omega)])
        · show yG (uG _ _ _) 6 = 0 ∨ yG (uG _ _ _) 6 = 1
          rw [yG_uG, up_o (by omega)]; exact hg6
      · rw [hp, show (!true) = false from rfl, cond_false] at eP
        refine sim_st (v := (-3)) (st := -3) hC hR hw eP (fun B hB => ?_)
        rw [B_Q_spoil, r_isI _ wj hB.2.2.1 (iOk_z wj hi), z_bI_some, z_eq_10, cond_false, eQ, z_bI_some, ne_10, cond_true, hB.2.2.2.2.2.1, hp, bI_eq0, show (!true) = false from rfl, cond_false, B_Q_no, z_bI_some]
    · refine sim_st (v := (-1)) (st := -1) hC hR hw ?_ (fun B hB => ?_)
      · rw [B_P_spoil, c_insAt _ wj hi, z_bR_some, z_bq_F nz, cond_false]
        rcases zn_cases y with hk | ⟨n, hn, rfl⟩
        · rw [lt_0T hk, cond_true, B_P_refuse, z_bI_some]
        · rw [zn_toInt hn] at g
          rw [lt0_z hn, cond_false, show z_le (zn n) (1000 : Int32) = false by rw [nL_1000]; exact z_le_F (by omega) (by omega), cond_false, B_P_refuse, z_bI_some]
      · rw [B_Q_spoil, r_isI _ wj hB.2.2.1 (iOk_z wj hi), z_bI_some, z_eq_10, cond_false, Q_wiF (by rw [toI_0, show (1000 : Int32).toInt = 1000 from rfl]; exact g), z_bI_some, ne_00, cond_false, B_Q_no, z_bI_some]
