/-! S LEVEL: acts that tell of playing, and spoil, as steps. -/
theorem SW_iv {W : zW} (hw : SW W) : iv (jN (wwJ W)) (yqS (wwP W)) (yqL (wwP W)) ∧ (yG (yqS (wwP W)) 6 = 0 ∨ yG (yqS (wwP W)) 6 = 1) := by
  cases hp : wwB W
  · obtain ⟨h1, h2, h3⟩ := hw.2.2.2.2.2.1 (by rw [hp]; decide)
    rw [h1]; exact ⟨h2, h3⟩
  · have := (hw.2.2.2.2.1 hp).2.1
    exact ⟨this.1, this.2.2.1⟩
theorem sim_id {W : zW} {al : Nat → Nat} {M : zM} {v : Int32} {cA : zR} {rA : zM → zR} (hC : SC W al M) (hR : SR W M) (hw : SW W) (h1 : cA = some (some (.int v), M)) (h2 : ∀ B, SR W B → rA B = some (some (.int v), B)) : Step tvI W M cA rA :=
  Step_of (al := al) (sc_lt hC) ⟨_, rfl⟩ h1 (h2 M hR) hC (zFr_refl _ _) hR (zFr_refl _ _) hw (by omega) (by omega)
theorem S_status (d : Nat) {W : zW} {al : Nat → Nat} {M : zM} (hC : SC W al M) (hR : SR W M) (hw : SW W) : Step tvI W M (z_den zQ (d + 60) mP_status [.ref 1] M) (fun B => z_den zQ (d + 60) mQ_status [.ref 15] B) :=
  sim_id (v := (wwT W)) hC hR hw (by rw [B_P_status, hC.2.2.2.2.2.2.1]) (fun B hB => by rw [B_Q_status, hB.2.2.2.2.2.2.1])
theorem iOk_c {J : zJ} (x : Int32) : ¬ iOk J x ∨ ∃ i, i < jN J ∧ x = zn i := by
  by_cases g : iOk J x
  · obtain ⟨n, hn, rfl⟩ := zn_ex g.1
    have := g.2
    rw [zn_toInt hn] at this
    exact Or.inr ⟨n, by omega, rfl⟩
  · exact Or.inl g
theorem iOk_z {J : zJ} (w : wJ J) {i : Nat} (h : i < jN J) : iOk J (zn i) := by
  have := w.1
  exact ⟨by rw [zn_toInt (by omega)]; omega, by rw [zn_toInt (by omega)]; omega⟩
/-- a number of a range, or none -/
theorem rg_c (x : Int32) (n : Nat) (hn : n < 2147483648) : (∃ k, k ≤ n ∧ x = zn k) ∨ ¬ (0 ≤ x.toInt ∧ x.toInt ≤ n) := by
  by_cases g : 0 ≤ x.toInt ∧ x.toInt ≤ n
  · obtain ⟨k, hk, rfl⟩ := zn_ex g.1
    rw [zn_toInt hk] at g
    exact Or.inl ⟨k, by omega, rfl⟩
  · exact Or.inr g
theorem lt0_z {k : Nat} (h : k < 2147483648) : z_lt (zn k) (0 : Int32) = false := by rw [nL_0]; exact z_lt_F (by omega) h
theorem S_level (d : Nat) {W : zW} {al : Nat → Nat} {M : zM} (hC : SC W al M) (hR : SR W M) (hw : SW W) (x : Int32) : Step tvI W M (z_den zQ (d + 60) mP_level [.ref 1, .int x] M) (fun B => z_den zQ (d + 60) mQ_level [.ref 15, .int x] B) := by
  have hY := hC.2.2.2.2.1.1.1
  rcases rg_c x 7 (by omega) with ⟨t, ht, rfl⟩ | g
  · have e15 : (15 : Int32) + zn t = zn (15 + t) := by rw [nL_15, zn_add]
    have ef : zI M 11 (15 + t) = yG (yqS (wwP W)) (15 + t) := hY.1 _ (by omega) (by omega)
    refine sim_st (v := (yG (yqS (wwP W)) (15 + t))) (st := 0) hC hR hw ?_ (fun B hB => ?_)
    · rw [B_P_level, lt0_z (by omega), cond_false, show z_lt (zn t) (8 : Int32) = true by rw [nL_8]; exact z_lt_T (by omega) (by omega), cond_true, e15, z_ix_T (by omega) (by omega), cond_true, zn_N (by omega), ef, B_P_done, z_bI_some]
    · have e44 := hB.2.2.2.2.1.1.2.2.2.2.2.1 t (by omega)
      rw [B_Q_level, Q_wiT (by rw [toI_0, toI_7, zn_toInt (by omega)]; omega), z_bI_some, z_eq_10, cond_false, z_ix_T (by omega) (by omega), cond_true, zn_N (by omega), e44, B_Q_well, z_bI_some]
  · refine sim_st (v := (-1)) (st := -1) hC hR hw ?_ (fun B hB => ?_)
    · rw [B_P_level]
      rcases zn_cases x with hk | ⟨n, hn, rfl⟩
      · rw [lt_0T hk, cond_true, B_P_refuse, z_bI_some]
      · rw [zn_toInt hn] at g
        rw [lt0_z hn, cond_false, show z_lt (zn n) (8 : Int32) = false by rw [nL_8]; exact z_lt_F (by omega) (by omega), cond_false, B_P_refuse, z_bI_some]
    · rw [B_Q_level, Q_wiF (by rw [toI_0, toI_7]; exact g), z_bI_some, z_eq_00, cond_true, B_Q_no, z_bI_some]
theorem S_stop (d : Nat) {W : zW} {al : Nat → Nat} {M : zM} (hC : SC W al M) (hR : SR W M) (hw : SW W) (x : Int32) : Step tvI W M (z_den zQ (d + 60) mP_stop [.ref 1, .int x] M) (fun B => z_den zQ (d + 60) mQ_stop [.ref 15, .int x] B) := by
  have hY := hC.2.2.2.2.1.1.1
  rcases rg_c x 15 (by omega) with ⟨t, ht, rfl⟩ | g
  · have ef : zI M 11 8 = yG (yqS (wwP W)) 8 := hY.1 _ (by omega) (by omega)
    refine sim_st (v := (bI (btF (yG (yqS (wwP W)) 8) t))) (st := 0) hC hR hw ?_ (fun B hB => ?_)
    · rw [B_P_stop, lt0_z (by omega), cond_false, show z_lt (zn t) (16 : Int32) = true by rw [nL_16]; exact z_lt_T (by omega) (by omega), cond_true, ix_L nL_8 (by omega) (by omega), cond_true, show Int32.toNatClampNeg (8 : Int32) = 8 by rw [nL_8]; exact zn_N (by omega), ef, sh_bit _ (by omega), B_P_done, z_bI_some]
    · have e45 := hB.2.2.2.2.1.1.2.2.2.2.1 t (by omega)
      rw [B_Q_stop, Q_wiT (by rw [toI_0, show (15 : Int32).toInt = 15 from rfl, zn_toInt (by omega)]; omega), z_bI_some, z_eq_10, cond_false, z_ix_T (by omega) (by omega), cond_true, zn_N (by omega), e45, bI_eq0]
      cases btF (yG (yqS (wwP W)) 8) t
      · rw [show (!false) = true from rfl, cond_true, B_Q_well, z_bI_some, bI_F, nL_0]
      · rw [show (!true) = false from rfl, cond_false, B_Q_well, z_bI_some, bI_T, nL_1]
  · refine sim_st (v := (-1)) (st := -1) hC hR hw ?_ (fun B hB => ?_)
    · rw [B_P_stop]
      rcases zn_cases x with hk | ⟨n, hn, rfl⟩
      · rw [lt_0T hk, cond_true, B_P_refuse, z_bI_some]
      · rw [zn_toInt hn] at g
        rw [lt0_z hn, cond_false, show z_lt (zn n) (16 : Int32) = false by rw [nL_16]; exact z_lt_F (by omega) (by omega), cond_false, B_P_refuse, z_bI_some]
    · rw [B_Q_stop, Q_wiF (by rw [toI_0, show (15 : Int32).toInt = 15 from rfl]; exact g), z_bI_some, z_eq_00, cond_true, B_Q_no, z_bI_some]
theorem eq_lit {k j : Nat} (hk : k < 1000) (hj : j < 1000) {x : Int32} (e : x = zn j) : z_eq (zn k) x = decide (k = j) := by
  rw [e]
  by_cases g : k = j
  · rw [g, z_eq_T, decide_eq_true rfl]
  · rw [z_eq_F g (by omega) (by omega), decide_eq_false g]
theorem ne_lit {k j : Nat} (hk : k < 1000) (hj : j < 1000) {x : Int32} (e : x = zn j) : z_ne (zn k) x = decide (k ≠ j) := by
  rw [e]
  by_cases g : k = j
  · rw [g, z_ne_F, decide_eq_false (fun q => q rfl)]
  · rw [z_ne_T g (by omega) (by omega), decide_eq_true g]
/-- out of a range: not one of its numbers -/
theorem eq_out {x : Int32} {n j : Nat} (h : ¬ (0 ≤ x.toInt ∧ x.toInt ≤ n)) (hj : j ≤ n) (hn : n < 1000) {y : Int32} (e : y = zn j) : z_eq x y = false := by
  rw [z_eq_eq, e]
  refine decide_eq_false (fun q => h ?_)
  rw [q, zn_toInt (by omega)]; omega
theorem S_at (d : Nat) {W : zW} {al : Nat → Nat} {M : zM} (hC : SC W al M) (hR : SR W M) (hw : SW W) (x : Int32) : Step tvI W M (z_den zQ (d + 60) mP_at [.ref 1, .int x] M) (fun B => z_den zQ (d + 60) mQ_at [.ref 15, .int x] B) := by
  have hY := hC.2.2.2.2.1.1.1
  have h15 := hC.2.2.2.2.2.1
  obtain ⟨-, hg6⟩ := SW_iv hw
  rcases rg_c x 8 (by omega) with ⟨t, ht, rfl⟩ | g
  · have eP : z_den zQ (d + 60) mP_at [.ref 1, .int (zn t)] M = some (some (.int (if t = 8 then zn (yqU (wwP W)) else if t = 7 then bI (wwB W) else yG (yqS (wwP W)) t)), z_wI M 1 7 0) := by
      rw [B_P_at, lt0_z (by omega), cond_false, show z_le (zn t) (8 : Int32) = true by rw [nL_8]; exact z_le_T (by omega) (by omega), cond_true, ne_lit (by omega) (by omega) nL_8, ne_lit (by omega) (by omega) nL_7]
      by_cases g8 : t = 8
      · rw [decide_eq_false (fun q => q g8), cond_false, if_pos g8, hC.2.2.2.2.1.2.2, B_P_done, z_bI_some]
      · rw [decide_eq_true (p := t ≠ 8) g8, cond_true, if_neg g8]
        by_cases g7 : t = 7
        · rw [decide_eq_false (fun q => q g7), cond_false, if_pos g7, h15, bI_eq0]
          cases wwB W
          · rw [show (!false) = true from rfl, cond_true, B_P_done, z_bI_some, bI_F, nL_0]
          · rw [show (!true) = false from rfl, cond_false, B_P_done, z_bI_some, bI_T, nL_1, nL_0]
        · rw [decide_eq_true (p := t ≠ 7) g7, cond_true, if_neg g7, z_ix_T (by omega) (by omega), cond_true, zn_N (by omega), show zI M 11 t = yG (yqS (wwP W)) t from hY.1 t (by omega) (by omega), B_P_done, z_bI_some]
    refine sim_st (v := (if t = 8 then zn (yqU (wwP W)) else if t = 7 then bI (wwB W) else yG (yqS (wwP W)) t)) (st := 0) hC hR hw eP (fun B hB => ?_)
    obtain ⟨a1, a2, a3, a4, a5, a6⟩ := hB.2.2.2.2.1.1.2.2.1
    have k48 := hB.2.2.2.2.1.1.1.2.1
    have k36 := hB.2.2.2.2.2.1
    have k60 := hB.2.2.2.2.1.2
    rw [B_Q_at, eq_lit (by omega) (by omega) nL_0, eq_lit (by omega) (by omega) nL_1, eq_lit (by omega) (by omega) nL_2, eq_lit (by omega) (by omega) nL_3, eq_lit (by omega) (by omega) nL_4, eq_lit (by omega) (by omega) nL_5, eq_lit (by omega) (by omega) nL_6, eq_lit (by omega) (by omega) nL_7, eq_lit (by omega) (by omega) nL_8, a1, a2, a3, k48, a4, a5, a6, k36, k60]
    have ht' : t = 0 ∨ t = 1 ∨ t = 2 ∨ t = 3 ∨ t = 4 ∨ t = 5 ∨ t = 6 ∨ t = 7 ∨ t = 8 := by omega
    rcases ht' with e | e | e | e | e | e | e | e | e <;> subst e
    · show z_bI _ _ = _; rw [B_Q_well, z_bI_some]; rfl
    · show z_bI _ _ = _; rw [B_Q_well, z_bI_some]; rfl
    · show z_bI _ _ = _; rw [B_Q_well, z_bI_some]; rfl
    · show z_bI _ _ = _; rw [B_Q_well, z_bI_some]; rfl
    · show z_bI _ _ = _; rw [B_Q_well, z_bI_some]; rfl
    · show z_bI _ _ = _; rw [B_Q_well, z_bI_some]; rfl
    · show (bif z_eq (yG (yqS (wwP W)) 6) 0 then _ else _) = some (some (Value.int (yG (yqS (wwP W)) 6)), _)
      rcases hg6 with e | e
      · rw [e, show z_eq (0 : Int32) 0 = true by rw [z_eq_eq]; rfl, cond_true, B_Q_well, z_bI_some]
      · rw [e, show z_eq (1 : Int32) 0 = false by rw [z_eq_eq]; rfl, cond_false, B_Q_well, z_bI_some]
    · show (bif z_eq (bI (wwB W)) 0 then _ else _) = some (some (Value.int (bI (wwB W))), _)
      rw [bI_eq0]
      cases wwB W
      · rw [show (!false) = true from rfl, cond_true, B_Q_well, z_bI_some, bI_F, nL_0]
      · rw [show (!true) = false from rfl, cond_false, B_Q_well, z_bI_some, bI_T, nL_1, nL_0]
    · show z_bI _ _ = _; rw [B_Q_well, z_bI_some]; rfl
  · refine sim_st (v := (-1)) (st := -1) hC hR hw ?_ (fun B hB => ?_)
    · rw [B_P_at]
      rcases zn_cases x with hk | ⟨n, hn, rfl⟩
      · rw [lt_0T hk, cond_true, B_P_refuse, z_bI_some]
      · rw [zn_toInt hn] at g
        rw [lt0_z hn, cond_false, show z_le (zn n) (8 : Int32) = false by rw [nL_8]; exact z_le_F (by omega) (by omega), cond_false, B_P_refuse, z_bI_some]
    · rw [B_Q_at, eq_out g (j := 0) (by omega) (by omega) nL_0, eq_out g (j := 1) (by omega) (by omega) nL_1, eq_out g (j := 2) (by omega) (by omega) nL_2, eq_out g (j := 3) (by omega) (by omega) nL_3, eq_out g (j := 4) (by omega) (by omega) nL_4, eq_out g (j := 5) (by omega) (by omega) nL_5, eq_out g (j := 6) (by omega) (by omega) nL_6, eq_out g (j := 7) (by omega) (by omega) nL_7, eq_out g (j := 8) (by omega) (by omega) nL_8]
      show z_bI _ _ = _
      rw [B_Q_no, z_bI_some]
theorem S_times (d : Nat) {W : zW} {al : Nat → Nat} {M : zM} (hC : SC W al M) (hR : SR W M) (hw : SW W) (x y : Int32) : Step tvI W M (z_den zQ (d + 60) mP_times [.ref 1, .int x, .int y] M) (fun B => z_den zQ (d + 60) mQ_times [.ref 15, .int x, .int y] B) := by
  have hY := hC.2.2.2.2.1.1.1
  have wj := hw.2.2.1
  have w0 := wj.1
  rcases iOk_c (J := wwJ W) x with g | ⟨i, hi, rfl⟩
  · refine sim_st (v := (-1)) (st := -1) hC hR hw ?_ (fun B hB => ?_)
    · rw [B_P_times, c_insAt_no _ wj hC.2.2.1 g, z_bR_some, show Nat.beq 0 0 = true from rfl, cond_true, B_P_refuse, z_bI_some]
    · rw [B_Q_times, r_isI_no _ wj hB.2.2.1 g, z_bI_some, z_eq_00, cond_true, B_Q_no, z_bI_some]
  · have nz := cJ_nz hC.2.2.1 hi
    rcases rg_c y 1 (by omega) with ⟨t, ht, rfl⟩ | g
    · have e143 : (143 : Int32) + zn i = zn (143 + i) := by rw [nL_143, zn_add]
      have e83 : (83 : Int32) + zn i = zn (83 + i) := by rw [nL_83, zn_add]
      refine sim_st (v := (if t = 0 then yG (yqS (wwP W)) (83 + i) else yG (yqS (wwP W)) (143 + i))) (st := 0) hC hR hw ?_ (fun B hB => ?_)
      · rw [B_P_times, c_insAt _ wj hi, z_bR_some, z_bq_F nz, cond_false, lt0_z (by omega), cond_false, show z_le (zn t) (1 : Int32) = true by rw [nL_1]; exact z_le_T (by omega) (by omega), cond_true, ne_lit (by omega) (by omega) nL_0]
        by_cases g0 : t = 0
        · rw [decide_eq_false (fun q => q g0), cond_false, if_pos g0, e83, z_ix_T (by omega) (by omega), cond_true, zn_N (by omega), show zI M 11 (83 + i) = _ from hY.1 _ (by omega) (by omega), B_P_done, z_bI_some]
        · rw [decide_eq_true (p := t ≠ 0) g0, cond_true, if_neg g0, e143, z_ix_T (by omega) (by omega), cond_true, zn_N (by omega), show zI M 11 (143 + i) = _ from hY.1 _ (by omega) (by omega), B_P_done, z_bI_some]
      · obtain ⟨k1, k2, k3⟩ := hB.2.2.2.2.1.1.1.2.2.1 i (by omega)
        rw [B_Q_times, r_isI _ wj hB.2.2.1 (iOk_z wj hi), z_bI_some, z_eq_10, cond_false, Q_wiT (by rw [toI_0, show (1 : Int32).toInt = 1 from rfl, zn_toInt (by omega)]; omega), z_bI_some, ne_10, cond_true, ne_lit (by omega) (by omega) nL_0, z_ix_T (by omega) (by omega), cond_true, cond_true, zn_N (by omega), k2, k3]
        by_cases g0 : t = 0
        · rw [decide_eq_false (fun q => q g0), cond_false, if_pos g0, B_Q_well, z_bI_some]
        · rw [decide_eq_true (p := t ≠ 0) g0, cond_true, if_neg g0, B_Q_well, z_bI_some]
    · refine sim_st (v := (-1)) (st := -1) hC hR hw ?_ (fun B hB => ?_)
      · rw [B_P_times, c_insAt _ wj hi, z_bR_some, z_bq_F nz, cond_false]
        rcases zn_cases y with hk | ⟨n, hn, rfl⟩
        · rw [lt_0T hk, cond_true, B_P_refuse, z_bI_some]
        · rw [zn_toInt hn] at g
          rw [lt0_z hn, cond_false, show z_le (zn n) (1 : Int32) = false by rw [nL_1]; exact z_le_F (by omega) (by omega), cond_false, B_P_refuse, z_bI_some]
      · rw [B_Q_times, r_isI _ wj hB.2.2.1 (iOk_z wj hi), z_bI_some, z_eq_10, cond_false, Q_wiF (by rw [toI_0, show (1 : Int32).toInt = 1 from rfl]; exact g), z_bI_some, ne_00, cond_false, B_Q_no, z_bI_some]
theorem S_event (d : Nat) {W : zW} {al : Nat → Nat} {M : zM} (hC : SC W al M) (hR : SR W M) (hw : SW W) (x y : Int32) : Step tvI W M (z_den zQ (d + 60) mP_event [.ref 1, .int x, .int y] M) (fun B => z_den zQ (d + 60) mQ_event [.ref 15, .int x, .int y] B) := by
  have hY := hC.2.2.2.2.1.1.1
  have n13 : Int32.toNatClampNeg (13 : Int32) = 13 := by rw [nL_13]; exact zn_N (by omega)
  have e13 : zI M 11 13 = yG (yqS (wwP W)) 13 := hY.1 13 (by omega) (by omega)
  rcases zn_cases x with hk | ⟨k, hk, rfl⟩
  · refine sim_st (v := (-1)) (st := -1) hC hR hw ?_ (fun B hB => ?_)
    · rw [B_P_event, lt_0T hk, cond_true, B_P_refuse, z_bI_some]
    · rw [B_Q_event, lt_0T hk, cond_true, B_Q_no, z_bI_some]
  · rcases rg_c y 3 (by omega) with ⟨t, ht, rfl⟩ | g
    · have eP : ∀ v : Int32, (1500 ≤ k ∨ (yG (yqS (wwP W)) 13).toInt ≤ k → v = -4) → (k < 1500 → (k : Int) < (yG (yqS (wwP W)) 13).toInt → v = yE (yqS (wwP W)) (4 * k + t)) → z_den zQ (d + 60) mP_event [.ref 1, .int (zn k), .int (zn t)] M = some (some (.int v), z_wI M 1 7 0) := by
        intro v v1 v2
        rw [B_P_event, lt0_z hk, cond_false, lt0_z (by omega), cond_false, show z_le (zn t) (3 : Int32) = true by rw [nL_3]; exact z_le_T (by omega) (by omega), cond_true]
        by_cases g1 : 1500 ≤ k
        · rw [show z_le (1500 : Int32) (zn k) = true by rw [nL_1500]; exact z_le_T g1 hk, cond_true, B_P_nothingThere, z_bI_some, v1 (Or.inl g1)]
        · rw [show z_le (1500 : Int32) (zn k) = false by rw [nL_1500]; exact z_le_F (by omega) (by omega), cond_false, ix_L nL_13 (by omega) (by omega), cond_true, n13, e13, z_lt_iff, zn_toInt hk]
          by_cases g2 : (k : Int) < (yG (yqS (wwP W)) 13).toInt
          · rw [decide_eq_true g2, cond_true, nL_4, zn_mul, zn_add, z_ix_T (by omega) (by omega), cond_true, zn_N (by omega), hC.2.2.2.2.1.1.2.1, B_P_done, z_bI_some, v2 (by omega) g2]
          · rw [decide_eq_false g2, cond_false, B_P_nothingThere, z_bI_some, v1 (Or.inr (by omega))]
      have eQ : ∀ B, SR W B → ∀ v : Int32, (1500 ≤ k ∨ (yG (yqS (wwP W)) 13).toInt ≤ k → v = -4) → (k < 1500 → (k : Int) < (yG (yqS (wwP W)) 13).toInt → v = yE (yqS (wwP W)) (4 * k + t)) → z_den zQ (d + 60) mQ_event [.ref 15, .int (zn k), .int (zn t)] B = some (some (.int v), z_wI B 15 0 0) := by
        intro B hB v v1 v2
        have k58 := hB.2.2.2.2.1.1.1.1
        rw [B_Q_event, lt0_z hk, cond_false, Q_wiT (by rw [toI_0, show (3 : Int32).toInt = 3 from rfl, zn_toInt (by omega)]; omega), z_bI_some, ne_10, cond_true, k58, z_le_iff, zn_toInt hk]
        by_cases g2 : (yG (yqS (wwP W)) 13).toInt ≤ (k : Int)
        · rw [decide_eq_true g2, cond_true, B_Q_well, z_bI_some, v1 (Or.inr g2)]
        · rw [decide_eq_false g2, cond_false]
          by_cases g1 : 1500 ≤ k
          · rw [show z_le (1500 : Int32) (zn k) = true by rw [nL_1500]; exact z_le_T g1 hk, cond_true, B_Q_well, z_bI_some, v1 (Or.inl g1)]
          · have k51 := hB.2.2.2.2.1.1.1.2.2.2.1 (4 * k + t) (by omega)
            rw [show z_le (1500 : Int32) (zn k) = false by rw [nL_1500]; exact z_le_F (by omega) (by omega), cond_false, nL_4, zn_mul, zn_add, z_ix_T (by omega) (by omega), cond_true, zn_N (by omega), k51, B_Q_well, z_bI_some, v2 (by omega) (by omega)]
      by_cases g1 : 1500 ≤ k ∨ (yG (yqS (wwP W)) 13).toInt ≤ k
      · exact sim_st (v := (-4)) (st := 0) hC hR hw (eP _ (fun _ => rfl) (fun a b => by omega)) (fun B hB => eQ B hB _ (fun _ => rfl) (fun a b => by omega))
      · exact sim_st (v := (yE (yqS (wwP W)) (4 * k + t))) (st := 0) hC hR hw (eP _ (fun q => absurd q g1) (fun _ _ => rfl)) (fun B hB => eQ B hB _ (fun q => absurd q g1) (fun _ _ => rfl))
    · refine sim_st (v := (-1)) (st := -1) hC hR hw ?_ (fun B hB => ?_)
      · rw [B_P_event, lt0_z hk, cond_false]
        rcases zn_cases y with hk | ⟨n, hn, rfl⟩
        · rw [lt_0T hk, cond_true, B_P_refuse, z_bI_some]
        · rw [zn_toInt hn] at g
          rw [lt0_z hn, cond_false, show z_le (zn n) (3 : Int32) = false by rw [nL_3]; exact z_le_F (by omega) (by omega), cond_false, B_P_refuse, z_bI_some]
      · rw [B_Q_event, lt0_z hk, cond_false, Q_wiF (by rw [toI_0, show (3 : Int32).toInt = 3 from rfl]; exact g), z_bI_some, ne_00, cond_false, B_Q_no, z_bI_some]
theorem S_count (d : Nat) {W : zW} {al : Nat → Nat} {M : zM} (hC : SC W al M) (hR : SR W M) (hw : SW W) (x : Int32) : Step tvI W M (z_den zQ (d + 60) mP_count [.ref 1, .int x] M) (fun B => z_den zQ (d + 60) mQ_count [.ref 15, .int x] B) := by
  have hY := hC.2.2.2.2.1.1.1
  have n13 : Int32.toNatClampNeg (13 : Int32) = 13 := by rw [nL_13]; exact zn_N (by omega)
  have n14 : Int32.toNatClampNeg (14 : Int32) = 14 := by rw [nL_14]; exact zn_N (by omega)
  have e13 : zI M 11 13 = yG (yqS (wwP W)) 13 := hY.1 13 (by omega) (by omega)
  have e14 : zI M 11 14 = zn (yqL (wwP W)).length := hY.2.1
  rcases rg_c x 7 (by omega) with ⟨t, ht, rfl⟩ | g
  · refine sim_st (v := (if t = 0 then zn (gR (wwG W)) else if t = 1 then zn (jN (wwJ W)) else if t = 2 then zn (chN (wwH W)) else if t = 3 then yG (yqS (wwP W)) 13 else if t = 4 then zn (yqL (wwP W)).length else if t = 5 then zn (wwF W).1 else if t = 6 then zn (gE (wwG W)) else zn (chF (wwH W) (chN (wwH W))))) (st := 0) hC hR hw ?_ (fun B hB => ?_)
    · rw [B_P_count, eq_lit (by omega) (by omega) nL_0, eq_lit (by omega) (by omega) nL_1, eq_lit (by omega) (by omega) nL_2, eq_lit (by omega) (by omega) nL_3, eq_lit (by omega) (by omega) nL_4, eq_lit (by omega) (by omega) nL_5, eq_lit (by omega) (by omega) nL_6, eq_lit (by omega) (by omega) nL_7, hC.1.1, hC.2.2.1.1, hC.2.2.2.1.1, ix_L nL_13 (by omega) (by omega), n13, e13, ix_L nL_14 (by omega) (by omega), n14, e14, hC.2.1.1, hC.1.2.2.1, c_placeC _ hw.2.2.2.1 hC.2.2.2.1]
      have ht' : t = 0 ∨ t = 1 ∨ t = 2 ∨ t = 3 ∨ t = 4 ∨ t = 5 ∨ t = 6 ∨ t = 7 := by omega
      rcases ht' with e | e | e | e | e | e | e | e <;> subst e
      · show z_bI _ _ = _; rw [B_P_done, z_bI_some]; rfl
      · show z_bI _ _ = _; rw [B_P_done, z_bI_some]; rfl
      · show z_bI _ _ = _; rw [B_P_done, z_bI_some]; rfl
      · show z_bI _ _ = _; rw [B_P_done, z_bI_some]; rfl
      · show z_bI _ _ = _; rw [B_P_done, z_bI_some]; rfl
      · show z_bI _ _ = _; rw [B_P_done, z_bI_some]; rfl
      · show z_bI _ _ = _; rw [B_P_done, z_bI_some]; rfl
      · show z_bI _ _ = _; rw [B_P_done, z_bI_some]; rfl
    · rw [B_Q_count, eq_lit (by omega) (by omega) nL_0, eq_lit (by omega) (by omega) nL_1, eq_lit (by omega) (by omega) nL_2, eq_lit (by omega) (by omega) nL_3, eq_lit (by omega) (by omega) nL_4, eq_lit (by omega) (by omega) nL_5, eq_lit (by omega) (by omega) nL_6, eq_lit (by omega) (by omega) nL_7, hB.1.1, hB.2.2.1.1, hB.2.2.2.1.1, hB.2.2.2.2.1.1.1.1, hB.2.2.2.2.1.1.2.1.1, hB.2.1.1, hB.1.2.2.1, hB.2.2.2.1.2.1]
      have ht' : t = 0 ∨ t = 1 ∨ t = 2 ∨ t = 3 ∨ t = 4 ∨ t = 5 ∨ t = 6 ∨ t = 7 := by omega
      rcases ht' with e | e | e | e | e | e | e | e <;> subst e
      · show z_bI _ _ = _; rw [B_Q_well, z_bI_some]; rfl
      · show z_bI _ _ = _; rw [B_Q_well, z_bI_some]; rfl
      · show z_bI _ _ = _; rw [B_Q_well, z_bI_some]; rfl
      · show z_bI _ _ = _; rw [B_Q_well, z_bI_some]; rfl
      · show z_bI _ _ = _; rw [B_Q_well, z_bI_some]; rfl
      · show z_bI _ _ = _; rw [B_Q_well, z_bI_some]; rfl
      · show z_bI _ _ = _; rw [B_Q_well, z_bI_some]; rfl
      · show z_bI _ _ = _; rw [B_Q_well, z_bI_some]; rfl
  · refine sim_st (v := (-1)) (st := -1) hC hR hw ?_ (fun B hB => ?_)
    · rw [B_P_count, eq_out g (j := 0) (by omega) (by omega) nL_0, eq_out g (j := 1) (by omega) (by omega) nL_1, eq_out g (j := 2) (by omega) (by omega) nL_2, eq_out g (j := 3) (by omega) (by omega) nL_3, eq_out g (j := 4) (by omega) (by omega) nL_4, eq_out g (j := 5) (by omega) (by omega) nL_5, eq_out g (j := 6) (by omega) (by omega) nL_6, eq_out g (j := 7) (by omega) (by omega) nL_7]
      show z_bI _ _ = _
      rw [B_P_refuse, z_bI_some]
    · rw [B_Q_count, eq_out g (j := 0) (by omega) (by omega) nL_0, eq_out g (j := 1) (by omega) (by omega) nL_1, eq_out g (j := 2) (by omega) (by omega) nL_2, eq_out g (j := 3) (by omega) (by omega) nL_3, eq_out g (j := 4) (by omega) (by omega) nL_4, eq_out g (j := 5) (by omega) (by omega) nL_5, eq_out g (j := 6) (by omega) (by omega) nL_6, eq_out g (j := 7) (by omega) (by omega) nL_7]
      show z_bI _ _ = _
      rw [B_Q_no, z_bI_some]
