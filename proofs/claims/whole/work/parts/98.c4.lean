/-! THE LAW: its loop. -/
theorem a63 (x : Int32) : ∃ k, k < 64 ∧ x &&& 63 = zn k := by
  have h := tI_and_pow (x := x) (k := 6) (by omega)
  have h : (x &&& zn 63).toInt = x.toInt % 64 := h
  rw [← nL_63] at h
  obtain ⟨k, hk, e⟩ := zn_ex (x := x &&& 63) (by omega)
  refine ⟨k, ?_, e⟩
  rw [e, zn_toInt hk] at h
  omega
theorem law_case (d : Nat) {L i : Nat} {W : zW} {al : Nat → Nat} {M : zM} (hL : L ≤ 4096) (hi : i + 8 ≤ L) (h : z_hd zQ M 56 = some (20, L)) (hC : SC W al M) (hR : SR W M) (hw : SW W) : cGo d L i W M (z_denF zQ (d + 60 + 1) mW_law (18, [some (.ref 56), some (.ref 1), some (.ref 15), some (.int (zn i))], [], M)) := by
  have hln : z_ln zQ M 56 = L := by unfold z_ln; rw [h]
  have hc : z_cls zQ M 56 [20] = true := by rw [z_cls_of h]; rfl
  have hx : z_lt ((Int32.ofNat (z_ln zQ M 56)) - 8) (zn i) = false := by
    rw [hln, show Int32.ofNat L = zn L from (zn_eq L).symm, nL_8, zn_sub (by omega)]
    exact z_lt_F (by omega) (by omega)
  obtain ⟨k, hk, ek⟩ := a63 (zI M 56 i)
  have ei : Int32.toNatClampNeg (zn i) = i := zn_N (by omega)
  have E : ∀ {j : Nat} {x : Int32}, x = zn j → j < 64 → z_eq (zn k) x = decide (k = j) := fun e hj => eq_lit (by omega) (by omega) e
  rw [L_W_law_18, hc, cond_true, hx, cond_false, ia56 h (k := i) (by omega) hL rfl, cond_true, ei, ek]
  rw [E (j := 0) (x := 0) (show (0 : Int32) = zn 0 from (zn_eq 0).symm) (by omega), E (j := 1) (x := 1) (show (1 : Int32) = zn 1 from (zn_eq 1).symm) (by omega), E (j := 2) (x := 2) (show (2 : Int32) = zn 2 from (zn_eq 2).symm) (by omega), E (j := 3) (x := 3) (show (3 : Int32) = zn 3 from (zn_eq 3).symm) (by omega), E (j := 4) (x := 4) (show (4 : Int32) = zn 4 from (zn_eq 4).symm) (by omega), E (j := 5) (x := 5) (show (5 : Int32) = zn 5 from (zn_eq 5).symm) (by omega), E (j := 6) (x := 6) (show (6 : Int32) = zn 6 from (zn_eq 6).symm) (by omega), E (j := 7) (x := 7) (show (7 : Int32) = zn 7 from (zn_eq 7).symm) (by omega), E (j := 8) (x := 8) (show (8 : Int32) = zn 8 from (zn_eq 8).symm) (by omega), E (j := 9) (x := 9) (show (9 : Int32) = zn 9 from (zn_eq 9).symm) (by omega), E (j := 10) (x := 10) (show (10 : Int32) = zn 10 from (zn_eq 10).symm) (by omega), E (j := 11) (x := 11) (show (11 : Int32) = zn 11 from (zn_eq 11).symm) (by omega), E (j := 12) (x := 12) (show (12 : Int32) = zn 12 from (zn_eq 12).symm) (by omega), E (j := 13) (x := 13) (show (13 : Int32) = zn 13 from (zn_eq 13).symm) (by omega), E (j := 14) (x := 14) (show (14 : Int32) = zn 14 from (zn_eq 14).symm) (by omega), E (j := 15) (x := 15) (show (15 : Int32) = zn 15 from (zn_eq 15).symm) (by omega), E (j := 16) (x := 16) (show (16 : Int32) = zn 16 from (zn_eq 16).symm) (by omega), E (j := 17) (x := 17) (show (17 : Int32) = zn 17 from (zn_eq 17).symm) (by omega), E (j := 18) (x := 18) (show (18 : Int32) = zn 18 from (zn_eq 18).symm) (by omega), E (j := 19) (x := 19) (show (19 : Int32) = zn 19 from (zn_eq 19).symm) (by omega), E (j := 20) (x := 20) (show (20 : Int32) = zn 20 from (zn_eq 20).symm) (by omega), E (j := 21) (x := 21) (show (21 : Int32) = zn 21 from (zn_eq 21).symm) (by omega), E (j := 22) (x := 22) (show (22 : Int32) = zn 22 from (zn_eq 22).symm) (by omega), E (j := 23) (x := 23) (show (23 : Int32) = zn 23 from (zn_eq 23).symm) (by omega), E (j := 24) (x := 24) (show (24 : Int32) = zn 24 from (zn_eq 24).symm) (by omega), E (j := 25) (x := 25) (show (25 : Int32) = zn 25 from (zn_eq 25).symm) (by omega), E (j := 26) (x := 26) (show (26 : Int32) = zn 26 from (zn_eq 26).symm) (by omega), E (j := 27) (x := 27) (show (27 : Int32) = zn 27 from (zn_eq 27).symm) (by omega), E (j := 28) (x := 28) (show (28 : Int32) = zn 28 from (zn_eq 28).symm) (by omega), E (j := 29) (x := 29) (show (29 : Int32) = zn 29 from (zn_eq 29).symm) (by omega), E (j := 30) (x := 30) (show (30 : Int32) = zn 30 from (zn_eq 30).symm) (by omega), E (j := 31) (x := 31) (show (31 : Int32) = zn 31 from (zn_eq 31).symm) (by omega), E (j := 32) (x := 32) (show (32 : Int32) = zn 32 from (zn_eq 32).symm) (by omega), E (j := 33) (x := 33) (show (33 : Int32) = zn 33 from (zn_eq 33).symm) (by omega), E (j := 34) (x := 34) (show (34 : Int32) = zn 34 from (zn_eq 34).symm) (by omega), E (j := 35) (x := 35) (show (35 : Int32) = zn 35 from (zn_eq 35).symm) (by omega), E (j := 36) (x := 36) (show (36 : Int32) = zn 36 from (zn_eq 36).symm) (by omega), E (j := 37) (x := 37) (show (37 : Int32) = zn 37 from (zn_eq 37).symm) (by omega), E (j := 38) (x := 38) (show (38 : Int32) = zn 38 from (zn_eq 38).symm) (by omega), E (j := 39) (x := 39) (show (39 : Int32) = zn 39 from (zn_eq 39).symm) (by omega), E (j := 40) (x := 40) (show (40 : Int32) = zn 40 from (zn_eq 40).symm) (by omega), E (j := 41) (x := 41) (show (41 : Int32) = zn 41 from (zn_eq 41).symm) (by omega), E (j := 42) (x := 42) (show (42 : Int32) = zn 42 from (zn_eq 42).symm) (by omega), E (j := 43) (x := 43) (show (43 : Int32) = zn 43 from (zn_eq 43).symm) (by omega), E (j := 44) (x := 44) (show (44 : Int32) = zn 44 from (zn_eq 44).symm) (by omega), E (j := 45) (x := 45) (show (45 : Int32) = zn 45 from (zn_eq 45).symm) (by omega), E (j := 46) (x := 46) (show (46 : Int32) = zn 46 from (zn_eq 46).symm) (by omega), E (j := 47) (x := 47) (show (47 : Int32) = zn 47 from (zn_eq 47).symm) (by omega), E (j := 48) (x := 48) (show (48 : Int32) = zn 48 from (zn_eq 48).symm) (by omega), E (j := 49) (x := 49) (show (49 : Int32) = zn 49 from (zn_eq 49).symm) (by omega), E (j := 50) (x := 50) (show (50 : Int32) = zn 50 from (zn_eq 50).symm) (by omega), E (j := 51) (x := 51) (show (51 : Int32) = zn 51 from (zn_eq 51).symm) (by omega)]
  by_cases g0 : k = 0
  · rw [decide_eq_true g0, cond_true]; exact K_roll d hL hi h hC hR hw
  rw [decide_eq_false g0, cond_false]
  by_cases g1 : k = 1
  · rw [decide_eq_true g1, cond_true]; exact K_strip d hL hi h hC hR hw
  rw [decide_eq_false g1, cond_false]
  by_cases g2 : k = 2
  · rw [decide_eq_true g2, cond_true]; exact K_punch d hL hi h hC hR hw
  rw [decide_eq_false g2, cond_false]
  by_cases g3 : k = 3
  · rw [decide_eq_true g3, cond_true]; exact K_seal d hL hi h hC hR hw
  rw [decide_eq_false g3, cond_false]
  by_cases g4 : k = 4
  · rw [decide_eq_true g4, cond_true]; exact K_lose d hL hi h hC hR hw
  rw [decide_eq_false g4, cond_false]
  by_cases g5 : k = 5
  · rw [decide_eq_true g5, cond_true]; exact K_tear d hL hi h hC hR hw
  rw [decide_eq_false g5, cond_false]
  by_cases g6 : k = 6
  · rw [decide_eq_true g6, cond_true]; exact K_damage d hL hi h hC hR hw
  rw [decide_eq_false g6, cond_false]
  by_cases g7 : k = 7
  · rw [decide_eq_true g7, cond_true]; exact K_byteOf d hL hi h hC hR hw
  rw [decide_eq_false g7, cond_false]
  by_cases g8 : k = 8
  · rw [decide_eq_true g8, cond_true]; exact K_head d hL hi h hC hR hw
  rw [decide_eq_false g8, cond_false]
  by_cases g9 : k = 9
  · rw [decide_eq_true g9, cond_true]; exact K_sum d hL hi h hC hR hw
  rw [decide_eq_false g9, cond_false]
  by_cases g10 : k = 10
  · rw [decide_eq_true g10, cond_true]; exact K_read d hL hi h hC hR hw
  rw [decide_eq_false g10, cond_false]
  by_cases g11 : k = 11
  · rw [decide_eq_true g11, cond_true]; exact K_whole d hL hi h hC hR hw
  rw [decide_eq_false g11, cond_false]
  by_cases g12 : k = 12
  · rw [decide_eq_true g12, cond_true]; exact K_finding d hL hi h hC hR hw
  rw [decide_eq_false g12, cond_false]
  by_cases g13 : k = 13
  · rw [decide_eq_true g13, cond_true]; exact K_told d hL hi h hC hR hw
  rw [decide_eq_false g13, cond_false]
  by_cases g14 : k = 14
  · rw [decide_eq_true g14, cond_true]; exact K_instrument d hL hi h hC hR hw
  rw [decide_eq_false g14, cond_false]
  by_cases g15 : k = 15
  · rw [decide_eq_true g15, cond_true]; exact K_couple d hL hi h hC hR hw
  rw [decide_eq_false g15, cond_false]
  by_cases g16 : k = 16
  · rw [decide_eq_true g16, cond_true]; exact K_chest d hL hi h hC hR hw
  rw [decide_eq_false g16, cond_false]
  by_cases g17 : k = 17
  · rw [decide_eq_true g17, cond_true]; exact K_place d hL hi h hC hR hw
  rw [decide_eq_false g17, cond_false]
  by_cases g18 : k = 18
  · rw [decide_eq_true g18, cond_true]; exact K_wire d hL hi h hC hR hw
  rw [decide_eq_false g18, cond_false]
  by_cases g19 : k = 19
  · rw [decide_eq_true g19, cond_true]; exact K_spoil d hL hi h hC hR hw
  rw [decide_eq_false g19, cond_false]
  by_cases g20 : k = 20
  · rw [decide_eq_true g20, cond_true]; exact K_tune d hL hi h hC hR hw
  rw [decide_eq_false g20, cond_false]
  by_cases g21 : k = 21
  · rw [decide_eq_true g21, cond_true]; exact K_base d hL hi h hC hR hw
  rw [decide_eq_false g21, cond_false]
  by_cases g22 : k = 22
  · rw [decide_eq_true g22, cond_true]; exact K_frequency d hL hi h hC hR hw
  rw [decide_eq_false g22, cond_false]
  by_cases g23 : k = 23
  · rw [decide_eq_true g23, cond_true]; exact K_mute d hL hi h hC hR hw
  rw [decide_eq_false g23, cond_false]
  by_cases g24 : k = 24
  · rw [decide_eq_true g24, cond_true]; exact K_higher d hL hi h hC hR hw
  rw [decide_eq_false g24, cond_false]
  by_cases g25 : k = 25
  · rw [decide_eq_true g25, cond_true]; exact K_play d hL hi h hC hR hw
  rw [decide_eq_false g25, cond_false]
  by_cases g26 : k = 26
  · rw [decide_eq_true g26, cond_true]; exact K_tick d hL hi h hC hR hw
  rw [decide_eq_false g26, cond_false]
  by_cases g27 : k = 27
  · rw [decide_eq_true g27, cond_true]; exact K_halt d hL hi h hC hR hw
  rw [decide_eq_false g27, cond_false]
  by_cases g28 : k = 28
  · rw [decide_eq_true g28, cond_true]; exact K_back d hL hi h hC hR hw
  rw [decide_eq_false g28, cond_false]
  by_cases g29 : k = 29
  · rw [decide_eq_true g29, cond_true]; exact K_open d hL hi h hC hR hw
  rw [decide_eq_false g29, cond_false]
  by_cases g30 : k = 30
  · rw [decide_eq_true g30, cond_true]; exact K_sounding d hL hi h hC hR hw
  rw [decide_eq_false g30, cond_false]
  by_cases g31 : k = 31
  · rw [decide_eq_true g31, cond_true]; exact K_loud d hL hi h hC hR hw
  rw [decide_eq_false g31, cond_false]
  by_cases g32 : k = 32
  · rw [decide_eq_true g32, cond_true]; exact K_level d hL hi h hC hR hw
  rw [decide_eq_false g32, cond_false]
  by_cases g33 : k = 33
  · rw [decide_eq_true g33, cond_true]; exact K_stop d hL hi h hC hR hw
  rw [decide_eq_false g33, cond_false]
  by_cases g34 : k = 34
  · rw [decide_eq_true g34, cond_true]; exact K_at d hL hi h hC hR hw
  rw [decide_eq_false g34, cond_false]
  by_cases g35 : k = 35
  · rw [decide_eq_true g35, cond_true]; exact K_times d hL hi h hC hR hw
  rw [decide_eq_false g35, cond_false]
  by_cases g36 : k = 36
  · rw [decide_eq_true g36, cond_true]; exact K_event d hL hi h hC hR hw
  rw [decide_eq_false g36, cond_false]
  by_cases g37 : k = 37
  · rw [decide_eq_true g37, cond_true]; exact K_cut d hL hi h hC hR hw
  rw [decide_eq_false g37, cond_false]
  by_cases g38 : k = 38
  · rw [decide_eq_true g38, cond_true]; exact K_join d hL hi h hC hR hw
  rw [decide_eq_false g38, cond_false]
  by_cases g39 : k = 39
  · rw [decide_eq_true g39, cond_true]; exact K_repeat d hL hi h hC hR hw
  rw [decide_eq_false g39, cond_false]
  by_cases g40 : k = 40
  · rw [decide_eq_true g40, cond_true]; exact K_move d hL hi h hC hR hw
  rw [decide_eq_false g40, cond_false]
  by_cases g41 : k = 41
  · rw [decide_eq_true g41, cond_true]; exact K_copy d hL hi h hC hR hw
  rw [decide_eq_false g41, cond_false]
  by_cases g42 : k = 42
  · rw [decide_eq_true g42, cond_true]; exact K_transpose d hL hi h hC hR hw
  rw [decide_eq_false g42, cond_false]
  by_cases g43 : k = 43
  · rw [decide_eq_true g43, cond_true]; exact K_fallen d hL hi h hC hR hw
  rw [decide_eq_false g43, cond_false]
  by_cases g44 : k = 44
  · rw [decide_eq_true g44, cond_true]; exact K_mend d hL hi h hC hR hw
  rw [decide_eq_false g44, cond_false]
  by_cases g45 : k = 45
  · rw [decide_eq_true g45, cond_true]; exact K_equal d hL hi h hC hR hw
  rw [decide_eq_false g45, cond_false]
  by_cases g46 : k = 46
  · rw [decide_eq_true g46, cond_true]; exact K_digest d hL hi h hC hR hw
  rw [decide_eq_false g46, cond_false]
  by_cases g47 : k = 47
  · rw [decide_eq_true g47, cond_true]; exact K_count d hL hi h hC hR hw
  rw [decide_eq_false g47, cond_false]
  by_cases g48 : k = 48
  · rw [decide_eq_true g48, cond_true]; exact K_strips d hL hi h hC hR hw
  rw [decide_eq_false g48, cond_false]
  by_cases g49 : k = 49
  · rw [decide_eq_true g49, cond_true]; exact K_members d hL hi h hC hR hw
  rw [decide_eq_false g49, cond_false]
  by_cases g50 : k = 50
  · rw [decide_eq_true g50, cond_true]; exact K_trace d hL hi h hC hR hw
  rw [decide_eq_false g50, cond_false]
  by_cases g51 : k = 51
  · rw [decide_eq_true g51, cond_true]; exact K_status d hL hi h hC hR hw
  rw [decide_eq_false g51, cond_false]
  exact ⟨M, W, al, c1990 d i M, hC, hR, hw, h, [], (List.append_nil _).symm, by rw [List.length_nil]; omega, by show 0 + _ + _ ≤ _; omega⟩
theorem law_loop (d : Nat) {L : Nat} (hL : L ≤ 4096) : ∀ (n i : Nat) (W : zW) (al : Nat → Nat) (M : zM), (L - i) / 8 = n → i < 100000 → z_hd zQ M 56 = some (20, L) → SC W al M → SR W M → SW W → ∃ M', z_denF zQ (d + 60 + 1) mW_law (18, [some (.ref 56), some (.ref 1), some (.ref 15), some (.int (zn i))], [], M) = some (some (.int 1), M') ∧ ∃ l, M'.1 = M.1 ++ l ∧ l.length + 3 * gN (wwG W) + yqK (wwP W) ≤ 8 * n + 1701 ∧ zsm l + 2100 * gN (wwG W) + 523 * yqK (wwP W) ≤ 8264 * n + 1102023
  | 0, i, W, al, M, hn, hi, h, hC, hR, hw => by
    have hln : z_ln zQ M 56 = L := by unfold z_ln; rw [h]
    have hc : z_cls zQ M 56 [20] = true := by rw [z_cls_of h]; rfl
    have e : (zn L - 8).toInt = (L : Int) - 8 := by
      rw [nL_8, tI_sub] <;> rw [zn_toInt (by omega), zn_toInt (by omega)] <;> omega
    have hx : z_lt ((Int32.ofNat (z_ln zQ M 56)) - 8) (zn i) = true := by
      rw [hln, show Int32.ofNat L = zn L from (zn_eq L).symm, z_lt_iff, e, zn_toInt (by omega)]
      exact decide_eq_true (by omega)
    have g1 := hw.1.2.1
    have g2 := hC.2.2.2.2.1.2.1.1
    refine ⟨M, by rw [L_W_law_18, hc, cond_true, hx, cond_true], [], (List.append_nil _).symm, ?_, ?_⟩
    · rw [List.length_nil]; omega
    · show 0 + _ + _ ≤ _
      omega
  | n + 1, i, W, al, M, hn, hi, h, hC, hR, hw => by
    obtain ⟨M2, W', al', q1, q2, q3, q4, q5, l, q6, q7, q8⟩ := law_case d (i := i) hL (by omega) h hC hR hw
    obtain ⟨M', p1, l', p2, p3, p4⟩ := law_loop d hL n (i + 8) W' al' M2 (by omega) (by omega) q5 q2 q3 q4
    refine ⟨M', by rw [q1]; exact p1, l ++ l', by rw [p2, q6, List.append_assoc], ?_, ?_⟩
    · rw [List.length_append]; omega
    · rw [zsm_app]; omega
