/-! S LEVEL: how loud, the reference; loud as a step. -/
def lbQ (s : Nat) : List Nat := if s = 2 then [1, 0, 6, 7] else lbF s
theorem lbQ_eq (s : Nat) (M : zM) (j : Nat) : zI (zbs 39 (lbQ s) M) 39 j = zI (zbs 39 (lbF s) M) 39 j := by
  unfold lbQ
  by_cases g : s = 2
  · rw [if_pos g]
    subst g
    show zI (zbp 39 7 (zbp 39 6 (zbp 39 0 (zbp 39 1 M)))) 39 j = zI (zbp 39 6 (zbp 39 7 (zbp 39 0 (zbp 39 1 M)))) 39 j
    generalize zbp 39 0 (zbp 39 1 M) = N
    unfold zbp
    by_cases e7 : j = 7
    · subst e7
      rw [zI_wI_s, zI_wI_k (by omega), zI_wI_k (by omega), zI_wI_s]
    · rw [zI_wI_k e7]
      by_cases e6 : j = 6
      · subst e6
        rw [zI_wI_s, zI_wI_s, zI_wI_k (by omega)]
      · rw [zI_wI_k e6, zI_wI_k e6, zI_wI_k e7]
  · rw [if_neg g]
theorem L_air (d : Nat) {B : zM} {g : Int32} {i s : Nat} (hi : i < 60) (hs : s ≤ 6) (h26 : zI B 26 i = zn s) (h45 : ∀ c, c < 16 → zI B 45 c = bI (btF g c)) : ∀ (r c a : Nat), c + r = 16 → z_denF zQ (d + 1) mQ_airOf (15, [some (.ref 15), some (.int (zn i)), some (.int (zn a)), some (.int (zn c))], [], B) = (if s = 2 then some (some (.int (2 * zn (a + cnB g r c))), zbp 39 7 B) else some (some (.int (zn (a + cnB g r c))), B))
  | 0, c, a, hc => by
    have e0 : cnB g 0 c = 0 := rfl
    rw [L_Q_airOf_15, show z_le (16 : Int32) (zn c) = true by rw [nL_16]; exact z_le_T (by omega) (by omega), cond_true, z_ix_T hi (by omega), cond_true, zn_N (by omega), h26, ne_lit (by omega) (by omega) nL_2, e0, Nat.add_zero]
    by_cases g2 : s = 2
    · rw [decide_eq_false (fun q => q g2), cond_false, if_pos g2, ix_L nL_7 (by omega) (by omega), cond_true, cond_true, tn_lit nL_7 (by omega), bp_1]
    · rw [decide_eq_true (p := s ≠ 2) g2, cond_true, if_neg g2]
  | r + 1, c, a, hc => by
    have hcn := cnB_le g r (c + 1)
    rw [L_Q_airOf_15, show z_le (16 : Int32) (zn c) = false by rw [nL_16]; exact z_le_F (by omega) (by omega), cond_false, z_ix_T (by omega) (by omega), cond_true, zn_N (by omega), h45 c (by omega), bI_eq0, zn_1, zn_1, Int32.add_zero]
    unfold cnB
    cases gb : btF g c
    · rw [show (!false) = true from rfl, cond_true, if_neg (c := false = true) Bool.false_ne_true, Nat.zero_add]
      exact L_air d hi hs h26 h45 r (c + 1) a (by omega)
    · rw [show (!true) = false from rfl, cond_false, if_pos (c := true = true) rfl, L_air d hi hs h26 h45 r (c + 1) (a + 1) (by omega), show a + 1 + cnB g r (c + 1) = a + (1 + cnB g r (c + 1)) by omega]
theorem r_air (d : Nat) {B : zM} {g : Int32} {i s : Nat} (hi : i < 60) (hs : s ≤ 6) (h26 : zI B 26 i = zn s) (h45 : ∀ c, c < 16 → zI B 45 c = bI (btF g c)) : z_den zQ (d + 1) mQ_airOf [.ref 15, .int (zn i)] B = (if s = 2 then some (some (.int (2 * zn (3 + cnB g 16 0))), zbp 39 7 (zbp 39 6 B)) else some (some (.int (zn (3 + cnB g 16 0))), zbp 39 6 B)) := by
  have e26 : zI (zbp 39 6 B) 26 i = zn s := by unfold zbp; rw [zI_wI_a (by omega)]; exact h26
  have e45 : ∀ c, c < 16 → zI (zbp 39 6 B) 45 c = bI (btF g c) := fun c hc => by unfold zbp; rw [zI_wI_a (by omega)]; exact h45 c hc
  rw [B_Q_airOf, ix_L nL_6 (by omega) (by omega), cond_true, cond_true, tn_lit nL_6 (by omega), bp_1, nL_3, nL_0, L_air d hi hs e26 e45 16 0 3 rfl]
theorem r_loudn (d : Nat) {B : zM} {g : Int32} {i s : Nat} (hi : i < 60) (hs : s ≤ 6) (h26 : zI B 26 i = zn s) (h45 : ∀ c, c < 16 → zI B 45 c = bI (btF g c)) (lv age : Int32) : z_den zQ (d + 2) mQ_loudOf [.ref 15, .int (zn i), .int lv, .int age] B = some (some (.int (loV s lv age (cnB g 16 0))), zbs 39 (lbQ s) B) := by
  have z0 : z_ix (0 : Int32) 17 = true := ix_L nL_0 (by omega) (by omega)
  have z1 : z_ix (1 : Int32) 17 = true := ix_L nL_1 (by omega) (by omega)
  have z2 : z_ix (2 : Int32) 17 = true := ix_L nL_2 (by omega) (by omega)
  have z3 : z_ix (3 : Int32) 17 = true := ix_L nL_3 (by omega) (by omega)
  have z4 : z_ix (4 : Int32) 17 = true := ix_L nL_4 (by omega) (by omega)
  have z5 : z_ix (5 : Int32) 17 = true := ix_L nL_5 (by omega) (by omega)
  have n0 := tn_lit nL_0 (by omega)
  have n1 := tn_lit nL_1 (by omega)
  have n2 := tn_lit nL_2 (by omega)
  have n3 := tn_lit nL_3 (by omega)
  have n4 := tn_lit nL_4 (by omega)
  have n5 := tn_lit nL_5 (by omega)
  have e26 : ∀ l, zI (zbs 39 l B) 26 i = zn s := fun l => by rw [zbs_I (by omega)]; exact h26
  have e45 : ∀ l c, c < 16 → zI (zbs 39 l B) 45 c = bI (btF g c) := fun l c hc => by rw [zbs_I (by omega)]; exact h45 c hc
  have ea0 := r_air d hi hs (e26 [0]) (e45 [0])
  have ea1 := r_air d hi hs (e26 [1, 0]) (e45 [1, 0])
  have ea0 : z_den zQ (d + 1) mQ_airOf [.ref 15, .int (zn i)] (zbp 39 0 B) = _ := ea0
  have ea1 : z_den zQ (d + 1) mQ_airOf [.ref 15, .int (zn i)] (zbp 39 0 (zbp 39 1 B)) = _ := ea1
  rw [B_Q_loudOf, z_ix_T hi (by omega), cond_true, zn_N (by omega), h26, eq_lit (by omega) (by omega) nL_0, eq_lit (by omega) (by omega) nL_1, eq_lit (by omega) (by omega) nL_2, eq_lit (by omega) (by omega) nL_3, eq_lit (by omega) (by omega) nL_4, eq_lit (by omega) (by omega) nL_5, z0, z1, z2, z3, z4, z5, n0, n1, n2, n3, n4, n5, bp_1, bp_1, bp_1, bp_1, bp_1, bp_1, bp_1, bp_1, ea0, ea1, show z_ne (4 : Int32) 0 = true by rw [z_ne_eq]; rfl]
  have : s = 0 ∨ s = 1 ∨ s = 2 ∨ s = 3 ∨ s = 4 ∨ s = 5 ∨ s = 6 := by omega
  rcases this with e | e | e | e | e | e | e
  · subst e; rfl
  · subst e; rfl
  · subst e; rfl
  · subst e
    show (bif z_ne age 0 then _ else _) = some (some (Value.int (bif z_ne age 0 then 0 else 2 * lv)), _)
    cases z_ne age 0 <;> rfl
  · subst e
    show (bif z_le (lv - 5 * age) 0 then _ else _) = some (some (Value.int (bif z_le (lv - 5 * age) 0 then 0 else lv - 5 * age)), _)
    cases z_le (lv - 5 * age) 0 <;> rfl
  · subst e
    show (bif z_le (lv - 5 * (age / 4)) 0 then _ else _) = some (some (Value.int ((bif z_le (lv - 5 * (age / 4)) 0 then 0 else lv - 5 * (age / 4)) + 1)), _)
    cases z_le (lv - 5 * (age / 4)) 0 <;> rfl
  · subst e; rfl
/-! the act -/
theorem c_loudR (d : Nat) {J : zJ} {A : zM} {S : yR} {l : yL} {k : Nat} (w : wJ J) (hj : cJ J A) (hl : okL (jN J) l) (hY : cY (yG S) l (fun j => zI A 11 j)) (h16 : ∀ c, 16 ≤ c → c < 32 → btF (yG S 8) c = false) (hk : k < l.length) : (z_bI (z_den zQ (d + 59) mO_trackOf [.int (enS (l.getD k s0))] A) (fun x9 M10 => bif z_ix (15 + x9) 523 then bif z_ix 8 523 then z_bI (z_den zQ (d + 59) mJi_bitCount [.int (zI M10 11 (Int32.toNatClampNeg 8))] M10) (fun x11 M12 => z_bI (z_den zQ (d + 59) mO_ageOf [.ref 3, .int (enS (l.getD k s0))] M12) (fun x13 M14 => bif z_okU zQ M14 (zP zQ A 4 (l.getD k s0).1) [(0, 144), (1, 156), (2, 161), (3, 150), (5, 141), (6, 152), (7, 144)] then z_bI (z_den zQ (d + 59) (z_selU zQ M14 (zP zQ A 4 (l.getD k s0).1) [(0, 144), (1, 156), (2, 161), (3, 150), (5, 141), (6, 152), (7, 144)]) [.ref (zP zQ A 4 (l.getD k s0).1), .int (zI M10 11 (Int32.toNatClampNeg (15 + x9))), .int x13, .int x11, .ref 10] M14) (fun x15 M16 => z_bI (z_den zQ (d + 59) mP_done [.ref 1, .int x15] M16) (fun x17 M18 => some (some (.int x17), M18))) else none)) else none else none) : zR) = some (some (.int (loV (jS J (l.getD k s0).1) (yG S (15 + (l.getD k s0).2.1)) (yG S 3 - zn (l.getD k s0).2.2) (cnB (yG S 8) 16 0))), z_wI (zbs 10 (lbF (jS J (l.getD k s0).1)) A) 1 7 0) := by
  have hs := ok_at hl hk
  obtain ⟨s1, s2, s3⟩ := hs
  have w0 := w.1
  have w1 := (w.2.2.2 _ s1).1
  obtain ⟨q1, -⟩ := hj.2.2.1 _ s1
  have ms := ml_ok w1
  have e15 : (15 : Int32) + zn (l.getD k s0).2.1 = zn (15 + (l.getD k s0).2.1) := by rw [nL_15, zn_add]
  have f8 : zI A 11 8 = yG S 8 := hY.1 8 (by omega) (by omega)
  have f3 : zI A 11 3 = yG S 3 := hY.1 3 (by omega) (by omega)
  have f15 : zI A 11 (15 + (l.getD k s0).2.1) = yG S (15 + (l.getD k s0).2.1) := hY.1 _ (by omega) (by omega)
  have hcn := cnB_le (yG S 8) 16 0
  rw [B_O_trackOf, en_t ⟨s1, s2, s3⟩ hl.1, z_bI_some, e15, z_ix_T (by omega) (by omega), cond_true, ix_L nL_8 (by omega) (by omega), cond_true, tn_lit nL_8 (by omega), f8, c_bc16 _ A h16, z_bI_some, B_O_ageOf, ix_L nL_3 (by omega) (by omega), cond_true, tn_lit nL_3 (by omega), f3, en_s ⟨s1, s2, s3⟩ hl.1, z_bI_some, okU_of q1, selU_of q1, show z_has [(0, 144), (1, 156), (2, 161), (3, 150), (5, 141), (6, 152), (7, 144)] (tgF (jS J (l.getD k s0).1)) = true from ms.1, cond_true, show z_sel [(0, 144), (1, 156), (2, 161), (3, 150), (5, 141), (6, 152), (7, 144)] (tgF (jS J (l.getD k s0).1)) = mlF (jS J (l.getD k s0).1) from ms.2, zn_N (by omega), f15, c_loudn (d + 55) A w1 q1 _ _ (by omega), z_bI_some, B_P_done, z_bI_some]
theorem trR_lb {B M' : zM} {tr : List Nat} (h : trR B tr M') (s : Nat) : ∀ j, j < 17 → zI (zbs 39 (lbQ s) M') 39 j = zI (zbs 39 (tr ++ lbF s) B) 39 j := fun j hj => by
  rw [lbQ_eq, zbs_app]
  exact zbs_two _ _ _ h j hj
theorem S_loud (d : Nat) {W : zW} {al : Nat → Nat} {M : zM} (hC : SC W al M) (hR : SR W M) (hw : SW W) (x : Int32) : Step tvI W M (z_den zQ (d + 60) mP_loud [.ref 1, .int x] M) (fun B => z_den zQ (d + 60) mQ_loud [.ref 15, .int x] B) := by
  have hP := hC.2.2.2.2.1.1
  have hA := cP_eq hP
  obtain ⟨hiv, -⟩ := SW_iv hw
  have hl := hiv.1
  have hl2 := hl.2.1
  have wj := hw.2.2.1
  have hj := hC.2.2.1
  have w0 := wj.1
  have e14 : zI M 11 14 = zn (yqL (wwP W)).length := hP.1.2.1
  rcases zn_cases x with hk | ⟨k, hk, rfl⟩
  · have e : z_le (0 : Int32) x = false := by rw [z_le_iff, toI_0]; exact decide_eq_false (by omega)
    refine sim_st (v := (-1)) (st := -1) hC hR hw ?_ (fun B hB => ?_)
    · rw [B_P_loud, e, cond_false, B_P_refuse, z_bI_some]
    · rw [B_Q_loud, e, cond_false, B_Q_no, z_bI_some]
  · by_cases gk : k < (yqL (wwP W)).length
    · have hs := ok_at hl gk
      obtain ⟨s1, s2, s3⟩ := hs
      have o1 := c_sndAt (d + 58) (A := M) (S := yqS (wwP W)) hP.1 hl2 gk
      rw [← hA] at o1
      have nz := cJ_nz hj s1
      have hc := c_cls wj hj s1
      have g3 := (hj.2.2.1 _ s1).2.2.1
      have w1 := (wj.2.2.2 _ s1).1
      have head : z_den zQ (d + 60) mP_loud [.ref 1, .int (zn k)] M = (bif decide (jS (wwJ W) ((yqL (wwP W)).getD k s0).1 = 3) then (z_bI (z_den zQ (d + 59) mO_trackOf [.int (enS ((yqL (wwP W)).getD k s0))] M) (fun x9 M10 => bif z_ix (15 + x9) 523 then bif z_ix 8 523 then z_bI (z_den zQ (d + 59) mJi_bitCount [.int (zI M10 11 (Int32.toNatClampNeg 8))] M10) (fun x11 M12 => z_bI (z_den zQ (d + 59) mO_ageOf [.ref 3, .int (enS ((yqL (wwP W)).getD k s0))] M12) (fun x13 M14 => bif z_okU zQ M14 (zP zQ M 4 ((yqL (wwP W)).getD k s0).1) [(0, 144), (1, 156), (2, 161), (3, 150), (5, 141), (6, 152), (7, 144)] then z_bI (z_den zQ (d + 59) (z_selU zQ M14 (zP zQ M 4 ((yqL (wwP W)).getD k s0).1) [(0, 144), (1, 156), (2, 161), (3, 150), (5, 141), (6, 152), (7, 144)]) [.ref (zP zQ M 4 ((yqL (wwP W)).getD k s0).1), .int (zI M10 11 (Int32.toNatClampNeg (15 + x9))), .int x13, .int x11, .ref 10] M14) (fun x15 M16 => z_bI (z_den zQ (d + 59) mP_done [.ref 1, .int x15] M16) (fun x17 M18 => some (some (.int x17), M18))) else none)) else none else none)) else (z_bD (z_den zQ (d + 59) mO_pitchOf [.ref 3, .ref (zP zQ M 4 ((yqL (wwP W)).getD k s0).1)] M) (fun x19 M20 => bif z_le 0 (zf_cmp.1 .g x19 0) then (z_bI (z_den zQ (d + 59) mO_trackOf [.int (enS ((yqL (wwP W)).getD k s0))] M20) (fun x21 M22 => bif z_ix (15 + x21) 523 then bif z_ix 8 523 then z_bI (z_den zQ (d + 59) mJi_bitCount [.int (zI M22 11 (Int32.toNatClampNeg 8))] M22) (fun x23 M24 => z_bI (z_den zQ (d + 59) mO_ageOf [.ref 3, .int (enS ((yqL (wwP W)).getD k s0))] M24) (fun x25 M26 => bif z_okU zQ M26 (zP zQ M 4 ((yqL (wwP W)).getD k s0).1) [(0, 144), (1, 156), (2, 161), (3, 150), (5, 141), (6, 152), (7, 144)] then z_bI (z_den zQ (d + 59) (z_selU zQ M26 (zP zQ M 4 ((yqL (wwP W)).getD k s0).1) [(0, 144), (1, 156), (2, 161), (3, 150), (5, 141), (6, 152), (7, 144)]) [.ref (zP zQ M 4 ((yqL (wwP W)).getD k s0).1), .int (zI M22 11 (Int32.toNatClampNeg (15 + x21))), .int x25, .int x23, .ref 10] M26) (fun x27 M28 => z_bI (z_den zQ (d + 59) mP_done [.ref 1, .int x27] M28) (fun x29 M30 => some (some (.int x29), M30))) else none)) else none else none)) else (z_bI (z_den zQ (d + 59) mP_done [.ref 1, .int 0] M20) (fun x31 M32 => some (some (.int x31), M32)))))) := by
        rw [B_P_loud, le_0n hk, cond_true, ix_L nL_14 (by omega) (by omega), cond_true, tn_lit nL_14 (by omega), e14, z_lt_T gk (by omega), cond_true, o1, z_bI_some, B_O_instrumentOf, en_i ⟨s1, s2, s3⟩ hl.1, z_bI_some, c_insAt _ wj s1, z_bR_some, z_bq_F nz, cond_false, hc, cond_true, g3, eq_lit (by omega) (by omega) nL_3]
      have hQs : ∀ B, SR W B → zI B 46 k = zn ((yqL (wwP W)).getD k s0).1 ∧ zI B 47 k = zn ((yqL (wwP W)).getD k s0).2.1 ∧ zI B 48 k = zn ((yqL (wwP W)).getD k s0).2.2 ∧ zI B 15 52 = zn (yqL (wwP W)).length ∧ zI B 15 48 = yG (yqS (wwP W)) 3 ∧ zI B 44 ((yqL (wwP W)).getD k s0).2.1 = yG (yqS (wwP W)) (15 + ((yqL (wwP W)).getD k s0).2.1) ∧ zI B 26 ((yqL (wwP W)).getD k s0).1 = zn (jS (wwJ W) ((yqL (wwP W)).getD k s0).1) ∧ ∀ c, c < 16 → zI B 45 c = bI (btF (yG (yqS (wwP W)) 8) c) := fun B hB => by
        have hY := hB.2.2.2.2.1.1
        obtain ⟨a, b, c⟩ := hY.2.1.2 k gk
        exact ⟨a, b, c, hY.2.1.1, hY.1.2.1, hY.2.2.2.2.2.1 _ s2, (hB.2.2.1.2.2.1 _ s1).1, hY.2.2.2.2.1⟩
      by_cases h3 : jS (wwJ W) ((yqL (wwP W)).getD k s0).1 = 3
      · rw [decide_eq_true h3, cond_true, c_loudR d wj hj hl hP.1 hiv.2.2.1 gk] at head
        rw [head]
        refine sim_I (c := 0) (s := 0) (res := (.int (loV (jS (wwJ W) ((yqL (wwP W)).getD k s0).1) (yG (yqS (wwP W)) (15 + ((yqL (wwP W)).getD k s0).2.1)) (yG (yqS (wwP W)) 3 - zn ((yqL (wwP W)).getD k s0).2.2) (cnB (yG (yqS (wwP W)) 8) 16 0)), 0, wwJ W, lbF (jS (wwJ W) ((yqL (wwP W)).getD k s0).1))) hC hR hw (cRI_bs wj hj _ _ _) (fun B hB => ?_) (jOk_r wj) (by omega) (by omega) ⟨_, rfl⟩
        obtain ⟨b1, b2, b3, b4, b5, b6, b7, b8⟩ := hQs B hB
        have fr := zbs_xq (lbQ (jS (wwJ W) ((yqL (wwP W)).getD k s0).1)) B
        have f3 : zFr 0 0 xrI (zbs 39 (lbQ (jS (wwJ W) ((yqL (wwP W)).getD k s0).1)) B) (z_wI (zbs 39 (lbQ (jS (wwJ W) ((yqL (wwP W)).getD k s0).1)) B) 15 0 0) := zFr_wI (X := xrI) (Or.inl ⟨rfl, Or.inl rfl⟩)
        refine ⟨z_wI (zbs 39 (lbQ (jS (wwJ W) ((yqL (wwP W)).getD k s0).1)) B) 15 0 0, ?_, rJ_st (rJ_fr hB.2.2.1 fr) 0, zI_wI_s .., fun j hj => ?_, zFr_trans (xq_xrI fr) f3 (fun _ _ _ e => e)⟩
        · rw [B_Q_loud, le_0n hk, cond_true, b4, z_lt_T gk (by omega), cond_true, z_ix_T (by omega) (by omega), cond_true, zn_N hk, b1, z_ix_T (by omega) (by omega), cond_true, zn_N (by omega), b7, eq_lit (by omega) (by omega) nL_3, decide_eq_true h3, cond_true, show z_eq (0 : Int32) 0 = true by rw [z_eq_eq]; rfl, cond_true, cond_true, b2, z_ix_T (by omega) (by omega), cond_true, cond_true, zn_N (by omega), b6, b5, b3, r_loudn (d + 57) (by omega) w1 b7 b8, z_bI_some, B_Q_well, z_bI_some]
        · rw [zI_wI_a (by omega)]; exact lbQ_eq _ _ _
      · rw [decide_eq_false h3, cond_false, c_pOf (d + 14) wj hj s1, z_bD_some] at head
        have hj' := cJ_bs hj (pvJ (wwJ W) ((yqL (wwP W)).getD k s0).1).2 wj
        cases ho : (pvJ (wwJ W) ((yqL (wwP W)).getD k s0).1).1 with
        | none =>
          rw [ho, dO_neg, cond_false, B_P_done, z_bI_some] at head
          rw [head]
          refine sim_I (c := 0) (s := 0) (res := (.int 0, 0, wwJ W, (pvJ (wwJ W) ((yqL (wwP W)).getD k s0).1).2)) hC hR hw (cRI_bs wj hj _ _ _) (fun B hB => ?_) (jOk_r wj) (by omega) (by omega) ⟨_, rfl⟩
          obtain ⟨b1, b2, b3, b4, b5, b6, b7, b8⟩ := hQs B hB
          obtain ⟨l2, B', q1, q2, q3, q4⟩ := r_fOf (d + 55) wj hB.2.2.1 s1
          rw [ho] at q3
          have q3 : zI B' 15 35 = zn 1 := q3
          have f3 : zFr 0 0 xrI B' (z_wI B' 15 0 0) := zFr_wI (X := xrI) (Or.inl ⟨rfl, Or.inl rfl⟩)
          refine ⟨z_wI B' 15 0 0, ?_, rJ_st (rJ_fr hB.2.2.1 q2) 0, zI_wI_s .., fun j hj => by rw [zI_wI_a (by omega)]; exact q4 j hj, zFr_trans (xq_xrI q2) f3 (fun _ _ _ e => e)⟩
          rw [B_Q_loud, le_0n hk, cond_true, b4, z_lt_T gk (by omega), cond_true, z_ix_T (by omega) (by omega), cond_true, zn_N hk, b1, z_ix_T (by omega) (by omega), cond_true, zn_N (by omega), b7, eq_lit (by omega) (by omega) nL_3, decide_eq_false h3, cond_false, q1, z_bD_some, q3, z_eq_10, cond_false, B_Q_well, z_bI_some]
        | some v =>
          have hYb : cY (yG (yqS (wwP W))) (yqL (wwP W)) (fun j => zI (zbs 10 (pvJ (wwJ W) ((yqL (wwP W)).getD k s0).1).2 M) 11 j) := cY_cg hP.1 (fun j _ => by show zI (zbs 10 _ M) 11 j = zI M 11 j; rw [zbs_I (by omega)])
          have eL := c_loudR d wj hj' hl hYb hiv.2.2.1 gk
          rw [zbs_P] at eL
          rw [ho] at head
          have head : z_den zQ (d + 60) mP_loud [.ref 1, .int (zn k)] M = (bif z_le 0 (zf_cmp.1 .g v 0) then _ else _) := head
          rw [zc_ge0 _ (oP_J wj s1 v ho), cond_true, eL, ← zbs_app] at head
          rw [head]
          refine sim_I (c := 0) (s := 0) (res := (.int (loV (jS (wwJ W) ((yqL (wwP W)).getD k s0).1) (yG (yqS (wwP W)) (15 + ((yqL (wwP W)).getD k s0).2.1)) (yG (yqS (wwP W)) 3 - zn ((yqL (wwP W)).getD k s0).2.2) (cnB (yG (yqS (wwP W)) 8) 16 0)), 0, wwJ W, (pvJ (wwJ W) ((yqL (wwP W)).getD k s0).1).2 ++ lbF (jS (wwJ W) ((yqL (wwP W)).getD k s0).1))) hC hR hw (cRI_bs wj hj _ _ _) (fun B hB => ?_) (jOk_r wj) (by omega) (by omega) ⟨_, rfl⟩
          obtain ⟨b1, b2, b3, b4, b5, b6, b7, b8⟩ := hQs B hB
          obtain ⟨l2, B', q1, q2, q3, q4⟩ := r_fOf (d + 55) wj hB.2.2.1 s1
          rw [ho] at q3
          obtain ⟨q3, -⟩ := q3
          have hnB := z_new_ge B
          have kq : ∀ a j, (a = 15 ∧ j = 48) ∨ a = 26 ∨ (44 ≤ a ∧ a ≤ 48) → zI B' a j = zI B a j := fun a j e => zFr_I q2 _ (by omega) (fun x => by unfold xq at x; omega)
          have fr := zbs_xq (lbQ (jS (wwJ W) ((yqL (wwP W)).getD k s0).1)) B'
          have f3 : zFr 0 0 xrI (zbs 39 (lbQ (jS (wwJ W) ((yqL (wwP W)).getD k s0).1)) B') (z_wI (zbs 39 (lbQ (jS (wwJ W) ((yqL (wwP W)).getD k s0).1)) B') 15 0 0) := zFr_wI (X := xrI) (Or.inl ⟨rfl, Or.inl rfl⟩)
          refine ⟨z_wI (zbs 39 (lbQ (jS (wwJ W) ((yqL (wwP W)).getD k s0).1)) B') 15 0 0, ?_, rJ_st (rJ_fr (rJ_fr hB.2.2.1 q2) fr) 0, zI_wI_s .., fun j hj => by rw [zI_wI_a (by omega)]; exact trR_lb q4 _ j hj, zFr_trans (xq_xrI (xq_tr q2 fr)) f3 (fun _ _ _ e => e)⟩
          rw [B_Q_loud, le_0n hk, cond_true, b4, z_lt_T gk (by omega), cond_true, z_ix_T (by omega) (by omega), cond_true, zn_N hk, b1, z_ix_T (by omega) (by omega), cond_true, zn_N (by omega), b7, eq_lit (by omega) (by omega) nL_3, decide_eq_false h3, cond_false, q1, z_bD_some, q3, z_eq_00, cond_true, cond_true, kq 47 k (by omega), b2, z_ix_T (by omega) (by omega), cond_true, cond_true, zn_N (by omega), kq 44 _ (by omega), b6, kq 15 48 (by omega), b5, kq 48 k (by omega), b3, r_loudn (d + 57) (by omega) w1 (by rw [kq _ _ (by omega)]; exact b7) (fun c hc => by rw [kq _ _ (by omega)]; exact b8 c hc), z_bI_some, B_Q_well, z_bI_some]
    · refine sim_st (v := (-4)) (st := 0) hC hR hw ?_ (fun B hB => ?_)
      · rw [B_P_loud, le_0n hk, cond_true, ix_L nL_14 (by omega) (by omega), cond_true, tn_lit nL_14 (by omega), e14, z_lt_F (by omega) hk, cond_false, B_P_nothingThere, z_bI_some]
      · rw [B_Q_loud, le_0n hk, cond_true, hB.2.2.2.2.1.1.2.1.1, z_lt_F (by omega) hk, cond_false, B_Q_well, z_bI_some]
