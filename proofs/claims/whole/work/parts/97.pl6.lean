/-! S LEVEL, PLAYING: an opening begins, the class. -/
theorem cJ_nr {J : zJ} {A : zM} (h : cJ J A) {i : Nat} (hi : i < jN J) : zP zQ A 4 i ≠ 10 ∧ zP zQ A 4 i ≠ 11 ∧ zP zQ A 4 i ≠ 13 := by
  have g1 := (h.2.2.1 i hi).1
  have k : ∀ c n, z_hd zQ A c = some (14, n) → zP zQ A 4 i ≠ c := by
    intro c n hc e
    rw [e, hc] at g1
    have h7 : (14 : Nat) = tgF (jS J i) := congrArg Prod.fst (Option.some.inj g1)
    unfold tgF at h7
    (repeat' split at h7) <;> omega
  exact ⟨k 10 17 rfl, k 11 523 rfl, k 13 6000 rfl⟩
theorem c_cls' {J : zJ} {A : zM} (h : cJ J A) {i : Nat} (hi : i < jN J) : z_cls zQ A (zP zQ A 4 i) [2, 0, 1, 3, 5, 6, 7] = true := by
  rw [z_cls_of (h.2.2.1 i hi).1]; unfold tgF; (repeat' split) <;> rfl
theorem c_cls2 {J : zJ} {A : zM} (w : wJ J) (h : cJ J A) {i : Nat} (hi : i < jN J) : z_cls zQ A (zP zQ A 4 i) [2] = decide (jS J i = 6) := by
  have := (w.2.2.2 i hi).1
  rw [z_cls_of (h.2.2.1 i hi).1]
  have hc : jS J i = 0 ∨ jS J i = 1 ∨ jS J i = 2 ∨ jS J i = 3 ∨ jS J i = 4 ∨ jS J i = 5 ∨ jS J i = 6 := by omega
  rcases hc with g | g | g | g | g | g | g <;> (rw [g]; rfl)
theorem yC_cls (A : zM) (f : Nat → Int32) (S : yR) (a : Nat) (al : List Nat) : z_cls zQ (yC A f S) a al = z_cls zQ A a al := rfl
theorem cY_app {g : Nat → Int32} {l : yL} {f : Nat → Int32} (h : cY g l f) (s : Nat × Nat × Nat) : cY g (l ++ [s]) (up (up f (203 + l.length) (enS s)) 14 (zn (l.length + 1))) := by
  obtain ⟨h1, h2, h3⟩ := h
  have hl : (l ++ [s]).length = l.length + 1 := by rw [List.length_append, List.length_singleton]
  refine ⟨fun j a b => by rw [up_o b, up_o (by omega)]; exact h1 j a b, by rw [up_s, hl], fun k hk => ?_⟩
  rw [hl] at hk
  rw [up_o (by omega)]
  by_cases e : k = l.length
  · subst e; rw [up_s, getD_app_e]
  · rw [up_o (by omega), getD_app_l (by omega)]; exact h3 k (by omega)
theorem Int32_eq_toInt {x y : Int32} (h : x.toInt = y.toInt) : x = y := Int32.toInt_inj.mp h
theorem en_mk {i tr go : Nat} (hi : i < 60) (ht : tr < 8) (hg : go ≤ 20000) : ((zn go <<< ((9 : Int32) &&& 31)) ||| (zn tr <<< ((6 : Int32) &&& 31))) ||| zn i = enS (i, tr, go) := by
  rw [nL_9, nL_31, nL_6, z_a31 (by omega), z_a31 (by omega), zn_shl (by omega), zn_shl (by omega)]
  have e1 : (zn (go * 2 ^ 9) ||| zn (tr * 2 ^ 6)).toInt = go * 512 + tr * 64 := by
    rw [tI_or 9 (by omega) (by rw [zn_toInt (by omega)]; omega) (by rw [zn_toInt (by omega)]; omega) (by rw [zn_toInt (by omega)]; omega), zn_toInt (by omega), zn_toInt (by omega)]; omega
  apply Int32_eq_toInt
  rw [tI_or 6 (by omega) (by rw [e1]; omega) (by rw [zn_toInt (by omega)]; omega) (by rw [zn_toInt (by omega)]; omega), e1, zn_toInt (by omega)]
  show _ = (zn (go * 512 + tr * 64 + i)).toInt
  rw [zn_toInt (by omega)]; omega
theorem ss_1 (d : Nat) {J : zJ} {A : zM} {S : yR} {f : Nat → Int32} {i : Nat} {tr dp : Int32} (w : wJ J) (h : cJ J A) (hi : i < jN J) : z_den zQ (d + 1) mO_startSound [.ref 3, .ref (zP zQ A 4 i), .int tr, .int dp] (yC A f S) = z_denF zQ (d + 1) mO_startSound (29, [some (.ref 3), some (.ref (zP zQ A 4 i)), some (.int tr), some (.int dp), none, none, none, none, none], [], yC A f (bg1 J S i)) := by
  have z14 : z_ix (14 : Int32) 17 = true := ix_L nL_14 (by omega) (by omega)
  have n14 : Int32.toNatClampNeg (14 : Int32) = 14 := by rw [nL_14]; exact zn_N (by omega)
  have z15 : z_ix (15 : Int32) 17 = true := ix_L nL_15 (by omega) (by omega)
  have n15 : Int32.toNatClampNeg (15 : Int32) = 15 := by rw [nL_15]; exact zn_N (by omega)
  rw [B_O_startSound, z14, cond_true, cond_true, n14, yC_10, yC_w10, yC_cls, yC_cls, c_cls' h hi, c_cls2 w h hi, Bool.or_true, cond_true]
  unfold bg1
  by_cases g : jS J i = 6
  · rw [decide_eq_true g, cond_true, if_pos g, show z_eq (1 : Int32) 0 = false by rw [nL_1]; exact z_eq_10, cond_false, z15, cond_true, cond_true, n15, yC_10, yC_w10]
  · rw [decide_eq_false g, cond_false, if_neg g, show z_eq (0 : Int32) 0 = true by rw [z_eq_eq]; rfl, cond_true]
theorem le0_eq (x : Int32) : z_le x 0 = decide (¬ 0 < x.toInt) := by
  rw [z_le_eq]
  by_cases g : 0 < x.toInt
  · rw [decide_eq_false (p := x ≤ 0) (fun q => by have := Int32.le_iff_toInt_le.mp q; rw [toI_0] at this; omega), decide_eq_false (p := ¬ 0 < x.toInt) (fun q => q g)]
  · rw [decide_eq_true (p := ¬ 0 < x.toInt) g, decide_eq_true (p := x ≤ 0) (Int32.le_iff_toInt_le.mpr (by rw [toI_0]; omega))]
theorem ss_2 (d : Nat) {J : zJ} {A : zM} {S : yR} {l : yL} {f : Nat → Int32} {i : Nat} {tr dp : Int32} (w : wJ J) (h : cJ J A) (hi : i < jN J) (hf : cY (yG S) l f) : ∃ f', z_denF zQ (d + 1) mO_startSound (29, [some (.ref 3), some (.ref (zP zQ A 4 i)), some (.int tr), some (.int dp), none, none, none, none, none], [], yC A f (bg1 J S i)) = z_denF zQ (d + 1) mO_startSound (64, [some (.ref 3), some (.ref (zP zQ A 4 i)), some (.int tr), some (.int dp), some (.int (yG S (23 + i))), none, none, none, none], [], yC A f' (bg2 J S i)) ∧ cY (yG (bg2 J S i)) l f' := by
  have w0 := w.1
  have nr := cJ_nr h hi
  have e0 : zI (yC A f (bg1 J S i)) (zP zQ A 4 i) 0 = zn i := by rw [yC_o nr.1 nr.2.1 nr.2.2]; exact (h.2.2.1 i hi).2.1
  have e23 : f (23 + i) = yG S (23 + i) := hf.1 _ (by omega) (by omega)
  have hb : cY (yG (bg1 J S i)) l f := by rw [b1_G]; exact hf
  rw [L_O_startSound_29, yC_cls, c_cls w h hi, cond_true, e0, nL_23, zn_add, z_ix_T (by omega) (by omega), cond_true, zn_N (by omega), yC_11, e23, le0_eq]
  unfold bg2
  by_cases g : 0 < (yG S (23 + i)).toInt
  · refine ⟨up f (23 + i) (yG S (23 + i) - 1), ?_, ?_⟩
    · rw [pif_T g, decide_eq_false (fun q => q g), cond_false, cond_true, cond_true, yC_w11, yC_G]
    · rw [pif_T g, yG_uG]; exact cY_up hb (by omega) (by omega) _
  · refine ⟨f, ?_, ?_⟩
    · rw [pif_F g, decide_eq_true g, cond_true]
    · rw [pif_F g]; exact hb
theorem ss_3 (d : Nat) {J : zJ} {A : zM} {S S2 : yR} {l : yL} {f : Nat → Int32} {i tr dp go b : Nat} {left : Int32} (w : wJ J) (h : cJ J A) (hi : i < jN J) (hf : cY (yG S2) l f) (hl : l.length < 320) (hdp : dp < 1000) (ht : tr < 8) (hgo : yG S2 3 = zn go) (hg2 : go ≤ 20000) (he : evB S2 b) (hb : b < 2147483646) (hleft : left ≠ 1) : ∃ f', z_denF zQ (d + 1 + 1) mO_startSound (64, [some (.ref 3), some (.ref (zP zQ A 4 i)), some (.int (zn tr)), some (.int (zn dp)), some (.int left), none, none, none, none], [], yC A f S2) = (if jS J i = 6 then z_denF zQ (d + 1 + 1) mO_startSound (181, [some (.ref 3), some (.ref (zP zQ A 4 i)), some (.int (zn tr)), some (.int (zn dp)), some (.int left), some (.int (zn l.length)), some (.ref (zP zQ A 4 i)), some (.int 0), none], [], yC A f' (lgF (uG S2 (83 + i) (yG S2 (83 + i) + 1)) 1 (zn i) (zn tr))) else some (some (.int 1), yC A f' (lgF (uG S2 (83 + i) (yG S2 (83 + i) + 1)) 1 (zn i) (zn tr)))) ∧ cY (yG (lgF (uG S2 (83 + i) (yG S2 (83 + i) + 1)) 1 (zn i) (zn tr))) (l ++ [(i, tr, go)]) f' := by
  have w0 := w.1
  have nr := cJ_nr h hi
  have e0 : ∀ f' S', zI (yC A f' S') (zP zQ A 4 i) 0 = zn i := fun f' S' => by rw [yC_o nr.1 nr.2.1 nr.2.2]; exact (h.2.2.1 i hi).2.1
  have e3 : f 3 = zn go := by rw [hf.1 3 (by omega) (by omega)]; exact hgo
  have e83 : f (83 + i) = yG S2 (83 + i) := hf.1 _ (by omega) (by omega)
  have e14 := hf.2.1
  have z14 : z_ix (14 : Int32) 523 = true := ix_L nL_14 (by omega) (by omega)
  have n14 : Int32.toNatClampNeg (14 : Int32) = 14 := by rw [nL_14]; exact zn_N (by omega)
  have z3 : z_ix (3 : Int32) 523 = true := ix_L nL_3 (by omega) (by omega)
  have n3 : Int32.toNatClampNeg (3 : Int32) = 3 := by rw [nL_3]; exact zn_N (by omega)
  have t1 : z_lt (zn dp) (0 : Int32) = false := by rw [nL_0]; exact z_lt_F (by omega) (by omega)
  have t2 : z_lt (zn l.length) (0 : Int32) = false := by rw [nL_0]; exact z_lt_F (by omega) (by omega)
  have t3 : z_lt (zn l.length) (320 : Int32) = true := by rw [show (320 : Int32) = zn 320 from (zn_eq 320).symm]; exact z_lt_T (by omega) (by omega)
  have t4 : z_eq left (1 : Int32) = false := by rw [z_eq_eq]; exact decide_eq_false hleft
  have t5 : (203 : Int32) + zn l.length = zn (203 + l.length) := by rw [nL_203, zn_add]
  have t6 : (83 : Int32) + zn i = zn (83 + i) := by rw [nL_83, zn_add]
  have t7 : z_ix (zn (203 + l.length)) 523 = true := z_ix_T (by omega) (by omega)
  have t8 : z_ix (zn (83 + i)) 523 = true := z_ix_T (by omega) (by omega)
  have t9 : Int32.toNatClampNeg (zn (203 + l.length)) = 203 + l.length := zn_N (by omega)
  have t10 : Int32.toNatClampNeg (zn (83 + i)) = 83 + i := zn_N (by omega)
  have hc := c_cls w h hi
  have hc2 := c_cls2 w h hi
  have hc' := c_cls' h hi
  have hm := en_mk (i := i) (tr := tr) (go := go) (by omega) ht hg2
  have hY1 := cY_app hf (i, tr, go)
  have hY2 := cY_up hY1 (k := 83 + i) (by omega) (by omega) (yG S2 (83 + i) + 1)
  have u1 : up (up f (203 + l.length) (enS (i, tr, go))) 14 (zn (l.length + 1)) (83 + i) = yG S2 (83 + i) := by rw [up_o (by omega), up_o (by omega)]; exact e83
  have he' : evB (uG S2 (83 + i) (yG S2 (83 + i) + 1)) b := by unfold evB evN; rw [yG_uG, up_o (by omega)]; exact he
  obtain ⟨f4, q1, q2⟩ := c_log d (A := A) (S := uG S2 (83 + i) (yG S2 (83 + i) + 1)) hY2 he' hb 1 (zn i) (zn tr)
  rw [yC_G] at q1
  refine ⟨f4, ?_, q2⟩
  rw [L_O_startSound_64]
  simp only [z14, cond_true, n14, t4, cond_false, t1, yC_11, e14, t2, t3, z3, n3, yC_cls, hc, e0, t5, t7, t9, yC_w11, t6, t8, t10, e3, hm, zn_1, u1, q1, z_bV_some, hc', Bool.or_true, hc2]
  by_cases g : jS J i = 6
  · rw [if_pos g]
    simp only [decide_eq_true g, cond_true, show z_eq (1 : Int32) 0 = false by rw [nL_1]; exact z_eq_10, cond_false]
  · rw [if_neg g]
    simp only [decide_eq_false g, cond_false, show z_eq (0 : Int32) 0 = true by rw [z_eq_eq]; rfl, cond_true]
