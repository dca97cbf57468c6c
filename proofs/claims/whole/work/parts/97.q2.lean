/-! S LEVEL, PLAYING: holes, the class. -/
noncomputable def hoS (S : yR) (t : Nat) : yR := uG S 7 (yG S 7 ^^^ ((1 : Int32) <<< (zn t &&& 31)))
noncomputable def hoC (H : zH) (t : Nat) : Nat := (chW H t).toNatClampNeg
def hoI (H : zH) (t : Nat) : Prop := 0 ≤ (chI H t).toInt ∧ (chI H t).toInt < (chF H ((chW H t).toNatClampNeg + 1) : Int) - chF H (chW H t).toNatClampNeg
noncomputable def hoP (H : zH) (t : Nat) : Int32 := chP H (chF H (chW H t).toNatClampNeg + (chI H t).toNatClampNeg)
noncomputable def hoO (J : zJ) (t i : Nat) (S : yR) (l : yL) : yR × yL := if (opL J t 40 [i] S l).1 = true then (opE l (opL J t 40 [i] S l), opM l (opL J t 40 [i] S l)) else (lgF (opE l (opL J t 40 [i] S l)) 3 (zn t) 10, opM l (opL J t 40 [i] S l))
noncomputable def hoF (J : zJ) (H : zH) (t : Nat) (p : Bool) (S : yR) (l : yL) : yR × yL := if btF (yG S 7) t = p then (S, l) else if p = false then (enL (hoS S t) (dtF l t l.length), ftF t l) else pif (chW H t = -1 ∨ btF (yG S 8) (chW H t).toNatClampNeg = false) (hoS S t, l) (pif (hoI H t) (pif (hoP H t = -1) (lgF (hoS S t) 3 (zn t) 1, l) (hoO J t (hoP H t).toNatClampNeg (hoS S t) l)) (lgF (hoS S t) 3 (zn t) 2, l))
theorem hoS_G (S : yR) (t : Nat) {j : Nat} (h : j ≠ 7) : yG (hoS S t) j = yG S j := by unfold hoS; rw [yG_uG, up_o h]
theorem hoS_e {S : yR} {t b : Nat} (h : evB S b) : evB (hoS S t) b := by unfold evB evN; rw [hoS_G S t (by omega)]; exact h
theorem c_isOpen (d : Nat) {A : zM} {S : yR} {f : Nat → Int32} {t : Nat} (ht : t < 8) : z_den zQ (d + 1) mO_isOpen [.ref 3, .int (zn t)] (yC A f S) = some (some (.int (bI (btF (f 7) t))), yC A f S) := by
  rw [B_O_isOpen, ix_L nL_7 (by omega) (by omega), cond_true, nL_7, zn_N (by omega), yC_11, sh_bit _ (by omega)]
  cases btF (f 7) t
  · rw [bI_F, nL_1, z_ne_T (by omega) (by omega) (by omega), cond_true, nL_0]
  · rw [bI_T, nL_1, z_ne_F, cond_false]
theorem bI_ne (a b : Bool) : z_ne (bI a) (bI b) = decide (a ≠ b) := by
  cases a <;> cases b <;> simp (disch := omega) only [bI_T, bI_F, z_ne_F, z_ne_T] <;> rfl
theorem cH_yC {H : zH} {A : zM} (h : cH H A) (f : Nat → Int32) (S : yR) : cH H (yC A f S) := cH_fr (yC_fr A f S) h (by omega) (fun a k _ _ e => by omega)
theorem c_hole (d : Nat) {J : zJ} {H : zH} {A : zM} {S : yR} {l : yL} {f : Nat → Int32} {t b : Nat} {p : Bool} (wj : wJ J) (hj : cJ J A) (w : wH (jN J) H) (hh : cH H A) (ht : t < 8) (hY : cY (yG S) l f) (hi : iv (jN J) S l) (he : evB S b) (hb : b + 2000 < 2147483646) : ∃ f', z_den zQ (d + 45) mO_doHole [.ref 3, .int (zn t), .int (bI p)] (yC A f S) = some (none, yC A f' (hoF J H t p S l).1) ∧ cY (yG (hoF J H t p S l).1) (hoF J H t p S l).2 f' := by
  have w0 := wj.1
  have hl := hi.1
  have hl2 := hl.2.1
  obtain ⟨go, hgo, hg2⟩ := hi.2.2.2
  have e7 : f 7 = yG S 7 := hY.1 7 (by omega) (by omega)
  have e8 : f 8 = yG S 8 := hY.1 8 (by omega) (by omega)
  have z7 : z_ix (7 : Int32) 523 = true := ix_L nL_7 (by omega) (by omega)
  have n7 : Int32.toNatClampNeg (7 : Int32) = 7 := by rw [nL_7]; exact zn_N (by omega)
  have z8 : z_ix (8 : Int32) 523 = true := ix_L nL_8 (by omega) (by omega)
  have n8 : Int32.toNatClampNeg (8 : Int32) = 8 := by rw [nL_8]; exact zn_N (by omega)
  have zt : z_ix (zn t) 8 = true := z_ix_T ht (by omega)
  have nt : Int32.toNatClampNeg (zn t) = t := zn_N (by omega)
  have hY1 : cY (yG (hoS S t)) l (up f 7 (yG S 7 ^^^ ((1 : Int32) <<< (zn t &&& 31)))) := cY_up hY (by omega) (by omega) _
  have hgo1 : yG (hoS S t) 3 = zn go := by rw [hoS_G S t (by omega)]; exact hgo
  have he1 := hoS_e (t := t) he
  have eC : yC A (up f 7 (yG S 7 ^^^ ((1 : Int32) <<< (zn t &&& 31)))) S = yC A (up f 7 (yG S 7 ^^^ ((1 : Int32) <<< (zn t &&& 31)))) (hoS S t) := rfl
  unfold hoF
  rw [B_O_doHole, c_isOpen _ ht, z_bI_some, bI_ne, e7]
  by_cases g : btF (yG S 7) t = p
  · rw [if_pos g, decide_eq_false (p := p ≠ btF (yG S 7) t) (fun q => q g.symm), cond_false]
    exact ⟨f, rfl, hY⟩
  rw [if_neg g, decide_eq_true (p := p ≠ btF (yG S 7) t) (fun q => g q.symm), cond_true, z7, cond_true, cond_true, n7, yC_11, e7, yC_w11, eC, bI_n1]
  cases p
  · rw [if_pos rfl, cond_false]
    obtain ⟨f', q1, q2⟩ := c_eTr (d + 41) (A := A) hl hY1 he1 (by omega) ht
    exact ⟨f', by rw [q1, z_bV_some], q2⟩
  rw [if_neg (by decide), cond_true]
  have g' : btF (yG S 7) t = false := by cases hq : btF (yG S 7) t <;> simp_all
  have hlen := iv_len hi ht g'
  have h8 : zI (yC A f S) 8 t = chW H t := by rw [yC_o (by omega) (by omega) (by omega)]; exact (hh.2.2.2.2 t ht).1
  have h9 : zI (yC A f S) 9 t = chI H t := by rw [yC_o (by omega) (by omega) (by omega)]; exact (hh.2.2.2.2 t ht).2
  rw [zt, cond_true, nt, h8, h9, cond_true]
  rcases w.2.2.2.2.2.2 t ht with ec | ⟨c, hc, ec⟩
  · rw [ec, pif_T (Or.inl rfl), show z_lt (-1 : Int32) 0 = true from z_lt_m0, cond_true]
    exact ⟨_, rfl, hY1⟩
  have w1 := w.1
  have ncm := zn_nm (i := c) (by omega)
  have c8 : up f 7 (yG S 7 ^^^ ((1 : Int32) <<< (zn t &&& 31))) 8 = yG S 8 := by rw [up_o (by omega)]; exact e8
  have hnc : Int32.toNatClampNeg (zn c) = c := zn_N (by omega)
  unfold hoI hoP
  rw [ec, hnc, show z_lt (zn c) (0 : Int32) = false by rw [nL_0]; exact z_lt_F (by omega) (by omega), cond_false, z8, cond_true, n8, yC_11, c8, sh_bit _ (by omega), bI_n1]
  cases hd : btF (yG S 8) c
  · rw [pif_T (Or.inr rfl), cond_false]
    exact ⟨_, rfl, hY1⟩
  rw [pif_F (fun q => q.elim ncm (fun q => by cases q)), cond_true]
  have hH1 := cH_yC hh (up f 7 (yG S 7 ^^^ ((1 : Int32) <<< (zn t &&& 31)))) (hoS S t)
  have hJ1 := cJ_yC hj (up f 7 (yG S 7 ^^^ ((1 : Int32) <<< (zn t &&& 31)))) (hoS S t)
  rw [c_where (d + 42) w hH1 hc, z_bI_some]
  have w3 := w.2.2.1 c hc
  have w4 := w.2.2.2.1
  have w5 := chF_n w (c := c + 1) (by omega)
  have z3 : (3 : Int32) = 3 := rfl
  by_cases gi : 0 ≤ (chI H t).toInt ∧ (chI H t).toInt < (chF H (c + 1) : Int) - chF H c
  · rw [pif_T gi, pif_T gi]
    obtain ⟨y, hy, ey⟩ := zn_ex gi.1
    have g2 := gi.2
    rw [ey, zn_toInt hy] at g2
    have hp7 : zI (yC A (up f 7 (yG S 7 ^^^ ((1 : Int32) <<< (zn t &&& 31)))) (hoS S t)) 7 (chF H c + y) = chP H (chF H c + y) := hH1.2.2.2.1 _ (by omega)
    rw [ey, zn_N hy, le_0n (by omega)]
    simp only [cond_true]
    rw [z_ix_T (by omega) (by omega), cond_true, zn_N (by omega), hp7]
    rcases w.2.2.2.2.2.1 (chF H c + y) (by omega) with ep | ⟨i, hi', ep⟩
    · rw [ep, pif_T rfl, c_insAt_no _ wj hJ1 (fun q => by have := q.1; rw [toI_m1] at this; omega), z_bR_some, show Nat.beq 0 0 = true from rfl, cond_true]
      obtain ⟨f', q1, q2⟩ := c_log (d + 43) (A := A) hY1 he1 (by omega) 3 (zn t) 1
      exact ⟨f', by rw [q1, z_bV_some], q2⟩
    · have nz := cJ_nz hj hi'
      have z40 := (wj.2.2.2 i hi').2.2.2.2.2.2.1
      rw [ep, pif_F (zn_nm (by omega)), zn_N (by omega), c_insAt _ wj hi', z_bR_some, yC_P, z_bq_F nz, cond_false, nL_40]
      unfold hoO
      obtain ⟨f', q1, q2⟩ := c_open wj hj ht hg2 40 d 40 i _ (hoS S t) l b hi' (by omega) (by omega) (by omega) hY1 hl (by omega) hgo1 he1 (by omega)
      rw [q1, z_bI_some, bI_n1]
      by_cases hR : (opL J t 40 [i] (hoS S t) l).1 = true
      · rw [if_pos hR, hR, cond_true]
        exact ⟨f', rfl, q2⟩
      · have hRf : (opL J t 40 [i] (hoS S t) l).1 = false := by cases hq : (opL J t 40 [i] (hoS S t) l).1 <;> simp_all
        rw [if_neg hR, hRf, cond_false]
        have hw1 : wP J [i] := fun q hq => by rw [List.mem_singleton.mp hq]; exact hi'
        have hs1 : smZ J [i] = jZ J i := rfl
        obtain ⟨f'', p1, p2⟩ := c_log (d + 43) (A := A) q2 (evB_opE wj (l := l) hw1 (by rw [hs1]; omega) he1 (by rw [hs1]; omega)) (by rw [hs1]; omega) 3 (zn t) 10
        exact ⟨f'', by rw [p1, z_bV_some], p2⟩
  · rw [pif_F gi, pif_F gi, le_0m, cond_false, cond_false]
    obtain ⟨f', q1, q2⟩ := c_log (d + 43) (A := A) hY1 he1 (by omega) 3 (zn t) 2
    exact ⟨f', by rw [q1, z_bV_some], q2⟩
