/-! S LEVEL, PLAYING: levels, stops, tempo, the class. -/
def lvP (e : Int32) (t : Nat) : Prop := e.toInt < 0 ∨ (e >>> ((12 : Int32) &&& 31)) &&& 7 = zn t
noncomputable def lvF (e : Int32) : Nat → Nat → yR → yR
  | 0, _, S => S
  | r + 1, t, S => lvF e r (t + 1) (pif (lvP e t) (uG S (15 + t) (e &&& 4095)) S)
noncomputable def stF (S : yR) (e : Int32) : yR := pif (65 ≤ e.toInt ∧ e.toInt ≤ 80) (uG S 8 (yG S 8 ||| ((1 : Int32) <<< ((e - 65) &&& 31)))) (pif (97 ≤ e.toInt ∧ e.toInt ≤ 112) (uG S 8 (yG S 8 &&& (((1 : Int32) <<< ((e - 97) &&& 31)) ^^^ (-1)))) S)
noncomputable def tp1 (S : yR) (x y : Int32) : yR := uG (uG (uG (uG S 11 y) 12 0) 9 (yG S 0)) 10 x
noncomputable def tpF (S : yR) (x y : Int32) : yR := pif (x = 0) S (pif (y = 0) (uG (tp1 S x y) 0 x) (tp1 S x y))
theorem lt_eqI (x y : Int32) : z_lt x y = decide (x.toInt < y.toInt) := by
  rw [z_lt_eq]
  by_cases g : x.toInt < y.toInt
  · rw [decide_eq_true g, decide_eq_true (Int32.lt_iff_toInt_lt.mpr g)]
  · rw [decide_eq_false g, decide_eq_false (fun q => g (Int32.lt_iff_toInt_lt.mp q))]
theorem ne_eqD (x y : Int32) : z_ne x y = decide (x ≠ y) := by rw [z_ne_eq]
theorem L_lv (d : Nat) {A : zM} {e l2 : Int32} {a1 : Nat} : ∀ (r t : Nat) (f : Nat → Int32) (S : yR) (l : yL), t + r = 8 → cY (yG S) l f → ∃ f', z_denF zQ (d + 1) mO_doElement (79, [some (.ref 3), some (.ref a1), some (.int l2), some (.int e), some (.int (zn t))], [], yC A f S) = some (none, yC A f' (lvF e r t S)) ∧ cY (yG (lvF e r t S)) l f'
  | 0, t, f, S, l, ht, hY => by
    refine ⟨f, ?_, hY⟩
    rw [L_O_doElement_79, nL_8, z_le_T (by omega) (by omega), cond_true]; rfl
  | r + 1, t, f, S, l, ht, hY => by
    have z15 : (15 : Int32) + zn t = zn (15 + t) := by rw [nL_15, zn_add]
    rw [L_O_doElement_79, nL_8, z_le_F (by omega) (by omega), cond_false, z15, z_ix_T (by omega) (by omega), cond_true, zn_N (by omega), zn_1, yC_w11, lt_eqI, toI_0, ne_eqD]
    unfold lvF
    by_cases g : lvP e t
    · rw [pif_T g]
      obtain ⟨f', q1, q2⟩ := L_lv d (A := A) (e := e) (l2 := l2) (a1 := a1) r (t + 1) (up f (15 + t) (e &&& 4095)) (uG S (15 + t) (e &&& 4095)) l (by omega) (cY_up hY (by omega) (by omega) _)
      rw [yC_G] at q1
      refine ⟨f', ?_, q2⟩
      by_cases g1 : e.toInt < 0
      · rw [decide_eq_true g1, cond_true]; exact q1
      · have g2 := g.resolve_left g1
        rw [decide_eq_false g1, cond_false, decide_eq_false (fun q => q g2), cond_false]; exact q1
    · rw [pif_F g]
      have g1 : ¬ e.toInt < 0 := fun q => g (Or.inl q)
      have g2 : (e >>> ((12 : Int32) &&& 31)) &&& 7 ≠ zn t := fun q => g (Or.inr q)
      rw [decide_eq_false g1, cond_false, decide_eq_true g2, cond_true]
      exact L_lv d (A := A) r (t + 1) f S l (by omega) hY
theorem lv_G (e : Int32) : ∀ (r t : Nat) (S : yR) {j : Nat}, j < 15 + t ∨ 15 + t + r ≤ j → yG (lvF e r t S) j = yG S j
  | 0, t, S, j, _ => rfl
  | r + 1, t, S, j, h => by
    unfold lvF
    rw [lv_G e r (t + 1) _ (by omega)]
    by_cases g : lvP e t
    · rw [pif_T g, yG_uG, up_o (by omega)]
    · rw [pif_F g]
theorem lv_ET (e : Int32) : ∀ (r t : Nat) (S : yR), yE (lvF e r t S) = yE S ∧ yT (lvF e r t S) = yT S
  | 0, t, S => ⟨rfl, rfl⟩
  | r + 1, t, S => by
    unfold lvF
    obtain ⟨q1, q2⟩ := lv_ET e r (t + 1) (pif (lvP e t) (uG S (15 + t) (e &&& 4095)) S)
    rw [q1, q2]
    by_cases g : lvP e t
    · rw [pif_T g]; exact ⟨rfl, rfl⟩
    · rw [pif_F g]; exact ⟨rfl, rfl⟩
theorem c_stops (d : Nat) {A : zM} {e : Int32} {S : yR} {l : yL} {f : Nat → Int32} (hY : cY (yG S) l f) : ∃ f', (bif z_lt e 65 then (bif z_lt e 97 then (some (none, yC A f S)) else (bif z_lt 112 e then (some (none, yC A f S)) else (bif z_ix 8 523 then bif z_ix 8 523 then some (none, z_wI (yC A f S) 11 (Int32.toNatClampNeg 8) ((zI (yC A f S) 11 (Int32.toNatClampNeg 8)) &&& (((1 : Int32) <<< ((e - 97) &&& 31)) ^^^ (-1)))) else none else none))) else (bif z_lt 80 e then (bif z_lt e 97 then (some (none, yC A f S)) else (bif z_lt 112 e then (some (none, yC A f S)) else (bif z_ix 8 523 then bif z_ix 8 523 then some (none, z_wI (yC A f S) 11 (Int32.toNatClampNeg 8) ((zI (yC A f S) 11 (Int32.toNatClampNeg 8)) &&& (((1 : Int32) <<< ((e - 97) &&& 31)) ^^^ (-1)))) else none else none))) else (bif z_ix 8 523 then bif z_ix 8 523 then bif z_lt e 97 then (some (none, z_wI (yC A f S) 11 (Int32.toNatClampNeg 8) ((zI (yC A f S) 11 (Int32.toNatClampNeg 8)) ||| ((1 : Int32) <<< ((e - 65) &&& 31))))) else (bif z_lt 112 e then (some (none, z_wI (yC A f S) 11 (Int32.toNatClampNeg 8) ((zI (yC A f S) 11 (Int32.toNatClampNeg 8)) ||| ((1 : Int32) <<< ((e - 65) &&& 31))))) else (bif z_ix 8 523 then bif z_ix 8 523 then some (none, z_wI (z_wI (yC A f S) 11 (Int32.toNatClampNeg 8) ((zI (yC A f S) 11 (Int32.toNatClampNeg 8)) ||| ((1 : Int32) <<< ((e - 65) &&& 31)))) 11 (Int32.toNatClampNeg 8) ((zI (z_wI (yC A f S) 11 (Int32.toNatClampNeg 8) ((zI (yC A f S) 11 (Int32.toNatClampNeg 8)) ||| ((1 : Int32) <<< ((e - 65) &&& 31)))) 11 (Int32.toNatClampNeg 8)) &&& (((1 : Int32) <<< ((e - 97) &&& 31)) ^^^ (-1)))) else none else none)) else none else none)) : zR) = some (none, yC A f' (stF S e)) ∧ cY (yG (stF S e)) l f' := by
  have z8 : z_ix (8 : Int32) 523 = true := ix_L nL_8 (by omega) (by omega)
  have n8 : Int32.toNatClampNeg (8 : Int32) = 8 := by rw [nL_8]; exact zn_N (by omega)
  have e8 : f 8 = yG S 8 := hY.1 8 (by omega) (by omega)
  have i65 : (65 : Int32).toInt = 65 := rfl
  have i80 : (80 : Int32).toInt = 80 := rfl
  have i97 : (97 : Int32).toInt = 97 := rfl
  have i112 : (112 : Int32).toInt = 112 := rfl
  rw [z8, n8]
  simp only [cond_true, yC_11, yC_w11, e8, lt_eqI, i65, i80, i97, i112]
  unfold stF
  by_cases g1 : 65 ≤ e.toInt ∧ e.toInt ≤ 80
  · rw [pif_T g1, decide_eq_false (p := e.toInt < 65) (by omega), decide_eq_false (p := 80 < e.toInt) (by omega), decide_eq_true (p := e.toInt < 97) (by omega)]
    exact ⟨_, rfl, cY_up hY (by omega) (by omega) _⟩
  rw [pif_F g1]
  by_cases g2 : 97 ≤ e.toInt ∧ e.toInt ≤ 112
  · rw [pif_T g2, decide_eq_false (p := e.toInt < 65) (by omega), decide_eq_true (p := 80 < e.toInt) (by omega), decide_eq_false (p := e.toInt < 97) (by omega), decide_eq_false (p := 112 < e.toInt) (by omega)]
    exact ⟨_, rfl, cY_up hY (by omega) (by omega) _⟩
  rw [pif_F g2]
  refine ⟨f, ?_, hY⟩
  by_cases g3 : e.toInt < 65
  · rw [decide_eq_true g3, decide_eq_true (p := e.toInt < 97) (by omega)]; rfl
  · rw [decide_eq_false g3, decide_eq_true (p := 80 < e.toInt) (by omega)]
    by_cases g4 : e.toInt < 97
    · rw [decide_eq_true g4]; rfl
    · rw [decide_eq_false g4, decide_eq_true (p := 112 < e.toInt) (by omega)]; rfl
theorem c_tempo (d : Nat) {A : zM} {x y : Int32} {S : yR} {l : yL} {f : Nat → Int32} (hY : cY (yG S) l f) : ∃ f', z_den zQ (d + 1) mO_setTempo [.ref 3, .int x, .int y] (yC A f S) = some (none, yC A f' (tpF S x y)) ∧ cY (yG (tpF S x y)) l f' := by
  have z11 : z_ix (11 : Int32) 523 = true := ix_L nL_11 (by omega) (by omega)
  have n11 : Int32.toNatClampNeg (11 : Int32) = 11 := by rw [nL_11]; exact zn_N (by omega)
  have z12 : z_ix (12 : Int32) 523 = true := ix_L nL_12 (by omega) (by omega)
  have n12 : Int32.toNatClampNeg (12 : Int32) = 12 := by rw [nL_12]; exact zn_N (by omega)
  have z0 : z_ix (0 : Int32) 523 = true := ix_L nL_0 (by omega) (by omega)
  have n0 : Int32.toNatClampNeg (0 : Int32) = 0 := by rw [nL_0]; exact zn_N (by omega)
  have z9 : z_ix (9 : Int32) 523 = true := ix_L nL_9 (by omega) (by omega)
  have n9 : Int32.toNatClampNeg (9 : Int32) = 9 := by rw [nL_9]; exact zn_N (by omega)
  have z10 : z_ix (10 : Int32) 523 = true := ix_L nL_10 (by omega) (by omega)
  have n10 : Int32.toNatClampNeg (10 : Int32) = 10 := by rw [nL_10]; exact zn_N (by omega)
  have e0 : f 0 = yG S 0 := hY.1 0 (by omega) (by omega)
  have u0 : up (up f 11 y) 12 0 0 = yG S 0 := by rw [up_o (by omega), up_o (by omega)]; exact e0
  rw [B_O_setTempo, z11, z12, z0, z9, z10, n11, n12, n0, n9, n10]
  simp only [cond_true, yC_w11, yC_11, u0, ne_eqD]
  have hY1 : cY (yG (tp1 S x y)) l (up (up (up (up f 11 y) 12 0) 9 (yG S 0)) 10 x) := cY_up (cY_up (cY_up (cY_up hY (by omega) (by omega) _) (by omega) (by omega) _) (by omega) (by omega) _) (by omega) (by omega) _
  unfold tpF
  by_cases g : x = 0
  · rw [pif_T g, decide_eq_false (fun q => q g), cond_false]
    exact ⟨f, rfl, hY⟩
  rw [pif_F g, decide_eq_true (p := x ≠ 0) g, cond_true]
  by_cases g2 : y = 0
  · rw [pif_T g2, decide_eq_false (fun q => q g2), cond_false]
    exact ⟨_, rfl, cY_up hY1 (by omega) (by omega) _⟩
  · rw [pif_F g2, decide_eq_true (p := y ≠ 0) g2, cond_true]
    exact ⟨_, rfl, hY1⟩
noncomputable def h16F (e : Int32) : Int32 := (Int32.toUInt32 e >>> (Int32.toUInt32 16 &&& Int32.toUInt32 31)).toInt32
noncomputable def elF (J : zJ) (H : zH) (k : Nat) (e : Int32) (S : yR) (l : yL) : yR × yL := if k = 0 then hlF J H e 8 0 (S, l) else if k = 1 then (lvF e 8 0 S, l) else if k = 2 then (stF S e, l) else (tpF S (e &&& 65535) (h16F e), l)
theorem cT_yC {A : zM} {a : Nat} {T : zT} (h : cT A a T) (f : Nat → Int32) (S : yR) : cT (yC A f S) a T := by
  have k : ∀ b t n c m, z_hd zQ A b = some (t, n) → z_hd zQ A c = some (14, m) → t ≠ 14 → b ≠ c := by
    intro b t n c m h1 h2 h3 e
    rw [e, h2] at h1
    exact h3 (congrArg Prod.fst (Option.some.inj h1)).symm
  have h1 := h.1
  obtain ⟨c, h8, -⟩ := h.2.2.2.2.2.2.2.1
  refine (cT_fr (yC_fr A f S) h (fun q e => ?_) (fun q e => ?_)).1
  · rcases e with e | e | e
    · exact k a 9 7 10 17 h1 rfl (by omega) e
    · exact k a 9 7 11 523 h1 rfl (by omega) e
    · exact k a 9 7 13 6000 h1 rfl (by omega) e
  · rcases e with e | e | e
    · exact k _ 12 c 10 17 h8 rfl (by omega) e
    · exact k _ 12 c 11 523 h8 rfl (by omega) e
    · exact k _ 12 c 13 6000 h8 rfl (by omega) e
theorem c_elem (d : Nat) {J : zJ} {H : zH} {A : zM} {S : yR} {l : yL} {f : Nat → Int32} {a k b : Nat} {T : zT} (wj : wJ J) (hj : cJ J A) (w : wH (jN J) H) (hh : cH H A) (hT : cT A a T) (wt : wT T) (hk : k < tS T) (hY : cY (yG S) l f) (hi : iv (jN J) S l) (he : evB S b) (hb : b + 5000 < 2147483646) : ∃ f', z_den zQ (d + 46) mO_doElement [.ref 3, .ref a, .int (zn k)] (yC A f S) = some (none, yC A f' (elF J H (tK T) (tE T k) S l).1) ∧ cY (yG (elF J H (tK T) (tE T k) S l).1) (elF J H (tK T) (tE T k) S l).2 f' := by
  have hT1 := cT_yC hT f S
  have hc : z_cls zQ (yC A f S) a [9] = true := by rw [z_cls_of hT1.1]; rfl
  have w3 := wt.1
  rw [B_O_doElement, hc, cond_true, E_S_elementAt (d + 43) a k _ T hT1 wt hk, z_bI_some, hc, cond_true, hT1.2.1]
  unfold elF
  by_cases k0 : tK T = 0
  · rw [if_pos k0, k0, z_eq_00, cond_true, nL_0]
    exact L_eh d wj hj w hh 8 0 f S l b rfl hY hi he (by omega)
  rw [if_neg k0, show z_eq (zn (tK T)) (0 : Int32) = false by rw [nL_0]; exact z_eq_F k0 (by omega) (by omega), cond_false]
  by_cases k1 : tK T = 1
  · rw [if_pos k1, k1, show z_eq (zn 1) (1 : Int32) = true by rw [nL_1]; exact z_eq_T _, cond_true, nL_0]
    exact L_lv (d + 45) 8 0 f S l rfl hY
  rw [if_neg k1, show z_eq (zn (tK T)) (1 : Int32) = false by rw [nL_1]; exact z_eq_F k1 (by omega) (by omega), cond_false]
  by_cases k2 : tK T = 2
  · rw [if_pos k2, k2, show z_eq (zn 2) (2 : Int32) = true by rw [nL_2]; exact z_eq_T _, cond_true]
    exact c_stops d hY
  rw [if_neg k2, show z_eq (zn (tK T)) (2 : Int32) = false by rw [nL_2]; exact z_eq_F k2 (by omega) (by omega), cond_false]
  obtain ⟨f', q1, q2⟩ := c_tempo (d + 44) (A := A) (x := tE T k &&& 65535) (y := h16F (tE T k)) hY
  refine ⟨f', ?_, q2⟩
  unfold h16F at q1 ⊢
  rw [q1, z_bV_some]
