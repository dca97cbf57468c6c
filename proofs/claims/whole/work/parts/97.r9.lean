/-! S LEVEL, PLAYING: a tick passes, the class. -/
theorem yC_yC (A : zM) (f f' : Nat → Int32) (S S' : yR) : yC (yC A f S) f' S' = yC A f' S' := by
  unfold yC z_uI
  refine Prod.ext rfl (Prod.ext ?_ rfl)
  funext a k
  show (if a = 10 then yT S' k else if a = 13 then yE S' k else if a = 11 then f' k else if a = 10 then yT S k else if a = 13 then yE S k else if a = 11 then f k else A.2.1 a k) = (if a = 10 then yT S' k else if a = 13 then yE S' k else if a = 11 then f' k else A.2.1 a k)
  by_cases e1 : a = 10
  · rw [if_pos e1, if_pos e1]
  · rw [if_neg e1, if_neg e1, if_neg e1]
    by_cases e2 : a = 13
    · rw [if_pos e2, if_pos e2]
    · rw [if_neg e2, if_neg e2, if_neg e2]
      by_cases e3 : a = 11
      · rw [if_pos e3, if_pos e3]
      · rw [if_neg e3, if_neg e3, if_neg e3]
theorem yC_ET {A : zM} {f : Nat → Int32} {S S' : yR} (h1 : yE S' = yE S) (h2 : yT S' = yT S) : yC A f S' = yC A f S := by unfold yC; rw [h1, h2]
theorem c_tail (d : Nat) {n : Nat} {A : zM} {S : yR} {l : yL} {f : Nat → Int32} {o x go u lo K : Nat} {hi : yHs} (h56 : 57 ≤ z_new zQ A) (hY : cY (yG S) l f) (h12 : 0 ≤ (yG S 12).toInt) (hok : okL n l) (h3 : yG S 3 = zn go) (hg : go < 20000) (h14 : zI A 3 14 = zn u) (h13 : zI A 3 13 = zn lo) (hK : cKp K A) (hh : cHi hi lo (go + 1) K A) (hlo : lo ≤ go) : ∃ A', z_denF zQ (d + 46 + 1) mO_passTick (61, [some (.ref 3), some (.ref x), some (.int (zn o))], [], yC A f S) = some (none, A') ∧ cP (paS S (zn o + 1) (zn go + 1)) l A' ∧ cKp (keK K (go + 1)) A' ∧ cHi (upH hi (go + 1) (yG (paS S (zn o + 1) (zn go + 1)), l)) (max lo (go + 1 - 500)) (go + 1 + 1) (keK K (go + 1)) A' ∧ zI A' 3 13 = zn (max lo (go + 1 - 500)) ∧ zI A' 3 14 = zn (u + 1) ∧ zFr (keK K (go + 1) - K) (523 * (keK K (go + 1) - K)) (xcT A) A A' := by
  have z5 : z_ix (5 : Int32) 523 = true := ix_L nL_5 (by omega) (by omega)
  have n5 : Int32.toNatClampNeg (5 : Int32) = 5 := by rw [nL_5]; exact zn_N (by omega)
  have z0 : z_ix (0 : Int32) 523 = true := ix_L nL_0 (by omega) (by omega)
  have n0 : Int32.toNatClampNeg (0 : Int32) = 0 := by rw [nL_0]; exact zn_N (by omega)
  have z1 : z_ix (1 : Int32) 523 = true := ix_L nL_1 (by omega) (by omega)
  have n1 : Int32.toNatClampNeg (1 : Int32) = 1 := by rw [nL_1]; exact zn_N (by omega)
  have z2 : z_ix (2 : Int32) 523 = true := ix_L nL_2 (by omega) (by omega)
  have n2 : Int32.toNatClampNeg (2 : Int32) = 2 := by rw [nL_2]; exact zn_N (by omega)
  have z3 : z_ix (3 : Int32) 523 = true := ix_L nL_3 (by omega) (by omega)
  have n3 : Int32.toNatClampNeg (3 : Int32) = 3 := by rw [nL_3]; exact zn_N (by omega)
  have hY1 : cY (yG (uG S 5 (zn o + 1))) l (up f 5 (zn o + 1)) := cY_up hY (by omega) (by omega) _
  obtain ⟨f2, q1, q2⟩ := c_tgo (d + 44) (A := A) hY1 (by rw [yG_uG, up_o (by omega)]; exact h12)
  have q1' : z_den zQ (d + 46) mO_goOnWithTempo [.ref 3] (yC A (up f 5 (zn o + 1)) S) = some (none, yC A f2 (tmF (uG S 5 (zn o + 1)))) := q1
  have g0 : f2 0 = yG (tmF (uG S 5 (zn o + 1))) 0 := q2.1 0 (by omega) (by omega)
  have g1 : f2 1 = yG (tmF (uG S 5 (zn o + 1))) 1 := q2.1 1 (by omega) (by omega)
  have g2 : f2 2 = yG (tmF (uG S 5 (zn o + 1))) 2 := q2.1 2 (by omega) (by omega)
  have g3 : f2 3 = zn go := by
    rw [q2.1 3 (by omega) (by omega), tm_G _ (by omega) (by omega), yG_uG, up_o (by omega)]; exact h3
  have e14 : zI (yC A f2 (tmF (uG S 5 (zn o + 1)))) 3 14 = zn u := by rw [yC_o (by omega) (by omega) (by omega)]; exact h14
  -- from the row as it comes to keep
  have fin : ∀ f3, cY (yG (paS S (zn o + 1) (zn go + 1))) l f3 → ∃ A', z_bV (z_den zQ (d + 46) mO_keep [.ref 3] (z_wI (yC A f3 (tmF (uG S 5 (zn o + 1)))) 3 14 (zn u + 1))) (fun M2 => some (none, M2)) = some (none, A') ∧ cP (paS S (zn o + 1) (zn go + 1)) l A' ∧ cKp (keK K (go + 1)) A' ∧ cHi (upH hi (go + 1) (yG (paS S (zn o + 1) (zn go + 1)), l)) (max lo (go + 1 - 500)) (go + 1 + 1) (keK K (go + 1)) A' ∧ zI A' 3 13 = zn (max lo (go + 1 - 500)) ∧ zI A' 3 14 = zn (u + 1) ∧ zFr (keK K (go + 1) - K) (523 * (keK K (go + 1) - K)) (xcT A) A A' := by
    intro f3 h3Y
    have eET : yC A f3 (paS S (zn o + 1) (zn go + 1)) = yC A f3 (tmF (uG S 5 (zn o + 1))) := yC_ET (ph_ET _).1 (ph_ET _).2
    rw [← eET]
    have F1 : zFr 0 0 (fun a k => a = 10 ∨ a = 11 ∨ a = 13 ∨ (a = 3 ∧ k = 14)) A (z_wI (yC A f3 (paS S (zn o + 1) (zn go + 1))) 3 14 (zn u + 1)) := x_tr (zFr_mono (yC_fr A f3 _) (Nat.le_refl _) (Nat.le_refl _) (fun a k e => by omega)) (zFr_wI (X := fun a k => a = 10 ∨ a = 11 ∨ a = 13 ∨ (a = 3 ∧ k = 14)) (by omega))
    have hP3 : cP (paS S (zn o + 1) (zn go + 1)) l (z_wI (yC A f3 (paS S (zn o + 1) (zn go + 1))) 3 14 (zn u + 1)) := cP_fr (zFr_wI (X := fun a k => a = 3 ∧ k = 14) ⟨rfl, rfl⟩) (cP_of A h3Y) (fun a k e q => by omega)
    have x11 : ∀ a k, 57 ≤ a → z_hd zQ A a = some (14, 523) → ¬ (a = 10 ∨ a = 11 ∨ a = 13 ∨ (a = 3 ∧ k = 14)) := fun a k h _ e => by omega
    have hK3 := cKp_fr F1 hK (fun k => by omega)
    have hh3 := cHi_fr F1 hK hh (fun k => by omega) x11
    have hgo3 : yG (paS S (zn o + 1) (zn go + 1)) 3 = zn (go + 1) := by rw [(paS_35 _ _ _).1, zn_1]
    have hmod : (go + 1) % 501 ≤ K := by
      have := (hh go (by omega) (by omega)).1
      have := hK.1
      omega
    have e13 : zI (z_wI (yC A f3 (paS S (zn o + 1) (zn go + 1))) 3 14 (zn u + 1)) 3 13 = zn lo := by rw [zI_wI_k (by omega), yC_o (by omega) (by omega) (by omega)]; exact h13
    obtain ⟨A', p1, p2, p3, p4, p5, p6⟩ := c_keep (d + 43) (K := K) (lo := lo) (go := go + 1) (hi := hi) (M := z_wI (yC A f3 (paS S (zn o + 1) (zn go + 1))) 3 14 (zn u + 1)) h56 hok hP3.1 hK3 hh3 hgo3 (by omega) hmod (by omega) e13
    have hnn : 57 ≤ z_new zQ (z_wI (yC A f3 (paS S (zn o + 1) (zn go + 1))) 3 14 (zn u + 1)) := h56
    have F2 : zFr (keK K (go + 1) - K) (523 * (keK K (go + 1) - K)) (xcT A) A A' := by
      have := zFr_trans (zFr_mono F1 (Nat.le_refl _) (Nat.le_refl _) (fun a k e => show xcT A a k from by unfold xcT; omega)) p6 (fun a k ha e => xcT_b F1 ha (xcT_K e))
      rw [Nat.zero_add, Nat.zero_add] at this
      exact this
    refine ⟨A', by rw [p1, z_bV_some], cP_fr p6 hP3 (fun a k e q => ?_), p2, p3, p4, ?_, F2⟩
    · rcases q with q | q | ⟨q1, q2⟩ <;> omega
    · rw [zFr_I p6 _ (by omega) (fun q => by rcases q with q | q | ⟨q1, q2⟩ <;> omega), zI_wI_s, zn_1]
  rw [L_O_passTick_61, z5, cond_true, n5, yC_w11, q1', z_bV_some, e14]
  simp (disch := omega) only [z0, z1, z2, z3, n0, n1, n2, n3, cond_true, yC_11, yC_w11, up_s, up_o]
  rw [z_lt_iff, g2, g1, g3, g0]
  by_cases g : (yG (tmF (uG S 5 (zn o + 1))) 2 + 1).toInt < (yG (tmF (uG S 5 (zn o + 1))) 0).toInt
  · rw [decide_eq_true g, cond_true]
    refine fin _ ?_
    unfold paS phF
    rw [pif_T g, yG_uG, yG_uG]
    exact cY_up (cY_up q2 (by omega) (by omega) _) (by omega) (by omega) _
  · rw [decide_eq_false g, cond_false]
    refine fin _ ?_
    unfold paS phF
    rw [pif_F g, yG_uG, yG_uG, yG_uG, up_up]
    exact cY_up (cY_up (cY_up q2 (by omega) (by omega) _) (by omega) (by omega) _) (by omega) (by omega) _
theorem c_pass (d : Nat) {J : zJ} {H : zH} {G : zG} {al : Nat → Nat} {A : zM} {r : Nat} {S : yR} {l : yL} {go u lo K : Nat} {hi : yHs} (wj : wJ J) (hj : cJ J A) (w : wH (jN J) H) (hh : cH H A) (wg : wG G) (hg : cG G al A) (hr : r < gR G) (h16 : zP zQ A 3 16 = zP zQ A 2 r) (hP : cP S l A) (hv : pv (jN J) (gZ G r) S l) (ha : atP G r S) (h3 : yG S 3 = zn go) (hgo : go < 20000) (h14 : zI A 3 14 = zn u) (h13 : zI A 3 13 = zn lo) (hK : cKp K A) (hhi : cHi hi lo (go + 1) K A) (hlo : lo ≤ go) : ∃ A', z_den zQ (d + 47) mO_passTick [.ref 3] A = some (none, A') ∧ cP (paF J H G r (S, l)).1 (paF J H G r (S, l)).2 A' ∧ cKp (keK K (go + 1)) A' ∧ cHi (upH hi (go + 1) (yG (paF J H G r (S, l)).1, (paF J H G r (S, l)).2)) (max lo (go + 1 - 500)) (go + 1 + 1) (keK K (go + 1)) A' ∧ zI A' 3 13 = zn (max lo (go + 1 - 500)) ∧ zI A' 3 14 = zn (u + 1) ∧ zFr (keK K (go + 1) - K) (523 * (keK K (go + 1) - K)) (xcT A) A A' := by
  obtain ⟨p, o, e4, e5, hp, ho, he⟩ := at_p hv ha
  obtain ⟨-, q0, hz⟩ := cG_ro hg wg hr
  have h56 : 57 ≤ z_new zQ A := by
    obtain ⟨L, hL⟩ := hg.2.2.2.2.2.2.2.2
    exact z_hd_lt hL
  obtain ⟨t1, t2, t3, t4⟩ := cG_rs hg wg hr hp
  have hi' := hv.1
  have hS := t3.2.2.2.2.1
  have hA := cP_eq hP
  have hY := hP.1
  generalize hf : (fun k => zI A 11 k) = f at hA hY
  have E : ∀ {x : zR}, z_den zQ (d + 47) mO_passTick [.ref 3] (yC A f S) = x → z_den zQ (d + 47) mO_passTick [.ref 3] A = x := fun h => by rw [hA]; exact h
  have fe4 : f 4 = zn p := by rw [hY.1 4 (by omega) (by omega)]; exact e4
  have fe5 : f 5 = zn o := by rw [hY.1 5 (by omega) (by omega)]; exact e5
  have fe6 : f 6 = yG S 6 := hY.1 6 (by omega) (by omega)
  have hg1 := cG_yC hg f S
  have q1 : cRo (yC A f S) (zP zQ A 2 r) (gZ G r) := (cG_ro hg1 wg hr).1
  have z4 : z_ix (4 : Int32) 523 = true := ix_L nL_4 (by omega) (by omega)
  have n4' : Int32.toNatClampNeg (4 : Int32) = 4 := by rw [nL_4]; exact zn_N (by omega)
  have z5 : z_ix (5 : Int32) 523 = true := ix_L nL_5 (by omega) (by omega)
  have n5 : Int32.toNatClampNeg (5 : Int32) = 5 := by rw [nL_5]; exact zn_N (by omega)
  have z6 : z_ix (6 : Int32) 523 = true := ix_L nL_6 (by omega) (by omega)
  have n6 : Int32.toNatClampNeg (6 : Int32) = 6 := by rw [nL_6]; exact zn_N (by omega)
  have c8 : z_cls zQ (yC A f S) (zP zQ A 2 r) [8] = true := by rw [z_cls_of q1.1]; rfl
  have t2' := cT_yC t2 f S
  have c9 : z_cls zQ (yC A f S) (al (gO G r p)) [9] = true := by rw [z_cls_of t2'.1]; rfl
  have eP : z_den zQ (d + 46) mL_stripAt [.ref (zP zQ A 2 r), .int (zn p)] (yC A f S) = some (some (.ref (al (gO G r p))), yC A f S) := E_L_at (d + 45) hg1 wg hr hp
  have step : z_den zQ (d + 47) mO_passTick [.ref 3] (yC A f S) = (bif z_ne (yG S 6) 1 then (z_denF zQ (d + 46 + 1) mO_passTick (61, [some (.ref 3), some (.ref (al (gO G r p))), some (.int (zn o))], [], yC A f S)) else (bif z_le (zn (tS (gS G r p))) (zn o) then (z_denF zQ (d + 46 + 1) mO_passTick (61, [some (.ref 3), some (.ref (al (gO G r p))), some (.int (zn o))], [], yC A f S)) else (z_bV (z_den zQ (d + 46) mO_doElement [.ref 3, .ref (al (gO G r p)), .int (zn o)] (yC A f S)) (fun M5 => z_denF zQ (d + 46 + 1) mO_passTick (61, [some (.ref 3), some (.ref (al (gO G r p))), some (.int (zn o))], [], M5))))) := by
    rw [B_O_passTick, yC_P, h16, z_bq_F q0, cond_false, z4, cond_true, c8, cond_true, n4', yC_11, fe4, eP, z_bR_some, z5, cond_true, z_bq_F t4, cond_false, z6, cond_true, n6, yC_11, fe6, c9, cond_true, E_S_elements _ _ _ _ t2' ⟨t3.2.2.2.1, t3.2.2.2.2.1, t3.2.2.2.2.2.1⟩, z_bI_some, n5, yC_11, fe5]
  have eX : paX J H G r (S, l) = pif (yG S 6 = 1 ∧ o < tS (gS G r p)) (elF J H (tK (gS G r p)) (tE (gS G r p) o) S l) (S, l) := by
    unfold paX
    show pif (yG S 6 = 1 ∧ (yG S 5).toNatClampNeg < tS (gS G r (yG S 4).toNatClampNeg)) (elF J H (tK (gS G r (yG S 4).toNatClampNeg)) (tE (gS G r (yG S 4).toNatClampNeg) (yG S 5).toNatClampNeg) S l) (S, l) = _
    rw [e4, e5, zn_N (by omega), zn_N (by omega)]
  have key : ∀ (S1 : yR) (l1 : yL), paX J H G r (S, l) = (S1, l1) → paF J H G r (S, l) = (paS S1 (zn o + 1) (zn go + 1), l1) := by
    intro S1 l1 h
    unfold paF
    rw [h]
    show (paS S1 (yG S 5 + 1) (yG S 3 + 1), l1) = _
    rw [e5, h3]
  by_cases g6 : yG S 6 = 1
  · by_cases go' : o < tS (gS G r p)
    · rw [pif_T ⟨g6, go'⟩] at eX
      rw [key (elF J H (tK (gS G r p)) (tE (gS G r p) o) S l).1 (elF J H (tK (gS G r p)) (tE (gS G r p) o) S l).2 eX]
      obtain ⟨f1, p1, p2⟩ := c_elem d wj hj w hh t2 t3 (k := o) go' hY hi' he (by omega)
      obtain ⟨i1, i2, i3⟩ := el_inv (k := tK (gS G r p)) (e := tE (gS G r p) o) wj w hi' he (by omega)
      have i4 := el_12 (k := tK (gS G r p)) (e := tE (gS G r p) o) wj w hi' he (by omega) hv.2.1
      generalize elF J H (tK (gS G r p)) (tE (gS G r p) o) S l = X1 at p1 p2 i1 i2 i3 i4 ⊢
      obtain ⟨A', r1, r2, r3, r4, r5, r6, r7⟩ := c_tail d (x := al (gO G r p)) (o := o) h56 p2 i4 i1.1 ((i3 3 (by omega) (by omega)).trans h3) hgo h14 h13 hK hhi hlo
      refine ⟨A', E ?_, r2, r3, r4, r5, r6, r7⟩
      rw [step, g6, show z_ne (1 : Int32) 1 = false by rw [z_ne_eq]; rfl, cond_false, z_le_F go' (by omega), cond_false, p1, z_bV_some]
      exact r1
    · rw [pif_F (fun q => go' q.2)] at eX
      rw [key S l eX]
      obtain ⟨A', r1, r2, r3, r4, r5, r6, r7⟩ := c_tail d (x := al (gO G r p)) (o := o) h56 hY hv.2.1 hi'.1 h3 hgo h14 h13 hK hhi hlo
      refine ⟨A', E ?_, r2, r3, r4, r5, r6, r7⟩
      rw [step, g6, show z_ne (1 : Int32) 1 = false by rw [z_ne_eq]; rfl, cond_false, z_le_T (by omega) (by omega), cond_true]
      exact r1
  · rw [pif_F (fun q => g6 q.1)] at eX
    rw [key S l eX]
    obtain ⟨A', r1, r2, r3, r4, r5, r6, r7⟩ := c_tail d (x := al (gO G r p)) (o := o) h56 hY hv.2.1 hi'.1 h3 hgo h14 h13 hK hhi hlo
    refine ⟨A', E ?_, r2, r3, r4, r5, r6, r7⟩
    rw [step, show z_ne (yG S 6) (1 : Int32) = true by rw [z_ne_eq]; exact decide_eq_true g6, cond_true]
    exact r1
