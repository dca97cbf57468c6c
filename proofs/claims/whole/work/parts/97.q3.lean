/-! S LEVEL, PLAYING: holes, the reference. -/
def rA (g : Nat → Int32) (B : zM) : Prop := (zI B 15 41 = g 0 ∧ zI B 15 46 = g 1 ∧ zI B 15 47 = g 2 ∧ zI B 15 49 = g 4 ∧ zI B 15 50 = g 5 ∧ zI B 15 51 = g 6) ∧ (∀ t, t < 8 → zI B 43 t = bI (btF (g 7) t)) ∧ (∀ c, c < 16 → zI B 45 c = bI (btF (g 8) c)) ∧ (∀ t, t < 8 → zI B 44 t = g (15 + t)) ∧ (zI B 15 44 = g 11 ∧ zI B 15 45 = g 12 ∧ ((g 12).toInt < (g 11).toInt → zI B 15 42 = g 9 ∧ zI B 15 43 = g 10))
theorem rA_fr {g g' : Nat → Int32} {X : Nat → Nat → Prop} {B B' : zM} (f : zFr 0 0 X B B') (h : rA g B) (x1 : ∀ k, (41 ≤ k ∧ k ≤ 47) ∨ (49 ≤ k ∧ k ≤ 51) → ¬ X 15 k) (x2 : ∀ a k, 43 ≤ a → a ≤ 45 → ¬ X a k) (e : ∀ j, j < 23 → j ≠ 3 → j ≠ 13 → j ≠ 14 → g' j = g j) : rA g' B' := by
  have hn := z_new_ge B
  have q1 : ∀ k, (41 ≤ k ∧ k ≤ 47) ∨ (49 ≤ k ∧ k ≤ 51) → zI B' 15 k = zI B 15 k := fun k hk => zFr_I f _ (by omega) (x1 k hk)
  have q2 : ∀ a k, 43 ≤ a → a ≤ 45 → zI B' a k = zI B a k := fun a k a1 a2 => zFr_I f _ (by omega) (x2 a k a1 a2)
  obtain ⟨⟨a1, a2, a3, a4, a5, a6⟩, b, c, l, d1, d2, d3⟩ := h
  refine ⟨⟨?_, ?_, ?_, ?_, ?_, ?_⟩, fun t ht => ?_, fun t ht => ?_, fun t ht => ?_, ?_, ?_, fun hh => ?_⟩
  · rw [q1 _ (by omega), e _ (by omega) (by omega) (by omega) (by omega)]; exact a1
  · rw [q1 _ (by omega), e _ (by omega) (by omega) (by omega) (by omega)]; exact a2
  · rw [q1 _ (by omega), e _ (by omega) (by omega) (by omega) (by omega)]; exact a3
  · rw [q1 _ (by omega), e _ (by omega) (by omega) (by omega) (by omega)]; exact a4
  · rw [q1 _ (by omega), e _ (by omega) (by omega) (by omega) (by omega)]; exact a5
  · rw [q1 _ (by omega), e _ (by omega) (by omega) (by omega) (by omega)]; exact a6
  · rw [q2 _ _ (by omega) (by omega), e _ (by omega) (by omega) (by omega) (by omega)]; exact b t ht
  · rw [q2 _ _ (by omega) (by omega), e _ (by omega) (by omega) (by omega) (by omega)]; exact c t ht
  · rw [q2 _ _ (by omega) (by omega), e _ (by omega) (by omega) (by omega) (by omega)]; exact l t ht
  · rw [q1 _ (by omega), e _ (by omega) (by omega) (by omega) (by omega)]; exact d1
  · rw [q1 _ (by omega), e _ (by omega) (by omega) (by omega) (by omega)]; exact d2
  · rw [e _ (by omega) (by omega) (by omega) (by omega), e _ (by omega) (by omega) (by omega) (by omega)] at hh
    rw [q1 _ (by omega), q1 _ (by omega), e _ (by omega) (by omega) (by omega) (by omega), e _ (by omega) (by omega) (by omega) (by omega)]; exact d3 hh
def rY (S : yR) (l : yL) (B : zM) : Prop := rB S B ∧ rL l B ∧ rA (yG S) B
def xho (a k : Nat) : Prop := xop a k ∨ a = 43
theorem rA_op {g g' : Nat → Int32} {B B' : zM} (f : zFr 0 0 xop B B') (h : rA g B) (e : ∀ j, j < 23 → j ≠ 13 → g' j = g j) : rA g' B' := rA_fr f h (fun k hk q => by rcases q with q | q | q | q <;> omega) (fun a k a1 a2 q => by rcases q with q | q | q | q <;> omega) (fun j a _ b _ => e j a b)
/-- a hole's bit is turned -/
theorem r_bit {S : yR} {l : yL} {B : zM} {t : Nat} (h : rY S l B) (ht : t < 8) {v : Int32} (hv : v = bI (!(btF (yG S 7) t))) : rY (hoS S t) l (z_wI B 43 t v) := by
  obtain ⟨h1, h2, ⟨a, b, c, le, d1, d2, d3⟩⟩ := h
  have f : zFr 0 0 (fun a _ => a = 43) B (z_wI B 43 t v) := zFr_wI (X := fun a _ => a = 43) rfl
  refine ⟨?_, rL_fr f h2 (by omega) (fun a k _ _ q => by omega), ⟨?_, fun u hu => ?_, fun u hu => ?_, fun u hu => ?_, ?_, ?_, ?_⟩⟩
  · obtain ⟨k1, k2, k3, k4, k5⟩ := rB_fr f h1 (by omega) (by omega) (fun a k e q => by omega)
    refine ⟨?_, ?_, fun i hi => ?_, k4, k5⟩
    · rw [hoS_G S t (by omega)]; exact k1
    · rw [hoS_G S t (by omega)]; exact k2
    · rw [hoS_G S t (by omega), hoS_G S t (by omega), hoS_G S t (by omega)]; exact k3 i hi
  · rw [hoS_G S t (by omega), hoS_G S t (by omega), hoS_G S t (by omega), hoS_G S t (by omega), hoS_G S t (by omega), hoS_G S t (by omega), zI_wI_a (by omega), zI_wI_a (by omega), zI_wI_a (by omega), zI_wI_a (by omega), zI_wI_a (by omega), zI_wI_a (by omega)]; exact a
  · unfold hoS
    rw [yG_uG, up_s, bt_xor, bt_1 (by omega) (by omega)]
    by_cases e : u = t
    · subst e; rw [zI_wI_s, decide_eq_true rfl, Bool.xor_true]; exact hv
    · rw [zI_wI_k e, decide_eq_false e, Bool.xor_false]; exact b u hu
  · rw [hoS_G S t (by omega), zI_wI_a (by omega)]; exact c u hu
  · rw [hoS_G S t (by omega), zI_wI_a (by omega)]; exact le u hu
  · rw [hoS_G S t (by omega), zI_wI_a (by omega)]; exact d1
  · rw [hoS_G S t (by omega), zI_wI_a (by omega)]; exact d2
  · rw [hoS_G S t (by omega), hoS_G S t (by omega), hoS_G S t (by omega), hoS_G S t (by omega), zI_wI_a (by omega), zI_wI_a (by omega)]; exact d3
theorem r_lgA {S : yR} {l : yL} {B B' : zM} {x y z : Int32} (h : rY S l B) (h1 : rB (lgF S x y z) B') (f : zFr 0 0 xtl B B') : rY (lgF S x y z) l B' := ⟨h1, rL_fr f h.2.1 (fun e => by rcases e with e | e <;> omega) (fun a k _ _ e => by rcases e with e | e <;> omega), rA_fr f h.2.2 (fun k hk e => by rcases e with e | e <;> omega) (fun a k _ _ e => by rcases e with e | e <;> omega) (fun j _ _ b _ => by rw [lg_G, up_o b])⟩
theorem xho_tl {a k : Nat} (h : xtl a k) : xho a k := by
  rcases h with e | e
  · exact Or.inl (Or.inl ⟨e.1, Or.inr e.2⟩)
  · exact Or.inl (Or.inr (Or.inr (Or.inr ⟨by omega, by omega⟩)))
theorem op_G {J : zJ} (w : wJ J) {t i b : Nat} {S : yR} {l : yL} (hi : i < jN J) (hl : okL (jN J) l) (ht : t < 8) (hlz : l.length + jZ J i ≤ 320) {go : Nat} (hgo : yG S 3 = zn go) (hg2 : go ≤ 20000) (he : evB S b) (hb : b + 80 < 2147483646) {j : Nat} (h1 : j ≠ 13) (h2 : j < 23) : yG (opE l (opL J t 40 [i] S l)) j = yG S j := by
  have z40 := (w.2.2.2 i hi).2.2.2.2.2.2.1
  have hw1 : wP J [i] := fun q hq => by rw [List.mem_singleton.mp hq]; exact hi
  have hs1 : smZ J [i] = jZ J i := rfl
  obtain ⟨⟨e, i1, i2, i3⟩, i4, i5⟩ := op_inv w t 40 [i] S l b hw1 (by rw [hs1]; omega) he (by rw [hs1]; omega)
  rw [hs1] at i2
  have hokl : okL (jN J) (opL J t 40 [i] S l).2.2 := by
    rw [i1]
    refine okL_app hl (by omega) (fun s hs => ?_)
    obtain ⟨s1, s2, s3⟩ := i3 s hs
    rw [evG hgo hg2] at s3
    exact ⟨s1, by omega, by omega⟩
  unfold opE
  split
  · exact i5 j h1 (Or.inl h2)
  · rw [en_G hl.1 _ _ (dn_ok hokl l.length _ (by rw [i1, List.length_append]; omega)) h1 (by omega)]
    exact i5 j h1 (Or.inl h2)
theorem r_openH (d : Nat) {J : zJ} {H : zH} {B : zM} {S : yR} {l : yL} {t b : Nat} (wj : wJ J) (hj : rJ3 J B) (w : wH (jN J) H) (hh : rH H B) (ht : t < 8) (hY : rY S l B) (hi : iv (jN J) S l) (he : evB S b) (hb : b + 2000 < 2147483646) (g : btF (yG S 7) t = false) : ∃ B', z_den zQ (d + 4) mQ_openHole [.ref 15, .int (zn t)] B = some (none, B') ∧ rY (hoF J H t true S l).1 (hoF J H t true S l).2 B' ∧ zFr 0 0 xho B B' := by
  have w0 := wj.1
  have hl := hi.1
  have hlen := iv_len hi ht g
  obtain ⟨go, hgo, hg2⟩ := hi.2.2.2
  have hY1 := r_bit (v := 1) hY ht (by rw [g, nL_1]; rfl)
  have he1 := hoS_e (t := t) he
  have hgo1 : yG (hoS S t) 3 = zn go := by rw [hoS_G S t (by omega)]; exact hgo
  have f1 : zFr 0 0 xho B (z_wI B 43 t 1) := zFr_wI (X := xho) (Or.inr rfl)
  have zt : z_ix (zn t) 8 = true := z_ix_T ht (by omega)
  have nt : Int32.toNatClampNeg (zn t) = t := zn_N (by omega)
  unfold hoF
  rw [if_neg (by rw [g]; decide), if_neg (by decide)]
  obtain ⟨r37, r38⟩ := hh.2.2.2.2 t ht
  rw [B_Q_openHole, zt, cond_true, cond_true, nt, r37, Int32.add_sub_cancel]
  rcases w.2.2.2.2.2.2 t ht with ec | ⟨c, hc, ec⟩
  · rw [ec, pif_T (Or.inl rfl), show z_lt (-1 : Int32) 0 = true from z_lt_m0, cond_true]
    exact ⟨_, rfl, hY1, f1⟩
  have w1 := w.1
  have ncm := zn_nm (i := c) (by omega)
  have hnc : Int32.toNatClampNeg (zn c) = c := zn_N (by omega)
  have w3 := w.2.2.1 c hc
  have w4 := w.2.2.2.1
  have w5 := chF_n w (c := c + 1) (by omega)
  obtain ⟨r1, r2, r3⟩ := hh.2.2.1 c hc
  have r45 := hY.2.2.2.2.1 c (by omega)
  unfold hoI hoP
  rw [ec, hnc, show z_lt (zn c) (0 : Int32) = false by rw [nL_0]; exact z_lt_F (by omega) (by omega), cond_false, z_ix_T (by omega) (by omega), cond_true, r45, bI_n1]
  cases hd : btF (yG S 8) c
  · rw [pif_T (Or.inr rfl), cond_false]
    exact ⟨_, rfl, hY1, f1⟩
  rw [pif_F (fun q => q.elim ncm (fun q => by cases q)), cond_true, cond_true, r38, r2]
  have ff : ∀ a k, a ≠ 43 → zI (z_wI B 43 t 1) a k = zI B a k := fun a k e => zI_wI_a e
  have le1 : z_le (1 : Int32) 0 = false := by rw [z_le_eq]; rfl
  have le2 : z_le (2 : Int32) 0 = false := by rw [z_le_eq]; rfl
  have le10 : z_le (10 : Int32) 0 = false := by rw [z_le_eq]; rfl
  have le00 : z_le (0 : Int32) 0 = true := by rw [z_le_eq]; rfl
  by_cases gi : 0 ≤ (chI H t).toInt ∧ (chI H t).toInt < (chF H (c + 1) : Int) - chF H c
  · rw [pif_T gi, Q_wiT (by rw [toI_0, zn_p1 (by omega)]; omega), z_bI_some, ne_10, cond_true]
    obtain ⟨y, hy, ey⟩ := zn_ex gi.1
    have g2 := gi.2
    rw [ey, zn_toInt hy] at g2
    have r36 := hh.2.2.2.1 (chF H c + y) (by omega)
    simp only [ff _ _ (by omega : (35 : Nat) ≠ 43), ff _ _ (by omega : (38 : Nat) ≠ 43), ff _ _ (by omega : (36 : Nat) ≠ 43), r3, r38]
    rw [ey, zn_add, zn_N hy, z_ix_T (by omega) (by omega), zn_N (by omega), r36, cond_true, cond_true, cond_true, cond_true, cond_true, cond_true]
    rcases w.2.2.2.2.2.1 (chF H c + y) (by omega) with ep | ⟨i, hi', ep⟩
    · rw [ep, pif_T rfl, show hQ (-1) = -4 from pif_T rfl, show z_ne (-4 : Int32) (-4) = false by rw [z_ne_eq]; rfl, cond_false, le1, cond_false]
      obtain ⟨B', q1, q2, q3⟩ := r_tell (d + 2) hY1.1 he1 (by omega) 3 (zn t) 1
      exact ⟨B', by rw [q1, z_bV_some], r_lgA hY1 q2 q3, zFr_trans f1 q3 (fun _ _ _ e => xho_tl e)⟩
    · have z40 := (wj.2.2.2 i hi').2.2.2.2.2.2.1
      have hQi : hQ (zn i) = zn i := pif_F (zn_nm (by omega))
      have n4 : z_ne (zn i) (-4 : Int32) = true := by
        rw [z_ne_eq]
        refine decide_eq_true (fun q => ?_)
        have := congrArg Int32.toInt q
        rw [zn_toInt (by omega), show (-4 : Int32).toInt = -4 from rfl] at this
        omega
      rw [ep, pif_F (zn_nm (by omega)), hQi, zn_N (by omega), n4, cond_true]
      unfold hoO
      have hj1 : rJ3 J (z_wI B 43 t 1) := rJ3_fr f1 hj (fun a k a1 a2 q => by rcases q with (q | q | q | q) | q <;> omega)
      obtain ⟨B', q1, q2, q3, q4⟩ := r_opens d (F := 40) wj hj1 hY1.1 hY1.2.1 hl hi' (by omega) (by omega) ht hgo1 hg2 he1 (by omega)
      have q5 : rA (yG (opE l (opL J t 40 [i] (hoS S t) l))) B' := rA_op q4 hY1.2.2 (fun j a c => op_G wj hi' hl ht (by omega) hgo1 hg2 he1 (by omega) c a)
      have q6 : zFr 0 0 xho B B' := zFr_trans f1 q4 (fun _ _ _ e => Or.inl e)
      rw [q1, z_bI_some, bI_n1]
      by_cases hR : (opL J t 40 [i] (hoS S t) l).1 = true
      · rw [if_pos hR, hR, cond_true, le00, cond_true]
        exact ⟨B', rfl, ⟨q2, q3, q5⟩, q6⟩
      · have hRf : (opL J t 40 [i] (hoS S t) l).1 = false := by cases hq : (opL J t 40 [i] (hoS S t) l).1 <;> simp_all
        rw [if_neg hR, hRf, cond_false, le10, cond_false]
        have hw1 : wP J [i] := fun q hq => by rw [List.mem_singleton.mp hq]; exact hi'
        have hs1 : smZ J [i] = jZ J i := rfl
        obtain ⟨B2, p1, p2, p3⟩ := r_tell (d + 2) q2 (evB_opE wj (l := l) hw1 (by rw [hs1]; omega) he1 (by rw [hs1]; omega)) (by rw [hs1]; omega) 3 (zn t) 10
        exact ⟨B2, by rw [p1, z_bV_some]; rfl, r_lgA ⟨q2, q3, q5⟩ p2 p3, zFr_trans q6 p3 (fun _ _ _ e => xho_tl e)⟩
  · rw [pif_F gi, Q_wiF (by rw [toI_0, zn_p1 (by omega)]; omega), z_bI_some, ne_00, cond_false, le2, cond_false]
    obtain ⟨B', q1, q2, q3⟩ := r_tell (d + 2) hY1.1 he1 (by omega) 3 (zn t) 2
    exact ⟨B', by rw [q1, z_bV_some]; rfl, r_lgA hY1 q2 q3, zFr_trans f1 q3 (fun _ _ _ e => xho_tl e)⟩
theorem r_shutH (d : Nat) {J : zJ} {H : zH} {B : zM} {S : yR} {l : yL} {t b : Nat} (ht : t < 8) (hY : rY S l B) (hi : iv (jN J) S l) (he : evB S b) (hb : b + 2000 < 2147483646) (g : btF (yG S 7) t = true) : ∃ B', z_den zQ (d + 3) mQ_shutHole [.ref 15, .int (zn t)] B = some (none, B') ∧ rY (hoF J H t false S l).1 (hoF J H t false S l).2 B' ∧ zFr 0 0 xho B B' := by
  have hl := hi.1
  have hY1 := r_bit (v := 0) hY ht (by rw [g, nL_0]; rfl)
  obtain ⟨B', q1, q2, q3, q4⟩ := r_shut d (S := hoS S t) hl (by
    obtain ⟨k1, k2, k3, k4, k5⟩ := hY.1
    exact ⟨by rw [hoS_G S t (by omega)]; exact k1, by rw [hoS_G S t (by omega)]; exact k2, fun i hi => by rw [hoS_G S t (by omega), hoS_G S t (by omega), hoS_G S t (by omega)]; exact k3 i hi, k4, k5⟩) hY.2.1 (hoS_e he) (by omega) ht
  refine ⟨B', q1, ?_, zFr_trans (zFr_wI (X := xho) (Or.inr rfl)) q4 (fun _ _ _ e => Or.inl (xop_en e))⟩
  unfold hoF
  rw [if_neg (by rw [g]; decide), if_pos rfl]
  exact ⟨q2, q3, rA_op (zFr_mono q4 (Nat.le_refl _) (Nat.le_refl _) (fun _ _ e => xop_en e)) hY1.2.2 (fun j a c => en_G hl.1 _ _ (dt_ok hl t _ (Nat.le_refl _)) c (by omega))⟩
