/-! S LEVEL, PLAYING: an element, the reference; what an element keeps. -/
def xel (a k : Nat) : Prop := xho a k ∨ xra a k
theorem r_elem (d : Nat) {J : zJ} {H : zH} {B : zM} {S : yR} {l : yL} {k b : Nat} {e : Int32} (wj : wJ J) (hj : rJ3 J B) (w : wH (jN J) H) (hh : rH H B) (hk : k ≤ 3) (hY : rY S l B) (hi : iv (jN J) S l) (he : evB S b) (hb : b + 5000 < 2147483646) : ∃ B', z_den zQ (d + 5) mQ_does [.ref 15, .int (zn k), .int e] B = some (none, B') ∧ rY (elF J H k e S l).1 (elF J H k e S l).2 B' ∧ zFr 0 0 xel B B' := by
  rw [B_Q_does]
  unfold elF
  by_cases k0 : k = 0
  · rw [if_pos k0, k0, z_eq_00, cond_true, nL_0]
    obtain ⟨B', q1, q2, q3⟩ := L_rh d (e := e) (l1 := zn 0) wj w 8 0 none B S l b rfl hj hh hY hi he (by omega)
    exact ⟨B', q1, q2, zFr_mono q3 (Nat.le_refl _) (Nat.le_refl _) (fun _ _ e => Or.inl e)⟩
  rw [if_neg k0, show z_eq (zn k) (0 : Int32) = false by rw [nL_0]; exact z_eq_F k0 (by omega) (by omega), cond_false]
  by_cases k1 : k = 1
  · rw [if_pos k1, k1, show z_eq (zn 1) (1 : Int32) = true by rw [nL_1]; exact z_eq_T _, cond_true, nL_0]
    obtain ⟨B', q1, q2, q3⟩ := L_rlv (d + 4) (e := e) (l1 := zn 1) 8 0 B S l rfl hY
    exact ⟨B', q1, q2, zFr_mono q3 (Nat.le_refl _) (Nat.le_refl _) (fun _ _ e => Or.inr e)⟩
  rw [if_neg k1, show z_eq (zn k) (1 : Int32) = false by rw [nL_1]; exact z_eq_F k1 (by omega) (by omega), cond_false]
  by_cases k2 : k = 2
  · rw [if_pos k2, k2, show z_eq (zn 2) (2 : Int32) = true by rw [nL_2]; exact z_eq_T _, cond_true]
    obtain ⟨B', q1, q2, q3⟩ := r_stops (d + 3) (e := e) hY
    exact ⟨B', q1, q2, zFr_mono q3 (Nat.le_refl _) (Nat.le_refl _) (fun _ _ e => Or.inr e)⟩
  rw [if_neg k2, show z_eq (zn k) (2 : Int32) = false by rw [nL_2]; exact z_eq_F k2 (by omega) (by omega), cond_false]
  obtain ⟨B', q1, q2, q3⟩ := r_tempo (d + 3) (x := e &&& 65535) (y := h16F e) hY
  refine ⟨B', ?_, q2, zFr_mono q3 (Nat.le_refl _) (Nat.le_refl _) (fun _ _ e => Or.inr e)⟩
  unfold h16F at q1
  rw [q1, z_bV_some]
theorem evB_cg {S S' : yR} {b : Nat} (h : evB S b) (e : yG S' 13 = yG S 13) : evB S' b := by unfold evB evN; rw [e]; exact h
theorem st_G (S : yR) (e : Int32) {j : Nat} (h : j ≠ 8) : yG (stF S e) j = yG S j := by
  unfold stF
  by_cases g1 : 65 ≤ e.toInt ∧ e.toInt ≤ 80
  · rw [pif_T g1, yG_uG, up_o h]
  rw [pif_F g1]
  by_cases g2 : 97 ≤ e.toInt ∧ e.toInt ≤ 112
  · rw [pif_T g2, yG_uG, up_o h]
  · rw [pif_F g2]
theorem tp_G (S : yR) (x y : Int32) {j : Nat} (h : j ≠ 0) (h2 : j < 9 ∨ 13 ≤ j) : yG (tpF S x y) j = yG S j := by
  have t1 : yG (tp1 S x y) j = yG S j := by
    show up (up (up (up (yG S) 11 y) 12 0) 9 (yG S 0)) 10 x j = _
    simp (disch := omega) only [up_o]
  unfold tpF
  by_cases g : x = 0
  · rw [pif_T g]
  rw [pif_F g]
  by_cases g2 : y = 0
  · rw [pif_T g2, yG_uG, up_o h, t1]
  · rw [pif_F g2, t1]
theorem st_16 {S : yR} {e : Int32} (h : ∀ c, 16 ≤ c → c < 32 → btF (yG S 8) c = false) : ∀ c, 16 ≤ c → c < 32 → btF (yG (stF S e) 8) c = false := by
  intro c c1 c2
  unfold stF
  by_cases g1 : 65 ≤ e.toInt ∧ e.toInt ≤ 80
  · obtain ⟨n, hn, rfl⟩ := zn_ex (show 0 ≤ e.toInt by omega)
    rw [zn_toInt hn] at g1
    rw [pif_T (by rw [zn_toInt hn]; exact g1), yG_uG, up_s, bt_or, h c c1 c2, nL_65, zn_sub (by omega), bt_1 (by omega) c2, decide_eq_false (by omega)]; rfl
  rw [pif_F g1]
  by_cases g2 : 97 ≤ e.toInt ∧ e.toInt ≤ 112
  · rw [pif_T g2, yG_uG, up_s, bt_and, h c c1 c2, Bool.false_and]
  · rw [pif_F g2]; exact h c c1 c2
/-- an element: what is kept, and what of the state it leaves as it was -/
theorem el_inv {J : zJ} {H : zH} {S : yR} {l : yL} {k b : Nat} {e : Int32} (wj : wJ J) (w : wH (jN J) H) (hi : iv (jN J) S l) (he : evB S b) (hb : b + 5000 < 2147483646) : iv (jN J) (elF J H k e S l).1 (elF J H k e S l).2 ∧ evB (elF J H k e S l).1 (b + 2560) ∧ ∀ j, 1 ≤ j → j < 7 → yG (elF J H k e S l).1 j = yG S j := by
  unfold elF
  split
  · obtain ⟨a1, a2, a3⟩ := hl_inv e wj w 8 0 S l b rfl hi he (by omega)
    exact ⟨a1, a2, fun j h1 h2 => a3 j (by omega) (by omega) (by omega)⟩
  split
  · have q : ∀ j, j < 15 → yG (lvF e 8 0 S) j = yG S j := fun j hj => lv_G e 8 0 S (by omega)
    exact ⟨iv_cg hi (fun j hj => q j (by omega)), evB_mo (evB_cg he (q 13 (by omega))) (by omega), fun j _ h2 => q j (by omega)⟩
  split
  · refine ⟨?_, evB_mo (evB_cg he (st_G S e (by omega))) (by omega), fun j _ h2 => st_G S e (by omega)⟩
    obtain ⟨h1, h2, h3, go, h4, h5⟩ := hi
    refine ⟨h1, fun t ht => ?_, st_16 h3, go, ?_, h5⟩
    · show ctF t l ≤ 40 ∧ (btF (yG (stF S e) 7) t = false → ctF t l = 0)
      rw [st_G S e (by omega)]; exact h2 t ht
    · show yG (stF S e) 3 = _
      rw [st_G S e (by omega)]; exact h4
  · refine ⟨?_, evB_mo (evB_cg he (tp_G S _ _ (by omega) (by omega))) (by omega), fun j _ h2 => tp_G S _ _ (by omega) (by omega)⟩
    obtain ⟨h1, h2, h3, go, h4, h5⟩ := hi
    refine ⟨h1, fun t ht => ?_, fun c c1 c2 => ?_, go, ?_, h5⟩
    · show ctF t l ≤ 40 ∧ (btF (yG (tpF S (e &&& 65535) (h16F e)) 7) t = false → ctF t l = 0)
      rw [tp_G S _ _ (by omega) (by omega)]; exact h2 t ht
    · show btF (yG (tpF S (e &&& 65535) (h16F e)) 8) c = false
      rw [tp_G S _ _ (by omega) (by omega)]; exact h3 c c1 c2
    · show yG (tpF S (e &&& 65535) (h16F e)) 3 = _
      rw [tp_G S _ _ (by omega) (by omega)]; exact h4
