/-! S LEVEL, PLAYING: an element of holes, both sides. -/
noncomputable def hlF (J : zJ) (H : zH) (e : Int32) : Nat → Nat → yR × yL → yR × yL
  | 0, _, X => X
  | r + 1, t, X => hlF J H e r (t + 1) (hoF J H t (btF e t) X.1 X.2)
theorem hl_inv {J : zJ} {H : zH} (e : Int32) (wj : wJ J) (w : wH (jN J) H) : ∀ (r t : Nat) (S : yR) (l : yL) (b : Nat), t + r = 8 → iv (jN J) S l → evB S b → b + 320 * r + 2000 < 2147483646 → iv (jN J) (hlF J H e r t (S, l)).1 (hlF J H e r t (S, l)).2 ∧ evB (hlF J H e r t (S, l)).1 (b + 320 * r) ∧ ∀ j, j < 23 → j ≠ 7 → j ≠ 13 → yG (hlF J H e r t (S, l)).1 j = yG S j
  | 0, t, S, l, b, _, hi, he, hb => ⟨hi, he, fun _ _ _ _ => rfl⟩
  | r + 1, t, S, l, b, ht, hi, he, hb => by
    obtain ⟨a1, a2, a3⟩ := iv_ho (btF e t) wj w (t := t) (by omega) hi he (by omega)
    obtain ⟨b1, b2, b3⟩ := hl_inv e wj w r (t + 1) _ _ (b + 320) (by omega) a1 a2 (by omega)
    exact ⟨b1, evB_mo b2 (by omega), fun j x y z => (b3 j x y z).trans (a3 j x y z)⟩
theorem bI_n1' (b : Bool) : z_ne (bI b) 1 = !b := by
  cases b
  · rw [bI_F, nL_1, z_ne_T (by omega) (by omega) (by omega)]; rfl
  · rw [bI_T, nL_1, z_ne_F]; rfl
theorem L_eh (d : Nat) {J : zJ} {H : zH} {A : zM} {e l2 : Int32} {a1 : Nat} (wj : wJ J) (hj : cJ J A) (w : wH (jN J) H) (hh : cH H A) : ∀ (r t : Nat) (f : Nat → Int32) (S : yR) (l : yL) (b : Nat), t + r = 8 → cY (yG S) l f → iv (jN J) S l → evB S b → b + 320 * r + 2000 < 2147483646 → ∃ f', z_denF zQ (d + 46) mO_doElement (39, [some (.ref 3), some (.ref a1), some (.int l2), some (.int e), some (.int (zn t))], [], yC A f S) = some (none, yC A f' (hlF J H e r t (S, l)).1) ∧ cY (yG (hlF J H e r t (S, l)).1) (hlF J H e r t (S, l)).2 f'
  | 0, t, f, S, l, b, ht, hY, hi, he, hb => by
    refine ⟨f, ?_, hY⟩
    rw [L_O_doElement_39, nL_8, z_le_T (by omega) (by omega), cond_true]; rfl
  | r + 1, t, f, S, l, b, ht, hY, hi, he, hb => by
    obtain ⟨f1, q1, q2⟩ := c_hole d (p := btF e t) wj hj w hh (t := t) (by omega) hY hi he (by omega)
    obtain ⟨i1, i2, i3⟩ := iv_ho (btF e t) wj w (t := t) (by omega) hi he (by omega)
    obtain ⟨f2, p1, p2⟩ := L_eh d (e := e) (l2 := l2) (a1 := a1) wj hj w hh r (t + 1) f1 _ _ (b + 320) (by omega) q2 i1 i2 (by omega)
    refine ⟨f2, ?_, p2⟩
    rw [L_O_doElement_39, nL_8, z_le_F (by omega) (by omega), cond_false, sh_bit _ (by omega), bI_n1', zn_1]
    cases hq : btF e t
    · rw [hq] at q1 p1
      rw [show (!false) = true from rfl, cond_true, nL_0, ← bI_F, q1, z_bV_some]
      unfold hlF
      rw [hq]; exact p1
    · rw [hq] at q1 p1
      rw [show (!true) = false from rfl, cond_false, nL_1, ← bI_T, q1, z_bV_some]
      unfold hlF
      rw [hq]; exact p1
theorem rH_ho {H : zH} {B B' : zM} (f : zFr 0 0 xho B B') (h : rH H B) : rH H B' := rH_fr f h (fun e => by rcases e with (e | e | e | e) | e <;> omega) (fun e => by rcases e with (e | e | e | e) | e <;> omega) (fun a k _ _ e => by rcases e with (e | e | e | e) | e <;> omega)
theorem rJ3_ho {J : zJ} {B B' : zM} (f : zFr 0 0 xho B B') (h : rJ3 J B) : rJ3 J B' := rJ3_fr f h (fun a k _ _ e => by rcases e with (e | e | e | e) | e <;> omega)
theorem L_rh (d : Nat) {J : zJ} {H : zH} {e l1 : Int32} (wj : wJ J) (w : wH (jN J) H) : ∀ (r t : Nat) (o4 : Option Value) (B : zM) (S : yR) (l : yL) (b : Nat), t + r = 8 → rJ3 J B → rH H B → rY S l B → iv (jN J) S l → evB S b → b + 320 * r + 2000 < 2147483646 → ∃ B', z_denF zQ (d + 5) mQ_does (30, [some (.ref 15), some (.int l1), some (.int e), some (.int (zn t)), o4], [], B) = some (none, B') ∧ rY (hlF J H e r t (S, l)).1 (hlF J H e r t (S, l)).2 B' ∧ zFr 0 0 xho B B'
  | 0, t, o4, B, S, l, b, ht, hj, hh, hY, hi, he, hb => by
    refine ⟨B, ?_, hY, zFr_refl _ _⟩
    rw [L_Q_does_30, nL_8, z_le_T (by omega) (by omega), cond_true]
  | r + 1, t, o4, B, S, l, b, ht, hj, hh, hY, hi, he, hb => by
    have zt : z_ix (zn t) 8 = true := z_ix_T (by omega) (by omega)
    have nt : Int32.toNatClampNeg (zn t) = t := zn_N (by omega)
    have e43 := hY.2.2.2.1 t (by omega)
    have z00 : z_eq (0 : Int32) 0 = true := by rw [z_eq_eq]; rfl
    have z10 : z_eq (1 : Int32) 0 = false := by rw [z_eq_eq]; rfl
    have n00 : z_ne (0 : Int32) 0 = false := by rw [z_ne_eq]; rfl
    have n10 : z_ne (1 : Int32) 0 = true := by rw [z_ne_eq]; rfl
    obtain ⟨i1, i2, i3⟩ := iv_ho (btF e t) wj w (t := t) (by omega) hi he (by omega)
    have go : ∀ (o : Option Value) (B1 : zM), rY (hoF J H t (btF e t) S l).1 (hoF J H t (btF e t) S l).2 B1 → zFr 0 0 xho B B1 → ∃ B', z_denF zQ (d + 4 + 1) mQ_does (30, [some (.ref 15), some (.int l1), some (.int e), some (.int (zn (t + 1))), o], [], B1) = some (none, B') ∧ rY (hlF J H e (r + 1) t (S, l)).1 (hlF J H e (r + 1) t (S, l)).2 B' ∧ zFr 0 0 xho B B' := by
      intro o B1 h1 f1
      obtain ⟨B', p1, p2, p3⟩ := L_rh d (e := e) (l1 := l1) wj w r (t + 1) o B1 _ _ (b + 320) (by omega) (rJ3_ho f1 hj) (rH_ho f1 hh) h1 i1 i2 (by omega)
      exact ⟨B', p1, p2, x_tr f1 p3⟩
    rw [L_Q_does_30, nL_8, z_le_F (by omega) (by omega), cond_false, sh_bit _ (by omega), bI_n1']
    simp only [z00, z10, n00, n10, cond_true, cond_false, zt, nt, e43, bI_eq0, bI_n1, zn_1]
    by_cases g : btF (yG S 7) t = btF e t
    · have hX : hoF J H t (btF e t) S l = (S, l) := by unfold hoF; rw [if_pos g]
      rw [hX] at go
      cases hq : btF e t
      · rw [g, hq, show (!false) = true from rfl, cond_true, cond_true]
        exact go _ B hY (zFr_refl _ _)
      · rw [g, hq, show (!true) = false from rfl, cond_false, cond_true]
        exact go _ B hY (zFr_refl _ _)
    · cases hq : btF e t
      · have g' : btF (yG S 7) t = true := by rw [hq] at g; cases h : btF (yG S 7) t <;> simp_all
        rw [g', show (!false) = true from rfl, show (!true) = false from rfl, cond_true, cond_false]
        obtain ⟨B1, q1, q2, q3⟩ := r_shutH (d + 1) (J := J) (H := H) (t := t) (by omega) hY hi he (by omega) g'
        rw [hq] at go
        rw [q1, z_bV_some]
        exact go _ B1 q2 q3
      · have g' : btF (yG S 7) t = false := by rw [hq] at g; cases h : btF (yG S 7) t <;> simp_all
        rw [g', show (!true) = false from rfl, cond_false, cond_false]
        obtain ⟨B1, q1, q2, q3⟩ := r_openH d wj hj w hh (t := t) (by omega) hY hi he (by omega) g'
        rw [hq] at go
        rw [q1, z_bV_some]
        exact go _ B1 q2 q3
