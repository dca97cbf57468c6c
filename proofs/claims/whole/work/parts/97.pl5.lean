/-! S LEVEL, PLAYING: openings, pure. -/
noncomputable def bg1 (J : zJ) (S : yR) (i : Nat) : yR := if jS J i = 6 then uT (uT S 14) 15 else uT S 14
noncomputable def bg2 (J : zJ) (S : yR) (i : Nat) : yR := pif (0 < (yG S (23 + i)).toInt) (uG (bg1 J S i) (23 + i) (yG S (23 + i) - 1)) (bg1 J S i)
noncomputable def bg3 (J : zJ) (S : yR) (i tr : Nat) : yR := lgF (uG (bg2 J S i) (83 + i) (yG S (83 + i) + 1)) 1 (zn i) (zn tr)
def goN (S : yR) : Nat := (yG S 3).toNatClampNeg
noncomputable def opL (J : zJ) (tr : Nat) : Nat → List Nat → yR → yL → Bool × yR × yL
  | 0, _, S, l => (true, S, l)
  | _ + 1, [], S, l => (true, S, l)
  | f + 1, i :: r, S, l => pif (yG S (23 + i) = 1) (false, bg2 J S i, l) (opL J tr f (msF J i 0 (jM J i) ++ r) (bg3 J S i tr) (l ++ [(i, tr, goN S)]))
theorem b1_G (J : zJ) (S : yR) (i : Nat) : yG (bg1 J S i) = yG S := by unfold bg1; split <;> rfl
theorem b2_G (J : zJ) (S : yR) (i : Nat) {j : Nat} (h : j ≠ 23 + i) : yG (bg2 J S i) j = yG S j := by
  unfold bg2
  by_cases g : 0 < (yG S (23 + i)).toInt
  · rw [pif_T g, yG_uG, up_o h, b1_G]
  · rw [pif_F g, b1_G]
theorem b3_G (J : zJ) (S : yR) (i tr : Nat) {j : Nat} (h : j ≠ 23 + i) (h2 : j ≠ 83 + i) (h3 : j ≠ 13) : yG (bg3 J S i tr) j = yG S j := by
  unfold bg3
  rw [lg_G, up_o h3, yG_uG, up_o h2, b2_G J S i h]
theorem b3_13 (J : zJ) (S : yR) (i tr : Nat) : yG (bg3 J S i tr) 13 = yG S 13 + 1 := by
  unfold bg3
  rw [lg_G, up_s, yG_uG, up_o (by omega), b2_G J S i (by omega)]
def wP (J : zJ) (p : List Nat) : Prop := ∀ i, i ∈ p → i < jN J
theorem wP_ms {J : zJ} (w : wJ J) {i : Nat} (hi : i < jN J) : wP J (msF J i 0 (jM J i)) := fun _ hj => (ms_z w hi hj).1
theorem wP_app {J : zJ} {p q : List Nat} (h1 : wP J p) (h2 : wP J q) : wP J (p ++ q) := fun i hi => (List.mem_append.mp hi).elim (h1 i) (h2 i)
theorem wP_c {J : zJ} {i : Nat} {r : List Nat} (h : wP J (i :: r)) : i < jN J ∧ wP J r := ⟨h i List.mem_cons_self, fun j hj => h j (List.mem_cons_of_mem _ hj)⟩
theorem sm_ms {J : zJ} (w : wJ J) {i : Nat} (hi : i < jN J) (r : List Nat) : smZ J (msF J i 0 (jM J i) ++ r) + 1 = smZ J (i :: r) := by
  have := (w.2.2.2 i hi).2.2.2.2.2.1
  show _ = jZ J i + smZ J r
  rw [smZ_app]; omega
theorem sm_c (J : zJ) (i : Nat) (r : List Nat) : smZ J (i :: r) = jZ J i + smZ J r := rfl
theorem op_nil (J : zJ) (tr f : Nat) (S : yR) (l : yL) : opL J tr f [] S l = (true, S, l) := by cases f <;> rfl
theorem opl_s (J : zJ) (tr f i : Nat) (r : List Nat) (S : yR) (l : yL) : opL J tr (f + 1) (i :: r) S l = pif (yG S (23 + i) = 1) (false, bg2 J S i, l) (opL J tr f (msF J i 0 (jM J i) ++ r) (bg3 J S i tr) (l ++ [(i, tr, goN S)])) := rfl
theorem op_fu {J : zJ} (w : wJ J) (tr : Nat) : ∀ (f f' : Nat) (p : List Nat) (S : yR) (l : yL), wP J p → smZ J p ≤ f → smZ J p ≤ f' → opL J tr f p S l = opL J tr f' p S l
  | f, f', [], S, l, _, _, _ => by rw [op_nil, op_nil]
  | 0, f', i :: r, S, l, hw, h1, h2 => by have := z_pos w (wP_c hw).1; rw [sm_c] at h1; omega
  | f + 1, 0, i :: r, S, l, hw, h1, h2 => by have := z_pos w (wP_c hw).1; rw [sm_c] at h2; omega
  | f + 1, f' + 1, i :: r, S, l, hw, h1, h2 => by
    have e := sm_ms w (wP_c hw).1 r
    rw [opl_s, opl_s, op_fu w tr f f' _ _ _ (wP_app (wP_ms w (wP_c hw).1) (wP_c hw).2) (by omega) (by omega)]
theorem op_app {J : zJ} (w : wJ J) (tr : Nat) : ∀ (f : Nat) (p r : List Nat) (S : yR) (l : yL), wP J p → wP J r → smZ J p + smZ J r ≤ f → opL J tr f (p ++ r) S l = if (opL J tr f p S l).1 = true then opL J tr f r (opL J tr f p S l).2.1 (opL J tr f p S l).2.2 else opL J tr f p S l
  | f, [], r, S, l, _, _, _ => by rw [op_nil]; rfl
  | 0, i :: p, r, S, l, hw, h2, h => by have := z_pos w (wP_c hw).1; rw [sm_c] at h; omega
  | f + 1, i :: p, r, S, l, hw, h2, h => by
    have hi := (wP_c hw).1
    have e := sm_ms w hi p
    rw [List.cons_append, opl_s, opl_s]
    by_cases g : yG S (23 + i) = 1
    · rw [pif_T g, pif_T g]; rfl
    · rw [pif_F g, pif_F g, ← List.append_assoc, op_app w tr f (msF J i 0 (jM J i) ++ p) r _ _ (wP_app (wP_ms w hi) (wP_c hw).2) h2 (by omega)]
      by_cases q : (opL J tr f (msF J i 0 (jM J i) ++ p) (bg3 J S i tr) (l ++ [(i, tr, goN S)])).1 = true
      · rw [if_pos q, if_pos q, op_fu w tr f (f + 1) r _ _ h2 (by omega) (by omega)]
      · rw [if_neg q, if_neg q]
theorem op_inv {J : zJ} (w : wJ J) (tr : Nat) : ∀ (f : Nat) (p : List Nat) (S : yR) (l : yL) (b : Nat), wP J p → smZ J p ≤ f → evB S b → b + smZ J p < 2147483646 → (∃ e, (opL J tr f p S l).2.2 = l ++ e ∧ e.length ≤ smZ J p ∧ ∀ s, s ∈ e → s.1 < jN J ∧ s.2.1 = tr ∧ s.2.2 = goN S) ∧ evB (opL J tr f p S l).2.1 (b + smZ J p) ∧ ∀ j, j ≠ 13 → (j < 23 ∨ 143 ≤ j) → yG (opL J tr f p S l).2.1 j = yG S j
  | f, [], S, l, b, hw, h1, he, hb => by
    rw [op_nil]
    exact ⟨⟨[], (List.append_nil _).symm, Nat.le_refl _, fun s hs => by cases hs⟩, he, fun _ _ _ => rfl⟩
  | 0, i :: r, S, l, b, hw, h1, he, hb => by have := z_pos w (wP_c hw).1; rw [sm_c] at h1; omega
  | f + 1, i :: r, S, l, b, hw, h1, he, hb => by
    have hi := (wP_c hw).1
    have hi6 := w.1
    have e := sm_ms w hi r
    rw [opl_s]
    by_cases g : yG S (23 + i) = 1
    · rw [pif_T g]
      refine ⟨⟨[], (List.append_nil _).symm, Nat.zero_le _, fun s hs => by cases hs⟩, ?_, fun j h1 h2 => b2_G J S i (by omega)⟩
      have : evB (bg2 J S i) b := by unfold evB evN; rw [b2_G J S i (by omega)]; exact he
      exact evB_mo this (by omega)
    · rw [pif_F g]
      have hg3 : goN (bg3 J S i tr) = goN S := by unfold goN; rw [b3_G J S i tr (by omega) (by omega) (by omega)]
      obtain ⟨⟨e1, q1, q2, q3⟩, q4, q5⟩ := op_inv w tr f (msF J i 0 (jM J i) ++ r) (bg3 J S i tr) (l ++ [(i, tr, goN S)]) (b + 1) (wP_app (wP_ms w hi) (wP_c hw).2) (by omega) (evB_up he (by omega) (b3_13 J S i tr)) (by omega)
      refine ⟨⟨(i, tr, goN S) :: e1, ?_, ?_, fun s hs => ?_⟩, ?_, fun j h1 h2 => ?_⟩
      · rw [q1, List.append_assoc]; rfl
      · rw [List.length_cons]; omega
      · rcases List.mem_cons.mp hs with e | e
        · rw [e]; exact ⟨hi, rfl, rfl⟩
        · have := q3 s e; rw [hg3] at this; exact this
      · exact evB_mo q4 (by omega)
      · rw [q5 j h1 h2, b3_G J S i tr (by omega) (by omega) h1]
theorem en_app (S : yR) : ∀ (x y : yL), enL S (x ++ y) = enL (enL S x) y
  | [], y => rfl
  | s :: x, y => by show enL (neF S s) (x ++ y) = _; rw [en_app (neF S s) x y]; rfl
theorem dn_split (l : yL) (a r1 : Nat) : ∀ r2, dnF l a (r1 + r2) = dnF l (a + r1) r2 ++ dnF l a r1
  | 0 => rfl
  | r2 + 1 => by
    show l.getD (a + (r1 + r2)) s0 :: dnF l a (r1 + r2) = l.getD (a + r1 + r2) s0 :: dnF l (a + r1) r2 ++ dnF l a r1
    rw [dn_split l a r1 r2, show a + (r1 + r2) = a + r1 + r2 by omega]; rfl
theorem dn_cg {l m : yL} (a : Nat) : ∀ r, (∀ k, k < a + r → l.getD k s0 = m.getD k s0) → dnF l a r = dnF m a r
  | 0, _ => rfl
  | r + 1, h => by
    show l.getD (a + r) s0 :: dnF l a r = m.getD (a + r) s0 :: dnF m a r
    rw [h (a + r) (by omega), dn_cg a r (fun k hk => h k (by omega))]
/-- what comes of an opening begun at list l: its answer, its books, its list -/
noncomputable def opE (l : yL) (R : Bool × yR × yL) : yR := if R.1 = true then R.2.1 else enL R.2.1 (dnF R.2.2 l.length (R.2.2.length - l.length))
noncomputable def opM (l : yL) (R : Bool × yR × yL) : yL := if R.1 = true then R.2.2 else l
