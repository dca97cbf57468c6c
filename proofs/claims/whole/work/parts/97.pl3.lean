/-! S LEVEL, PLAYING: ends, the reference. -/
def rB (S : yR) (B : zM) : Prop := zI B 15 58 = yG S 13 ∧ zI B 15 48 = yG S 3 ∧ (∀ i, i < 60 → zI B 30 i = yG S (23 + i) ∧ zI B 49 i = yG S (83 + i) ∧ zI B 50 i = yG S (143 + i)) ∧ (∀ j, j < 6000 → zI B 51 j = yE S j) ∧ (∀ j, j < 17 → zI B 39 j = yT S j)
def rL (l : yL) (B : zM) : Prop := zI B 15 52 = zn l.length ∧ ∀ k, k < l.length → zI B 46 k = zn (l.getD k s0).1 ∧ zI B 47 k = zn (l.getD k s0).2.1 ∧ zI B 48 k = zn (l.getD k s0).2.2
theorem rB_fr {S : yR} {X : Nat → Nat → Prop} {B B' : zM} (f : zFr 0 0 X B B') (h : rB S B) (x1 : ¬ X 15 58) (x2 : ¬ X 15 48) (x3 : ∀ a k, a = 30 ∨ a = 39 ∨ (49 ≤ a ∧ a ≤ 51) → ¬ X a k) : rB S B' := by
  have g := z_new_ge B
  obtain ⟨h1, h2, h3, h4, h5⟩ := h
  have q : ∀ a k, a = 30 ∨ a = 39 ∨ (49 ≤ a ∧ a ≤ 51) → zI B' a k = zI B a k := fun a k e => zFr_I f _ (by omega) (x3 a k e)
  exact ⟨by rw [zFr_I f _ (by omega) x1]; exact h1, by rw [zFr_I f _ (by omega) x2]; exact h2, fun i hi => by rw [q _ _ (by omega), q _ _ (by omega), q _ _ (by omega)]; exact h3 i hi, fun j hj => by rw [q _ _ (by omega)]; exact h4 j hj, fun j hj => by rw [q _ _ (by omega)]; exact h5 j hj⟩
theorem rL_fr {l : yL} {X : Nat → Nat → Prop} {B B' : zM} (f : zFr 0 0 X B B') (h : rL l B) (x1 : ¬ X 15 52) (x3 : ∀ a k, 46 ≤ a → a ≤ 48 → ¬ X a k) : rL l B' := by
  have g := z_new_ge B
  obtain ⟨h1, h2⟩ := h
  have q : ∀ a k, 46 ≤ a → a ≤ 48 → zI B' a k = zI B a k := fun a k e1 e2 => zFr_I f _ (by omega) (x3 a k e1 e2)
  exact ⟨by rw [zFr_I f _ (by omega) x1]; exact h1, fun k hk => by rw [q _ _ (by omega) (by omega), q _ _ (by omega) (by omega), q _ _ (by omega) (by omega)]; exact h2 k hk⟩
theorem zF_w {X : Nat → Nat → Prop} {B B1 : zM} (f : zFr 0 0 X B B1) {a k : Nat} (h : X a k) (v : Int32) : zFr 0 0 X B (z_wI B1 a k v) := zFr_trans f (zFr_wI h) (fun _ _ _ e => e)
def xtl (a k : Nat) : Prop := (a = 15 ∧ k = 58) ∨ a = 51
theorem r_tell (d : Nat) {B : zM} {S : yR} {b : Nat} (h : rB S B) (he : evB S b) (hb : b < 2147483646) (x y z : Int32) : ∃ B', z_den zQ (d + 1) mQ_tell [.ref 15, .int x, .int y, .int z] B = some (none, B') ∧ rB (lgF S x y z) B' ∧ zFr 0 0 xtl B B' := by
  obtain ⟨h1, h2, h3, h4, h5⟩ := h
  have hN := he.2
  have e58 : zI B 15 58 = zn (evN S) := by rw [h1]; exact evB_zn he
  have lE : yE (lgF S x y z) = if evN S < 1500 then up (up (up (up (yE S) (4 * evN S) x) (4 * evN S + 1) (yG S 3)) (4 * evN S + 2) y) (4 * evN S + 3) z else yE S := by
    unfold lgF; rw [yE_uG]; split <;> rfl
  have h3' : ∀ {B' : zM}, (∀ a k, a = 30 ∨ a = 49 ∨ a = 50 → zI B' a k = zI B a k) → ∀ i, i < 60 → zI B' 30 i = yG (lgF S x y z) (23 + i) ∧ zI B' 49 i = yG (lgF S x y z) (83 + i) ∧ zI B' 50 i = yG (lgF S x y z) (143 + i) := by
    intro B' q i hi
    rw [lg_G, up_o (by omega), up_o (by omega), up_o (by omega), q _ _ (by omega), q _ _ (by omega), q _ _ (by omega)]; exact h3 i hi
  rw [B_Q_tell, e58]
  by_cases g : evN S < 1500
  · rw [if_pos g] at lE
    refine ⟨z_wI (z_wI (z_wI (z_wI (z_wI B 51 (4 * evN S) x) 51 (4 * evN S + 1) (zI B 15 48)) 51 (4 * evN S + 2) y) 51 (4 * evN S + 3) z) 15 58 (zn (evN S) + 1), ?_, ⟨?_, ?_, ?_, fun j hj => ?_, fun j hj => ?_⟩, ?_⟩
    · rw [show (1500 : Int32) = zn 1500 from (zn_eq 1500).symm]
      simp (disch := omega) only [z_le_F, cond_false, nL_4, nL_1, nL_2, nL_3, zn_mul, zn_add, z_ix_T, zn_N, cond_true]
    · rw [zI_wI_s, lg_G, up_s, evB_zn he]
    · rw [zI_wI_k (by omega), lg_G, up_o (by omega)]; simp (disch := omega) only [zI_wI_a]; exact h2
    · exact h3' (fun a k e => by simp (disch := omega) only [zI_wI_a])
    · rw [zI_wI_a (by omega), lE]
      by_cases e3 : j = 4 * evN S + 3
      · rw [e3, zI_wI_s, up_s]
      rw [zI_wI_k e3, up_o e3]
      by_cases e2 : j = 4 * evN S + 2
      · rw [e2, zI_wI_s, up_s]
      rw [zI_wI_k e2, up_o e2]
      by_cases e1 : j = 4 * evN S + 1
      · rw [e1, zI_wI_s, up_s, h2]
      rw [zI_wI_k e1, up_o e1]
      by_cases e0 : j = 4 * evN S
      · rw [e0, zI_wI_s, up_s]
      rw [zI_wI_k e0, up_o e0]; exact h4 j hj
    · rw [lg_T]; simp (disch := omega) only [zI_wI_a]; exact h5 j hj
    · exact zF_w (zF_w (zF_w (zF_w (zF_w (zFr_refl xtl B) (Or.inr rfl) _) (Or.inr rfl) _) (Or.inr rfl) _) (Or.inr rfl) _) (Or.inl ⟨rfl, rfl⟩) _
  · rw [if_neg g] at lE
    refine ⟨z_wI B 15 58 (zn (evN S) + 1), ?_, ⟨?_, ?_, ?_, fun j hj => ?_, fun j hj => ?_⟩, zF_w (zFr_refl xtl B) (Or.inl ⟨rfl, rfl⟩) _⟩
    · rw [show (1500 : Int32) = zn 1500 from (zn_eq 1500).symm, z_le_T (by omega) (by omega), cond_true]
    · rw [zI_wI_s, lg_G, up_s, evB_zn he]
    · rw [zI_wI_k (by omega), lg_G, up_o (by omega)]; exact h2
    · exact h3' (fun a k e => by simp (disch := omega) only [zI_wI_a])
    · rw [zI_wI_a (by omega), lE]; exact h4 j hj
    · rw [lg_T, zI_wI_a (by omega)]; exact h5 j hj
def x468 (a : Nat) (_ : Nat) : Prop := 46 ≤ a ∧ a ≤ 48
theorem L_sft (d : Nat) {m k : Nat} (hm : m < 340) : ∀ (r i : Nat) (B : zM), i + r = m → zI B 15 52 = zn m → ∃ B', z_denF zQ (d + 1) mQ_end (55, [some (.ref 15), some (.int (zn k)), some (.int (zn i))], [], B) = some (none, B') ∧ (∀ a j, 46 ≤ a → a ≤ 48 → zI B' a j = if i ≤ j ∧ j < m then zI B a (j + 1) else zI B a j) ∧ zFr 0 0 x468 B B'
  | 0, i, B, hi, h52 => by
    refine ⟨B, ?_, fun a j _ _ => by rw [if_neg (by omega)], zFr_refl _ _⟩
    rw [L_Q_end_55, h52, z_le_T (by omega) (by omega), cond_true]
  | r + 1, i, B, hi, h52 => by
    obtain ⟨B', q1, q2, q3⟩ := L_sft d (k := k) hm r (i + 1) (z_wI (z_wI (z_wI B 46 i (zI B 46 (i + 1))) 47 i (zI B 47 (i + 1))) 48 i (zI B 48 (i + 1))) (by omega) (by simp (disch := omega) only [zI_wI_a]; exact h52)
    refine ⟨B', ?_, fun a j a1 a2 => ?_, ?_⟩
    · rw [L_Q_end_55, h52, z_le_F (by omega) (by omega), cond_false, zn_1, z_ix_T (by omega) (by omega), cond_true, z_ix_T (by omega) (by omega), cond_true, cond_true, cond_true, cond_true, cond_true, zn_N (by omega), zn_N (by omega)]
      exact q1
    · rw [q2 a j a1 a2]
      have ha : a = 46 ∨ a = 47 ∨ a = 48 := by omega
      by_cases g : i + 1 ≤ j ∧ j < m
      · rw [if_pos g, if_pos (by omega)]
        rw [zI_wI_k (by omega), zI_wI_k (by omega), zI_wI_k (by omega)]
      · rw [if_neg g]
        by_cases e : j = i
        · subst e
          rw [if_pos (by omega)]
          rcases ha with e | e | e <;> subst e
          · rw [zI_wI_a (by omega), zI_wI_a (by omega), zI_wI_s]
          · rw [zI_wI_a (by omega), zI_wI_s]
          · rw [zI_wI_s]
        · rw [if_neg (by omega), zI_wI_k e, zI_wI_k e, zI_wI_k e]
    · exact zFr_trans (zF_w (zF_w (zF_w (zFr_refl x468 B) ⟨by omega, by omega⟩ _) ⟨by omega, by omega⟩ _) ⟨by omega, by omega⟩ _) q3 (fun _ _ _ e => e)
def xen (a k : Nat) : Prop := (a = 15 ∧ (k = 52 ∨ k = 58)) ∨ a = 39 ∨ (46 ≤ a ∧ a ≤ 48) ∨ a = 50 ∨ a = 51
theorem getD_era {l : yL} {k j : Nat} : (l.eraseIdx k).getD j s0 = if j < k then l.getD j s0 else l.getD (j + 1) s0 := by
  rw [List.getD_eq_getElem?_getD, List.getElem?_eraseIdx]
  split <;> rw [List.getD_eq_getElem?_getD]
theorem r_end (d : Nat) {n : Nat} {B : zM} {S : yR} {l : yL} {b k : Nat} (hl : okL n l) (h : rB S B) (hL : rL l B) (he : evB S b) (hb : b < 2147483646) (hk : k < l.length) : ∃ B', z_den zQ (d + 2) mQ_end [.ref 15, .int (zn k)] B = some (none, B') ∧ rB (neF S (l.getD k s0)) B' ∧ rL (l.eraseIdx k) B' ∧ zFr 0 0 xen B B' := by
  have hl2 := hl.2.1
  have hn := hl.1
  have hs := ok_at hl hk
  have hs1 := hs.1
  obtain ⟨k1, k2, k3⟩ := hL.2 k hk
  have z16 : z_ix (16 : Int32) 17 = true := ix_L nL_16 (by omega) (by omega)
  have n16 : Int32.toNatClampNeg (16 : Int32) = 16 := by rw [nL_16]; exact zn_N (by omega)
  generalize hsd : l.getD k s0 = s at *
  have hB1 : rB (uG (uT S 16) (143 + s.1) (yG S (143 + s.1) + 1)) (z_wI (z_wI B 39 16 (zI B 39 16 + 1)) 50 s.1 (zI B 50 s.1 + 1)) := by
    obtain ⟨h1, h2, h3, h4, h5⟩ := h
    refine ⟨?_, ?_, fun i hi => ?_, fun j hj => ?_, fun j hj => ?_⟩
    · rw [zI_wI_a (by omega), zI_wI_a (by omega), yG_uG, up_o (by omega), yG_uT]; exact h1
    · rw [zI_wI_a (by omega), zI_wI_a (by omega), yG_uG, up_o (by omega), yG_uT]; exact h2
    · rw [zI_wI_a (by omega), zI_wI_a (by omega), zI_wI_a (by omega), zI_wI_a (by omega), yG_uG, up_o (by omega), up_o (by omega), yG_uT]
      refine ⟨(h3 i hi).1, (h3 i hi).2.1, ?_⟩
      by_cases e : i = s.1
      · subst e; rw [zI_wI_s, up_s, (h3 s.1 (by omega)).2.2]
      · rw [zI_wI_k e, zI_wI_a (by omega), up_o (by omega)]; exact (h3 i hi).2.2
    · rw [zI_wI_a (by omega), zI_wI_a (by omega), yE_uG, yE_uT]; exact h4 j hj
    · rw [zI_wI_a (by omega), yT_uG, yT_uT]
      by_cases e : j = 16
      · subst e; rw [zI_wI_s, up_s, h5 16 hj]
      · rw [zI_wI_k e, up_o e]; exact h5 j hj
  have he1 : evB (uG (uT S 16) (143 + s.1) (yG S (143 + s.1) + 1)) b := by
    unfold evB evN; rw [yG_uG, up_o (by omega), yG_uT]; exact he
  obtain ⟨B2, q1, q2, q3⟩ := r_tell d hB1 he1 hb 2 (zn s.1) (zn s.2.1)
  have f1 : zFr 0 0 xen B (z_wI (z_wI B 39 16 (zI B 39 16 + 1)) 50 s.1 (zI B 50 s.1 + 1)) := zF_w (zF_w (zFr_refl xen B) (Or.inr (Or.inl rfl)) _) (Or.inr (Or.inr (Or.inr (Or.inl rfl)))) _
  have f2 := zFr_trans f1 q3 (fun a k _ e => by
    rcases e with e | e
    · exact Or.inl ⟨e.1, Or.inr e.2⟩
    · exact Or.inr (Or.inr (Or.inr (Or.inr e))))
  have hn1 := z_new_ge (z_wI (z_wI B 39 16 (zI B 39 16 + 1)) 50 s.1 (zI B 50 s.1 + 1))
  have i2 : ∀ a j, (a = 15 ∧ j = 52) ∨ (46 ≤ a ∧ a ≤ 48) → zI B2 a j = zI B a j := by
    intro a j e
    rw [zFr_I q3 _ (by omega) (fun q => by rcases q with q | q <;> omega), zI_wI_a (by omega), zI_wI_a (by omega)]
  have e52 : zI B2 15 52 = zn l.length := by rw [i2 _ _ (Or.inl ⟨rfl, rfl⟩)]; exact hL.1
  obtain ⟨B3, p1, p2, p3⟩ := L_sft (d + 1) (k := k) (m := l.length - 1) (by omega) (l.length - 1 - k) k (z_wI B2 15 52 (zn (l.length - 1))) (by omega) (by rw [zI_wI_s])
  refine ⟨B3, ?_, ?_, ?_, ?_⟩
  · rw [B_Q_end, z16, cond_true, cond_true, z_ix_T (by omega) (by omega), cond_true, zn_N (by omega), k1, k2, z_ix_T (by omega) (by omega), cond_true, cond_true, cond_true, cond_true, n16, zn_N (by omega), q1, z_bV_some, e52, nL_1, zn_sub (by omega)]
    exact p1
  · refine rB_fr p3 ?_ (fun e => by have := e.1; omega) (fun e => by have := e.1; omega) (fun a j e q => by have := q.1; have := q.2; omega)
    exact rB_fr (zFr_wI (X := fun a j => a = 15 ∧ j = 52) ⟨rfl, rfl⟩) q2 (by omega) (by omega) (fun a j e q => by omega)
  · have hlen : (l.eraseIdx k).length = l.length - 1 := List.length_eraseIdx_of_lt hk
    have hn2 := z_new_ge (z_wI B2 15 52 (zn (l.length - 1)))
    refine ⟨by rw [zFr_I p3 _ (by omega) (fun e => by have := e.1; omega), zI_wI_s, hlen], fun j hj => ?_⟩
    rw [hlen] at hj
    rw [p2 _ _ (by omega) (by omega), p2 _ _ (by omega) (by omega), p2 _ _ (by omega) (by omega), getD_era]
    by_cases g : j < k
    · have c1 : ¬ (k ≤ j ∧ j < l.length - 1) := by omega
      simp only [if_neg c1, if_pos g]
      rw [zI_wI_a (by omega), zI_wI_a (by omega), zI_wI_a (by omega), i2 _ _ (by omega), i2 _ _ (by omega), i2 _ _ (by omega)]
      exact hL.2 j (by omega)
    · have c1 : k ≤ j ∧ j < l.length - 1 := by omega
      simp only [if_pos c1, if_neg g]
      rw [zI_wI_a (by omega), zI_wI_a (by omega), zI_wI_a (by omega), i2 _ _ (by omega), i2 _ _ (by omega), i2 _ _ (by omega)]
      exact hL.2 (j + 1) (by omega)
  · exact zFr_trans (zF_w f2 (Or.inl ⟨rfl, Or.inl rfl⟩) _) p3 (fun a _ _ e => Or.inr (Or.inr (Or.inl e)))
