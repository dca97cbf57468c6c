/-! S LEVEL, PLAYING: openings, the reference. -/
def rJ3 (J : zJ) (B : zM) : Prop := ∀ i, i < jN J → zI B 26 i = zn (jS J i) ∧ zI B 27 i = zn (jM J i) ∧ ∀ k, k < jM J i → zI B 28 (8 * i + k) = zn (jB J i k)
def xop (a k : Nat) : Prop := (a = 15 ∧ (k = 52 ∨ k = 58)) ∨ a = 30 ∨ (39 ≤ a ∧ a ≤ 41) ∨ (46 ≤ a ∧ a ≤ 51)
theorem xop_bg {a k : Nat} (h : xbg a k) : xop a k := by
  rcases h with e | e | e | e | e
  · exact Or.inl e
  · exact Or.inr (Or.inl e)
  · exact Or.inr (Or.inr (Or.inl ⟨by omega, by omega⟩))
  · exact Or.inr (Or.inr (Or.inr ⟨by omega, by omega⟩))
  · exact Or.inr (Or.inr (Or.inr ⟨by omega, by omega⟩))
theorem xop_en {a k : Nat} (h : xen a k) : xop a k := by
  rcases h with e | e | e | e | e
  · exact Or.inl e
  · exact Or.inr (Or.inr (Or.inl ⟨by omega, by omega⟩))
  · exact Or.inr (Or.inr (Or.inr ⟨by omega, by omega⟩))
  · exact Or.inr (Or.inr (Or.inr ⟨by omega, by omega⟩))
  · exact Or.inr (Or.inr (Or.inr ⟨by omega, by omega⟩))
theorem rJ3_fr {J : zJ} {X : Nat → Nat → Prop} {B B' : zM} (f : zFr 0 0 X B B') (h : rJ3 J B) (x : ∀ a k, 26 ≤ a → a ≤ 28 → ¬ X a k) : rJ3 J B' := by
  have g := z_new_ge B
  have q : ∀ a k, 26 ≤ a → a ≤ 28 → zI B' a k = zI B a k := fun a k a1 a2 => zFr_I f _ (by omega) (x a k a1 a2)
  intro i hi
  obtain ⟨h1, h2, h3⟩ := h i hi
  exact ⟨by rw [q _ _ (by omega) (by omega)]; exact h1, by rw [q _ _ (by omega) (by omega)]; exact h2, fun k hk => by rw [q _ _ (by omega) (by omega)]; exact h3 k hk⟩
theorem rJ3_op {J : zJ} {B B' : zM} (f : zFr 0 0 xop B B') (h : rJ3 J B) : rJ3 J B' := rJ3_fr f h (fun a k a1 a2 e => by rcases e with e | e | e | e <;> omega)
def sW (J : zJ) (B : zM) : List (Nat × Nat) → Prop
  | [] => True
  | p :: r => (zI B 40 r.length = zn p.1 ∧ zI B 41 r.length = zn p.2 ∧ p.1 < jN J ∧ p.2 ≤ jM J p.1) ∧ sW J B r
def pdF (J : zJ) : List (Nat × Nat) → List Nat
  | [] => []
  | p :: r => msF J p.1 p.2 (jM J p.1 - p.2) ++ pdF J r
theorem sW_cg {J : zJ} {B B' : zM} : ∀ {st : List (Nat × Nat)}, sW J B st → (∀ k, k < st.length → zI B' 40 k = zI B 40 k ∧ zI B' 41 k = zI B 41 k) → sW J B' st
  | [], _, _ => trivial
  | p :: r, h, e => by
    obtain ⟨⟨h1, h2, h3, h4⟩, h5⟩ := h
    have el := e r.length (Nat.lt_succ_self _)
    exact ⟨⟨by rw [el.1]; exact h1, by rw [el.2]; exact h2, h3, h4⟩, sW_cg h5 (fun k hk => e k (Nat.lt_succ_of_lt hk))⟩
theorem ms_wP {J : zJ} (w : wJ J) {i : Nat} (hi : i < jN J) : ∀ (m k : Nat), k + m ≤ jM J i → wP J (msF J i k m)
  | 0, k, _ => fun _ h => by cases h
  | m + 1, k, h => by
    intro j hj
    rcases List.mem_cons.mp hj with e | e
    · rw [e]; exact ms_lt w hi (by omega)
    · exact ms_wP w hi m (k + 1) (by omega) j e
theorem pd_wP {J : zJ} (w : wJ J) {B : zM} : ∀ {st : List (Nat × Nat)}, sW J B st → wP J (pdF J st)
  | [], _ => fun _ h => by cases h
  | p :: r, h => wP_app (ms_wP w h.1.2.2.1 _ _ (by have := h.1.2.2.2; omega)) (pd_wP w h.2)
theorem r_oloop {J : zJ} (w : wJ J) (d : Nat) {l1 l3 : Int32} {tr go : Nat} (ht : tr < 8) (hg2 : go ≤ 20000) : ∀ (m F : Nat) (st : List (Nat × Nat)) (S : yR) (l : yL) (B : zM) (b : Nat) (o6 o7 : Option Value), 2 * smZ J (pdF J st) + st.length ≤ m → smZ J (pdF J st) ≤ F → sW J B st → rJ3 J B → rB S B → rL l B → okL (jN J) l → l.length + smZ J (pdF J st) ≤ 320 → st.length + smZ J (pdF J st) ≤ 60 → yG S 3 = zn go → evB S b → b + smZ J (pdF J st) < 2147483646 → ∃ B' l5 o6' o7', z_denF zQ (d + 3) mQ_opens (39, [some (.ref 15), some (.int l1), some (.int (zn tr)), some (.int l3), some (.int (zn 1)), some (.int (zn st.length)), o6, o7], [], B) = z_denF zQ (d + 3) mQ_opens (152, [some (.ref 15), some (.int l1), some (.int (zn tr)), some (.int l3), some (.int (bI (opL J tr F (pdF J st) S l).1)), some (.int l5), o6', o7'], [], B') ∧ rB (opL J tr F (pdF J st) S l).2.1 B' ∧ rL (opL J tr F (pdF J st) S l).2.2 B' ∧ zFr 0 0 xop B B'
  | m, F, [], S, l, B, b, o6, o7, hm, hF, hs, hJ, h, hL, hl, hlz, hst, hgo, he, hb => by
    refine ⟨B, zn 0, o6, o7, ?_, ?_, ?_, zFr_refl _ _⟩
    · show _ = z_denF zQ (d + 3) mQ_opens (152, [some (.ref 15), some (.int l1), some (.int (zn tr)), some (.int l3), some (.int (bI (opL J tr F [] S l).1)), some (.int (zn 0)), o6, o7], [], B)
      rw [op_nil, L_Q_opens_39, z_eq_10, cond_false, List.length_nil, show z_le (zn 0) (0 : Int32) = true by rw [nL_0]; exact z_le_T (by omega) (by omega), cond_true, bI_T]
    · show rB (opL J tr F [] S l).2.1 B
      rw [op_nil]; exact h
    · show rL (opL J tr F [] S l).2.2 B
      rw [op_nil]; exact hL
  | 0, F, p :: r, S, l, B, b, o6, o7, hm, hF, hs, hJ, h, hL, hl, hlz, hst, hgo, he, hb => by rw [List.length_cons] at hm; omega
  | m + 1, F, (i, k) :: r, S, l, B, b, o6, o7, hm, hF, hs, hJ, h, hL, hl, hlz, hst, hgo, he, hb => by
    have w0 := w.1
    obtain ⟨⟨s1, s2, s3, s4⟩, s5⟩ := hs
    have s1 : zI B 40 r.length = zn i := s1
    have s2 : zI B 41 r.length = zn k := s2
    have s3 : i < jN J := s3
    have s4 : k ≤ jM J i := s4
    have hM := (w.2.2.2 i s3).2.1
    obtain ⟨j1, j2, j3⟩ := hJ i s3
    have epd : pdF J ((i, k) :: r) = msF J i k (jM J i - k) ++ pdF J r := rfl
    rw [List.length_cons] at hm hst ⊢
    have t1 : z_le (zn (r.length + 1)) (0 : Int32) = false := by rw [nL_0]; exact z_le_F (by omega) (by omega)
    have t2 : zn (r.length + 1) - 1 = zn r.length := by rw [nL_1, zn_sub (by omega), Nat.add_sub_cancel]
    have t3 : z_ix (zn r.length) 80 = true := z_ix_T (by omega) (by omega)
    have t4 : Int32.toNatClampNeg (zn r.length) = r.length := zn_N (by omega)
    have t5 : z_ix (zn i) 60 = true := z_ix_T (by omega) (by omega)
    have t6 : Int32.toNatClampNeg (zn i) = i := zn_N (by omega)
    rw [L_Q_opens_39, z_eq_10, cond_false, t1, cond_false, t2, t3, cond_true, cond_true, t4, s1, s2, t5, cond_true, t6, j2]
    by_cases g : k = jM J i
    · have e0 : pdF J ((i, k) :: r) = pdF J r := by rw [epd, g, Nat.sub_self]; rfl
      rw [e0] at hm hF hlz hst hb ⊢
      obtain ⟨B', l5, a6, a7, q1, q2, q3, q4⟩ := r_oloop w d (l1 := l1) (l3 := l3) ht hg2 m F r S l B b (some (.int (zn i))) o7 (by omega) hF s5 hJ h hL hl hlz (by omega) hgo he hb
      refine ⟨B', l5, a6, a7, ?_, q2, q3, q4⟩
      rw [g, z_ne_F, cond_false, dk_a, dk_s (by omega)]
      exact q1
    · have hk : k < jM J i := by omega
      have e1 : msF J i k (jM J i - k) = jB J i k :: msF J i (k + 1) (jM J i - (k + 1)) := by rw [show jM J i - k = jM J i - (k + 1) + 1 by omega]; rfl
      have e0 : pdF J ((i, k) :: r) = jB J i k :: (msF J i (k + 1) (jM J i - (k + 1)) ++ pdF J r) := by rw [epd, e1]; rfl
      have hmi := ms_lt w s3 hk
      have hmp := z_pos w hmi
      have hsz : smZ J (pdF J ((i, k) :: r)) = jZ J (jB J i k) + smZ J (msF J i (k + 1) (jM J i - (k + 1)) ++ pdF J r) := by rw [e0]; rfl
      have hsm := sm_ms w hmi (msF J i (k + 1) (jM J i - (k + 1)) ++ pdF J r)
      rw [sm_c] at hsm
      have hw41 : zFr 0 0 (fun a _ => a = 41) B (z_wI B 41 r.length (zn (k + 1))) := zFr_wI (X := fun a _ => a = 41) rfl
      obtain ⟨B1, q1, q2, q3, q4⟩ := r_begins d (tr := tr) (go := go) (B := z_wI B 41 r.length (zn (k + 1))) w (by rw [zI_wI_a (by omega)]; exact (hJ _ hmi).1) (rB_fr hw41 h (by omega) (by omega) (fun a k e q => by omega)) (rL_fr hw41 hL (by omega) (fun a k _ _ q => by omega)) hmi (by omega) hgo hg2 he (by omega)
      have x1 : z_ix (zn (8 * i + k)) 480 = true := z_ix_T (by omega) (by omega)
      have x2 : Int32.toNatClampNeg (zn (8 * i + k)) = 8 * i + k := zn_N (by omega)
      have x3 : (8 : Int32) * zn i + zn k = zn (8 * i + k) := by rw [nL_8, zn_mul, zn_add]
      have x4 : z_ix (zn (r.length + 1)) 80 = true := z_ix_T (by omega) (by omega)
      have x5 : Int32.toNatClampNeg (zn (r.length + 1)) = r.length + 1 := zn_N (by omega)
      rw [z_ne_T g (by omega) (by omega), cond_true, x3, x1, cond_true, cond_true, cond_true, cond_true, x2, j3 k hk, zn_1, q1, z_bI_some, x4, cond_true, cond_true, x5, zn_1]
      have F2 : zFr 0 0 xop B (z_wI (z_wI B1 40 (r.length + 1) (zn (jB J i k))) 41 (r.length + 1) 0) := zF_w (zF_w (zFr_trans (zFr_mono hw41 (Nat.le_refl _) (Nat.le_refl _) (fun a _ e => Or.inr (Or.inr (Or.inl ⟨by omega, by omega⟩)))) q4 (fun a k _ e => xop_bg e)) (Or.inr (Or.inr (Or.inl ⟨by omega, by omega⟩))) _) (Or.inr (Or.inr (Or.inl ⟨by omega, by omega⟩))) _
      have f401 : zFr 0 0 (fun a _ => a = 40 ∨ a = 41) B1 (z_wI (z_wI B1 40 (r.length + 1) (zn (jB J i k))) 41 (r.length + 1) 0) := zF_w (zF_w (zFr_refl _ _) (Or.inl rfl) _) (Or.inr rfl) _
      rw [e0]
      cases F with
      | zero => rw [hsz] at hF; omega
      | succ F =>
      rw [opl_s, evG hgo hg2]
      by_cases g1 : yG S (23 + jB J i k) = 1
      · rw [if_pos g1] at q2 q3
        rw [pif_T g1, decide_eq_false (p := yG S (23 + jB J i k) ≠ 1) (fun q => q g1)]
        refine ⟨z_wI (z_wI B1 40 (r.length + 1) (zn (jB J i k))) 41 (r.length + 1) 0, zn (r.length + 1 + 1), some (.int (zn i)), some (.int (zn (jB J i k))), ?_, ?_, ?_, F2⟩
        · rw [L_Q_opens_39, bI_F, z_eq_00, cond_true]
        · exact rB_fr f401 q2 (by omega) (by omega) (fun a k e q => by omega)
        · exact rL_fr f401 q3 (by omega) (fun a k _ _ q => by omega)
      · rw [if_neg g1] at q2 q3
        rw [pif_F g1, decide_eq_true (p := yG S (23 + jB J i k) ≠ 1) g1, bI_T]
        have hnB := z_new_ge (z_wI B 41 r.length (zn (k + 1)))
        have keep : ∀ a j, a = 40 ∨ a = 41 → zI B1 a j = zI (z_wI B 41 r.length (zn (k + 1))) a j := fun a j e => zFr_I q4 _ (by omega) (fun q => by rcases q with q | q | q | q | q <;> omega)
        have hs' : sW J (z_wI (z_wI B1 40 (r.length + 1) (zn (jB J i k))) 41 (r.length + 1) 0) ((jB J i k, 0) :: (i, k + 1) :: r) := by
          refine ⟨⟨?_, ?_, hmi, Nat.zero_le _⟩, ⟨?_, ?_, s3, hk⟩, ?_⟩
          · show zI _ 40 (r.length + 1) = _
            rw [zI_wI_a (by omega), zI_wI_s]
          · show zI _ 41 (r.length + 1) = _
            rw [zI_wI_s, nL_0]
          · rw [zI_wI_a (by omega), zI_wI_k (by omega), keep _ _ (Or.inl rfl), zI_wI_a (by omega)]; exact s1
          · rw [zI_wI_k (by omega), zI_wI_a (by omega), keep _ _ (Or.inr rfl), zI_wI_s]
          · refine sW_cg s5 (fun q hq => ⟨?_, ?_⟩)
            · rw [zI_wI_a (by omega), zI_wI_k (by omega), keep _ _ (Or.inl rfl), zI_wI_a (by omega)]
            · rw [zI_wI_k (by omega), zI_wI_a (by omega), keep _ _ (Or.inr rfl), zI_wI_k (by omega)]
        have e2 : pdF J ((jB J i k, 0) :: (i, k + 1) :: r) = msF J (jB J i k) 0 (jM J (jB J i k)) ++ (msF J i (k + 1) (jM J i - (k + 1)) ++ pdF J r) := rfl
        have hll : (l ++ [(jB J i k, tr, go)]).length = l.length + 1 := by rw [List.length_append, List.length_singleton]
        have hgo3 : yG (bg3 J S (jB J i k) tr) 3 = zn go := by rw [b3_G J S _ tr (by omega) (by omega) (by omega)]; exact hgo
        obtain ⟨B', l5, a6, a7, p1, p2, p3, p4⟩ := r_oloop w d (l1 := l1) (l3 := l3) ht hg2 m F ((jB J i k, 0) :: (i, k + 1) :: r) (bg3 J S (jB J i k) tr) (l ++ [(jB J i k, tr, go)]) (z_wI (z_wI B1 40 (r.length + 1) (zn (jB J i k))) 41 (r.length + 1) 0) (b + 1) (some (.int (zn i))) (some (.int (zn (jB J i k)))) (by rw [e2, List.length_cons, List.length_cons]; rw [hsz] at hm; omega) (by rw [e2]; rw [hsz] at hF; omega) hs' (rJ3_op F2 hJ) (rB_fr f401 q2 (by omega) (by omega) (fun a k e q => by omega)) (rL_fr f401 q3 (by omega) (fun a k _ _ q => by omega)) (okL_app hl (by rw [List.length_singleton]; rw [hsz] at hlz; omega) (fun s hs => by rw [List.mem_singleton.mp hs]; exact ⟨hmi, ht, hg2⟩)) (by rw [e2]; rw [hsz] at hlz; omega) (by rw [e2, List.length_cons, List.length_cons]; rw [hsz] at hst; omega) hgo3 (evB_up he (by omega) (b3_13 J S _ tr)) (by rw [e2]; rw [hsz] at hb; omega)
        rw [List.length_cons, List.length_cons] at p1
        exact ⟨B', l5, a6, a7, p1, p2, p3, x_tr F2 p4⟩
theorem L_o152 (d : Nat) {n a : Nat} {l : yL} (hl : okL n l) {l1 l2 l5 : Int32} {o6 o7 : Option Value} : ∀ (r : Nat) (B : zM) (S : yR) (b : Nat), rB S B → rL (l.take (a + r)) B → evB S b → b + r < 2147483646 → a + r ≤ l.length → ∃ B', z_denF zQ (d + 3) mQ_opens (152, [some (.ref 15), some (.int l1), some (.int l2), some (.int (zn a)), some (.int (zn 0)), some (.int l5), o6, o7], [], B) = some (some (.int (zn 0)), B') ∧ rB (enL S (dnF l a r)) B' ∧ rL (l.take a) B' ∧ zFr 0 0 xen B B'
  | 0, B, S, b, h, hL, he, hb, hr => by
    have hl2 := hl.2.1
    refine ⟨B, ?_, h, hL, zFr_refl _ _⟩
    rw [L_Q_opens_152, ne_00, cond_false, hL.1, tk_len hr, z_le_T (by omega) (by omega), cond_true, ← bI_F, nL_1, bI_okz, cond_true]
  | r + 1, B, S, b, h, hL, he, hb, hr => by
    have hl2 := hl.2.1
    have e52 : zI B 15 52 = zn (a + r + 1) := by rw [hL.1, tk_len hr]; rfl
    obtain ⟨B1, q1, q2, q3, q4⟩ := r_endT d hl h (m := a + r) hL he (by omega) (by omega)
    obtain ⟨B2, p1, p2, p3, p4⟩ := L_o152 d (a := a) hl (l1 := l1) (l2 := l2) (l5 := l5) (o6 := o6) (o7 := o7) r B1 _ (b + 1) q2 q3 (evB_ne he (by omega) _) (by omega) (by omega)
    refine ⟨B2, ?_, p2, p3, x_tr q4 p4⟩
    rw [L_Q_opens_152, ne_00, cond_false, e52, z_le_F (by omega) (by omega), cond_false, nL_1, zn_sub (by omega), Nat.add_sub_cancel, q1, z_bV_some]
    exact p1
theorem r_opens (d : Nat) {J : zJ} {S : yR} {l : yL} {B : zM} {i tr go b F : Nat} (w : wJ J) (hJ : rJ3 J B) (h : rB S B) (hL : rL l B) (hl : okL (jN J) l) (hi : i < jN J) (hlz : l.length + jZ J i ≤ 320) (hF : jZ J i ≤ F) (ht : tr < 8) (hgo : yG S 3 = zn go) (hg2 : go ≤ 20000) (he : evB S b) (hb : b + 2 * jZ J i < 2147483646) : ∃ B', z_den zQ (d + 3) mQ_opens [.ref 15, .int (zn i), .int (zn tr)] B = some (some (.int (bI (opL J tr F [i] S l).1)), B') ∧ rB (opE l (opL J tr F [i] S l)) B' ∧ rL (opM l (opL J tr F [i] S l)) B' ∧ zFr 0 0 xop B B' := by
  have w0 := w.1
  have hl2 := hl.2.1
  have zp := z_pos w hi
  have z40 := (w.2.2.2 i hi).2.2.2.2.2.2.1
  obtain ⟨B1, q1, q2, q3, q4⟩ := r_begins d (tr := tr) (go := go) w (hJ i hi).1 h hL hi (by omega) hgo hg2 he (by omega)
  have F2 : zFr 0 0 xop B (z_wI (z_wI B1 40 0 (zn i)) 41 0 0) := zF_w (zF_w (zFr_mono q4 (Nat.le_refl _) (Nat.le_refl _) (fun a k e => xop_bg e)) (Or.inr (Or.inr (Or.inl ⟨by omega, by omega⟩))) _) (Or.inr (Or.inr (Or.inl ⟨by omega, by omega⟩))) _
  have f401 : zFr 0 0 (fun a _ => a = 40 ∨ a = 41) B1 (z_wI (z_wI B1 40 0 (zn i)) 41 0 0) := zF_w (zF_w (zFr_refl _ _) (Or.inl rfl) _) (Or.inr rfl) _
  have z0 : z_ix (0 : Int32) 80 = true := ix_L nL_0 (by omega) (by omega)
  have n0 : Int32.toNatClampNeg (0 : Int32) = 0 := by rw [nL_0]; exact zn_N (by omega)
  have hw1 : wP J [i] := fun q hq => by rw [List.mem_singleton.mp hq]; exact hi
  have hs1 : smZ J [i] = jZ J i := rfl
  -- from the end loop on
  have fin : ∀ (B2 : zM) (l5 : Int32) (o6 o7 : Option Value), rB (opL J tr F [i] S l).2.1 B2 → rL (opL J tr F [i] S l).2.2 B2 → zFr 0 0 xop B B2 → ∃ B', z_denF zQ (d + 3) mQ_opens (152, [some (.ref 15), some (.int (zn i)), some (.int (zn tr)), some (.int (zn l.length)), some (.int (bI (opL J tr F [i] S l).1)), some (.int l5), o6, o7], [], B2) = some (some (.int (bI (opL J tr F [i] S l).1)), B') ∧ rB (opE l (opL J tr F [i] S l)) B' ∧ rL (opM l (opL J tr F [i] S l)) B' ∧ zFr 0 0 xop B B' := by
    intro B2 l5 o6 o7 g1 g2 g3
    obtain ⟨⟨e, i1, i2, i3⟩, i4, i5⟩ := op_inv w tr F [i] S l b hw1 (by rw [hs1]; omega) he (by rw [hs1]; omega)
    rw [hs1] at i2 i4
    unfold opE opM
    by_cases hR : (opL J tr F [i] S l).1 = true
    · rw [if_pos hR, if_pos hR, hR]
      refine ⟨B2, ?_, g1, g2, g3⟩
      rw [L_Q_opens_152, bI_n1, cond_true, bI_ok, cond_true]
    · have hRf : (opL J tr F [i] S l).1 = false := by cases hq : (opL J tr F [i] S l).1 <;> simp_all
      rw [if_neg hR, if_neg hR, hRf, bI_F]
      have hokl : okL (jN J) (opL J tr F [i] S l).2.2 := by
        rw [i1]
        refine okL_app hl (by omega) (fun s hs => ?_)
        obtain ⟨s1, s2, s3⟩ := i3 s hs
        rw [evG hgo hg2] at s3
        exact ⟨s1, by omega, by omega⟩
      have hlen : (opL J tr F [i] S l).2.2.length = l.length + e.length := by rw [i1, List.length_append]
      have hcut : (opL J tr F [i] S l).2.2.take l.length = l := by rw [i1]; exact take_pre l e
      obtain ⟨B3, p1, p2, p3, p4⟩ := L_o152 d (a := l.length) hokl (l1 := zn i) (l2 := zn tr) (l5 := l5) (o6 := o6) (o7 := o7) ((opL J tr F [i] S l).2.2.length - l.length) B2 _ (b + jZ J i) g1 (by rw [show l.length + ((opL J tr F [i] S l).2.2.length - l.length) = (opL J tr F [i] S l).2.2.length by omega, List.take_length]; exact g2) i4 (by omega) (by omega)
      rw [hcut] at p3
      exact ⟨B3, p1, p2, p3, zFr_trans g3 p4 (fun a k _ e => xop_en e)⟩
  rw [B_Q_opens, q1, z_bI_some, z0, cond_true, cond_true, n0, hL.1]
  cases F with
  | zero => omega
  | succ F =>
  have eR : opL J tr (F + 1) [i] S l = pif (yG S (23 + i) = 1) (false, bg2 J S i, l) (opL J tr F (msF J i 0 (jM J i) ++ []) (bg3 J S i tr) (l ++ [(i, tr, go)])) := by rw [opl_s, evG hgo hg2]
  by_cases g1 : yG S (23 + i) = 1
  · rw [if_pos g1] at q2 q3
    rw [pif_T g1] at eR
    rw [eR] at fin ⊢
    rw [decide_eq_false (p := yG S (23 + i) ≠ 1) (fun q => q g1), bI_F, z_eq_00, cond_true, L_Q_opens_39, z_eq_00, cond_true]
    have := fin (z_wI (z_wI B1 40 0 (zn i)) 41 0 0) 0 none none (rB_fr f401 q2 (by omega) (by omega) (fun a k e q => by omega)) (rL_fr f401 q3 (by omega) (fun a k _ _ q => by omega)) F2
    rw [bI_F] at this
    exact this
  · rw [if_neg g1] at q2 q3
    rw [pif_F g1] at eR
    have e2 : pdF J [(i, 0)] = msF J i 0 (jM J i) ++ [] := rfl
    have hsm := sm_ms w hi []
    rw [sm_c] at hsm
    have hsn : smZ J [] = 0 := rfl
    have hgo3 : yG (bg3 J S i tr) 3 = zn go := by rw [b3_G J S i tr (by omega) (by omega) (by omega)]; exact hgo
    have hs' : sW J (z_wI (z_wI B1 40 0 (zn i)) 41 0 0) [(i, 0)] := by
      refine ⟨⟨?_, ?_, hi, Nat.zero_le _⟩, trivial⟩
      · show zI _ 40 0 = _
        rw [zI_wI_a (by omega), zI_wI_s]
      · show zI _ 41 0 = _
        rw [zI_wI_s, nL_0]
    obtain ⟨B', l5, a6, a7, p1, p2, p3, p4⟩ := r_oloop w d (l1 := zn i) (l3 := zn l.length) ht hg2 (2 * smZ J (pdF J [(i, 0)]) + 1) F [(i, 0)] (bg3 J S i tr) (l ++ [(i, tr, go)]) (z_wI (z_wI B1 40 0 (zn i)) 41 0 0) (b + 1) none none (Nat.le_refl _) (by rw [e2]; omega) hs' (rJ3_op F2 hJ) (rB_fr f401 q2 (by omega) (by omega) (fun a k e q => by omega)) (rL_fr f401 q3 (by omega) (fun a k _ _ q => by omega)) (okL_app hl (by rw [List.length_singleton]; omega) (fun s hs => by rw [List.mem_singleton.mp hs]; exact ⟨hi, ht, hg2⟩)) (by rw [e2, List.length_append, List.length_singleton]; omega) (by rw [e2, List.length_singleton]; omega) hgo3 (evB_up he (by omega) (b3_13 J S _ tr)) (by rw [e2]; omega)
    rw [e2] at p1 p2 p3
    rw [eR] at fin ⊢
    rw [decide_eq_true (p := yG S (23 + i) ≠ 1) g1, bI_T, z_eq_10, cond_false, nL_1]
    have p1' : z_denF zQ (d + 2 + 1) mQ_opens (39, [some (.ref 15), some (.int (zn i)), some (.int (zn tr)), some (.int (zn l.length)), some (.int (zn 1)), some (.int (zn 1)), none, none], [], z_wI (z_wI B1 40 0 (zn i)) 41 0 0) = _ := p1
    rw [p1']
    exact fin B' l5 a6 a7 p2 p3 (x_tr F2 p4)
