/-! S LEVEL, PLAYING: ends, the class. -/
noncomputable def neF (S : yR) (s : Nat × Nat × Nat) : yR := lgF (uG (uT S 16) (143 + s.1) (yG S (143 + s.1) + 1)) 2 (zn s.1) (zn s.2.1)
noncomputable def enL (S : yR) : yL → yR
  | [] => S
  | s :: r => enL (neF S s) r
theorem ne_G (S : yR) (s : Nat × Nat × Nat) {j : Nat} (h1 : j ≠ 13) (h2 : j < 143 ∨ 203 ≤ j) (hs : s.1 < 60) : yG (neF S s) j = yG S j := by
  unfold neF
  rw [lg_G, up_o h1, yG_uG, up_o (by omega), yG_uT]
theorem ne_13 (S : yR) (s : Nat × Nat × Nat) : yG (neF S s) 13 = yG S 13 + 1 := by
  unfold neF
  rw [lg_G, up_s, yG_uG, up_o (by omega), yG_uT]
theorem en_G {n : Nat} (hn : n ≤ 60) : ∀ (L : yL) (S : yR), (∀ s, s ∈ L → okS n s) → ∀ {j : Nat}, j ≠ 13 → j < 143 → yG (enL S L) j = yG S j
  | [], S, _, j, _, _ => rfl
  | s :: r, S, h, j, h1, h2 => by
    show yG (enL (neF S s) r) j = _
    rw [en_G hn r _ (fun q hq => h q (List.mem_cons_of_mem _ hq)) h1 h2, ne_G S s h1 (Or.inl h2) (by have := (h s List.mem_cons_self).1; omega)]
theorem evB_ne {S : yR} {b : Nat} (h : evB S b) (hb : b < 2147483646) (s : Nat × Nat × Nat) : evB (neF S s) (b + 1) := evB_up h hb (ne_13 S s)
theorem evB_en : ∀ (L : yL) {S : yR} {b : Nat}, evB S b → b + L.length < 2147483646 → evB (enL S L) (b + L.length)
  | [], _, _, h, _ => h
  | s :: r, S, b, h, hb => by
    rw [List.length_cons] at hb ⊢
    have := evB_en r (evB_ne h (by omega) s) (by omega)
    rw [show b + (r.length + 1) = b + 1 + r.length by omega]
    exact this
theorem ix_L {k n : Nat} {x : Int32} (e : x = zn k) (h : k < n) (h2 : k < 2147483648) : z_ix x n = true := by rw [e]; exact z_ix_T h h2
theorem c_note (d : Nat) {n : Nat} {A : zM} {S : yR} {l : yL} {f : Nat → Int32} {b : Nat} {s : Nat × Nat × Nat} (h : cY (yG S) l f) (he : evB S b) (hb : b < 2147483646) (hs : okS n s) (hn : n ≤ 60) : ∃ f', z_den zQ (d + 2) mO_noteEnd [.ref 3, .int (enS s)] (yC A f S) = some (none, yC A f' (neF S s)) ∧ cY (yG (neF S s)) l f' := by
  have h0 := hs.1
  have z16 : z_ix (16 : Int32) 17 = true := ix_L nL_16 (by omega) (by omega)
  have n16 : Int32.toNatClampNeg (16 : Int32) = 16 := by rw [nL_16]; exact zn_N (by omega)
  have em : (bif z_lt (59 : Int32) (zn s.1) then (59 : Int32) else zn s.1) = zn s.1 := by rw [show (59 : Int32) = zn 59 from (zn_eq 59).symm, z_lt_F (by omega) (by omega)]; rfl
  have hf : f (143 + s.1) = yG S (143 + s.1) := h.1 _ (by omega) (by omega)
  have e143 : (143 : Int32) = zn 143 := nL_143
  have hc : cY (yG (uG (uT S 16) (143 + s.1) (yG S (143 + s.1) + 1))) l (up f (143 + s.1) (yG S (143 + s.1) + 1)) := cY_up h (by omega) (by omega) _
  have he' : evB (uG (uT S 16) (143 + s.1) (yG S (143 + s.1) + 1)) b := by
    unfold evB evN; rw [yG_uG, up_o (by omega), yG_uT]; exact he
  obtain ⟨f', q1, q2⟩ := c_log d (A := A) hc he' hb 2 (zn s.1) (zn s.2.1)
  refine ⟨f', ?_, q2⟩
  rw [B_O_noteEnd, z16, cond_true, cond_true, n16, yC_10, yC_w10, B_O_instrumentOf, en_i hs hn, z_bI_some, E_min, em, z_bI_some, e143, zn_add, z_ix_T (by omega) (by omega), cond_true, cond_true, zn_N (by omega), yC_11, hf, yC_w11, B_O_instrumentOf, en_i hs hn, z_bI_some, B_O_trackOf, en_t hs hn, z_bI_some, ← yC_G A _ (uT S 16) (143 + s.1) (yG S (143 + s.1) + 1), q1, z_bV_some]
  rfl
theorem c_sndAt (d : Nat) {A : zM} {g : Nat → Int32} {S : yR} {l : yL} {f : Nat → Int32} {k : Nat} (h : cY g l f) (hl : l.length ≤ 320) (hk : k < l.length) : z_den zQ (d + 1) mO_soundAt [.ref 3, .int (zn k)] (yC A f S) = some (some (.int (enS (l.getD k s0))), yC A f S) := by
  rw [B_O_soundAt, nL_0, z_lt_F (by omega) (by omega), cond_false, show (320 : Int32) = zn 320 from (zn_eq 320).symm, z_le_F (by omega) (by omega), cond_false, nL_203, zn_add, z_ix_T (by omega) (by omega), cond_true, zn_N (by omega), yC_11, h.2.2 k hk]
/-- the sounds from place a + r - 1 down to a -/
def dnF (l : yL) (a : Nat) : Nat → yL
  | 0 => []
  | r + 1 => l.getD (a + r) s0 :: dnF l a r
theorem dn_len (l : yL) (a : Nat) : ∀ r, (dnF l a r).length = r
  | 0 => rfl
  | r + 1 => by show (dnF l a r).length + 1 = r + 1; rw [dn_len l a r]
theorem dn_ok {n : Nat} {l : yL} (h : okL n l) (a : Nat) : ∀ r, a + r ≤ l.length → ∀ s, s ∈ dnF l a r → okS n s
  | 0, _, s, hs => by cases hs
  | r + 1, hr, s, hs => by
    rcases List.mem_cons.mp hs with e | e
    · rw [e]; exact ok_at h (by omega)
    · exact dn_ok h a r (by omega) s e
theorem getD_take {l : yL} {a k : Nat} (h : k < a) : (l.take a).getD k s0 = l.getD k s0 := by
  rw [List.getD_eq_getElem?_getD, List.getD_eq_getElem?_getD, List.getElem?_take_of_lt h]
theorem cY_take {g : Nat → Int32} {l : yL} {f : Nat → Int32} (h : cY g l f) {a : Nat} (ha : a ≤ l.length) : cY g (l.take a) (up f 14 (zn a)) := by
  have hl : (l.take a).length = a := by rw [List.length_take]; omega
  refine ⟨fun j a b => by rw [up_o b]; exact h.1 j a b, by rw [up_s, hl], fun k hk => ?_⟩
  rw [hl] at hk
  rw [up_o (by omega), getD_take hk]; exact h.2.2 k (by omega)
theorem dk_lt (a : Nat) (h : a < 1000) : z_lt (dk a) (zn a) = true := by
  cases a with
  | zero => rw [← nL_0]; exact dk_0
  | succ k => rw [dk_s (by omega)]; exact z_lt_T (by omega) (by omega)
theorem L_edt (d : Nat) {n : Nat} {A : zM} {l : yL} (hl : okL n l) {a : Nat} : ∀ (r : Nat) (f : Nat → Int32) (S : yR) (b : Nat), cY (yG S) l f → evB S b → b + r < 2147483646 → a + r ≤ l.length → ∃ f', z_denF zQ (d + 3) mO_endDownTo (10, [some (.ref 3), some (.int (zn a)), some (.int (dk (a + r)))], [], yC A f S) = some (none, yC A f' (enL S (dnF l a r))) ∧ cY (yG (enL S (dnF l a r))) (l.take a) f'
  | 0, f, S, b, h, he, hb, hr => by
    have hl2 := hl.2.1
    refine ⟨up f 14 (zn a), ?_, cY_take h (by omega)⟩
    rw [L_O_endDownTo_10, Nat.add_zero, dk_lt a (by omega), cond_true, ix_L nL_14 (by omega) (by omega), cond_true, nL_14, zn_N (by omega), yC_w11]
    rfl
  | r + 1, f, S, b, h, he, hb, hr => by
    have hl2 := hl.2.1
    have hs := ok_at hl (k := a + r) (by omega)
    obtain ⟨f1, q1, q2⟩ := c_note d (A := A) h he (by omega) hs hl.1
    obtain ⟨f2, p1, p2⟩ := L_edt d (A := A) hl (a := a) r f1 (neF S (l.getD (a + r) s0)) (b + 1) q2 (evB_ne he (by omega) _) (by omega) (by omega)
    refine ⟨f2, ?_, p2⟩
    rw [L_O_endDownTo_10, show a + (r + 1) = a + r + 1 by omega, dk_s (by omega), z_lt_F (by omega) (by omega), cond_false, c_sndAt _ h hl.2.1 (by omega), z_bI_some, q1, z_bV_some, dk_a]
    exact p1
theorem c_eDT (d : Nat) {n : Nat} {A : zM} {S : yR} {l : yL} {f : Nat → Int32} {a b : Nat} (hl : okL n l) (h : cY (yG S) l f) (he : evB S b) (hb : b + 320 < 2147483646) (ha : a ≤ l.length) : ∃ f', z_den zQ (d + 3) mO_endDownTo [.ref 3, .int (zn a)] (yC A f S) = some (none, yC A f' (enL S (dnF l a (l.length - a)))) ∧ cY (yG (enL S (dnF l a (l.length - a)))) (l.take a) f' := by
  have hl2 := hl.2.1
  obtain ⟨f2, p1, p2⟩ := L_edt d (A := A) hl (a := a) (l.length - a) f S b h he (by omega) (by omega)
  refine ⟨f2, ?_, p2⟩
  rw [B_O_endDownTo, ix_L nL_14 (by omega) (by omega), cond_true, nL_14, zn_N (by omega), yC_11, h.2.1, nL_1]
  rw [show a + (l.length - a) = l.length by omega] at p1
  exact p1
theorem c_sil (d : Nat) {n : Nat} {A : zM} {S : yR} {l : yL} {f : Nat → Int32} {b : Nat} (hl : okL n l) (h : cY (yG S) l f) (he : evB S b) (hb : b + 320 < 2147483646) : ∃ f', z_den zQ (d + 4) mO_silence [.ref 3] (yC A f S) = some (none, yC A f' (uG (enL S (dnF l 0 l.length)) 7 0)) ∧ cY (yG (uG (enL S (dnF l 0 l.length)) 7 0)) [] f' := by
  obtain ⟨f2, p1, p2⟩ := c_eDT d (A := A) hl h he hb (a := 0) (Nat.zero_le _)
  rw [Nat.sub_zero, List.take_zero] at p2
  rw [Nat.sub_zero, ← nL_0] at p1
  refine ⟨up f2 7 0, ?_, cY_up p2 (by omega) (by omega) 0⟩
  rw [B_O_silence, p1, z_bV_some, ix_L nL_7 (by omega) (by omega), cond_true, nL_7, zn_N (by omega), yC_w11, yC_G]
/-- those of a track, from place r - 1 down -/
def dtF (l : yL) (t : Nat) : Nat → yL
  | 0 => []
  | r + 1 => if (l.getD r s0).2.1 = t then l.getD r s0 :: dtF l t r else dtF l t r
theorem dt_ok {n : Nat} {l : yL} (h : okL n l) (t : Nat) : ∀ r, r ≤ l.length → ∀ s, s ∈ dtF l t r → okS n s
  | 0, _, s, hs => by cases hs
  | r + 1, hr, s, hs => by
    unfold dtF at hs
    split at hs
    · rcases List.mem_cons.mp hs with e | e
      · rw [e]; exact ok_at h (by omega)
      · exact dt_ok h t r (by omega) s e
    · exact dt_ok h t r (by omega) s hs
theorem dt_len (l : yL) (t : Nat) : ∀ r, (dtF l t r).length ≤ r
  | 0 => Nat.le_refl _
  | r + 1 => by
    have := dt_len l t r
    unfold dtF
    split
    · rw [List.length_cons]; omega
    · omega
def ftF (t : Nat) (l : yL) : yL := l.filter (fun s => decide (s.2.1 ≠ t))
theorem take_s {l : yL} {k : Nat} (h : k < l.length) : l.take (k + 1) = l.take k ++ [l.getD k s0] := by
  rw [List.take_add_one, List.getD_eq_getElem?_getD, List.getElem?_eq_getElem h]; rfl
theorem ft_T {t : Nat} {l : yL} {k : Nat} (h : k < l.length) (g : (l.getD k s0).2.1 ≠ t) : ftF t (l.take (k + 1)) = ftF t (l.take k) ++ [l.getD k s0] := by
  unfold ftF
  rw [take_s h, List.filter_append, List.filter_cons_of_pos (p := fun s : Nat × Nat × Nat => decide (s.2.1 ≠ t)) (decide_eq_true g), List.filter_nil]
theorem ft_F {t : Nat} {l : yL} {k : Nat} (h : k < l.length) (g : ¬ (l.getD k s0).2.1 ≠ t) : ftF t (l.take (k + 1)) = ftF t (l.take k) := by
  unfold ftF
  rw [take_s h, List.filter_append, List.filter_cons_of_neg (p := fun s : Nat × Nat × Nat => decide (s.2.1 ≠ t)) (by rw [decide_eq_false g]; decide), List.filter_nil, List.append_nil]
theorem ft_len (t : Nat) (l : yL) (k : Nat) (h : k ≤ l.length) : (ftF t (l.take k)).length ≤ k := by
  have := List.length_filter_le (fun s : Nat × Nat × Nat => decide (s.2.1 ≠ t)) (l.take k)
  rw [List.length_take] at this
  unfold ftF
  omega
theorem getD_app_l {l m : yL} {k : Nat} (h : k < l.length) : (l ++ m).getD k s0 = l.getD k s0 := by
  rw [List.getD_eq_getElem?_getD, List.getD_eq_getElem?_getD, List.getElem?_append_left h]
theorem getD_app_e {l : yL} (s : Nat × Nat × Nat) : (l ++ [s]).getD l.length s0 = s := by
  rw [List.getD_eq_getElem?_getD, List.getElem?_append_right (Nat.le_refl _), Nat.sub_self]; rfl
theorem L_et2 (d : Nat) {n : Nat} {A : zM} {S : yR} {l : yL} (hl : okL n l) {t : Nat} (ht : t < 8) : ∀ (r k : Nat) (o4 : Option Value) (f : Nat → Int32), k + r = l.length → (∀ j, j < 203 → j ≠ 14 → f j = yG S j) → f 14 = zn l.length → (∀ j, j < (ftF t (l.take k)).length → f (203 + j) = enS ((ftF t (l.take k)).getD j s0)) → (∀ j, k ≤ j → j < l.length → f (203 + j) = enS (l.getD j s0)) → ∃ f', z_denF zQ (d + 3) mO_endTrack (45, [some (.ref 3), some (.int (zn t)), some (.int (zn (ftF t (l.take k)).length)), some (.int (zn k)), o4], [], yC A f S) = some (none, yC A f' S) ∧ cY (yG S) (ftF t l) f'
  | 0, k, o4, f, hk, h1, h2, h3, h4 => by
    have hl2 := hl.2.1
    have e : l.take k = l := by rw [show k = l.length by omega, List.take_length]
    rw [e] at h3 ⊢
    refine ⟨up f 14 (zn (ftF t l).length), ?_, ⟨fun j a b => by rw [up_o b]; exact h1 j a b, up_s .., fun j hj => by rw [up_o (by omega)]; exact h3 j hj⟩⟩
    rw [L_O_endTrack_45, ix_L nL_14 (by omega) (by omega), cond_true, nL_14, zn_N (by omega), yC_11, h2, z_le_T (by omega) (by omega), cond_true, cond_true, yC_w11]
  | r + 1, k, o4, f, hk, h1, h2, h3, h4 => by
    have hl2 := hl.2.1
    have hs := ok_at hl (k := k) (by omega)
    have e0 : z_den zQ (d + 2) mO_soundAt [.ref 3, .int (zn k)] (yC A f S) = some (some (.int (enS (l.getD k s0))), yC A f S) := by
      rw [B_O_soundAt, nL_0, z_lt_F (by omega) (by omega), cond_false, show (320 : Int32) = zn 320 from (zn_eq 320).symm, z_le_F (by omega) (by omega), cond_false, nL_203, zn_add, z_ix_T (by omega) (by omega), cond_true, zn_N (by omega), yC_11, h4 k (Nat.le_refl _) (by omega)]
    have hft := ft_len t l k (by omega)
    rw [L_O_endTrack_45, ix_L nL_14 (by omega) (by omega), cond_true, nL_14, zn_N (by omega), yC_11, h2, z_le_F (by omega) (by omega), cond_false, e0, z_bI_some, B_O_trackOf, en_t hs hl.1, z_bI_some]
    by_cases g : (l.getD k s0).2.1 ≠ t
    · have e1 := ft_T (t := t) (l := l) (k := k) (by omega) g
      rw [z_ne_T g (by have := hs.2.1; omega) (by omega), cond_true, nL_203, zn_add, z_ix_T (by omega) (by omega), cond_true, zn_1, zn_1, zn_N (by omega), yC_w11]
      obtain ⟨f', q1, q2⟩ := L_et2 d (A := A) (S := S) hl ht r (k + 1) (some (.int (enS (l.getD k s0)))) (up f (203 + (ftF t (l.take k)).length) (enS (l.getD k s0))) (by omega) (fun j a b => by rw [up_o (by omega)]; exact h1 j a b) (by rw [up_o (by omega)]; exact h2) (fun j hj => by
        rw [e1] at hj ⊢
        rw [List.length_append, List.length_singleton] at hj
        by_cases e : j = (ftF t (l.take k)).length
        · rw [e, up_s, getD_app_e]
        · rw [up_o (by omega), getD_app_l (by omega)]; exact h3 j (by omega)) (fun j a b => by rw [up_o (by omega)]; exact h4 j (by omega) b)
      refine ⟨f', ?_, q2⟩
      rw [e1, List.length_append, List.length_singleton] at q1
      exact q1
    · have e1 := ft_F (t := t) (l := l) (k := k) (by omega) g
      have g' : (l.getD k s0).2.1 = t := Decidable.of_not_not g
      rw [g', z_ne_F, cond_false, zn_1]
      obtain ⟨f', q1, q2⟩ := L_et2 d (A := A) (S := S) hl ht r (k + 1) (some (.int (enS (l.getD k s0)))) f (by omega) h1 h2 (by rw [e1]; exact h3) (fun j a b => h4 j (by omega) b)
      refine ⟨f', ?_, q2⟩
      rw [e1] at q1
      exact q1
theorem L_et1 (d : Nat) {n : Nat} {A : zM} {l : yL} (hl : okL n l) {t : Nat} (ht : t < 8) : ∀ (r : Nat) (f : Nat → Int32) (S : yR) (b : Nat), cY (yG S) l f → evB S b → b + r < 2147483646 → r ≤ l.length → ∃ f', z_denF zQ (d + 3) mO_endTrack (10, [some (.ref 3), some (.int (zn t)), some (.int (dk r)), none, none], [], yC A f S) = some (none, yC A f' (enL S (dtF l t r))) ∧ cY (yG (enL S (dtF l t r))) (ftF t l) f'
  | 0, f, S, b, h, he, hb, hr => by
    rw [L_O_endTrack_10, dk_0, cond_true]
    obtain ⟨f', q1, q2⟩ := L_et2 d (A := A) (S := S) hl ht l.length 0 none f (by omega) h.1 h.2.1 (fun j hj => by rw [List.take_zero] at hj; exact absurd hj (Nat.not_lt_zero _)) (fun j _ b => h.2.2 j b)
    rw [List.take_zero] at q1
    rw [nL_0]
    exact ⟨f', q1, q2⟩
  | r + 1, f, S, b, h, he, hb, hr => by
    have hl2 := hl.2.1
    have hs := ok_at hl (k := r) (by omega)
    rw [L_O_endTrack_10, dk_s (by omega), show z_lt (zn r) (0 : Int32) = false by rw [nL_0]; exact z_lt_F (by omega) (by omega), cond_false, c_sndAt _ h hl.2.1 (by omega), z_bI_some, B_O_trackOf, en_t hs hl.1, z_bI_some]
    unfold dtF
    by_cases g : (l.getD r s0).2.1 = t
    · rw [if_pos g, g, z_ne_F, cond_false, c_sndAt _ h hl.2.1 (by omega), z_bI_some]
      obtain ⟨f1, q1, q2⟩ := c_note d (A := A) h he (by omega) hs hl.1
      obtain ⟨f2, p1, p2⟩ := L_et1 d (A := A) hl ht r f1 (neF S (l.getD r s0)) (b + 1) q2 (evB_ne he (by omega) _) (by omega) (by omega)
      refine ⟨f2, ?_, p2⟩
      rw [q1, z_bV_some, dk_a]
      exact p1
    · rw [if_neg g, z_ne_T g (by have := hs.2.1; omega) (by omega), cond_true, dk_a]
      exact L_et1 d (A := A) hl ht r f S b h he (by omega) (by omega)
theorem c_eTr (d : Nat) {n : Nat} {A : zM} {S : yR} {l : yL} {f : Nat → Int32} {t b : Nat} (hl : okL n l) (h : cY (yG S) l f) (he : evB S b) (hb : b + 320 < 2147483646) (ht : t < 8) : ∃ f', z_den zQ (d + 3) mO_endTrack [.ref 3, .int (zn t)] (yC A f S) = some (none, yC A f' (enL S (dtF l t l.length))) ∧ cY (yG (enL S (dtF l t l.length))) (ftF t l) f' := by
  have hl2 := hl.2.1
  rw [B_O_endTrack, ix_L nL_14 (by omega) (by omega), cond_true, nL_14, zn_N (by omega), yC_11, h.2.1, nL_1]
  exact L_et1 d (A := A) hl ht l.length f S b h he (by omega) (by omega)
