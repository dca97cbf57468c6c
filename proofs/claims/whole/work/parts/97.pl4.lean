/-! S LEVEL, PLAYING: silence and shut holes, the reference. -/
theorem era_take {l : yL} {m : Nat} (h : m < l.length) : (l.take (m + 1)).eraseIdx m = l.take m := by
  rw [List.eraseIdx_eq_take_drop_succ, List.take_take, Nat.min_eq_left (Nat.le_succ m), List.drop_eq_nil_of_le (by rw [List.length_take]; omega), List.append_nil]
theorem okL_take {n : Nat} {l : yL} (h : okL n l) (m : Nat) : okL n (l.take m) := ⟨h.1, by rw [List.length_take]; have := h.2.1; omega, fun s hs => h.2.2 s (List.mem_of_mem_take hs)⟩
/-- one end of the last, in a list cut at m + 1 -/
theorem r_endT (d : Nat) {n : Nat} {B : zM} {S : yR} {l : yL} {b m : Nat} (hl : okL n l) (h : rB S B) (hL : rL (l.take (m + 1)) B) (he : evB S b) (hb : b < 2147483646) (hm : m < l.length) : ∃ B', z_den zQ (d + 2) mQ_end [.ref 15, .int (zn m)] B = some (none, B') ∧ rB (neF S (l.getD m s0)) B' ∧ rL (l.take m) B' ∧ zFr 0 0 xen B B' := by
  obtain ⟨B', q1, q2, q3, q4⟩ := r_end d (okL_take hl (m + 1)) h hL he hb (k := m) (by rw [List.length_take]; omega)
  rw [getD_take (by omega)] at q2
  rw [era_take hm] at q3
  exact ⟨B', q1, q2, q3, q4⟩
theorem x_tr {B B1 B2 : zM} {X : Nat → Nat → Prop} (f : zFr 0 0 X B B1) (g : zFr 0 0 X B1 B2) : zFr 0 0 X B B2 := zFr_trans f g (fun _ _ _ e => e)
theorem tk_len {l : yL} {m : Nat} (h : m ≤ l.length) : (l.take m).length = m := by rw [List.length_take]; omega
theorem L_eA0 (d : Nat) {n : Nat} {l : yL} (hl : okL n l) : ∀ (r : Nat) (B : zM) (S : yR) (b : Nat), rB S B → rL (l.take r) B → evB S b → b + r < 2147483646 → r ≤ l.length → ∃ B', z_denF zQ (d + 3) mQ_endAll (0, [some (.ref 15), none], [], B) = z_denF zQ (d + 3) mQ_endAll (22, [some (.ref 15), some (.int 0)], [], B') ∧ rB (enL S (dnF l 0 r)) B' ∧ rL [] B' ∧ zFr 0 0 xen B B'
  | 0, B, S, b, h, hL, he, hb, hr => by
    rw [List.take_zero] at hL
    refine ⟨B, ?_, h, hL, zFr_refl _ _⟩
    rw [L_Q_endAll_0, hL.1, show z_le (zn ([] : yL).length) (0 : Int32) = true by rw [nL_0]; exact z_le_T (Nat.le_refl _) (by omega), cond_true]
  | r + 1, B, S, b, h, hL, he, hb, hr => by
    have hl2 := hl.2.1
    have e52 : zI B 15 52 = zn (r + 1) := by rw [hL.1, tk_len hr]
    obtain ⟨B1, q1, q2, q3, q4⟩ := r_endT d hl h hL he (by omega) hr
    obtain ⟨B2, p1, p2, p3, p4⟩ := L_eA0 d hl r B1 _ (b + 1) q2 q3 (evB_ne he (by omega) _) (by omega) (by omega)
    refine ⟨B2, ?_, ?_, p3, x_tr q4 p4⟩
    · rw [L_Q_endAll_0, e52, show z_le (zn (r + 1)) (0 : Int32) = false by rw [nL_0]; exact z_le_F (by omega) (by omega), cond_false, nL_1, zn_sub (by omega), Nat.add_sub_cancel, q1, z_bV_some]
      exact p1
    · show rB (enL (neF S (l.getD (0 + r) s0)) (dnF l 0 r)) B2
      rw [Nat.zero_add]; exact p2
theorem L_eA2 (d : Nat) : ∀ (r t : Nat) (B : zM), t + r = 8 → z_denF zQ (d + 1) mQ_endAll (22, [some (.ref 15), some (.int (zn t))], [], B) = some (none, z_put B 43 t r (fun _ => 0))
  | 0, t, B, h => by
    rw [L_Q_endAll_22, nL_8, z_le_T (by omega) (by omega), cond_true, z_put_0]
  | r + 1, t, B, h => by
    rw [L_Q_endAll_22, nL_8, z_le_F (by omega) (by omega), cond_false, z_ix_T (by omega) (by omega), cond_true, zn_1, zn_N (by omega), L_eA2 d r (t + 1) _ (by omega), z_put_lo (g := fun _ => 0)]
def xea (a k : Nat) : Prop := xen a k ∨ a = 43
theorem r_eAll (d : Nat) {n : Nat} {B : zM} {S : yR} {l : yL} {b : Nat} (hl : okL n l) (h : rB S B) (hL : rL l B) (he : evB S b) (hb : b + 320 < 2147483646) : ∃ B', z_den zQ (d + 3) mQ_endAll [.ref 15] B = some (none, B') ∧ rB (enL S (dnF l 0 l.length)) B' ∧ rL [] B' ∧ (∀ t, t < 8 → zI B' 43 t = 0) ∧ zFr 0 0 xea B B' := by
  have hl2 := hl.2.1
  obtain ⟨B1, q1, q2, q3, q4⟩ := L_eA0 d hl l.length B S b h (by rw [List.take_length]; exact hL) he (by omega) (Nat.le_refl _)
  have e : z_den zQ (d + 3) mQ_endAll [.ref 15] B = z_denF zQ (d + 3) mQ_endAll (0, [some (.ref 15), none], [], B) := by rw [B_Q_endAll, L_Q_endAll_0]
  have f1 : zFr 0 0 (fun a _ => a = 43) B1 (z_put B1 43 0 8 (fun _ => 0)) := zFr_put (X := fun a _ => a = 43) (fun _ _ _ => rfl)
  have e2 := L_eA2 (d + 2) 8 0 B1 rfl
  rw [← nL_0] at e2
  refine ⟨z_put B1 43 0 8 (fun _ => 0), ?_, ?_, ?_, fun t ht => ?_, ?_⟩
  · rw [e, q1, e2]
  · exact rB_fr f1 q2 (by omega) (by omega) (fun a k e q => by omega)
  · exact rL_fr f1 q3 (by omega) (fun a k e _ q => by omega)
  · rw [zI_put_s, if_pos (by omega)]
  · exact zFr_trans (zFr_mono q4 (Nat.le_refl _) (Nat.le_refl _) (fun _ _ e => Or.inl e)) f1 (fun _ _ _ e => Or.inr e)
theorem drop_s {l : yL} {k : Nat} (h : k < l.length) : l.drop k = l.getD k s0 :: l.drop (k + 1) := by
  rw [List.drop_eq_getElem_cons h, List.getD_eq_getElem?_getD, List.getElem?_eq_getElem h]; rfl
def cuF (t : Nat) (l : yL) (r : Nat) : yL := l.take r ++ ftF t (l.drop r)
theorem cu_at {t : Nat} {l : yL} {r k : Nat} (h : k < r) (hr : r ≤ l.length) : (cuF t l r).getD k s0 = l.getD k s0 := by
  unfold cuF
  rw [getD_app_l (by rw [tk_len hr]; exact h), getD_take h]
theorem cu_len {t : Nat} {l : yL} {r : Nat} (hr : r ≤ l.length) : r ≤ (cuF t l r).length ∧ (cuF t l r).length ≤ l.length := by
  unfold cuF
  have := List.length_filter_le (fun s : Nat × Nat × Nat => decide (s.2.1 ≠ t)) (l.drop r)
  rw [List.length_append, tk_len hr]
  unfold ftF
  rw [List.length_drop] at this
  omega
theorem cu_T {t : Nat} {l : yL} {r : Nat} (hr : r < l.length) (g : (l.getD r s0).2.1 = t) : (cuF t l (r + 1)).eraseIdx r = cuF t l r := by
  unfold cuF
  have e1 : ftF t (l.drop r) = ftF t (l.drop (r + 1)) := by
    unfold ftF
    rw [drop_s hr, List.filter_cons_of_neg (p := fun s : Nat × Nat × Nat => decide (s.2.1 ≠ t)) (by rw [decide_eq_false (fun q => q g)]; decide)]
  rw [e1, List.eraseIdx_append_of_lt_length (by rw [tk_len hr]; omega), era_take hr]
theorem cu_F {t : Nat} {l : yL} {r : Nat} (hr : r < l.length) (g : (l.getD r s0).2.1 ≠ t) : cuF t l (r + 1) = cuF t l r := by
  unfold cuF
  have e1 : ftF t (l.drop r) = l.getD r s0 :: ftF t (l.drop (r + 1)) := by
    unfold ftF
    rw [drop_s hr, List.filter_cons_of_pos (p := fun s : Nat × Nat × Nat => decide (s.2.1 ≠ t)) (decide_eq_true g)]
  rw [e1, take_s hr, List.append_assoc]; rfl
theorem okL_cu {n : Nat} {l : yL} (h : okL n l) {t r : Nat} (hr : r ≤ l.length) : okL n (cuF t l r) := by
  refine ⟨h.1, by have := h.2.1; have := (cu_len (t := t) hr).2; omega, fun s hs => h.2.2 s ?_⟩
  unfold cuF ftF at hs
  rcases List.mem_append.mp hs with e | e
  · exact List.mem_of_mem_take e
  · exact List.mem_of_mem_drop (List.mem_filter.mp e).1
theorem cu_0 (t : Nat) (l : yL) : cuF t l 0 = ftF t l := rfl
theorem L_sh (d : Nat) {n : Nat} {l : yL} (hl : okL n l) {t : Nat} (ht : t < 8) : ∀ (r : Nat) (B : zM) (S : yR) (b : Nat), rB S B → rL (cuF t l r) B → evB S b → b + r < 2147483646 → r ≤ l.length → ∃ B', z_denF zQ (d + 3) mQ_shutHole (14, [some (.ref 15), some (.int (zn t)), some (.int (dk r))], [], B) = some (none, B') ∧ rB (enL S (dtF l t r)) B' ∧ rL (ftF t l) B' ∧ zFr 0 0 xen B B'
  | 0, B, S, b, h, hL, he, hb, hr => by
    refine ⟨B, ?_, h, hL, zFr_refl _ _⟩
    rw [L_Q_shutHole_14, dk_0, cond_true]
  | r + 1, B, S, b, h, hL, he, hb, hr => by
    have hl2 := hl.2.1
    have hs := ok_at hl (k := r) (by omega)
    have hcl := cu_len (t := t) hr
    have e47 := (hL.2 r (by omega)).2.1
    rw [cu_at (by omega) hr] at e47
    rw [L_Q_shutHole_14, dk_s (by omega), show z_lt (zn r) (0 : Int32) = false by rw [nL_0]; exact z_lt_F (by omega) (by omega), cond_false, z_ix_T (by omega) (by omega), cond_true, zn_N (by omega), e47]
    unfold dtF
    by_cases g : (l.getD r s0).2.1 = t
    · obtain ⟨B1, q1, q2, q3, q4⟩ := r_end d (okL_cu hl hr) h hL he (by omega) (k := r) (by omega)
      rw [cu_at (by omega) hr] at q2
      rw [cu_T hr g] at q3
      obtain ⟨B2, p1, p2, p3, p4⟩ := L_sh d hl ht r B1 _ (b + 1) q2 q3 (evB_ne he (by omega) _) (by omega) (by omega)
      refine ⟨B2, ?_, ?_, p3, x_tr q4 p4⟩
      · rw [g, z_ne_F, cond_false, q1, z_bV_some, dk_a]; exact p1
      · rw [if_pos g]; exact p2
    · rw [cu_F hr g] at hL
      obtain ⟨B2, p1, p2, p3, p4⟩ := L_sh d hl ht r B S b h hL he (by omega) (by omega)
      refine ⟨B2, ?_, ?_, p3, p4⟩
      · rw [z_ne_T g (by have := hs.2.1; omega) (by omega), cond_true, dk_a]; exact p1
      · rw [if_neg g]; exact p2
theorem r_shut (d : Nat) {n : Nat} {B : zM} {S : yR} {l : yL} {b t : Nat} (hl : okL n l) (h : rB S B) (hL : rL l B) (he : evB S b) (hb : b + 320 < 2147483646) (ht : t < 8) : ∃ B', z_den zQ (d + 3) mQ_shutHole [.ref 15, .int (zn t)] B = some (none, B') ∧ rB (enL S (dtF l t l.length)) B' ∧ rL (ftF t l) B' ∧ zFr 0 0 xen (z_wI B 43 t 0) B' := by
  have hl2 := hl.2.1
  have f1 : zFr 0 0 (fun a _ => a = 43) B (z_wI B 43 t 0) := zFr_wI (X := fun a _ => a = 43) rfl
  have hc : cuF t l l.length = l := by unfold cuF; rw [List.take_length, List.drop_length]; exact List.append_nil _
  obtain ⟨B', q1, q2, q3, q4⟩ := L_sh d hl ht l.length (z_wI B 43 t 0) S b (rB_fr f1 h (by omega) (by omega) (fun a k e q => by omega)) (by rw [hc]; exact rL_fr f1 hL (by omega) (fun a k e _ q => by omega)) he (by omega) (Nat.le_refl _)
  refine ⟨B', ?_, q2, q3, q4⟩
  rw [B_Q_shutHole, z_ix_T (by omega) (by omega), cond_true, zn_N (by omega), hL.1, nL_1]
  exact q1
