/-! S LEVEL, PLAYING: an opening begins, the reference. -/
def xbg (a k : Nat) : Prop := (a = 15 ∧ (k = 52 ∨ k = 58)) ∨ a = 30 ∨ a = 39 ∨ (46 ≤ a ∧ a ≤ 49) ∨ a = 51
theorem r_uT {S : yR} {B : zM} (h : rB S B) {k : Nat} {v : Int32} (hv : v = yT S k + 1) : rB (uT S k) (z_wI B 39 k v) := by
  obtain ⟨h1, h2, h3, h4, h5⟩ := h
  refine ⟨by rw [zI_wI_a (by omega)]; exact h1, by rw [zI_wI_a (by omega)]; exact h2, fun i hi => by rw [zI_wI_a (by omega), zI_wI_a (by omega), zI_wI_a (by omega)]; exact h3 i hi, fun j hj => by rw [zI_wI_a (by omega)]; exact h4 j hj, fun j hj => ?_⟩
  rw [yT_uT]
  by_cases e : j = k
  · subst e; rw [zI_wI_s, up_s]; exact hv
  · rw [zI_wI_k e, up_o e]; exact h5 j hj
theorem r_u23 {S : yR} {B : zM} (h : rB S B) {i : Nat} (hi : i < 60) (v : Int32) : rB (uG S (23 + i) v) (z_wI B 30 i v) := by
  obtain ⟨h1, h2, h3, h4, h5⟩ := h
  refine ⟨by rw [zI_wI_a (by omega), yG_uG, up_o (by omega)]; exact h1, by rw [zI_wI_a (by omega), yG_uG, up_o (by omega)]; exact h2, fun j hj => ?_, fun j hj => by rw [zI_wI_a (by omega)]; exact h4 j hj, fun j hj => by rw [zI_wI_a (by omega)]; exact h5 j hj⟩
  rw [yG_uG, zI_wI_a (a' := 49) (by omega), zI_wI_a (a' := 50) (by omega), up_o (by omega : 83 + j ≠ 23 + i), up_o (by omega : 143 + j ≠ 23 + i)]
  refine ⟨?_, (h3 j hj).2.1, (h3 j hj).2.2⟩
  by_cases e : j = i
  · subst e; rw [zI_wI_s, up_s]
  · rw [zI_wI_k e, up_o (by omega)]; exact (h3 j hj).1
theorem r_u83 {S : yR} {B : zM} (h : rB S B) {i : Nat} (hi : i < 60) (v : Int32) : rB (uG S (83 + i) v) (z_wI B 49 i v) := by
  obtain ⟨h1, h2, h3, h4, h5⟩ := h
  refine ⟨by rw [zI_wI_a (by omega), yG_uG, up_o (by omega)]; exact h1, by rw [zI_wI_a (by omega), yG_uG, up_o (by omega)]; exact h2, fun j hj => ?_, fun j hj => by rw [zI_wI_a (by omega)]; exact h4 j hj, fun j hj => by rw [zI_wI_a (by omega)]; exact h5 j hj⟩
  rw [yG_uG, zI_wI_a (a' := 30) (by omega), zI_wI_a (a' := 50) (by omega), up_o (by omega : 23 + j ≠ 83 + i), up_o (by omega : 143 + j ≠ 83 + i)]
  refine ⟨(h3 j hj).1, ?_, (h3 j hj).2.2⟩
  by_cases e : j = i
  · subst e; rw [zI_wI_s, up_s]
  · rw [zI_wI_k e, up_o (by omega)]; exact (h3 j hj).2.1
theorem r_add {S : yR} {l : yL} {M : zM} {i tr go : Nat} {v : Int32} (h : rB S M) (hL : rL l M) (hi : i < 60) : rB (uG S (83 + i) v) (z_wI (z_wI (z_wI (z_wI (z_wI M 46 l.length (zn i)) 47 l.length (zn tr)) 48 l.length (zn go)) 15 52 (zn (l.length + 1))) 49 i v) ∧ rL (l ++ [(i, tr, go)]) (z_wI (z_wI (z_wI (z_wI (z_wI M 46 l.length (zn i)) 47 l.length (zn tr)) 48 l.length (zn go)) 15 52 (zn (l.length + 1))) 49 i v) := by
  constructor
  · refine r_u83 ?_ hi v
    have f : zFr 0 0 (fun a k => (a = 15 ∧ k = 52) ∨ (46 ≤ a ∧ a ≤ 48)) M (z_wI (z_wI (z_wI (z_wI M 46 l.length (zn i)) 47 l.length (zn tr)) 48 l.length (zn go)) 15 52 (zn (l.length + 1))) := zF_w (zF_w (zF_w (zF_w (zFr_refl _ M) (Or.inr ⟨by omega, by omega⟩) _) (Or.inr ⟨by omega, by omega⟩) _) (Or.inr ⟨by omega, by omega⟩) _) (Or.inl ⟨rfl, rfl⟩) _
    exact rB_fr f h (by omega) (by omega) (fun a k e q => by omega)
  · have hl : (l ++ [(i, tr, go)]).length = l.length + 1 := by rw [List.length_append, List.length_singleton]
    refine ⟨by rw [zI_wI_a (by omega), zI_wI_s, hl], fun k hk => ?_⟩
    rw [hl] at hk
    by_cases e : k = l.length
    · subst e
      rw [getD_app_e]
      refine ⟨?_, ?_, ?_⟩
      · rw [zI_wI_a (by omega), zI_wI_a (by omega), zI_wI_a (by omega), zI_wI_a (by omega), zI_wI_s]
      · rw [zI_wI_a (by omega), zI_wI_a (by omega), zI_wI_a (by omega), zI_wI_s]
      · rw [zI_wI_a (by omega), zI_wI_a (by omega), zI_wI_s]
    · rw [getD_app_l (by omega)]
      have q : ∀ a, 46 ≤ a → a ≤ 48 → zI (z_wI (z_wI (z_wI (z_wI (z_wI M 46 l.length (zn i)) 47 l.length (zn tr)) 48 l.length (zn go)) 15 52 (zn (l.length + 1))) 49 i v) a k = zI M a k := by
        intro a a1 a2
        rw [zI_wI_a (by omega), zI_wI_a (by omega), zI_wI_k e, zI_wI_k e, zI_wI_k e]
      rw [q _ (by omega) (by omega), q _ (by omega) (by omega), q _ (by omega) (by omega)]
      exact hL.2 k (by omega)
theorem r_begT (d : Nat) {S : yR} {l : yL} {B M : zM} {i tr go b : Nat} {v : Int32} (h : rB S M) (hL : rL l M) (hi : i < 60) (he : evB S b) (hb : b < 2147483646) (hv : v = yG S (83 + i) + 1) (f : zFr 0 0 xbg B M) : ∃ B', z_den zQ (d + 1) mQ_tell [.ref 15, .int 1, .int (zn i), .int (zn tr)] (z_wI (z_wI (z_wI (z_wI (z_wI M 46 l.length (zn i)) 47 l.length (zn tr)) 48 l.length (zn go)) 15 52 (zn (l.length + 1))) 49 i v) = some (none, B') ∧ rB (lgF (uG S (83 + i) (yG S (83 + i) + 1)) 1 (zn i) (zn tr)) B' ∧ rL (l ++ [(i, tr, go)]) B' ∧ zFr 0 0 xbg B B' := by
  subst hv
  obtain ⟨a1, a2⟩ := r_add (tr := tr) (go := go) (v := yG S (83 + i) + 1) h hL hi
  have he' : evB (uG S (83 + i) (yG S (83 + i) + 1)) b := by unfold evB evN; rw [yG_uG, up_o (by omega)]; exact he
  obtain ⟨B', q1, q2, q3⟩ := r_tell d a1 he' hb 1 (zn i) (zn tr)
  refine ⟨B', q1, q2, rL_fr q3 a2 (fun e => by rcases e with e | e <;> omega) (fun a k e1 e2 q => by rcases q with q | q <;> omega), ?_⟩
  refine zFr_trans (zF_w (zF_w (zF_w (zF_w (zF_w f ?_ _) ?_ _) ?_ _) ?_ _) ?_ _) q3 (fun a k _ e => ?_)
  · exact Or.inr (Or.inr (Or.inr (Or.inl ⟨by omega, by omega⟩)))
  · exact Or.inr (Or.inr (Or.inr (Or.inl ⟨by omega, by omega⟩)))
  · exact Or.inr (Or.inr (Or.inr (Or.inl ⟨by omega, by omega⟩)))
  · exact Or.inl ⟨rfl, Or.inl rfl⟩
  · exact Or.inr (Or.inr (Or.inr (Or.inl ⟨by omega, by omega⟩)))
  · rcases e with e | e
    · exact Or.inl ⟨e.1, Or.inr e.2⟩
    · exact Or.inr (Or.inr (Or.inr (Or.inr e)))
theorem eq1_sub (x : Int32) : z_ne (x - 1) 0 = decide (x ≠ 1) := by
  rw [z_ne_eq]
  by_cases g : x = 1
  · rw [decide_eq_false (p := x ≠ 1) (fun q => q g), g]; rfl
  · rw [decide_eq_true (p := x ≠ 1) g]
    refine decide_eq_true (fun q => g ?_)
    have : x - 1 + 1 = 0 + 1 := by rw [q]
    rw [Int32.sub_add_cancel] at this
    exact this
theorem r_begins (d : Nat) {J : zJ} {S : yR} {l : yL} {B : zM} {i tr go b : Nat} (w : wJ J) (hJ : zI B 26 i = zn (jS J i)) (h : rB S B) (hL : rL l B) (hi : i < jN J) (hl : l.length < 320) (hgo : yG S 3 = zn go) (hg2 : go ≤ 20000) (he : evB S b) (hb : b < 2147483646) : ∃ B', z_den zQ (d + 2) mQ_begins [.ref 15, .int (zn i), .int (zn tr)] B = some (some (.int (bI (decide (yG S (23 + i) ≠ 1)))), B') ∧ rB (if yG S (23 + i) = 1 then bg2 J S i else bg3 J S i tr) B' ∧ rL (if yG S (23 + i) = 1 then l else l ++ [(i, tr, go)]) B' ∧ zFr 0 0 xbg B B' := by
  have w0 := w.1
  have wS := (w.2.2.2 i hi).1
  have e52 := hL.1
  have e48 : zI B 15 48 = zn go := by rw [h.2.1]; exact hgo
  have e30 := (h.2.2.1 i (by omega)).1
  have e49 := (h.2.2.1 i (by omega)).2.1
  have e14 := h.2.2.2.2 14 (by omega)
  have e15 := h.2.2.2.2 15 (by omega)
  have z14 : z_ix (14 : Int32) 17 = true := ix_L nL_14 (by omega) (by omega)
  have n14 : Int32.toNatClampNeg (14 : Int32) = 14 := by rw [nL_14]; exact zn_N (by omega)
  have z15 : z_ix (15 : Int32) 17 = true := ix_L nL_15 (by omega) (by omega)
  have n15 : Int32.toNatClampNeg (15 : Int32) = 15 := by rw [nL_15]; exact zn_N (by omega)
  have zi : z_ix (zn i) 60 = true := z_ix_T (by omega) (by omega)
  have ni : Int32.toNatClampNeg (zn i) = i := zn_N (by omega)
  have zl : z_ix (zn l.length) 340 = true := z_ix_T (by omega) (by omega)
  have nl : Int32.toNatClampNeg (zn l.length) = l.length := zn_N (by omega)
  -- the memory behind the traces
  have key : ∀ M1 : zM, rB (bg1 J S i) M1 → rL l M1 → zFr 0 0 xbg B M1 → ∃ B', (bif z_le (yG S (23 + i)) 0 then z_bV (z_den zQ (d + 1) mQ_tell [.ref 15, .int 1, .int (zn i), .int (zn tr)] (z_wI (z_wI (z_wI (z_wI (z_wI M1 46 l.length (zn i)) 47 l.length (zn tr)) 48 l.length (zn go)) 15 52 (zn (l.length + 1))) 49 i (yG S (83 + i) + 1))) (fun M1 => some (some (.int 1), M1)) else bif decide (yG S (23 + i) ≠ 1) then z_bV (z_den zQ (d + 1) mQ_tell [.ref 15, .int 1, .int (zn i), .int (zn tr)] (z_wI (z_wI (z_wI (z_wI (z_wI (z_wI M1 30 i (yG S (23 + i) - 1)) 46 l.length (zn i)) 47 l.length (zn tr)) 48 l.length (zn go)) 15 52 (zn (l.length + 1))) 49 i (yG S (83 + i) + 1))) (fun M1 => some (some (.int 1), M1)) else some (some (.int 0), z_wI M1 30 i (yG S (23 + i) - 1))) = some (some (.int (bI (decide (yG S (23 + i) ≠ 1)))), B') ∧ rB (if yG S (23 + i) = 1 then bg2 J S i else bg3 J S i tr) B' ∧ rL (if yG S (23 + i) = 1 then l else l ++ [(i, tr, go)]) B' ∧ zFr 0 0 xbg B B' := by
    intro M1 hM hML hf
    rw [le0_eq]
    by_cases g0 : 0 < (yG S (23 + i)).toInt
    · have e2 : bg2 J S i = uG (bg1 J S i) (23 + i) (yG S (23 + i) - 1) := pif_T g0
      have hM2 : rB (bg2 J S i) (z_wI M1 30 i (yG S (23 + i) - 1)) := by rw [e2]; exact r_u23 hM (by omega) _
      have f2 : zFr 0 0 xbg B (z_wI M1 30 i (yG S (23 + i) - 1)) := zF_w hf (Or.inr (Or.inl rfl)) _
      have hL2 : rL l (z_wI M1 30 i (yG S (23 + i) - 1)) := rL_fr (zFr_wI (X := fun a _ => a = 30) rfl) hML (by omega) (fun a k _ _ q => by omega)
      rw [decide_eq_false (p := ¬ 0 < (yG S (23 + i)).toInt) (fun q => q g0), cond_false]
      by_cases g1 : yG S (23 + i) = 1
      · rw [decide_eq_false (p := yG S (23 + i) ≠ 1) (fun q => q g1), if_pos g1, if_pos g1, cond_false]
        exact ⟨_, by rw [bI_F, nL_0], hM2, hL2, f2⟩
      · rw [decide_eq_true (p := yG S (23 + i) ≠ 1) g1, if_neg g1, if_neg g1, cond_true]
        have he2 : evB (bg2 J S i) b := by unfold evB evN; rw [b2_G J S i (by omega)]; exact he
        obtain ⟨B', q1, q2, q3, q4⟩ := r_begT d (tr := tr) (go := go) hM2 hL2 (i := i) (by omega) he2 hb (v := yG S (83 + i) + 1) (by rw [b2_G J S i (by omega)]) f2
        refine ⟨B', by rw [q1, z_bV_some, bI_T, nL_1], ?_, q3, q4⟩
        unfold bg3
        rw [b2_G J S i (by omega)] at q2
        exact q2
    · have e2 : bg2 J S i = bg1 J S i := pif_F g0
      have g1 : yG S (23 + i) ≠ 1 := fun q => g0 (by rw [q]; decide)
      rw [decide_eq_true (p := ¬ 0 < (yG S (23 + i)).toInt) g0, cond_true, decide_eq_true (p := yG S (23 + i) ≠ 1) g1, if_neg g1, if_neg g1]
      have hM2 : rB (bg2 J S i) M1 := by rw [e2]; exact hM
      have he2 : evB (bg2 J S i) b := by unfold evB evN; rw [b2_G J S i (by omega)]; exact he
      obtain ⟨B', q1, q2, q3, q4⟩ := r_begT d (tr := tr) (go := go) hM2 hML (i := i) (by omega) he2 hb (v := yG S (83 + i) + 1) (by rw [b2_G J S i (by omega)]) hf
      refine ⟨B', by rw [q1, z_bV_some, bI_T, nL_1], ?_, q3, q4⟩
      unfold bg3
      rw [b2_G J S i (by omega)] at q2
      exact q2
  rw [B_Q_begins]
  by_cases h6 : jS J i = 6
  · have t6 : z_ne (zn (jS J i)) (6 : Int32) = false := by rw [h6, nL_6]; exact z_ne_F _
    have k := key (z_wI (z_wI B 39 15 (yT S 15 + 1)) 39 14 (yT S 14 + 1)) (by
      have e1 : bg1 J S i = uT (uT S 15) 14 := by
        unfold bg1
        rw [if_pos h6]
        refine Prod.ext rfl (Prod.ext rfl (funext (fun j => ?_)))
        show up (up (yT S) 14 (yT S 14 + 1)) 15 (up (yT S) 14 (yT S 14 + 1) 15 + 1) j = up (up (yT S) 15 (yT S 15 + 1)) 14 (up (yT S) 15 (yT S 15 + 1) 14 + 1) j
        rw [up_o (f := yT S) (k := 14) (j := 15) (by omega), up_o (f := yT S) (k := 15) (j := 14) (by omega)]
        by_cases a : j = 15
        · rw [a, up_s, up_o (by omega), up_s]
        · rw [up_o a]
          by_cases c : j = 14
          · rw [c, up_s, up_s]
          · rw [up_o c, up_o c, up_o a]
      rw [e1]
      exact r_uT (r_uT h rfl) (by rw [yT_uT, up_o (by omega)])) (rL_fr (zF_w (zF_w (zFr_refl (fun a _ => a = 39) B) rfl _) rfl _) hL (by omega) (fun a k _ _ q => by omega)) (zF_w (zF_w (zFr_refl xbg B) (Or.inr (Or.inr (Or.inl rfl))) _) (Or.inr (Or.inr (Or.inl rfl))) _)
    have e14' : zI (z_wI B 39 15 (yT S 15 + 1)) 39 14 = yT S 14 := by rw [zI_wI_k (by omega)]; exact e14
    simp only [zi, cond_true, ni, hJ, t6, cond_false, z15, n15, z14, n14, e15, e14', e30, e52, zl, nl, e48, e49, zn_1, zI_wI_s, eq1_sub]
    exact k
  · have t6 : z_ne (zn (jS J i)) (6 : Int32) = true := by rw [nL_6]; exact z_ne_T h6 (by omega) (by omega)
    have k := key (z_wI B 39 14 (yT S 14 + 1)) (by
      have e1 : bg1 J S i = uT S 14 := if_neg h6
      rw [e1]
      exact r_uT h rfl) (rL_fr (zF_w (zFr_refl (fun a _ => a = 39) B) rfl _) hL (by omega) (fun a k _ _ q => by omega)) (zF_w (zFr_refl xbg B) (Or.inr (Or.inr (Or.inl rfl))) _)
    simp only [zi, cond_true, ni, hJ, t6, z14, n14, e14, e30, e52, zl, nl, e48, e49, zn_1, zI_wI_s, eq1_sub]
    exact k
