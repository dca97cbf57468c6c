/-! S LEVEL, PLAYING: levels, stops, tempo, the reference. -/
def xra (a k : Nat) : Prop := (a = 15 ∧ ((41 ≤ k ∧ k ≤ 47) ∨ (49 ≤ k ∧ k ≤ 51))) ∨ (43 ≤ a ∧ a ≤ 45)
theorem rBL_g {S S' : yR} {l : yL} {B B' : zM} (h : rY S l B) (f : zFr 0 0 xra B B') (eG : ∀ j, j = 3 ∨ j = 13 ∨ 23 ≤ j → yG S' j = yG S j) (eE : yE S' = yE S) (eT : yT S' = yT S) : rB S' B' ∧ rL l B' := by
  obtain ⟨k1, k2, k3, k4, k5⟩ := rB_fr f h.1 (fun e => by rcases e with e | e <;> omega) (fun e => by rcases e with e | e <;> omega) (fun a k q e => by rcases e with e | e <;> omega)
  exact ⟨⟨by rw [eG _ (by omega)]; exact k1, by rw [eG _ (by omega)]; exact k2, fun i hi => by rw [eG _ (by omega), eG _ (by omega), eG _ (by omega)]; exact k3 i hi, by rw [eE]; exact k4, by rw [eT]; exact k5⟩, rL_fr f h.2.1 (fun e => by rcases e with e | e <;> omega) (fun a k _ _ e => by rcases e with e | e <;> omega)⟩
theorem r_lv1 {S : yR} {l : yL} {B : zM} {t : Nat} (h : rY S l B) (ht : t < 8) (v : Int32) : rY (uG S (15 + t) v) l (z_wI B 44 t v) := by
  have f : zFr 0 0 xra B (z_wI B 44 t v) := zFr_wI (X := xra) (Or.inr ⟨by omega, by omega⟩)
  obtain ⟨q1, q2⟩ := rBL_g (S' := uG S (15 + t) v) h f (fun j hj => by rw [yG_uG, up_o (by omega)]) rfl rfl
  obtain ⟨a, b, c, le, d1, d2, d3⟩ := h.2.2
  refine ⟨q1, q2, ⟨?_, fun u hu => ?_, fun u hu => ?_, fun u hu => ?_, ?_, ?_, ?_⟩⟩
  · rw [yG_uG]; simp (disch := omega) only [zI_wI_a, up_o]; exact a
  · rw [yG_uG, up_o (by omega), zI_wI_a (by omega)]; exact b u hu
  · rw [yG_uG, up_o (by omega), zI_wI_a (by omega)]; exact c u hu
  · rw [yG_uG]
    by_cases e : u = t
    · subst e; rw [zI_wI_s, up_s]
    · rw [zI_wI_k e, up_o (by omega)]; exact le u hu
  · rw [yG_uG, up_o (by omega), zI_wI_a (by omega)]; exact d1
  · rw [yG_uG, up_o (by omega), zI_wI_a (by omega)]; exact d2
  · rw [yG_uG]; simp (disch := omega) only [zI_wI_a, up_o]; exact d3
theorem z_wI_id (B : zM) (a k : Nat) : z_wI B a k (zI B a k) = B := by
  rw [z_wI_up]
  have e : up (fun j => zI B a j) k (zI B a k) = fun j => zI B a j := by
    funext j
    by_cases e : j = k
    · subst e; rw [up_s]
    · rw [up_o e]
  rw [e]; exact z_uI_id B a
theorem L_rlv (d : Nat) {e l1 : Int32} : ∀ (r t : Nat) (B : zM) (S : yR) (l : yL), t + r = 8 → rY S l B → ∃ B', z_denF zQ (d + 1) mQ_does (104, [some (.ref 15), some (.int l1), some (.int e), some (.int (zn t)), none], [], B) = some (none, B') ∧ rY (lvF e r t S) l B' ∧ zFr 0 0 xra B B'
  | 0, t, B, S, l, ht, h => by
    refine ⟨B, ?_, h, zFr_refl _ _⟩
    rw [L_Q_does_104, nL_8, z_le_T (by omega) (by omega), cond_true]
  | r + 1, t, B, S, l, ht, h => by
    rw [L_Q_does_104, nL_8, z_le_F (by omega) (by omega), cond_false, z_ix_T (by omega) (by omega), cond_true, cond_true, cond_true, zn_N (by omega), zn_1, lt_eqI, toI_0, ne_eqD, z_wI_id]
    unfold lvF
    by_cases g : lvP e t
    · rw [pif_T g]
      obtain ⟨B', q1, q2, q3⟩ := L_rlv d (e := e) (l1 := l1) r (t + 1) _ _ l (by omega) (r_lv1 (t := t) h (by omega) (e &&& 4095))
      refine ⟨B', ?_, q2, x_tr (zFr_wI (X := xra) (Or.inr ⟨by omega, by omega⟩)) q3⟩
      by_cases g1 : e.toInt < 0
      · rw [decide_eq_true g1, cond_true]; exact q1
      · have g2 := g.resolve_left g1
        rw [decide_eq_false g1, cond_false, decide_eq_false (fun q => q g2.symm), cond_false]; exact q1
    · rw [pif_F g]
      have g1 : ¬ e.toInt < 0 := fun q => g (Or.inl q)
      have g2 : zn t ≠ (e >>> ((12 : Int32) &&& 31)) &&& 7 := fun q => g (Or.inr q.symm)
      rw [decide_eq_false g1, cond_false, decide_eq_true g2, cond_true]
      exact L_rlv d r (t + 1) B S l (by omega) h
theorem r_st1 {S : yR} {l : yL} {B : zM} {c : Nat} {x v : Int32} (h : rY S l B) (hx : ∀ u, u < 16 → bI (btF x u) = if u = c then v else bI (btF (yG S 8) u)) : rY (uG S 8 x) l (z_wI B 45 c v) := by
  have f : zFr 0 0 xra B (z_wI B 45 c v) := zFr_wI (X := xra) (Or.inr ⟨by omega, by omega⟩)
  obtain ⟨q1, q2⟩ := rBL_g (S' := uG S 8 x) h f (fun j hj => by rw [yG_uG, up_o (by omega)]) rfl rfl
  obtain ⟨a, b, cc, le, d1, d2, d3⟩ := h.2.2
  refine ⟨q1, q2, ⟨?_, fun u hu => ?_, fun u hu => ?_, fun u hu => ?_, ?_, ?_, ?_⟩⟩
  · rw [yG_uG]; simp (disch := omega) only [zI_wI_a, up_o]; exact a
  · rw [yG_uG, up_o (by omega), zI_wI_a (by omega)]; exact b u hu
  · rw [yG_uG, up_s, hx u hu]
    by_cases e : u = c
    · subst e; rw [zI_wI_s, if_pos rfl]
    · rw [zI_wI_k e, if_neg e]; exact cc u hu
  · rw [yG_uG, up_o (by omega), zI_wI_a (by omega)]; exact le u hu
  · rw [yG_uG, up_o (by omega), zI_wI_a (by omega)]; exact d1
  · rw [yG_uG, up_o (by omega), zI_wI_a (by omega)]; exact d2
  · rw [yG_uG]; simp (disch := omega) only [zI_wI_a, up_o]; exact d3
theorem r_stops (d : Nat) {e : Int32} {S : yR} {l : yL} {B : zM} (h : rY S l B) : ∃ B', (z_bI (z_den zQ (d + 1) mQ_within [.int e, .int 65, .int 80] B) (fun x1 M2 => bif z_eq x1 0 then (z_bI (z_den zQ (d + 1) mQ_within [.int e, .int 97, .int 112] M2) (fun x3 M4 => bif z_eq x3 0 then (some (none, M4)) else (bif z_ix (e - 97) 16 then some (none, z_wI M4 45 (Int32.toNatClampNeg (e - 97)) 0) else none))) else (bif z_ix (e - 65) 16 then some (none, z_wI M2 45 (Int32.toNatClampNeg (e - 65)) 1) else none)) : zR) = some (none, B') ∧ rY (stF S e) l B' ∧ zFr 0 0 xra B B' := by
  have i65 : (65 : Int32).toInt = 65 := rfl
  have i80 : (80 : Int32).toInt = 80 := rfl
  have i97 : (97 : Int32).toInt = 97 := rfl
  have i112 : (112 : Int32).toInt = 112 := rfl
  have sub : ∀ (k : Nat), k ≤ 112 → (k : Int) ≤ e.toInt → e.toInt ≤ k + 15 → ∃ c, c < 16 ∧ e - zn k = zn c := by
    intro k hk h1 h2
    obtain ⟨n, hn, rfl⟩ := zn_ex (show 0 ≤ e.toInt by omega)
    rw [zn_toInt hn] at h1 h2
    exact ⟨n - k, by omega, zn_sub (by omega)⟩
  unfold stF
  by_cases g1 : 65 ≤ e.toInt ∧ e.toInt ≤ 80
  · rw [pif_T g1, Q_wiT (by rw [i65, i80]; exact g1), z_bI_some, z_eq_10, cond_false]
    obtain ⟨c, hc, ec⟩ := sub 65 (by omega) (by omega) (by omega)
    rw [nL_65, ec, z_ix_T hc (by omega), cond_true, zn_N (by omega)]
    refine ⟨_, rfl, r_st1 h (fun u hu => ?_), zFr_wI (X := xra) (Or.inr ⟨by omega, by omega⟩)⟩
    rw [bt_or, bt_1 (by omega) (by omega)]
    by_cases q : u = c
    · rw [if_pos q, decide_eq_true q, Bool.or_true, bI_T, nL_1]
    · rw [if_neg q, decide_eq_false q, Bool.or_false]
  rw [pif_F g1, Q_wiF (by rw [i65, i80]; exact g1), z_bI_some, z_eq_00, cond_true]
  by_cases g2 : 97 ≤ e.toInt ∧ e.toInt ≤ 112
  · rw [pif_T g2, Q_wiT (by rw [i97, i112]; exact g2), z_bI_some, z_eq_10, cond_false]
    obtain ⟨c, hc, ec⟩ := sub 97 (by omega) (by omega) (by omega)
    rw [nL_97, ec, z_ix_T hc (by omega), cond_true, zn_N (by omega)]
    refine ⟨_, rfl, r_st1 h (fun u hu => ?_), zFr_wI (X := xra) (Or.inr ⟨by omega, by omega⟩)⟩
    rw [bt_and, bt_xor, bt_m1 (by omega), bt_1 (by omega) (by omega)]
    by_cases q : u = c
    · rw [if_pos q, decide_eq_true q, Bool.xor_self, Bool.and_false, bI_F, nL_0]
    · rw [if_neg q, decide_eq_false q, Bool.false_xor, Bool.and_true]
  · rw [pif_F g2, Q_wiF (by rw [i97, i112]; exact g2), z_bI_some, z_eq_00, cond_true]
    exact ⟨B, rfl, h, zFr_refl _ _⟩
theorem r_tempo (d : Nat) {x y : Int32} {S : yR} {l : yL} {B : zM} (h : rY S l B) : ∃ B', z_den zQ (d + 1) mQ_tempoTo [.ref 15, .int x, .int y] B = some (none, B') ∧ rY (tpF S x y) l B' ∧ zFr 0 0 xra B B' := by
  rw [B_Q_tempoTo, ne_eqD, ne_eqD]
  unfold tpF
  by_cases g : x = 0
  · rw [pif_T g, decide_eq_false (fun q => q g), cond_false]
    exact ⟨B, rfl, h, zFr_refl _ _⟩
  rw [pif_F g, decide_eq_true (p := x ≠ 0) g, cond_true]
  obtain ⟨⟨a1, a2, a3, a4, a5, a6⟩, b, c, le, d1, d2, d3⟩ := h.2.2
  have t1 : ∀ j, yG (tp1 S x y) j = up (up (up (up (yG S) 11 y) 12 0) 9 (yG S 0)) 10 x j := fun j => rfl
  by_cases g2 : y = 0
  · rw [pif_T g2, decide_eq_false (fun q => q g2), cond_false]
    have f : zFr 0 0 xra B (z_wI (z_wI (z_wI B 15 41 x) 15 44 0) 15 45 0) := zF_w (zF_w (zF_w (zFr_refl _ _) (Or.inl ⟨rfl, by omega⟩) _) (Or.inl ⟨rfl, by omega⟩) _) (Or.inl ⟨rfl, by omega⟩) _
    have t2 : ∀ j, yG (uG (tp1 S x y) 0 x) j = up (up (up (up (up (yG S) 11 y) 12 0) 9 (yG S 0)) 10 x) 0 x j := fun j => rfl
    obtain ⟨q1, q2⟩ := rBL_g (S' := uG (tp1 S x y) 0 x) h f (fun j hj => by rw [t2]; simp (disch := omega) only [up_o]) rfl rfl
    refine ⟨_, rfl, ⟨q1, q2, ⟨⟨?_, ?_, ?_, ?_, ?_, ?_⟩, fun u hu => ?_, fun u hu => ?_, fun u hu => ?_, ?_, ?_, fun hh => ?_⟩⟩, f⟩
    · rw [t2, up_s, zI_wI_k (by omega), zI_wI_k (by omega), zI_wI_s]
    · rw [t2]; simp (disch := omega) only [up_o, zI_wI_k]; exact a2
    · rw [t2]; simp (disch := omega) only [up_o, zI_wI_k]; exact a3
    · rw [t2]; simp (disch := omega) only [up_o, zI_wI_k]; exact a4
    · rw [t2]; simp (disch := omega) only [up_o, zI_wI_k]; exact a5
    · rw [t2]; simp (disch := omega) only [up_o, zI_wI_k]; exact a6
    · rw [t2]; simp (disch := omega) only [up_o, zI_wI_a]; exact b u hu
    · rw [t2]; simp (disch := omega) only [up_o, zI_wI_a]; exact c u hu
    · rw [t2]; simp (disch := omega) only [up_o, zI_wI_a]; exact le u hu
    · rw [t2, up_o (by omega), up_o (by omega), up_o (by omega), up_o (by omega), up_s, zI_wI_k (by omega), zI_wI_s]; exact g2.symm
    · rw [t2, up_o (by omega), up_o (by omega), up_o (by omega), up_s, zI_wI_s]
    · rw [t2, t2] at hh
      rw [up_o (by omega : 12 ≠ 0), up_o (by omega : 12 ≠ 10), up_o (by omega : 12 ≠ 9), up_s, up_o (by omega : 11 ≠ 0), up_o (by omega : 11 ≠ 10), up_o (by omega : 11 ≠ 9), up_o (by omega : 11 ≠ 12), up_s, g2] at hh
      exact absurd hh (Int.lt_irrefl _)
  · rw [pif_F g2, decide_eq_true (p := y ≠ 0) g2, cond_true]
    have f : zFr 0 0 xra B (z_wI (z_wI (z_wI (z_wI B 15 42 (zI B 15 41)) 15 43 x) 15 44 y) 15 45 0) := zF_w (zF_w (zF_w (zF_w (zFr_refl _ _) (Or.inl ⟨rfl, by omega⟩) _) (Or.inl ⟨rfl, by omega⟩) _) (Or.inl ⟨rfl, by omega⟩) _) (Or.inl ⟨rfl, by omega⟩) _
    obtain ⟨q1, q2⟩ := rBL_g (S' := tp1 S x y) h f (fun j hj => by rw [t1]; simp (disch := omega) only [up_o]) rfl rfl
    refine ⟨_, rfl, ⟨q1, q2, ⟨⟨?_, ?_, ?_, ?_, ?_, ?_⟩, fun u hu => ?_, fun u hu => ?_, fun u hu => ?_, ?_, ?_, fun hh => ?_⟩⟩, f⟩
    · rw [t1]; simp (disch := omega) only [up_o, zI_wI_k]; exact a1
    · rw [t1]; simp (disch := omega) only [up_o, zI_wI_k]; exact a2
    · rw [t1]; simp (disch := omega) only [up_o, zI_wI_k]; exact a3
    · rw [t1]; simp (disch := omega) only [up_o, zI_wI_k]; exact a4
    · rw [t1]; simp (disch := omega) only [up_o, zI_wI_k]; exact a5
    · rw [t1]; simp (disch := omega) only [up_o, zI_wI_k]; exact a6
    · rw [t1]; simp (disch := omega) only [up_o, zI_wI_a]; exact b u hu
    · rw [t1]; simp (disch := omega) only [up_o, zI_wI_a]; exact c u hu
    · rw [t1]; simp (disch := omega) only [up_o, zI_wI_a]; exact le u hu
    · rw [t1, up_o (by omega), up_o (by omega), up_o (by omega), up_s, zI_wI_k (by omega), zI_wI_s]
    · rw [t1, up_o (by omega), up_o (by omega), up_s, zI_wI_s]
    · rw [t1, t1, up_o (by omega : 9 ≠ 10), up_s, up_s]
      refine ⟨?_, ?_⟩
      · rw [zI_wI_k (by omega), zI_wI_k (by omega), zI_wI_k (by omega), zI_wI_s]; exact a1
      · rw [zI_wI_k (by omega), zI_wI_k (by omega), zI_wI_s]
