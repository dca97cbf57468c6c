/-! S LEVEL: play: a roll begins, both sides. -/
def plG (g : Nat → Int32) : Nat → Int32 := fun j => if j = 4 then -4 else if j = 0 then 24 else if j = 8 then 65535 else if 15 ≤ j ∧ j < 23 then 1000 else if 83 ≤ j ∧ j < 203 then 0 else if j < 23 then 0 else g j
def plS (S : yR) : yR := (plG (yG S), yE S, yT S)
theorem L_bg1 (d a1 : Nat) : ∀ (n k : Nat) (M : zM), k + n = 23 → z_denF zQ (d + 1) mO_begin (2, [some (.ref 3), some (.ref a1), some (.int (zn k))], [], M) = z_denF zQ (d + 1) mO_begin (24, [some (.ref 3), some (.ref a1), some (.int 83)], [], z_put M 11 k n (fun _ => 0))
  | 0, k, M, h => by
    rw [L_O_begin_2, nL_23, z_le_T (by omega) (by omega), cond_true, z_put_0]
  | n + 1, k, M, h => by
    rw [L_O_begin_2, nL_23, z_le_F (by omega) (by omega), cond_false, z_ix_T (by omega) (by omega), cond_true, zn_1, zn_N (by omega), L_bg1 d a1 n (k + 1) _ (by omega), z_put_lo (g := fun _ => 0)]
theorem L_bg2 (d a1 : Nat) : ∀ (n k : Nat) (M : zM), k + n = 203 → z_denF zQ (d + 1) mO_begin (24, [some (.ref 3), some (.ref a1), some (.int (zn k))], [], M) = z_denF zQ (d + 1) mO_begin (46, [some (.ref 3), some (.ref a1), some (.int 0)], [], z_put M 11 k n (fun _ => 0))
  | 0, k, M, h => by
    rw [L_O_begin_24, nL_203, z_le_T (by omega) (by omega), cond_true, z_put_0]
  | n + 1, k, M, h => by
    rw [L_O_begin_24, nL_203, z_le_F (by omega) (by omega), cond_false, z_ix_T (by omega) (by omega), cond_true, zn_1, zn_N (by omega), L_bg2 d a1 n (k + 1) _ (by omega), z_put_lo (g := fun _ => 0)]
theorem L_bg3 (d a1 : Nat) : ∀ (n k : Nat) (M : zM), k + n = 8 → z_denF zQ (d + 1) mO_begin (46, [some (.ref 3), some (.ref a1), some (.int (zn k))], [], M) = z_denF zQ (d + 1) mO_begin (46, [some (.ref 3), some (.ref a1), some (.int (zn 8))], [], z_put M 11 (15 + k) n (fun _ => 1000))
  | 0, k, M, h => by rw [z_put_0, show k = 8 by omega]
  | n + 1, k, M, h => by
    have e : (15 : Int32) + zn k = zn (15 + k) := by rw [nL_15, zn_add]
    rw [L_O_begin_46, show z_le (8 : Int32) (zn k) = false by rw [nL_8]; exact z_le_F (by omega) (by omega), cond_false, e, z_ix_T (by omega) (by omega), cond_true, zn_1, zn_N (by omega), L_bg3 d a1 n (k + 1) _ (by omega), show 15 + (k + 1) = 15 + k + 1 by omega, z_put_lo (g := fun _ => 1000)]
/-- the row and the fields as a roll begins -/
noncomputable def bgM (M : zM) (a1 : Nat) : zM := z_wI (z_wI (z_wP (z_wI (z_wI (z_wI (z_put (z_put (z_put M 11 0 23 (fun _ => 0)) 11 83 120 (fun _ => 0)) 11 15 8 (fun _ => 1000)) 11 8 65535) 11 0 24) 11 4 (-4)) 3 16 a1) 3 15 1) 3 13 0
theorem bgM_11 (M : zM) (a1 j : Nat) : zI (bgM M a1) 11 j = plG (fun k => zI M 11 k) j := by
  unfold bgM plG
  rw [zI_wI_a (by omega), zI_wI_a (by omega), zI_wP]
  by_cases e4 : j = 4
  · rw [e4, zI_wI_s, if_pos rfl]
  rw [zI_wI_k e4, if_neg e4]
  by_cases e0 : j = 0
  · rw [e0, zI_wI_s, if_pos rfl]
  rw [zI_wI_k e0, if_neg e0]
  by_cases e8 : j = 8
  · rw [e8, zI_wI_s, if_pos rfl]
  rw [zI_wI_k e8, if_neg e8, zI_put_s]
  by_cases e15 : 15 ≤ j ∧ j < 23
  · rw [if_pos e15, if_pos (by omega)]
  rw [if_neg e15, if_neg (by omega), zI_put_s]
  by_cases e83 : 83 ≤ j ∧ j < 203
  · rw [if_pos e83, if_pos (by omega)]
  rw [if_neg e83, if_neg (by omega), zI_put_s]
  by_cases e23 : j < 23
  · rw [if_pos e23, if_pos (by omega)]
  · rw [if_neg e23, if_neg (by omega)]
theorem bgM_fr (M : zM) (a1 : Nat) : zFr 0 0 (fun a k => a = 11 ∨ (a = 3 ∧ (k = 13 ∨ k = 15 ∨ k = 16))) M (bgM M a1) := by
  unfold bgM
  have x : ∀ (M : zM) k v, zFr 0 0 (fun a k => a = 11 ∨ (a = 3 ∧ (k = 13 ∨ k = 15 ∨ k = 16))) M (z_wI M 11 k v) := fun M k v => zFr_wI (X := fun a k => a = 11 ∨ (a = 3 ∧ (k = 13 ∨ k = 15 ∨ k = 16))) (by omega)
  have y : ∀ (M : zM) lo n g, zFr 0 0 (fun a k => a = 11 ∨ (a = 3 ∧ (k = 13 ∨ k = 15 ∨ k = 16))) M (z_put M 11 lo n g) := fun M lo n g => zFr_put (X := fun a k => a = 11 ∨ (a = 3 ∧ (k = 13 ∨ k = 15 ∨ k = 16))) (fun _ _ _ => by omega)
  exact x_tr (x_tr (x_tr (x_tr (x_tr (x_tr (x_tr (x_tr (y _ _ _ _) (y _ _ _ _)) (y _ _ _ _)) (x _ _ _)) (x _ _ _)) (x _ _ _)) (zFr_wP (X := fun a k => a = 11 ∨ (a = 3 ∧ (k = 13 ∨ k = 15 ∨ k = 16))) (by omega))) (zFr_wI (X := fun a k => a = 11 ∨ (a = 3 ∧ (k = 13 ∨ k = 15 ∨ k = 16))) (by omega))) (zFr_wI (X := fun a k => a = 11 ∨ (a = 3 ∧ (k = 13 ∨ k = 15 ∨ k = 16))) (by omega))
theorem bgM_eq (d : Nat) (M : zM) (a1 : Nat) : z_den zQ (d + 1) mO_begin [.ref 3, .ref a1] M = z_bV (z_den zQ d mO_keep [.ref 3] (bgM M a1)) (fun M1 => some (none, M1)) := by
  have z8 : z_ix (8 : Int32) 523 = true := ix_L nL_8 (by omega) (by omega)
  have n8 : Int32.toNatClampNeg (8 : Int32) = 8 := by rw [nL_8]; exact zn_N (by omega)
  have z0 : z_ix (0 : Int32) 523 = true := ix_L nL_0 (by omega) (by omega)
  have n0 : Int32.toNatClampNeg (0 : Int32) = 0 := by rw [nL_0]; exact zn_N (by omega)
  have z4 : z_ix (4 : Int32) 523 = true := ix_L nL_4 (by omega) (by omega)
  have n4 : Int32.toNatClampNeg (4 : Int32) = 4 := by rw [nL_4]; exact zn_N (by omega)
  rw [B_O_begin, nL_0, L_bg1 d a1 23 0 M rfl, nL_83, L_bg2 d a1 120 83 _ rfl, nL_0, L_bg3 d a1 8 0 _ rfl, L_O_begin_46, show z_le (8 : Int32) (zn 8) = true by rw [nL_8]; exact z_le_T (Nat.le_refl _) (by omega), cond_true, z8, z4, ← nL_0, z0, cond_true, cond_true, cond_true, n8, n0, n4]
  rfl
/-! the reference -/
theorem L_pl1 (d : Nat) {l1 : Int32} : ∀ (n t : Nat) (B : zM), t + n = 8 → ∃ B', z_denF zQ (d + 1) mQ_play (40, [some (.ref 15), some (.int l1), some (.int (zn t))], [], B) = z_denF zQ (d + 1) mQ_play (70, [some (.ref 15), some (.int l1), some (.int 0)], [], B') ∧ (∀ u, t ≤ u → u < 8 → zI B' 43 u = 0 ∧ zI B' 44 u = 1000) ∧ zFr 0 0 (fun a k => (a = 43 ∨ a = 44) ∧ t ≤ k) B B'
  | 0, t, B, h => by
    refine ⟨B, ?_, fun u a b => by omega, zFr_refl _ _⟩
    rw [L_Q_play_40, nL_8, z_le_T (by omega) (by omega), cond_true]
  | n + 1, t, B, h => by
    obtain ⟨B', q1, q2, q3⟩ := L_pl1 d (l1 := l1) n (t + 1) (z_wI (z_wI B 43 t 0) 44 t 1000) (by omega)
    have hn1 := z_new_ge (z_wI (z_wI B 43 t 0) 44 t 1000)
    refine ⟨B', ?_, fun u u1 u2 => ?_, ?_⟩
    · rw [← q1, L_Q_play_40, nL_8, z_le_F (by omega) (by omega), cond_false, z_ix_T (by omega) (by omega), cond_true, cond_true, zn_N (by omega), zn_1]
    · by_cases e : u = t
      · subst e
        rw [zFr_I q3 _ (by omega) (fun q => by omega), zFr_I q3 _ (by omega) (fun q => by omega), zI_wI_a (by omega), zI_wI_s, zI_wI_s]
        exact ⟨rfl, rfl⟩
      · exact q2 u (by omega) u2
    · exact zFr_trans (x_tr (zFr_wI (X := fun a k => (a = 43 ∨ a = 44) ∧ t ≤ k) ⟨by omega, Nat.le_refl _⟩) (zFr_wI (X := fun a k => (a = 43 ∨ a = 44) ∧ t ≤ k) ⟨by omega, Nat.le_refl _⟩)) q3 (fun a k _ e => by omega)
noncomputable def pl11 (B : zM) : zM := z_wI (z_wI (z_wI (z_wI (z_wI (z_wI (z_wI (z_wI (z_wI (z_wI (z_wI B 15 41 24) 15 44 0) 15 45 0) 15 46 0) 15 47 0) 15 48 0) 15 58 0) 15 49 (-4)) 15 50 0) 15 51 0) 15 52 0
theorem pl11_fr (B : zM) : zFr 0 0 xb13 B (pl11 B) := by
  have x : ∀ (M : zM) k v, (41 ≤ k ∧ k ≤ 52) ∨ k = 58 → zFr 0 0 xb13 M (z_wI M 15 k v) := fun M k v h1 => zFr_wI (X := xb13) ⟨rfl, h1⟩
  unfold pl11
  exact x_tr (x_tr (x_tr (x_tr (x_tr (x_tr (x_tr (x_tr (x_tr (x_tr (x _ _ _ (by omega)) (x _ _ _ (by omega))) (x _ _ _ (by omega))) (x _ _ _ (by omega))) (x _ _ _ (by omega))) (x _ _ _ (by omega))) (x _ _ _ (by omega))) (x _ _ _ (by omega))) (x _ _ _ (by omega))) (x _ _ _ (by omega))) (x _ _ _ (by omega))
theorem L_pl2 (d : Nat) {l1 : Int32} : ∀ (n t : Nat) (B : zM), t + n = 16 → ∃ B1, z_denF zQ (d + 1) mQ_play (70, [some (.ref 15), some (.int l1), some (.int (zn t))], [], B) = z_denF zQ (d + 1) mQ_play (148, [some (.ref 15), some (.int l1), some (.int 0)], [], pl11 B1) ∧ (∀ u, t ≤ u → u < 16 → zI B1 45 u = 1) ∧ zFr 0 0 (fun a k => a = 45 ∧ t ≤ k) B B1
  | 0, t, B, h => by
    refine ⟨B, ?_, fun u a b => by omega, zFr_refl _ _⟩
    rw [L_Q_play_70, show z_le (16 : Int32) (zn t) = true by rw [nL_16]; exact z_le_T (by omega) (by omega), cond_true]
    rfl
  | n + 1, t, B, h => by
    obtain ⟨B', q1, q2, q3⟩ := L_pl2 d (l1 := l1) n (t + 1) (z_wI B 45 t 1) (by omega)
    have hn1 := z_new_ge (z_wI B 45 t 1)
    refine ⟨B', ?_, fun u u1 u2 => ?_, ?_⟩
    · rw [← q1, L_Q_play_70, show z_le (16 : Int32) (zn t) = false by rw [nL_16]; exact z_le_F (by omega) (by omega), cond_false, z_ix_T (by omega) (by omega), cond_true, zn_N (by omega), zn_1]
    · by_cases e : u = t
      · subst e
        rw [zFr_I q3 _ (by omega) (fun q => by omega), zI_wI_s]
      · exact q2 u (by omega) u2
    · exact zFr_trans (zFr_wI (X := fun a k => a = 45 ∧ t ≤ k) ⟨rfl, Nat.le_refl _⟩) q3 (fun a k _ e => by omega)
theorem L_pl3 (d : Nat) {l1 : Int32} : ∀ (n t : Nat) (B : zM), t + n = 60 → ∃ B', z_denF zQ (d + 1) mQ_play (148, [some (.ref 15), some (.int l1), some (.int (zn t))], [], B) = z_denF zQ (d + 1) mQ_play (148, [some (.ref 15), some (.int l1), some (.int (zn 60))], [], B') ∧ (∀ u, t ≤ u → u < 60 → zI B' 49 u = 0 ∧ zI B' 50 u = 0) ∧ zFr 0 0 (fun a k => (a = 49 ∨ a = 50) ∧ t ≤ k) B B'
  | 0, t, B, h => ⟨B, by rw [show t = 60 by omega], fun u a b => by omega, zFr_refl _ _⟩
  | n + 1, t, B, h => by
    obtain ⟨B', q1, q2, q3⟩ := L_pl3 d (l1 := l1) n (t + 1) (z_wI (z_wI B 49 t 0) 50 t 0) (by omega)
    have hn1 := z_new_ge (z_wI (z_wI B 49 t 0) 50 t 0)
    refine ⟨B', ?_, fun u u1 u2 => ?_, ?_⟩
    · rw [← q1, L_Q_play_148, show z_le (60 : Int32) (zn t) = false by rw [nL_60]; exact z_le_F (by omega) (by omega), cond_false, z_ix_T (by omega) (by omega), cond_true, cond_true, zn_N (by omega), zn_1]
    · by_cases e : u = t
      · subst e
        rw [zFr_I q3 _ (by omega) (fun q => by omega), zFr_I q3 _ (by omega) (fun q => by omega), zI_wI_a (by omega), zI_wI_s, zI_wI_s]
        exact ⟨rfl, rfl⟩
      · exact q2 u (by omega) u2
    · exact zFr_trans (x_tr (zFr_wI (X := fun a k => (a = 49 ∨ a = 50) ∧ t ≤ k) ⟨by omega, Nat.le_refl _⟩) (zFr_wI (X := fun a k => (a = 49 ∨ a = 50) ∧ t ≤ k) ⟨by omega, Nat.le_refl _⟩)) q3 (fun a k _ e => by omega)
theorem bt_ff : ∀ c, c < 32 → btF 65535 c = decide (c < 16) := by
  intro c hc
  rw [nL_65535, bt_zn hc, show (65535 : Nat) = 2 ^ 16 - 1 from rfl, Nat.testBit_two_pow_sub_one]
theorem plG_hi (g : Nat → Int32) {i : Nat} (h : i < 60) : plG g (23 + i) = g (23 + i) ∧ plG g (83 + i) = 0 ∧ plG g (143 + i) = 0 := by
  unfold plG
  refine ⟨?_, ?_, ?_⟩
  · rw [if_neg (by omega), if_neg (by omega), if_neg (by omega), if_neg (by omega), if_neg (by omega), if_neg (by omega)]
  · rw [if_neg (by omega), if_neg (by omega), if_neg (by omega), if_neg (by omega), if_pos (by omega)]
  · rw [if_neg (by omega), if_neg (by omega), if_neg (by omega), if_neg (by omega), if_pos (by omega)]
theorem plG_lv (g : Nat → Int32) {t : Nat} (h : t < 8) : plG g (15 + t) = 1000 := by
  unfold plG
  rw [if_neg (by omega), if_neg (by omega), if_neg (by omega), if_pos (by omega)]
theorem r_plY (d : Nat) {S : yR} {l : yL} {B : zM} {l1 : Int32} (h : rY S l B) : ∃ B', z_denF zQ (d + 1) mQ_play (40, [some (.ref 15), some (.int l1), some (.int 0)], [], B) = z_denF zQ (d + 1) mQ_play (148, [some (.ref 15), some (.int l1), some (.int (zn 60))], [], B') ∧ rY (plS S) [] B' ∧ zFr 0 0 xbe B B' := by
  have hn := z_new_ge B
  obtain ⟨B1, p1, p2, p3⟩ := L_pl1 d (l1 := l1) 8 0 B rfl
  have hn1 := z_new_ge B1
  obtain ⟨B2, q1, q2, q3⟩ := L_pl2 d (l1 := l1) 16 0 B1 rfl
  have hn2 := z_new_ge B2
  have f3 := pl11_fr B2
  have hn3 := z_new_ge (pl11 B2)
  obtain ⟨B4, s1, s2, s3⟩ := L_pl3 d (l1 := l1) 60 0 (pl11 B2) rfl
  have F : zFr 0 0 xbe B B4 := by
    have m1 : zFr 0 0 xbe B B1 := zFr_mono p3 (Nat.le_refl _) (Nat.le_refl _) (fun a k e => by unfold xbe; omega)
    have m2 : zFr 0 0 xbe B1 B2 := zFr_mono q3 (Nat.le_refl _) (Nat.le_refl _) (fun a k e => by unfold xbe; omega)
    have m3 : zFr 0 0 xbe B2 (pl11 B2) := zFr_mono f3 (Nat.le_refl _) (Nat.le_refl _) (fun a k e => by unfold xb13 at e; unfold xbe; omega)
    have m4 : zFr 0 0 xbe (pl11 B2) B4 := zFr_mono s3 (Nat.le_refl _) (Nat.le_refl _) (fun a k e => by unfold xbe; omega)
    exact x_tr (x_tr (x_tr m1 m2) m3) m4
  have e15 : ∀ k, zI B4 15 k = zI (pl11 B2) 15 k := fun k => zFr_I s3 _ (by omega) (fun e => by omega)
  obtain ⟨⟨k1, k2, k3, k4, k5⟩, -, -⟩ := h
  have e2 : ∀ a k, a = 43 ∨ a = 44 → zI B4 a k = zI B1 a k := fun a k ha => by
    rw [zFr_I s3 _ (by omega) (fun e => by omega), zFr_I f3 _ (by omega) (fun e => by unfold xb13 at e; omega), zFr_I q3 _ (by omega) (fun e => by omega)]
  refine ⟨B4, ?_, ⟨⟨?_, ?_, fun i hi => ?_, fun j hj => ?_, fun j hj => ?_⟩, ⟨?_, fun k hk => absurd hk (Nat.not_lt_zero _)⟩, ⟨?_, ?_, ?_, ?_, ?_, ?_⟩, fun t ht => ?_, fun c hc => ?_, fun t ht => ?_, ?_, ?_, fun hh => ?_⟩, F⟩
  · rw [nL_0, p1, nL_0, q1, nL_0, s1]
  · rw [e15]; unfold pl11; simp (disch := omega) only [zI_wI_k, zI_wI_s]; rfl
  · rw [e15]; unfold pl11; simp (disch := omega) only [zI_wI_k, zI_wI_s]; rfl
  · obtain ⟨x1, x2, x3⟩ := plG_hi (yG S) hi
    refine ⟨?_, ?_, ?_⟩
    · show _ = plG (yG S) (23 + i)
      rw [x1, zFr_I s3 _ (by omega) (fun e => by omega), zFr_I f3 _ (by omega) (fun e => by unfold xb13 at e; omega), zFr_I q3 _ (by omega) (fun e => by omega), zFr_I p3 _ (by omega) (fun e => by omega)]
      exact (k3 i hi).1
    · show _ = plG (yG S) (83 + i)
      rw [x2]; exact (s2 i (Nat.zero_le _) hi).1
    · show _ = plG (yG S) (143 + i)
      rw [x3]; exact (s2 i (Nat.zero_le _) hi).2
  · rw [zFr_I F _ (by omega) (fun e => by unfold xbe at e; omega)]; exact k4 j hj
  · rw [zFr_I F _ (by omega) (fun e => by unfold xbe at e; omega)]; exact k5 j hj
  · rw [e15]; unfold pl11; rw [zI_wI_s]; exact nL_0
  · rw [e15]; unfold pl11; simp (disch := omega) only [zI_wI_k, zI_wI_s]; rfl
  · rw [e15]; unfold pl11; simp (disch := omega) only [zI_wI_k, zI_wI_s]; rfl
  · rw [e15]; unfold pl11; simp (disch := omega) only [zI_wI_k, zI_wI_s]; rfl
  · rw [e15]; unfold pl11; simp (disch := omega) only [zI_wI_k, zI_wI_s]; rfl
  · rw [e15]; unfold pl11; simp (disch := omega) only [zI_wI_k, zI_wI_s]; rfl
  · rw [e15]; unfold pl11; simp (disch := omega) only [zI_wI_k, zI_wI_s]; rfl
  · rw [e2 _ _ (by omega), (p2 t (Nat.zero_le _) ht).1]
    show (0 : Int32) = bI (btF 0 t)
    rw [bt_0 (by omega), bI_F, nL_0]
  · rw [zFr_I s3 _ (by omega) (fun e => by omega), zFr_I f3 _ (by omega) (fun e => by unfold xb13 at e; omega), q2 c (Nat.zero_le _) hc]
    show (1 : Int32) = bI (btF 65535 c)
    rw [bt_ff c (by omega), decide_eq_true hc, bI_T, nL_1]
  · rw [e2 _ _ (by omega), (p2 t (Nat.zero_le _) ht).2]
    exact (plG_lv (yG S) ht).symm
  · rw [e15]; unfold pl11; simp (disch := omega) only [zI_wI_k, zI_wI_s]; rfl
  · rw [e15]; unfold pl11; simp (disch := omega) only [zI_wI_k, zI_wI_s]; rfl
  · exact absurd (show (0 : Int32).toInt < (0 : Int32).toInt from hh) (by rw [toI_0]; omega)
