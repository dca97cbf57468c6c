/-! S LEVEL: CHESTS: chest. -/
noncomputable def adH (H : zH) (k n : Nat) : zH := (chN H + 1, (fun c => if c = chN H then k else chK H c), (fun c => if c = chN H + 1 then chF H (chN H) + n else chF H c), (fun p => if chF H (chN H) ≤ p ∧ p < chF H (chN H) + n then -1 else chP H p), chW H, chI H)
theorem chN_ad (H : zH) (k n : Nat) : chN (adH H k n) = chN H + 1 := rfl
theorem chK_ad (H : zH) (k n c : Nat) : chK (adH H k n) c = if c = chN H then k else chK H c := rfl
theorem chF_ad (H : zH) (k n c : Nat) : chF (adH H k n) c = if c = chN H + 1 then chF H (chN H) + n else chF H c := rfl
theorem chP_ad (H : zH) (k n p : Nat) : chP (adH H k n) p = if chF H (chN H) ≤ p ∧ p < chF H (chN H) + n then -1 else chP H p := rfl
theorem chF_adN (H : zH) (k n : Nat) : chF (adH H k n) (chN (adH H k n)) = chF H (chN H) + n := by rw [chN_ad, chF_ad, if_pos rfl]
theorem w_adH {n : Nat} {H : zH} (w : wH n H) {k m : Nat} (h1 : k ≤ 7) (h2 : chF H (chN H) + m ≤ 200) (h3 : chN H < 16) : wH n (adH H k m) := by
  obtain ⟨w1, w2, w3, w4, w5, w6, w7⟩ := w
  refine ⟨by rw [chN_ad]; omega, by rw [chF_ad, if_neg (by omega)]; exact w2, fun c hc => ?_, by rw [chF_adN]; exact h2, fun c hc => ?_, fun p hp => ?_, fun t ht => ?_⟩
  · rw [chN_ad] at hc
    rw [chF_ad, chF_ad, if_neg (by omega)]
    by_cases e : c = chN H
    · subst e; rw [if_pos rfl]; omega
    · rw [if_neg (by omega)]; exact w3 c (by omega)
  · rw [chN_ad] at hc
    rw [chK_ad]
    by_cases e : c = chN H
    · rw [if_pos e]; exact h1
    · rw [if_neg e]; exact w5 c (by omega)
  · rw [chF_adN] at hp
    rw [chP_ad]
    by_cases e : chF H (chN H) ≤ p ∧ p < chF H (chN H) + m
    · rw [if_pos e]; exact Or.inl rfl
    · rw [if_neg e]; exact w6 p (by omega)
  · rcases w7 t ht with e | ⟨c, hc, e⟩
    · exact Or.inl e
    · exact Or.inr ⟨c, by rw [chN_ad]; omega, e⟩
noncomputable def oChe (pl : Bool) (H : zH) (k n : Int32) : Int32 × Int32 × zH := pif (0 ≤ k.toInt ∧ k.toInt ≤ 7) (if pl = true then (-3, -3, H) else pif (chN H = 16 ∨ n.toInt > 200 - (chF H (chN H) : Int)) (-2, -2, H) (pif (n.toInt < 0) (-13, 3, H) (zn (chN H), 0, adH H k.toNatClampNeg n.toNatClampNeg))) (-1, -1, H)
theorem L_adc (d : Nat) (k n c s : Nat) (hs : s + n ≤ 200) : ∀ (r at' : Nat) (A : zM), at' + r = s + n → s ≤ at' →
    z_denF zQ (d + 1) mO_addChest (61, [some (.ref 3), some (.int (zn k)), some (.int (zn n)), some (.int (zn c)), some (.int (zn s)), some (.int (zn at'))], [], A) = some (some (.int (zn c)), z_wI (z_put A 7 at' r (fun _ => -1)) 3 11 (zI A 3 11 + 1))
  | 0, at', A, h1, h2 => by
    rw [L_O_addChest_61, zn_add, z_le_T (by omega) (by omega), cond_true, z_put_0]
  | r + 1, at', A, h1, h2 => by
    rw [L_O_addChest_61, zn_add, z_le_F (by omega) (by omega), cond_false, z_ix_T (by omega) (by omega), cond_true, zn_1, zn_N (by omega), L_adc d k n c s hs r (at' + 1) _ (by omega) (by omega), z_put_lo (g := fun _ => -1), zI_wI_a (by omega)]
theorem c_adH {H : zH} {A : zM} (h : cH H A) (h3 : chN H < 16) (k m : Nat) : cH (adH H k m) (z_wI (z_put (z_wI (z_wI A 5 (chN H) (zn k)) 6 (chN H + 1) (zn (chF H (chN H) + m))) 7 (chF H (chN H)) m (fun _ => -1)) 3 11 (zn (chN H + 1))) := by
  obtain ⟨h1, h2, h3, h4, h5⟩ := h
  refine ⟨by rw [zI_wI_s, chN_ad], fun c hc => ?_, fun c hc => ?_, fun p hp => ?_, fun t ht => ?_⟩
  · rw [zI_wI_a (by omega), zI_put_a (by omega), zI_wI_a (by omega), chK_ad]
    rw [chN_ad] at hc
    by_cases e : c = chN H
    · subst e; rw [zI_wI_s, if_pos rfl]
    · rw [if_neg e, zI_wI_k e]; exact h2 c (by omega)
  · rw [chN_ad] at hc
    rw [zI_wI_a (by omega), zI_put_a (by omega), chF_ad]
    by_cases e : c = chN H + 1
    · subst e; rw [zI_wI_s, if_pos rfl]
    · rw [if_neg e, zI_wI_k e, zI_wI_a (by omega)]; exact h3 c (by omega)
  · rw [chF_adN] at hp
    rw [zI_wI_a (by omega), zI_put_s, chP_ad]
    by_cases e : chF H (chN H) ≤ p ∧ p < chF H (chN H) + m
    · rw [if_pos e, if_pos e]
    · rw [if_neg e, if_neg e, zI_wI_a (by omega), zI_wI_a (by omega)]; exact h4 p (by omega)
  · rw [zI_wI_a (by omega), zI_put_a (by omega), zI_wI_a (by omega), zI_wI_a (by omega), zI_wI_a (by omega), zI_put_a (by omega), zI_wI_a (by omega), zI_wI_a (by omega)]; exact h5 t ht
theorem P_chest (d : Nat) {n : Nat} {pl : Bool} {H : zH} {A : zM} {k x : Int32} (w : wH n H) (h : cH H A) (hp : zI A 3 15 = bI pl) : cResH A (oChe pl H k x) (z_den zQ (d + 4) mP_chest [.ref 1, .int k, .int x] A) := by
  have w1 := w.1
  have w4 := w.2.2.2.1
  unfold oChe
  rw [B_P_chest, hp, bI_eq0]
  rcases zn_cases k with hk | ⟨m, hm, rfl⟩
  · rw [pif_F (fun q => by omega), lt_0T hk, cond_true, B_P_refuse, z_bI_some]; exact cRH_st h _ _
  rw [zn_toInt hm, zn_N hm]
  have e0 : z_lt (zn m) 0 = false := by rw [nL_0]; exact z_lt_F (by omega) (by omega)
  rw [e0, cond_false]
  by_cases g : m ≤ 7
  · have e7 : z_le (zn m) 7 = true := by rw [nL_7]; exact z_le_T (by omega) (by omega)
    rw [pif_T ⟨by omega, by omega⟩, e7, cond_true]
    cases pl
    · rw [if_neg (by decide), show (!false) = true from rfl, cond_true, h.1]
      by_cases g16 : chN H = 16
      · have e16 : z_le (16 : Int32) (zn (chN H)) = true := by rw [nL_16]; exact z_le_T (by omega) (by omega)
        rw [pif_T (Or.inl g16), e16, cond_true, B_P_refuse, z_bI_some]; exact cRH_st h _ _
      have e16 : z_le (16 : Int32) (zn (chN H)) = false := by rw [nL_16]; exact z_le_F (by omega) (by omega)
      rw [e16, cond_false, c_placeC _ w h, z_bI_some, nL_200, zn_sub w4]
      rcases zn_cases x with hx | ⟨y, hy, rfl⟩
      · rw [pif_F (fun q => by omega), pif_T hx, z_le_m hx (by omega), cond_true, show z_le (0 : Int32) x = false by rw [nL_0]; exact z_le_m2 hx (by omega), cond_false, B_P_found, z_bI_some]
        exact cRH_st h _ _
      · rw [zn_toInt hy, zn_N hy]
        by_cases gy : y ≤ 200 - chF H (chN H)
        · rw [pif_F (fun q => by omega), pif_F (fun q => by omega), z_le_T gy (by omega), cond_true, show z_le (0 : Int32) (zn y) = true by rw [nL_0]; exact z_le_T (by omega) (by omega), cond_true, B_O_addChest, c_placeC _ w h, z_bI_some, h.1]
          have e1 : z_lt (zn (chN H)) 0 = false := by rw [nL_0]; exact z_lt_F (by omega) (by omega)
          have e2 : z_lt (zn y) 0 = false := by rw [nL_0]; exact z_lt_F (by omega) (by omega)
          rw [e1, cond_false, e16, cond_false, e2, cond_false, nL_200, zn_sub w4, z_le_T gy (by omega), cond_true, zn_1, z_ix_T (by omega) (by omega), cond_true, z_ix_T (by omega) (by omega), cond_true, zn_N (by omega), zn_N (by omega), zn_add, L_adc _ m y (chN H) (chF H (chN H)) (by omega) y _ _ rfl (Nat.le_refl _), z_bI_some, B_P_done, z_bI_some, zI_wI_a (by omega), zI_wI_a (by omega), h.1, zn_1]
          refine cRH_to (c_adH h (by omega) m y) ?_ _ _
          have f1 : zFr 0 0 xcH A (z_wI A 5 (chN H) (zn m)) := zFr_wI (X := xcH) (Or.inr (Or.inr ⟨by omega, by omega⟩))
          refine zFr_trans (zFr_trans (zFr_trans f1 (zFr_wI (X := xcH) (Or.inr (Or.inr ⟨by omega, by omega⟩))) (fun _ _ _ e => e)) (zFr_put (X := xcH) (fun _ _ _ => Or.inr (Or.inr ⟨by omega, by omega⟩))) (fun _ _ _ e => e)) (zFr_wI (X := xcH) (Or.inr (Or.inl ⟨rfl, rfl⟩))) (fun _ _ _ e => e)
        · rw [pif_T (Or.inr (by omega)), z_le_F (by omega) (by omega), cond_false, B_P_refuse, z_bI_some]
          exact cRH_st h _ _
    · rw [if_pos rfl, show (!true) = false from rfl, cond_false, B_P_refuse, z_bI_some]; exact cRH_st h _ _
  · have e7 : z_le (zn m) 7 = false := by rw [nL_7]; exact z_le_F (by omega) (by omega)
    rw [pif_F (fun q => by omega), e7, cond_false, B_P_refuse, z_bI_some]; exact cRH_st h _ _
theorem L_qc (d : Nat) (k n s : Nat) (hs : s + n ≤ 200) : ∀ (r i : Nat) (B : zM), i + r = n → zI B 15 27 = zn s →
    z_denF zQ (d + 1 + 1) mQ_chest (103, [some (.ref 15), some (.int (zn k)), some (.int (zn n)), some (.int (zn i))], [], B) = some (some (.int (zI B 15 23 + 1 - 1)), z_wI (z_wI (z_wI (z_put B 36 (s + i) r (fun _ => -4)) 15 27 (zn (s + n))) 15 23 (zI B 15 23 + 1)) 15 0 0)
  | 0, i, B, h1, h2 => by
    rw [L_Q_chest_103, z_le_T (by omega) (by omega), cond_true, z_put_0, h2, zn_add, B_Q_well, z_bI_some]
    simp only [zI_wI_s]
    rw [zI_wI_k (by omega)]
  | r + 1, i, B, h1, h2 => by
    rw [L_Q_chest_103, z_le_F (by omega) (by omega), cond_false, h2, zn_add, z_ix_T (by omega) (by omega), cond_true, nL_1, zn_add, zn_N (by omega), L_qc d k n s hs r (i + 1) _ (by omega) (by rw [zI_wI_a (by omega)]; exact h2), show s + (i + 1) = s + i + 1 by omega, z_put_lo (g := fun _ => -4), zI_wI_a (by omega), nL_1]
theorem r_adH {n : Nat} {H : zH} {B : zM} (w : wH n H) (h : rH H B) (k m : Nat) : rH (adH H k m) (z_wI (z_wI (z_put (z_wI (z_wI (z_wI B 33 (chN H) (zn k)) 34 (chN H) (zn m)) 35 (chN H) (zn (chF H (chN H)))) 36 (chF H (chN H)) m (fun _ => -4)) 15 27 (zn (chF H (chN H) + m))) 15 23 (zn (chN H + 1))) := by
  obtain ⟨h1, h2, h3, h4, h5⟩ := h
  refine ⟨by rw [zI_wI_s, chN_ad], by rw [zI_wI_k (by omega), zI_wI_s, chF_adN], fun c hc => ?_, fun p hp => ?_, fun t ht => ?_⟩
  · rw [chN_ad] at hc
    simp (disch := omega) only [zI_wI_a, zI_put_a]
    rw [chK_ad, chF_ad, chF_ad, if_neg (by omega : ¬ c = chN H + 1)]
    by_cases e : c = chN H
    · subst e
      rw [if_pos rfl, if_pos rfl, zI_wI_s, zI_wI_s, zI_wI_s, Nat.add_sub_cancel_left]
      exact ⟨rfl, rfl, rfl⟩
    · rw [if_neg e, if_neg (by omega), zI_wI_k e, zI_wI_k e]; simp (disch := omega) only [zI_wI_k]; exact h3 c (by omega)
  · rw [chF_adN] at hp
    rw [zI_wI_a (by omega), zI_wI_a (by omega), zI_put_s, chP_ad]
    by_cases e : chF H (chN H) ≤ p ∧ p < chF H (chN H) + m
    · rw [if_pos e, if_pos e]; unfold hQ; rw [pif_T rfl]
    · rw [if_neg e, if_neg e, zI_wI_a (by omega), zI_wI_a (by omega), zI_wI_a (by omega)]; exact h4 p (by omega)
  · simp (disch := omega) only [zI_wI_a, zI_put_a]; exact h5 t ht
theorem Q_chest (d : Nat) {n : Nat} {pl : Bool} {H : zH} {B : zM} {k x : Int32} (w : wH n H) (h : rH H B) (hp : zI B 15 36 = bI pl) : rResH B (oChe pl H k x) (z_den zQ (d + 2) mQ_chest [.ref 15, .int k, .int x] B) := by
  have w1 := w.1
  have w4 := w.2.2.2.1
  unfold oChe
  rw [B_Q_chest]
  by_cases g : 0 ≤ k.toInt ∧ k.toInt ≤ 7
  · rw [pif_T g, Q_wiT (by rw [toI_0, toI_7]; exact g), z_bI_some, z_ne_n0 (by omega) (by omega), cond_true, hp, bI_eq0]
    cases pl
    · rw [if_neg (by decide), show (!false) = true from rfl, cond_true, h.1, h.2.1]
      by_cases g16 : chN H = 16
      · rw [pif_T (Or.inl g16), g16, nL_16, z_eq_T, cond_true, B_Q_no, z_bI_some]; exact rRH_st h _ _
      rw [nL_16, z_eq_F (by omega) (by omega) (by omega), cond_false, nL_200, zn_sub w4]
      rcases zn_cases x with hx | ⟨y, hy, rfl⟩
      · rw [pif_F (fun q => by omega), pif_T hx, z_le_m hx (by omega), cond_true, show z_le (0 : Int32) x = false by rw [nL_0]; exact z_le_m2 hx (by omega), cond_false, B_Q_finds, z_bI_some]
        exact rRH_st h _ _
      · rw [zn_toInt hy, zn_N hy]
        by_cases gy : y ≤ 200 - chF H (chN H)
        · obtain ⟨m, hm, rfl⟩ := zn_ex g.1
          rw [pif_F (fun q => by omega), pif_F (fun q => by omega), z_le_T gy (by omega), cond_true, show z_le (0 : Int32) (zn y) = true by rw [nL_0]; exact z_le_T (by omega) (by omega), cond_true, z_ix_T (by omega) (by omega), cond_true, cond_true, cond_true, zn_N (by omega), zn_N (by omega), nL_0, L_qc _ m y (chF H (chN H)) (by omega) y 0 _ (by omega) (by simp (disch := omega) only [zI_wI_a]; exact h.2.1)]
          simp (disch := omega) only [zI_wI_a]
          rw [h.1, nL_1, zn_add, zn_sub (by omega), Nat.add_sub_cancel, Nat.add_zero]
          rw [← nL_0]
          refine rRH_to (r_adH w h m y) ?_ _ _
          have f1 : zFr 0 0 xrH B (z_wI B 33 (chN H) (zn m)) := zFr_wI (X := xrH) (Or.inr ⟨by omega, by omega⟩)
          refine zFr_trans (zFr_trans (zFr_trans (zFr_trans (zFr_trans f1 (zFr_wI (X := xrH) (Or.inr ⟨by omega, by omega⟩)) (fun _ _ _ e => e)) (zFr_wI (X := xrH) (Or.inr ⟨by omega, by omega⟩)) (fun _ _ _ e => e)) (zFr_put (X := xrH) (fun _ _ _ => Or.inr ⟨by omega, by omega⟩)) (fun _ _ _ e => e)) (zFr_wI (X := xrH) (Or.inl ⟨rfl, Or.inr (Or.inr rfl)⟩)) (fun _ _ _ e => e)) (zFr_wI (X := xrH) (Or.inl ⟨rfl, Or.inr (Or.inl rfl)⟩)) (fun _ _ _ e => e)
        · rw [pif_T (Or.inr (by omega)), z_le_F (by omega) (by omega), cond_false, B_Q_no, z_bI_some]
          exact rRH_st h _ _
    · rw [if_pos rfl, show (!true) = false from rfl, cond_false, B_Q_no, z_bI_some]; exact rRH_st h _ _
  · rw [pif_F g, Q_wiF (by rw [toI_0, toI_7]; exact g), z_bI_some, show z_ne (zn 0) 0 = false by rw [nL_0]; exact z_ne_F _, cond_false, B_Q_no, z_bI_some]
    exact rRH_st h _ _
