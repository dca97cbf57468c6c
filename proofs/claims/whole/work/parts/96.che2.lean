/-! S LEVEL: CHESTS, PLACES, WIRES: the group of them. -/
abbrev zH := Nat × (Nat → Nat) × (Nat → Nat) × (Nat → Int32) × (Nat → Int32) × (Nat → Int32)
def chN (H : zH) : Nat := H.1
def chK (H : zH) : Nat → Nat := H.2.1
def chF (H : zH) : Nat → Nat := H.2.2.1
def chP (H : zH) : Nat → Int32 := H.2.2.2.1
def chW (H : zH) : Nat → Int32 := H.2.2.2.2.1
def chI (H : zH) : Nat → Int32 := H.2.2.2.2.2
def cH (H : zH) (A : zM) : Prop := zI A 3 11 = zn (chN H) ∧ (∀ c, c < chN H → zI A 5 c = zn (chK H c)) ∧ (∀ c, c ≤ chN H → zI A 6 c = zn (chF H c)) ∧ (∀ p, p < chF H (chN H) → zI A 7 p = chP H p) ∧ (∀ t, t < 8 → zI A 8 t = chW H t ∧ zI A 9 t = chI H t)
noncomputable def hQ (x : Int32) : Int32 := pif (x = -1) (-4) x
def rH (H : zH) (B : zM) : Prop := zI B 15 23 = zn (chN H) ∧ zI B 15 27 = zn (chF H (chN H)) ∧ (∀ c, c < chN H → zI B 33 c = zn (chK H c) ∧ zI B 34 c = zn (chF H (c + 1) - chF H c) ∧ zI B 35 c = zn (chF H c)) ∧ (∀ p, p < chF H (chN H) → zI B 36 p = hQ (chP H p)) ∧ (∀ t, t < 8 → zI B 37 t = chW H t + 1 ∧ zI B 38 t = chI H t)
def wH (n : Nat) (H : zH) : Prop := chN H ≤ 16 ∧ chF H 0 = 0 ∧ (∀ c, c < chN H → chF H c ≤ chF H (c + 1)) ∧ chF H (chN H) ≤ 200 ∧ (∀ c, c < chN H → chK H c ≤ 7) ∧ (∀ p, p < chF H (chN H) → chP H p = -1 ∨ ∃ i, i < n ∧ chP H p = zn i) ∧ (∀ t, t < 8 → chW H t = -1 ∨ ∃ c, c < chN H ∧ chW H t = zn c)
theorem chF_le {H : zH} {m : Nat} (w : ∀ c, c < m → chF H c ≤ chF H (c + 1)) : ∀ (r c : Nat), c + r ≤ m → chF H c ≤ chF H (c + r)
  | 0, c, _ => Nat.le_refl _
  | r + 1, c, h => Nat.le_trans (chF_le w r c (by omega)) (w (c + r) (by omega))
theorem chF_n {n : Nat} {H : zH} (w : wH n H) {c : Nat} (hc : c ≤ chN H) : chF H c ≤ chF H (chN H) := by
  have := chF_le w.2.2.1 (chN H - c) c (by omega)
  rwa [show c + (chN H - c) = chN H by omega] at this
theorem wH_mo {n n' : Nat} {H : zH} (w : wH n H) (h : n ≤ n') : wH n' H := by
  obtain ⟨w1, w2, w3, w4, w5, w6, w7⟩ := w
  refine ⟨w1, w2, w3, w4, w5, fun p hp => ?_, w7⟩
  rcases w6 p hp with e | ⟨i, hi, e⟩
  · exact Or.inl e
  · exact Or.inr ⟨i, by omega, e⟩
def xcH (a k : Nat) : Prop := (a = 1 ∧ k = 7) ∨ (a = 3 ∧ k = 11) ∨ (5 ≤ a ∧ a ≤ 9)
def xrH (a k : Nat) : Prop := (a = 15 ∧ (k = 0 ∨ k = 23 ∨ k = 27)) ∨ (33 ≤ a ∧ a ≤ 38)
def cResH (A : zM) (r : Int32 × Int32 × zH) (o : zR) : Prop := ∃ A', o = some (some (.int r.1), A') ∧ cH r.2.2 A' ∧ zI A' 1 7 = r.2.1 ∧ zFr 0 0 xcH A A'
def rResH (B : zM) (r : Int32 × Int32 × zH) (o : zR) : Prop := ∃ B', o = some (some (.int r.1), B') ∧ rH r.2.2 B' ∧ zI B' 15 0 = r.2.1 ∧ zFr 0 0 xrH B B'
theorem cH_fr {c s : Nat} {X : Nat → Nat → Prop} {H : zH} {A A' : zM} (f : zFr c s X A A') (h : cH H A) (x1 : ¬ X 3 11) (x2 : ∀ a k, 5 ≤ a → a ≤ 9 → ¬ X a k) : cH H A' := by
  obtain ⟨h1, h2, h3, h4, h5⟩ := h
  have g := z_new_ge A
  exact ⟨by rw [zFr_I f _ (by omega) x1]; exact h1, fun c hc => by rw [zFr_I f _ (by omega) (x2 _ _ (by omega) (by omega))]; exact h2 c hc, fun c hc => by rw [zFr_I f _ (by omega) (x2 _ _ (by omega) (by omega))]; exact h3 c hc, fun p hp => by rw [zFr_I f _ (by omega) (x2 _ _ (by omega) (by omega))]; exact h4 p hp, fun t ht => by rw [zFr_I f _ (by omega) (x2 _ _ (by omega) (by omega)), zFr_I f _ (by omega) (x2 _ _ (by omega) (by omega))]; exact h5 t ht⟩
theorem rH_fr {c s : Nat} {X : Nat → Nat → Prop} {H : zH} {A A' : zM} (f : zFr c s X A A') (h : rH H A) (x1 : ¬ X 15 23) (x3 : ¬ X 15 27) (x2 : ∀ a k, 33 ≤ a → a ≤ 38 → ¬ X a k) : rH H A' := by
  obtain ⟨h1, h2, h3, h4, h5⟩ := h
  have g := z_new_ge A
  have q : ∀ a k, 33 ≤ a → a ≤ 38 → zI A' a k = zI A a k := fun a k a1 a2 => zFr_I f _ (by omega) (x2 _ _ a1 a2)
  exact ⟨by rw [zFr_I f _ (by omega) x1]; exact h1, by rw [zFr_I f _ (by omega) x3]; exact h2, fun c hc => by rw [q _ _ (by omega) (by omega), q _ _ (by omega) (by omega), q _ _ (by omega) (by omega)]; exact h3 c hc, fun p hp => by rw [q _ _ (by omega) (by omega)]; exact h4 p hp, fun t ht => by rw [q _ _ (by omega) (by omega), q _ _ (by omega) (by omega)]; exact h5 t ht⟩
theorem cRH_st {H : zH} {A : zM} (h : cH H A) (x v : Int32) : cResH A (x, v, H) (some (some (.int x), z_wI A 1 7 v)) := by
  have f : zFr 0 0 (fun a k => a = 1 ∧ k = 7) A (z_wI A 1 7 v) := zFr_wI (X := fun a k => a = 1 ∧ k = 7) ⟨rfl, rfl⟩
  exact ⟨_, rfl, cH_fr f h (by omega) (fun a k _ _ e => by omega), zI_wI_s .., zFr_mono f (Nat.le_refl _) (Nat.le_refl _) (fun _ _ e => Or.inl e)⟩
theorem rRH_st {H : zH} {B : zM} (h : rH H B) (x v : Int32) : rResH B (x, v, H) (some (some (.int x), z_wI B 15 0 v)) := by
  have f : zFr 0 0 (fun a k => a = 15 ∧ k = 0) B (z_wI B 15 0 v) := zFr_wI (X := fun a k => a = 15 ∧ k = 0) ⟨rfl, rfl⟩
  exact ⟨_, rfl, rH_fr f h (by omega) (by omega) (fun a k _ _ e => by omega), zI_wI_s .., zFr_mono f (Nat.le_refl _) (Nat.le_refl _) (fun _ _ e => Or.inl ⟨e.1, Or.inl e.2⟩)⟩
theorem cRH_to {H : zH} {A A1 : zM} (h : cH H A1) (f : zFr 0 0 xcH A A1) (x v : Int32) : cResH A (x, v, H) (some (some (.int x), z_wI A1 1 7 v)) := by
  obtain ⟨A', e, h1, h2, h3⟩ := cRH_st h x v
  exact ⟨A', e, h1, h2, zFr_trans f h3 (fun _ _ _ e => e)⟩
theorem rRH_to {H : zH} {A A1 : zM} (h : rH H A1) (f : zFr 0 0 xrH A A1) (x v : Int32) : rResH A (x, v, H) (some (some (.int x), z_wI A1 15 0 v)) := by
  obtain ⟨A', e, h1, h2, h3⟩ := rRH_st h x v
  exact ⟨A', e, h1, h2, zFr_trans f h3 (fun _ _ _ e => e)⟩
def kOk (H : zH) (x : Int32) : Prop := 0 ≤ x.toInt ∧ x.toInt < chN H
theorem c_hasC (d : Nat) {n : Nat} {H : zH} {A : zM} {x : Int32} (w : wH n H) (h : cH H A) (hx : kOk H x) : z_den zQ (d + 1) mO_hasChest [.ref 3, .int x] A = some (some (.int (zn 1)), A) := by
  have w1 := w.1
  obtain ⟨c, hc, rfl⟩ := zn_ex hx.1
  have h2 := hx.2
  rw [zn_toInt hc] at h2
  rw [B_O_hasChest, h.1]
  simp (disch := omega) only [z_bV_some, z_bI_some, z_bJ_some, z_bD_some, z_bR_some, cond_true, cond_false, Bool.and_true, Bool.true_and, Bool.not_false, Bool.not_true, Bool.and_self, Bool.or_true, Bool.false_or, Bool.true_or, zn_ok, zn_ok0, zn_N, zn_add, zn_mul, zn_sub, z_lt_T, z_lt_F, z_le_T, z_le_F, z_eq_T, z_ne_F, z_eq_F, z_ne_T, z_ix_T, z_lt_m, z_le_m, z_lt_m2, z_le_m2, z_eq_m, z_ne_m, zn_div, z_a31, zn_shl, zn_shr, z_bq_T, z_bq_F, z_bl_T, nL_0, nL_1, nL_16]
theorem c_hasC_no (d : Nat) {n : Nat} {H : zH} {A : zM} {x : Int32} (w : wH n H) (h : cH H A) (hx : ¬ kOk H x) : z_den zQ (d + 1) mO_hasChest [.ref 3, .int x] A = some (some (.int (zn 0)), A) := by
  have w1 := w.1
  rw [B_O_hasChest, h.1]
  rcases zn_cases x with hk | ⟨c, hc, rfl⟩
  · simp (disch := omega) only [z_bV_some, z_bI_some, z_bJ_some, z_bD_some, z_bR_some, cond_true, cond_false, Bool.and_true, Bool.true_and, Bool.not_false, Bool.not_true, Bool.and_self, Bool.or_true, Bool.false_or, Bool.true_or, zn_ok, zn_ok0, zn_N, zn_add, zn_mul, zn_sub, z_lt_T, z_lt_F, z_le_T, z_le_F, z_eq_T, z_ne_F, z_eq_F, z_ne_T, z_ix_T, z_lt_m, z_le_m, z_lt_m2, z_le_m2, z_eq_m, z_ne_m, zn_div, z_a31, zn_shl, zn_shr, z_bq_T, z_bq_F, z_bl_T, nL_0]
  · have h2 : chN H ≤ c := by
      refine Nat.le_of_not_lt (fun q => hx ⟨?_, ?_⟩) <;> rw [zn_toInt hc] <;> omega
    simp (disch := omega) only [z_bV_some, z_bI_some, z_bJ_some, z_bD_some, z_bR_some, cond_true, cond_false, Bool.and_true, Bool.true_and, Bool.not_false, Bool.not_true, Bool.and_self, Bool.or_true, Bool.false_or, Bool.true_or, zn_ok, zn_ok0, zn_N, zn_add, zn_mul, zn_sub, z_lt_T, z_lt_F, z_le_T, z_le_F, z_eq_T, z_ne_F, z_eq_F, z_ne_T, z_ix_T, z_lt_m, z_le_m, z_lt_m2, z_le_m2, z_eq_m, z_ne_m, zn_div, z_a31, zn_shl, zn_shr, z_bq_T, z_bq_F, z_bl_T, nL_0]
theorem c_placeC (d : Nat) {n : Nat} {H : zH} {A : zM} (w : wH n H) (h : cH H A) : z_den zQ (d + 2) mO_placeCount [.ref 3] A = some (some (.int (zn (chF H (chN H)))), A) := by
  have w1 := w.1
  rw [B_O_placeCount, h.1, E_min, z_bI_some, E_max, z_bI_some]
  have e1 : (bif z_lt (16 : Int32) (zn (chN H)) then (16 : Int32) else zn (chN H)) = zn (chN H) := by rw [nL_16, z_lt_F (by omega) (by omega)]; rfl
  rw [e1]
  have e2 : (bif z_lt (0 : Int32) (zn (chN H)) then zn (chN H) else (0 : Int32)) = zn (chN H) := by
    rw [nL_0]
    by_cases g : chN H = 0
    · rw [g, z_lt_F (by omega) (by omega)]; rfl
    · rw [z_lt_T (by omega) (by omega)]; rfl
  rw [e2, z_ix_T (by omega) (by omega), cond_true, zn_N (by omega), h.2.2.1 _ (Nat.le_refl _)]
def upW (H : zH) (t : Nat) (c i : Int32) : zH := (H.1, H.2.1, H.2.2.1, H.2.2.2.1, (fun j => if j = t then c else H.2.2.2.2.1 j), (fun j => if j = t then i else H.2.2.2.2.2 j))
noncomputable def oWire (pl : Bool) (H : zH) (t c i : Int32) : Int32 × Int32 × zH := pif ((0 ≤ t.toInt ∧ t.toInt ≤ 7) ∧ (c = -1 ∨ kOk H c)) (if pl = true then (-3, -3, H) else (1, 0, upW H t.toNatClampNeg c i)) (-1, -1, H)
theorem w_upW {n : Nat} {H : zH} (w : wH n H) {t : Nat} {c i : Int32} (hc : c = -1 ∨ kOk H c) : wH n (upW H t c i) := by
  obtain ⟨w1, w2, w3, w4, w5, w6, w7⟩ := w
  refine ⟨w1, w2, w3, w4, w5, w6, fun u hu => ?_⟩
  show (if u = t then c else chW H u) = -1 ∨ ∃ c', c' < chN H ∧ (if u = t then c else chW H u) = zn c'
  by_cases e : u = t
  · rw [if_pos e]
    rcases hc with g | g
    · exact Or.inl g
    · obtain ⟨m, hm, rfl⟩ := zn_ex g.1
      have g2 := g.2
      rw [zn_toInt hm] at g2
      exact Or.inr ⟨m, by omega, rfl⟩
  · rw [if_neg e]; exact w7 u hu
theorem P_wire (d : Nat) {n : Nat} {pl : Bool} {H : zH} {A : zM} {t c i : Int32} (w : wH n H) (h : cH H A) (hp : zI A 3 15 = bI pl) : cResH A (oWire pl H t c i) (z_den zQ (d + 2) mP_wire [.ref 1, .int t, .int c, .int i] A) := by
  unfold oWire
  rw [B_P_wire, hp, bI_eq0]
  rcases zn_cases t with hk | ⟨m, hm, rfl⟩
  · rw [pif_F (fun q => by omega), lt_0T hk, cond_true, B_P_refuse, z_bI_some]; exact cRH_st h _ _
  rw [zn_toInt hm, zn_N hm]
  have e0 : z_lt (zn m) 0 = false := by rw [nL_0]; exact z_lt_F (by omega) (by omega)
  by_cases g : m ≤ 7
  · have e8 : z_lt (zn m) 8 = true := by rw [nL_8]; exact z_lt_T (by omega) (by omega)
    have hR : cResH A (1, 0, upW H m c i) (some (some (.int 1), z_wI (z_wI (z_wI A 8 m c) 9 m i) 1 7 0)) := by
      refine cRH_to ?_ ?_ 1 0
      · obtain ⟨h1, h2, h3, h4, h5⟩ := h
        refine ⟨by rw [zI_wI_a (by omega), zI_wI_a (by omega)]; exact h1, fun c hc => by rw [zI_wI_a (by omega), zI_wI_a (by omega)]; exact h2 c hc, fun c hc => by rw [zI_wI_a (by omega), zI_wI_a (by omega)]; exact h3 c hc, fun c hc => by rw [zI_wI_a (by omega), zI_wI_a (by omega)]; exact h4 c hc, fun u hu => ?_⟩
        show _ = (if u = m then c else chW H u) ∧ _ = (if u = m then i else chI H u)
        by_cases e : u = m
        · subst e; rw [if_pos rfl, if_pos rfl, zI_wI_a (by omega), zI_wI_s, zI_wI_s]; exact ⟨rfl, rfl⟩
        · rw [if_neg e, if_neg e, zI_wI_a (by omega), zI_wI_k e, zI_wI_k e, zI_wI_a (by omega)]; exact h5 u hu
      · exact zFr_trans (zFr_wI (X := xcH) (Or.inr (Or.inr ⟨by omega, by omega⟩))) (zFr_wI (X := xcH) (Or.inr (Or.inr ⟨by omega, by omega⟩))) (fun _ _ _ e => e)
    have hix : z_ix (zn m) 8 = true := z_ix_T (by omega) (by omega)
    rw [e0, cond_false, e8, cond_true]
    by_cases gc : c = -1
    · subst gc
      rw [pif_T ⟨by omega, Or.inl rfl⟩, show z_eq (-1 : Int32) (-1) = true by rw [z_eq_eq]; rfl, cond_true]
      cases pl
      · simp only [z_bV_some, z_bI_some, z_bJ_some, z_bD_some, z_bR_some, cond_true, cond_false, Bool.and_true, Bool.true_and, Bool.not_false, Bool.not_true, Bool.and_self, Bool.or_true, Bool.false_or, Bool.true_or, hix, B_P_done, Bool.false_eq_true, if_false]; exact hR
      · simp only [z_bV_some, z_bI_some, z_bJ_some, z_bD_some, z_bR_some, cond_true, cond_false, Bool.and_true, Bool.true_and, Bool.not_false, Bool.not_true, Bool.and_self, Bool.or_true, Bool.false_or, Bool.true_or, B_P_refuse, if_true]; exact cRH_st h _ _
    · have ec : z_eq c (-1 : Int32) = false := by rw [z_eq_eq]; exact decide_eq_false gc
      rw [ec, cond_false]
      by_cases gk : kOk H c
      · rw [pif_T ⟨by omega, Or.inr gk⟩, c_hasC _ w h gk, z_bI_some, hp, bI_eq0, show z_ne (zn 1) 0 = true from z_ne_n0 (by omega) (by omega), cond_true]
        cases pl
        · simp only [z_bV_some, z_bI_some, z_bJ_some, z_bD_some, z_bR_some, cond_true, cond_false, Bool.and_true, Bool.true_and, Bool.not_false, Bool.not_true, Bool.and_self, Bool.or_true, Bool.false_or, Bool.true_or, hix, B_P_done, Bool.false_eq_true, if_false]; exact hR
        · simp only [z_bV_some, z_bI_some, z_bJ_some, z_bD_some, z_bR_some, cond_true, cond_false, Bool.and_true, Bool.true_and, Bool.not_false, Bool.not_true, Bool.and_self, Bool.or_true, Bool.false_or, Bool.true_or, B_P_refuse, if_true]; exact cRH_st h _ _
      · rw [pif_F (fun q => q.2.elim gc gk), c_hasC_no _ w h gk, z_bI_some, show z_ne (zn 0) 0 = false by rw [nL_0]; exact z_ne_F _, cond_false, B_P_refuse, z_bI_some]
        exact cRH_st h _ _
  · have e8 : z_lt (zn m) 8 = false := by rw [nL_8]; exact z_lt_F (by omega) (by omega)
    rw [pif_F (fun q => by omega), e0, cond_false, e8, cond_false, B_P_refuse, z_bI_some]; exact cRH_st h _ _
theorem Q_within (d : Nat) (x a b : Int32) (M : zM) : z_den zQ (d + 1) mQ_within [.int x, .int a, .int b] M = some (some (.int (pif (a.toInt ≤ x.toInt ∧ x.toInt ≤ b.toInt) (zn 1) (zn 0))), M) := by
  rw [B_Q_within, z_lt_eq, z_lt_eq]
  by_cases g1 : x.toInt < a.toInt
  · rw [decide_eq_true (Int32.lt_iff_toInt_lt.mpr g1), pif_F (fun q => by omega), nL_0]; rfl
  · rw [decide_eq_false (fun q => g1 (Int32.lt_iff_toInt_lt.mp q)), cond_false]
    by_cases g2 : b.toInt < x.toInt
    · rw [decide_eq_true (Int32.lt_iff_toInt_lt.mpr g2), pif_F (fun q => by omega), nL_0]; rfl
    · rw [decide_eq_false (fun q => g2 (Int32.lt_iff_toInt_lt.mp q)), cond_false, pif_T ⟨by omega, by omega⟩, nL_1]
theorem Q_wiT {d : Nat} {x a b : Int32} {M : zM} (h : a.toInt ≤ x.toInt ∧ x.toInt ≤ b.toInt) : z_den zQ (d + 1) mQ_within [.int x, .int a, .int b] M = some (some (.int (zn 1)), M) := by rw [Q_within, pif_T h]
theorem Q_wiF {d : Nat} {x a b : Int32} {M : zM} (h : ¬ (a.toInt ≤ x.toInt ∧ x.toInt ≤ b.toInt)) : z_den zQ (d + 1) mQ_within [.int x, .int a, .int b] M = some (some (.int (zn 0)), M) := by rw [Q_within, pif_F h]
theorem zn_p1 {n : Nat} (h : n < 2147483648) : (zn n - 1).toInt = (n : Int) - 1 := by
  rw [zn_eq, show Int32.ofNat n - 1 = Int32.ofInt ((n : Int) - 1) by rw [Int32.ofInt_sub]; rfl]
  exact Int32.toInt_ofInt_of_le (by omega) (by omega)
theorem toI_0 : (0 : Int32).toInt = 0 := rfl
theorem toI_7 : (7 : Int32).toInt = 7 := rfl
theorem toI_m1 : (-1 : Int32).toInt = -1 := rfl
theorem eq_m1 {x : Int32} : x = -1 ↔ x.toInt = -1 := by
  constructor
  · intro h; rw [h]; rfl
  · intro h; exact Int32.toInt_inj.mp h
theorem Q_wire (d : Nat) {n : Nat} {pl : Bool} {H : zH} {B : zM} {t c i : Int32} (w : wH n H) (h : rH H B) (hp : zI B 15 36 = bI pl) : rResH B (oWire pl H t c i) (z_den zQ (d + 2) mQ_wire [.ref 15, .int t, .int c, .int i] B) := by
  have w1 := w.1
  unfold oWire
  rw [B_Q_wire]
  by_cases g : 0 ≤ t.toInt ∧ t.toInt ≤ 7
  · rw [Q_wiT (by rw [toI_0, toI_7]; exact g), z_bI_some, z_eq_10, cond_false, h.1]
    by_cases gc : c = -1 ∨ kOk H c
    · have gi : (-1 : Int32).toInt ≤ c.toInt ∧ c.toInt ≤ (zn (chN H) - 1).toInt := by
        rw [toI_m1, zn_p1 (by omega)]
        rcases gc with e | e
        · rw [eq_m1] at e; omega
        · have := e.1; have := e.2; omega
      rw [pif_T ⟨g, gc⟩, Q_wiT gi, z_bI_some, z_ne_n0 (by omega) (by omega), cond_true, hp, bI_eq0]
      obtain ⟨m, hm, rfl⟩ := zn_ex g.1
      rw [zn_toInt hm] at g
      have hix : z_ix (zn m) 8 = true := z_ix_T (by omega) (by omega)
      rw [zn_N hm]
      cases pl
      · simp only [z_bV_some, z_bI_some, z_bJ_some, z_bD_some, z_bR_some, cond_true, cond_false, Bool.and_true, Bool.true_and, Bool.not_false, Bool.not_true, Bool.and_self, Bool.or_true, Bool.false_or, Bool.true_or, hix, B_Q_well, Bool.false_eq_true, if_false]
        refine rRH_to ?_ ?_ 1 0
        · obtain ⟨h1, h2, h3, h4, h5⟩ := h
          refine ⟨by rw [zI_wI_a (by omega), zI_wI_a (by omega)]; exact h1, by rw [zI_wI_a (by omega), zI_wI_a (by omega)]; exact h2, fun c hc => by simp (disch := omega) only [zI_wI_a]; exact h3 c hc, fun c hc => by rw [zI_wI_a (by omega), zI_wI_a (by omega)]; exact h4 c hc, fun u hu => ?_⟩
          show _ = (if u = m then c else chW H u) + 1 ∧ _ = (if u = m then i else chI H u)
          by_cases e : u = m
          · subst e; rw [if_pos rfl, if_pos rfl, zI_wI_a (by omega), zI_wI_s, zI_wI_s]; exact ⟨rfl, rfl⟩
          · rw [if_neg e, if_neg e, zI_wI_a (by omega), zI_wI_k e, zI_wI_k e, zI_wI_a (by omega)]; exact h5 u hu
        · exact zFr_trans (zFr_wI (X := xrH) (Or.inr ⟨by omega, by omega⟩)) (zFr_wI (X := xrH) (Or.inr ⟨by omega, by omega⟩)) (fun _ _ _ e => e)
      · simp only [z_bV_some, z_bI_some, z_bJ_some, z_bD_some, z_bR_some, cond_true, cond_false, Bool.and_true, Bool.true_and, Bool.not_false, Bool.not_true, Bool.and_self, Bool.or_true, Bool.false_or, Bool.true_or, B_Q_no, if_true]; exact rRH_st h _ _
    · have gi : ¬ ((-1 : Int32).toInt ≤ c.toInt ∧ c.toInt ≤ (zn (chN H) - 1).toInt) := by
        rw [toI_m1, zn_p1 (by omega)]
        intro q
        refine gc ?_
        by_cases e : c.toInt = -1
        · exact Or.inl (eq_m1.mpr e)
        · exact Or.inr ⟨by omega, by omega⟩
      rw [pif_F (fun q => gc q.2), Q_wiF gi, z_bI_some, show z_ne (zn 0) 0 = false by rw [nL_0]; exact z_ne_F _, cond_false, B_Q_no, z_bI_some]
      exact rRH_st h _ _
  · rw [pif_F (fun q => g q.1), Q_wiF (by rw [toI_0, toI_7]; exact g), z_bI_some, z_eq_00, cond_true, B_Q_no, z_bI_some]
    exact rRH_st h _ _
theorem zn_1 (n : Nat) : zn n + 1 = zn (n + 1) := by rw [nL_1, zn_add]
