/-! S LEVEL: INSTRUMENTS: acts that ask for pitches. -/
def tgI (h : Nat × Nat) : Prop := h.1 ≤ 3 ∨ h.1 = 5 ∨ h.1 = 6 ∨ h.1 = 7 ∨ h = (16, 8)
theorem tg_I {s : Nat} (n : Nat) : tgI (tgF s, n) := by
  unfold tgI tgF
  (repeat' split) <;> simp
theorem cJ_fr {c s : Nat} {X : Nat → Nat → Prop} {J : zJ} {A A' : zM} (f : zFr c s X A A') (h : cJ J A) (x1 : ¬ X 3 10) (x2 : ¬ X 3 12) (x3 : ∀ k, ¬ X 4 k) (x4 : ∀ a k g, z_hd zQ A a = some g → tgI g → ¬ X a k) : cJ J A' := by
  obtain ⟨h1, h2, h3, h4, h5⟩ := h
  have hn := new_56 A
  have p4 : ∀ k, zP zQ A' 4 k = zP zQ A 4 k := fun k => zFr_P f k (by omega) (x3 k)
  have p5 : ∀ i, i < jN J → zP zQ A' (zP zQ A 4 i) 5 = zP zQ A (zP zQ A 4 i) 5 := fun i hi => zFr_P f 5 (z_hd_lt (h3 i hi).1) (x4 _ _ _ (h3 i hi).1 (tg_I _))
  refine ⟨by rw [zFr_I f 10 (by omega) x1]; exact h1, by rw [zFr_I f 12 (by omega) x2]; exact h2, fun i hi => ?_, fun i a1 a2 => by rw [p4]; exact h4 i a1 a2, fun i j a1 a2 a3 a4 a5 => ?_⟩
  · rw [p4]
    obtain ⟨g1, g2, g3, g4, g5, g6, g7⟩ := h3 i hi
    have il : ∀ k, zI A' (zP zQ A 4 i) k = zI A (zP zQ A 4 i) k := fun k => zFr_I f k (z_hd_lt g1) (x4 _ _ _ g1 (tg_I _))
    refine ⟨zFr_hd f g1, by rw [il]; exact g2, by rw [il]; exact g3, by rw [il]; exact g4, by rw [il]; exact g5, by rw [il]; exact g6, fun e => ?_⟩
    obtain ⟨k1, k2, k3⟩ := g7 e
    rw [p5 i hi]
    refine ⟨by rw [il]; exact k1, zFr_hd f k2, fun k hk => ?_⟩
    rw [p4, zFr_P f k (z_hd_lt k2) (x4 _ _ _ k2 (Or.inr (Or.inr (Or.inr (Or.inr rfl)))))]
    exact k3 k hk
  · rw [p4, p4, p5 i a1, p5 j a2]; exact h5 i j a1 a2 a3 a4 a5
/-- what the acts on INSTRUMENTS may write -/
def xcI (A : zM) (a k : Nat) : Prop := (a = 1 ∧ k = 7) ∨ a = 10 ∨ (a = 3 ∧ (k = 10 ∨ k = 12)) ∨ a = 4 ∨ ∃ g, z_hd zQ A a = some g ∧ tgI g
def xrI (a k : Nat) : Prop := (a = 15 ∧ (k = 0 ∨ k = 14 ∨ k = 22 ∨ k = 35)) ∨ (26 ≤ a ∧ a ≤ 29) ∨ a = 31 ∨ a = 32 ∨ (39 ≤ a ∧ a ≤ 42)
def trC (A : zM) (l : List Nat) (A' : zM) : Prop := ∀ j, j < 17 → zI A' 10 j = zI (zbs 10 l A) 10 j
def cResI (c s : Nat) (A : zM) (r : Value × Int32 × zJ × List Nat) (o : zR) : Prop := ∃ A', o = some (some r.1, A') ∧ cJ r.2.2.1 A' ∧ zI A' 1 7 = r.2.1 ∧ trC A r.2.2.2 A' ∧ zFr c s (xcI A) A A'
def rResI (B : zM) (r : Value × Int32 × zJ × List Nat) (o : zR) : Prop := ∃ B', o = some (some r.1, B') ∧ rJ r.2.2.1 B' ∧ zI B' 15 0 = r.2.1 ∧ trR B r.2.2.2 B' ∧ zFr 0 0 xrI B B'
theorem cJ_st {J : zJ} {A : zM} (h : cJ J A) (v : Int32) : cJ J (z_wI A 1 7 v) := by
  have f : zFr 0 0 (fun a k => a = 1 ∧ k = 7) A (z_wI A 1 7 v) := zFr_wI (X := fun a k => a = 1 ∧ k = 7) ⟨rfl, rfl⟩
  refine cJ_fr f h (by omega) (by omega) (fun k => by omega) (fun a k g hg ht hx => ?_)
  rw [hx.1, show z_hd zQ A 1 = some (10, 8) from rfl] at hg
  rw [← Option.some.inj hg] at ht
  unfold tgI at ht
  simp at ht
theorem rJ_st {J : zJ} {B : zM} (h : rJ J B) (v : Int32) : rJ J (z_wI B 15 0 v) := by
  obtain ⟨h1, h2, h3, h4⟩ := h
  refine ⟨by rw [zI_wI_k (by omega)]; exact h1, by rw [zD_wI]; exact h2, fun i hi => ?_, fun i a1 a2 => ?_⟩
  · obtain ⟨g1, g2, g3, g4, g5, g6⟩ := h3 i hi
    exact ⟨by rw [zI_wI_a (by omega)]; exact g1, by rw [zI_wI_a (by omega)]; exact g2, by rw [zI_wI_a (by omega)]; exact g3, by rw [zI_wI_a (by omega)]; exact g4, by rw [zD_wI]; exact g5, fun k hk => by rw [zI_wI_a (by omega)]; exact g6 k hk⟩
  · rw [zI_wI_a (by omega), zI_wI_a (by omega)]; exact h4 i a1 a2
theorem cRI_st {c s : Nat} {J : zJ} {A : zM} (h : cJ J A) (x : Value) (v : Int32) : cResI c s A (x, v, J, []) (some (some x, z_wI A 1 7 v)) := ⟨_, rfl, cJ_st h v, zI_wI_s .., fun j _ => by rw [zI_wI_a (by omega)]; rfl, zFr_mono (zFr_wI (X := xcI A) (Or.inl ⟨rfl, rfl⟩)) (Nat.zero_le _) (Nat.zero_le _) (fun _ _ e => e)⟩
theorem rRI_st {J : zJ} {B : zM} (h : rJ J B) (x : Value) (v : Int32) : rResI B (x, v, J, []) (some (some x, z_wI B 15 0 v)) := ⟨_, rfl, rJ_st h v, zI_wI_s .., fun j _ => by rw [zI_wI_a (by omega)]; rfl, zFr_wI (X := xrI) (Or.inl ⟨rfl, Or.inl rfl⟩)⟩
def iOk (J : zJ) (x : Int32) : Prop := 0 ≤ x.toInt ∧ x.toInt < jN J
theorem iOk_ex {J : zJ} {x : Int32} (h : iOk J x) : ∃ i, i < jN J ∧ i < 2147483648 ∧ x = zn i := by
  obtain ⟨n, hn, rfl⟩ := zn_ex h.1
  have := h.2
  rw [zn_toInt hn] at this
  exact ⟨n, by omega, hn, rfl⟩
theorem c_insAt (d : Nat) {J : zJ} {A : zM} {i : Nat} (w : wJ J) (hi : i < jN J) : z_den zQ (d + 1) mO_instrumentAt [.ref 3, .int (zn i)] A = some (some (.ref (zP zQ A 4 i)), A) := by
  have := w.1
  rw [B_O_instrumentAt]
  simp (disch := omega) only [z_bV_some, z_bI_some, z_bJ_some, z_bD_some, z_bR_some, cond_true, cond_false, Bool.and_true, Bool.true_and, Bool.not_false, Bool.not_true, Bool.and_self, Bool.or_true, Bool.false_or, Bool.true_or, zn_ok, zn_ok0, zn_N, zn_add, zn_mul, zn_sub, z_lt_T, z_lt_F, z_le_T, z_le_F, z_eq_T, z_ne_F, z_eq_F, z_ne_T, z_ix_T, z_lt_m, z_le_m, z_lt_m2, z_le_m2, z_eq_m, z_ne_m, zn_div, z_a31, zn_shl, zn_shr, z_bq_T, z_bq_F, z_bl_T, nL_0, show (60 : Int32) = zn 60 from (zn_eq 60).symm]
theorem c_insAt_no (d : Nat) {J : zJ} {A : zM} {x : Int32} (w : wJ J) (h : cJ J A) (hx : ¬ iOk J x) : z_den zQ (d + 1) mO_instrumentAt [.ref 3, .int x] A = some (some (.ref 0), A) := by
  have := w.1
  rw [B_O_instrumentAt]
  rcases zn_cases x with hk | ⟨j, hj, rfl⟩
  · rw [show z_lt x 0 = true by rw [z_lt_eq]; exact decide_eq_true (Int32.lt_iff_toInt_lt.mpr (by rw [show (0 : Int32).toInt = 0 by rfl]; exact hk))]; rfl
  · have hj2 : jN J ≤ j := by
      unfold iOk at hx
      rw [zn_toInt hj] at hx
      omega
    by_cases g : j < 60
    · have := h.2.2.2.1 j hj2 g
      simp (disch := omega) only [z_bV_some, z_bI_some, z_bJ_some, z_bD_some, z_bR_some, cond_true, cond_false, Bool.and_true, Bool.true_and, Bool.not_false, Bool.not_true, Bool.and_self, Bool.or_true, Bool.false_or, Bool.true_or, zn_ok, zn_ok0, zn_N, zn_add, zn_mul, zn_sub, z_lt_T, z_lt_F, z_le_T, z_le_F, z_eq_T, z_ne_F, z_eq_F, z_ne_T, z_ix_T, z_lt_m, z_le_m, z_lt_m2, z_le_m2, z_eq_m, z_ne_m, zn_div, z_a31, zn_shl, zn_shr, z_bq_T, z_bq_F, z_bl_T, nL_0, show (60 : Int32) = zn 60 from (zn_eq 60).symm, this]
    · simp (disch := omega) only [z_bV_some, z_bI_some, z_bJ_some, z_bD_some, z_bR_some, cond_true, cond_false, Bool.and_true, Bool.true_and, Bool.not_false, Bool.not_true, Bool.and_self, Bool.or_true, Bool.false_or, Bool.true_or, zn_ok, zn_ok0, zn_N, zn_add, zn_mul, zn_sub, z_lt_T, z_lt_F, z_le_T, z_le_F, z_eq_T, z_ne_F, z_eq_F, z_ne_T, z_ix_T, z_lt_m, z_le_m, z_lt_m2, z_le_m2, z_eq_m, z_ne_m, zn_div, z_a31, zn_shl, zn_shr, z_bq_T, z_bq_F, z_bl_T, nL_0, show (60 : Int32) = zn 60 from (zn_eq 60).symm]
theorem r_isI (d : Nat) {J : zJ} {B : zM} {x : Int32} (w : wJ J) (h : rJ J B) (hx : iOk J x) : z_den zQ (d + 2) mQ_isInstrument [.ref 15, .int x] B = some (some (.int (zn 1)), B) := by
  have := w.1
  have t0 : (zn 0).toInt = 0 := zn_toInt (by omega)
  have t1 := tI_pred (m := jN J) (by omega)
  unfold iOk at hx
  rw [B_Q_isInstrument, h.1, nL_0, nL_1, E_Q_within, z_bI_some, bI_okz, cond_true, bI_1 (by rw [decide_eq_true_iff]; omega)]
theorem r_isI_no (d : Nat) {J : zJ} {B : zM} {x : Int32} (w : wJ J) (h : rJ J B) (hx : ¬ iOk J x) : z_den zQ (d + 2) mQ_isInstrument [.ref 15, .int x] B = some (some (.int (zn 0)), B) := by
  have := w.1
  have t0 : (zn 0).toInt = 0 := zn_toInt (by omega)
  have t1 := tI_pred (m := jN J) (by omega)
  unfold iOk at hx
  rw [B_Q_isInstrument, h.1, nL_0, nL_1, E_Q_within, z_bI_some, bI_okz, cond_true, bI_0 (by rw [decide_eq_true_iff]; omega)]
noncomputable def pvJ (J : zJ) (i : Nat) : zV := pvF J (bsF J) 40 i
theorem c_pOf (d : Nat) {J : zJ} {A : zM} {i : Nat} (w : wJ J) (h : cJ J A) (hi : i < jN J) : z_den zQ (d + 45) mO_pitchOf [.ref 3, .ref (zP zQ A 4 i)] A = some (some (.double (dO (pvJ J i).1)), zbs 10 (pvJ J i).2 A) := by
  obtain ⟨q1, -⟩ := h.2.2.1 i hi
  have ms := mp_ok (w.2.2.2 i hi).1
  have ho : z_okU zQ A (zP zQ A 4 i) [(0, 148), (1, 157), (2, 162), (3, 135), (5, 142), (6, 153), (7, 145)] = true := by rw [okU_of q1]; exact ms.1
  have hs : z_selU zQ A (zP zQ A 4 i) [(0, 148), (1, 157), (2, 162), (3, 135), (5, 142), (6, 153), (7, 145)] = mpF (jS J i) := by rw [selU_of q1]; exact ms.2
  have hp := c_pitch J w (bs_R w) 40 d i 40 A h hi (w.2.2.2 i hi).2.2.2.2.2.2.1 (Nat.le_refl _) (Nat.le_refl _)
  have w3 := w.2.2.1
  have hb : z_num (zf_div.1 (UInt64.ofNat (iN (jE J))) 4625196817309499392) = true := nnD_num (bs_R w) (by omega)
  rw [B_O_pitchOf, h.2.1, zi_n (by omega), hb, ho, hs]
  rw [show (40 : Int32) = zn 40 from (zn_eq 40).symm]
  have hp : z_den zQ (d + 44) (mpF (jS J i)) [.ref (zP zQ A 4 i), .double (zf_div.1 (UInt64.ofNat (iN (jE J))) 4625196817309499392), .ref 10, .int (zn 40)] A = some (some (.double (dO (pvJ J i).1)), zbs 10 (pvJ J i).2 A) := hp
  rw [hp]; rfl
theorem r_fOf (d : Nat) {J : zJ} {M : zM} {i : Nat} (w : wJ J) (h : rJ J M) (hi : i < jN J) : ∃ l2 M', z_den zQ (d + 3 + 1) mQ_frequencyOf [.ref 15, .int (zn i)] M = some (some (.double l2), M') ∧ zFr 0 0 xq M M' ∧ flR M' l2 (pvJ J i).1 ∧ trR M (pvJ J i).2 M' := by
  have w0 := w.1
  have w7 := (w.2.2.2 i hi).2.2.2.2.2.2.1
  have f1 : zFr 0 0 xq M (z_wI M 15 35 (zn 1)) := zFr_wI (X := xq) (Or.inr (Or.inr ⟨rfl, rfl⟩))
  have f2 : zFr 0 0 xq (z_wI M 15 35 (zn 1)) (z_wI (z_wI M 15 35 (zn 1)) 40 0 (zn i)) := zFr_wI (X := xq) (Or.inl rfl)
  have f3 := xq_tr f1 f2
  have hz : smZ J [i] = jZ J i := by show jZ J i + 0 = jZ J i; omega
  obtain ⟨l2, M', r1, r2, r3, r4⟩ := r_loop J w d (zn i) M 40 [i] (none, []) 0 none none (z_wI (z_wI M 15 35 (zn 1)) 40 0 (zn i)) (by omega) (by omega) (rJ_fr h f3) ⟨zI_wI_s .., hi, trivial⟩ (by show zI _ 15 35 = zn 1; rw [zI_wI_a (by omega), zI_wI_s]) oP_n (fun j _ => by rw [zI_wI_a (by omega), zI_wI_a (by omega)]; rfl)
  refine ⟨l2, M', ?_, xq_tr f3 r2, r3, r4⟩
  rw [B_Q_frequencyOf, ← r1]
  simp (disch := omega) only [z_bV_some, z_bI_some, z_bJ_some, z_bD_some, z_bR_some, cond_true, cond_false, Bool.and_true, Bool.true_and, Bool.not_false, Bool.not_true, Bool.and_self, Bool.or_true, Bool.false_or, Bool.true_or, zn_ok, zn_ok0, zn_N, zn_add, zn_mul, zn_sub, z_lt_T, z_lt_F, z_le_T, z_le_F, z_eq_T, z_ne_F, z_eq_F, z_ne_T, z_ix_T, z_lt_m, z_le_m, z_lt_m2, z_le_m2, z_eq_m, z_ne_m, zn_div, z_a31, zn_shl, zn_shr, z_bq_T, z_bq_F, z_bl_T, nL_0, nL_1]
  rfl
