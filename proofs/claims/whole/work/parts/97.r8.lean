/-! S LEVEL, PLAYING: a tick passes: pure, the class. -/
noncomputable def paX (J : zJ) (H : zH) (G : zG) (r : Nat) (X : yR × yL) : yR × yL := pif (yG X.1 6 = 1 ∧ (yG X.1 5).toNatClampNeg < tS (gS G r (yG X.1 4).toNatClampNeg)) (elF J H (tK (gS G r (yG X.1 4).toNatClampNeg)) (tE (gS G r (yG X.1 4).toNatClampNeg) (yG X.1 5).toNatClampNeg) X.1 X.2) X
noncomputable def paS (S : yR) (x5 x3 : Int32) : yR := uG (phF (tmF (uG S 5 x5))) 3 x3
noncomputable def paF (J : zJ) (H : zH) (G : zG) (r : Nat) (X : yR × yL) : yR × yL := (paS (paX J H G r X).1 (yG X.1 5 + 1) (yG X.1 3 + 1), (paX J H G r X).2)
theorem paS_G (S : yR) (x5 x3 : Int32) {j : Nat} (h : 3 < j ∧ j ≠ 5 ∧ j ≠ 12) : yG (paS S x5 x3) j = yG S j := by
  unfold paS
  rw [yG_uG, up_o (by omega), ph_G _ (by omega) (by omega), tm_G _ (by omega) (by omega), yG_uG, up_o (by omega)]
theorem paS_35 (S : yR) (x5 x3 : Int32) : yG (paS S x5 x3) 3 = x3 ∧ yG (paS S x5 x3) 5 = x5 := by
  unfold paS
  refine ⟨by rw [yG_uG, up_s], ?_⟩
  rw [yG_uG, up_o (by omega), ph_G _ (by omega) (by omega), tm_G _ (by omega) (by omega), yG_uG, up_s]
theorem paS_12 (S : yR) (x5 x3 : Int32) (h : 0 ≤ (yG S 12).toInt) : 0 ≤ (yG (paS S x5 x3) 12).toInt := by
  unfold paS
  rw [yG_uG, up_o (by omega), ph_G _ (by omega) (by omega)]
  refine tm_12 _ ?_
  rw [yG_uG, up_o (by omega)]; exact h
theorem tm_ET (S : yR) : yE (tmF S) = yE S ∧ yT (tmF S) = yT S := by
  unfold tmF
  by_cases g : (yG S 12).toInt < (yG S 11).toInt
  · rw [pif_T g]; exact ⟨rfl, rfl⟩
  · rw [pif_F g]; exact ⟨rfl, rfl⟩
theorem ph_ET (S : yR) : yE (phF S) = yE S ∧ yT (phF S) = yT S := by
  unfold phF
  by_cases g : (yG S 2 + 1).toInt < (yG S 0).toInt
  · rw [pif_T g]; exact ⟨rfl, rfl⟩
  · rw [pif_F g]; exact ⟨rfl, rfl⟩
/-- at a strip with a tick to come: its place, how far over -/
theorem at_p {n cnt : Nat} {G : zG} {r : Nat} {S : yR} {l : yL} (hv : pv n cnt S l) (ha : atP G r S) : ∃ p o, yG S 4 = zn p ∧ yG S 5 = zn o ∧ p < cnt ∧ o ≤ 256 ∧ evB S (p * 1400000 + 660000 + 2560 * o) := hv.2.2.2.resolve_left (fun q => ha.1 q.1)
theorem pa_inv {J : zJ} {H : zH} {G : zG} {r go : Nat} {S : yR} {l : yL} (wj : wJ J) (w : wH (jN J) H) (hcnt : gZ G r ≤ 400) (wt : ∀ p, p < gZ G r → wT (gS G r p)) (hv : pv (jN J) (gZ G r) S l) (ha : atP G r S) (h3 : yG S 3 = zn go) (hg : go < 20000) : pv (jN J) (gZ G r) (paF J H G r (S, l)).1 (paF J H G r (S, l)).2 ∧ yG (paF J H G r (S, l)).1 3 = zn (go + 1) := by
  obtain ⟨p, o, e4, e5, hp, ho, he⟩ := at_p hv ha
  have hU := (wt p hp).2.2.1
  have hlt : o < tU (gS G r p) := by
    have := ha.2
    rw [e4, e5, zn_N (by omega), zn_toInt (by omega)] at this
    omega
  obtain ⟨h1, h2, h3', h4⟩ := hv
  have key : iv (jN J) (paX J H G r (S, l)).1 (paX J H G r (S, l)).2 ∧ evB (paX J H G r (S, l)).1 (p * 1400000 + 660000 + 2560 * o + 2560) ∧ (∀ j, 1 ≤ j → j < 7 → yG (paX J H G r (S, l)).1 j = yG S j) ∧ 0 ≤ (yG (paX J H G r (S, l)).1 12).toInt := by
    unfold paX
    by_cases g : yG S 6 = 1 ∧ (yG S 5).toNatClampNeg < tS (gS G r (yG S 4).toNatClampNeg)
    · rw [pif_T g]
      obtain ⟨a1, a2, a3⟩ := el_inv (k := tK (gS G r (yG S 4).toNatClampNeg)) (e := tE (gS G r (yG S 4).toNatClampNeg) (yG S 5).toNatClampNeg) wj w h1 he (by omega)
      exact ⟨a1, a2, a3, el_12 wj w h1 he (by omega) h2⟩
    · rw [pif_F g]
      exact ⟨h1, evB_mo he (by omega), fun _ _ _ => rfl, h2⟩
  obtain ⟨k1, k2, k3, k4⟩ := key
  have x3 : yG (paF J H G r (S, l)).1 3 = zn (go + 1) := by
    show yG (paS _ _ _) 3 = _
    rw [(paS_35 _ _ _).1]
    show yG S 3 + 1 = _
    rw [h3, zn_1]
  refine ⟨⟨?_, paS_12 _ _ _ k4, ?_, Or.inr ⟨p, o + 1, ?_, ?_, hp, by omega, ?_⟩⟩, x3⟩
  · obtain ⟨i1, i2, i3, go', i4, i5⟩ := k1
    refine ⟨i1, fun t ht => ?_, fun c c1 c2 => ?_, go + 1, x3, by omega⟩
    · show ctF t (paX J H G r (S, l)).2 ≤ 40 ∧ (btF (yG (paS _ _ _) 7) t = false → ctF t (paX J H G r (S, l)).2 = 0)
      rw [paS_G _ _ _ (by omega)]; exact i2 t ht
    · show btF (yG (paS _ _ _) 8) c = false
      rw [paS_G _ _ _ (by omega)]; exact i3 c c1 c2
  · show yG (paS _ _ _) 6 = 0 ∨ yG (paS _ _ _) 6 = 1
    rw [paS_G _ _ _ (by omega), k3 6 (by omega) (by omega)]; exact h3'
  · show yG (paS _ _ _) 4 = zn p
    rw [paS_G _ _ _ (by omega), k3 4 (by omega) (by omega)]; exact e4
  · show yG (paS _ _ _) 5 = zn (o + 1)
    rw [(paS_35 _ _ _).2]
    show yG S 5 + 1 = _
    rw [e5, zn_1]
  · refine evB_cg (S := (paX J H G r (S, l)).1) (evB_mo k2 (by omega)) ?_
    show yG (paS _ _ _) 13 = _
    exact paS_G _ _ _ (by omega)
/-! the class -/
def cP (S : yR) (l : yL) (A : zM) : Prop := cY (yG S) l (fun k => zI A 11 k) ∧ (∀ k, zI A 13 k = yE S k) ∧ ∀ k, zI A 10 k = yT S k
theorem cP_eq {S : yR} {l : yL} {A : zM} (h : cP S l A) : A = yC A (fun k => zI A 11 k) S := by
  have := yC_self A (yG S)
  have e1 : (fun k => zI A 13 k) = yE S := funext h.2.1
  have e2 : (fun k => zI A 10 k) = yT S := funext h.2.2
  rw [e1, e2] at this
  exact this.symm
theorem cP_of {S : yR} {l : yL} {f : Nat → Int32} (A : zM) (h : cY (yG S) l f) : cP S l (yC A f S) :=
  ⟨cY_cg h (fun j _ => yC_11 A f S j), fun k => yC_13 A f S k, fun k => yC_10 A f S k⟩
theorem cP_fr {c s : Nat} {X : Nat → Nat → Prop} {S : yR} {l : yL} {A A' : zM} (f : zFr c s X A A') (h : cP S l A) (x : ∀ a k, a = 10 ∨ a = 11 ∨ a = 13 → ¬ X a k) : cP S l A' := by
  have hn := z_new_ge A
  have q : ∀ a k, a = 10 ∨ a = 11 ∨ a = 13 → zI A' a k = zI A a k := fun a k e => zFr_I f _ (by omega) (x a k e)
  exact ⟨cY_cg h.1 (fun j _ => q 11 j (by omega)), fun k => by rw [q 13 k (by omega)]; exact h.2.1 k, fun k => by rw [q 10 k (by omega)]; exact h.2.2 k⟩
def xcT (A : zM) (a k : Nat) : Prop := (a = 3 ∧ 13 ≤ k ∧ k ≤ 14) ∨ (10 ≤ a ∧ a ≤ 13) ∨ (57 ≤ a ∧ z_hd zQ A a = some (14, 523))
theorem xcT_b {c s : Nat} {X : Nat → Nat → Prop} {A A' : zM} (f : zFr c s X A A') {a k : Nat} (ha : a < z_new zQ A) (h : xcT A' a k) : xcT A a k := by
  rcases h with h | h | ⟨h1, h2⟩
  · exact Or.inl h
  · exact Or.inr (Or.inl h)
  · obtain ⟨⟨l, el, -⟩, -⟩ := f
    rw [z_hd_app el ha] at h2
    exact Or.inr (Or.inr ⟨h1, h2⟩)
theorem xcT_K {A : zM} {a k : Nat} (h : xcK A a k) : xcT A a k := by
  rcases h with h | h | h
  · exact Or.inr (Or.inl (by omega))
  · exact Or.inl (by omega)
  · exact Or.inr (Or.inr h)
theorem cG_xT {c s : Nat} {G : zG} {al : Nat → Nat} {A A' : zM} (f : zFr c s (xcT A) A A') (h : cG G al A) : cG G al A' := by
  refine cG_fr f h ⟨fun e => ?_, fun e => ?_, fun e => ?_⟩ (fun k e => ?_) (fun a k t n hd ht e => ?_)
  · rcases e with e | e | e <;> omega
  · rcases e with e | e | e <;> omega
  · rcases e with e | e | e <;> omega
  · rcases e with e | e | e <;> omega
  · have kk : ∀ c m, z_hd zQ A c = some (14, m) → a ≠ c := by
      intro c m h2 e
      rw [e, h2] at hd
      have := congrArg Prod.fst (Option.some.inj hd)
      have : 14 = t := this
      omega
    rcases e with e | e | ⟨e1, e2⟩
    · rw [e.1] at hd
      have : (4 : Nat) = t := congrArg Prod.fst (Option.some.inj ((show z_hd zQ A 3 = some (4, 17) from rfl).symm.trans hd))
      omega
    · have h4 : a = 10 ∨ a = 11 ∨ a = 12 ∨ a = 13 := by omega
      rcases h4 with h4 | h4 | h4 | h4
      · exact kk 10 17 rfl h4
      · exact kk 11 523 rfl h4
      · rw [h4] at hd
        have : (19 : Nat) = t := congrArg Prod.fst (Option.some.inj ((show z_hd zQ A 12 = some (19, 501) from rfl).symm.trans hd))
        omega
      · exact kk 13 6000 rfl h4
    · exact kk a 523 e2 rfl
theorem tgI_no14 {n : Nat} (h : tgI (14, n)) : False := by
  rcases h with h | h | h | h | h
  · exact absurd h (by show ¬ 14 ≤ 3; omega)
  · exact absurd h (by show ¬ 14 = 5; omega)
  · exact absurd h (by show ¬ 14 = 6; omega)
  · exact absurd h (by show ¬ 14 = 7; omega)
  · exact absurd (congrArg Prod.fst h) (by show ¬ 14 = 16; omega)
theorem tgI_no19 {n : Nat} (h : tgI (19, n)) : False := by
  rcases h with h | h | h | h | h
  · exact absurd h (by show ¬ 19 ≤ 3; omega)
  · exact absurd h (by show ¬ 19 = 5; omega)
  · exact absurd h (by show ¬ 19 = 6; omega)
  · exact absurd h (by show ¬ 19 = 7; omega)
  · exact absurd (congrArg Prod.fst h) (by show ¬ 19 = 16; omega)
theorem tgI_no4 {n : Nat} (h : tgI (4, n)) : False := by
  rcases h with h | h | h | h | h
  · exact absurd h (by show ¬ 4 ≤ 3; omega)
  · exact absurd h (by show ¬ 4 = 5; omega)
  · exact absurd h (by show ¬ 4 = 6; omega)
  · exact absurd h (by show ¬ 4 = 7; omega)
  · exact absurd (congrArg Prod.fst h) (by show ¬ 4 = 16; omega)
theorem cJ_xT {c s : Nat} {J : zJ} {A A' : zM} (f : zFr c s (xcT A) A A') (h : cJ J A) : cJ J A' := by
  refine cJ_fr f h (fun e => ?_) (fun e => ?_) (fun k e => ?_) (fun a k g hg ht e => ?_)
  · rcases e with e | e | e <;> omega
  · rcases e with e | e | e <;> omega
  · rcases e with e | e | e <;> omega
  · have kk : ∀ c m t, z_hd zQ A c = some (t, m) → a = c → tgI (t, m) := by
      intro c m t h2 e
      rw [e, h2] at hg
      rw [Option.some.inj hg]; exact ht
    rcases e with e | e | ⟨e1, e2⟩
    · exact tgI_no4 (kk 3 17 4 rfl e.1)
    · have h4 : a = 10 ∨ a = 11 ∨ a = 12 ∨ a = 13 := by omega
      rcases h4 with h4 | h4 | h4 | h4
      · exact tgI_no14 (kk 10 17 14 rfl h4)
      · exact tgI_no14 (kk 11 523 14 rfl h4)
      · exact tgI_no19 (kk 12 501 19 rfl h4)
      · exact tgI_no14 (kk 13 6000 14 rfl h4)
    · exact tgI_no14 (kk a 523 14 e2 rfl)
theorem cH_xT {c s : Nat} {H : zH} {A A' : zM} (f : zFr c s (xcT A) A A') (h : cH H A) : cH H A' := cH_fr f h (fun e => by rcases e with e | e | e <;> omega) (fun a k _ _ e => by rcases e with e | e | e <;> omega)
theorem cF_xT {c s : Nat} {F : zFl} {A A' : zM} (f : zFr c s (xcT A) A A') (h : cF F A) : cF F A' := cF_fr f h (fun e => by rcases e with e | e | e <;> omega) (fun k e => by rcases e with e | e | e <;> omega)
theorem cKp_fr {c s : Nat} {X : Nat → Nat → Prop} {K : Nat} {A A' : zM} (f : zFr c s X A A') (h : cKp K A) (x : ∀ k, ¬ X 12 k) : cKp K A' := by
  have hn := z_new_ge A
  have q : ∀ k, zP zQ A' 12 k = zP zQ A 12 k := fun k => zFr_P f _ (by omega) (x k)
  refine ⟨h.1, fun s hs => ?_, fun s h1 h2 => by rw [q]; exact h.2.2.1 s h1 h2, fun s s' h1 h2 h3 => by rw [q, q]; exact h.2.2.2 s s' h1 h2 h3⟩
  rw [q]
  exact ⟨(h.2.1 s hs).1, zFr_hd f (h.2.1 s hs).2⟩
theorem cHi_fr {c s : Nat} {X : Nat → Nat → Prop} {hi : yHs} {lo n K : Nat} {A A' : zM} (f : zFr c s X A A') (hk : cKp K A) (h : cHi hi lo n K A) (x : ∀ k, ¬ X 12 k) (x2 : ∀ a k, 57 ≤ a → z_hd zQ A a = some (14, 523) → ¬ X a k) : cHi hi lo n K A' := by
  have hn := z_new_ge A
  intro t t1 t2
  obtain ⟨a, b⟩ := h t t1 t2
  have hp := hk.2.1 _ a
  refine ⟨a, cY_cg b (fun j _ => ?_)⟩
  show zI A' (zP zQ A' 12 (t % 501)) j = _
  rw [zFr_P f _ (by omega) (x _)]
  exact zFr_I f _ (z_hd_lt hp.2) (x2 _ _ hp.1 hp.2)
