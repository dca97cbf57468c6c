/-! S LEVEL: ALL IN ONE MEMORY. -/
abbrev zW := zG × zFl × zJ × zH × yP × Bool × Nat × Int32
def wwG (W : zW) : zG := W.1
def wwF (W : zW) : zFl := W.2.1
def wwJ (W : zW) : zJ := W.2.2.1
def wwH (W : zW) : zH := W.2.2.2.1
def wwP (W : zW) : yP := W.2.2.2.2.1
def wwB (W : zW) : Bool := W.2.2.2.2.2.1
def wwR (W : zW) : Nat := W.2.2.2.2.2.2.1
def wwT (W : zW) : Int32 := W.2.2.2.2.2.2.2
/-- the class -/
def SC (W : zW) (al : Nat → Nat) (A : zM) : Prop := cG (wwG W) al A ∧ cF (wwF W) A ∧ cJ (wwJ W) A ∧ cH (wwH W) A ∧ cQ (wwP W) A ∧ zI A 3 15 = bI (wwB W) ∧ zI A 1 7 = wwT W ∧ (wwB W = true → cQ1 (wwP W) A ∧ zP zQ A 3 16 = zP zQ A 2 (wwR W))
/-- the reference -/
def SR (W : zW) (B : zM) : Prop := rG (wwG W) B ∧ rF (wwF W) B ∧ rJ (wwJ W) B ∧ rH (wwH W) B ∧ rQ (wwP W) B ∧ zI B 15 36 = bI (wwB W) ∧ zI B 15 0 = wwT W ∧ (wwB W = true → rQ1 (wwP W) B ∧ zI B 15 37 = zn (wwR W))
/-- what holds of the numbers alone -/
def SW (W : zW) : Prop := wG (wwG W) ∧ wFl (wwF W) ∧ wJ (wwJ W) ∧ wH (jN (wwJ W)) (wwH W) ∧ (wwB W = true → wwR W < gR (wwG W) ∧ wQ (jN (wwJ W)) (gZ (wwG W) (wwR W)) (wwP W)) ∧ (wwB W ≠ true → yqL (wwP W) = [] ∧ iv (jN (wwJ W)) (yqS (wwP W)) [] ∧ (yG (yqS (wwP W)) 6 = 0 ∨ yG (yqS (wwP W)) 6 = 1)) ∧ yqU (wwP W) ≤ 20000
theorem hd_st {A : zM} {a : Nat} {g : Nat × Nat} (h : z_hd zQ A a = some g) (ha : a < 56) : zQh a = g := by
  have e : z_hd zQ A a = some (zQh a) := by
    unfold z_hd
    rw [show Nat.blt a zQ.1 = true from Nat.ble_eq_true_of_le ha]; rfl
  exact Option.some.inj (e.symm.trans h)
theorem tg_56 {A : zM} {a : Nat} {g : Nat × Nat} (h : z_hd zQ A a = some g) (ht : tgI g) : 56 ≤ a := by
  by_cases ha : a < 56
  · exfalso
    have e := hd_st h ha
    have k : ∀ a, a < 56 → ¬ ((zQh a).1 ≤ 3 ∨ (zQh a).1 = 5 ∨ (zQh a).1 = 6 ∨ (zQh a).1 = 7 ∨ zQh a = (16, 8)) := by decide +kernel
    exact k a ha (by rw [e]; exact ht)
  · omega
def xRf (a _k : Nat) : Prop := 15 ≤ a ∧ a ≤ 55
def xCl (a _k : Nat) : Prop := a ≤ 14 ∨ 57 ≤ a
theorem SC_R {W : zW} {al : Nat → Nat} {A A' : zM} (f : zFr 0 0 xRf A A') (h : SC W al A) : SC W al A' := by
  obtain ⟨h1, h2, h3, h4, h5, h6, h7, h8⟩ := h
  have hn := z_new_ge A
  have q : ∀ a k, a ≤ 14 → zI A' a k = zI A a k := fun a k e => zFr_I f _ (by omega) (fun x => by unfold xRf at x; omega)
  have qP : ∀ a k, a ≤ 14 → zP zQ A' a k = zP zQ A a k := fun a k e => zFr_P f _ (by omega) (fun x => by unfold xRf at x; omega)
  refine ⟨cG_fr f h1 ⟨fun x => by unfold xRf at x; omega, fun x => by unfold xRf at x; omega, fun x => by unfold xRf at x; omega⟩ (fun k x => by unfold xRf at x; omega) (fun a k t n hd ht x => by have := hd_lt56 hd ht; unfold xRf at x; omega), cF_fr f h2 (fun x => by unfold xRf at x; omega) (fun k x => by unfold xRf at x; omega), cJ_fr f h3 (fun x => by unfold xRf at x; omega) (fun x => by unfold xRf at x; omega) (fun k x => by unfold xRf at x; omega) (fun a k g hg ht x => by have := tg_56 hg ht; unfold xRf at x; omega), cH_fr f h4 (fun x => by unfold xRf at x; omega) (fun a k _ _ x => by unfold xRf at x; omega), ⟨cP_fr f h5.1 (fun a k e x => by unfold xRf at x; omega), cKp_fr f h5.2.1 (fun k x => by unfold xRf at x; omega), by rw [q _ _ (by omega)]; exact h5.2.2⟩, by rw [q _ _ (by omega)]; exact h6, by rw [q _ _ (by omega)]; exact h7, fun hb => ?_⟩
  obtain ⟨k1, k2⟩ := h8 hb
  exact ⟨⟨cHi_fr f h5.2.1 k1.1 (fun k x => by unfold xRf at x; omega) (fun a k e _ x => by unfold xRf at x; omega), by rw [q _ _ (by omega)]; exact k1.2⟩, by rw [qP _ _ (by omega), qP _ _ (by omega)]; exact k2⟩
theorem rJ_fx {c s : Nat} {X : Nat → Nat → Prop} {J : zJ} {B B' : zM} (f : zFr c s X B B') (h : rJ J B) (x1 : ¬ X 15 14) (x2 : ¬ X 15 22) (x3 : ∀ a k, (26 ≤ a ∧ a ≤ 29) ∨ a = 31 ∨ a = 32 → ¬ X a k) : rJ J B' := by
  have hn := z_new_ge B
  have q : ∀ a k, (26 ≤ a ∧ a ≤ 29) ∨ a = 31 ∨ a = 32 → zI B' a k = zI B a k := fun a k e => zFr_I f _ (by omega) (x3 a k e)
  obtain ⟨h1, h2, h3, h4⟩ := h
  refine ⟨by rw [zFr_I f _ (by omega) x1]; exact h1, by rw [zFr_D f _ (by omega) x2]; exact h2, fun i hi => ?_, fun i h1 h2 => by rw [q _ _ (by omega), q _ _ (by omega)]; exact h4 i h1 h2⟩
  obtain ⟨a1, a2, a3, a4, a5, a6⟩ := h3 i hi
  exact ⟨by rw [q _ _ (by omega)]; exact a1, by rw [q _ _ (by omega)]; exact a2, by rw [q _ _ (by omega)]; exact a3, by rw [q _ _ (by omega)]; exact a4, by rw [zFr_D f _ (by omega) (x3 32 i (by omega))]; exact a5, fun k hk => by rw [q _ _ (by omega)]; exact a6 k hk⟩
theorem rY_cg {S : yR} {l : yL} {B B' : zM} (h : rY S l B) (e : ∀ a k, (a = 15 ∧ ((41 ≤ k ∧ k ≤ 52) ∨ k = 58)) ∨ a = 30 ∨ a = 39 ∨ (43 ≤ a ∧ a ≤ 51) → zI B' a k = zI B a k) : rY S l B' := by
  obtain ⟨⟨k1, k2, k3, k4, k5⟩, ⟨l1, l2⟩, ⟨a1, a2, a3, a4, a5, a6⟩, b, c, le, d1, d2, d3⟩ := h
  refine ⟨⟨?_, ?_, fun i hi => ?_, fun j hj => ?_, fun j hj => ?_⟩, ⟨?_, fun k hk => ?_⟩, ⟨?_, ?_, ?_, ?_, ?_, ?_⟩, fun t ht => ?_, fun t ht => ?_, fun t ht => ?_, ?_, ?_, fun hh => ?_⟩
  · rw [e _ _ (by omega)]; exact k1
  · rw [e _ _ (by omega)]; exact k2
  · rw [e _ _ (by omega), e _ _ (by omega), e _ _ (by omega)]; exact k3 i hi
  · rw [e _ _ (by omega)]; exact k4 j hj
  · rw [e _ _ (by omega)]; exact k5 j hj
  · rw [e _ _ (by omega)]; exact l1
  · rw [e _ _ (by omega), e _ _ (by omega), e _ _ (by omega)]; exact l2 k hk
  · rw [e _ _ (by omega)]; exact a1
  · rw [e _ _ (by omega)]; exact a2
  · rw [e _ _ (by omega)]; exact a3
  · rw [e _ _ (by omega)]; exact a4
  · rw [e _ _ (by omega)]; exact a5
  · rw [e _ _ (by omega)]; exact a6
  · rw [e _ _ (by omega)]; exact b t ht
  · rw [e _ _ (by omega)]; exact c t ht
  · rw [e _ _ (by omega)]; exact le t ht
  · rw [e _ _ (by omega)]; exact d1
  · rw [e _ _ (by omega)]; exact d2
  · rw [e _ _ (by omega), e _ _ (by omega)]; exact d3 hh
theorem rQ1_cg {n cnt : Nat} {P : yP} {B B' : zM} (hw : wQ n cnt P) (h : rQ1 P B) (e : ∀ a k, a = 52 ∨ (a = 15 ∧ (k = 62 ∨ k = 63)) → zI B' a k = zI B a k) : rQ1 P B' :=
  ⟨fun t t1 t2 => rW_cg (h.1 t t1 t2) (wQ_l hw t1 t2) (fun m _ _ => e _ _ (by omega)), by rw [e _ _ (by omega)]; exact h.2.1, by rw [e _ _ (by omega)]; exact h.2.2⟩
theorem SR_C {c s : Nat} {W : zW} {B B' : zM} (hw : SW W) (f : zFr c s xCl B B') (h : SR W B) : SR W B' := by
  obtain ⟨h1, h2, h3, h4, h5, h6, h7, h8⟩ := h
  have hn := z_new_ge B
  have q : ∀ a k, 15 ≤ a → a ≤ 55 → zI B' a k = zI B a k := fun a k e1 e2 => zFr_I f _ (by omega) (fun x => by unfold xCl at x; omega)
  refine ⟨rG_fr f h1 ⟨fun x => by unfold xCl at x; omega, fun x => by unfold xCl at x; omega, fun x => by unfold xCl at x; omega⟩ (fun a k _ _ x => by unfold xCl at x; omega), rF_fr f h2 (fun x => by unfold xCl at x; omega) (fun k => ⟨fun x => by unfold xCl at x; omega, fun x => by unfold xCl at x; omega⟩), rJ_fx f h3 (fun x => by unfold xCl at x; omega) (fun x => by unfold xCl at x; omega) (fun a k _ x => by unfold xCl at x; omega), rH_fr f h4 (fun x => by unfold xCl at x; omega) (fun x => by unfold xCl at x; omega) (fun a k _ _ x => by unfold xCl at x; omega), ⟨rY_cg h5.1 (fun a k e => q a k (by omega) (by omega)), by rw [q _ _ (by omega) (by omega)]; exact h5.2⟩, by rw [q _ _ (by omega) (by omega)]; exact h6, by rw [q _ _ (by omega) (by omega)]; exact h7, fun hb => ?_⟩
  obtain ⟨k1, k2⟩ := h8 hb
  exact ⟨rQ1_cg (hw.2.2.2.2.1 hb).2 k1 (fun a k e => q a k (by omega) (by omega)), by rw [q _ _ (by omega) (by omega)]; exact k2⟩
/-- a call of the law: the class's answer is the reference's, and all holds again -/
def tvI (v : Value) : Prop := ∃ x, v = .int x
def tvJ (v : Value) : Prop := ∃ x, v = .long x
def Step (T : Value → Prop) (W : zW) (M : zM) (cA : zR) (rA : zM → zR) : Prop := ∃ v M1 M2 W' al', T v ∧ cA = some (some v, M1) ∧ rA M1 = some (some v, M2) ∧ SC W' al' M2 ∧ SR W' M2 ∧ SW W' ∧ (∀ k, zI M1 56 k = zI M 56 k) ∧ (∀ k, zI M2 56 k = zI M 56 k) ∧ (∃ l1, M1.1 = M.1 ++ l1) ∧ ∃ l, M2.1 = M.1 ++ l ∧ l.length + 3 * gN (wwG W) + yqK (wwP W) ≤ 8 + 3 * gN (wwG W') + yqK (wwP W') ∧ zsm l + 2100 * gN (wwG W) + 523 * yqK (wwP W) ≤ 8264 + 2100 * gN (wwG W') + 523 * yqK (wwP W')
theorem Step_of {T : Value → Prop} {W W' : zW} {al al' : Nat → Nat} {M M1 M2 : zM} {v : Value} {c s : Nat} {cA : zR} {rA : zM → zR} (h56 : 56 < z_new zQ M) (hT : T v) (e1 : cA = some (some v, M1)) (e2 : rA M1 = some (some v, M2)) (hC : SC W' al' M1) (f1 : zFr c s xCl M M1) (hR : SR W' M2) (f2 : zFr 0 0 xRf M1 M2) (hw : SW W') (hc : c + 3 * gN (wwG W) + yqK (wwP W) ≤ 8 + 3 * gN (wwG W') + yqK (wwP W')) (hs : s + 2100 * gN (wwG W) + 523 * yqK (wwP W) ≤ 8264 + 2100 * gN (wwG W') + 523 * yqK (wwP W')) : Step T W M cA rA := by
  have k1 : ∀ k, zI M1 56 k = zI M 56 k := fun k => zFr_I f1 _ h56 (fun x => by unfold xCl at x; omega)
  have h56' := Nat.lt_of_lt_of_le h56 (zFr_ge f1)
  refine ⟨v, M1, M2, W', al', hT, e1, e2, SC_R f2 hC, hR, hw, k1, fun k => by rw [zFr_I f2 _ h56' (fun x => by unfold xRf at x; omega)]; exact k1 k, ?_, ?_⟩
  · obtain ⟨⟨l, el, l1, l2⟩, -⟩ := f1
    exact ⟨l, el⟩
  obtain ⟨⟨l, el, l1, l2⟩, -⟩ := f1
  obtain ⟨⟨l', el', l1', l2'⟩, -⟩ := f2
  have : l' = [] := List.eq_nil_of_length_eq_zero (by omega)
  subst this
  exact ⟨l, by rw [el', el, List.append_nil], by omega, by omega⟩
theorem sc_lt {W : zW} {al : Nat → Nat} {A : zM} (h : SC W al A) : 56 < z_new zQ A := by
  obtain ⟨L, hL⟩ := h.1.2.2.2.2.2.2.2.2
  exact z_hd_lt hL
