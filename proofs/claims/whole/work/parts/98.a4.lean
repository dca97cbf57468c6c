/-! S LEVEL: acts that only tell; transpose; acts on instruments and chests, in one memory. -/
theorem SC_st {W : zW} {al : Nat → Nat} {A : zM} (hw : SW W) (h : SC W al A) (st : Int32) : SC (wwG W, wwF W, wwJ W, wwH W, wwP W, wwB W, wwR W, st) al (z_wI A 1 7 st) := by
  have f : zFr 0 0 (fun a k => a = 1 ∧ k = 7) A (z_wI A 1 7 st) := zFr_wI (X := fun a k => a = 1 ∧ k = 7) ⟨rfl, rfl⟩
  exact SC_S hw h (cG_fr f h.1 ⟨by omega, by omega, by omega⟩ (fun k => by omega) (fun a k t n hd ht e => by have := hd_lt56 hd ht; omega)) (zI_wI_s ..) (zFr_mono f (Nat.le_refl _) (Nat.le_refl _) (fun a k e => Or.inl ⟨e.1, by omega⟩))
theorem SR_st {W : zW} {B : zM} (hw : SW W) (h : SR W B) (st : Int32) : SR (wwG W, wwF W, wwJ W, wwH W, wwP W, wwB W, wwR W, st) (z_wI B 15 0 st) := by
  have f : zFr 0 0 (fun a k => a = 15 ∧ k = 0) B (z_wI B 15 0 st) := zFr_wI (X := fun a k => a = 15 ∧ k = 0) ⟨rfl, rfl⟩
  exact SR_S hw h (rG_fr f h.1 ⟨by omega, by omega, by omega⟩ (fun a k _ _ e => by omega)) (zI_wI_s ..) (zFr_mono f (Nat.le_refl _) (Nat.le_refl _) (fun a k e => Or.inl ⟨e.1, by omega⟩))
theorem sim_st {W : zW} {al : Nat → Nat} {M : zM} {v : Int32} {st : Int32} {cA : zR} {rA : zM → zR} (hC : SC W al M) (hR : SR W M) (hw : SW W) (h1 : cA = some (some (.int v), z_wI M 1 7 st)) (h2 : ∀ B, SR W B → rA B = some (some (.int v), z_wI B 15 0 st)) : Step tvI W M cA rA := by
  have F1 : zFr 0 0 xCl M (z_wI M 1 7 st) := zFr_wI (X := xCl) (by unfold xCl; omega)
  have hR1 := SR_C hw F1 hR
  have hw' : SW (wwG W, wwF W, wwJ W, wwH W, wwP W, wwB W, wwR W, st) := SW_S hw hw.1 (fun _ => rfl)
  refine Step_of (al := al) (sc_lt hC) ⟨_, rfl⟩ h1 (h2 _ hR1) (SC_st hw hC st) F1 (SR_st hw hR1 st) (zFr_wI (X := xRf) (by unfold xRf; omega)) hw' ?_ ?_
  · show 0 + 3 * gN (wwG W) + yqK (wwP W) ≤ 8 + 3 * gN (wwG W) + yqK (wwP W)
    omega
  · show 0 + 2100 * gN (wwG W) + 523 * yqK (wwP W) ≤ 8264 + 2100 * gN (wwG W) + 523 * yqK (wwP W)
    omega
theorem S_fallen (d : Nat) {W : zW} {al : Nat → Nat} {M : zM} (hC : SC W al M) (hR : SR W M) (hw : SW W) (k q : Int32) : Step tvI W M (z_den zQ (d + 60) mP_fallen [.ref 1, .int k, .int q] M) (fun B => z_den zQ (d + 60) mQ_fallen [.ref 15, .int k, .int q] B) :=
  sim_st hC hR hw (P_fallen (d + 58) hC.2.1 hw.2.1) (fun B hB => Q_fallen (d + 58) hB.2.1 hw.2.1)
/-! transpose -/
theorem xcF_no {A : zM} {a k : Nat} (h : xcF A a k) : (a = 1 ∧ (k = 3 ∨ k = 4 ∨ k = 5 ∨ k = 6 ∨ k = 7)) ∨ (a = 2 ∧ (zI A 1 3).toNatClampNeg ≤ k) ∨ a = 14 ∨ 56 ≤ a := by
  rcases h with h | h | h
  · have := xcS_no h; omega
  · omega
  · omega
theorem SC_F {c s : Nat} {W : zW} {al al' : Nat → Nat} {A A' : zM} {G' : zG} {F' : zFl} {st : Int32} (hw : SW W) (h : SC W al A) (hg : cG G' al' A') (hF : cF F' A') (h7 : zI A' 1 7 = st) (f : zFr c s (xcF A) A A') : SC (G', F', wwJ W, wwH W, wwP W, wwB W, wwR W, st) al' A' := by
  obtain ⟨k1, k2, k3, k4, k5, k6, k7, k8⟩ := h
  have hn := z_new_ge A
  have n14 : ∀ a k, 57 ≤ a → z_hd zQ A a = some (14, 523) → ¬ xcF A a k := fun a k ha hd x => by
    rcases x with x | x | x
    · exact xcS_14 ha hd x
    · omega
    · omega
  have ntg : ∀ a k g, z_hd zQ A a = some g → tgI g → ¬ xcF A a k := fun a k g hd ht x => by
    have := tg_56 hd ht
    rcases x with x | x | x
    · exact xcS_tg hd ht x
    · omega
    · omega
  have q : ∀ a k, 3 ≤ a → a ≤ 13 → zI A' a k = zI A a k := fun a k e1 e2 => zFr_I f _ (by omega) (fun x => by have := xcF_no x; omega)
  refine ⟨hg, hF, cJ_fr f k3 (fun x => by have := xcF_no x; omega) (fun x => by have := xcF_no x; omega) (fun k x => by have := xcF_no x; omega) ntg, cH_fr f k4 (fun x => by have := xcF_no x; omega) (fun a k _ _ x => by have := xcF_no x; omega), ⟨cP_fr f k5.1 (fun a k e x => by have := xcF_no x; omega), cKp_fr f k5.2.1 (fun k x => by have := xcF_no x; omega), by rw [q _ _ (by omega) (by omega)]; exact k5.2.2⟩, by rw [q _ _ (by omega) (by omega)]; exact k6, h7, fun hb => ?_⟩
  obtain ⟨j1, j2⟩ := k8 hb
  have hr := (hw.2.2.2.2.1 hb).1
  have hR := hw.1.1
  refine ⟨⟨cHi_fr f k5.2.1 j1.1 (fun k x => by have := xcF_no x; omega) n14, by rw [q _ _ (by omega) (by omega)]; exact j1.2⟩, ?_⟩
  have e1 : (zI A 1 3).toNatClampNeg = gR (wwG W) := by rw [k1.1]; exact zn_N (by omega)
  show zP zQ A' 3 16 = zP zQ A' 2 (wwR W)
  rw [zFr_P f _ (by omega) (fun x => by have := xcF_no x; omega), zFr_P f _ (by omega) (fun x => by have := xcF_no x; omega)]; exact j2
theorem SR_F {W : zW} {B B' : zM} {G' : zG} {F' : zFl} {st : Int32} (hw : SW W) (h : SR W B) (hg : rG G' B') (hF : rF F' B') (h0 : zI B' 15 0 = st) (f : zFr 0 0 xrF B B') : SR (G', F', wwJ W, wwH W, wwP W, wwB W, wwR W, st) B' := by
  obtain ⟨k1, k2, k3, k4, k5, k6, k7, k8⟩ := h
  have hn := z_new_ge B
  have q : ∀ a k, (a = 15 ∧ k ≠ 0 ∧ k ≠ 1 ∧ k ≠ 4 ∧ k ≠ 13 ∧ k ≠ 65) ∨ (26 ≤ a ∧ a ≤ 52) → zI B' a k = zI B a k := fun a k e => zFr_I f _ (by omega) (fun x => by unfold xrF xrS at x; omega)
  refine ⟨hg, hF, rJ_fx f k3 (fun x => by unfold xrF xrS at x; omega) (fun x => by unfold xrF xrS at x; omega) (fun a k _ x => by unfold xrF xrS at x; omega), rH_fr f k4 (fun x => by unfold xrF xrS at x; omega) (fun x => by unfold xrF xrS at x; omega) (fun a k _ _ x => by unfold xrF xrS at x; omega), ⟨rY_cg k5.1 (fun a k e => q a k (by omega)), by rw [q _ _ (by omega)]; exact k5.2⟩, by rw [q _ _ (by omega)]; exact k6, h0, fun hb => ?_⟩
  obtain ⟨j1, j2⟩ := k8 hb
  exact ⟨rQ1_cg (hw.2.2.2.2.1 hb).2 j1 (fun a k e => q a k (by omega)), by rw [q _ _ (by omega)]; exact j2⟩
theorem k_oTransp {pl : Bool} {G : zG} {F : zFl} (x y n : Int32) : gN (oTransp pl G F x y n).2.2.1 = gN G ∧ (pl = true → (oTransp pl G F x y n).2.2.1 = G) := by
  unfold oTransp
  refine pif_i (fun r : Int32 × Int32 × zG × zFl => gN r.2.2.1 = gN G ∧ (pl = true → r.2.2.1 = G)) (fun _ => ?_) (fun _ => ⟨rfl, fun _ => rfl⟩)
  split
  · exact ⟨rfl, fun _ => rfl⟩
  · next hp =>
    split
    · exact ⟨rfl, fun _ => rfl⟩
    · split
      · exact ⟨rfl, fun _ => rfl⟩
      · exact ⟨rfl, fun q => absurd q hp⟩
theorem S_transpose (d : Nat) {W : zW} {al : Nat → Nat} {M : zM} (hC : SC W al M) (hR : SR W M) (hw : SW W) (x y n : Int32) : Step tvI W M (z_den zQ (d + 60) mP_transpose [.ref 1, .int x, .int y, .int n] M) (fun B => z_den zQ (d + 60) mQ_transpose [.ref 15, .int x, .int y, .int n] B) := by
  obtain ⟨M1, al', e1, e2, e3, e4, e5⟩ := P_transpose (d + 56) (x := x) (y := y) (n := n) hC.1 hw.1 hC.2.1 hC.2.2.2.2.2.1
  have F1 : zFr 0 0 xCl M M1 := zFr_mono e5 (Nat.le_refl _) (Nat.le_refl _) (fun a k x => by
    rcases x with x | x | x
    · exact xcS_C hC.1.2.2.2.2.2.2.2.2 a k x
    · unfold xCl; omega
    · unfold xCl; omega)
  have hR1 := SR_C hw F1 hR
  obtain ⟨M2, g1, g2, g3, g4, g5⟩ := Q_transpose (d + 55) (x := x) (y := y) (n := n) hR1.1 hw.1 hR1.2.1 hR1.2.2.2.2.2.1
  obtain ⟨w1, w2⟩ := wG_transp (pl := wwB W) (x := x) (y := y) (n := n) hw.1 hw.2.1
  obtain ⟨k1, k2⟩ := k_oTransp (pl := wwB W) (G := wwG W) (F := wwF W) x y n
  have hw' : SW ((oTransp (wwB W) (wwG W) (wwF W) x y n).2.2.1, (oTransp (wwB W) (wwG W) (wwF W) x y n).2.2.2, wwJ W, wwH W, wwP W, wwB W, wwR W, (oTransp (wwB W) (wwG W) (wwF W) x y n).2.1) := by
    have := SW_S (st := (oTransp (wwB W) (wwG W) (wwF W) x y n).2.1) hw w1 k2
    exact ⟨this.1, w2, this.2.2⟩
  refine Step_of (al := al) (sc_lt hC) ⟨_, rfl⟩ e1 g1 (SC_F hw hC e2 e3 e4 e5) F1 (SR_F hw hR1 g2 g3 g4 g5) (zFr_mono g5 (Nat.le_refl _) (Nat.le_refl _) (fun a k x => by unfold xrF xrS at x; unfold xRf; omega)) hw' ?_ ?_
  · show 0 + 3 * gN (wwG W) + yqK (wwP W) ≤ 8 + 3 * gN (oTransp (wwB W) (wwG W) (wwF W) x y n).2.2.1 + yqK (wwP W)
    omega
  · show 0 + 2100 * gN (wwG W) + 523 * yqK (wwP W) ≤ 8264 + 2100 * gN (oTransp (wwB W) (wwG W) (wwF W) x y n).2.2.1 + 523 * yqK (wwP W)
    omega
/-! chests -/
theorem SC_H {W : zW} {al : Nat → Nat} {A A' : zM} {H' : zH} {st : Int32} (h : SC W al A) (hH : cH H' A') (h7 : zI A' 1 7 = st) (f : zFr 0 0 xcH A A') : SC (wwG W, wwF W, wwJ W, H', wwP W, wwB W, wwR W, st) al A' := by
  obtain ⟨k1, k2, k3, k4, k5, k6, k7, k8⟩ := h
  have hn := z_new_ge A
  have q : ∀ a k, (a = 3 ∧ k ≠ 11) ∨ (10 ≤ a ∧ a ≤ 14) → zI A' a k = zI A a k := fun a k e => zFr_I f _ (by omega) (fun x => by unfold xcH at x; omega)
  refine ⟨cG_fr f k1 ⟨fun x => by unfold xcH at x; omega, fun x => by unfold xcH at x; omega, fun x => by unfold xcH at x; omega⟩ (fun k x => by unfold xcH at x; omega) (fun a k t n hd ht x => by have := hd_lt56 hd ht; unfold xcH at x; omega), cF_fr f k2 (fun x => by unfold xcH at x; omega) (fun k x => by unfold xcH at x; omega), cJ_fr f k3 (fun x => by unfold xcH at x; omega) (fun x => by unfold xcH at x; omega) (fun k x => by unfold xcH at x; omega) (fun a k g hd ht x => by have := tg_56 hd ht; unfold xcH at x; omega), hH, ⟨cP_fr f k5.1 (fun a k e x => by unfold xcH at x; omega), cKp_fr f k5.2.1 (fun k x => by unfold xcH at x; omega), by rw [q _ _ (by omega)]; exact k5.2.2⟩, by rw [q _ _ (by omega)]; exact k6, h7, fun hb => ?_⟩
  obtain ⟨j1, j2⟩ := k8 hb
  refine ⟨⟨cHi_fr f k5.2.1 j1.1 (fun k x => by unfold xcH at x; omega) (fun a k e _ x => by unfold xcH at x; omega), by rw [q _ _ (by omega)]; exact j1.2⟩, ?_⟩
  show zP zQ A' 3 16 = zP zQ A' 2 (wwR W)
  rw [zFr_P f _ (by omega) (fun x => by unfold xcH at x; omega), zFr_P f _ (by omega) (fun x => by unfold xcH at x; omega)]; exact j2
theorem SR_H {W : zW} {B B' : zM} {H' : zH} {st : Int32} (hw : SW W) (h : SR W B) (hH : rH H' B') (h0 : zI B' 15 0 = st) (f : zFr 0 0 xrH B B') : SR (wwG W, wwF W, wwJ W, H', wwP W, wwB W, wwR W, st) B' := by
  obtain ⟨k1, k2, k3, k4, k5, k6, k7, k8⟩ := h
  have hn := z_new_ge B
  have q : ∀ a k, (a = 15 ∧ k ≠ 0 ∧ k ≠ 23 ∧ k ≠ 27) ∨ (16 ≤ a ∧ a ≤ 32) ∨ (39 ≤ a ∧ a ≤ 55) → zI B' a k = zI B a k := fun a k e => zFr_I f _ (by omega) (fun x => by unfold xrH at x; omega)
  refine ⟨rG_fr f k1 ⟨fun x => by unfold xrH at x; omega, fun x => by unfold xrH at x; omega, fun x => by unfold xrH at x; omega⟩ (fun a k _ _ x => by unfold xrH at x; omega), rF_fr f k2 (fun x => by unfold xrH at x; omega) (fun k => ⟨fun x => by unfold xrH at x; omega, fun x => by unfold xrH at x; omega⟩), rJ_fx f k3 (fun x => by unfold xrH at x; omega) (fun x => by unfold xrH at x; omega) (fun a k _ x => by unfold xrH at x; omega), hH, ⟨rY_cg k5.1 (fun a k e => q a k (by omega)), by rw [q _ _ (by omega)]; exact k5.2⟩, by rw [q _ _ (by omega)]; exact k6, h0, fun hb => ?_⟩
  obtain ⟨j1, j2⟩ := k8 hb
  exact ⟨rQ1_cg (hw.2.2.2.2.1 hb).2 j1 (fun a k e => q a k (by omega)), by rw [q _ _ (by omega)]; exact j2⟩
theorem sim_H {W : zW} {al : Nat → Nat} {M : zM} {res : Int32 × Int32 × zH} {cA : zR} {rA : zM → zR} (hC : SC W al M) (hR : SR W M) (hw : SW W) (h1 : cResH M res cA) (h2 : ∀ B, SR W B → rResH B res (rA B)) (hh : wH (jN (wwJ W)) res.2.2) : Step tvI W M cA rA := by
  obtain ⟨M1, e1, e2, e3, e4⟩ := h1
  have F1 : zFr 0 0 xCl M M1 := zFr_mono e4 (Nat.le_refl _) (Nat.le_refl _) (fun a k x => by unfold xcH at x; unfold xCl; omega)
  have hR1 := SR_C hw F1 hR
  obtain ⟨M2, g1, g2, g3, g4⟩ := h2 M1 hR1
  have hw' : SW (wwG W, wwF W, wwJ W, res.2.2, wwP W, wwB W, wwR W, res.2.1) := ⟨hw.1, hw.2.1, hw.2.2.1, hh, hw.2.2.2.2⟩
  refine Step_of (al := al) (sc_lt hC) ⟨_, rfl⟩ e1 g1 (SC_H hC e2 e3 e4) F1 (SR_H hw hR1 g2 g3 g4) (zFr_mono g4 (Nat.le_refl _) (Nat.le_refl _) (fun a k x => by unfold xrH at x; unfold xRf; omega)) hw' ?_ ?_
  · show 0 + 3 * gN (wwG W) + yqK (wwP W) ≤ 8 + 3 * gN (wwG W) + yqK (wwP W)
    omega
  · show 0 + 2100 * gN (wwG W) + 523 * yqK (wwP W) ≤ 8264 + 2100 * gN (wwG W) + 523 * yqK (wwP W)
    omega
theorem h_oWire {n : Nat} {pl : Bool} {H : zH} (w : wH n H) (t c i : Int32) : wH n (oWire pl H t c i).2.2 := by
  unfold oWire
  refine pif_i (fun r : Int32 × Int32 × zH => wH n r.2.2) (fun g => ?_) (fun _ => w)
  split
  · exact w
  · exact w_upW w g.2
theorem h_oChe {n : Nat} {pl : Bool} {H : zH} (w : wH n H) (k x : Int32) : wH n (oChe pl H k x).2.2 := by
  unfold oChe
  refine pif_i (fun r : Int32 × Int32 × zH => wH n r.2.2) (fun g => ?_) (fun _ => w)
  split
  · exact w
  · refine pif_i (fun r : Int32 × Int32 × zH => wH n r.2.2) (fun _ => w) (fun g2 => ?_)
    refine pif_i (fun r : Int32 × Int32 × zH => wH n r.2.2) (fun _ => w) (fun g3 => ?_)
    obtain ⟨k', hk, rfl⟩ := zn_ex g.1
    obtain ⟨x', hx, rfl⟩ := zn_ex (show 0 ≤ x.toInt by omega)
    have g1 := g.2
    rw [zn_toInt hk] at g1
    rw [zn_toInt hx] at g2
    have w1 := w.1
    have w4 := w.2.2.2.1
    have a1 : ¬ chN H = 16 := fun q => g2 (Or.inl q)
    have a2 : ¬ ((x' : Int) > 200 - (chF H (chN H) : Int)) := fun q => g2 (Or.inr q)
    rw [zn_N hk, zn_N hx]
    exact w_adH w (by omega) (by omega) (by omega)
theorem h_oPla {pl : Bool} {J : zJ} {H : zH} (w : wH (jN J) H) (c i x : Int32) : wH (jN J) (oPla pl J H c i x).2.2 := by
  unfold oPla
  refine pif_i (fun r : Int32 × Int32 × zH => wH (jN J) r.2.2) (fun g => ?_) (fun _ => w)
  split
  · exact w
  · refine pif_i (fun r : Int32 × Int32 × zH => wH (jN J) r.2.2) (fun g2 => ?_) (fun _ => w)
    exact pif_i (fun r : Int32 × Int32 × zH => wH (jN J) r.2.2) (fun _ => w_upP w g.2) (fun _ => w)
theorem S_wire (d : Nat) {W : zW} {al : Nat → Nat} {M : zM} (hC : SC W al M) (hR : SR W M) (hw : SW W) (t c i : Int32) : Step tvI W M (z_den zQ (d + 60) mP_wire [.ref 1, .int t, .int c, .int i] M) (fun B => z_den zQ (d + 60) mQ_wire [.ref 15, .int t, .int c, .int i] B) :=
  sim_H hC hR hw (P_wire (d + 58) hw.2.2.2.1 hC.2.2.2.1 hC.2.2.2.2.2.1) (fun B hB => Q_wire (d + 58) hw.2.2.2.1 hB.2.2.2.1 hB.2.2.2.2.2.1) (h_oWire hw.2.2.2.1 t c i)
theorem S_chest (d : Nat) {W : zW} {al : Nat → Nat} {M : zM} (hC : SC W al M) (hR : SR W M) (hw : SW W) (k x : Int32) : Step tvI W M (z_den zQ (d + 60) mP_chest [.ref 1, .int k, .int x] M) (fun B => z_den zQ (d + 60) mQ_chest [.ref 15, .int k, .int x] B) :=
  sim_H hC hR hw (P_chest (d + 56) hw.2.2.2.1 hC.2.2.2.1 hC.2.2.2.2.2.1) (fun B hB => Q_chest (d + 58) hw.2.2.2.1 hB.2.2.2.1 hB.2.2.2.2.2.1) (h_oChe hw.2.2.2.1 k x)
theorem S_place (d : Nat) {W : zW} {al : Nat → Nat} {M : zM} (hC : SC W al M) (hR : SR W M) (hw : SW W) (c i x : Int32) : Step tvI W M (z_den zQ (d + 60) mP_place [.ref 1, .int c, .int i, .int x] M) (fun B => z_den zQ (d + 60) mQ_place [.ref 15, .int c, .int i, .int x] B) :=
  sim_H hC hR hw (P_place (d + 57) hw.2.2.1 hC.2.2.1 hw.2.2.2.1 hC.2.2.2.1 hC.2.2.2.2.2.1) (fun B hB => Q_place (d + 57) hw.2.2.1 hB.2.2.1 hw.2.2.2.1 hB.2.2.2.1 hB.2.2.2.2.2.1) (h_oPla hw.2.2.2.1 c i x)
