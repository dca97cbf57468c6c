/-! S LEVEL: acts on strips, in one memory. -/
theorem pif_i {α : Type} {P : Prop} {a b : α} (Q : α → Prop) (h1 : P → Q a) (h2 : ¬ P → Q b) : Q (pif P a b) := by
  by_cases g : P
  · rw [pif_T g]; exact h1 g
  · rw [pif_F g]; exact h2 g
theorem xcS_no {A : zM} {a k : Nat} (h : xcS A a k) : (a = 1 ∧ (k = 3 ∨ k = 4 ∨ k = 5 ∨ k = 7)) ∨ (a = 2 ∧ (zI A 1 3).toNatClampNeg ≤ k) ∨ 56 ≤ a := by
  rcases h with h | h | ⟨g, hh, ht⟩
  · exact Or.inl h
  · exact Or.inr (Or.inl h)
  · exact Or.inr (Or.inr (hd_lt56 (t := g.1) (n := g.2) hh ht))
theorem xcS_14 {A : zM} {a k n : Nat} (ha : 57 ≤ a) (hd : z_hd zQ A a = some (14, n)) : ¬ xcS A a k := by
  intro h
  rcases h with h | h | ⟨g, hh, ht⟩
  · omega
  · omega
  · have : g = (14, n) := Option.some.inj (hh.symm.trans hd)
    rw [this] at ht
    have ht : (14 : Nat) = 8 ∨ (14 : Nat) = 9 ∨ (14 : Nat) = 12 ∨ (14 : Nat) = 18 := ht
    omega
theorem xcS_tg {A : zM} {a k : Nat} {g : Nat × Nat} (hd : z_hd zQ A a = some g) (ht : tgI g) : ¬ xcS A a k := by
  have h56 := tg_56 hd ht
  intro h
  rcases h with h | h | ⟨g', hh, ht'⟩
  · omega
  · omega
  · have : g' = g := Option.some.inj (hh.symm.trans hd)
    subst this
    rcases ht with q | q | q | q | q
    · omega
    · omega
    · omega
    · omega
    · rw [q] at ht'
      have ht' : (16 : Nat) = 8 ∨ (16 : Nat) = 9 ∨ (16 : Nat) = 12 ∨ (16 : Nat) = 18 := ht'
      omega
theorem SC_S {c s : Nat} {W : zW} {al al' : Nat → Nat} {A A' : zM} {G' : zG} {st : Int32} (hw : SW W) (h : SC W al A) (hg : cG G' al' A') (h7 : zI A' 1 7 = st) (f : zFr c s (xcS A) A A') : SC (G', wwF W, wwJ W, wwH W, wwP W, wwB W, wwR W, st) al' A' := by
  obtain ⟨k1, k2, k3, k4, k5, k6, k7, k8⟩ := h
  have hn := z_new_ge A
  have q : ∀ a k, 3 ≤ a → a ≤ 14 → zI A' a k = zI A a k := fun a k e1 e2 => zFr_I f _ (by omega) (fun x => by have := xcS_no x; omega)
  refine ⟨hg, cF_fr f k2 (xcS_nF A).1 (xcS_nF A).2, cJ_fr f k3 (fun x => by have := xcS_no x; omega) (fun x => by have := xcS_no x; omega) (fun k x => by have := xcS_no x; omega) (fun a k g hd ht => xcS_tg hd ht), cH_fr f k4 (fun x => by have := xcS_no x; omega) (fun a k _ _ x => by have := xcS_no x; omega), ⟨cP_fr f k5.1 (fun a k e x => by have := xcS_no x; omega), cKp_fr f k5.2.1 (fun k x => by have := xcS_no x; omega), by rw [q _ _ (by omega) (by omega)]; exact k5.2.2⟩, by rw [q _ _ (by omega) (by omega)]; exact k6, h7, fun hb => ?_⟩
  obtain ⟨j1, j2⟩ := k8 hb
  have hr := (hw.2.2.2.2.1 hb).1
  have hR := hw.1.1
  refine ⟨⟨cHi_fr f k5.2.1 j1.1 (fun k x => by have := xcS_no x; omega) (fun a k e hd => xcS_14 e hd), by rw [q _ _ (by omega) (by omega)]; exact j1.2⟩, ?_⟩
  have e1 : (zI A 1 3).toNatClampNeg = gR (wwG W) := by rw [k1.1]; exact zn_N (by omega)
  show zP zQ A' 3 16 = zP zQ A' 2 (wwR W)
  rw [zFr_P f _ (by omega) (fun x => by have := xcS_no x; omega), zFr_P f _ (by omega) (fun x => by have := xcS_no x; omega)]; exact j2
theorem SR_S {W : zW} {B B' : zM} {G' : zG} {st : Int32} (hw : SW W) (h : SR W B) (hg : rG G' B') (h0 : zI B' 15 0 = st) (f : zFr 0 0 xrS B B') : SR (G', wwF W, wwJ W, wwH W, wwP W, wwB W, wwR W, st) B' := by
  obtain ⟨k1, k2, k3, k4, k5, k6, k7, k8⟩ := h
  have hn := z_new_ge B
  have q : ∀ a k, (a = 15 ∧ k ≠ 0 ∧ k ≠ 1 ∧ k ≠ 4 ∧ k ≠ 13) ∨ (26 ≤ a ∧ a ≤ 52) ∨ a = 54 ∨ a = 55 → zI B' a k = zI B a k := fun a k e => zFr_I f _ (by omega) (fun x => by unfold xrS at x; omega)
  refine ⟨hg, rF_fr f k2 (fun x => by unfold xrS at x; omega) (fun k => ⟨fun x => by unfold xrS at x; omega, fun x => by unfold xrS at x; omega⟩), rJ_fx f k3 (fun x => by unfold xrS at x; omega) (fun x => by unfold xrS at x; omega) (fun a k _ x => by unfold xrS at x; omega), rH_fr f k4 (fun x => by unfold xrS at x; omega) (fun x => by unfold xrS at x; omega) (fun a k _ _ x => by unfold xrS at x; omega), ⟨rY_cg k5.1 (fun a k e => q a k (by omega)), by rw [q _ _ (by omega)]; exact k5.2⟩, by rw [q _ _ (by omega)]; exact k6, h0, fun hb => ?_⟩
  obtain ⟨j1, j2⟩ := k8 hb
  exact ⟨rQ1_cg (hw.2.2.2.2.1 hb).2 j1 (fun a k e => q a k (by omega)), by rw [q _ _ (by omega)]; exact j2⟩
theorem SW_S {W : zW} {G' : zG} {st : Int32} (hw : SW W) (hg : wG G') (hp : wwB W = true → G' = wwG W) : SW (G', wwF W, wwJ W, wwH W, wwP W, wwB W, wwR W, st) := by
  obtain ⟨k1, k2, k3, k4, k5, k6, k7⟩ := hw
  refine ⟨hg, k2, k3, k4, fun hb => ?_, k6, k7⟩
  have e : G' = wwG W := hp hb
  show wwR W < gR G' ∧ wQ (jN (wwJ W)) (gZ G' (wwR W)) (wwP W)
  rw [e]; exact k5 hb
theorem xcS_56 {A : zM} (h56 : sc56 A) {k : Nat} : ¬ xcS A 56 k := by
  obtain ⟨L, hL⟩ := h56
  rintro (h | h | ⟨g, hh, ht⟩)
  · omega
  · omega
  · have : g = (20, L) := Option.some.inj (hh.symm.trans hL)
    rw [this] at ht
    have ht : (20 : Nat) = 8 ∨ (20 : Nat) = 9 ∨ (20 : Nat) = 12 ∨ (20 : Nat) = 18 := ht
    omega
theorem xcS_C {A : zM} (h56 : sc56 A) (a k : Nat) (h : xcS A a k) : xCl a k := by
  have := xcS_no h
  have : a ≠ 56 := fun e => xcS_56 h56 (k := k) (by rw [e] at h; exact h)
  unfold xCl; omega
theorem xrS_R (a k : Nat) (h : xrS a k) : xRf a k := by unfold xrS at h; unfold xRf; omega
theorem sim_S {W : zW} {al : Nat → Nat} {M : zM} {res : Int32 × Int32 × zG} {c s : Nat} {cA : zR} {rA : zM → zR} (hC : SC W al M) (hR : SR W M) (hw : SW W) (h1 : cRes c s M res cA) (h2 : ∀ B, SR W B → rRes B res (rA B)) (hg : wG res.2.2) (hp : wwB W = true → res.2.2 = wwG W) (hc : c + 3 * gN (wwG W) ≤ 8 + 3 * gN res.2.2) (hs : s + 2100 * gN (wwG W) ≤ 8264 + 2100 * gN res.2.2) : Step tvI W M cA rA := by
  obtain ⟨M1, al', e1, e2, e3, e4⟩ := h1
  have F1 : zFr c s xCl M M1 := zFr_mono e4 (Nat.le_refl _) (Nat.le_refl _) (xcS_C hC.1.2.2.2.2.2.2.2.2)
  have hR1 := SR_C hw F1 hR
  obtain ⟨M2, g1, g2, g3, g4⟩ := h2 M1 hR1
  have hw' : SW (res.2.2, wwF W, wwJ W, wwH W, wwP W, wwB W, wwR W, res.2.1) := SW_S hw hg hp
  refine Step_of (al := al) (sc_lt hC) ⟨_, rfl⟩ e1 g1 (SC_S hw hC e2 e3 e4) F1 (SR_S hw hR1 g2 g3 g4) (zFr_mono g4 (Nat.le_refl _) (Nat.le_refl _) xrS_R) hw' ?_ ?_
  · show c + 3 * gN (wwG W) + yqK (wwP W) ≤ 8 + 3 * gN res.2.2 + yqK (wwP W)
    omega
  · show s + 2100 * gN (wwG W) + 523 * yqK (wwP W) ≤ 8264 + 2100 * gN res.2.2 + 523 * yqK (wwP W)
    omega
theorem sim_SJ {W : zW} {al : Nat → Nat} {M : zM} {res : Int64 × Int32 × zG} {c s : Nat} {cA : zR} {rA : zM → zR} (hC : SC W al M) (hR : SR W M) (hw : SW W) (h1 : cResJ c s M res cA) (h2 : ∀ B, SR W B → rResJ B res (rA B)) (hg : wG res.2.2) (hp : wwB W = true → res.2.2 = wwG W) (hc : c + 3 * gN (wwG W) ≤ 8 + 3 * gN res.2.2) (hs : s + 2100 * gN (wwG W) ≤ 8264 + 2100 * gN res.2.2) : Step tvJ W M cA rA := by
  obtain ⟨M1, al', e1, e2, e3, e4⟩ := h1
  have F1 : zFr c s xCl M M1 := zFr_mono e4 (Nat.le_refl _) (Nat.le_refl _) (xcS_C hC.1.2.2.2.2.2.2.2.2)
  have hR1 := SR_C hw F1 hR
  obtain ⟨M2, g1, g2, g3, g4⟩ := h2 M1 hR1
  have hw' : SW (res.2.2, wwF W, wwJ W, wwH W, wwP W, wwB W, wwR W, res.2.1) := SW_S hw hg hp
  refine Step_of (al := al) (sc_lt hC) ⟨_, rfl⟩ e1 g1 (SC_S hw hC e2 e3 e4) F1 (SR_S hw hR1 g2 g3 g4) (zFr_mono g4 (Nat.le_refl _) (Nat.le_refl _) xrS_R) hw' ?_ ?_
  · show c + 3 * gN (wwG W) + yqK (wwP W) ≤ 8 + 3 * gN res.2.2 + yqK (wwP W)
    omega
  · show s + 2100 * gN (wwG W) + 523 * yqK (wwP W) ≤ 8264 + 2100 * gN res.2.2 + 523 * yqK (wwP W)
    omega
/-! what the acts keep -/
theorem g_oByteOf (G : zG) (x y i : Int32) : (oByteOf G x y i).2.2 = G := by
  unfold oByteOf
  refine pif_i (fun r : Int32 × Int32 × zG => r.2.2 = G) (fun _ => ?_) (fun _ => rfl)
  split
  · rfl
  · exact pif_i (fun r : Int32 × Int32 × zG => r.2.2 = G) (fun _ => rfl) (fun _ => rfl)
theorem g_oRead (G : zG) (x y : Int32) : (oRead G x y).2.2 = G := by
  unfold oRead
  refine pif_i (fun r : Int32 × Int32 × zG => r.2.2 = G) (fun _ => ?_) (fun _ => rfl)
  split <;> rfl
theorem g_oTold (G : zG) (x y k : Int32) : (oTold G x y k).2.2 = G := by
  unfold oTold
  exact pif_i (fun r : Int32 × Int32 × zG => r.2.2 = G) (fun _ => rfl) (fun _ => rfl)
theorem g_oSum (G : zG) (x y : Int32) : (oSum G x y).2.2 = G := by
  unfold oSum
  refine pif_i (fun r : Int64 × Int32 × zG => r.2.2 = G) (fun _ => ?_) (fun _ => rfl)
  split
  · rfl
  · split <;> rfl
theorem g_oHead (G : zG) (x y k : Int32) : (oHead G x y k).2.2 = G := by
  unfold oHead
  refine pif_i (fun r : Int64 × Int32 × zG => r.2.2 = G) (fun _ => ?_) (fun _ => rfl)
  split
  · rfl
  · split <;> rfl
theorem g_oStrips (G : zG) (x : Int32) : (oStrips G x).2.2 = G := by
  unfold oStrips
  exact pif_i (fun r : Int32 × Int32 × zG => r.2.2 = G) (fun _ => rfl) (fun _ => rfl)
theorem g_oWhole (G : zG) (x : Int32) : (oWhole G x).2.2 = G := by
  unfold oWhole
  exact pif_i (fun r : Int32 × Int32 × zG => r.2.2 = G) (fun _ => rfl) (fun _ => rfl)
theorem g_oFinding (G : zG) (x k : Int32) : (oFinding G x k).2.2 = G := by
  unfold oFinding
  exact pif_i (fun r : Int32 × Int32 × zG => r.2.2 = G) (fun _ => rfl) (fun _ => rfl)
theorem g_oEqual (G : zG) (x y : Int32) : (oEqual G x y).2.2 = G := by
  unfold oEqual
  exact pif_i (fun r : Int32 × Int32 × zG => r.2.2 = G) (fun _ => rfl) (fun _ => rfl)
theorem g_oDigest (G : zG) (x : Int32) : (oDigest G x).2.2 = G := by
  unfold oDigest
  exact pif_i (fun r : Int64 × Int32 × zG => r.2.2 = G) (fun _ => rfl) (fun _ => rfl)
/-- G' is well, has as many strips or more, and is G while a roll is played -/
def gOk (pl : Bool) (G G' : zG) : Prop := wG G' ∧ gN G ≤ gN G' ∧ (pl = true → G' = G)
theorem gOk_r {pl : Bool} {G : zG} (w : wG G) : gOk pl G G := ⟨w, Nat.le_refl _, fun _ => rfl⟩
theorem k_oSeal {pl : Bool} {G : zG} (w : wG G) (x y : Int32) : gOk pl G (oSeal pl G x y).2.2 := by
  unfold oSeal
  refine pif_i (fun r : Int32 × Int32 × zG => gOk pl G r.2.2) (fun g => ?_) (fun _ => gOk_r w)
  split
  · exact gOk_r w
  · next hp =>
    split
    · exact gOk_r w
    · next hl =>
      have hpp := sOk_p w g
      have wt : wT (sA G x y) := w.2.2.2.2.1 _ hpp
      exact ⟨wG_upd w hpp (wT_seal wt (by cases h : tL (sA G x y) <;> simp_all)) rfl w.2.2.2.2.2.2, Nat.le_refl _, fun q => absurd q hp⟩
theorem k_oLose {pl : Bool} {G : zG} (w : wG G) (x y : Int32) : gOk pl G (oLose pl G x y).2.2 := by
  unfold oLose
  refine pif_i (fun r : Int32 × Int32 × zG => gOk pl G r.2.2) (fun g => ?_) (fun _ => gOk_r w)
  split
  · exact gOk_r w
  · next hp =>
    split
    · exact gOk_r w
    · next hl =>
      have hpp := sOk_p w g
      have wt : wT (sA G x y) := w.2.2.2.2.1 _ hpp
      have ge : tS (sA G x y) ≤ gE G := gE_ge w hpp
      have h8 := w.2.2.2.2.2.2
      exact ⟨wG_upd w hpp (wT_drop wt) (show gE G - tS (sA G x y) + tS (sA G x y) = gE G + 0 by omega) (by omega), Nat.le_refl _, fun q => absurd q hp⟩
theorem k_oTear {pl : Bool} {G : zG} (w : wG G) (x y n : Int32) : gOk pl G (oTear pl G x y n).2.2 := by
  unfold oTear
  refine pif_i (fun r : Int32 × Int32 × zG => gOk pl G r.2.2) (fun g => ?_) (fun _ => gOk_r w)
  split
  · exact gOk_r w
  · next hp =>
    split
    · exact gOk_r w
    · next hl =>
      have hpp := sOk_p w g.1
      have wt : wT (sA G x y) := w.2.2.2.2.1 _ hpp
      have ge : tS (sA G x y) ≤ gE G := gE_ge w hpp
      have h8 := w.2.2.2.2.2.2
      have hle : tS (tearT (sA G x y) n.toNatClampNeg) ≤ tS (sA G x y) := by
        show (if tS (sA G x y) < (if n.toNatClampNeg < 9 then 0 else (n.toNatClampNeg - 9) / tW (sA G x y)) then tS (sA G x y) else (if n.toNatClampNeg < 9 then 0 else (n.toNatClampNeg - 9) / tW (sA G x y))) ≤ _
        generalize (if n.toNatClampNeg < 9 then 0 else (n.toNatClampNeg - 9) / tW (sA G x y)) = z
        split <;> omega
      exact ⟨wG_upd w hpp (wT_tear wt _) (show gE G - tS (sA G x y) + tS (tearT (sA G x y) n.toNatClampNeg) + tS (sA G x y) = gE G + tS (tearT (sA G x y) n.toNatClampNeg) by omega) (by omega), Nat.le_refl _, fun q => absurd q hp⟩
theorem k_oPunch {pl : Bool} {G : zG} (w : wG G) (x y k v : Int32) : gOk pl G (oPunch pl G x y k v).2.2 := by
  unfold oPunch
  refine pif_i (fun r : Int32 × Int32 × zG => gOk pl G r.2.2) (fun g => ?_) (fun _ => gOk_r w)
  split
  · exact gOk_r w
  · next hp =>
    split
    · exact gOk_r w
    · next hl =>
      refine pif_i (fun r : Int32 × Int32 × zG => gOk pl G r.2.2) (fun g2 => ?_) (fun _ => gOk_r w)
      have hpp := sOk_p w g
      have wt : wT (sA G x y) := w.2.2.2.2.1 _ hpp
      exact ⟨wG_upd w hpp (wT_pu wt (by cases h : tL (sA G x y) <;> simp_all) _ _) (by rw [tS_pu]; rfl) w.2.2.2.2.2.2, Nat.le_refl _, fun q => absurd q hp⟩
theorem k_oDamage {pl : Bool} {G : zG} (w : wG G) (x y i m : Int32) : gOk pl G (oDamage pl G x y i m).2.2 := by
  unfold oDamage
  refine pif_i (fun r : Int32 × Int32 × zG => gOk pl G r.2.2) (fun g => ?_) (fun _ => gOk_r w)
  split
  · exact gOk_r w
  · next hp =>
    split
    · exact gOk_r w
    · next hl =>
      refine pif_i (fun r : Int32 × Int32 × zG => gOk pl G r.2.2) (fun g2 => ?_) (fun _ => gOk_r w)
      have hpp := sOk_p w g
      have wt : wT (sA G x y) := w.2.2.2.2.1 _ hpp
      exact ⟨wG_upd w hpp (wT_dm wt _ _) (by rw [tS_dm]; rfl) w.2.2.2.2.2.2, Nat.le_refl _, fun q => absurd q hp⟩
theorem k_oRoll {pl : Bool} {G : zG} (w : wG G) : gOk pl G (oRoll pl G).2.2 := by
  unfold oRoll
  split
  · exact gOk_r w
  · next hp =>
    split
    · exact gOk_r w
    · next h => exact ⟨wG_addR w h, Nat.le_refl _, fun q => absurd q hp⟩
theorem k_oStrip {pl : Bool} {G : zG} (w : wG G) (x k m n t : Int32) : gOk pl G (oStrip pl G x k m n t).2.2 := by
  unfold oStrip
  refine pif_i (fun r : Int32 × Int32 × zG => gOk pl G r.2.2) (fun g => ?_) (fun _ => gOk_r w)
  split
  · exact gOk_r w
  · next hp =>
    refine pif_i (fun r : Int32 × Int32 × zG => gOk pl G r.2.2) (fun _ => gOk_r w) (fun g2 => ?_)
    refine pif_i (fun r : Int32 × Int32 × zG => gOk pl G r.2.2) (fun _ => gOk_r w) (fun g3 => ?_)
    obtain ⟨g1, ⟨ga, gb⟩, ⟨gc, gd⟩, ge, gf, gg⟩ := g
    obtain ⟨r, hr, rfl⟩ := zn_ex g1.1
    have g12 := g1.2
    obtain ⟨k, hk, rfl⟩ := zn_ex ga
    obtain ⟨m, hm, rfl⟩ := zn_ex gc
    obtain ⟨t, ht, rfl⟩ := zn_ex gf
    obtain ⟨n, hn, rfl⟩ := zn_ex (show 0 ≤ n.toInt by omega)
    rw [zn_toInt hr] at g12
    rw [zn_toInt hk] at gb
    rw [zn_toInt hm] at gd
    rw [zn_toInt ht] at gg
    rw [zn_toInt hn] at ge g2
    have hN := w.2.1
    have hgn : gN G < 400 := by
      have : ¬ gN G = 400 := fun q => g2 (Or.inl q)
      omega
    have hge : gE G + n ≤ 8000 := by
      have : ¬ ((8000 : Int) < gE G + n) := fun q => g2 (Or.inr q)
      omega
    rw [zn_N hr, zn_N hk, zn_N hm, zn_N ht, zn_N hn]
    refine ⟨wG_addS w (by omega) hgn (wT_seal (wT_new (by omega) (by omega) (by omega) (by omega)) rfl) hge, Nat.le_succ _, fun q => absurd q hp⟩
theorem k_oCut {pl : Bool} {G : zG} (w : wG G) (x k : Int32) : gOk pl G (oCut pl G x k).2.2 := by
  unfold oCut
  refine pif_i (fun r : Int32 × Int32 × zG => gOk pl G r.2.2) (fun g => ?_) (fun _ => gOk_r w)
  split
  · exact gOk_r w
  · next hp =>
    split
    · exact gOk_r w
    · next h =>
      obtain ⟨g1, g2, g3⟩ := g
      obtain ⟨r, hr, rfl⟩ := zn_ex g1.1
      have g12 := g1.2
      obtain ⟨k, hk, rfl⟩ := zn_ex g2
      rw [zn_toInt hr] at g12
      rw [zn_N hr, zn_toInt hk] at g3
      rw [zn_N hr, zn_N hk]
      exact ⟨wG_cut w (by omega) (by omega) h, Nat.le_refl _, fun q => absurd q hp⟩
theorem k_oAdd {pl : Bool} {G : zG} (w : wG G) {r at_ r' i n : Nat} (hr : r < gR G) (hr' : r' < gR G) (ha : at_ ≤ gZ G r) (hi : i + n ≤ gZ G r') : gOk pl G (oAdd pl G r at_ r' i n).2.2 := by
  unfold oAdd
  split
  · exact gOk_r w
  · next hp =>
    refine pif_i (fun r : Int32 × Int32 × zG => gOk pl G r.2.2) (fun _ => gOk_r w) (fun g2 => ?_)
    refine ⟨wG_ins w hr hr' ha hi ?_ ?_, Nat.le_add_right _ _, fun q => absurd q hp⟩
    · exact Nat.le_of_not_lt (fun q => g2 (Or.inl q))
    · exact Nat.le_of_not_lt (fun q => g2 (Or.inr q))
theorem k_oJoin {pl : Bool} {G : zG} (w : wG G) (x y : Int32) : gOk pl G (oJoin pl G x y).2.2 := by
  unfold oJoin
  refine pif_i (fun r : Int32 × Int32 × zG => gOk pl G r.2.2) (fun g => ?_) (fun _ => gOk_r w)
  obtain ⟨g1, g2, g3⟩ := g
  obtain ⟨r, hr, rfl⟩ := zn_ex g1.1
  have g12 := g1.2
  obtain ⟨k, hk, rfl⟩ := zn_ex g2.1
  have g22 := g2.2
  rw [zn_toInt hr] at g12
  rw [zn_toInt hk] at g22
  rw [zn_N hr, zn_N hk]
  exact k_oAdd w (by omega) (by omega) (Nat.le_refl _) (by omega)
theorem k_oRepeat {pl : Bool} {G : zG} (w : wG G) (x i n : Int32) : gOk pl G (oRepeat pl G x i n).2.2 := by
  unfold oRepeat
  refine pif_i (fun r : Int32 × Int32 × zG => gOk pl G r.2.2) (fun g => ?_) (fun _ => gOk_r w)
  obtain ⟨g1, ⟨g2, g3⟩, g4, g5⟩ := g
  obtain ⟨r, hr, rfl⟩ := zn_ex g1.1
  have g12 := g1.2
  obtain ⟨n, hn, rfl⟩ := zn_ex g2
  obtain ⟨i, hi, rfl⟩ := zn_ex g4
  rw [zn_toInt hr] at g12
  rw [zn_toInt hn] at g3 g5
  rw [zn_toInt hi, zn_N hr] at g5
  rw [zn_N hr, zn_N hn, zn_N hi]
  exact k_oAdd w (by omega) (by omega) (by omega) (by omega)
theorem mv_N (x i x' j : Int32) : ∀ (m k : Nat) (G : zG), gN (mvF x i x' j m k G).2.2 = gN G
  | 0, k, G => rfl
  | m + 1, k, G => by
    unfold mvF
    refine pif_i (fun r : Int32 × Int32 × zG => gN r.2.2 = gN G) (fun _ => ?_) (fun _ => rfl)
    rw [mv_N x i x' j m (k + 1) _]; rfl
theorem k_oMove {pl : Bool} {G : zG} (w : wG G) (x i n x' j : Int32) : gOk pl G (oMove pl G x i n x' j).2.2 := by
  unfold oMove
  refine pif_i (fun r : Int32 × Int32 × zG => gOk pl G r.2.2) (fun g => ?_) (fun _ => gOk_r w)
  split
  · exact gOk_r w
  · next hp => exact ⟨wG_mv x i x' j _ _ _ w, by rw [mv_N]; exact Nat.le_refl _, fun q => absurd q hp⟩
theorem mn_N (G : zG) (p r : Nat) : ∀ (n i : Nat), gN (mnF G p r i n).2.2 = gN G
  | 0, i => rfl
  | n + 1, i => by
    unfold mnF
    split
    · split <;> rfl
    · exact mn_N G p r n (i + 1)
theorem k_oMend {pl : Bool} {G : zG} (w : wG G) (x y z : Int32) : gOk pl G (oMend pl G x y z).2.2 := by
  unfold oMend
  refine pif_i (fun r : Int32 × Int32 × zG => gOk pl G r.2.2) (fun g => ?_) (fun _ => gOk_r w)
  split
  · exact gOk_r w
  · next hp =>
    split
    · exact gOk_r w
    · have hpp := sOk_p w g.1
      obtain ⟨r, hr, rfl⟩ := zn_ex g.2.1
      have g22 := g.2.2
      rw [zn_toInt hr] at g22
      rw [zn_N hr]
      exact ⟨wG_mn w hpp (by omega) _ _ (Nat.zero_add _), by rw [mn_N]; exact Nat.le_refl _, fun q => absurd q hp⟩
theorem spB_le {S : Nat} {f n : Int32} (h : spB S f n = true) : f.toNatClampNeg + n.toNatClampNeg ≤ S := by
  have := of_decide_eq_true h
  obtain ⟨n', hn, rfl⟩ := zn_ex this.1
  obtain ⟨f', hf, rfl⟩ := zn_ex this.2.1
  have h3 := this.2.2
  rw [zn_toInt hn, zn_toInt hf] at h3
  rw [zn_N hn, zn_N hf]; omega
theorem k_oCopy {pl : Bool} {G : zG} (w : wG G) (x y f n x' y' a : Int32) : gOk pl G (oCopy pl G x y f n x' y' a).2.2 := by
  unfold oCopy
  refine pif_i (fun r : Int32 × Int32 × zG => gOk pl G r.2.2) (fun g => ?_) (fun _ => gOk_r w)
  split
  · exact gOk_r w
  · next hp =>
    split
    · exact gOk_r w
    · split
      · exact gOk_r w
      · next hk =>
        split
        · next hs =>
          have hk : tK (sA G x y) = tK (sA G x' y') := Decidable.of_not_not hk
          have hpp := sOk_p w g.1
          have hpp' := sOk_p w g.2
          have wt : wT (sA G x y) := w.2.2.2.2.1 _ hpp
          have wt' : wT (sA G x' y') := w.2.2.2.2.1 _ hpp'
          have h1 := spB_le hs.1
          have h2 := wt.2.2.2.2.1
          exact ⟨wG_upd w hpp' (wT_span wt' wt hk (by omega)) rfl w.2.2.2.2.2.2, Nat.le_refl _, fun q => absurd q hp⟩
        · exact gOk_r w
