/-! S LEVEL: what writes leave of rolls and strips. -/
noncomputable def pif {α : Type} (P : Prop) (a b : α) : α := @ite α P (Classical.propDecidable P) a b
theorem pif_T {α : Type} {P : Prop} {a b : α} (h : P) : pif P a b = a := by unfold pif; exact if_pos h
theorem pif_F {α : Type} {P : Prop} {a b : α} (h : ¬ P) : pif P a b = b := by unfold pif; exact if_neg h
/-- where class and reference write, in acts on rolls and strips -/
def xcS (A : zM) : Nat → Nat → Prop := fun a k => (a = 1 ∧ (k = 3 ∨ k = 4 ∨ k = 5 ∨ k = 7)) ∨ (a = 2 ∧ (zI A 1 3).toNatClampNeg ≤ k) ∨ ∃ h, z_hd zQ A a = some h ∧ (h.1 = 8 ∨ h.1 = 9 ∨ h.1 = 12 ∨ h.1 = 18)
def xrS : Nat → Nat → Prop := fun a k => (a = 15 ∧ (k = 0 ∨ k = 1 ∨ k = 4 ∨ k = 13)) ∨ (16 ≤ a ∧ a ≤ 25) ∨ a = 53
theorem hd_lt56 {A : zM} {a t n : Nat} (h : z_hd zQ A a = some (t, n)) (ht : t = 8 ∨ t = 9 ∨ t = 12 ∨ t = 18) : 56 ≤ a := by
  by_cases g : a < 56
  · exfalso
    have e : z_hd zQ A a = some (zQh a) := by
      unfold z_hd
      rw [show Nat.blt a zQ.1 = true from Nat.ble_eq_true_of_le (Nat.succ_le_of_lt g)]
      rfl
    rw [e] at h
    have hq : ∀ a, a < 56 → ¬ ((zQh a).1 = 8 ∨ (zQh a).1 = 9 ∨ (zQh a).1 = 12 ∨ (zQh a).1 = 18) := by decide +kernel
    have := hq a g
    rw [Option.some.inj h] at this
    exact this ht
  · omega
theorem cRo_fr {c s : Nat} {X : Nat → Nat → Prop} {A A' : zM} {ρ n : Nat} (hf : zFr c s X A A') (h : cRo A ρ n) (h1 : ∀ k, ¬ X ρ k) : cRo A' ρ n ∧ zP zQ A' ρ 0 = zP zQ A ρ 0 := by
  obtain ⟨a1, a2, a3⟩ := h
  have hp := zFr_P hf 0 (z_hd_lt a1) (h1 0)
  refine ⟨⟨zFr_hd hf a1, ?_, ?_⟩, hp⟩
  · rw [hp]; exact zFr_hd hf a2
  · rw [zFr_I hf _ (z_hd_lt a1) (h1 1)]; exact a3
theorem cG_fr {c s : Nat} {X : Nat → Nat → Prop} {G : zG} {al : Nat → Nat} {A A' : zM} (hf : zFr c s X A A') (h : cG G al A) (h1 : ¬ X 1 3 ∧ ¬ X 1 4 ∧ ¬ X 1 5) (h2 : ∀ k, ¬ X 2 k) (h3 : ∀ a k t n, z_hd zQ A a = some (t, n) → (t = 8 ∨ t = 9 ∨ t = 12 ∨ t = 18) → ¬ X a k) : cG G al A' := by
  have g56 := z_new_ge A
  obtain ⟨a1, a2, a3, a4, a5, a6, a7, a8, a9⟩ := h
  have p2 : ∀ r, zP zQ A' 2 r = zP zQ A 2 r := fun r => zFr_P hf r (by omega) (h2 r)
  have q4 : ∀ r, r < gR G → cRo A' (zP zQ A 2 r) (gZ G r) ∧ zP zQ A' (zP zQ A 2 r) 0 = zP zQ A (zP zQ A 2 r) 0 := fun r hr => cRo_fr hf (a4 r hr) (fun k => h3 _ k 8 2 (a4 r hr).1 (by omega))
  have q7 : ∀ p, p < gN G → cT A' (al p) (gT G p) ∧ zP zQ A' (al p) 4 = zP zQ A (al p) 4 := fun p hp => by
    have hT := a7 p hp
    obtain ⟨n, e2, -⟩ := hT.2.2.2.2.2.2.2.1
    exact cT_fr hf hT (fun k => h3 _ k 9 7 hT.1 (by omega)) (fun k => h3 _ k 12 n e2 (by omega))
  refine ⟨?_, ?_, ?_, fun r hr => ?_, fun r s hr hs => ?_, fun r r' hr hr' hne => ?_, fun p hp => (q7 p hp).1, fun p q hp hq hne => ?_, sc_fr hf a9⟩
  · rw [zFr_I hf _ (by omega) h1.1]; exact a1
  · rw [zFr_I hf _ (by omega) h1.2.1]; exact a2
  · rw [zFr_I hf _ (by omega) h1.2.2]; exact a3
  · rw [p2]; exact (q4 r hr).1
  · rw [p2, (q4 r hr).2, zFr_P hf _ (z_hd_lt (a4 r hr).2.1) (h3 _ _ 18 400 (a4 r hr).2.1 (by omega))]; exact a5 r s hr hs
  · rw [p2, p2, (q4 r hr).2, (q4 r' hr').2]; exact a6 r r' hr hr' hne
  · rw [(q7 p hp).2, (q7 q hq).2]; exact a8 p q hp hq hne
theorem rG_fr {c s : Nat} {X : Nat → Nat → Prop} {G : zG} {B B' : zM} (hf : zFr c s X B B') (h : rG G B) (h1 : ¬ X 15 1 ∧ ¬ X 15 4 ∧ ¬ X 15 13) (h2 : ∀ a k, 16 ≤ a → a ≤ 25 → ¬ X a k) : rG G B' := by
  have g56 := z_new_ge B
  obtain ⟨a1, a2, a3, a4, a5, a6, a7, a8⟩ := h
  have hi : ∀ a k, 16 ≤ a → a ≤ 25 → zI B' a k = zI B a k := fun a k q1 q2 => zFr_I hf k (by omega) (h2 a k q1 q2)
  have hr : ∀ p a k, inR p a k → ¬ X a k := fun p a k q => h2 a k (by unfold inR at q; omega) (by unfold inR at q; omega)
  refine ⟨?_, ?_, ?_, fun r hr => ?_, fun r hr hr2 => ?_, fun r s hr hs => ?_, fun p hp => rT_fr hf (a7 p hp) (hr p), fun p hp hp2 => rT_fr hf (a8 p hp hp2) (hr p)⟩
  · rw [zFr_I hf _ (by omega) h1.1]; exact a1
  · rw [zFr_I hf _ (by omega) h1.2.1]; exact a2
  · rw [zFr_I hf _ (by omega) h1.2.2]; exact a3
  · rw [hi _ _ (by omega) (by omega)]; exact a4 r hr
  · rw [hi _ _ (by omega) (by omega)]; exact a5 r hr hr2
  · rw [hi _ _ (by omega) (by omega)]; exact a6 r s hr hs
/-- one strip is another -/
def updT (G : zG) (p : Nat) (T : zT) (e : Nat) : zG := (gR G, gZ G, gO G, gN G, fun q => if q = p then T else gT G q, e)
theorem gT_upd (G : zG) (p : Nat) (T : zT) (e q : Nat) : gT (updT G p T e) q = if q = p then T else gT G q := rfl
theorem wG_upd {G : zG} {p : Nat} {T : zT} {e : Nat} (w : wG G) (hp : p < gN G) (hT : wT T) (he : e + tS (gT G p) = gE G + tS T) (h8 : e ≤ 8000) : wG (updT G p T e) := by
  obtain ⟨w1, w2, w3, w4, w5, w6, w7⟩ := w
  refine ⟨w1, w2, w3, w4, fun q hq => ?_, ?_, h8⟩
  · rw [gT_upd]
    by_cases e : q = p
    · rw [if_pos e]; exact hT
    · rw [if_neg e]; exact w5 q hq
  · show e = sumN (fun q => tS (if q = p then T else gT G q)) (gN G)
    have := sumN_upd (f := fun q => tS (gT G q)) (p := p) (v := tS T) (gN G) hp
    have e2 : sumN (fun q => tS (if q = p then T else gT G q)) (gN G) = sumN (fun q => if q = p then tS T else tS (gT G q)) (gN G) := sumN_congr _ (fun i _ => by by_cases q : i = p <;> simp [q])
    rw [e2]
    omega
def xcU (a b : Nat) : Nat → Nat → Prop := fun a' k => xS a b a' k ∨ (a' = 1 ∧ (k = 5 ∨ k = 7))
theorem cG_upd {c s : Nat} {G : zG} {al : Nat → Nat} {A A' : zM} {p : Nat} {T : zT} {e : Nat} (h : cG G al A) (hp : p < gN G) (hf : zFr c s (xcU (al p) (zP zQ A (al p) 4)) A A') (hT : cT A' (al p) T) (hb : zP zQ A' (al p) 4 = zP zQ A (al p) 4 ∨ z_new zQ A ≤ zP zQ A' (al p) 4) (he : zI A' 1 5 = zn e) : cG (updT G p T e) al A' := by
  have g56 := z_new_ge A
  obtain ⟨a1, a2, a3, a4, a5, a6, a7, a8, a9⟩ := h
  have hTp := a7 p hp
  obtain ⟨n, eb, -⟩ := hTp.2.2.2.2.2.2.2.1
  have la := hd_lt56 hTp.1 (by omega)
  have lb := hd_lt56 eb (by omega)
  have nx : ∀ a k t m, z_hd zQ A a = some (t, m) → (t = 8 ∨ t = 18) → ¬ xcU (al p) (zP zQ A (al p) 4) a k := fun a k t m ha ht hx => by
    have := hd_lt56 ha (by omega)
    rcases hx with (hx | hx) | hx
    · rw [hx, eb] at ha; cases ha; omega
    · rw [hx.1, hTp.1] at ha; cases ha; omega
    · omega
  have p2 : ∀ r, zP zQ A' 2 r = zP zQ A 2 r := fun r => zFr_P hf r (by omega) (fun hx => by
    rcases hx with (hx | hx) | hx <;> omega)
  have q4 : ∀ r, r < gR G → cRo A' (zP zQ A 2 r) (gZ G r) ∧ zP zQ A' (zP zQ A 2 r) 0 = zP zQ A (zP zQ A 2 r) 0 := fun r hr => cRo_fr hf (a4 r hr) (fun k => nx _ k 8 2 (a4 r hr).1 (by omega))
  have q7 : ∀ q, q < gN G → q ≠ p → cT A' (al q) (gT G q) ∧ zP zQ A' (al q) 4 = zP zQ A (al q) 4 := fun q hq hne => by
    have hT := a7 q hq
    obtain ⟨m, e2, -⟩ := hT.2.2.2.2.2.2.2.1
    have la' := hd_lt56 hT.1 (by omega)
    have lb' := hd_lt56 e2 (by omega)
    obtain ⟨n1, n2⟩ := a8 q p hq hp hne
    refine cT_fr hf hT (fun k hx => ?_) (fun k hx => ?_)
    · rcases hx with (hx | hx) | hx
      · have := hT.1; rw [hx, eb] at this; cases this
      · exact n1 hx.1
      · omega
    · rcases hx with (hx | hx) | hx
      · exact n2 hx
      · rw [hx.1, hTp.1] at e2; cases e2
      · omega
  refine ⟨?_, ?_, he, fun r hr => ?_, fun r s hr hs => ?_, fun r r' hr hr' hne => ?_, fun q hq => ?_, fun q q' hq hq' hne => ?_, sc_fr hf a9⟩
  · rw [zFr_I hf _ (by omega) (fun hx => by rcases hx with (hx | hx) | hx <;> omega)]; exact a1
  · rw [zFr_I hf _ (by omega) (fun hx => by rcases hx with (hx | hx) | hx <;> omega)]; exact a2
  · rw [p2]; exact (q4 r hr).1
  · rw [p2, (q4 r hr).2, zFr_P hf _ (z_hd_lt (a4 r hr).2.1) (nx _ _ 18 400 (a4 r hr).2.1 (by omega))]; exact a5 r s hr hs
  · rw [p2, p2, (q4 r hr).2, (q4 r' hr').2]; exact a6 r r' hr hr' hne
  · rw [gT_upd]
    by_cases g : q = p
    · rw [if_pos g, g]; exact hT
    · rw [if_neg g]; exact (q7 q hq g).1
  · have hlt : ∀ q, q < gN G → q ≠ p → zP zQ A (al q) 4 < z_new zQ A := fun q hq _ => by
      obtain ⟨m, e2, -⟩ := (a7 q hq).2.2.2.2.2.2.2.1
      exact z_hd_lt e2
    have h8 := a8 q q' hq hq' hne
    refine ⟨h8.1, ?_⟩
    by_cases g : q = p
    · subst g
      rw [(q7 q' hq' (fun e => hne e.symm)).2]
      rcases hb with hb | hb
      · rw [hb]; exact h8.2
      · have := hlt q' hq' (fun e => hne e.symm); omega
    · rw [(q7 q hq g).2]
      by_cases g' : q' = p
      · subst g'
        rcases hb with hb | hb
        · rw [hb]; exact h8.2
        · have := hlt q hq g; omega
      · rw [(q7 q' hq' g').2]; exact h8.2
def xrU (p : Nat) : Nat → Nat → Prop := fun a k => inR p a k ∨ (a = 15 ∧ (k = 13 ∨ k = 0))
theorem rG_upd {c s : Nat} {G : zG} {B B' : zM} {p : Nat} {T : zT} {e : Nat} (h : rG G B) (hp : p < gN G) (hn : gN G ≤ 400) (hf : zFr c s (xrU p) B B') (hT : rT B' p T) (he : zI B' 15 13 = zn e) : rG (updT G p T e) B' := by
  have g56 := z_new_ge B
  obtain ⟨a1, a2, a3, a4, a5, a6, a7, a8⟩ := h
  have hr : ∀ q a k, q ≠ p → inR q a k → ¬ xrU p a k := fun q a k hne h1 h2 => by
    rcases h2 with h2 | h2
    · exact hne (inR_ne h1 h2)
    · unfold inR at h1; omega
  refine ⟨?_, ?_, he, fun r hr => ?_, fun r hr hr2 => ?_, fun r s hr hs => ?_, fun q hq => ?_, fun q hq hq2 => ?_⟩
  · rw [zFr_I hf _ (by omega) (by unfold xrU inR; omega)]; exact a1
  · rw [zFr_I hf _ (by omega) (by unfold xrU inR; omega)]; exact a2
  · rw [zFr_I hf _ (by omega) (by unfold xrU inR; omega)]; exact a4 r hr
  · rw [zFr_I hf _ (by omega) (by unfold xrU inR; omega)]; exact a5 r hr hr2
  · rw [zFr_I hf _ (by omega) (by unfold xrU inR; omega)]; exact a6 r s hr hs
  · rw [gT_upd]
    by_cases g : q = p
    · rw [if_pos g, g]; exact hT
    · rw [if_neg g]; exact rT_fr hf (a7 q hq) (fun a k => hr q a k g)
  · exact rT_fr hf (a8 q hq hq2) (fun a k => hr q a k (by have : gN (updT G p T e) = gN G := rfl; omega))
/-- what an act of the class, of the reference comes to -/
def cRes (c s : Nat) (A : zM) (r : Int32 × Int32 × zG) (o : zR) : Prop := ∃ A' al', o = some (some (.int r.1), A') ∧ cG r.2.2 al' A' ∧ zI A' 1 7 = r.2.1 ∧ zFr c s (xcS A) A A'
def rRes (B : zM) (r : Int32 × Int32 × zG) (o : zR) : Prop := ∃ B', o = some (some (.int r.1), B') ∧ rG r.2.2 B' ∧ zI B' 15 0 = r.2.1 ∧ zFr 0 0 xrS B B'
theorem xcS_st (A : zM) : xcS A 1 7 := Or.inl ⟨rfl, by omega⟩
theorem cRes_st {c s : Nat} {A : zM} {G : zG} {al : Nat → Nat} (h : cG G al A) (x v : Int32) : cRes c s A (x, v, G) (some (some (.int x), z_wI A 1 7 v)) := by
  have f : zFr 0 0 (fun a k => a = 1 ∧ k = 7) A (z_wI A 1 7 v) := zFr_wI ⟨rfl, rfl⟩
  refine ⟨_, al, rfl, cG_fr f h ?_ ?_ ?_, zI_wI_s _ _ _ _, zFr_mono (zFr_wI (xcS_st A)) (by omega) (by omega) (fun _ _ h => h)⟩
  · omega
  · intro k hk; omega
  · intro a k t n ha ht hx
    have := hd_lt56 ha ht
    omega
theorem rRes_st {B : zM} {G : zG} (h : rG G B) (x v : Int32) : rRes B (x, v, G) (some (some (.int x), z_wI B 15 0 v)) := by
  have f : zFr 0 0 (fun a k => a = 15 ∧ k = 0) B (z_wI B 15 0 v) := zFr_wI ⟨rfl, rfl⟩
  refine ⟨_, rfl, rG_fr f h (by omega) (fun a k h1 h2 h3 => by omega), zI_wI_s _ _ _ _, zFr_wI (Or.inl ⟨rfl, by omega⟩)⟩
theorem xcU_xcS {A : zM} {a b m : Nat} (h1 : z_hd zQ A a = some (9, 7)) (h2 : z_hd zQ A b = some (12, m)) : ∀ a' k, xcU a b a' k → xcS A a' k := fun a' k h => by
  rcases h with (h | h) | h
  · exact Or.inr (Or.inr ⟨_, by rw [h]; exact h2, by omega⟩)
  · exact Or.inr (Or.inr ⟨_, by rw [h.1]; exact h1, by omega⟩)
  · exact Or.inl ⟨h.1, by omega⟩
theorem xrU_xrS (p : Nat) : ∀ a k, xrU p a k → xrS a k := fun a k h => by unfold xrU inR at h; unfold xrS; omega
/-- a strip's own act, then the count of elements and the status: the whole of it -/
theorem cRes_up {c s : Nat} {A A' : zM} {G : zG} {al : Nat → Nat} {p : Nat} {T : zT} {e : Nat} {x v : Int32} (h : cG G al A) (hp : p < gN G) (hf : zFr c s (xcU (al p) (zP zQ A (al p) 4)) A A') (hT : cT A' (al p) T) (hb : zP zQ A' (al p) 4 = zP zQ A (al p) 4 ∨ z_new zQ A ≤ zP zQ A' (al p) 4) (he : zI A' 1 5 = zn e) : cRes c s A (x, v, updT G p T e) (some (some (.int x), z_wI A' 1 7 v)) := by
  have hTp := h.2.2.2.2.2.2.1 p hp
  obtain ⟨m, eb, -⟩ := hTp.2.2.2.2.2.2.2.1
  have c1 := cG_upd h hp hf hT hb he
  have f2 : zFr 0 0 (fun a k => a = 1 ∧ k = 7) A' (z_wI A' 1 7 v) := zFr_wI ⟨rfl, rfl⟩
  refine ⟨_, al, rfl, cG_fr f2 c1 ?_ ?_ ?_, zI_wI_s _ _ _ _, ?_⟩
  · omega
  · intro k hk; omega
  · intro a k t n ha ht hx
    have := hd_lt56 ha ht
    omega
  · refine zFr_mono (zFr_trans (zFr_mono hf (Nat.le_refl _) (Nat.le_refl _) (xcU_xcS hTp.1 eb)) f2 (fun a k _ hx => ?_)) (by omega) (by omega) (fun _ _ h => h)
    rw [hx.1, hx.2]; exact xcS_st A
theorem rRes_up {B B' : zM} {G : zG} {p : Nat} {T : zT} {e : Nat} {x v : Int32} (h : rG G B) (hp : p < gN G) (hn : gN G ≤ 400) (hf : zFr 0 0 (xrU p) B B') (hT : rT B' p T) (he : zI B' 15 13 = zn e) : rRes B (x, v, updT G p T e) (some (some (.int x), z_wI B' 15 0 v)) := by
  have c1 := rG_upd h hp hn hf hT he
  have f2 : zFr 0 0 (fun a k => a = 15 ∧ k = 0) B' (z_wI B' 15 0 v) := zFr_wI ⟨rfl, rfl⟩
  refine ⟨_, rfl, rG_fr f2 c1 (by omega) (fun a k h1 h2 h3 => by omega), zI_wI_s _ _ _ _, ?_⟩
  exact zFr_trans (zFr_mono hf (Nat.le_refl _) (Nat.le_refl _) (xrU_xrS p)) f2 (fun a k _ hx => Or.inl ⟨hx.1, by omega⟩)
