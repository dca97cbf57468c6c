/-! S LEVEL, the class: rolls and strips while they are being changed. -/
def cK (nr : Nat) (cz : Nat → Nat) (D : Nat → Nat → Prop) (O : Nat → Nat → Nat) (np : Nat) (st : Nat → zT) (al : Nat → Nat) (A : zM) : Prop := (∀ r, r < nr → cRo A (zP zQ A 2 r) (cz r)) ∧ (∀ r s, r < nr → D r s → zP zQ A (zP zQ A (zP zQ A 2 r) 0) s = al (O r s)) ∧ (∀ r r', r < nr → r' < nr → r ≠ r' → zP zQ A 2 r ≠ zP zQ A 2 r' ∧ zP zQ A (zP zQ A 2 r) 0 ≠ zP zQ A (zP zQ A 2 r') 0) ∧ (∀ p, p < np → cT A (al p) (st p)) ∧ (∀ p q, p < np → q < np → p ≠ q → al p ≠ al q ∧ zP zQ A (al p) 4 ≠ zP zQ A (al q) 4) ∧ sc56 A
theorem cG_iff (G : zG) (al : Nat → Nat) (A : zM) : cG G al A ↔ (zI A 1 3 = zn (gR G) ∧ zI A 1 4 = zn (gN G) ∧ zI A 1 5 = zn (gE G) ∧ cK (gR G) (gZ G) (fun r s => s < gZ G r) (gO G) (gN G) (gT G) al A) := Iff.rfl
theorem cK_fr {c s : Nat} {X : Nat → Nat → Prop} {nr np : Nat} {cz : Nat → Nat} {D : Nat → Nat → Prop} {O : Nat → Nat → Nat} {st : Nat → zT} {al : Nat → Nat} {A A' : zM} (hf : zFr c s X A A') (h : cK nr cz D O np st al A) (h2 : ∀ k, ¬ X 2 k) (h3 : ∀ a k t n, z_hd zQ A a = some (t, n) → (t = 8 ∨ t = 9 ∨ t = 12 ∨ t = 18) → ¬ X a k) : cK nr cz D O np st al A' := by
  have g56 := z_new_ge A
  obtain ⟨a4, a5, a6, a7, a8, a9⟩ := h
  have p2 : ∀ r, zP zQ A' 2 r = zP zQ A 2 r := fun r => zFr_P hf r (by omega) (h2 r)
  have q4 : ∀ r, r < nr → cRo A' (zP zQ A 2 r) (cz r) ∧ zP zQ A' (zP zQ A 2 r) 0 = zP zQ A (zP zQ A 2 r) 0 := fun r hr => cRo_fr hf (a4 r hr) (fun k => h3 _ k 8 2 (a4 r hr).1 (by omega))
  have q7 : ∀ p, p < np → cT A' (al p) (st p) ∧ zP zQ A' (al p) 4 = zP zQ A (al p) 4 := fun p hp => by
    have hT := a7 p hp
    obtain ⟨n, e2, -⟩ := hT.2.2.2.2.2.2.2.1
    exact cT_fr hf hT (fun k => h3 _ k 9 7 hT.1 (by omega)) (fun k => h3 _ k 12 n e2 (by omega))
  refine ⟨fun r hr => ?_, fun r s hr hs => ?_, fun r r' hr hr' hne => ?_, fun p hp => (q7 p hp).1, fun p q hp hq hne => ?_, sc_fr hf a9⟩
  · rw [p2]; exact (q4 r hr).1
  · rw [p2, (q4 r hr).2, zFr_P hf _ (z_hd_lt (a4 r hr).2.1) (h3 _ _ 18 400 (a4 r hr).2.1 (by omega))]; exact a5 r s hr hs
  · rw [p2, p2, (q4 r hr).2, (q4 r' hr').2]; exact a6 r r' hr hr' hne
  · rw [(q7 p hp).2, (q7 q hq).2]; exact a8 p q hp hq hne
/-- nothing that stood is changed -/
def xN : Nat → Nat → Prop := fun _ _ => False
theorem cK_no {c s : Nat} {nr np : Nat} {cz : Nat → Nat} {D : Nat → Nat → Prop} {O : Nat → Nat → Nat} {st : Nat → zT} {al : Nat → Nat} {A A' : zM} (hf : zFr c s xN A A') (h : cK nr cz D O np st al A) : cK nr cz D O np st al A' := cK_fr hf h (fun _ q => q) (fun _ _ _ _ _ _ q => q)
/-- one more strip -/
theorem cK_add {c s : Nat} {nr np : Nat} {cz : Nat → Nat} {D : Nat → Nat → Prop} {O : Nat → Nat → Nat} {st : Nat → zT} {al : Nat → Nat} {A A' : zM} {a : Nat} {T : zT} (hf : zFr c s xN A A') (h : cK nr cz D O np st al A) (ha : z_new zQ A ≤ a) (hT : cT A' a T) (hb : z_new zQ A ≤ zP zQ A' a 4) (hD : ∀ r s, r < nr → D r s → O r s < np) : cK nr cz D O (np + 1) (fun p => if p = np then T else st p) (fun p => if p = np then a else al p) A' := by
  have h' := cK_no hf h
  obtain ⟨a4, a5, a6, a7, a8, a9⟩ := h'
  have lt : ∀ p, p < np → al p < z_new zQ A ∧ zP zQ A' (al p) 4 < z_new zQ A := fun p hp => by
    have hT := h.2.2.2.1 p hp
    obtain ⟨n, e2, -⟩ := hT.2.2.2.2.2.2.2.1
    refine ⟨z_hd_lt hT.1, ?_⟩
    rw [zFr_P hf _ (z_hd_lt hT.1) (fun q => q)]
    exact z_hd_lt e2
  refine ⟨a4, fun r s hr hs => ?_, a6, fun p hp => ?_, fun p q hp hq hne => ?_, a9⟩
  all_goals (try dsimp only at *)
  · have := hD r s hr hs
    rw [if_neg (by omega)]; exact a5 r s hr hs
  · by_cases e : p = np
    · rw [if_pos e, if_pos e]; exact hT
    · rw [if_neg e, if_neg e]; exact a7 p (by omega)
  · by_cases e : p = np
    · rw [if_pos e, if_neg (by omega)]
      have := lt q (by omega)
      exact ⟨by omega, by omega⟩
    · rw [if_neg e]
      by_cases e' : q = np
      · rw [if_pos e']
        have := lt p (by omega)
        exact ⟨by omega, by omega⟩
      · rw [if_neg e']; exact a8 p q (by omega) (by omega) hne
/-- a place of a roll's row is written -/
theorem cK_set {nr np : Nat} {cz : Nat → Nat} {D : Nat → Nat → Prop} {O : Nat → Nat → Nat} {st : Nat → zT} {al : Nat → Nat} {A : zM} {r s p : Nat} (h : cK nr cz D O np st al A) (hr : r < nr) : cK nr cz (fun r' s' => D r' s' ∨ (r' = r ∧ s' = s)) (fun r' s' => if r' = r ∧ s' = s then p else O r' s') np st al (z_wP A (zP zQ A (zP zQ A 2 r) 0) s (al p)) := by
  obtain ⟨a4, a5, a6, a7, a8, a9⟩ := h
  have h18 := (a4 r hr).2.1
  have l18 := hd_lt56 h18 (by omega)
  have nP : ∀ a k, a ≠ zP zQ A (zP zQ A 2 r) 0 → zP zQ (z_wP A (zP zQ A (zP zQ A 2 r) 0) s (al p)) a k = zP zQ A a k := fun a k ha => zP_wP_a ha
  have n2 : ∀ k, zP zQ (z_wP A (zP zQ A (zP zQ A 2 r) 0) s (al p)) 2 k = zP zQ A 2 k := fun k => nP 2 k (by omega)
  have n8 : ∀ r', r' < nr → zP zQ (z_wP A (zP zQ A (zP zQ A 2 r) 0) s (al p)) (zP zQ A 2 r') 0 = zP zQ A (zP zQ A 2 r') 0 := fun r' hr' => nP _ _ (fun e => by
    have := (a4 r' hr').1
    rw [e, h18] at this; cases this)
  have n9 : ∀ q, q < np → zP zQ (z_wP A (zP zQ A (zP zQ A 2 r) 0) s (al p)) (al q) 4 = zP zQ A (al q) 4 := fun q hq => nP _ _ (fun e => by
    have := (a7 q hq).1
    rw [e, h18] at this; cases this)
  refine ⟨fun r' hr' => ?_, fun r' s' hr' hd => ?_, fun r1 r2 h1 h2 hne => ?_, fun q hq => ?_, fun q q' hq hq' hne => ?_, a9⟩
  all_goals (try dsimp only at *)
  · rw [n2]
    obtain ⟨b1, b2, b3⟩ := a4 r' hr'
    exact ⟨b1, by rw [n8 r' hr', z_hd_wP]; exact b2, b3⟩
  · rw [n2, n8 r' hr']
    by_cases e : r' = r
    · subst e
      by_cases e2 : s' = s
      · subst e2
        rw [if_pos ⟨rfl, rfl⟩, zP_wP_s (by omega) (by omega) (by omega)]
      · rw [if_neg (fun q => e2 q.2), zP_wP_k e2]
        exact a5 r' s' hr' (hd.resolve_right (fun q => e2 q.2))
    · rw [if_neg (fun q => e q.1), zP_wP_a (a6 r' r hr' hr e).2]
      exact a5 r' s' hr' (hd.resolve_right (fun q => e q.1))
  · rw [n2, n2, n8 r1 h1, n8 r2 h2]; exact a6 r1 r2 h1 h2 hne
  · obtain ⟨e1, k0, k1, k2, k3, k5, k6, ⟨n, e2, hc⟩, hb⟩ := a7 q hq
    refine ⟨e1, k0, k1, k2, k3, k5, k6, ⟨n, ?_, hc⟩, fun i hi => ?_⟩
    · rw [n9 q hq, z_hd_wP]; exact e2
    · rw [n9 q hq, zI_wP]; exact hb i hi
  · rw [n9 q hq, n9 q' hq']; exact a8 q q' hq hq' hne
/-- a roll's count is written -/
theorem cK_cnt {nr np : Nat} {cz : Nat → Nat} {D : Nat → Nat → Prop} {O : Nat → Nat → Nat} {st : Nat → zT} {al : Nat → Nat} {A : zM} {r n : Nat} (h : cK nr cz D O np st al A) (hr : r < nr) : cK nr (fun r' => if r' = r then n else cz r') D O np st al (z_wI A (zP zQ A 2 r) 1 (zn n)) := by
  obtain ⟨a4, a5, a6, a7, a8, a9⟩ := h
  have h8 := (a4 r hr).1
  refine ⟨fun r' hr' => ?_, a5, a6, fun q hq => ?_, a8, a9⟩
  all_goals (try dsimp only at *)
  · obtain ⟨b1, b2, b3⟩ := a4 r' hr'
    refine ⟨b1, b2, ?_⟩
    rw [zP_wI]
    by_cases e : r' = r
    · rw [if_pos e, e, zI_wI_s]
    · rw [if_neg e, zI_wI_a (a6 r' r hr' hr e).1]; exact b3
  · have hT := a7 q hq
    obtain ⟨n', e2, -⟩ := hT.2.2.2.2.2.2.2.1
    refine (cT_fr (zFr_wI (X := fun a' _ => a' = zP zQ A 2 r) rfl) hT (fun k e => ?_) (fun k e => ?_)).1
    · have := hT.1
      rw [e, h8] at this; cases this
    · rw [e, h8] at e2; cases e2
theorem cK_D {nr np : Nat} {cz cz' : Nat → Nat} {D D' : Nat → Nat → Prop} {O O' : Nat → Nat → Nat} {st st' : Nat → zT} {al : Nat → Nat} {A : zM} (h : cK nr cz D O np st al A) (h1 : ∀ r, r < nr → cz' r = cz r) (h2 : ∀ r s, r < nr → D' r s → D r s ∧ O' r s = O r s) (h3 : ∀ p, p < np → st' p = st p) : cK nr cz' D' O' np st' al A := by
  obtain ⟨a4, a5, a6, a7, a8, a9⟩ := h
  refine ⟨fun r hr => ?_, fun r s hr hd => ?_, a6, fun p hp => ?_, a8, a9⟩
  all_goals (try dsimp only at *)
  · rw [h1 r hr]; exact a4 r hr
  · rw [(h2 r s hr hd).2]; exact a5 r s hr (h2 r s hr hd).1
  · rw [h3 p hp]; exact a7 p hp
/-- one more roll -/
theorem cK_roll {c s : Nat} {nr np : Nat} {cz : Nat → Nat} {D : Nat → Nat → Prop} {O : Nat → Nat → Nat} {st : Nat → zT} {al : Nat → Nat} {A A' : zM} {ρ n : Nat} {D' : Nat → Prop} {O' : Nat → Nat} (hf : zFr c s (fun a k => a = 2 ∧ k = nr) A A') (h : cK nr cz D O np st al A) (h2 : zP zQ A' 2 nr = ρ) (hρ : cRo A' ρ n) (g1 : z_new zQ A ≤ ρ) (g2 : z_new zQ A ≤ zP zQ A' ρ 0) (hO : ∀ s, D' s → zP zQ A' (zP zQ A' ρ 0) s = al (O' s)) : cK (nr + 1) (fun r => if r = nr then n else cz r) (fun r s => if r = nr then D' s else D r s) (fun r s => if r = nr then O' s else O r s) np st al A' := by
  have g56 := z_new_ge A
  obtain ⟨a4, a5, a6, a7, a8, a9⟩ := h
  have p2 : ∀ r, r < nr → zP zQ A' 2 r = zP zQ A 2 r := fun r hr => zFr_P hf r (by omega) (fun q => by omega)
  have nx : ∀ a k t m, z_hd zQ A a = some (t, m) → (t = 8 ∨ t = 9 ∨ t = 12 ∨ t = 18) → ¬ (a = 2 ∧ k = nr) := fun a k t m ha ht q => by have := hd_lt56 ha ht; omega
  have q4 : ∀ r, r < nr → cRo A' (zP zQ A 2 r) (cz r) ∧ zP zQ A' (zP zQ A 2 r) 0 = zP zQ A (zP zQ A 2 r) 0 := fun r hr => cRo_fr hf (a4 r hr) (fun k => nx _ k 8 2 (a4 r hr).1 (by omega))
  have q7 : ∀ p, p < np → cT A' (al p) (st p) ∧ zP zQ A' (al p) 4 = zP zQ A (al p) 4 := fun p hp => by
    have hT := a7 p hp
    obtain ⟨n, e2, -⟩ := hT.2.2.2.2.2.2.2.1
    exact cT_fr hf hT (fun k => nx _ k 9 7 hT.1 (by omega)) (fun k => nx _ k 12 n e2 (by omega))
  have lt : ∀ r, r < nr → zP zQ A 2 r < z_new zQ A ∧ zP zQ A (zP zQ A 2 r) 0 < z_new zQ A := fun r hr => ⟨z_hd_lt (a4 r hr).1, z_hd_lt (a4 r hr).2.1⟩
  refine ⟨fun r hr => ?_, fun r s hr hd => ?_, fun r r' hr hr' hne => ?_, fun p hp => (q7 p hp).1, fun p q hp hq hne => ?_, sc_fr hf a9⟩
  all_goals (try dsimp only at *)
  · by_cases e : r = nr
    · rw [if_pos e, e, h2]; exact hρ
    · rw [if_neg e, p2 r (by omega)]; exact (q4 r (by omega)).1
  · by_cases e : r = nr
    · subst e
      rw [if_pos rfl] at hd ⊢
      rw [h2]; exact hO s hd
    · rw [if_neg e] at hd ⊢
      rw [p2 r (by omega), (q4 r (by omega)).2, zFr_P hf _ (lt r (by omega)).2 (nx _ _ 18 400 (a4 r (by omega)).2.1 (by omega))]
      exact a5 r s (by omega) hd
  · by_cases e : r = nr
    · rw [e, h2, p2 r' (by omega), (q4 r' (by omega)).2]
      have := lt r' (by omega)
      exact ⟨by omega, by omega⟩
    · rw [p2 r (by omega), (q4 r (by omega)).2]
      by_cases e' : r' = nr
      · rw [e', h2]
        have := lt r (by omega)
        exact ⟨by omega, by omega⟩
      · rw [p2 r' (by omega), (q4 r' (by omega)).2]
        exact a6 r r' (by omega) (by omega) hne
  · rw [(q7 p hp).2, (q7 q hq).2]; exact a8 p q hp hq hne
/-- a new roll -/
theorem E_newRoll (d : Nat) (A : zM) : ∃ A', z_den zQ (d + 1) mL_init [.ref (z_new zQ A)] (z_nw zQ A (8, 2)) = some (none, A') ∧ cRo A' (z_new zQ A) 0 ∧ zP zQ A' (z_new zQ A) 0 = z_new zQ A + 1 ∧ zFr 2 402 xN A A' := by
  have g56 := z_new_ge A
  have h0 : z_hd zQ (z_nw zQ A (8, 2)) (z_new zQ A) = some (8, 2) := z_hd_nw_s _ _
  have hn : z_new zQ (z_nw zQ A (8, 2)) = z_new zQ A + 1 := z_new_nw _ _ _
  have h1 : z_hd zQ (z_nw zQ (z_nw zQ A (8, 2)) (18, 400)) (z_new zQ A) = some (8, 2) := by rw [z_hd_nw_o (by omega)]; exact h0
  have h2 : z_hd zQ (z_nw zQ (z_nw zQ A (8, 2)) (18, 400)) (z_new zQ A + 1) = some (18, 400) := by rw [← hn]; exact z_hd_nw_s _ _
  have hf := z_free_T (a := z_new zQ A) (k := 0) (by omega) (by omega) (by omega)
  have hp : zP zQ (z_wP (z_nw zQ (z_nw zQ A (8, 2)) (18, 400)) (z_new zQ A) 0 (z_new zQ A + 1)) (z_new zQ A) 0 = z_new zQ A + 1 := zP_wP_s (by omega) (by omega) (by omega)
  refine ⟨z_wI (z_wP (z_nw zQ (z_nw zQ A (8, 2)) (18, 400)) (z_new zQ A) 0 (z_new zQ A + 1)) (z_new zQ A) 1 (zn 0), ?_, ⟨?_, ?_, ?_⟩, ?_, ?_⟩
  · rw [B_L_init]
    simp (disch := omega) only [z_bV_some, z_bI_some, z_bJ_some, z_bD_some, z_bR_some, cond_true, cond_false, Bool.and_true, Bool.true_and, Bool.not_false, Bool.not_true, Bool.and_self, Bool.or_true, Bool.false_or, Bool.true_or, zn_ok, zn_ok0, zn_N, zn_add, zn_mul, zn_sub, z_lt_T, z_lt_F, z_le_T, z_le_F, z_eq_T, z_ne_F, z_eq_F, z_ne_T, z_ix_T, z_lt_m, z_le_m, z_lt_m2, z_le_m2, z_eq_m, z_ne_m, zn_div, z_a31, zn_shl, zn_shr, z_bq_T, z_bq_F, z_bl_T, zI_put_a, zP_put, zD_put, z_hd_put, z_cls_put, z_ia_put, z_ln_put, z_new_put, zI_wI_s, zI_wP, zI_wD, zD_wI, zD_wP, zD_wD_s, zP_wI, zP_wD, z_hd_wI, z_hd_wP, z_hd_wD, z_hd_cpy, z_cls_wI, z_cls_wP, z_cls_wD, z_cls_cpy, z_ia_wI, z_ia_wP, z_ia_wD, z_ia_cpy, z_ln_wI, z_ln_wP, z_ln_wD, z_ln_cpy, z_new_wI, z_new_wP, z_new_wD, z_new_cpy, z_new_nw, zP_cpy, zI_uI_s, zP_uI, zD_uI, z_hd_uI, z_cls_uI, z_ia_uI, z_ln_uI, z_new_uI, zI_wI_a, zI_wI_k, zI_uI_a, zI_cpy_a, zP_wP_s, zP_wP_a, zP_wP_k, nL_0, hf, c8 h1]
  · rw [z_hd_wI, z_hd_wP]; exact h1
  · rw [zP_wI, hp, z_hd_wI, z_hd_wP]; exact h2
  · rw [zI_wI_s]
  · rw [zP_wI]; exact hp
  · have t1 := zFr_trans (zFr_nw xN A (8, 2)) (zFr_nw xN (z_nw zQ A (8, 2)) (18, 400)) (fun _ _ _ h => h)
    have t2 := zFr_trans t1 (zFr_wP (X := fun a _ => a = z_new zQ A) (k := 0) (v := z_new zQ A + 1) rfl) (fun x _ hx e => by have e : x = z_new zQ A := e; omega)
    have t3 := zFr_trans t2 (zFr_wI (X := fun a _ => a = z_new zQ A) (k := 1) (v := zn 0) rfl) (fun x _ hx e => by have e : x = z_new zQ A := e; omega)
    exact zFr_mono t3 (by omega) (by omega) (fun _ _ h => h)
