/-! S LEVEL, the reference: join, repeat. -/
def rK (nr : Nat) (zs : Nat → Nat) (D : Nat → Nat → Prop) (O : Nat → Nat → Nat) (np : Nat) (st : Nat → zT) (e : Nat) (B : zM) : Prop := zI B 15 1 = zn nr ∧ zI B 15 4 = zn np ∧ zI B 15 13 = zn e ∧ (∀ r, r < nr → zI B 16 r = zn (zs r)) ∧ (∀ r, nr ≤ r → r < 20 → zI B 16 r = zn 0) ∧ (∀ r s, r < nr → D r s → zI B 17 (400 * r + s) = zn (O r s)) ∧ (∀ p, p < np → rT B p (st p)) ∧ (∀ p, np ≤ p → p < 400 → rT B p zeroT)
theorem rG_iff (G : zG) (B : zM) : rG G B ↔ rK (gR G) (gZ G) (fun r s => s < gZ G r) (gO G) (gN G) (gT G) (gE G) B := Iff.rfl
theorem rK_D {nr np e : Nat} {zs zs' : Nat → Nat} {D D' : Nat → Nat → Prop} {O O' : Nat → Nat → Nat} {st st' : Nat → zT} {B : zM} (h : rK nr zs D O np st e B) (h1 : ∀ r, r < nr → zs' r = zs r) (h2 : ∀ r s, r < nr → D' r s → D r s ∧ O' r s = O r s) (h3 : ∀ p, p < np → st' p = st p) : rK nr zs' D' O' np st' e B := by
  obtain ⟨a1, a2, a3, a4, a5, a6, a7, a8⟩ := h
  refine ⟨a1, a2, a3, fun r hr => ?_, a5, fun r s hr hd => ?_, fun p hp => ?_, a8⟩
  · rw [h1 r hr]; exact a4 r hr
  · rw [(h2 r s hr hd).2]; exact a6 r s hr (h2 r s hr hd).1
  · rw [h3 p hp]; exact a7 p hp
theorem rK_set {nr np e : Nat} {zs : Nat → Nat} {D : Nat → Nat → Prop} {O : Nat → Nat → Nat} {st : Nat → zT} {B : zM} {r s p : Nat} (h : rK nr zs D O np st e B) (hD : ∀ r s, r < nr → D r s → s < 400) (hs : s < 400) : rK nr zs (fun r' s' => D r' s' ∨ (r' = r ∧ s' = s)) (fun r' s' => if r' = r ∧ s' = s then p else O r' s') np st e (z_wI B 17 (400 * r + s) (zn p)) := by
  obtain ⟨a1, a2, a3, a4, a5, a6, a7, a8⟩ := h
  have rt : ∀ q T, rT B q T → rT (z_wI B 17 (400 * r + s) (zn p)) q T := fun q T h => rT_wI h (by unfold inR; omega)
  refine ⟨?_, ?_, ?_, fun r' hr' => ?_, fun r' h1 h2 => ?_, fun r' s' hr' hd => ?_, fun q hq => rt _ _ (a7 q hq), fun q h1 h2 => rt _ _ (a8 q h1 h2)⟩
  · rw [zI_wI_a (by omega)]; exact a1
  · rw [zI_wI_a (by omega)]; exact a2
  · rw [zI_wI_a (by omega)]; exact a3
  · rw [zI_wI_a (by omega)]; exact a4 r' hr'
  · rw [zI_wI_a (by omega)]; exact a5 r' h1 h2
  · by_cases e : r' = r ∧ s' = s
    · rw [e.1, e.2, zI_wI_s]; simp
    · have hd := hd.resolve_right e
      have := hD r' s' hr' hd
      have ne : 400 * r' + s' ≠ 400 * r + s := fun q => e (by omega)
      simp only [if_neg e]
      rw [zI_wI_k ne]; exact a6 r' s' hr' hd
theorem rK_cnt {nr np e : Nat} {zs : Nat → Nat} {D : Nat → Nat → Prop} {O : Nat → Nat → Nat} {st : Nat → zT} {B : zM} {r n : Nat} (h : rK nr zs D O np st e B) (hr : r < nr) : rK nr (fun r' => if r' = r then n else zs r') D O np st e (z_wI B 16 r (zn n)) := by
  obtain ⟨a1, a2, a3, a4, a5, a6, a7, a8⟩ := h
  have rt : ∀ q T, rT B q T → rT (z_wI B 16 r (zn n)) q T := fun q T h => rT_wI h (by unfold inR; omega)
  refine ⟨?_, ?_, ?_, fun r' hr' => ?_, fun r' h1 h2 => ?_, fun r' s' hr' hd => ?_, fun q hq => rt _ _ (a7 q hq), fun q h1 h2 => rt _ _ (a8 q h1 h2)⟩
  · rw [zI_wI_a (by omega)]; exact a1
  · rw [zI_wI_a (by omega)]; exact a2
  · rw [zI_wI_a (by omega)]; exact a3
  · by_cases e : r' = r
    · simp only [if_pos e]; rw [e, zI_wI_s]
    · simp only [if_neg e]; rw [zI_wI_k e]; exact a4 r' hr'
  · rw [zI_wI_k (by omega)]; exact a5 r' h1 h2
  · rw [zI_wI_a (by omega)]; exact a6 r' s' hr' hd
theorem rK_copy (d : Nat) {nr np e : Nat} {zs : Nat → Nat} {D : Nat → Nat → Prop} {O : Nat → Nat → Nat} {st : Nat → zT} {B : zM} {p : Nat} (h : rK nr zs D O np st e B) (hp : p < np) (hn : np < 400) (hw : wT (st p)) : ∃ B', z_den zQ (d + 2) mQ_copyOf [.ref 15, .int (zn p)] B = some (some (.int (zn np)), B') ∧ rK nr zs D O (np + 1) (fun q => if q = np then twT (st p) else st q) (e + tS (st p)) B' ∧ zFr 0 0 xrS B B' := by
  obtain ⟨a1, a2, a3, a4, a5, a6, a7, a8⟩ := h
  obtain ⟨B', b1, b2, b3, b4, b5⟩ := E_Q_copyOf d p np B (st p) hp hn (a7 p hp) (a8 np (Nat.le_refl _) hn) a2 hw.2.2.2.2.1
  have n56 := z_new_ge B
  have o : ∀ a k, a < 56 → ¬ (xE np a k ∨ (a = 15 ∧ k = 4)) → zI B' a k = zI B a k := fun a k ha hx => zFr_I b3 k (by omega) hx
  have rt : ∀ q T, q ≠ np → rT B q T → rT B' q T := fun q T hne h => rT_fr b3 h (fun a k h1 h2 => by
    rcases h2 with (h2 | h2) | h2
    · exact hne (inR_ne h1 h2)
    · unfold inR at h1; omega
    · unfold inR at h1; omega)
  refine ⟨B', b1, ⟨?_, b5, ?_, fun r hr => ?_, fun r h1 h2 => ?_, fun r s hr hd => ?_, fun q hq => ?_, fun q h1 h2 => ?_⟩, ?_⟩
  · rw [o _ _ (by omega) (by unfold xE inR; omega)]; exact a1
  · rw [b4, a3, zn_add]
  · rw [o _ _ (by omega) (by unfold xE inR; omega)]; exact a4 r hr
  · rw [o _ _ (by omega) (by unfold xE inR; omega)]; exact a5 r h1 h2
  · rw [o _ _ (by omega) (by unfold xE inR; omega)]; exact a6 r s hr hd
  · by_cases e : q = np
    · simp only [if_pos e]; rw [e]; exact b2
    · simp only [if_neg e]; exact rt _ _ e (a7 q (by omega))
  · exact rt _ _ (by omega) (a8 q (by omega) h2)
  · refine zFr_mono b3 (Nat.le_refl _) (Nat.le_refl _) (fun a k q => ?_)
    unfold xE inR at q; unfold xrS; omega
theorem E_Q_poK (d : Nat) {B : zM} {r s p : Nat} (hr : r < 20) (hs : s < 400) (h : zI B 17 (400 * r + s) = zn p) : z_den zQ (d + 1) mQ_poolOf [.ref 15, .int (zn r), .int (zn s)] B = some (some (.int (zn p)), B) := by
  rw [B_Q_poolOf]
  simp (disch := omega) only [z_bV_some, z_bI_some, z_bJ_some, z_bD_some, z_bR_some, cond_true, cond_false, Bool.and_true, Bool.true_and, Bool.not_false, Bool.not_true, Bool.and_self, Bool.or_true, Bool.false_or, Bool.true_or, zn_ok, zn_ok0, zn_N, zn_add, zn_mul, zn_sub, z_lt_T, z_lt_F, z_le_T, z_le_F, z_eq_T, z_ne_F, z_eq_F, z_ne_T, z_ix_T, z_lt_m, z_le_m, z_lt_m2, z_le_m2, z_eq_m, z_ne_m, zn_div, z_a31, zn_shl, zn_shr, z_bq_T, z_bq_F, z_bl_T, nL_400, h]
theorem L_Qei (d : Nat) {G : zG} {B : zM} {r i N : Nat} (h : rG G B) (w : wG G) (hr : r < gR G) (hi : i + N ≤ gZ G r) : ∀ (n k : Nat), k + n = N → z_denF zQ (d + 2) mQ_elementsOf (6, [some (.ref 15), some (.int (zn r)), some (.int (zn i)), some (.int (zn N)), some (.int (zn (sumE G r i k))), some (.int (zn (i + k)))], [], B) = some (some (.int (zn (sumE G r i N))), B)
  | 0, k, hk => by
    have := wG_z w hr
    have := w.2.1
    have : k = N := by omega
    rw [L_Q_elementsOf_6]
    simp (disch := omega) only [z_bV_some, z_bI_some, z_bJ_some, z_bD_some, z_bR_some, cond_true, cond_false, Bool.and_true, Bool.true_and, Bool.not_false, Bool.not_true, Bool.and_self, Bool.or_true, Bool.false_or, Bool.true_or, zn_ok, zn_ok0, zn_N, zn_add, zn_mul, zn_sub, z_lt_T, z_lt_F, z_le_T, z_le_F, z_eq_T, z_ne_F, z_eq_F, z_ne_T, z_ix_T, z_lt_m, z_le_m, z_lt_m2, z_le_m2, z_eq_m, z_ne_m, zn_div, z_a31, zn_shl, zn_shr, z_bq_T, z_bq_F, z_bl_T, this]
  | n + 1, k, hk => by
    have := wG_z w hr
    have := w.2.1
    obtain ⟨p1, p2, p3, p4⟩ := rG_rs h w hr (s := i + k) (by omega)
    have e1 := E_Q_po d h w hr (s := i + k) (by omega)
    have ih := L_Qei d h w hr hi n (k + 1) (by omega)
    have eu : sumE G r i (k + 1) = sumE G r i k + tS (gS G r (i + k)) := rfl
    rw [eu, show i + (k + 1) = i + k + 1 by omega] at ih
    rw [L_Q_elementsOf_6]
    simp (disch := omega) only [z_bV_some, z_bI_some, z_bJ_some, z_bD_some, z_bR_some, cond_true, cond_false, Bool.and_true, Bool.true_and, Bool.not_false, Bool.not_true, Bool.and_self, Bool.or_true, Bool.false_or, Bool.true_or, zn_ok, zn_ok0, zn_N, zn_add, zn_mul, zn_sub, z_lt_T, z_lt_F, z_le_T, z_le_F, z_eq_T, z_ne_F, z_eq_F, z_ne_T, z_ix_T, z_lt_m, z_le_m, z_lt_m2, z_le_m2, z_eq_m, z_ne_m, zn_div, z_a31, zn_shl, zn_shr, z_bq_T, z_bq_F, z_bl_T, nL_1, e1, p3.2.2.2.2.2.1, ih]
theorem E_Q_elementsOf (d : Nat) {G : zG} {B : zM} {r i n : Nat} (h : rG G B) (w : wG G) (hr : r < gR G) (hi : i + n ≤ gZ G r) : z_den zQ (d + 2) mQ_elementsOf [.ref 15, .int (zn r), .int (zn i), .int (zn n)] B = some (some (.int (zn (sumE G r i n))), B) := by
  rw [B_Q_elementsOf, nL_0]
  exact L_Qei d h w hr hi n 0 (by omega)
theorem sumE_le {G : zG} {r i n : Nat} (w : wG G) (hr : r < gR G) (hi : i + n ≤ gZ G r) : sumE G r i n ≤ 256 * n := by
  unfold sumE
  have : ∀ m, m ≤ n → sumN (fun k => tS (gS G r (i + k))) m ≤ 256 * m := by
    intro m
    induction m with
    | zero => intro _; exact Nat.le_refl _
    | succ m ih =>
      intro hm
      have := ih (by omega)
      have : tS (gS G r (i + m)) ≤ 256 := (w.2.2.2.2.1 _ (w.2.2.2.1 r (i + m) hr (by omega))).2.2.2.2.1
      show sumN _ m + tS (gS G r (i + m)) ≤ _
      omega
  exact this n (Nat.le_refl _)
/-- join: a state on the way -/
theorem L_Qj (d : Nat) {G : zG} {r r' n : Nat} (w : wG G) (hr : r < gR G) (hr' : r' < gR G) (hne : r' ≠ r) (hn : n = gZ G r') (h4 : gN G + n ≤ 400) : ∀ (m k : Nat) (B : zM), k + m = n → rG (insG G r (gZ G r) r' 0 k) B → ∃ B', z_denF zQ (d + 3) mQ_join (88, [some (.ref 15), some (.int (zn r)), some (.int (zn r')), some (.int (zn n)), some (.int (zn k))], [], B) = some (some (.int (zn (gZ G r + n))), z_wI B' 15 0 (zn 0)) ∧ rG (insG G r (gZ G r) r' 0 n) B' ∧ zFr 0 0 xrS B B'
  | 0, k, B, hk, h => by
    have hR := w.1
    have : k = n := by omega
    subst this
    have hz : zI B 16 r = zn (gZ G r + k) := by
      have := h.2.2.2.1 r hr
      rw [this]
      show zn (if r = r then _ else _) = _
      rw [if_pos rfl]
    refine ⟨B, ?_, h, zFr_refl _ _⟩
    rw [L_Q_join_88]
    simp (disch := omega) only [z_bV_some, z_bI_some, z_bJ_some, z_bD_some, z_bR_some, cond_true, cond_false, Bool.and_true, Bool.true_and, Bool.not_false, Bool.not_true, Bool.and_self, Bool.or_true, Bool.false_or, Bool.true_or, zn_ok, zn_ok0, zn_N, zn_add, zn_mul, zn_sub, z_lt_T, z_lt_F, z_le_T, z_le_F, z_eq_T, z_ne_F, z_eq_F, z_ne_T, z_ix_T, z_lt_m, z_le_m, z_lt_m2, z_le_m2, z_eq_m, z_ne_m, zn_div, z_a31, zn_shl, zn_shr, z_bq_T, z_bq_F, z_bl_T, nL_0, hz, B_Q_well]
  | m + 1, k, B, hk, h => by
    have hR := w.1
    have hzr := wG_z w hr
    have hzr' := wG_z w hr'
    have hGn := w.2.1
    have hz : zI B 16 r = zn (gZ G r + k) := by
      have := h.2.2.2.1 r hr
      rw [this]
      show zn (if r = r then _ else _) = _
      rw [if_pos rfl]
    have ho : zI B 17 (400 * r' + k) = zn (gO G r' k) := by
      have := h.2.2.2.2.2.1 r' k hr' (by show k < (if r' = r then _ else _); rw [if_neg hne]; omega)
      rw [this]
      show zn (if r' = r then _ else _) = _
      rw [if_neg hne]
    have hp := w.2.2.2.1 r' k hr' (by omega)
    have e1 := E_Q_poK (d + 1) (by omega) (by omega) ho
    have hst : gT (insG G r (gZ G r) r' 0 k) (gO G r' k) = gS G r' k := by
      show (if gN G ≤ gO G r' k then _ else _) = _
      rw [if_neg (by omega)]; rfl
    have hw : wT (gT (insG G r (gZ G r) r' 0 k) (gO G r' k)) := by rw [hst]; exact w.2.2.2.2.1 _ hp
    obtain ⟨B1, c1, c2, c3⟩ := rK_copy d ((rG_iff _ B).mp h) (p := gO G r' k) (by show _ < gN G + k; omega) (by show gN G + k < 400; omega) hw
    have c1 : z_den zQ (d + 2) mQ_copyOf [.ref 15, .int (zn (gO G r' k))] B = some (some (.int (zn (gN G + k))), B1) := c1
    have hz1 : zI B1 16 r = zn (gZ G r + k) := by
      have := c2.2.2.2.1 r hr
      rw [this]
      show zn (if r = r then _ else _) = _
      rw [if_pos rfl]
    have k2 := rK_set (r := r) (s := gZ G r + k) (p := gN G + k) c2 (fun q s hq hd => by
      have hd : s < (if q = r then gZ G r + k else gZ G q) := hd
      by_cases e : q = r
      · rw [if_pos e] at hd; omega
      · rw [if_neg e] at hd
        have := wG_z w hq
        omega) (by omega)
    have k3 := rK_cnt (r := r) (n := gZ G r + k + 1) k2 hr
    have k4 : rG (insG G r (gZ G r) r' 0 (k + 1)) (z_wI (z_wI B1 17 (400 * r + (gZ G r + k)) (zn (gN G + k))) 16 r (zn (gZ G r + k + 1))) := by
      rw [rG_iff]
      have ee : gE (insG G r (gZ G r) r' 0 (k + 1)) = gE (insG G r (gZ G r) r' 0 k) + tS (gT (insG G r (gZ G r) r' 0 k) (gO G r' k)) := by
        rw [hst]
        show gE G + (sumE G r' 0 k + tS (gS G r' (0 + k))) = gE G + sumE G r' 0 k + tS (gS G r' k)
        rw [Nat.zero_add]; omega
      rw [ee]
      refine rK_D k3 (fun q hq => ?_) (fun q s hq hd => ?_) (fun p hp => ?_)
      · show (if q = r then gZ G r + (k + 1) else gZ G q) = (if q = r then gZ G r + k + 1 else if q = r then gZ G r + k else gZ G q)
        by_cases e : q = r
        · rw [if_pos e, if_pos e]; rfl
        · rw [if_neg e, if_neg e, if_neg e]
      · have hd : s < (if q = r then gZ G r + (k + 1) else gZ G q) := hd
        show (s < (if q = r then gZ G r + k else gZ G q) ∨ (q = r ∧ s = gZ G r + k)) ∧ (if q = r then (if s < gZ G r then gO G r s else if s < gZ G r + (k + 1) then gN G + (s - gZ G r) else gO G r (s - (k + 1))) else gO G q s) = (if q = r ∧ s = gZ G r + k then gN G + k else (if q = r then (if s < gZ G r then gO G r s else if s < gZ G r + k then gN G + (s - gZ G r) else gO G r (s - k)) else gO G q s))
        by_cases e : q = r
        · rw [if_pos e] at hd
          rw [if_pos e, if_pos e, if_pos e]
          by_cases e2 : s = gZ G r + k
          · refine ⟨Or.inr ⟨e, e2⟩, ?_⟩
            rw [if_neg (by omega), if_pos (by omega), if_pos ⟨e, e2⟩]; omega
          · refine ⟨Or.inl (by omega), ?_⟩
            by_cases e3 : s < gZ G r
            · rw [if_pos e3, if_neg (fun q => e2 q.2), if_pos e3]
            · rw [if_neg e3, if_pos (by omega), if_neg (fun q => e2 q.2), if_neg e3, if_pos (by omega)]
        · rw [if_neg e] at hd
          rw [if_neg e, if_neg e, if_neg e, if_neg (fun q => e q.1)]
          exact ⟨Or.inl hd, rfl⟩
      · show (if gN G ≤ p then twT (gS G r' (0 + (p - gN G))) else gT G p) = (if p = gN G + k then twT (gT (insG G r (gZ G r) r' 0 k) (gO G r' k)) else (if gN G ≤ p then twT (gS G r' (0 + (p - gN G))) else gT G p))
        by_cases e : p = gN G + k
        · rw [if_pos e, hst, if_pos (by omega), show 0 + (p - gN G) = k by omega]
        · rw [if_neg e]
    obtain ⟨B', i1, i2, i3⟩ := L_Qj d w hr hr' hne hn h4 m (k + 1) _ (by omega) k4
    refine ⟨B', ?_, i2, ?_⟩
    · have i1 : z_denF zQ (d + 2 + 1) mQ_join _ = _ := i1
      rw [L_Q_join_88]
      simp (disch := omega) only [z_bV_some, z_bI_some, z_bJ_some, z_bD_some, z_bR_some, cond_true, cond_false, Bool.and_true, Bool.true_and, Bool.not_false, Bool.not_true, Bool.and_self, Bool.or_true, Bool.false_or, Bool.true_or, zn_ok, zn_ok0, zn_N, zn_add, zn_mul, zn_sub, z_lt_T, z_lt_F, z_le_T, z_le_F, z_eq_T, z_ne_F, z_eq_F, z_ne_T, z_ix_T, z_lt_m, z_le_m, z_lt_m2, z_le_m2, z_eq_m, z_ne_m, zn_div, z_a31, zn_shl, zn_shr, z_bq_T, z_bq_F, z_bl_T, nL_1, nL_400, hz, e1, c1, hz1, i1]
    · refine zFr_trans (zFr_trans (zFr_trans c3 (zFr_wI (X := xrS) ?_) (fun _ _ _ h => h)) (zFr_wI (X := xrS) ?_) (fun _ _ _ h => h)) i3 (fun _ _ _ h => h) <;> (unfold xrS; omega)
theorem ins_0 {G : zG} {r r' i : Nat} {B : zM} (w : wG G) (hr : r < gR G) (h : rG G B) : rG (insG G r (gZ G r) r' i 0) B := by
  rw [rG_iff] at h ⊢
  refine rK_D h (fun q hq => ?_) (fun q s hq hd => ?_) (fun p hp => ?_)
  · show (if q = r then gZ G r + 0 else gZ G q) = gZ G q
    by_cases e : q = r
    · rw [if_pos e, e]; rfl
    · rw [if_neg e]
  · have hd : s < (if q = r then gZ G r + 0 else gZ G q) := hd
    show s < gZ G q ∧ (if q = r then (if s < gZ G r then gO G r s else if s < gZ G r + 0 then gN G + (s - gZ G r) else gO G r (s - 0)) else gO G q s) = gO G q s
    by_cases e : q = r
    · rw [if_pos e] at hd
      rw [if_pos e, if_pos (by omega), e]
      exact ⟨by omega, rfl⟩
    · rw [if_neg e] at hd
      rw [if_neg e]
      exact ⟨hd, rfl⟩
  · have hp : p < gN G + 0 := hp
    show (if gN G ≤ p then _ else gT G p) = gT G p
    rw [if_neg (by omega)]
theorem Q_join (d : Nat) {pl : Bool} {G : zG} {B : zM} {x y : Int32} (h : rG G B) (w : wG G) (hp : zI B 15 36 = bI pl) : rRes B (oJoin pl G x y) (z_den zQ (d + 3) mQ_join [.ref 15, .int x, .int y] B) := by
  unfold oJoin
  rw [B_Q_join]
  rcases rOk_c w x with g | ⟨r, hr, rfl⟩
  · rw [pif_F (fun q => g q.1), E_Q_isRoll_no _ h w g]
    simp (disch := omega) only [z_bV_some, z_bI_some, z_bJ_some, z_bD_some, z_bR_some, cond_true, cond_false, Bool.and_true, Bool.true_and, Bool.not_false, Bool.not_true, Bool.and_self, Bool.or_true, Bool.false_or, Bool.true_or, zn_ok, zn_ok0, zn_N, zn_add, zn_mul, zn_sub, z_lt_T, z_lt_F, z_le_T, z_le_F, z_eq_T, z_ne_F, z_eq_F, z_ne_T, z_ix_T, z_lt_m, z_le_m, z_lt_m2, z_le_m2, z_eq_m, z_ne_m, zn_div, z_a31, zn_shl, zn_shr, z_bq_T, z_bq_F, z_bl_T, nL_0, B_Q_no]
    exact rRes_st h _ _
  have hR := w.1
  have hzr := wG_z w hr
  have hGn := w.2.1
  have h8 := w.2.2.2.2.2.2
  rw [E_Q_isRoll_ok _ h w (rOk_nat w hr)]
  rcases rOk_c w y with g' | ⟨r', hr', rfl⟩
  · rw [pif_F (fun q => g' q.2.1)]
    simp (disch := omega) only [z_bV_some, z_bI_some, z_bJ_some, z_bD_some, z_bR_some, cond_true, cond_false, Bool.and_true, Bool.true_and, Bool.not_false, Bool.not_true, Bool.and_self, Bool.or_true, Bool.false_or, Bool.true_or, zn_ok, zn_ok0, zn_N, zn_add, zn_mul, zn_sub, z_lt_T, z_lt_F, z_le_T, z_le_F, z_eq_T, z_ne_F, z_eq_F, z_ne_T, z_ix_T, z_lt_m, z_le_m, z_lt_m2, z_le_m2, z_eq_m, z_ne_m, zn_div, z_a31, zn_shl, zn_shr, z_bq_T, z_bq_F, z_bl_T, nL_0, E_Q_isRoll_no _ h w g', B_Q_no]
    exact rRes_st h _ _
  have hzr' := wG_z w hr'
  have er' := E_Q_isRoll_ok d h w (rOk_nat w hr')
  by_cases g : r = r'
  · subst g
    rw [pif_F (fun q => q.2.2 rfl)]
    simp (disch := omega) only [z_bV_some, z_bI_some, z_bJ_some, z_bD_some, z_bR_some, cond_true, cond_false, Bool.and_true, Bool.true_and, Bool.not_false, Bool.not_true, Bool.and_self, Bool.or_true, Bool.false_or, Bool.true_or, zn_ok, zn_ok0, zn_N, zn_add, zn_mul, zn_sub, z_lt_T, z_lt_F, z_le_T, z_le_F, z_eq_T, z_ne_F, z_eq_F, z_ne_T, z_ix_T, z_lt_m, z_le_m, z_lt_m2, z_le_m2, z_eq_m, z_ne_m, zn_div, z_a31, zn_shl, zn_shr, z_bq_T, z_bq_F, z_bl_T, nL_0, er', B_Q_no]
    exact rRes_st h _ _
  rw [pif_T ⟨rOk_nat w hr, rOk_nat w hr', fun e => g (zn_inj (by omega) (by omega) e)⟩, zn_N (by omega), zn_N (by omega)]
  unfold oAdd
  by_cases g2 : pl = true
  · rw [if_pos g2]
    simp (disch := omega) only [z_bV_some, z_bI_some, z_bJ_some, z_bD_some, z_bR_some, cond_true, cond_false, Bool.and_true, Bool.true_and, Bool.not_false, Bool.not_true, Bool.and_self, Bool.or_true, Bool.false_or, Bool.true_or, zn_ok, zn_ok0, zn_N, zn_add, zn_mul, zn_sub, z_lt_T, z_lt_F, z_le_T, z_le_F, z_eq_T, z_ne_F, z_eq_F, z_ne_T, z_ix_T, z_lt_m, z_le_m, z_lt_m2, z_le_m2, z_eq_m, z_ne_m, zn_div, z_a31, zn_shl, zn_shr, z_bq_T, z_bq_F, z_bl_T, nL_0, er', hp, pl_T g2, B_Q_no]
    exact rRes_st h _ _
  rw [if_neg g2]
  have i4 := h.2.1
  have i13 := h.2.2.1
  have i16 := h.2.2.2.1 r' hr'
  by_cases g3 : 400 < gN G + gZ G r'
  · rw [pif_T (Or.inl g3)]
    simp (disch := omega) only [z_bV_some, z_bI_some, z_bJ_some, z_bD_some, z_bR_some, cond_true, cond_false, Bool.and_true, Bool.true_and, Bool.not_false, Bool.not_true, Bool.and_self, Bool.or_true, Bool.false_or, Bool.true_or, zn_ok, zn_ok0, zn_N, zn_add, zn_mul, zn_sub, z_lt_T, z_lt_F, z_le_T, z_le_F, z_eq_T, z_ne_F, z_eq_F, z_ne_T, z_ix_T, z_lt_m, z_le_m, z_lt_m2, z_le_m2, z_eq_m, z_ne_m, zn_div, z_a31, zn_shl, zn_shr, z_bq_T, z_bq_F, z_bl_T, nL_0, nL_400, er', hp, pl_F g2, i4, i16, B_Q_no]
    exact rRes_st h _ _
  have hse := sumE_le w hr' (i := 0) (n := gZ G r') (by omega)
  have ee := E_Q_elementsOf d h w hr' (i := 0) (n := gZ G r') (by omega)
  by_cases g4 : 8000 < gE G + sumE G r' 0 (gZ G r')
  · rw [pif_T (Or.inr g4)]
    simp (disch := omega) only [z_bV_some, z_bI_some, z_bJ_some, z_bD_some, z_bR_some, cond_true, cond_false, Bool.and_true, Bool.true_and, Bool.not_false, Bool.not_true, Bool.and_self, Bool.or_true, Bool.false_or, Bool.true_or, zn_ok, zn_ok0, zn_N, zn_add, zn_mul, zn_sub, z_lt_T, z_lt_F, z_le_T, z_le_F, z_eq_T, z_ne_F, z_eq_F, z_ne_T, z_ix_T, z_lt_m, z_le_m, z_lt_m2, z_le_m2, z_eq_m, z_ne_m, zn_div, z_a31, zn_shl, zn_shr, z_bq_T, z_bq_F, z_bl_T, nL_0, nL_400, nL_8000, er', hp, pl_F g2, i4, i16, ee, i13, B_Q_no]
    exact rRes_st h _ _
  rw [pif_F (by omega)]
  obtain ⟨B', j1, j2, j3⟩ := L_Qj d w hr hr' (fun e => g e.symm) rfl (by omega) (gZ G r') 0 B (by omega) (ins_0 w hr h)
  have j1 : z_denF zQ (d + 2 + 1) mQ_join _ = _ := j1
  simp (disch := omega) only [z_bV_some, z_bI_some, z_bJ_some, z_bD_some, z_bR_some, cond_true, cond_false, Bool.and_true, Bool.true_and, Bool.not_false, Bool.not_true, Bool.and_self, Bool.or_true, Bool.false_or, Bool.true_or, zn_ok, zn_ok0, zn_N, zn_add, zn_mul, zn_sub, z_lt_T, z_lt_F, z_le_T, z_le_F, z_eq_T, z_ne_F, z_eq_F, z_ne_T, z_ix_T, z_lt_m, z_le_m, z_lt_m2, z_le_m2, z_eq_m, z_ne_m, zn_div, z_a31, zn_shl, zn_shr, z_bq_T, z_bq_F, z_bl_T, nL_0, nL_400, nL_8000, er', hp, pl_F g2, i4, i16, ee, i13, j1]
  exact rRes_K j3 j2
