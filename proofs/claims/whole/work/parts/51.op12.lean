/-! S LEVEL: copies of strips come to a roll: what it is, and the class's way. -/
noncomputable def twT (T : zT) : zT := copyT (newT (tK T) (tN T) (tU T) (tS T)) T
theorem wT_tw {T : zT} (h : wT T) : wT (twT T) := wT_copy (wT_new h.1 h.2.1 h.2.2.1 h.2.2.2.2.1) h rfl
theorem tS_tw (T : zT) : tS (twT T) = tS T := rfl
noncomputable def sumE (G : zG) (r i n : Nat) : Nat := sumN (fun k => tS (gS G r (i + k))) n
noncomputable def insG (G : zG) (r at_ r' i n : Nat) : zG := (gR G, fun q => if q = r then gZ G r + n else gZ G q, fun q s => if q = r then (if s < at_ then gO G r s else if s < at_ + n then gN G + (s - at_) else gO G r (s - n)) else gO G q s, gN G + n, fun p => if gN G ≤ p then twT (gS G r' (i + (p - gN G))) else gT G p, gE G + sumE G r' i n)
theorem sumN_add (f : Nat → Nat) : ∀ a b, sumN f (a + b) = sumN f a + sumN (fun k => f (a + k)) b
  | a, 0 => rfl
  | a, b + 1 => by
    show sumN f (a + b) + f (a + b) = sumN f a + (sumN (fun k => f (a + k)) b + f (a + b))
    rw [sumN_add f a b]
    omega
theorem wG_ins {G : zG} {r at_ r' i n : Nat} (w : wG G) (hr : r < gR G) (hr' : r' < gR G) (ha : at_ ≤ gZ G r) (hi : i + n ≤ gZ G r') (h4 : gN G + n ≤ 400) (h8 : gE G + sumE G r' i n ≤ 8000) : wG (insG G r at_ r' i n) := by
  obtain ⟨w1, w2, w3, w4, w5, w6, w7⟩ := w
  refine ⟨w1, h4, ?_, fun q s hq hs => ?_, fun p hp => ?_, ?_, h8⟩
  · show sumN (fun q => if q = r then gZ G r + n else gZ G q) (gR G) = gN G + n
    have := sumN_upd (f := gZ G) (p := r) (v := gZ G r + n) (gR G) hr
    omega
  · show (if q = r then (if s < at_ then gO G r s else if s < at_ + n then gN G + (s - at_) else gO G r (s - n)) else gO G q s) < gN G + n
    have hs : s < if q = r then gZ G r + n else gZ G q := hs
    have hq : q < gR G := hq
    by_cases e : q = r
    · rw [if_pos e] at hs ⊢
      by_cases e1 : s < at_
      · rw [if_pos e1]; have := w4 r s hr (by omega); omega
      · rw [if_neg e1]
        by_cases e2 : s < at_ + n
        · rw [if_pos e2]; omega
        · rw [if_neg e2]; have := w4 r (s - n) hr (by omega); omega
    · rw [if_neg e] at hs ⊢
      have := w4 q s hq hs; omega
  · show wT (if gN G ≤ p then _ else gT G p)
    have hp : p < gN G + n := hp
    by_cases e : gN G ≤ p
    · rw [if_pos e]; exact wT_tw (w5 _ (w4 r' _ hr' (by omega)))
    · rw [if_neg e]; exact w5 p (by omega)
  · show gE G + sumE G r' i n = sumN (fun p => tS (if gN G ≤ p then twT (gS G r' (i + (p - gN G))) else gT G p)) (gN G + n)
    rw [sumN_add, w6]
    congr 1
    · exact sumN_congr _ (fun p hp => by rw [if_neg (by omega)])
    · exact sumN_congr _ (fun k hk => by rw [if_pos (by omega), tS_tw, Nat.add_sub_cancel_left])
theorem L_ei (d : Nat) {G : zG} {al : Nat → Nat} {A : zM} {r i N : Nat} (h : cG G al A) (w : wG G) (hr : r < gR G) (hi : i + N ≤ gZ G r) : ∀ (n k : Nat) (o : Option Value), k + n = N → z_denF zQ (d + 2) mL_elementsIn (5, [some (.ref (zP zQ A 2 r)), some (.int (zn i)), some (.int (zn N)), some (.int (zn (sumE G r i k))), some (.int (zn k)), o], [], A) = some (some (.int (zn (sumE G r i N))), A)
  | 0, k, o, hk => by
    obtain ⟨q, q0, hz⟩ := cG_ro h w hr
    have : k = N := by omega
    rw [L_L_elementsIn_5]
    simp (disch := omega) only [z_bV_some, z_bI_some, z_bJ_some, z_bD_some, z_bR_some, cond_true, cond_false, Bool.and_true, Bool.true_and, Bool.not_false, Bool.not_true, Bool.and_self, Bool.or_true, Bool.false_or, Bool.true_or, zn_ok, zn_ok0, zn_N, zn_add, zn_mul, zn_sub, z_lt_T, z_lt_F, z_le_T, z_le_F, z_eq_T, z_ne_F, z_eq_F, z_ne_T, z_ix_T, z_lt_m, z_le_m, z_lt_m2, z_le_m2, z_eq_m, z_ne_m, zn_div, z_a31, zn_shl, zn_shr, z_bq_T, z_bq_F, z_bl_T, this]
  | n + 1, k, o, hk => by
    obtain ⟨q, q0, hz⟩ := cG_ro h w hr
    obtain ⟨p1, p2, p3, p4⟩ := cG_rs h w hr (s := i + k) (by omega)
    have e1 := E_L_at d h w hr (s := i + k) (by omega)
    have e2 := E_S_elements d _ A _ p2 (wT_w0 p3)
    have ih := fun o => L_ei d h w hr hi n (k + 1) o (by omega)
    have eu : sumE G r i (k + 1) = sumE G r i k + tS (gS G r (i + k)) := rfl
    rw [eu] at ih
    rw [L_L_elementsIn_5]
    simp (disch := omega) only [z_bV_some, z_bI_some, z_bJ_some, z_bD_some, z_bR_some, cond_true, cond_false, Bool.and_true, Bool.true_and, Bool.not_false, Bool.not_true, Bool.and_self, Bool.or_true, Bool.false_or, Bool.true_or, zn_ok, zn_ok0, zn_N, zn_add, zn_mul, zn_sub, z_lt_T, z_lt_F, z_le_T, z_le_F, z_eq_T, z_ne_F, z_eq_F, z_ne_T, z_ix_T, z_lt_m, z_le_m, z_lt_m2, z_le_m2, z_eq_m, z_ne_m, zn_div, z_a31, zn_shl, zn_shr, z_bq_T, z_bq_F, z_bl_T, nL_1, c8 q.1, e1, c9 p2.1, e2, ih]
theorem E_L_elementsIn (d : Nat) {G : zG} {al : Nat → Nat} {A : zM} {r i n : Nat} (h : cG G al A) (w : wG G) (hr : r < gR G) (hi : i + n ≤ gZ G r) : z_den zQ (d + 2) mL_elementsIn [.ref (zP zQ A 2 r), .int (zn i), .int (zn n)] A = some (some (.int (zn (sumE G r i n))), A) := by
  rw [B_L_elementsIn, nL_0]
  exact L_ei d h w hr hi n 0 none (by omega)
/-- room is made -/
def oM (G : zG) (r n m : Nat) : Nat → Nat → Nat := fun q s => if q = r ∧ m + n ≤ s then gO G r (s - n) else gO G q s
def dM (G : zG) (r n m : Nat) : Nat → Nat → Prop := fun q s => if q = r then (s < m ∨ (m + n ≤ s ∧ s < gZ G r + n)) else s < gZ G q
theorem L_mr (d : Nat) {G : zG} {al : Nat → Nat} {r n at_ : Nat} (w : wG G) (hr : r < gR G) (hn : gZ G r + n ≤ 400) (ρ ar : Nat) (lar : 56 ≤ ar) : ∀ (m : Nat) (A : zM), at_ + m ≤ gZ G r → zP zQ A 2 r = ρ → zP zQ A ρ 0 = ar → cK (gR G) (gZ G) (dM G r n (at_ + m)) (oM G r n (at_ + m)) (gN G) (gT G) al A →
    ∃ A', z_denF zQ (d + 1) mL_makeRoom (28, [some (.ref ρ), some (.int (zn at_)), some (.int (zn n)), some (.int (zn (at_ + m) - zn 1))], [], A) = some (none, z_wI A' ρ 1 (zn (gZ G r + n))) ∧ zFr 0 0 (fun a _ => a = ar) A A' ∧ zP zQ A' 2 r = ρ ∧ cK (gR G) (gZ G) (dM G r n at_) (oM G r n at_) (gN G) (gT G) al A'
  | 0, A, hm, hρ, har, hK => by
    have q := hK.1 r hr
    rw [hρ] at q
    refine ⟨A, ?_, zFr_refl _ _, hρ, hK⟩
    rw [L_L_makeRoom_28, q.2.2]
    simp (disch := omega) only [z_bV_some, z_bI_some, z_bJ_some, z_bD_some, z_bR_some, cond_true, cond_false, Bool.and_true, Bool.true_and, Bool.not_false, Bool.not_true, Bool.and_self, Bool.or_true, Bool.false_or, Bool.true_or, zn_ok, zn_ok0, zn_N, zn_add, zn_mul, zn_sub, z_lt_T, z_lt_F, z_le_T, z_le_F, z_eq_T, z_ne_F, z_eq_F, z_ne_T, z_ix_T, z_lt_m, z_le_m, z_lt_m2, z_le_m2, z_eq_m, z_ne_m, zn_div, z_a31, zn_shl, zn_shr, z_bq_T, z_bq_F, z_bl_T, z_lt_pred, c8 q.1]
  | m + 1, A, hm, hρ, har, hK => by
    have q := hK.1 r hr
    rw [hρ] at q
    have e0 : zn (at_ + (m + 1)) - zn 1 = zn (at_ + m) := by rw [zn_sub (by omega)]; rfl
    have hc := hK.2.1 r (at_ + m) hr (by show (if r = r then _ else _); rw [if_pos rfl]; omega)
    rw [hρ, har] at hc
    have ho : oM G r n (at_ + (m + 1)) r (at_ + m) = gO G r (at_ + m) := by unfold oM; rw [if_neg (by omega)]
    rw [ho] at hc
    have hp := w.2.2.2.1 r (at_ + m) hr (by omega)
    have hT := hK.2.2.2.1 _ hp
    have k1 := cK_set (s := at_ + m + n) (p := gO G r (at_ + m)) hK hr
    rw [hρ, har] at k1
    have k2 := cK_D (D' := dM G r n (at_ + m)) (O' := oM G r n (at_ + m)) k1 (fun _ _ => rfl) (fun q s hq hd => by
      unfold dM at hd ⊢
      unfold oM
      by_cases e : q = r
      · rw [if_pos e] at hd ⊢
        by_cases e2 : s = at_ + m + n
        · refine ⟨Or.inr ⟨e, e2⟩, ?_⟩
          rw [if_pos ⟨e, by omega⟩, if_pos ⟨e, e2⟩]
          congr 1; omega
        · refine ⟨Or.inl (by omega), ?_⟩
          by_cases e3 : at_ + m + n ≤ s
          · rw [if_pos ⟨e, e3⟩, if_neg (fun q => e2 q.2), if_pos ⟨e, by omega⟩]
          · rw [if_neg (fun q => e3 q.2), if_neg (fun q => e2 q.2), if_neg (fun q => by omega)]
      · rw [if_neg e] at hd ⊢
        refine ⟨Or.inl hd, ?_⟩
        rw [if_neg (fun q => e q.1), if_neg (fun q => e q.1), if_neg (fun q => e q.1)]) (fun _ _ => rfl)
    obtain ⟨A', i1, i2, i3, i4⟩ := L_mr d w hr hn ρ ar lar m (z_wP A ar (at_ + m + n) (al (gO G r (at_ + m)))) (by omega) (by rw [zP_wP_a (by omega)]; exact hρ) (by rw [zP_wP_a (fun e => by have := q.1; have q2 := q.2.1; rw [har, ← e, this] at q2; cases q2)]; exact har) k2
    refine ⟨A', ?_, zFr_trans (zFr_wP (X := fun a _ => a = ar) rfl) i2 (fun _ _ _ h => h), i3, i4⟩
    have hf := z_free_T (a := ar) (k := at_ + m + n) (by omega) (by omega) (by omega)
    have q2 := q.2.1
    rw [har] at q2
    rw [L_L_makeRoom_28, e0, har]
    simp (disch := omega) only [z_bV_some, z_bI_some, z_bJ_some, z_bD_some, z_bR_some, cond_true, cond_false, Bool.and_true, Bool.true_and, Bool.not_false, Bool.not_true, Bool.and_self, Bool.or_true, Bool.false_or, Bool.true_or, zn_ok, zn_ok0, zn_N, zn_add, zn_mul, zn_sub, z_lt_T, z_lt_F, z_le_T, z_le_F, z_eq_T, z_ne_F, z_eq_F, z_ne_T, z_ix_T, z_lt_m, z_le_m, z_lt_m2, z_le_m2, z_eq_m, z_ne_m, zn_div, z_a31, zn_shl, zn_shr, z_bq_T, z_bq_F, z_bl_T, z_dec, c8 q.1, z_ia_of q2, hc, hf, c9 hT.1, i1]
