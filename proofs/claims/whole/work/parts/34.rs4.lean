/-! S LEVEL, the reference: the head anew. -/
/-- the head anew -/
theorem rT_wI {B : zM} {p : Nat} {T : zT} {a k : Nat} {v : Int32} (h : rT B p T) (hx : ¬ inR p a k) : rT (z_wI B a k v) p T :=
  rT_fr (zFr_wI (X := fun a' k' => a' = a ∧ k' = k) ⟨rfl, rfl⟩) h (fun a' k' h1 h2 => by obtain ⟨rfl, rfl⟩ := h2; exact hx h1)
theorem rT_B {B : zM} {p : Nat} {T : zT} {f : Nat → Int32} {n i : Nat} {v : Int32} (h : rT B p (tK T, tN T, tU T, tL T, n, tS T, f, tE T)) (hi : i < 9) : rT (z_wI B 23 (9 * p + i) v) p (tK T, tN T, tU T, tL T, n, tS T, (fun j => if j = i then v else f j), tE T) := by
  obtain ⟨k0, k1, k2, k3, k4, k5, k6, k7⟩ := h
  refine ⟨?_, ?_, ?_, ?_, ?_, ?_, fun j hj => ?_, fun k hk => ?_⟩
  · rw [zI_wI_a (by omega)]; exact k0
  · rw [zI_wI_a (by omega)]; exact k1
  · rw [zI_wI_a (by omega)]; exact k2
  · rw [zI_wI_a (by omega)]; exact k3
  · rw [zI_wI_a (by omega)]; exact k4
  · rw [zI_wI_a (by omega)]; exact k5
  · show _ = (if j = i then v else f j)
    by_cases e : j = i
    · rw [if_pos e, e, zI_wI_s]
    · rw [if_neg e, zI_wI_k (by omega)]; exact k6 j hj
  · rw [zI_wI_a (by omega)]; exact k7 k hk
theorem L_se (d p : Nat) (s : Int32) (hp : p < 400) : ∀ (r i : Nat) (B : zM), i + r = 4 →
    z_denF zQ (d + 1) mQ_sealIt (110, [some (.ref 15), some (.int (zn p)), some (.int s), some (.int (zn i))], [], B) = some (none, z_put B 23 (9 * p + 5 + i) r (fun j => ebF s (9 * p + 8 - j)))
  | 0, i, B, hi => by
    rw [L_Q_sealIt_110, z_put_0]
    simp (disch := omega) only [z_bV_some, z_bI_some, z_bJ_some, z_bD_some, z_bR_some, cond_true, cond_false, Bool.and_true, Bool.true_and, Bool.not_false, Bool.not_true, Bool.and_self, Bool.or_true, Bool.false_or, Bool.true_or, zn_ok, zn_ok0, zn_N, zn_add, zn_mul, zn_sub, z_lt_T, z_lt_F, z_le_T, z_le_F, z_eq_T, z_ne_F, z_eq_F, z_ne_T, z_ix_T, z_lt_m, z_le_m, z_lt_m2, z_le_m2, z_eq_m, z_ne_m, zn_div, z_a31, zn_shl, zn_shr, z_bq_T, z_bq_F, z_bl_T, nL_4]
  | r + 1, i, B, hi => by
    have ih := fun B => L_se d p s hp r (i + 1) B (by omega)
    rw [L_Q_sealIt_110]
    simp (disch := omega) only [z_bV_some, z_bI_some, z_bJ_some, z_bD_some, z_bR_some, cond_true, cond_false, Bool.and_true, Bool.true_and, Bool.not_false, Bool.not_true, Bool.and_self, Bool.or_true, Bool.false_or, Bool.true_or, zn_ok, zn_ok0, zn_N, zn_add, zn_mul, zn_sub, z_lt_T, z_lt_F, z_le_T, z_le_F, z_eq_T, z_ne_F, z_eq_F, z_ne_T, z_ix_T, z_lt_m, z_le_m, z_lt_m2, z_le_m2, z_eq_m, z_ne_m, zn_div, z_a31, zn_shl, zn_shr, z_bq_T, z_bq_F, z_bl_T, nL_4, nL_9, nL_5, nL_24, nL_8, nL_31, nL_1, ih]
    have : (Int32.toInt8 (s >>> zn (24 - 8 * i))).toInt32 = ebF s (9 * p + 8 - (9 * p + 5 + i)) := by
      unfold ebF
      rw [show 8 * (9 * p + 8 - (9 * p + 5 + i)) = 24 - 8 * i by omega]
    rw [this, ← z_put_lo B 23 (9 * p + 5 + i) r (fun j => ebF s (9 * p + 8 - j)), Nat.add_assoc (9 * p + 5) i 1]
theorem wT_seal {T : zT} (h : wT T) (hl : tL T = false) : wT (sealT T) := by
  obtain ⟨w1, w2, w3, w4, w5, w6, w7, w8, w9⟩ := h
  refine ⟨w1, w2, w3, Nat.le_refl 9, w5, fun _ => rfl, fun q => ?_, fun i hi => ?_, w9⟩
  · rw [tL_seal, hl] at q; exact absurd q Bool.false_ne_true
  · rw [tB_seal]
    split
    · unfold h5F
      repeat' split
      all_goals exact isB_eb _ (by omega)
    · exact isB_eb _ (by omega)
theorem h5_chain (T : zT) (j : Nat) (hj : j < 5) : (fun j => if j = 4 then ebF (zn (tS T)) 0 else if j = 3 then ebF (zn (tS T)) 1 else if j = 2 then ebF (zn (tN T)) 0 else if j = 1 then ebF (zn (tN T)) 1 else if j = 0 then ebF (zn (tK T)) 0 else tB T j) j = h5F T j := by
  unfold h5F
  dsimp only
  generalize ebF (zn (tS T)) 0 = a
  generalize ebF (zn (tS T)) 1 = b
  generalize ebF (zn (tN T)) 0 = c
  generalize ebF (zn (tN T)) 1 = d
  generalize ebF (zn (tK T)) 0 = e
  rcases (show j = 0 ∨ j = 1 ∨ j = 2 ∨ j = 3 ∨ j = 4 by omega) with rfl | rfl | rfl | rfl | rfl <;> simp
theorem h5_isB (T : zT) (j : Nat) (hj : isB (tB T j)) : isB ((fun j => if j = 4 then ebF (zn (tS T)) 0 else if j = 3 then ebF (zn (tS T)) 1 else if j = 2 then ebF (zn (tN T)) 0 else if j = 1 then ebF (zn (tN T)) 1 else if j = 0 then ebF (zn (tK T)) 0 else tB T j) j) := by
  have a1 := isB_eb (zn (tS T)) (j := 0) (by omega)
  have a2 := isB_eb (zn (tS T)) (j := 1) (by omega)
  have a3 := isB_eb (zn (tN T)) (j := 0) (by omega)
  have a4 := isB_eb (zn (tN T)) (j := 1) (by omega)
  have a5 := isB_eb (zn (tK T)) (j := 0) (by omega)
  dsimp only
  split
  · exact a1
  · split
    · exact a2
    · split
      · exact a3
      · split
        · exact a4
        · split
          · exact a5
          · exact hj
def set9 (T : zT) : zT := (tK T, tN T, tU T, tL T, 9, tS T, tB T, tE T)
theorem wT_set9 {T : zT} (h : wT T) (hl : tL T = false) : wT (set9 T) := by
  obtain ⟨w1, w2, w3, w4, w5, w6, w7, w8, w9⟩ := h
  exact ⟨w1, w2, w3, Nat.le_refl 9, w5, fun _ => rfl, fun q => absurd (q.symm.trans hl) (by simp), w8, w9⟩
theorem E_Q_sealIt (d p : Nat) (B : zM) (T : zT) (hp : p < 400) (h : rT B p T) (hw : wT (set9 T)) (hl : tL T = false) : ∃ B', z_den zQ (d + 4) mQ_sealIt [.ref 15, .int (zn p)] B = some (none, B') ∧ rT B' p (sealT T) ∧ zFr 0 0 (inR p) B B' := by
  have hs : tS T ≤ 256 := hw.2.2.2.2.1
  have hN : tN T ≤ 30000 := hw.2.1
  obtain ⟨k0, k1, k2, k3, k4, k5, k6, k7⟩ := h
  have z0 : rT (z_wI B 22 p (zn 9)) p (tK T, tN T, tU T, tL T, 9, tS T, tB T, tE T) := by
    refine ⟨?_, ?_, ?_, ?_, ?_, ?_, fun i hi => ?_, fun k hk => ?_⟩
    · rw [zI_wI_a (by omega)]; exact k0
    · rw [zI_wI_a (by omega)]; exact k1
    · rw [zI_wI_a (by omega)]; exact k2
    · rw [zI_wI_a (by omega)]; exact k3
    · rw [zI_wI_s]; rfl
    · rw [zI_wI_a (by omega)]; exact k5
    · rw [zI_wI_a (by omega)]; exact k6 i hi
    · rw [zI_wI_a (by omega)]; exact k7 k hk
  have z1 := rT_B (i := 0) (v := ebF (zn (tK T)) 0) z0 (by omega)
  have z2 := rT_B (i := 1) (v := ebF (zn (tN T)) 1) z1 (by omega)
  have z3 := rT_B (i := 2) (v := ebF (zn (tN T)) 0) z2 (by omega)
  have z4 := rT_B (i := 3) (v := ebF (zn (tS T)) 1) z3 (by omega)
  have z5 := rT_B (i := 4) (v := ebF (zn (tS T)) 0) z4 (by omega)
  generalize hf : (fun j => if j = 4 then ebF (zn (tS T)) 0 else if j = 3 then ebF (zn (tS T)) 1 else if j = 2 then ebF (zn (tN T)) 0 else if j = 1 then ebF (zn (tN T)) 1 else if j = 0 then ebF (zn (tK T)) 0 else tB T j) = f at z5
  have hf5 : ∀ j, j < 5 → f j = h5F T j := by
    intro j hj
    rw [← hf]
    exact h5_chain T j hj
  have hfb : ∀ j, j < 9 → isB (f j) := by
    intro j hj
    rw [← hf]
    exact h5_isB T j (hw.2.2.2.2.2.2.2.1 j hj)
  generalize hB5 : z_wI (z_wI (z_wI (z_wI (z_wI (z_wI B 22 p (zn 9)) 23 (9 * p + 0) (ebF (zn (tK T)) 0)) 23 (9 * p + 1) (ebF (zn (tN T)) 1)) 23 (9 * p + 2) (ebF (zn (tN T)) 0)) 23 (9 * p + 3) (ebF (zn (tS T)) 1)) 23 (9 * p + 4) (ebF (zn (tS T)) 0) = B5 at z5
  have hw5 : wT (tK T, tN T, tU T, tL T, 9, tS T, f, tE T) := by
    obtain ⟨w1, w2, w3, w4, w5, w6, w7, w8, w9⟩ := hw
    exact ⟨w1, w2, w3, Nat.le_refl 9, w5, fun _ => rfl, fun q => absurd (q.symm.trans hl) (by simp), hfb, w9⟩
  have es := E_Q_sumOf d p B5 _ hp z5 hw5
  have em : tM (tK T, tN T, tU T, tL T, 9, tS T, f, tE T) = tM (h9F T) := tM_congr (T' := (tK T, tN T, tU T, tL T, 9, tS T, f, tE T)) rfl rfl hf5 rfl
  rw [em] at es
  have el := L_se (d + 3) p (tM (h9F T)) hp 4 0 B5 (by omega)
  refine ⟨z_put B5 23 (9 * p + 5 + 0) 4 (fun j => ebF (tM (h9F T)) (9 * p + 8 - j)), ?_, ?_, ?_⟩
  · have u0 : 9 * p + 0 = 9 * p := Nat.add_zero _
    rw [u0] at hB5
    have ee : ∀ n : Nat, n < 2147483648 → ebF (zn (n / 2 ^ 8)) 0 = ebF (zn n) 1 := fun n hn => by rw [← zn_shr hn (by omega)]; exact eb_shr _ (by omega)
    rw [B_Q_sealIt]
    simp (disch := omega) only [z_bV_some, z_bI_some, z_bJ_some, z_bD_some, z_bR_some, cond_true, cond_false, Bool.and_true, Bool.true_and, Bool.not_false, Bool.not_true, Bool.and_self, Bool.or_true, Bool.false_or, Bool.true_or, zn_ok, zn_ok0, zn_N, zn_add, zn_mul, zn_sub, z_lt_T, z_lt_F, z_le_T, z_le_F, z_eq_T, z_ne_F, z_eq_F, z_ne_T, z_ix_T, z_lt_m, z_le_m, z_lt_m2, z_le_m2, z_eq_m, z_ne_m, zn_div, z_a31, zn_shl, zn_shr, z_bq_T, z_bq_F, z_bl_T, zI_put_a, zP_put, zD_put, z_hd_put, z_cls_put, z_ia_put, z_ln_put, z_new_put, zI_wI_s, zI_wP, zI_wD, zD_wI, zD_wP, zD_wD_s, zP_wI, zP_wD, z_hd_wI, z_hd_wP, z_hd_wD, z_hd_cpy, z_cls_wI, z_cls_wP, z_cls_wD, z_cls_cpy, z_ia_wI, z_ia_wP, z_ia_wD, z_ia_cpy, z_ln_wI, z_ln_wP, z_ln_wD, z_ln_cpy, z_new_wI, z_new_wP, z_new_wD, z_new_cpy, z_new_nw, zP_cpy, zI_uI_s, zP_uI, zD_uI, z_hd_uI, z_cls_uI, z_ia_uI, z_ln_uI, z_new_uI, zI_wI_a, zI_wI_k, zI_uI_a, zI_cpy_a, zP_wP_s, zP_wP_a, zP_wP_k, nL_9, nL_8, nL_31, nL_1, nL_2, nL_3, nL_4, nL_0, k0, k1, k5, eb_zero, ee, hB5, es, el]
  · obtain ⟨k0, k1, k2, k3, k4, k5, k6, k7⟩ := z5
    refine ⟨?_, ?_, ?_, ?_, ?_, ?_, fun j hj => ?_, fun k hk => ?_⟩
    · rw [zI_put_a (by omega)]; exact k0
    · rw [zI_put_a (by omega)]; exact k1
    · rw [zI_put_a (by omega)]; exact k2
    · rw [zI_put_a (by omega)]; exact k3
    · rw [zI_put_a (by omega)]; exact k4
    · rw [zI_put_a (by omega)]; exact k5
    · rw [zI_put_s, tB_seal]
      by_cases g : j < 5
      · rw [if_neg (by omega), if_pos g, k6 j hj]; exact hf5 j g
      · rw [if_pos (by omega), if_neg g]
        congr 1
        omega
    · rw [zI_put_a (by omega)]; exact k7 k hk
  · have q : ∀ (M : zM) (a k : Nat) (v : Int32), inR p a k → zFr 0 0 (inR p) M (z_wI M a k v) := fun M a k v h => zFr_wI h
    have tr : ∀ (M M' : zM) (a k : Nat) (v : Int32), inR p a k → zFr 0 0 (inR p) M M' → zFr 0 0 (inR p) M (z_wI M' a k v) := fun M M' a k v hx h => zFr_trans h (q M' a k v hx) (fun _ _ _ h => h)
    have t1 : zFr 0 0 (inR p) B B5 := by
      rw [← hB5]
      refine tr _ _ _ _ _ ?_ (tr _ _ _ _ _ ?_ (tr _ _ _ _ _ ?_ (tr _ _ _ _ _ ?_ (tr _ _ _ _ _ ?_ (q _ _ _ _ ?_))))) <;> (unfold inR; omega)
    exact zFr_trans t1 (zFr_put (X := inR p) (fun i h1 h2 => by unfold inR; omega)) (fun _ _ _ h => h)
