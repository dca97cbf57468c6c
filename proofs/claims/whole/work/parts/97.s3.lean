/-! S LEVEL, PLAYING: ticks, the reference; the act. -/
def rQ (P : yP) (B : zM) : Prop := rY (yqS P) (yqL P) B ∧ zI B 15 60 = zn (yqU P)
def rQ1 (P : yP) (B : zM) : Prop := rHi (yqH P) (yqO P) (goN (yqS P) + 1) B ∧ zI B 15 62 = zn ((goN (yqS P) + 1) % 501) ∧ zI B 15 63 = zn (goN (yqS P) + 1 - yqO P)
theorem rG_tk {G : zG} {B B' : zM} (f : zFr 0 0 xtk B B') (h : rG G B) : rG G B' := rG_fr f h ⟨fun e => by have := xtk_no e; omega, fun e => by have := xtk_no e; omega, fun e => by have := xtk_no e; omega⟩ (fun a k _ _ e => by have := xtk_no e; omega)
theorem rJ3_tk {J : zJ} {B B' : zM} (f : zFr 0 0 xtk B B') (h : rJ3 J B) : rJ3 J B' := rJ3_fr f h (fun a k _ _ e => by have := xtk_no e; omega)
theorem rH_tk {H : zH} {B B' : zM} (f : zFr 0 0 xtk B B') (h : rH H B) : rH H B' := rH_fr f h (fun e => by have := xtk_no e; omega) (fun e => by have := xtk_no e; omega) (fun a k _ _ e => by have := xtk_no e; omega)
theorem xtk_cm {a k : Nat} (h : xcm a k) : xtk a k := h.elim (fun e => Or.inl (Or.inl e)) Or.inr
theorem L_tickQ (d : Nat) {J : zJ} {H : zH} {G : zG} {r N : Nat} (hN : N ≤ 500) (wj : wJ J) (w : wH (jN J) H) (wg : wG G) (hr : r < gR G) : ∀ (n k : Nat) (P : yP) (B : zM) (o3 : Option Value), k + n = N → rJ3 J B → rH H B → rG G B → zI B 15 37 = zn r → zI B 15 36 = zn 1 → rQ P B → rQ1 P B → wQ (jN J) (gZ G r) P → ∃ B', z_denF zQ (d + 6 + 1) mQ_tick (33, [some (.ref 15), some (.int (zn N)), some (.int (zn k)), o3], [], B) = some (some (.int (zn (tcF J H G r n k P).1)), z_wI B' 15 0 0) ∧ rQ (tcF J H G r n k P).2.2 B' ∧ zI B' 15 36 = bI (tcF J H G r n k P).2.1 ∧ ((tcF J H G r n k P).2.1 = true → rQ1 (tcF J H G r n k P).2.2 B') ∧ zFr 0 0 xtk B B'
  | 0, k, P, B, o3, hk, hj, hh, hg, h37, h36, hQ, hQ1, hw => by
    refine ⟨B, ?_, hQ, h36, fun _ => hQ1, zFr_refl _ _⟩
    rw [L_Q_tick_33, z_le_T (by omega) (by omega), cond_true, B_Q_well, z_bI_some]; rfl
  | n + 1, k, P, B, o3, hk, hj, hh, hg, h37, h36, hQ, hQ1, hw => by
    have hU := hw.2.2.2.1
    have hz : gZ G r ≤ 400 := by have := wG_z wg hr; have := wg.2.1; omega
    have wt : ∀ p, p < gZ G r → wT (gS G r p) := fun p hp => wg.2.2.2.2.1 _ (wg.2.2.2.1 r p hr hp)
    have hnB := z_new_ge B
    rw [L_Q_tick_33, z_le_F (by omega) (by omega), cond_false, hQ.2]
    unfold tcF
    by_cases gU : yqU P = 20000
    · simp only [if_pos gU]
      refine ⟨B, ?_, hQ, h36, fun _ => hQ1, zFr_refl _ _⟩
      rw [show z_le (20000 : Int32) (zn (yqU P)) = true by rw [nL_20000]; exact z_le_T (by omega) (by omega), cond_true, B_Q_well, z_bI_some]
    · simp only [if_neg gU]
      rw [show z_le (20000 : Int32) (zn (yqU P)) = false by rw [nL_20000]; exact z_le_F (by omega) (by omega), cond_false]
      obtain ⟨B1, q1, q2, q3, q4⟩ := r_comes d wj hj w hh wg hg hr h37 hQ.1 hw.1
      have F1 : zFr 0 0 xtk B B1 := zFr_mono q4 (Nat.le_refl _) (Nat.le_refl _) (fun _ _ e => xtk_cm e)
      have xno : ∀ k, k = 37 ∨ k = 60 ∨ k = 62 ∨ k = 63 → zI B1 15 k = zI B 15 k := fun k hk => zFr_I q4 _ (by omega) (fun e => by rcases e with e | e; (have := xel_no e; omega); omega)
      rw [q1, z_bI_some]
      obtain ⟨i1, i2, i3, i4, i5⟩ := rc_inv wj w hz wt 400 (yqS P) (yqL P) (by omega) hw.1
      by_cases gR : (rcF J H G r 401 (yqS P, yqL P)).1 = true
      · simp only [if_pos gR] at q3 ⊢
        rw [show z_eq (1 : Int32) 0 = false by rw [z_eq_eq]; rfl, cond_false]
        obtain ⟨v1, v2⟩ := wQ_tk wj w hz wt hw gU gR
        obtain ⟨p1, p2⟩ := i1 gR
        have i4 : yG (rcF J H G r 401 (yqS P, yqL P)).2.1 3 = yG (yqS P) 3 := i4
        generalize hX : (rcF J H G r 401 (yqS P, yqL P)).2 = X at *
        have p1 : pv (jN J) (gZ G r) X.1 X.2 := p1
        have p2 : atP G r X.1 := p2
        have hgo : goN X.1 = goN (yqS P) := by unfold goN; rw [i4]
        have hls : ∀ t, yqO P ≤ t → t < goN (yqS P) + 1 → (yqH P t).2.length ≤ 320 := fun t h1 h2 => wQ_l hw h1 h2
        obtain ⟨B2, o9, s1, s2, s3, s4, s5, s6, s7⟩ := r_pass d (l1 := zn N) (l2 := zn k) (go := goN (yqS P)) (u := yqU P) (lo := yqO P) (hi := yqH P) wj (rJ3_tk F1 hj) w (rH_tk F1 hh) wg (rG_tk F1 hg) hr (by rw [xno _ (by omega)]; exact h37) q2 p1 p2 (i4.trans hw.2.1) (rHi_fr q4 hQ1.1 hls (fun k e => by rcases e with e | e; (have := xel_no e; omega); omega)) hls hw.2.2.2.2.1 hw.2.2.2.2.2.1 (by have := hw.2.2.1; omega) (by rw [xno _ (by omega)]; exact hQ1.2.1) (by rw [xno _ (by omega)]; exact hQ1.2.2) (by rw [xno _ (by omega)]; exact hQ.2)
        have F2 := x_tr F1 (zFr_mono s7 (Nat.le_refl _) (Nat.le_refl _) (fun _ _ e => show xtk _ _ from Or.inl e))
        have hn1 := z_new_ge B1
        rw [← hgo] at s3 s4 s5
        have v2 : goN (paF J H G r X).1 = goN X.1 + 1 := by rw [hgo]; exact v2
        have hQ' : rQ (tkS J H G r P X) B2 := ⟨s2, s6⟩
        have hQ1' : rQ1 (tkS J H G r P X) B2 := by
          show rHi _ _ (goN (paF J H G r X).1 + 1) _ ∧ _ = zn ((goN (paF J H G r X).1 + 1) % 501) ∧ _ = zn (goN (paF J H G r X).1 + 1 - _)
          rw [v2]; exact ⟨s3, s4, s5⟩
        have e37 : zI B2 15 37 = zn r := by rw [zFr_I s7 _ (by omega) (fun e => by have := xtb_no e; omega), xno _ (by omega)]; exact h37
        have e36 : zI B2 15 36 = zn 1 := by rw [zFr_I s7 _ (by omega) (fun e => by have := xtb_no e; omega), q3]; exact h36
        obtain ⟨B3, t1, t2, t3, t4, t5⟩ := L_tickQ d hN wj w wg hr n (k + 1) (tkS J H G r P X) B2 o9 (by omega) (rJ3_tk F2 hj) (rH_tk F2 hh) (rG_tk F2 hg) e37 e36 hQ' hQ1' v1
        refine ⟨B3, ?_, t2, t3, t4, x_tr F2 t5⟩
        rw [s1, zn_1]; exact t1
      · simp only [if_neg gR] at q3 ⊢
        rw [show z_eq (0 : Int32) 0 = true by rw [z_eq_eq]; rfl, cond_true, B_Q_well, z_bI_some]
        generalize hX : (rcF J H G r 401 (yqS P, yqL P)).2 = X at *
        refine ⟨B1, rfl, ⟨q2, ?_⟩, ?_, fun q => (by cases q), F1⟩
        · rw [xno _ (by omega)]; exact hQ.2
        · rw [q3, bI_F, nL_0]
/-! the act -/
noncomputable def oTick (pl : Bool) (J : zJ) (H : zH) (G : zG) (r : Nat) (P : yP) (x : Int32) : Int32 × Int32 × Bool × yP := pif (0 ≤ x.toInt ∧ x.toInt ≤ 500) (if pl = true then (zn (tcF J H G r x.toNatClampNeg 0 P).1, 0, (tcF J H G r x.toNatClampNeg 0 P).2) else (-4, 0, false, P)) (-1, -1, pl, P)
