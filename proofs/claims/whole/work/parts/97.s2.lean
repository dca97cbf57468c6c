/-! S LEVEL, PLAYING: ticks: pure. -/
abbrev yP := yR × yL × yHs × Nat × Nat × Nat
def yqS (P : yP) : yR := P.1
def yqL (P : yP) : yL := P.2.1
def yqH (P : yP) : yHs := P.2.2.1
def yqO (P : yP) : Nat := P.2.2.2.1
def yqK (P : yP) : Nat := P.2.2.2.2.1
def yqU (P : yP) : Nat := P.2.2.2.2.2
noncomputable def tkS (J : zJ) (H : zH) (G : zG) (r : Nat) (P : yP) (X : yR × yL) : yP := ((paF J H G r X).1, (paF J H G r X).2, upH (yqH P) (goN X.1 + 1) (yG (paF J H G r X).1, (paF J H G r X).2), max (yqO P) (goN X.1 + 1 - 500), keK (yqK P) (goN X.1 + 1), yqU P + 1)
def tkX (P : yP) (X : yR × yL) : yP := (X.1, X.2, yqH P, yqO P, yqK P, yqU P)
noncomputable def tcF (J : zJ) (H : zH) (G : zG) (r : Nat) : Nat → Nat → yP → Nat × Bool × yP
  | 0, w, P => (w, true, P)
  | n + 1, w, P => if yqU P = 20000 then (w, true, P) else if (rcF J H G r 401 (yqS P, yqL P)).1 = true then tcF J H G r n (w + 1) (tkS J H G r P (rcF J H G r 401 (yqS P, yqL P)).2) else (w, false, tkX P (rcF J H G r 401 (yqS P, yqL P)).2)
theorem rc_inv {J : zJ} {H : zH} {G : zG} {r : Nat} (wj : wJ J) (w : wH (jN J) H) (hcnt : gZ G r ≤ 400) (wt : ∀ p, p < gZ G r → wT (gS G r p)) : ∀ (m : Nat) (S : yR) (l : yL), gZ G r - nxP S ≤ m → pv (jN J) (gZ G r) S l → ((rcF J H G r (m + 1) (S, l)).1 = true → pv (jN J) (gZ G r) (rcF J H G r (m + 1) (S, l)).2.1 (rcF J H G r (m + 1) (S, l)).2.2 ∧ atP G r (rcF J H G r (m + 1) (S, l)).2.1) ∧ ((rcF J H G r (m + 1) (S, l)).1 ≠ true → (rcF J H G r (m + 1) (S, l)).2.2 = []) ∧ iv (jN J) (rcF J H G r (m + 1) (S, l)).2.1 (rcF J H G r (m + 1) (S, l)).2.2 ∧ yG (rcF J H G r (m + 1) (S, l)).2.1 3 = yG S 3 ∧ (yG (rcF J H G r (m + 1) (S, l)).2.1 6 = 0 ∨ yG (rcF J H G r (m + 1) (S, l)).2.1 6 = 1) := by
  intro m
  induction m using Nat.strongRecOn with
  | _ m ih =>
  intro S l hrem hv
  obtain ⟨b, he, hb⟩ := pv_b hv hcnt
  rw [rc_s]
  by_cases ga : atP G r (S, l).1
  · rw [pif_T ga]
    exact ⟨fun _ => ⟨hv, ga⟩, fun q => absurd rfl q, hv.1, rfl, hv.2.2.1⟩
  · rw [pif_F ga]
    by_cases g : nxP (S, l).1 < gZ G r
    · rw [if_pos g]
      have g' : nxP S < gZ G r := g
      cases m with
      | zero => omega
      | succ m' =>
      have hv1 := pv_nt wj w hcnt (wt _ g') hv g'
      have hnt := nt_inv (nxP S) (gS G r (nxP S)) wj w (wt _ g') hv.1 he (by omega) hv.2.1
      have hnx : nxP (ntF J H (S, l) (nxP S) (gS G r (nxP S))).1 = nxP S + 1 := nx_p hnt.2.2.1 (by omega)
      obtain ⟨q1, q2, q3, q4, q5⟩ := ih m' (by omega) _ _ (by rw [hnx]; omega) hv1
      exact ⟨q1, q2, q3, q4.trans hnt.2.2.2.2.2.2, q5⟩
    · rw [if_neg g]
      refine ⟨fun q => (by cases q), fun _ => rfl, iv_si hv.1, si_G hv.1.1 (by omega) (by omega) (by omega), ?_⟩
      show yG (siF S l) 6 = 0 ∨ yG (siF S l) 6 = 1
      rw [si_G hv.1.1 (by omega) (by omega) (by omega)]; exact hv.2.2.1
def yZ : Nat → Int32 := fun _ => 0
/-- what always holds while a roll is played -/
def wQ (n cnt : Nat) (P : yP) : Prop := pv n cnt (yqS P) (yqL P) ∧ yG (yqS P) 3 = zn (goN (yqS P)) ∧ goN (yqS P) ≤ yqU P ∧ yqU P ≤ 20000 ∧ yqO P ≤ goN (yqS P) ∧ goN (yqS P) ≤ yqO P + 500 ∧ ∀ t, yqO P ≤ t → t < goN (yqS P) + 1 → pv n cnt ((yqH P t).1, yZ, yZ) (yqH P t).2 ∧ (yqH P t).1 3 = zn t
theorem pv_g {n cnt : Nat} {S S' : yR} {l : yL} (h : pv n cnt S l) (e : yG S' = yG S) : pv n cnt S' l := by
  unfold pv iv evB evN at *
  rw [e]; exact h
theorem go_z {S : yR} {go : Nat} (h : yG S 3 = zn go) (hg : go ≤ 20000) : goN S = go := by unfold goN; rw [h]; exact zn_N (by omega)
theorem wQ_l {n cnt : Nat} {P : yP} (h : wQ n cnt P) {t : Nat} (h1 : yqO P ≤ t) (h2 : t < goN (yqS P) + 1) : (yqH P t).2.length ≤ 320 := (h.2.2.2.2.2.2 t h1 h2).1.1.1.2.1
theorem wQ_tk {J : zJ} {H : zH} {G : zG} {r : Nat} {P : yP} (wj : wJ J) (w : wH (jN J) H) (hcnt : gZ G r ≤ 400) (wt : ∀ p, p < gZ G r → wT (gS G r p)) (h : wQ (jN J) (gZ G r) P) (hu : yqU P ≠ 20000) (hR : (rcF J H G r 401 (yqS P, yqL P)).1 = true) : wQ (jN J) (gZ G r) (tkS J H G r P (rcF J H G r 401 (yqS P, yqL P)).2) ∧ goN (tkS J H G r P (rcF J H G r 401 (yqS P, yqL P)).2).1 = goN (yqS P) + 1 := by
  obtain ⟨h1, h2, h3, h4, h5, h6, h7⟩ := h
  obtain ⟨q1, q2, q3, q4, q5⟩ := rc_inv wj w hcnt wt 400 (yqS P) (yqL P) (by omega) h1
  obtain ⟨p1, p2⟩ := q1 hR
  generalize hX : (rcF J H G r 401 (yqS P, yqL P)).2 = X at *
  have p1 : pv (jN J) (gZ G r) X.1 X.2 := p1
  have q4 : yG X.1 3 = yG (yqS P) 3 := q4
  have hgo : goN X.1 = goN (yqS P) := by unfold goN; rw [q4]
  obtain ⟨a1, a2⟩ := pa_inv wj w hcnt wt p1 p2 (q4.trans h2) (by omega)
  have a1 : pv (jN J) (gZ G r) (paF J H G r X).1 (paF J H G r X).2 := a1
  have a2 : yG (paF J H G r X).1 3 = zn (goN (yqS P) + 1) := a2
  have hgo2 : goN (paF J H G r X).1 = goN (yqS P) + 1 := go_z a2 (by omega)
  refine ⟨⟨a1, ?_, ?_, ?_, ?_, ?_, fun t t1 t2 => ?_⟩, hgo2⟩
  · show yG (paF J H G r X).1 3 = zn (goN (paF J H G r X).1)
    rw [hgo2]; exact a2
  · show goN (paF J H G r X).1 ≤ yqU P + 1
    omega
  · show yqU P + 1 ≤ 20000
    omega
  · show max (yqO P) (goN X.1 + 1 - 500) ≤ goN (paF J H G r X).1
    omega
  · show goN (paF J H G r X).1 ≤ max (yqO P) (goN X.1 + 1 - 500) + 500
    omega
  · have t1 : max (yqO P) (goN X.1 + 1 - 500) ≤ t := t1
    have t2 : t < goN (paF J H G r X).1 + 1 := t2
    show pv _ _ ((upH (yqH P) (goN X.1 + 1) (yG (paF J H G r X).1, (paF J H G r X).2) t).1, yZ, yZ) (upH (yqH P) (goN X.1 + 1) (yG (paF J H G r X).1, (paF J H G r X).2) t).2 ∧ (upH (yqH P) (goN X.1 + 1) (yG (paF J H G r X).1, (paF J H G r X).2) t).1 3 = zn t
    unfold upH
    by_cases e : t = goN X.1 + 1
    · rw [if_pos e]
      exact ⟨pv_g a1 rfl, by rw [e, hgo]; exact a2⟩
    · rw [if_neg e]; exact h7 t (by omega) (by omega)
/-! the class -/
def cQ (P : yP) (A : zM) : Prop := cP (yqS P) (yqL P) A ∧ cKp (yqK P) A ∧ zI A 3 14 = zn (yqU P)
def cQ1 (P : yP) (A : zM) : Prop := cHi (yqH P) (yqO P) (goN (yqS P) + 1) (yqK P) A ∧ zI A 3 13 = zn (yqO P)
def xcW (A : zM) (a k : Nat) : Prop := xcT A a k ∨ (a = 3 ∧ k = 15)
theorem keK_ge (K go : Nat) : K ≤ keK K go ∧ keK K go ≤ K + 1 := by unfold keK; split <;> omega
theorem tk_K {J : zJ} {H : zH} {G : zG} {r : Nat} : ∀ (n w : Nat) (P : yP), yqK P ≤ yqK (tcF J H G r n w P).2.2
  | 0, w, P => Nat.le_refl _
  | n + 1, w, P => by
    unfold tcF
    split
    · exact Nat.le_refl _
    · split
      · refine Nat.le_trans ?_ (tk_K n (w + 1) _)
        exact (keK_ge _ _).1
      · exact Nat.le_refl _
theorem L_tick (d : Nat) {J : zJ} {H : zH} {G : zG} {al : Nat → Nat} {r N : Nat} (hN : N ≤ 500) (wj : wJ J) (w : wH (jN J) H) (wg : wG G) (hr : r < gR G) : ∀ (n k : Nat) (P : yP) (A : zM), k + n = N → cJ J A → cH H A → cG G al A → zP zQ A 3 16 = zP zQ A 2 r → zI A 3 15 = zn 1 → cQ P A → cQ1 P A → wQ (jN J) (gZ G r) P → ∃ A', z_denF zQ (d + 47 + 1) mP_tick (34, [some (.ref 1), some (.int (zn N)), some (.int (zn k))], [], A) = some (some (.int (zn (tcF J H G r n k P).1)), z_wI A' 1 7 0) ∧ cQ (tcF J H G r n k P).2.2 A' ∧ zI A' 3 15 = bI (tcF J H G r n k P).2.1 ∧ ((tcF J H G r n k P).2.1 = true → cQ1 (tcF J H G r n k P).2.2 A' ∧ wQ (jN J) (gZ G r) (tcF J H G r n k P).2.2) ∧ ((tcF J H G r n k P).2.1 ≠ true → yqL (tcF J H G r n k P).2.2 = [] ∧ iv (jN J) (yqS (tcF J H G r n k P).2.2) [] ∧ (yG (yqS (tcF J H G r n k P).2.2) 6 = 0 ∨ yG (yqS (tcF J H G r n k P).2.2) 6 = 1) ∧ yqU (tcF J H G r n k P).2.2 ≤ 20000) ∧ zFr (yqK (tcF J H G r n k P).2.2 - yqK P) (523 * (yqK (tcF J H G r n k P).2.2 - yqK P)) (xcW A) A A'
  | 0, k, P, A, hk, hj, hh, hg, h16, h15, hQ, hQ1, hw => by
    refine ⟨A, ?_, hQ, h15, fun _ => ⟨hQ1, hw⟩, fun q => absurd rfl q, ?_⟩
    · rw [L_P_tick_34, z_le_T (by omega) (by omega), cond_true, B_P_done, z_bI_some]; rfl
    · show zFr (yqK P - yqK P) (523 * (yqK P - yqK P)) _ _ _
      rw [Nat.sub_self]; exact zFr_refl _ _
  | n + 1, k, P, A, hk, hj, hh, hg, h16, h15, hQ, hQ1, hw => by
    have hU := hw.2.2.2.1
    have hz : gZ G r ≤ 400 := by have := wG_z wg hr; have := wg.2.1; omega
    have wt : ∀ p, p < gZ G r → wT (gS G r p) := fun p hp => wg.2.2.2.2.1 _ (wg.2.2.2.1 r p hr hp)
    have hnA := z_new_ge A
    rw [L_P_tick_34, z_le_F (by omega) (by omega), cond_false, hQ.2.2]
    unfold tcF
    by_cases gU : yqU P = 20000
    · simp only [if_pos gU]
      refine ⟨A, ?_, hQ, h15, fun _ => ⟨hQ1, hw⟩, fun q => absurd rfl q, ?_⟩
      · rw [show z_le (20000 : Int32) (zn (yqU P)) = true by rw [nL_20000]; exact z_le_T (by omega) (by omega), cond_true, B_P_done, z_bI_some]
      · show zFr (yqK P - yqK P) (523 * (yqK P - yqK P)) _ _ _
        rw [Nat.sub_self]; exact zFr_refl _ _
    · simp only [if_neg gU]
      rw [show z_le (20000 : Int32) (zn (yqU P)) = false by rw [nL_20000]; exact z_le_F (by omega) (by omega), cond_false]
      have hA := cP_eq hQ.1
      obtain ⟨f1, q1, q2⟩ := c_reach d wj hj w hh wg hg hr h16 hQ.1.1 hw.1
      rw [← hA] at q1
      rw [q1]
      obtain ⟨i1, i2, i3, i4, i5⟩ := rc_inv wj w hz wt 400 (yqS P) (yqL P) (by omega) hw.1
      have F1 : ∀ S', zFr 0 0 (fun a k => a = 10 ∨ a = 11 ∨ a = 13) A (yC A f1 S') := fun S' => yC_fr A f1 S'
      unfold rcO
      by_cases gR : (rcF J H G r 401 (yqS P, yqL P)).1 = true
      · simp only [if_pos gR]
        rw [z_bI_some, show z_eq (1 : Int32) 0 = false by rw [z_eq_eq]; rfl, cond_false]
        obtain ⟨v1, v2⟩ := wQ_tk wj w hz wt hw gU gR
        obtain ⟨p1, p2⟩ := i1 gR
        have i4 : yG (rcF J H G r 401 (yqS P, yqL P)).2.1 3 = yG (yqS P) 3 := i4
        generalize hX : (rcF J H G r 401 (yqS P, yqL P)).2 = X at *
        have p1 : pv (jN J) (gZ G r) X.1 X.2 := p1
        have p2 : atP G r X.1 := p2
        have hgo : goN X.1 = goN (yqS P) := by unfold goN; rw [i4]
        have gT : ∀ a k, a = 10 ∨ a = 11 ∨ a = 13 → xcT A a k := fun a k e => Or.inr (Or.inl (by omega))
        have F2 : zFr 0 0 (xcT A) A (yC A f1 X.1) := zFr_mono (F1 _) (Nat.le_refl _) (Nat.le_refl _) gT
        have hK1 := cKp_fr (F1 X.1) hQ.2.1 (fun k => by omega)
        have hH1 := cHi_fr (F1 X.1) hQ.2.1 hQ1.1 (fun k => by omega) (fun a k e _ q => by omega)
        obtain ⟨A1, s1, s2, s3, s4, s5, s6, s7⟩ := c_pass d (go := goN (yqS P)) (u := yqU P) (lo := yqO P) (K := yqK P) (hi := yqH P) wj (cJ_yC hj f1 X.1) w (cH_yC hh f1 X.1) wg (cG_yC hg f1 X.1) hr h16 (cP_of A q2) p1 p2 (i4.trans hw.2.1) (by have := hw.2.2.1; omega) (by rw [yC_o (by omega) (by omega) (by omega)]; exact hQ.2.2) (by rw [yC_o (by omega) (by omega) (by omega)]; exact hQ1.2) hK1 hH1 hw.2.2.2.2.1
        have F3 : zFr (0 + (keK (yqK P) (goN (yqS P) + 1) - yqK P)) (0 + 523 * (keK (yqK P) (goN (yqS P) + 1) - yqK P)) (xcT A) A A1 := zFr_trans F2 s7 (fun a k ha e => xcT_b F2 ha e)
        rw [Nat.zero_add, Nat.zero_add] at F3
        have e16 : zP zQ A1 3 16 = zP zQ A1 2 r := by
          rw [zFr_P F3 _ (by omega) (fun e => by rcases e with e | e | e <;> omega), zFr_P F3 _ (by omega) (fun e => by rcases e with e | e | e <;> omega)]; exact h16
        have e15 : zI A1 3 15 = zn 1 := by rw [zFr_I F3 _ (by omega) (fun e => by rcases e with e | e | e <;> omega)]; exact h15
        have gK := keK_ge (yqK P) (goN (yqS P) + 1)
        rw [← hgo] at s3 s4 s5 s7 F3 gK
        have hQ' : cQ (tkS J H G r P X) A1 := ⟨s2, s3, s6⟩
        have v2 : goN (paF J H G r X).1 = goN X.1 + 1 := by rw [hgo]; exact v2
        have hQ1' : cQ1 (tkS J H G r P X) A1 := by
          refine ⟨?_, s5⟩
          show cHi _ _ (goN (paF J H G r X).1 + 1) _ _
          rw [v2]; exact s4
        obtain ⟨A2, t1, t2, t3, t4, t5, t6⟩ := L_tick d hN wj w wg hr n (k + 1) (tkS J H G r P X) A1 (by omega) (cJ_xT F3 hj) (cH_xT F3 hh) (cG_xT F3 hg) e16 e15 hQ' hQ1' v1
        have gK2 := tk_K (J := J) (H := H) (G := G) (r := r) n (k + 1) (tkS J H G r P X)
        refine ⟨A2, ?_, t2, t3, t4, t5, ?_⟩
        · rw [s1, z_bV_some, zn_1]; exact t1
        · have gK3 : yqK (tkS J H G r P X) = keK (yqK P) (goN X.1 + 1) := rfl
          refine zFr_mono (zFr_trans (X := xcW A) (zFr_mono F3 (Nat.le_refl _) (Nat.le_refl _) (fun _ _ e => Or.inl e)) t6 (fun a k ha e => ?_)) ?_ ?_ (fun _ _ e => e)
          · exact e.elim (fun e => Or.inl (xcT_b F3 ha e)) Or.inr
          · omega
          · omega
      · simp only [if_neg gR]
        rw [z_bI_some, show z_eq (0 : Int32) 0 = true by rw [z_eq_eq]; rfl, cond_true, B_P_done, z_bI_some]
        have i6 := i2 gR
        generalize hX : (rcF J H G r 401 (yqS P, yqL P)).2 = X at *
        have i6 : X.2 = [] := i6
        have i3 : iv (jN J) X.1 X.2 := i3
        have F4 : zFr 0 0 (fun a k => a = 10 ∨ a = 11 ∨ a = 13 ∨ (a = 3 ∧ k = 15)) A (z_wI (yC A f1 X.1) 3 15 0) := x_tr (zFr_mono (F1 X.1) (Nat.le_refl _) (Nat.le_refl _) (fun a k e => by omega)) (zFr_wI (X := fun a k => a = 10 ∨ a = 11 ∨ a = 13 ∨ (a = 3 ∧ k = 15)) (by omega))
        have hP' : cP X.1 X.2 (z_wI (yC A f1 X.1) 3 15 0) := cP_fr (zFr_wI (X := fun a k => a = 3 ∧ k = 15) ⟨rfl, rfl⟩) (cP_of A q2) (fun a k e q => by omega)
        refine ⟨z_wI (yC A f1 X.1) 3 15 0, rfl, ⟨hP', cKp_fr F4 hQ.2.1 (fun k => by omega), ?_⟩, ?_, fun q => (by cases q), fun _ => ⟨i6, ?_, i5, hU⟩, ?_⟩
        · rw [zFr_I F4 _ (by omega) (fun e => by omega)]; exact hQ.2.2
        · rw [zI_wI_s, bI_F, nL_0]
        · show iv (jN J) X.1 []
          rw [← i6]; exact i3
        · show zFr (yqK P - yqK P) (523 * (yqK P - yqK P)) _ _ _
          rw [Nat.sub_self]
          refine zFr_mono F4 (Nat.le_refl _) (Nat.le_refl _) (fun a k e => ?_)
          unfold xcW xcT; omega
