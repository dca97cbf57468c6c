/-! S LEVEL: playing, in one memory: tick, halt, back. -/
def xcY (A : zM) (a k : Nat) : Prop := (a = 3 ∧ 13 ≤ k ∧ k ≤ 16) ∨ (10 ≤ a ∧ a ≤ 13) ∨ (57 ≤ a ∧ z_hd zQ A a = some (14, 523))
theorem xcY_W {A : zM} {a k : Nat} (h : xcW A a k) : xcY A a k := by
  rcases h with (h | h | h) | h
  · exact Or.inl (by omega)
  · exact Or.inr (Or.inl h)
  · exact Or.inr (Or.inr h)
  · exact Or.inl (by omega)
theorem xcY_S {A : zM} {a k t n : Nat} (hd : z_hd zQ A a = some (t, n)) (ht : t = 8 ∨ t = 9 ∨ t = 12 ∨ t = 18) : ¬ xcY A a k := by
  have h56 := hd_lt56 hd ht
  rintro (h | h | ⟨-, h⟩)
  · omega
  · omega
  · have : (t, n) = (14, 523) := Option.some.inj (hd.symm.trans h)
    have : t = 14 := congrArg Prod.fst this
    omega
theorem xcY_tg {A : zM} {a k : Nat} {g : Nat × Nat} (hd : z_hd zQ A a = some g) (ht : tgI g) : ¬ xcY A a k := by
  have h56 := tg_56 hd ht
  rintro (h | h | ⟨-, h⟩)
  · omega
  · omega
  · have : g = (14, 523) := Option.some.inj (hd.symm.trans h)
    rw [this] at ht
    exact tgI_no14 ht
theorem SC_T {c s : Nat} {W : zW} {al : Nat → Nat} {A A' : zM} {P' : yP} {pl' : Bool} {r' : Nat} (h : SC W al A) (h1 : cQ P' A') (h2 : zI A' 3 15 = bI pl') (h3 : pl' = true → cQ1 P' A' ∧ zP zQ A' 3 16 = zP zQ A' 2 r') (f : zFr c s (xcY A) A A') : SC (wwG W, wwF W, wwJ W, wwH W, P', pl', r', wwT W) al A' := by
  obtain ⟨k1, k2, k3, k4, k5, k6, k7, k8⟩ := h
  have hn := z_new_ge A
  exact ⟨cG_fr f k1 ⟨fun x => by unfold xcY at x; omega, fun x => by unfold xcY at x; omega, fun x => by unfold xcY at x; omega⟩ (fun k x => by unfold xcY at x; omega) (fun a k t n hd ht => xcY_S hd ht), cF_fr f k2 (fun x => by unfold xcY at x; omega) (fun k x => by unfold xcY at x; omega), cJ_fr f k3 (fun x => by unfold xcY at x; omega) (fun x => by unfold xcY at x; omega) (fun k x => by unfold xcY at x; omega) (fun a k g hd ht => xcY_tg hd ht), cH_fr f k4 (fun x => by unfold xcY at x; omega) (fun a k _ _ x => by unfold xcY at x; omega), h1, h2, by rw [zFr_I f _ (by omega) (fun x => by unfold xcY at x; omega)]; exact k7, h3⟩
def xtY (a k : Nat) : Prop := (a = 15 ∧ (k = 36 ∨ k = 37 ∨ (41 ≤ k ∧ k ≤ 52) ∨ k = 58 ∨ k = 60 ∨ k = 62 ∨ k = 63)) ∨ a = 30 ∨ (39 ≤ a ∧ a ≤ 41) ∨ (43 ≤ a ∧ a ≤ 52)
theorem SR_T {W : zW} {B B' : zM} {P' : yP} {pl' : Bool} {r' : Nat} (h : SR W B) (h1 : rQ P' B') (h2 : zI B' 15 36 = bI pl') (h3 : pl' = true → rQ1 P' B' ∧ zI B' 15 37 = zn r') (f : zFr 0 0 xtY B B') : SR (wwG W, wwF W, wwJ W, wwH W, P', pl', r', wwT W) B' := by
  obtain ⟨k1, k2, k3, k4, k5, k6, k7, k8⟩ := h
  have hn := z_new_ge B
  exact ⟨rG_fr f k1 ⟨fun x => by unfold xtY at x; omega, fun x => by unfold xtY at x; omega, fun x => by unfold xtY at x; omega⟩ (fun a k _ _ x => by unfold xtY at x; omega), rF_fr f k2 (fun x => by unfold xtY at x; omega) (fun k => ⟨fun x => by unfold xtY at x; omega, fun x => by unfold xtY at x; omega⟩), rJ_fx f k3 (fun x => by unfold xtY at x; omega) (fun x => by unfold xtY at x; omega) (fun a k _ x => by unfold xtY at x; omega), rH_fr f k4 (fun x => by unfold xtY at x; omega) (fun x => by unfold xtY at x; omega) (fun a k _ _ x => by unfold xtY at x; omega), h1, h2, by rw [zFr_I f _ (by omega) (fun x => by unfold xtY at x; omega)]; exact k7, h3⟩
theorem sim_T {W : zW} {al : Nat → Nat} {M A' : zM} {P' : yP} {pl' : Bool} {r' : Nat} {v : Int32} {st : Int32} {cA : zR} {rA : zM → zR} (hC : SC W al M) (hR : SR W M) (hw : SW W) (e1 : cA = some (some (.int v), z_wI A' 1 7 st)) (h1 : cQ P' A') (h2 : zI A' 3 15 = bI pl') (h3 : pl' = true → cQ1 P' A' ∧ zP zQ A' 3 16 = zP zQ A' 2 r') (hK : yqK (wwP W) ≤ yqK P') (f : zFr (yqK P' - yqK (wwP W)) (523 * (yqK P' - yqK (wwP W))) (xcY M) M A') (g : ∀ B, SR W B → ∃ B', rA B = some (some (.int v), z_wI B' 15 0 st) ∧ rQ P' B' ∧ zI B' 15 36 = bI pl' ∧ (pl' = true → rQ1 P' B' ∧ zI B' 15 37 = zn r') ∧ zFr 0 0 xtY B B') (w1 : pl' = true → r' < gR (wwG W) ∧ wQ (jN (wwJ W)) (gZ (wwG W) r') P') (w2 : pl' ≠ true → yqL P' = [] ∧ iv (jN (wwJ W)) (yqS P') [] ∧ (yG (yqS P') 6 = 0 ∨ yG (yqS P') 6 = 1)) (w3 : yqU P' ≤ 20000) : Step tvI W M cA rA := by
  have hw1 : SW (wwG W, wwF W, wwJ W, wwH W, P', pl', r', wwT W) := ⟨hw.1, hw.2.1, hw.2.2.1, hw.2.2.2.1, w1, w2, w3⟩
  have hC1 : SC (wwG W, wwF W, wwJ W, wwH W, P', pl', r', wwT W) al A' := SC_T hC h1 h2 h3 f
  have hC2 := SC_st hw1 hC1 st
  have F1 : zFr (yqK P' - yqK (wwP W)) (523 * (yqK P' - yqK (wwP W))) xCl M (z_wI A' 1 7 st) := by
    have := zFr_trans (zFr_mono f (Nat.le_refl _) (Nat.le_refl _) (fun a k x => show xCl a k by unfold xcY at x; unfold xCl; omega)) (zFr_wI (X := xCl) (A := A') (a := 1) (k := 7) (v := st) (by unfold xCl; omega)) (fun _ _ _ e => e)
    exact this
  have hR1 := SR_C hw F1 hR
  obtain ⟨B', g1, g2, g3, g4, g5⟩ := g _ hR1
  have hR2 := SR_st hw1 (SR_T hR1 g2 g3 g4 g5) st
  have F2 : zFr 0 0 xRf (z_wI A' 1 7 st) (z_wI B' 15 0 st) := x_tr (zFr_mono g5 (Nat.le_refl _) (Nat.le_refl _) (fun a k x => by unfold xtY at x; unfold xRf; omega)) (zFr_wI (X := xRf) (by unfold xRf; omega))
  have hw2 : SW (wwG W, wwF W, wwJ W, wwH W, P', pl', r', st) := hw1
  refine Step_of (W' := (wwG W, wwF W, wwJ W, wwH W, P', pl', r', st)) (al := al) (sc_lt hC) ⟨_, rfl⟩ e1 g1 hC2 F1 hR2 F2 hw2 ?_ ?_
  · show yqK P' - yqK (wwP W) + 3 * gN (wwG W) + yqK (wwP W) ≤ 8 + 3 * gN (wwG W) + yqK P'
    omega
  · show 523 * (yqK P' - yqK (wwP W)) + 2100 * gN (wwG W) + 523 * yqK (wwP W) ≤ 8264 + 2100 * gN (wwG W) + 523 * yqK P'
    omega
theorem rJ_3 {J : zJ} {B : zM} (h : rJ J B) : rJ3 J B := fun i hi => ⟨(h.2.2.1 i hi).1, (h.2.2.1 i hi).2.1, (h.2.2.1 i hi).2.2.2.2.2⟩
theorem bI_ne0 (b : Bool) : z_ne (bI b) 0 = b := bI_n1 b
theorem S_tick (d : Nat) {W : zW} {al : Nat → Nat} {M : zM} (hC : SC W al M) (hR : SR W M) (hw : SW W) (x : Int32) : Step tvI W M (z_den zQ (d + 60) mP_tick [.ref 1, .int x] M) (fun B => z_den zQ (d + 60) mQ_tick [.ref 15, .int x] B) := by
  have h15 := hC.2.2.2.2.2.1
  by_cases gx : 0 ≤ x.toInt ∧ x.toInt ≤ 500
  · obtain ⟨n, hn, rfl⟩ := zn_ex gx.1
    rw [zn_toInt hn] at gx
    have e1 : z_lt (zn n) (0 : Int32) = false := by rw [nL_0]; exact z_lt_F (by omega) (by omega)
    have e2 : z_le (zn n) (500 : Int32) = true := by rw [nL_500]; exact z_le_T (by omega) (by omega)
    have e3 : ∀ B, z_den zQ (d + 59) mQ_within [.int (zn n), .int 0, .int 500] B = some (some (.int (zn 1)), B) := fun B => Q_wiT (by rw [toI_0, show (500 : Int32).toInt = 500 from rfl, zn_toInt hn]; omega)
    cases hp : wwB W
    · refine sim_st (v := (-4)) (st := 0) hC hR hw ?_ (fun B hB => ?_)
      · rw [B_P_tick, e1, cond_false, e2, cond_true, h15, hp, bI_ne0, cond_false, B_P_nothingThere, z_bI_some]
      · rw [B_Q_tick, e3, z_bI_some, ne_10, cond_true, hB.2.2.2.2.2.1, hp, bI_ne0, cond_false, B_Q_well, z_bI_some]
    · obtain ⟨hr, hwq⟩ := hw.2.2.2.2.1 hp
      obtain ⟨hq1, h16⟩ := hC.2.2.2.2.2.2.2 hp
      obtain ⟨A', q1, q2, q3, q4, q5, q6⟩ := L_tick (d + 12) (N := n) (by omega) hw.2.2.1 hw.2.2.2.1 hw.1 hr n 0 (wwP W) M (Nat.zero_add _) hC.2.2.1 hC.2.2.2.1 hC.1 h16 (by rw [h15, hp]; rfl) hC.2.2.2.2.1 hq1 hwq
      have hn16 := z_new_ge M
      refine sim_T (v := (zn (tcF (wwJ W) (wwH W) (wwG W) (wwR W) n 0 (wwP W)).1)) (st := 0) (P' := (tcF (wwJ W) (wwH W) (wwG W) (wwR W) n 0 (wwP W)).2.2) (pl' := (tcF (wwJ W) (wwH W) (wwG W) (wwR W) n 0 (wwP W)).2.1) (r' := wwR W) hC hR hw (A' := A') ?_ q2 q3 (fun h => ⟨(q4 h).1, ?_⟩) (tk_K n 0 (wwP W)) (zFr_mono q6 (Nat.le_refl _) (Nat.le_refl _) (fun _ _ e => xcY_W e)) (fun B hB => ?_) (fun h => ⟨hr, (q4 h).2⟩) (fun h => ⟨(q5 h).1, (q5 h).2.1, (q5 h).2.2.1⟩) ?_
      · rw [B_P_tick, e1, cond_false, e2, cond_true, h15, hp, bI_ne0, cond_true, nL_0]
        rw [← nL_0] at q1 ⊢
        exact q1
      · rw [zFr_P q6 _ (by omega) (fun e => by rcases e with (e | e | e) | e <;> omega), zFr_P q6 _ (by omega) (fun e => by rcases e with (e | e | e) | e <;> omega)]; exact h16
      · obtain ⟨hq1', h37⟩ := hB.2.2.2.2.2.2.2 hp
        obtain ⟨B', s1, s2, s3, s4, s5⟩ := L_tickQ (d + 53) (N := n) (by omega) hw.2.2.1 hw.2.2.2.1 hw.1 hr n 0 (wwP W) B none (Nat.zero_add _) (rJ_3 hB.2.2.1) hB.2.2.2.1 hB.1 h37 (by rw [hB.2.2.2.2.2.1, hp]; rfl) hB.2.2.2.2.1 hq1' hwq
        have hnB := z_new_ge B
        refine ⟨B', ?_, s2, s3, fun h => ⟨s4 h, ?_⟩, zFr_mono s5 (Nat.le_refl _) (Nat.le_refl _) (fun a k e => by have := xtk_no e; unfold xtY; omega)⟩
        · rw [B_Q_tick, e3, z_bI_some, ne_10, cond_true, hB.2.2.2.2.2.1, hp, bI_ne0, cond_true]
          rw [← nL_0] at s1
          exact s1
        · rw [zFr_I s5 _ (by omega) (fun e => by have := xtk_no e; omega)]; exact h37
      · cases hb : (tcF (wwJ W) (wwH W) (wwG W) (wwR W) n 0 (wwP W)).2.1
        · exact (q5 (by rw [hb]; decide)).2.2.2
        · exact (q4 hb).2.2.2.2.1
  · refine sim_st (v := (-1)) (st := -1) hC hR hw ?_ (fun B hB => ?_)
    · rw [B_P_tick]
      rcases zn_cases x with hk | ⟨n, hn, rfl⟩
      · rw [lt_0T hk, cond_true, B_P_refuse, z_bI_some]
      · rw [zn_toInt hn] at gx
        rw [show z_lt (zn n) (0 : Int32) = false by rw [nL_0]; exact z_lt_F (by omega) (by omega), cond_false, show z_le (zn n) (500 : Int32) = false by rw [nL_500]; exact z_le_F (by omega) (by omega), cond_false, B_P_refuse, z_bI_some]
    · rw [B_Q_tick, Q_wiF (by rw [toI_0, show (500 : Int32).toInt = 500 from rfl]; exact gx), z_bI_some, ne_00, cond_false, B_Q_no, z_bI_some]
