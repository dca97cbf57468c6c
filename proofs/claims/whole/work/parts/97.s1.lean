/-! S LEVEL, PLAYING: a tick passes, the reference. -/
def xtb (a k : Nat) : Prop := xel a k ∨ xla a k ∨ (a = 15 ∧ (k = 48 ∨ k = 60))
def xtk (a k : Nat) : Prop := xtb a k ∨ (a = 15 ∧ k = 36)
theorem xtb_no {a k : Nat} (h : xtb a k) : (a = 15 ∧ ((41 ≤ k ∧ k ≤ 52) ∨ k = 58 ∨ k = 60 ∨ k = 62 ∨ k = 63)) ∨ a = 30 ∨ (39 ≤ a ∧ a ≤ 41) ∨ (43 ≤ a ∧ a ≤ 52) := by
  rcases h with h | h | h
  · have := xel_no h; omega
  · unfold xla at h; omega
  · omega
theorem xtk_no {a k : Nat} (h : xtk a k) : (a = 15 ∧ (k = 36 ∨ (41 ≤ k ∧ k ≤ 52) ∨ k = 58 ∨ k = 60 ∨ k = 62 ∨ k = 63)) ∨ a = 30 ∨ (39 ≤ a ∧ a ≤ 41) ∨ (43 ≤ a ∧ a ≤ 52) := by
  rcases h with h | h
  · have := xtb_no h; omega
  · omega
theorem xtb_ra {a k : Nat} (h : xra a k) : xtb a k := Or.inl (Or.inr h)
theorem rHi_fr {X : Nat → Nat → Prop} {hi : yHs} {lo n : Nat} {B B' : zM} (f : zFr 0 0 X B B') (h : rHi hi lo n B) (hl : ∀ t, lo ≤ t → t < n → (hi t).2.length ≤ 320) (x : ∀ k, ¬ X 52 k) : rHi hi lo n B' := fun t t1 t2 => rW_cg (h t t1 t2) (hl t t1 t2) (fun m _ _ => zFr_I f _ (Nat.lt_of_lt_of_le (by omega) (z_new_ge B)) (x m))
theorem r_tail (d : Nat) {S : yR} {l : yL} {M : zM} {hi : yHs} {lo go o u : Nat} {l1 l2 x9 : Int32} (h : rY S l M) (h12 : 0 ≤ (yG S 12).toInt) (hl : l.length ≤ 320) (h6 : yG S 6 = 0 ∨ yG S 6 = 1) (h3 : yG S 3 = zn go) (h5 : yG S 5 = zn o) (hh : rHi hi lo (go + 1) M) (hls : ∀ t, lo ≤ t → t < go + 1 → (hi t).2.length ≤ 320) (hlo : lo ≤ go) (hlg : go ≤ lo + 500) (hg : go < 20000) (h62 : zI M 15 62 = zn ((go + 1) % 501)) (h63 : zI M 15 63 = zn (go + 1 - lo)) (h60 : zI M 15 60 = zn u) : ∃ B', z_bV (z_den zQ (d + 6) mQ_tempoGoesOn [.ref 15] M) (fun M11 => z_bV (z_den zQ (d + 6) mQ_layAside [.ref 15] (z_wI (z_wI (z_wI M11 15 50 ((zI M11 15 50) + 1)) 15 48 ((zI (z_wI M11 15 50 ((zI M11 15 50) + 1)) 15 48) + 1)) 15 60 ((zI (z_wI (z_wI M11 15 50 ((zI M11 15 50) + 1)) 15 48 ((zI (z_wI M11 15 50 ((zI M11 15 50) + 1)) 15 48) + 1)) 15 60) + 1))) (fun M12 => z_denF zQ (d + 6 + 1) mQ_tick (33, [some (.ref 15), some (.int l1), some (.int (l2 + 1)), some (.int x9)], [], M12))) = z_denF zQ (d + 6 + 1) mQ_tick (33, [some (.ref 15), some (.int l1), some (.int (l2 + 1)), some (.int x9)], [], B') ∧ rY (paS S (zn o + 1) (zn go + 1)) l B' ∧ rHi (upH hi (go + 1) (yG (paS S (zn o + 1) (zn go + 1)), l)) (max lo (go + 1 - 500)) (go + 1 + 1) B' ∧ zI B' 15 62 = zn ((go + 1 + 1) % 501) ∧ zI B' 15 63 = zn (go + 1 + 1 - max lo (go + 1 - 500)) ∧ zI B' 15 60 = zn (u + 1) ∧ zFr 0 0 xtb M B' := by
  have hn := z_new_ge M
  obtain ⟨M1, q1, q2, q3⟩ := r_tgo (d + 4) h h12
  have hn1 := z_new_ge M1
  have e50 : zI M1 15 50 = zn o := by rw [q2.2.2.1.2.2.2.2.1, ph_G _ (by omega) (by omega), tm_G _ (by omega) (by omega)]; exact h5
  have e48 : zI M1 15 48 = zn go := by rw [q2.1.2.1, ph_G _ (by omega) (by omega), tm_G _ (by omega) (by omega)]; exact h3
  have e60 : zI M1 15 60 = zn u := by rw [zFr_I q3 _ (by omega) (fun e => by unfold xra at e; omega)]; exact h60
  have e62 : zI M1 15 62 = zn ((go + 1) % 501) := by rw [zFr_I q3 _ (by omega) (fun e => by unfold xra at e; omega)]; exact h62
  have e63 : zI M1 15 63 = zn (go + 1 - lo) := by rw [zFr_I q3 _ (by omega) (fun e => by unfold xra at e; omega)]; exact h63
  have hh1 := rHi_fr q3 hh hls (fun k e => by unfold xra at e; omega)
  have y1 := rY_w3 (rY_w15 q2 (show p15 5 50 by unfold p15; omega) (zn o + 1)) (zn go + 1)
  have eS : uG (uG (phF (tmF S)) 5 (zn o + 1)) 3 (zn go + 1) = paS S (zn o + 1) (zn go + 1) := by unfold paS; rw [tm_5, ph_5]
  rw [eS] at y1
  generalize hS3 : paS S (zn o + 1) (zn go + 1) = S3 at *
  have f60 : zFr 0 0 (fun a k => a = 15 ∧ k = 60) (z_wI (z_wI M1 15 50 (zn o + 1)) 15 48 (zn go + 1)) (z_wI (z_wI (z_wI M1 15 50 (zn o + 1)) 15 48 (zn go + 1)) 15 60 (zn u + 1)) := zFr_wI (X := fun a k => a = 15 ∧ k = 60) ⟨rfl, rfl⟩
  have y2 : rY S3 l (z_wI (z_wI (z_wI M1 15 50 (zn o + 1)) 15 48 (zn go + 1)) 15 60 (zn u + 1)) := ⟨rB_fr f60 y1.1 (by omega) (by omega) (fun a k e q => by omega), rL_fr f60 y1.2.1 (by omega) (fun a k _ _ q => by omega), rA_fr f60 y1.2.2 (fun k hk q => by omega) (fun a k _ _ q => by omega) (fun _ _ _ _ _ => rfl)⟩
  have F2 : zFr 0 0 (fun a k => a = 15 ∧ (k = 50 ∨ k = 48 ∨ k = 60)) M1 (z_wI (z_wI (z_wI M1 15 50 (zn o + 1)) 15 48 (zn go + 1)) 15 60 (zn u + 1)) := x_tr (x_tr (zFr_wI (X := fun a k => a = 15 ∧ (k = 50 ∨ k = 48 ∨ k = 60)) ⟨rfl, by omega⟩) (zFr_wI (X := fun a k => a = 15 ∧ (k = 50 ∨ k = 48 ∨ k = 60)) ⟨rfl, by omega⟩)) (zFr_wI (X := fun a k => a = 15 ∧ (k = 50 ∨ k = 48 ∨ k = 60)) ⟨rfl, by omega⟩)
  have x6 : yG S3 6 = 0 ∨ yG S3 6 = 1 := by rw [← hS3, paS_G _ _ _ (by omega)]; exact h6
  have hh2 := rHi_fr F2 hh1 hls (fun k e => by omega)
  have hn2 := z_new_ge (z_wI (z_wI (z_wI M1 15 50 (zn o + 1)) 15 48 (zn go + 1)) 15 60 (zn u + 1))
  obtain ⟨B', p1, p2, p3, p4, p5, p6⟩ := r_lay (d + 5) (lo := lo) (go := go + 1) (hi := hi) hl y2 x6 hh2 hls (by omega) (by omega) (by omega) (by rw [zI_wI_k (by omega), zI_wI_k (by omega), zI_wI_k (by omega)]; exact e62) (by rw [zI_wI_k (by omega), zI_wI_k (by omega), zI_wI_k (by omega)]; exact e63)
  refine ⟨B', ?_, p2, p3, p4, p5, ?_, ?_⟩
  · rw [q1, z_bV_some]
    simp (disch := omega) only [zI_wI_k]
    rw [e50, e48, e60, p1, z_bV_some]
  · rw [zFr_I p6 _ (by omega) (fun e => by unfold xla at e; omega), zI_wI_s, zn_1]
  · refine x_tr (x_tr (zFr_mono q3 (Nat.le_refl _) (Nat.le_refl _) (fun _ _ e => xtb_ra e)) (zFr_mono F2 (Nat.le_refl _) (Nat.le_refl _) (fun a k e => ?_))) (zFr_mono p6 (Nat.le_refl _) (Nat.le_refl _) (fun _ _ e => Or.inr (Or.inl e)))
    rcases e.2 with e2 | e2 | e2
    · exact xtb_ra (Or.inl ⟨e.1, by omega⟩)
    · exact Or.inr (Or.inr ⟨e.1, Or.inl e2⟩)
    · exact Or.inr (Or.inr ⟨e.1, Or.inr e2⟩)
theorem r_pass (d : Nat) {J : zJ} {H : zH} {G : zG} {r : Nat} {B : zM} {S : yR} {l : yL} {hi : yHs} {lo go u : Nat} {l1 l2 : Int32} (wj : wJ J) (hj : rJ3 J B) (w : wH (jN J) H) (hH : rH H B) (wg : wG G) (hG : rG G B) (hr : r < gR G) (h37 : zI B 15 37 = zn r) (hY : rY S l B) (hv : pv (jN J) (gZ G r) S l) (ha : atP G r S) (h3 : yG S 3 = zn go) (hh : rHi hi lo (go + 1) B) (hls : ∀ t, lo ≤ t → t < go + 1 → (hi t).2.length ≤ 320) (hlo : lo ≤ go) (hlg : go ≤ lo + 500) (hg : go < 20000) (h62 : zI B 15 62 = zn ((go + 1) % 501)) (h63 : zI B 15 63 = zn (go + 1 - lo)) (h60 : zI B 15 60 = zn u) : ∃ B' o9, (z_bI (z_den zQ (d + 6) mQ_poolOf [.ref 15, .int (zI B 15 37), .int (zI B 15 49)] B) (fun x9 M10 => bif z_eq (zI M10 15 51) 0 then (z_bV (z_den zQ (d + 6) mQ_tempoGoesOn [.ref 15] M10) (fun M11 => z_bV (z_den zQ (d + 6) mQ_layAside [.ref 15] (z_wI (z_wI (z_wI M11 15 50 ((zI M11 15 50) + 1)) 15 48 ((zI (z_wI M11 15 50 ((zI M11 15 50) + 1)) 15 48) + 1)) 15 60 ((zI (z_wI (z_wI M11 15 50 ((zI M11 15 50) + 1)) 15 48 ((zI (z_wI M11 15 50 ((zI M11 15 50) + 1)) 15 48) + 1)) 15 60) + 1))) (fun M12 => z_denF zQ (d + 6 + 1) mQ_tick (33, [some (.ref 15), some (.int l1), some (.int (l2 + 1)), some (.int x9)], [], M12)))) else (bif z_ix x9 400 then bif z_le (zI M10 24 (Int32.toNatClampNeg x9)) (zI M10 15 50) then (z_bV (z_den zQ (d + 6) mQ_tempoGoesOn [.ref 15] M10) (fun M13 => z_bV (z_den zQ (d + 6) mQ_layAside [.ref 15] (z_wI (z_wI (z_wI M13 15 50 ((zI M13 15 50) + 1)) 15 48 ((zI (z_wI M13 15 50 ((zI M13 15 50) + 1)) 15 48) + 1)) 15 60 ((zI (z_wI (z_wI M13 15 50 ((zI M13 15 50) + 1)) 15 48 ((zI (z_wI M13 15 50 ((zI M13 15 50) + 1)) 15 48) + 1)) 15 60) + 1))) (fun M14 => z_denF zQ (d + 6 + 1) mQ_tick (33, [some (.ref 15), some (.int l1), some (.int (l2 + 1)), some (.int x9)], [], M14)))) else (bif z_ix x9 400 then bif z_ix ((256 * x9) + (zI M10 15 50)) 102400 then z_bV (z_den zQ (d + 6) mQ_does [.ref 15, .int (zI M10 18 (Int32.toNatClampNeg x9)), .int (zI M10 25 (Int32.toNatClampNeg ((256 * x9) + (zI M10 15 50))))] M10) (fun M15 => z_bV (z_den zQ (d + 6) mQ_tempoGoesOn [.ref 15] M15) (fun M16 => z_bV (z_den zQ (d + 6) mQ_layAside [.ref 15] (z_wI (z_wI (z_wI M16 15 50 ((zI M16 15 50) + 1)) 15 48 ((zI (z_wI M16 15 50 ((zI M16 15 50) + 1)) 15 48) + 1)) 15 60 ((zI (z_wI (z_wI M16 15 50 ((zI M16 15 50) + 1)) 15 48 ((zI (z_wI M16 15 50 ((zI M16 15 50) + 1)) 15 48) + 1)) 15 60) + 1))) (fun M17 => z_denF zQ (d + 6 + 1) mQ_tick (33, [some (.ref 15), some (.int l1), some (.int (l2 + 1)), some (.int x9)], [], M17)))) else none else none) else none))) = z_denF zQ (d + 6 + 1) mQ_tick (33, [some (.ref 15), some (.int l1), some (.int (l2 + 1)), o9], [], B') ∧ rY (paF J H G r (S, l)).1 (paF J H G r (S, l)).2 B' ∧ rHi (upH hi (go + 1) (yG (paF J H G r (S, l)).1, (paF J H G r (S, l)).2)) (max lo (go + 1 - 500)) (go + 1 + 1) B' ∧ zI B' 15 62 = zn ((go + 1 + 1) % 501) ∧ zI B' 15 63 = zn (go + 1 + 1 - max lo (go + 1 - 500)) ∧ zI B' 15 60 = zn (u + 1) ∧ zFr 0 0 xtb B B' := by
  obtain ⟨p, o, e4, e5, hp, ho, he⟩ := at_p hv ha
  have hz : gZ G r ≤ 400 := by have := wG_z wg hr; have := wg.2.1; omega
  have hn := z_new_ge B
  have hpp := wg.2.2.2.1 r p hr hp
  have hN := wg.2.1
  have t3 : wT (gS G r p) := wg.2.2.2.2.1 _ hpp
  have hS := t3.2.2.2.2.1
  have hi' := hv.1
  obtain ⟨r1, r2, r3, r4, r5, r6, r7, r8⟩ := hG.2.2.2.2.2.2.1 _ hpp
  have r1 : zI B 18 (gO G r p) = zn (tK (gS G r p)) := r1
  have r6 : zI B 24 (gO G r p) = zn (tS (gS G r p)) := r6
  have k49 : zI B 15 49 = zn p := hY.2.2.1.2.2.2.1.trans e4
  have k50 : zI B 15 50 = zn o := hY.2.2.1.2.2.2.2.1.trans e5
  have k51 : zI B 15 51 = yG S 6 := hY.2.2.1.2.2.2.2.2
  have eX : paX J H G r (S, l) = pif (yG S 6 = 1 ∧ o < tS (gS G r p)) (elF J H (tK (gS G r p)) (tE (gS G r p) o) S l) (S, l) := by
    unfold paX
    show pif (yG S 6 = 1 ∧ (yG S 5).toNatClampNeg < tS (gS G r (yG S 4).toNatClampNeg)) (elF J H (tK (gS G r (yG S 4).toNatClampNeg)) (tE (gS G r (yG S 4).toNatClampNeg) (yG S 5).toNatClampNeg) S l) (S, l) = _
    rw [e4, e5, zn_N (by omega), zn_N (by omega)]
  have key : ∀ (S1 : yR) (l1 : yL), paX J H G r (S, l) = (S1, l1) → paF J H G r (S, l) = (paS S1 (zn o + 1) (zn go + 1), l1) := by
    intro S1 l1 h
    unfold paF
    rw [h]
    show (paS S1 (yG S 5 + 1) (yG S 3 + 1), l1) = _
    rw [e5, h3]
  rw [h37, k49, E_Q_po _ hG wg hr hp, z_bI_some, k51]
  by_cases g6 : yG S 6 = 1
  · rw [show z_eq (yG S 6) (0 : Int32) = false by rw [g6, z_eq_eq]; rfl, cond_false, z_ix_T (by omega) (by omega), cond_true, cond_true, zn_N (by omega), r6, k50]
    by_cases go' : o < tS (gS G r p)
    · rw [pif_T ⟨g6, go'⟩] at eX
      rw [key (elF J H (tK (gS G r p)) (tE (gS G r p) o) S l).1 (elF J H (tK (gS G r p)) (tE (gS G r p) o) S l).2 eX]
      obtain ⟨B1, q1, q2, q3⟩ := r_elem (d + 1) (k := tK (gS G r p)) (e := tE (gS G r p) o) wj hj w hH t3.1 hY hi' he (by omega)
      obtain ⟨i1, i2, i3⟩ := el_inv (k := tK (gS G r p)) (e := tE (gS G r p) o) wj w hi' he (by omega)
      have i4 := el_12 (k := tK (gS G r p)) (e := tE (gS G r p) o) wj w hi' he (by omega) hv.2.1
      have r8' : zI B 25 (256 * gO G r p + o) = tE (gS G r p) o := r8 o (by omega)
      generalize elF J H (tK (gS G r p)) (tE (gS G r p) o) S l = X1 at q2 i1 i2 i3 i4 ⊢
      have k : ∀ j, j = 60 ∨ j = 62 ∨ j = 63 → zI B1 15 j = zI B 15 j := fun j hj => zFr_I q3 _ (by omega) (fun e => by have := xel_no e; omega)
      obtain ⟨B', s1, s2, s3, s4, s5, s6, s7⟩ := r_tail d (l1 := l1) (l2 := l2) (x9 := zn (gO G r p)) (M := B1) q2 i4 i1.1.2.1 (by rw [i3 6 (by omega) (by omega)]; exact hv.2.2.1) ((i3 3 (by omega) (by omega)).trans h3) ((i3 5 (by omega) (by omega)).trans e5) (rHi_fr q3 hh hls (fun k e => by have := xel_no e; omega)) hls hlo hlg hg (by rw [k _ (by omega)]; exact h62) (by rw [k _ (by omega)]; exact h63) (by rw [k _ (by omega)]; exact h60)
      refine ⟨B', some (.int (zn (gO G r p))), ?_, s2, s3, s4, s5, s6, x_tr (zFr_mono q3 (Nat.le_refl _) (Nat.le_refl _) (fun _ _ e => Or.inl e)) s7⟩
      rw [z_le_F go' (by omega), cond_false, show (256 : Int32) = zn 256 from (zn_eq 256).symm, zn_mul, zn_add, z_ix_T (by omega) (by omega), cond_true, zn_N (by omega), r1, r8', q1, z_bV_some]
      exact s1
    · rw [pif_F (fun q => go' q.2)] at eX
      rw [key S l eX]
      obtain ⟨B', s1, s2, s3, s4, s5, s6, s7⟩ := r_tail d (l1 := l1) (l2 := l2) (x9 := zn (gO G r p)) hY hv.2.1 hi'.1.2.1 hv.2.2.1 h3 e5 hh hls hlo hlg hg h62 h63 h60
      refine ⟨B', some (.int (zn (gO G r p))), ?_, s2, s3, s4, s5, s6, s7⟩
      rw [z_le_T (by omega) (by omega), cond_true]
      exact s1
  · have g0 : yG S 6 = 0 := hv.2.2.1.resolve_right g6
    rw [pif_F (fun q => g6 q.1)] at eX
    rw [key S l eX]
    obtain ⟨B', s1, s2, s3, s4, s5, s6, s7⟩ := r_tail d (l1 := l1) (l2 := l2) (x9 := zn (gO G r p)) hY hv.2.1 hi'.1.2.1 hv.2.2.1 h3 e5 hh hls hlo hlg hg h62 h63 h60
    refine ⟨B', some (.int (zn (gO G r p))), ?_, s2, s3, s4, s5, s6, s7⟩
    rw [show z_eq (yG S 6) (0 : Int32) = true by rw [g0, z_eq_eq]; rfl, cond_true]
    exact s1
