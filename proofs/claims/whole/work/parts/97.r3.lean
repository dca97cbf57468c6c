/-! S LEVEL, PLAYING: a strip begins, a strip with a tick to come, the class. -/
theorem cG_yC {G : zG} {al : Nat → Nat} {A : zM} (h : cG G al A) (f : Nat → Int32) (S : yR) : cG G al (yC A f S) := by
  refine cG_fr (yC_fr A f S) h ⟨by omega, by omega, by omega⟩ (fun k => by omega) (fun a k t n hd ht e => ?_)
  have k : ∀ c m, z_hd zQ A c = some (14, m) → a ≠ c := by
    intro c m h2 e
    rw [e, h2] at hd
    have := congrArg Prod.fst (Option.some.inj hd)
    have : 14 = t := this
    omega
  rcases e with e | e | e
  · exact k 10 17 rfl e
  · exact k 11 523 rfl e
  · exact k 13 6000 rfl e
theorem c_beg (d : Nat) {n : Nat} {A : zM} {S : yR} {l : yL} {f : Nat → Int32} {a q b : Nat} {T : zT} (hT : cT A a T) (wt : wT T) (hY : cY (yG S) l f) (hi : iv n S l) (he : evB S b) (hb : b + 2000 < 2147483646) : ∃ f', z_den zQ (d + 5) mO_beginStrip [.ref 3, .ref a, .int (zn q)] (yC A f S) = some (none, yC A f' (nsF (S, l) q T).1) ∧ cY (yG (nsF (S, l) q T).1) (nsF (S, l) q T).2 f' := by
  have hT1 := cT_yC hT f S
  have z4 : z_ix (4 : Int32) 523 = true := ix_L nL_4 (by omega) (by omega)
  have n4 : Int32.toNatClampNeg (4 : Int32) = 4 := by rw [nL_4]; exact zn_N (by omega)
  have z5 : z_ix (5 : Int32) 523 = true := ix_L nL_5 (by omega) (by omega)
  have n5 : Int32.toNatClampNeg (5 : Int32) = 5 := by rw [nL_5]; exact zn_N (by omega)
  have z6 : z_ix (6 : Int32) 523 = true := ix_L nL_6 (by omega) (by omega)
  have n6 : Int32.toNatClampNeg (6 : Int32) = 6 := by rw [nL_6]; exact zn_N (by omega)
  have hY1 : cY (yG (ns0 S q T)) l (up (up (up f 4 (zn q)) 5 0) 6 (whI T)) := cY_up (cY_up (cY_up hY (by omega) (by omega) _) (by omega) (by omega) _) (by omega) (by omega) _
  have he0 : evB (ns0 S q T) b := evB_cg he (ns0_G S q T (by omega))
  obtain ⟨f1, q1, q2⟩ := c_log (d + 3) (A := A) hY1 he0 (by omega) 0 (zn q) (zn (findT T))
  have q1' : z_den zQ (d + 4) mO_log [.ref 3, .int 0, .int (zn q), .int (zn (findT T))] (yC A (up (up (up f 4 (zn q)) 5 0) 6 (whI T)) S) = some (none, yC A f1 (ns1 S q T)) := q1
  rw [B_O_beginStrip, z_cls_of hT1.1, show z_mem ((9, 7) : Nat × Nat).1 [9] = true from rfl, cond_true, E_S_verdict _ a _ T hT1 wt, z_bI_some, z4, z5, z6]
  simp only [cond_true, n4, n5, n6, yC_w11]
  have he1 : evB (ns1 S q T) (b + 1) := lg_e he0 (by omega) _ _ _
  have hf := find_lt T
  unfold nsF
  by_cases g : findT T = 0
  · have ew : whI T = 1 := if_pos g
    rw [ew] at q1'
    refine ⟨f1, ?_, by rw [if_pos g]; exact q2⟩
    rw [if_pos g, g, ne_00, cond_false, ← g, q1', z_bV_some, g, z_eq_00, cond_true]
  · have ew : whI T = 0 := if_neg g
    rw [ew] at q1'
    have q3 : cY (yG (ns1 S q T)) l f1 := q2
    obtain ⟨f2, p1, p2⟩ := c_sil d (A := A) hi.1 q3 he1 (by omega)
    refine ⟨f2, ?_, by rw [if_neg g]; exact p2⟩
    rw [if_neg g, z_ne_n0 (by omega) (by omega), cond_true, q1', z_bV_some, show z_eq (zn (findT T)) (0 : Int32) = false by rw [nL_0]; exact z_eq_F g (by omega) (by omega), cond_false, p1, z_bV_some]
    rfl
theorem L_ea (d : Nat) {J : zJ} {H : zH} {A : zM} {a a2 : Nat} {T : zT} {l1 l3 : Int32} (wj : wJ J) (hj : cJ J A) (w : wH (jN J) H) (hh : cH H A) (hT : cT A a T) (wt : wT T) : ∀ (r k : Nat) (f : Nat → Int32) (S : yR) (l : yL) (b : Nat), k + r = tS T → cY (yG S) l f → iv (jN J) S l → evB S b → b + 2560 * r + 5000 < 2147483646 → ∃ f' k', z_denF zQ (d + 47) mO_reachStrip (123, [some (.ref 3), some (.int l1), some (.ref a2), some (.int l3), some (.ref a), some (.int (zn (tS T))), some (.int (zn k))], [], yC A f S) = z_denF zQ (d + 47) mO_reachStrip (4, [some (.ref 3), some (.int (l1 + (-1))), some (.ref a2), some (.int l3), some (.ref a), some (.int (zn (tS T))), some (.int k')], [], yC A f' (eaF J H T r k (S, l)).1) ∧ cY (yG (eaF J H T r k (S, l)).1) (eaF J H T r k (S, l)).2 f'
  | 0, k, f, S, l, b, hk, hY, hi, he, hb => by
    have hS := wt.2.2.2.2.1
    refine ⟨f, zn k, ?_, hY⟩
    rw [L_O_reachStrip_123, z_le_T (by omega) (by omega), cond_true]; rfl
  | r + 1, k, f, S, l, b, hk, hY, hi, he, hb => by
    have hS := wt.2.2.2.2.1
    obtain ⟨f1, q1, q2⟩ := c_elem d wj hj w hh hT wt (k := k) (by omega) hY hi he (by omega)
    obtain ⟨i1, i2, i3⟩ := el_inv (k := tK T) (e := tE T k) wj w hi he (by omega)
    obtain ⟨f2, k', p1, p2⟩ := L_ea d (a2 := a2) (l1 := l1) (l3 := l3) wj hj w hh hT wt r (k + 1) f1 _ _ (b + 2560) (by omega) q2 i1 i2 (by omega)
    refine ⟨f2, k', ?_, p2⟩
    rw [L_O_reachStrip_123, z_le_F (by omega) (by omega), cond_false, q1, z_bV_some, zn_1]
    exact p1
theorem rc_nx (d : Nat) {J : zJ} {H : zH} {A : zM} {S : yR} {l : yL} {f : Nat → Int32} {x5 x3 q b : Nat} {T : zT} {l1 xq : Int32} (hq : xq = zn q) (wj : wJ J) (hj : cJ J A) (w : wH (jN J) H) (hh : cH H A) (hT : cT A x5 T) (wt : wT T) (hY : cY (yG S) l f) (hi : iv (jN J) S l) (he : evB S b) (hb : b + 700000 < 2147483646) (h12 : 0 ≤ (yG S 12).toInt) : ∃ f' o5 o6, z_bV (z_den zQ (d + 46) mO_beginStrip [.ref 3, .ref x5, .int xq] (yC A f S)) (fun M8 => bif z_cls zQ M8 x5 [9] then bif z_ne (zI M8 x5 2) 0 then (z_denF zQ (d + 46 + 1) mO_reachStrip (123, [some (.ref 3), some (.int l1), some (.ref x3), some (.int xq), some (.ref x5), some (.int 0), some (.int 0)], [], M8)) else (bif z_ix 6 523 then bif z_ne (zI M8 11 (Int32.toNatClampNeg 6)) 1 then (z_denF zQ (d + 46 + 1) mO_reachStrip (123, [some (.ref 3), some (.int l1), some (.ref x3), some (.int xq), some (.ref x5), some (.int 0), some (.int 0)], [], M8)) else (bif z_cls zQ M8 x5 [9] then z_bI (z_den zQ (d + 46) mS_elements [.ref x5] M8) (fun x9 M10 => z_denF zQ (d + 46 + 1) mO_reachStrip (123, [some (.ref 3), some (.int l1), some (.ref x3), some (.int xq), some (.ref x5), some (.int x9), some (.int 0)], [], M10)) else none) else none) else none) = z_denF zQ (d + 46 + 1) mO_reachStrip (4, [some (.ref 3), some (.int (l1 + (-1))), some (.ref x3), some (.int xq), some (.ref x5), o5, o6], [], yC A f' (ntF J H (S, l) q T).1) ∧ cY (yG (ntF J H (S, l) q T).1) (ntF J H (S, l) q T).2 f' := by
  subst hq
  have hS := wt.2.2.2.2.1
  have hU := wt.2.2.1
  obtain ⟨f1, q1, q2⟩ := c_beg (d + 41) hT wt hY hi he (by omega) (q := q)
  obtain ⟨a1, a2, a3, a4, a5, a6, a7⟩ := ns_inv q T hi he (by omega)
  have hT1 := cT_yC hT f1 (nsF (S, l) q T).1
  have e2 : zI (yC A f1 (nsF (S, l) q T).1) x5 2 = zn (tU T) := hT1.2.2.2.1
  have z6 : z_ix (6 : Int32) 523 = true := ix_L nL_6 (by omega) (by omega)
  have n6 : Int32.toNatClampNeg (6 : Int32) = 6 := by rw [nL_6]; exact zn_N (by omega)
  have e6 : f1 6 = whI T := by rw [q2.1 6 (by omega) (by omega)]; exact a5
  have zero : ∀ o2 : Nat, z_denF zQ (d + 46 + 1) mO_reachStrip (123, [some (.ref 3), some (.int l1), some (.ref x3), some (.int (zn q)), some (.ref x5), some (.int 0), some (.int 0)], [], yC A f1 (nsF (S, l) q T).1) = z_denF zQ (d + 46 + 1) mO_reachStrip (4, [some (.ref 3), some (.int (l1 + (-1))), some (.ref x3), some (.int (zn q)), some (.ref x5), some (.int 0), some (.int 0)], [], yC A f1 (nsF (S, l) q T).1) := fun _ => by
    rw [L_O_reachStrip_123, show z_le (0 : Int32) 0 = true by rw [z_le_eq]; rfl, cond_true]
  rw [q1, z_bV_some, z_cls_of hT1.1, show z_mem ((9, 7) : Nat × Nat).1 [9] = true from rfl, cond_true, e2, z6, n6, yC_11, e6]
  unfold ntF
  by_cases g1 : tU T = 0
  · rw [g1, ne_00, cond_false, cond_true, cond_true]
    by_cases g2 : findT T = 0
    · rw [if_pos ⟨rfl, g2⟩, show whI T = 1 from if_pos g2, show z_ne (1 : Int32) 1 = false by rw [z_ne_eq]; rfl, cond_false, E_S_elements _ x5 _ T hT1 ⟨wt.2.2.2.1, wt.2.2.2.2.1, wt.2.2.2.2.2.1⟩, z_bI_some]
      obtain ⟨f2, k', p1, p2⟩ := L_ea d (a2 := x3) (l1 := l1) (l3 := zn q) wj hj w hh hT wt (tS T) 0 f1 _ _ (b + 321) (Nat.zero_add _) q2 a1 a2 (by omega)
      rw [← nL_0] at p1
      exact ⟨f2, _, _, p1, p2⟩
    · rw [if_neg (fun q => g2 q.2), show whI T = 0 from if_neg g2, show z_ne (0 : Int32) 1 = true by rw [z_ne_eq]; rfl, cond_true]
      exact ⟨f1, _, _, zero 0, q2⟩
  · rw [if_neg (fun q => g1 q.1), z_ne_n0 (by omega) (by omega), cond_true]
    exact ⟨f1, _, _, zero 0, q2⟩
theorem rc_s (J : zJ) (H : zH) (G : zG) (r f : Nat) (X : yR × yL) : rcF J H G r (f + 1) X = pif (atP G r X.1) (true, X) (if nxP X.1 < gZ G r then rcF J H G r f (ntF J H X (nxP X.1) (gS G r (nxP X.1))) else (false, siF X.1 X.2, [])) := rfl
noncomputable def rcO (A : zM) (f' : Nat → Int32) (R : Bool × yR × yL) : zR := if R.1 = true then some (some (.int 1), yC A f' R.2.1) else some (some (.int 0), z_wI (yC A f' R.2.1) 3 15 0)
theorem pv_b {n cnt : Nat} {S : yR} {l : yL} (h : pv n cnt S l) (hc : cnt ≤ 400) : ∃ b, evB S b ∧ b ≤ 600000000 := by
  rcases h.2.2.2 with h | ⟨p, o, e4, e5, hp, ho, he⟩
  · exact ⟨0, h.2, by omega⟩
  · exact ⟨_, he, by omega⟩
theorem L_rc (d : Nat) {J : zJ} {H : zH} {G : zG} {al : Nat → Nat} {A : zM} {r : Nat} (wj : wJ J) (hj : cJ J A) (w : wH (jN J) H) (hh : cH H A) (wg : wG G) (hg : cG G al A) (hr : r < gR G) (h16 : zP zQ A 3 16 = zP zQ A 2 r) : ∀ (m : Nat) (o2 o3 o4 o5 o6 : Option Value) (f : Nat → Int32) (S : yR) (l : yL), m ≤ 400 → gZ G r - nxP S ≤ m → cY (yG S) l f → pv (jN J) (gZ G r) S l → ∃ f', z_denF zQ (d + 46 + 1) mO_reachStrip (4, [some (.ref 3), some (.int (zn m)), o2, o3, o4, o5, o6], [], yC A f S) = rcO A f' (rcF J H G r (m + 1) (S, l)) ∧ cY (yG (rcF J H G r (m + 1) (S, l)).2.1) (rcF J H G r (m + 1) (S, l)).2.2 f' := by
  intro m
  induction m using Nat.strongRecOn with
  | _ m ih =>
  intro o2 o3 o4 o5 o6 f S l hm hrem hY hv
  obtain ⟨-, q0, hz⟩ := cG_ro hg wg hr
  obtain ⟨b, he, hb⟩ := pv_b hv hz
  have hi := hv.1
  have e4 : f 4 = yG S 4 := hY.1 4 (by omega) (by omega)
  have e5 : f 5 = yG S 5 := hY.1 5 (by omega) (by omega)
  have hg1 := cG_yC hg f S
  have q1 : cRo (yC A f S) (zP zQ A 2 r) (gZ G r) := (cG_ro hg1 wg hr).1
  have z4 : z_ix (4 : Int32) 523 = true := ix_L nL_4 (by omega) (by omega)
  have n4' : Int32.toNatClampNeg (4 : Int32) = 4 := by rw [nL_4]; exact zn_N (by omega)
  have z5 : z_ix (5 : Int32) 523 = true := ix_L nL_5 (by omega) (by omega)
  have n5 : Int32.toNatClampNeg (5 : Int32) = 5 := by rw [nL_5]; exact zn_N (by omega)
  have c8 : z_cls zQ (yC A f S) (zP zQ A 2 r) [8] = true := by rw [z_cls_of q1.1]; rfl
  have sil : ∃ f', z_bV (z_den zQ (d + 46) mO_silence [.ref 3] (yC A f S)) (fun M => some (some (.int 0), z_wI M 3 15 0)) = rcO A f' (false, siF S l, []) ∧ cY (yG (siF S l)) [] f' := by
    obtain ⟨f', p1, p2⟩ := c_sil (d + 42) (A := A) hi.1 hY he (by omega)
    refine ⟨f', ?_, p2⟩
    rw [p1, z_bV_some]; rfl
  have fin : ∀ (a2 a3 a4 a5 a6 : Option Value) (f1 : Nat → Int32), nxP S < gZ G r → cY (yG (ntF J H (S, l) (nxP S) (gS G r (nxP S))).1) (ntF J H (S, l) (nxP S) (gS G r (nxP S))).2 f1 → ∃ f', z_denF zQ (d + 46 + 1) mO_reachStrip (4, [some (.ref 3), some (.int (zn m + (-1))), a2, a3, a4, a5, a6], [], yC A f1 (ntF J H (S, l) (nxP S) (gS G r (nxP S))).1) = rcO A f' (rcF J H G r m (ntF J H (S, l) (nxP S) (gS G r (nxP S)))) ∧ cY (yG (rcF J H G r m (ntF J H (S, l) (nxP S) (gS G r (nxP S)))).2.1) (rcF J H G r m (ntF J H (S, l) (nxP S) (gS G r (nxP S)))).2.2 f' := by
    intro a2 a3 a4 a5 a6 f1 g h1
    cases m with
    | zero => omega
    | succ m' =>
    have hv1 := pv_nt wj w hz (cG_rs hg wg hr g).2.2.1 hv g
    have hnx : nxP (ntF J H (S, l) (nxP S) (gS G r (nxP S))).1 = nxP S + 1 := nx_p (nt_inv (nxP S) (gS G r (nxP S)) wj w (cG_rs hg wg hr g).2.2.1 hi he (by omega) hv.2.1).2.2.1 (by omega)
    rw [dk_a, dk_s (by omega)]
    exact ih m' (by omega) a2 a3 a4 a5 a6 f1 _ _ (by omega) (by rw [hnx]; omega) h1 hv1
  rw [L_O_reachStrip_4, show z_lt (zn m) (0 : Int32) = false by rw [nL_0]; exact z_lt_F (by omega) (by omega), cond_false, yC_P, h16, z_bq_F q0, cond_false, z4, cond_true, c8, cond_true, n4', yC_11, e4, rc_s]
  rcases hv.2.2.2 with h4 | ⟨p, o, h4, h5, hp, ho, -⟩
  · have h4 := h4.1
    have hnx := nx_N h4
    rw [h4, E_L_stripAt_no _ q1 (by omega) (Or.inl (by decide)), z_bR_some, show Nat.beq 0 0 = true from rfl, cond_true, cond_true, yC_P, h16, c8, cond_true, pif_F (fun q => q.1 h4)]
    by_cases g : nxP S < gZ G r
    · obtain ⟨r1, r2, r3, r4⟩ := cG_rs hg wg hr g
      have eAt : z_den zQ (d + 46) mL_stripAt [.ref (zP zQ A 2 r), .int 0] (yC A f S) = some (some (.ref (al (gO G r (nxP S)))), yC A f S) := by
        rw [nL_0, ← hnx]; exact E_L_at (d + 45) hg1 wg hr g
      obtain ⟨f1, x5, x6, p1, p2⟩ := rc_nx d (x3 := 0) (l1 := zn m) (xq := 0) (q := nxP S) (by rw [hnx, nL_0]) wj hj w hh r2 r3 hY hi he (by omega) hv.2.1
      rw [if_pos g, eAt, z_bR_some, z_bq_F r4, cond_false, p1]
      exact fin _ _ _ _ _ f1 g p2
    · rw [if_neg g, E_L_stripAt_no _ q1 (by omega) (Or.inr (by rw [toI_0]; omega)), z_bR_some, show Nat.beq 0 0 = true from rfl, cond_true]
      exact sil
  · have hnx := nx_p h4 (by omega)
    obtain ⟨t1, t2, t3, t4⟩ := cG_rs hg wg hr hp
    have t2' := cT_yC t2 f S
    have e2 : zI (yC A f S) (al (gO G r p)) 2 = zn (tU (gS G r p)) := t2'.2.2.2.1
    have c9 : z_cls zQ (yC A f S) (al (gO G r p)) [9] = true := by rw [z_cls_of t2'.1]; rfl
    have hU := t3.2.2.1
    have eP : z_den zQ (d + 46) mL_stripAt [.ref (zP zQ A 2 r), .int (zn p)] (yC A f S) = some (some (.ref (al (gO G r p))), yC A f S) := E_L_at (d + 45) hg1 wg hr hp
    rw [h4, eP, z_bR_some, z_bq_F t4, cond_false, z5, cond_true, c9, cond_true, e2, n5, yC_11, e5, h5]
    by_cases ga : o < tU (gS G r p)
    · rw [z_le_F ga (by omega), cond_false, pif_T ⟨by rw [h4]; exact n4 (by omega), by rw [h4, h5, zn_N (by omega), zn_toInt (by omega)]; omega⟩]
      exact ⟨f, rfl, hY⟩
    · rw [z_le_T (by omega) (by omega), cond_true, cond_false, cond_true, yC_P, h16, c8, cond_true, yC_11, e4, h4, zn_1, pif_F (fun q => ga (by have := q.2; rw [h4, h5, zn_N (by omega), zn_toInt (by omega)] at this; omega))]
      by_cases g : nxP S < gZ G r
      · obtain ⟨r1, r2, r3, r4⟩ := cG_rs hg wg hr g
        have eAt : z_den zQ (d + 46) mL_stripAt [.ref (zP zQ A 2 r), .int (zn (p + 1))] (yC A f S) = some (some (.ref (al (gO G r (nxP S)))), yC A f S) := by
          rw [← hnx]; exact E_L_at (d + 45) hg1 wg hr g
        obtain ⟨f1, x5, x6, p1, p2⟩ := rc_nx d (x3 := al (gO G r p)) (l1 := zn m) (xq := zn (p + 1)) (q := nxP S) (by rw [hnx]) wj hj w hh r2 r3 hY hi he (by omega) hv.2.1
        rw [if_pos g, eAt, z_bR_some, z_bq_F r4, cond_false, p1]
        exact fin _ _ _ _ _ f1 g p2
      · rw [if_neg g, E_L_stripAt_no _ q1 (by omega) (Or.inr (by rw [zn_toInt (by omega)]; omega)), z_bR_some, show Nat.beq 0 0 = true from rfl, cond_true]
        exact sil
theorem c_reach (d : Nat) {J : zJ} {H : zH} {G : zG} {al : Nat → Nat} {A : zM} {r : Nat} {f : Nat → Int32} {S : yR} {l : yL} (wj : wJ J) (hj : cJ J A) (w : wH (jN J) H) (hh : cH H A) (wg : wG G) (hg : cG G al A) (hr : r < gR G) (h16 : zP zQ A 3 16 = zP zQ A 2 r) (hY : cY (yG S) l f) (hv : pv (jN J) (gZ G r) S l) : ∃ f', z_den zQ (d + 47) mO_reachStrip [.ref 3] (yC A f S) = rcO A f' (rcF J H G r 401 (S, l)) ∧ cY (yG (rcF J H G r 401 (S, l)).2.1) (rcF J H G r 401 (S, l)).2.2 f' := by
  obtain ⟨-, q0, hz⟩ := cG_ro hg wg hr
  rw [B_O_reachStrip, nL_400]
  exact L_rc d wj hj w hh wg hg hr h16 400 none none none none none f S l (Nat.le_refl _) (by omega) hY hv
