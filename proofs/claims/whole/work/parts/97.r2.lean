/-! S LEVEL, PLAYING: a strip begins, the class; pure. -/
noncomputable def whI (T : zT) : Int32 := if findT T = 0 then 1 else 0
noncomputable def ns0 (S : yR) (q : Nat) (T : zT) : yR := uG (uG (uG S 4 (zn q)) 5 0) 6 (whI T)
noncomputable def ns1 (S : yR) (q : Nat) (T : zT) : yR := lgF (ns0 S q T) 0 (zn q) (zn (findT T))
noncomputable def siF (S : yR) (l : yL) : yR := uG (enL S (dnF l 0 l.length)) 7 0
noncomputable def nsF (X : yR × yL) (q : Nat) (T : zT) : yR × yL := if findT T = 0 then (ns1 X.1 q T, X.2) else (siF (ns1 X.1 q T) X.2, [])
noncomputable def eaF (J : zJ) (H : zH) (T : zT) : Nat → Nat → yR × yL → yR × yL
  | 0, _, X => X
  | r + 1, k, X => eaF J H T r (k + 1) (elF J H (tK T) (tE T k) X.1 X.2)
noncomputable def ntF (J : zJ) (H : zH) (X : yR × yL) (q : Nat) (T : zT) : yR × yL := if tU T = 0 ∧ findT T = 0 then eaF J H T (tS T) 0 (nsF X q T) else nsF X q T
noncomputable def nxP (S : yR) : Nat := pif (yG S 4 = -4) 0 ((yG S 4).toNatClampNeg + 1)
def atP (G : zG) (r : Nat) (S : yR) : Prop := ¬ yG S 4 = -4 ∧ (yG S 5).toInt < tU (gS G r (yG S 4).toNatClampNeg)
noncomputable def rcF (J : zJ) (H : zH) (G : zG) (r : Nat) : Nat → yR × yL → Bool × yR × yL
  | 0, X => (false, X)
  | f + 1, X => pif (atP G r X.1) (true, X) (if nxP X.1 < gZ G r then rcF J H G r f (ntF J H X (nxP X.1) (gS G r (nxP X.1))) else (false, siF X.1 X.2, []))
theorem ns0_G (S : yR) (q : Nat) (T : zT) {j : Nat} (h : j < 4 ∨ 7 ≤ j) : yG (ns0 S q T) j = yG S j := by
  unfold ns0
  rw [yG_uG, up_o (by omega), yG_uG, up_o (by omega), yG_uG, up_o (by omega)]
theorem ns1_G (S : yR) (q : Nat) (T : zT) {j : Nat} (h : j < 4 ∨ 7 ≤ j) (h2 : j ≠ 13) : yG (ns1 S q T) j = yG S j := by
  unfold ns1
  rw [lg_G, up_o h2, ns0_G S q T h]
theorem ns1_4 (S : yR) (q : Nat) (T : zT) : yG (ns1 S q T) 4 = zn q ∧ yG (ns1 S q T) 5 = 0 ∧ yG (ns1 S q T) 6 = whI T := by
  unfold ns1 ns0
  rw [lg_G, up_o (by omega), up_o (by omega), up_o (by omega), yG_uG, yG_uG, yG_uG]
  refine ⟨?_, ?_, up_s ..⟩
  · rw [up_o (by omega), up_o (by omega), up_s]
  · rw [up_o (by omega), up_s]
theorem si_G {n : Nat} {S : yR} {l : yL} (hl : okL n l) {j : Nat} (h : j ≠ 7) (h2 : j ≠ 13) (h3 : j < 143) : yG (siF S l) j = yG S j := by
  unfold siF
  rw [yG_uG, up_o h, en_G hl.1 _ _ (dn_ok hl 0 _ (by omega)) h2 h3]
theorem si_e {n : Nat} {S : yR} {l : yL} {b : Nat} (hl : okL n l) (he : evB S b) (hb : b + 320 < 2147483646) : evB (siF S l) (b + 320) := by
  have hl2 := hl.2.1
  have := evB_en (dnF l 0 l.length) he (by rw [dn_len]; omega)
  rw [dn_len] at this
  exact evB_mo (evB_cg this (by unfold siF; rw [yG_uG, up_o (by omega)])) (by omega)
theorem iv_si {n : Nat} {S : yR} {l : yL} (hi : iv n S l) : iv n (siF S l) [] := by
  have hl := hi.1
  obtain ⟨h1, h2, h3, go, h4, h5⟩ := hi
  refine ⟨⟨h1.1, Nat.zero_le _, fun s hs => by cases hs⟩, fun t ht => ⟨Nat.zero_le _, fun _ => rfl⟩, fun c c1 c2 => ?_, go, ?_, h5⟩
  · rw [si_G hl (by omega) (by omega) (by omega)]; exact h3 c c1 c2
  · rw [si_G hl (by omega) (by omega) (by omega)]; exact h4
theorem ns_inv {n : Nat} {S : yR} {l : yL} {b : Nat} (q : Nat) (T : zT) (hi : iv n S l) (he : evB S b) (hb : b + 2000 < 2147483646) : iv n (nsF (S, l) q T).1 (nsF (S, l) q T).2 ∧ evB (nsF (S, l) q T).1 (b + 321) ∧ yG (nsF (S, l) q T).1 4 = zn q ∧ yG (nsF (S, l) q T).1 5 = 0 ∧ yG (nsF (S, l) q T).1 6 = whI T ∧ yG (nsF (S, l) q T).1 12 = yG S 12 ∧ yG (nsF (S, l) q T).1 3 = yG S 3 := by
  have he1 : evB (ns1 S q T) (b + 1) := lg_e (evB_cg he (ns0_G S q T (by omega))) (by omega) _ _ _
  have hi1 : iv n (ns1 S q T) l := by
    obtain ⟨h1, h2, h3, go, h4, h5⟩ := hi
    refine ⟨h1, fun t ht => ?_, fun c c1 c2 => ?_, go, ?_, h5⟩
    · rw [ns1_G S q T (by omega) (by omega)]; exact h2 t ht
    · rw [ns1_G S q T (by omega) (by omega)]; exact h3 c c1 c2
    · rw [ns1_G S q T (by omega) (by omega)]; exact h4
  obtain ⟨k4, k5, k6⟩ := ns1_4 S q T
  unfold nsF
  split
  · exact ⟨hi1, evB_mo he1 (by omega), k4, k5, k6, ns1_G S q T (by omega) (by omega), ns1_G S q T (by omega) (by omega)⟩
  · have e : ∀ j, j ≠ 7 → j ≠ 13 → j < 143 → yG (siF (ns1 S q T) l) j = yG (ns1 S q T) j := fun j a c d => si_G hi.1 a c d
    refine ⟨iv_si hi1, evB_mo (si_e hi.1 he1 (by omega)) (by omega), ?_, ?_, ?_, ?_, ?_⟩
    · exact (e 4 (by omega) (by omega) (by omega)).trans k4
    · exact (e 5 (by omega) (by omega) (by omega)).trans k5
    · exact (e 6 (by omega) (by omega) (by omega)).trans k6
    · exact (e 12 (by omega) (by omega) (by omega)).trans (ns1_G S q T (by omega) (by omega))
    · exact (e 3 (by omega) (by omega) (by omega)).trans (ns1_G S q T (by omega) (by omega))
theorem el_12 {J : zJ} {H : zH} {S : yR} {l : yL} {k b : Nat} {e : Int32} (wj : wJ J) (w : wH (jN J) H) (hi : iv (jN J) S l) (he : evB S b) (hb : b + 5000 < 2147483646) (h : 0 ≤ (yG S 12).toInt) : 0 ≤ (yG (elF J H k e S l).1 12).toInt := by
  unfold elF
  split
  · obtain ⟨a1, a2, a3⟩ := hl_inv e wj w 8 0 S l b rfl hi he (by omega)
    rw [a3 12 (by omega) (by omega) (by omega)]; exact h
  split
  · rw [lv_G e 8 0 S (by omega)]; exact h
  split
  · rw [st_G S e (by omega)]; exact h
  · show 0 ≤ (yG (tpF S (e &&& 65535) (h16F e)) 12).toInt
    unfold tpF
    by_cases g : (e &&& 65535) = 0
    · rw [pif_T g]; exact h
    have e1 : ∀ y, yG (tp1 S (e &&& 65535) y) 12 = 0 := fun y => by
      unfold tp1
      rw [yG_uG, up_o (by omega), yG_uG, up_o (by omega), yG_uG, up_s]
    rw [pif_F g]
    by_cases g2 : h16F e = 0
    · rw [pif_T g2, yG_uG, up_o (by omega), e1, toI_0]; omega
    · rw [pif_F g2, e1, toI_0]; omega
theorem ea_inv {J : zJ} {H : zH} (T : zT) (wj : wJ J) (w : wH (jN J) H) : ∀ (r k : Nat) (S : yR) (l : yL) (b : Nat), iv (jN J) S l → evB S b → b + 2560 * r + 5000 < 2147483646 → 0 ≤ (yG S 12).toInt → iv (jN J) (eaF J H T r k (S, l)).1 (eaF J H T r k (S, l)).2 ∧ evB (eaF J H T r k (S, l)).1 (b + 2560 * r) ∧ (∀ j, 1 ≤ j → j < 7 → yG (eaF J H T r k (S, l)).1 j = yG S j) ∧ 0 ≤ (yG (eaF J H T r k (S, l)).1 12).toInt
  | 0, k, S, l, b, hi, he, hb, h12 => ⟨hi, he, fun _ _ _ => rfl, h12⟩
  | r + 1, k, S, l, b, hi, he, hb, h12 => by
    obtain ⟨a1, a2, a3⟩ := el_inv (k := tK T) (e := tE T k) wj w hi he (by omega)
    obtain ⟨b1, b2, b3, b4⟩ := ea_inv T wj w r (k + 1) _ _ (b + 2560) a1 a2 (by omega) (el_12 wj w hi he (by omega) h12)
    exact ⟨b1, evB_mo b2 (by omega), fun j h1 h2 => (b3 j h1 h2).trans (a3 j h1 h2), b4⟩
theorem nt_inv {J : zJ} {H : zH} {S : yR} {l : yL} {b : Nat} (q : Nat) (T : zT) (wj : wJ J) (w : wH (jN J) H) (wt : wT T) (hi : iv (jN J) S l) (he : evB S b) (hb : b + 700000 < 2147483646) (h12 : 0 ≤ (yG S 12).toInt) : iv (jN J) (ntF J H (S, l) q T).1 (ntF J H (S, l) q T).2 ∧ evB (ntF J H (S, l) q T).1 (b + 655681) ∧ yG (ntF J H (S, l) q T).1 4 = zn q ∧ yG (ntF J H (S, l) q T).1 5 = 0 ∧ yG (ntF J H (S, l) q T).1 6 = whI T ∧ 0 ≤ (yG (ntF J H (S, l) q T).1 12).toInt ∧ yG (ntF J H (S, l) q T).1 3 = yG S 3 := by
  have hS := wt.2.2.2.2.1
  obtain ⟨a1, a2, a3, a4, a5, a6, a7⟩ := ns_inv q T hi he (by omega)
  unfold ntF
  split
  · obtain ⟨b1, b2, b3, b4⟩ := ea_inv T wj w (tS T) 0 _ _ (b + 321) a1 a2 (by omega) (by rw [a6]; exact h12)
    exact ⟨b1, evB_mo b2 (by omega), (b3 4 (by omega) (by omega)).trans a3, (b3 5 (by omega) (by omega)).trans a4, (b3 6 (by omega) (by omega)).trans a5, b4, (b3 3 (by omega) (by omega)).trans a7⟩
  · exact ⟨a1, evB_mo a2 (by omega), a3, a4, a5, by rw [a6]; exact h12, a7⟩
/-- what always holds while a roll of cnt strips is played -/
def pv (n cnt : Nat) (S : yR) (l : yL) : Prop := iv n S l ∧ 0 ≤ (yG S 12).toInt ∧ (yG S 6 = 0 ∨ yG S 6 = 1) ∧ ((yG S 4 = -4 ∧ evB S 0) ∨ ∃ p o, yG S 4 = zn p ∧ yG S 5 = zn o ∧ p < cnt ∧ o ≤ 256 ∧ evB S (p * 1400000 + 660000 + 2560 * o))
theorem whI_01 (T : zT) : whI T = 0 ∨ whI T = 1 := by
  unfold whI
  split
  · exact Or.inr rfl
  · exact Or.inl rfl
theorem n4 {p : Nat} (h : p < 2147483648) : ¬ zn p = -4 := fun q => by
  have := congrArg Int32.toInt q
  rw [zn_toInt h, show (-4 : Int32).toInt = -4 from rfl] at this
  omega
theorem nx_N {S : yR} (h : yG S 4 = -4) : nxP S = 0 := pif_T h
theorem nx_p {S : yR} {p : Nat} (h : yG S 4 = zn p) (hp : p < 1000) : nxP S = p + 1 := by
  unfold nxP
  rw [h, pif_F (n4 (by omega)), zn_N (by omega)]
theorem pv_nt {J : zJ} {H : zH} {G : zG} {r : Nat} {S : yR} {l : yL} (wj : wJ J) (w : wH (jN J) H) (hcnt : gZ G r ≤ 400) (wt : wT (gS G r (nxP S))) (hv : pv (jN J) (gZ G r) S l) (hq : nxP S < gZ G r) : pv (jN J) (gZ G r) (ntF J H (S, l) (nxP S) (gS G r (nxP S))).1 (ntF J H (S, l) (nxP S) (gS G r (nxP S))).2 := by
  obtain ⟨h1, h2, h3, h4⟩ := hv
  have hb : evB S (nxP S * 1400000) ∨ evB S 0 := by
    rcases h4 with h | ⟨p, o, e4, e5, hp, ho, he⟩
    · exact Or.inr h.2
    · refine Or.inl (evB_mo he ?_)
      rw [nx_p e4 (by omega)]; omega
  have hb2 : evB S (nxP S * 1400000) := hb.elim id (fun h => evB_mo h (by omega))
  obtain ⟨a1, a2, a3, a4, a5, a6, a7⟩ := nt_inv (nxP S) (gS G r (nxP S)) wj w wt h1 hb2 (by omega) h2
  refine ⟨a1, a6, ?_, Or.inr ⟨nxP S, 0, a3, by rw [a4, nL_0], hq, Nat.zero_le _, ?_⟩⟩
  · rw [a5]; exact whI_01 _
  · rcases hb with h | h
    · have : nxP S * 1400000 + 655681 ≤ nxP S * 1400000 + 660000 + 2560 * 0 := by omega
      exact evB_mo a2 this
    · exact evB_mo a2 (by omega)
