/-! S LEVEL: acts on instruments, in one memory. -/
def setT (P : yP) (t : Nat → Int32) : yP := ((yG (yqS P), yE (yqS P), t), yqL P, yqH P, yqO P, yqK P, yqU P)
theorem xcI_no {A : zM} {a k : Nat} (h : xcI A a k) : (a = 1 ∧ k = 7) ∨ a = 10 ∨ (a = 3 ∧ (k = 10 ∨ k = 12)) ∨ a = 4 ∨ 56 ≤ a := by
  rcases h with h | h | h | h | ⟨g, hg, ht⟩
  · exact Or.inl h
  · exact Or.inr (Or.inl h)
  · exact Or.inr (Or.inr (Or.inl h))
  · exact Or.inr (Or.inr (Or.inr (Or.inl h)))
  · exact Or.inr (Or.inr (Or.inr (Or.inr (tg_56 hg ht))))
theorem xcI_14 {A : zM} {a k n : Nat} (ha : 57 ≤ a) (hd : z_hd zQ A a = some (14, n)) : ¬ xcI A a k := by
  intro h
  rcases h with h | h | h | h | ⟨g, hg, ht⟩
  · omega
  · omega
  · omega
  · omega
  · rw [← Option.some.inj (hd.symm.trans hg)] at ht
    exact tgI_no14 ht
theorem xcI_S {A : zM} {a k t n : Nat} (hd : z_hd zQ A a = some (t, n)) (ht : t = 8 ∨ t = 9 ∨ t = 12 ∨ t = 18) : ¬ xcI A a k := by
  have h56 := hd_lt56 hd ht
  intro h
  rcases h with h | h | h | h | ⟨g, hg, ht'⟩
  · omega
  · omega
  · omega
  · omega
  · have e := Option.some.inj (hd.symm.trans hg)
    rw [← e] at ht'
    rcases ht' with q | q | q | q | q
    · have q : t ≤ 3 := q; omega
    · have q : t = 5 := q; omega
    · have q : t = 6 := q; omega
    · have q : t = 7 := q; omega
    · have q : t = 16 := congrArg Prod.fst q; omega
theorem SC_I {c s : Nat} {W : zW} {al : Nat → Nat} {A A' : zM} {J' : zJ} {st : Int32} (h : SC W al A) (hJ : cJ J' A') (h7 : zI A' 1 7 = st) (f : zFr c s (xcI A) A A') : SC (wwG W, wwF W, J', wwH W, setT (wwP W) (fun k => zI A' 10 k), wwB W, wwR W, st) al A' := by
  obtain ⟨k1, k2, k3, k4, k5, k6, k7, k8⟩ := h
  have hn := z_new_ge A
  have q : ∀ a k, (a = 3 ∧ k ≠ 10 ∧ k ≠ 12) ∨ (11 ≤ a ∧ a ≤ 14) → zI A' a k = zI A a k := fun a k e => zFr_I f _ (by omega) (fun x => by have := xcI_no x; omega)
  refine ⟨cG_fr f k1 ⟨fun x => by have := xcI_no x; omega, fun x => by have := xcI_no x; omega, fun x => by have := xcI_no x; omega⟩ (fun k x => by have := xcI_no x; omega) (fun a k t n hd ht => xcI_S hd ht), cF_fr f k2 (fun x => by have := xcI_no x; omega) (fun k x => by have := xcI_no x; omega), hJ, cH_fr f k4 (fun x => by have := xcI_no x; omega) (fun a k _ _ x => by have := xcI_no x; omega), ⟨⟨cY_cg k5.1.1 (fun j _ => q 11 j (by omega)), fun k => ?_, fun k => rfl⟩, cKp_fr f k5.2.1 (fun k x => by have := xcI_no x; omega), ?_⟩, by rw [q _ _ (by omega)]; exact k6, h7, fun hb => ?_⟩
  · rw [q _ _ (by omega)]; exact k5.1.2.1 k
  · rw [q _ _ (by omega)]; exact k5.2.2
  obtain ⟨j1, j2⟩ := k8 hb
  refine ⟨⟨cHi_fr f k5.2.1 j1.1 (fun k x => by have := xcI_no x; omega) (fun a k e hd => xcI_14 e hd), ?_⟩, ?_⟩
  · rw [q _ _ (by omega)]; exact j1.2
  show zP zQ A' 3 16 = zP zQ A' 2 (wwR W)
  rw [zFr_P f _ (by omega) (fun x => by have := xcI_no x; omega), zFr_P f _ (by omega) (fun x => by have := xcI_no x; omega)]; exact j2
theorem rY_T {S : yR} {l : yL} {t : Nat → Int32} {B B' : zM} (h : rY S l B) (e : ∀ a k, (a = 15 ∧ ((41 ≤ k ∧ k ≤ 52) ∨ k = 58)) ∨ a = 30 ∨ (43 ≤ a ∧ a ≤ 51) → zI B' a k = zI B a k) (ht : ∀ j, j < 17 → zI B' 39 j = t j) : rY (yG S, yE S, t) l B' := by
  obtain ⟨⟨k1, k2, k3, k4, k5⟩, ⟨l1, l2⟩, ⟨a1, a2, a3, a4, a5, a6⟩, b, c, le, d1, d2, d3⟩ := h
  refine ⟨⟨?_, ?_, fun i hi => ?_, fun j hj => ?_, fun j hj => ht j hj⟩, ⟨?_, fun k hk => ?_⟩, ⟨?_, ?_, ?_, ?_, ?_, ?_⟩, fun t ht => ?_, fun t ht => ?_, fun t ht => ?_, ?_, ?_, fun hh => ?_⟩
  · rw [e _ _ (by omega)]; exact k1
  · rw [e _ _ (by omega)]; exact k2
  · rw [e _ _ (by omega), e _ _ (by omega), e _ _ (by omega)]; exact k3 i hi
  · rw [e _ _ (by omega)]; exact k4 j hj
  · rw [e _ _ (by omega)]; exact l1
  · rw [e _ _ (by omega), e _ _ (by omega), e _ _ (by omega)]; exact l2 k hk
  · rw [e _ _ (by omega)]; exact a1
  · rw [e _ _ (by omega)]; exact a2
  · rw [e _ _ (by omega)]; exact a3
  · rw [e _ _ (by omega)]; exact a4
  · rw [e _ _ (by omega)]; exact a5
  · rw [e _ _ (by omega)]; exact a6
  · rw [e _ _ (by omega)]; exact b t ht
  · rw [e _ _ (by omega)]; exact c t ht
  · rw [e _ _ (by omega)]; exact le t ht
  · rw [e _ _ (by omega)]; exact d1
  · rw [e _ _ (by omega)]; exact d2
  · rw [e _ _ (by omega), e _ _ (by omega)]; exact d3 hh
theorem SR_I {W : zW} {B B' : zM} {J' : zJ} {st : Int32} {t : Nat → Int32} (hw : SW W) (h : SR W B) (hJ : rJ J' B') (h0 : zI B' 15 0 = st) (ht : ∀ j, j < 17 → zI B' 39 j = t j) (f : zFr 0 0 xrI B B') : SR (wwG W, wwF W, J', wwH W, setT (wwP W) t, wwB W, wwR W, st) B' := by
  obtain ⟨k1, k2, k3, k4, k5, k6, k7, k8⟩ := h
  have hn := z_new_ge B
  have q : ∀ a k, (a = 15 ∧ k ≠ 0 ∧ k ≠ 14 ∧ k ≠ 22 ∧ k ≠ 35) ∨ (16 ≤ a ∧ a ≤ 25) ∨ a = 30 ∨ (33 ≤ a ∧ a ≤ 38) ∨ (43 ≤ a ∧ a ≤ 55) → zI B' a k = zI B a k := fun a k e => zFr_I f _ (by omega) (fun x => by unfold xrI at x; omega)
  refine ⟨rG_fr f k1 ⟨fun x => by unfold xrI at x; omega, fun x => by unfold xrI at x; omega, fun x => by unfold xrI at x; omega⟩ (fun a k _ _ x => by unfold xrI at x; omega), rF_fr f k2 (fun x => by unfold xrI at x; omega) (fun k => ⟨fun x => by unfold xrI at x; omega, fun x => by unfold xrI at x; omega⟩), hJ, rH_fr f k4 (fun x => by unfold xrI at x; omega) (fun x => by unfold xrI at x; omega) (fun a k _ _ x => by unfold xrI at x; omega), ⟨rY_T k5.1 (fun a k e => q a k (by omega)) ht, ?_⟩, by rw [q _ _ (by omega)]; exact k6, h0, fun hb => ?_⟩
  · rw [q _ _ (by omega)]; exact k5.2
  obtain ⟨j1, j2⟩ := k8 hb
  have := rQ1_cg (B' := B') (hw.2.2.2.2.1 hb).2 j1 (fun a k e => q a k (by omega))
  exact ⟨this, by rw [q _ _ (by omega)]; exact j2⟩
theorem iv_mo {n m : Nat} {S : yR} {l : yL} (h : iv n S l) (hn : n ≤ m) (hm : m ≤ 60) : iv m S l :=
  ⟨⟨hm, h.1.2.1, fun s hs => ⟨by have := (h.1.2.2 s hs).1; omega, (h.1.2.2 s hs).2⟩⟩, h.2⟩
def jOk (pl : Bool) (J J' : zJ) : Prop := wJ J' ∧ jN J ≤ jN J' ∧ (pl = true → J' = J)
theorem jOk_r {pl : Bool} {J : zJ} (w : wJ J) : jOk pl J J := ⟨w, Nat.le_refl _, fun _ => rfl⟩
theorem SW_I {W : zW} {J' : zJ} {t : Nat → Int32} {st : Int32} (hw : SW W) (hj : jOk (wwB W) (wwJ W) J') : SW (wwG W, wwF W, J', wwH W, setT (wwP W) t, wwB W, wwR W, st) := by
  obtain ⟨k1, k2, k3, k4, k5, k6, k7⟩ := hw
  obtain ⟨j1, j2, j3⟩ := hj
  refine ⟨k1, k2, j1, wH_mo k4 j2, fun hb => ?_, fun hb => ?_, k7⟩
  · have e : J' = wwJ W := j3 hb
    obtain ⟨q1, q2⟩ := k5 hb
    refine ⟨q1, ?_⟩
    show wQ (jN J') _ _
    rw [e]
    exact ⟨pv_g q2.1 rfl, q2.2⟩
  · obtain ⟨q1, q2, q3⟩ := k6 hb
    exact ⟨q1, iv_mo (iv_cg q2 (fun _ _ => rfl)) j2 j1.1, q3⟩
theorem zbs_eq : ∀ (l : List Nat) (A B : zM), (∀ j, j < 17 → zI A 10 j = zI B 39 j) → ∀ j, j < 17 → zI (zbs 10 l A) 10 j = zI (zbs 39 l B) 39 j
  | [], A, B, h, j, hj => h j hj
  | k :: l, A, B, h, j, hj => by
    show zI (zbs 10 l (zbp 10 k A)) 10 j = zI (zbs 39 l (zbp 39 k B)) 39 j
    refine zbs_eq l _ _ (fun i hi => ?_) j hj
    unfold zbp
    by_cases e : i = k
    · subst e; rw [zI_wI_s, zI_wI_s, h i hi]
    · rw [zI_wI_k e, zI_wI_k e]; exact h i hi
theorem sim_I {T : Value → Prop} {W : zW} {al : Nat → Nat} {M : zM} {res : Value × Int32 × zJ × List Nat} {c s : Nat} {cA : zR} {rA : zM → zR} (hC : SC W al M) (hR : SR W M) (hw : SW W) (h1 : cResI c s M res cA) (h2 : ∀ B, SR W B → rResI B res (rA B)) (hj : jOk (wwB W) (wwJ W) res.2.2.1) (hc : c ≤ 8) (hs : s ≤ 8264) (hT : T res.1) : Step T W M cA rA := by
  obtain ⟨M1, e1, e2, e3, e4, e5⟩ := h1
  have F1 : zFr c s xCl M M1 := zFr_mono e5 (Nat.le_refl _) (Nat.le_refl _) (fun a k x => by
    have h56 := hC.1.2.2.2.2.2.2.2.2
    have : a ≠ 56 := fun e => by
      rw [e] at x
      obtain ⟨L, hL⟩ := h56
      rcases x with h | h | h | h | ⟨g, hg, ht⟩
      · omega
      · omega
      · omega
      · omega
      · rw [← Option.some.inj (hL.symm.trans hg)] at ht
        rcases ht with h | h | h | h | h
        · exact absurd h (by show ¬ 20 ≤ 3; omega)
        · exact absurd h (by show ¬ 20 = 5; omega)
        · exact absurd h (by show ¬ 20 = 6; omega)
        · exact absurd h (by show ¬ 20 = 7; omega)
        · exact absurd (congrArg Prod.fst h) (by show ¬ 20 = 16; omega)
    have := xcI_no x; unfold xCl; omega)
  have hR1 := SR_C hw F1 hR
  obtain ⟨M2, g1, g2, g3, g4, g5⟩ := h2 M1 hR1
  have ht : ∀ j, j < 17 → zI M2 39 j = zI M1 10 j := fun j hj => by
    rw [g4 j hj, e4 j hj]
    refine (zbs_eq _ M M1 (fun i hi => ?_) j hj).symm
    rw [hC.2.2.2.2.1.1.2.2 i]
    exact (hR1.2.2.2.2.1.1.1.2.2.2.2 i hi).symm
  have hw' := SW_I (t := fun k => zI M1 10 k) (st := res.2.1) hw hj
  refine Step_of (al := al) (sc_lt hC) hT e1 g1 (SC_I hC e2 e3 e5) F1 (SR_I hw hR1 g2 g3 ht g5) (zFr_mono g5 (Nat.le_refl _) (Nat.le_refl _) (fun a k x => by unfold xrI at x; unfold xRf; omega)) hw' ?_ ?_
  · show c + 3 * gN (wwG W) + yqK (wwP W) ≤ 8 + 3 * gN (wwG W) + yqK (wwP W)
    omega
  · show s + 2100 * gN (wwG W) + 523 * yqK (wwP W) ≤ 8264 + 2100 * gN (wwG W) + 523 * yqK (wwP W)
    omega
theorem j_oFreq {pl : Bool} {J : zJ} (w : wJ J) (x : Int32) : jOk pl J (oFreq J x).2.2.1 := by
  unfold oFreq
  refine pif_i (fun r : Value × Int32 × zJ × List Nat => jOk pl J r.2.2.1) (fun _ => ?_) (fun _ => jOk_r w)
  split <;> exact jOk_r w
theorem j_oMute {pl : Bool} {J : zJ} (w : wJ J) (x : Int32) : jOk pl J (oMute J x).2.2.1 := by
  unfold oMute
  refine pif_i (fun r : Value × Int32 × zJ × List Nat => jOk pl J r.2.2.1) (fun _ => ?_) (fun _ => jOk_r w)
  split <;> exact jOk_r w
theorem j_oHigh {pl : Bool} {J : zJ} (w : wJ J) (x y : Int32) : jOk pl J (oHigh J x y).2.2.1 := by
  unfold oHigh
  refine pif_i (fun r : Value × Int32 × zJ × List Nat => jOk pl J r.2.2.1) (fun _ => ?_) (fun _ => jOk_r w)
  split <;> exact jOk_r w
theorem j_oMem {pl : Bool} {J : zJ} (w : wJ J) (x : Int32) : jOk pl J (oMem J x).2.2.1 := by
  unfold oMem
  refine pif_i (fun r : Value × Int32 × zJ × List Nat => jOk pl J r.2.2.1) (fun _ => ?_) (fun _ => jOk_r w)
  split <;> exact jOk_r w
theorem j_oTr {pl : Bool} {J : zJ} (w : wJ J) (t : Nat → Int32) (x : Int32) : jOk pl J (oTr J t x).2.2.1 := by
  unfold oTr
  exact pif_i (fun r : Value × Int32 × zJ × List Nat => jOk pl J r.2.2.1) (fun _ => jOk_r w) (fun _ => jOk_r w)
theorem j_oBase {pl : Bool} {J : zJ} (w : wJ J) (x : Int32) : jOk pl J (oBase pl J x).2.2.1 := by
  unfold oBase
  refine pif_i (fun r : Value × Int32 × zJ × List Nat => jOk pl J r.2.2.1) (fun g => ?_) (fun _ => jOk_r w)
  split
  · exact jOk_r w
  · next hp =>
    obtain ⟨n, hn, rfl⟩ := zn_ex (show 0 ≤ x.toInt by omega)
    rw [zn_toInt hn] at g
    rw [zn_N hn]
    exact ⟨w_upE w (by omega) (by omega), Nat.le_refl _, fun q => absurd q hp⟩
theorem j_oTune {pl : Bool} {J : zJ} (w : wJ J) (x p q : Int32) : jOk pl J (oTune pl J x p q).2.2.1 := by
  unfold oTune
  refine pif_i (fun r : Value × Int32 × zJ × List Nat => jOk pl J r.2.2.1) (fun g => ?_) (fun _ => jOk_r w)
  split
  · exact jOk_r w
  · next hp =>
    split
    · exact jOk_r w
    · obtain ⟨-, g1, g2, -⟩ := g
      obtain ⟨p', hp', rfl⟩ := zn_ex g1.1
      obtain ⟨q', hq', rfl⟩ := zn_ex g2.1
      rw [zn_toInt hp'] at g1
      rw [zn_toInt hq'] at g2
      rw [zn_N hp', zn_N hq']
      exact ⟨w_upR w (by omega) (by omega), Nat.le_refl _, fun q => absurd q hp⟩
theorem j_oIns {pl : Bool} {J : zJ} (w : wJ J) (x : Int32) : jOk pl J (oIns pl J x).2.2.1 := by
  unfold oIns
  refine pif_i (fun r : Value × Int32 × zJ × List Nat => jOk pl J r.2.2.1) (fun g => ?_) (fun _ => jOk_r w)
  split
  · exact jOk_r w
  · next hp =>
    split
    · next h60 =>
      obtain ⟨n, hn, rfl⟩ := zn_ex g.1
      rw [zn_toInt hn] at g
      rw [zn_N hn]
      exact ⟨w_ad w (by omega) h60, Nat.le_succ _, fun q => absurd q hp⟩
    · exact jOk_r w
theorem iOk_n {J : zJ} (w : wJ J) {x : Int32} (h : iOk J x) : x.toNatClampNeg < jN J := by
  obtain ⟨n, hn, rfl⟩ := zn_ex h.1
  have := h.2
  rw [zn_toInt hn] at this
  rw [zn_N hn]; omega
theorem j_oCpl {pl : Bool} {J : zJ} (w : wJ J) (x y : Int32) : jOk pl J (oCpl pl J x y).2.2.1 := by
  unfold oCpl
  refine pif_i (fun r : Value × Int32 × zJ × List Nat => jOk pl J r.2.2.1) (fun g => ?_) (fun _ => jOk_r w)
  split
  · exact jOk_r w
  · next hp =>
    split
    · next h6 =>
      refine pif_i (fun r : Value × Int32 × zJ × List Nat => jOk pl J r.2.2.1) (fun g2 => ?_) (fun _ => jOk_r w)
      exact ⟨w_cp w (iOk_n w g.1) (iOk_n w g.2.1) h6 g2.1 g.2.2 g2.2, Nat.le_refl _, fun q => absurd q hp⟩
    · exact jOk_r w
theorem v_oFreq (J : zJ) (x : Int32) : tvJ (oFreq J x).1 := by
  unfold oFreq
  refine pif_i (fun r : Value × Int32 × zJ × List Nat => tvJ r.1) (fun _ => ?_) (fun _ => ⟨_, rfl⟩)
  split <;> exact ⟨_, rfl⟩
theorem v_oMute (J : zJ) (x : Int32) : tvI (oMute J x).1 := by
  unfold oMute
  refine pif_i (fun r : Value × Int32 × zJ × List Nat => tvI r.1) (fun _ => ?_) (fun _ => ⟨_, rfl⟩)
  split <;> exact ⟨_, rfl⟩
theorem v_oHigh (J : zJ) (x y : Int32) : tvI (oHigh J x y).1 := by
  unfold oHigh
  refine pif_i (fun r : Value × Int32 × zJ × List Nat => tvI r.1) (fun _ => ?_) (fun _ => ⟨_, rfl⟩)
  split <;> exact ⟨_, rfl⟩
theorem v_oMem (J : zJ) (x : Int32) : tvI (oMem J x).1 := by
  unfold oMem
  refine pif_i (fun r : Value × Int32 × zJ × List Nat => tvI r.1) (fun _ => ?_) (fun _ => ⟨_, rfl⟩)
  split <;> exact ⟨_, rfl⟩
theorem v_oTr (J : zJ) (t : Nat → Int32) (x : Int32) : tvI (oTr J t x).1 := by
  unfold oTr
  exact pif_i (fun r : Value × Int32 × zJ × List Nat => tvI r.1) (fun _ => ⟨_, rfl⟩) (fun _ => ⟨_, rfl⟩)
theorem v_oBase (pl : Bool) (J : zJ) (x : Int32) : tvI (oBase pl J x).1 := by
  unfold oBase
  refine pif_i (fun r : Value × Int32 × zJ × List Nat => tvI r.1) (fun _ => ?_) (fun _ => ⟨_, rfl⟩)
  split <;> exact ⟨_, rfl⟩
theorem v_oTune (pl : Bool) (J : zJ) (x p q : Int32) : tvI (oTune pl J x p q).1 := by
  unfold oTune
  refine pif_i (fun r : Value × Int32 × zJ × List Nat => tvI r.1) (fun _ => ?_) (fun _ => ⟨_, rfl⟩)
  split
  · exact ⟨_, rfl⟩
  · split <;> exact ⟨_, rfl⟩
theorem v_oIns (pl : Bool) (J : zJ) (x : Int32) : tvI (oIns pl J x).1 := by
  unfold oIns
  refine pif_i (fun r : Value × Int32 × zJ × List Nat => tvI r.1) (fun _ => ?_) (fun _ => ⟨_, rfl⟩)
  split
  · exact ⟨_, rfl⟩
  · split <;> exact ⟨_, rfl⟩
theorem v_oCpl (pl : Bool) (J : zJ) (x y : Int32) : tvI (oCpl pl J x y).1 := by
  unfold oCpl
  refine pif_i (fun r : Value × Int32 × zJ × List Nat => tvI r.1) (fun _ => ?_) (fun _ => ⟨_, rfl⟩)
  split
  · exact ⟨_, rfl⟩
  · split
    · exact pif_i (fun r : Value × Int32 × zJ × List Nat => tvI r.1) (fun _ => ⟨_, rfl⟩) (fun _ => ⟨_, rfl⟩)
    · exact ⟨_, rfl⟩
