/-! S LEVEL, PLAYING: a strip begins, a strip with a tick to come, the reference. -/
theorem bt_0 {t : Nat} (h : t < 32) : btF 0 t = false := by rw [nL_0, bt_zn h, Nat.zero_testBit]
theorem xel_en {a k : Nat} (h : xen a k) : xel a k := Or.inl (Or.inl (xop_en h))
theorem xel_tl {a k : Nat} (h : xtl a k) : xel a k := Or.inl (xho_tl h)
theorem xel_ea {a k : Nat} (h : xea a k) : xel a k := h.elim xel_en (fun e => Or.inl (Or.inr e))
theorem xel_no {a k : Nat} (h : xel a k) : (a = 15 ∧ ((41 ≤ k ∧ k ≤ 47) ∨ (49 ≤ k ∧ k ≤ 52) ∨ k = 58)) ∨ a = 30 ∨ (39 ≤ a ∧ a ≤ 41) ∨ (43 ≤ a ∧ a ≤ 51) := by
  rcases h with ((h | h | h | h) | h) | (h | h) <;> omega
theorem rG_el {G : zG} {B B' : zM} (f : zFr 0 0 xel B B') (h : rG G B) : rG G B' := rG_fr f h ⟨fun e => by have := xel_no e; omega, fun e => by have := xel_no e; omega, fun e => by have := xel_no e; omega⟩ (fun a k _ _ e => by have := xel_no e; omega)
theorem rJ3_el {J : zJ} {B B' : zM} (f : zFr 0 0 xel B B') (h : rJ3 J B) : rJ3 J B' := rJ3_fr f h (fun a k _ _ e => by have := xel_no e; omega)
theorem rH_el {H : zH} {B B' : zM} (f : zFr 0 0 xel B B') (h : rH H B) : rH H B' := rH_fr f h (fun e => by have := xel_no e; omega) (fun e => by have := xel_no e; omega) (fun a k _ _ e => by have := xel_no e; omega)
theorem r_sil (d : Nat) {n : Nat} {B : zM} {S : yR} {l : yL} {b : Nat} (hl : okL n l) (hY : rY S l B) (he : evB S b) (hb : b + 320 < 2147483646) : ∃ B', z_den zQ (d + 3) mQ_endAll [.ref 15] B = some (none, B') ∧ rY (siF S l) [] B' ∧ zFr 0 0 xea B B' := by
  obtain ⟨B', q1, q2, q3, q4, q5⟩ := r_eAll d hl hY.1 hY.2.1 he hb
  obtain ⟨⟨a1, a2, a3, a4, a5, a6⟩, b, c, le, d1, d2, d3⟩ := hY.2.2
  have hn := z_new_ge B
  have x : ∀ k, (41 ≤ k ∧ k ≤ 47) ∨ (49 ≤ k ∧ k ≤ 51) → zI B' 15 k = zI B 15 k := fun k hk => zFr_I q5 _ (by omega) (fun e => by rcases e with (e | e | e | e | e) | e <;> omega)
  have x2 : ∀ a k, 44 ≤ a → a ≤ 45 → zI B' a k = zI B a k := fun a k h1 h2 => zFr_I q5 _ (by omega) (fun e => by rcases e with (e | e | e | e | e) | e <;> omega)
  have g : ∀ j, j ≠ 7 → j ≠ 13 → j < 143 → yG (siF S l) j = yG S j := fun j h1 h2 h3 => si_G hl h1 h2 h3
  have g7 : yG (siF S l) 7 = 0 := by unfold siF; rw [yG_uG, up_s]
  have gg : ∀ j, j ≠ 7 → yG (siF S l) j = yG (enL S (dnF l 0 l.length)) j := fun j h => by unfold siF; rw [yG_uG, up_o h]
  refine ⟨B', q1, ⟨?_, q3, ⟨?_, fun t ht => ?_, fun t ht => ?_, fun t ht => ?_, ?_, ?_, fun hh => ?_⟩⟩, q5⟩
  · obtain ⟨k1, k2, k3, k4, k5⟩ := q2
    exact ⟨by rw [gg _ (by omega)]; exact k1, by rw [gg _ (by omega)]; exact k2, fun i hi => by rw [gg _ (by omega), gg _ (by omega), gg _ (by omega)]; exact k3 i hi, k4, k5⟩
  · rw [x _ (by omega), x _ (by omega), x _ (by omega), x _ (by omega), x _ (by omega), x _ (by omega), g _ (by omega) (by omega) (by omega), g _ (by omega) (by omega) (by omega), g _ (by omega) (by omega) (by omega), g _ (by omega) (by omega) (by omega), g _ (by omega) (by omega) (by omega), g _ (by omega) (by omega) (by omega)]
    exact ⟨a1, a2, a3, a4, a5, a6⟩
  · rw [g7, bt_0 (by omega), bI_F, q4 t ht, nL_0]
  · rw [x2 _ _ (by omega) (by omega), g _ (by omega) (by omega) (by omega)]; exact c t ht
  · rw [x2 _ _ (by omega) (by omega), g _ (by omega) (by omega) (by omega)]; exact le t ht
  · rw [x _ (by omega), g _ (by omega) (by omega) (by omega)]; exact d1
  · rw [x _ (by omega), g _ (by omega) (by omega) (by omega)]; exact d2
  · rw [g _ (by omega) (by omega) (by omega), g _ (by omega) (by omega) (by omega)] at hh
    rw [x _ (by omega), x _ (by omega), g _ (by omega) (by omega) (by omega), g _ (by omega) (by omega) (by omega)]; exact d3 hh
theorem L_ra (d : Nat) {J : zJ} {H : zH} {G : zG} {p : Nat} {l1 l3 : Int32} (wj : wJ J) (w : wH (jN J) H) (wg : wG G) (hp : p < gN G) (hU : tU (gT G p) = 0) : ∀ (n k : Nat) (B : zM) (S : yR) (l : yL) (b : Nat), k + n = tS (gT G p) → rG G B → rJ3 J B → rH H B → rY S l B → iv (jN J) S l → evB S b → b + 2560 * n + 5000 < 2147483646 → yG S 6 = 1 → ∃ B' k', z_denF zQ (d + 5 + 1) mQ_comes (143, [some (.ref 15), some (.int l1), some (.int (zn p)), some (.int l3), some (.int (zn k))], [], B) = z_denF zQ (d + 5 + 1) mQ_comes (0, [some (.ref 15), some (.int l1), some (.int (zn p)), some (.int l3), some (.int k')], [], B') ∧ rY (eaF J H (gT G p) n k (S, l)).1 (eaF J H (gT G p) n k (S, l)).2 B' ∧ zFr 0 0 xel B B'
  | 0, k, B, S, l, b, hk, hG, hj, hh, hY, hi, he, hb, h6 => by
    have wN := wg.2.1
    have wt := wg.2.2.2.2.1 p hp
    have hS := wt.2.2.2.2.1
    obtain ⟨r1, r2, r3, r4, r5, r6, r7, r8⟩ := hG.2.2.2.2.2.2.1 p hp
    refine ⟨B, zn k, ?_, hY, zFr_refl _ _⟩
    rw [L_Q_comes_143, z_ix_T (by omega) (by omega), cond_true, zn_N (by omega), r6, z_le_T (by omega) (by omega), cond_true]
  | n + 1, k, B, S, l, b, hk, hG, hj, hh, hY, hi, he, hb, h6 => by
    have wN := wg.2.1
    have wt := wg.2.2.2.2.1 p hp
    have hS := wt.2.2.2.2.1
    obtain ⟨r1, r2, r3, r4, r5, r6, r7, r8⟩ := hG.2.2.2.2.2.2.1 p hp
    have e51 : zI B 15 51 = 1 := by rw [hY.2.2.1.2.2.2.2.2]; exact h6
    obtain ⟨B1, q1, q2, q3⟩ := r_elem d (k := tK (gT G p)) (e := tE (gT G p) k) wj hj w hh wt.1 hY hi he (by omega)
    obtain ⟨i1, i2, i3⟩ := el_inv (k := tK (gT G p)) (e := tE (gT G p) k) wj w hi he (by omega)
    obtain ⟨B2, k', p1, p2, p3⟩ := L_ra d (l1 := l1) (l3 := l3) wj w wg hp hU n (k + 1) B1 _ _ (b + 2560) (by omega) (rG_el q3 hG) (rJ3_el q3 hj) (rH_el q3 hh) q2 i1 i2 (by omega) ((i3 6 (by omega) (by omega)).trans h6)
    refine ⟨B2, k', ?_, p2, x_tr q3 p3⟩
    rw [L_Q_comes_143, z_ix_T (by omega) (by omega), cond_true, zn_N (by omega), r6, z_le_F (by omega) (by omega), cond_false, e51, show z_eq (1 : Int32) 0 = false by rw [z_eq_eq]; rfl, cond_false, cond_true, r3, hU, ne_00, cond_false, cond_true, show (256 : Int32) = zn 256 from (zn_eq 256).symm, zn_mul, zn_add, z_ix_T (by omega) (by omega), cond_true, zn_N (by omega), r1, r8 k (by omega), q1, z_bV_some, zn_1]
    exact p1
theorem rq_nx (d : Nat) {J : zJ} {H : zH} {G : zG} {r : Nat} {B : zM} {S : yR} {l : yL} {q b : Nat} {xq : Int32} (hq : xq = zn q) (wj : wJ J) (hj : rJ3 J B) (w : wH (jN J) H) (hh : rH H B) (wg : wG G) (hG : rG G B) (hr : r < gR G) (hqz : q < gZ G r) (h37 : zI B 15 37 = zn r) (hY : rY S l B) (hi : iv (jN J) S l) (he : evB S b) (hb : b + 700000 < 2147483646) : ∃ B' o2 o3 o4, (z_bI (z_den zQ (d + 5) mQ_poolOf [.ref 15, .int (zI (z_wI (z_wI B 15 49 xq) 15 50 0) 15 37), .int (zI (z_wI (z_wI B 15 49 xq) 15 50 0) 15 49)] (z_wI (z_wI B 15 49 xq) 15 50 0)) (fun x10 M11 => z_bI (z_den zQ (d + 5) mQ_findingOf [.ref 15, .int x10] M11) (fun x12 M13 => bif z_ne x12 0 then (z_bV (z_den zQ (d + 5) mQ_tell [.ref 15, .int 0, .int (zI (z_wI M13 15 51 0) 15 49), .int x12] (z_wI M13 15 51 0)) (fun M14 => bif z_ne (zI M14 15 51) 0 then (z_denF zQ (d + 5 + 1) mQ_comes (143, [some (.ref 15), some (.int xq), some (.int x10), some (.int x12), some (.int 0)], [], M14)) else (z_bV (z_den zQ (d + 5) mQ_endAll [.ref 15] M14) (fun M15 => z_denF zQ (d + 5 + 1) mQ_comes (143, [some (.ref 15), some (.int xq), some (.int x10), some (.int x12), some (.int 0)], [], M15))))) else (z_bV (z_den zQ (d + 5) mQ_tell [.ref 15, .int 0, .int (zI (z_wI M13 15 51 1) 15 49), .int x12] (z_wI M13 15 51 1)) (fun M16 => bif z_ne (zI M16 15 51) 0 then (z_denF zQ (d + 5 + 1) mQ_comes (143, [some (.ref 15), some (.int xq), some (.int x10), some (.int x12), some (.int 0)], [], M16)) else (z_bV (z_den zQ (d + 5) mQ_endAll [.ref 15] M16) (fun M17 => z_denF zQ (d + 5 + 1) mQ_comes (143, [some (.ref 15), some (.int xq), some (.int x10), some (.int x12), some (.int 0)], [], M17)))))))) = z_denF zQ (d + 5 + 1) mQ_comes (0, [some (.ref 15), some (.int xq), o2, o3, o4], [], B') ∧ rY (ntF J H (S, l) q (gS G r q)).1 (ntF J H (S, l) q (gS G r q)).2 B' ∧ zFr 0 0 xel B B' := by
  subst hq
  have hpn := wg.2.2.2.1 r q hr hqz
  have wN := wg.2.1
  have wt : wT (gS G r q) := wg.2.2.2.2.1 _ hpn
  have hS := wt.2.2.2.2.1
  have hU := wt.2.2.1
  have hY1 : rY (uG (uG S 4 (zn q)) 5 0) l (z_wI (z_wI B 15 49 (zn q)) 15 50 0) := rY_w15 (rY_w15 hY (by unfold p15; omega) _) (by unfold p15; omega) _
  have f1 : zFr 0 0 xel B (z_wI (z_wI B 15 49 (zn q)) 15 50 0) := x_tr (zFr_wI (X := xel) (Or.inr (Or.inl ⟨rfl, by omega⟩))) (zFr_wI (X := xel) (Or.inr (Or.inl ⟨rfl, by omega⟩)))
  have hG1 := rG_el f1 hG
  have e37 : zI (z_wI (z_wI B 15 49 (zn q)) 15 50 0) 15 37 = zn r := by rw [zI_wI_k (by omega), zI_wI_k (by omega)]; exact h37
  have e49 : zI (z_wI (z_wI B 15 49 (zn q)) 15 50 0) 15 49 = zn q := by rw [zI_wI_k (by omega), zI_wI_s]
  have hT1 : rT (z_wI (z_wI B 15 49 (zn q)) 15 50 0) (gO G r q) (gS G r q) := hG1.2.2.2.2.2.2.1 _ hpn
  rw [e37, e49, E_Q_po _ hG1 wg hr hqz, z_bI_some, E_Q_findingOf _ _ _ _ (by omega) hT1 wt, z_bI_some]
  generalize hM1 : z_wI (z_wI B 15 49 (zn q)) 15 50 0 = M1 at *
  have hY2 : ∀ v, v = whI (gS G r q) → rY (ns0 S q (gS G r q)) l (z_wI M1 15 51 v) := fun v hv => by
    subst hv; exact rY_w15 hY1 (by unfold p15; omega) _
  have x51 : ∀ v, zFr 0 0 xel M1 (z_wI M1 15 51 v) := fun v => zFr_wI (X := xel) (Or.inr (Or.inl ⟨rfl, by omega⟩))
  have k49 : ∀ v, zI (z_wI M1 15 51 v) 15 49 = zn q := fun v => by rw [zI_wI_k (by omega)]; exact e49
  have he0 : evB (ns0 S q (gS G r q)) b := evB_cg he (ns0_G S q _ (by omega))
  have hf := find_lt (gS G r q)
  have n00 : z_ne (0 : Int32) 0 = false := by rw [z_ne_eq]; rfl
  have n10 : z_ne (1 : Int32) 0 = true := by rw [z_ne_eq]; rfl
  obtain ⟨v1, v2, v3, v4, v5, v6, v7⟩ := ns_inv q (gS G r q) hi he (by omega)
  rw [k49, k49]
  -- one look at the loop, if nothing is done at once
  have one : ∀ (M : zM) (S' : yR) (l' : yL), rY S' l' M → rG G M → yG S' 6 = whI (gS G r q) → ¬ (tU (gS G r q) = 0 ∧ findT (gS G r q) = 0) → z_denF zQ (d + 5 + 1) mQ_comes (143, [some (.ref 15), some (.int (zn q)), some (.int (zn (gO G r q))), some (.int (zn (findT (gS G r q)))), some (.int 0)], [], M) = z_denF zQ (d + 5 + 1) mQ_comes (0, [some (.ref 15), some (.int (zn q)), some (.int (zn (gO G r q))), some (.int (zn (findT (gS G r q)))), some (.int 0)], [], M) := by
    intro M S' l' y1 y2 y3 y4
    obtain ⟨r1, r2, r3, r4, r5, r6, r7, r8⟩ := y2.2.2.2.2.2.2.1 _ hpn
    have e20 : zI M 20 (gO G r q) = zn (tU (gS G r q)) := r3
    have e51 : zI M 15 51 = whI (gS G r q) := by rw [y1.2.2.1.2.2.2.2.2]; exact y3
    rw [L_Q_comes_143, z_ix_T (by omega) (by omega), cond_true, zn_N (by omega)]
    cases z_le (zI M 24 (gO G r q)) 0
    · rw [cond_false, e51]
      by_cases g : findT (gS G r q) = 0
      · rw [show whI (gS G r q) = 1 from if_pos g, show z_eq (1 : Int32) 0 = false by rw [z_eq_eq]; rfl, cond_false, cond_true, e20, z_ne_n0 (fun q => y4 ⟨q, g⟩) (by omega), cond_true]
      · rw [show whI (gS G r q) = 0 from if_neg g, show z_eq (0 : Int32) 0 = true by rw [z_eq_eq]; rfl, cond_true]
    · rw [cond_true]
  unfold ntF
  unfold nsF at v1 v2 v3 v4 v5 v6 v7 ⊢
  by_cases g : findT (gS G r q) = 0
  · rw [if_pos g] at v1 v2 v3 v4 v5 v6 v7 ⊢
    have y1 := hY2 1 (show (1 : Int32) = whI (gS G r q) from (if_pos g).symm)
    obtain ⟨B2, p1, p2, p3⟩ := r_tell (d + 4) y1.1 he0 (by omega) 0 (zn q) (zn (findT (gS G r q)))
    have y2 : rY (ns1 S q (gS G r q)) l B2 := r_lgA y1 p2 p3
    have f2 : zFr 0 0 xel M1 B2 := zFr_trans (x51 1) p3 (fun _ _ _ e => xel_tl e)
    have e51 : zI B2 15 51 = 1 := by
      rw [y2.2.2.1.2.2.2.2.2, (ns1_4 S q _).2.2]; exact if_pos g
    rw [show z_ne (zn (findT (gS G r q))) (0 : Int32) = false by rw [g]; exact ne_00, cond_false, p1, z_bV_some, e51, n10, cond_true]
    by_cases g1 : tU (gS G r q) = 0
    · rw [if_pos ⟨g1, g⟩]
      have ff := x_tr f1 f2
      obtain ⟨B3, k', s1, s2, s3⟩ := L_ra d (l1 := zn q) (l3 := zn (findT (gS G r q))) wj w wg hpn g1 (tS (gS G r q)) 0 B2 _ _ (b + 321) (Nat.zero_add _) (rG_el ff hG) (rJ3_el ff hj) (rH_el ff hh) y2 v1 v2 (by omega) (by rw [(ns1_4 S q _).2.2]; exact if_pos g)
      rw [← nL_0] at s1
      exact ⟨B3, _, _, _, s1, s2, x_tr ff s3⟩
    · rw [if_neg (fun q => g1 q.1)]
      exact ⟨B2, _, _, _, one B2 _ _ y2 (rG_el (x_tr f1 f2) hG) (ns1_4 S q _).2.2 (fun q => g1 q.1), y2, x_tr f1 f2⟩
  · rw [if_neg g] at v1 v2 v3 v4 v5 v6 v7 ⊢
    have y1 := hY2 0 (show (0 : Int32) = whI (gS G r q) from (if_neg g).symm)
    obtain ⟨B2, p1, p2, p3⟩ := r_tell (d + 4) y1.1 he0 (by omega) 0 (zn q) (zn (findT (gS G r q)))
    have y2 : rY (ns1 S q (gS G r q)) l B2 := r_lgA y1 p2 p3
    have f2 : zFr 0 0 xel M1 B2 := zFr_trans (x51 0) p3 (fun _ _ _ e => xel_tl e)
    have e51 : zI B2 15 51 = 0 := by
      rw [y2.2.2.1.2.2.2.2.2, (ns1_4 S q _).2.2]; exact if_neg g
    have he1 : evB (ns1 S q (gS G r q)) (b + 1) := lg_e he0 (by omega) _ _ _
    obtain ⟨B3, s1, s2, s3⟩ := r_sil (d + 2) hi.1 y2 he1 (by omega)
    have f3 : zFr 0 0 xel M1 B3 := zFr_trans f2 s3 (fun _ _ _ e => xel_ea e)
    rw [z_ne_n0 g (by omega), cond_true, p1, z_bV_some, e51, n00, cond_false, s1, z_bV_some, if_neg (fun q => g q.2)]
    exact ⟨B3, _, _, _, one B3 _ _ s2 (rG_el (x_tr f1 f3) hG) v5 (fun q => g q.2), s2, x_tr f1 f3⟩
def xcm (a k : Nat) : Prop := xel a k ∨ (a = 15 ∧ k = 36)
theorem L_rq (d : Nat) {J : zJ} {H : zH} {G : zG} {r : Nat} (wj : wJ J) (w : wH (jN J) H) (wg : wG G) (hr : r < gR G) : ∀ (m : Nat) (o1 o2 o3 o4 : Option Value) (B : zM) (S : yR) (l : yL), m ≤ 400 → gZ G r - nxP S ≤ m → rJ3 J B → rH H B → rG G B → zI B 15 37 = zn r → rY S l B → pv (jN J) (gZ G r) S l → ∃ B', z_denF zQ (d + 5 + 1) mQ_comes (0, [some (.ref 15), o1, o2, o3, o4], [], B) = some (some (.int (if (rcF J H G r (m + 1) (S, l)).1 = true then 1 else 0)), B') ∧ rY (rcF J H G r (m + 1) (S, l)).2.1 (rcF J H G r (m + 1) (S, l)).2.2 B' ∧ zI B' 15 36 = (if (rcF J H G r (m + 1) (S, l)).1 = true then zI B 15 36 else 0) ∧ zFr 0 0 xcm B B' := by
  intro m
  induction m using Nat.strongRecOn with
  | _ m ih =>
  intro o1 o2 o3 o4 B S l hm hrem hj hh hG h37 hY hv
  have hz : gZ G r ≤ 400 := by have := wG_z wg hr; have := wg.2.1; omega
  have hr20 := wg.1
  obtain ⟨b, he, hb⟩ := pv_b hv hz
  have hi := hv.1
  have hnB := z_new_ge B
  have e49 : zI B 15 49 = yG S 4 := hY.2.2.1.2.2.2.1
  have e50 : zI B 15 50 = yG S 5 := hY.2.2.1.2.2.2.2.1
  have e16 := hG.2.2.2.1 r hr
  have sil : ∃ B', z_bV (z_den zQ (d + 5) mQ_endAll [.ref 15] B) (fun M => some (some (.int 0), z_wI M 15 36 0)) = some (some (.int (if (false, siF S l, ([] : yL)).1 = true then 1 else 0)), B') ∧ rY (siF S l) [] B' ∧ zI B' 15 36 = (if (false, siF S l, ([] : yL)).1 = true then zI B 15 36 else 0) ∧ zFr 0 0 xcm B B' := by
    obtain ⟨B', p1, p2, p3⟩ := r_sil (d + 2) hi.1 hY he (by omega)
    have f : zFr 0 0 (fun a k => a = 15 ∧ k = 36) B' (z_wI B' 15 36 0) := zFr_wI (X := fun a k => a = 15 ∧ k = 36) ⟨rfl, rfl⟩
    refine ⟨z_wI B' 15 36 0, ?_, ⟨rB_fr f p2.1 (by omega) (by omega) (fun a k e q => by omega), rL_fr f p2.2.1 (by omega) (fun a k _ _ q => by omega), rA_fr f p2.2.2 (fun k hk q => by omega) (fun a k _ _ q => by omega) (fun _ _ _ _ _ => rfl)⟩, ?_, zFr_trans (zFr_mono p3 (Nat.le_refl _) (Nat.le_refl _) (fun _ _ e => Or.inl (xel_ea e))) f (fun a k _ e => Or.inr e)⟩
    · rw [p1, z_bV_some]; rfl
    · rw [zI_wI_s]; rfl
  have fin : ∀ (a1 a2 a3 a4 : Option Value) (B1 : zM), nxP S < gZ G r → rY (ntF J H (S, l) (nxP S) (gS G r (nxP S))).1 (ntF J H (S, l) (nxP S) (gS G r (nxP S))).2 B1 → zFr 0 0 xel B B1 → ∃ B', z_denF zQ (d + 5 + 1) mQ_comes (0, [some (.ref 15), a1, a2, a3, a4], [], B1) = some (some (.int (if (rcF J H G r m (ntF J H (S, l) (nxP S) (gS G r (nxP S)))).1 = true then 1 else 0)), B') ∧ rY (rcF J H G r m (ntF J H (S, l) (nxP S) (gS G r (nxP S)))).2.1 (rcF J H G r m (ntF J H (S, l) (nxP S) (gS G r (nxP S)))).2.2 B' ∧ zI B' 15 36 = (if (rcF J H G r m (ntF J H (S, l) (nxP S) (gS G r (nxP S)))).1 = true then zI B 15 36 else 0) ∧ zFr 0 0 xcm B B' := by
    intro a1 a2 a3 a4 B1 g h1 f1
    cases m with
    | zero => omega
    | succ m' =>
    have wt : wT (gS G r (nxP S)) := wg.2.2.2.2.1 _ (wg.2.2.2.1 r _ hr g)
    have hv1 := pv_nt wj w hz wt hv g
    have hnx : nxP (ntF J H (S, l) (nxP S) (gS G r (nxP S))).1 = nxP S + 1 := nx_p (nt_inv (nxP S) (gS G r (nxP S)) wj w wt hi he (by omega) hv.2.1).2.2.1 (by omega)
    have k37 : zI B1 15 37 = zn r := by rw [zFr_I f1 _ (by omega) (fun e => by have := xel_no e; omega)]; exact h37
    have k36 : zI B1 15 36 = zI B 15 36 := zFr_I f1 _ (by omega) (fun e => by have := xel_no e; omega)
    obtain ⟨B', p1, p2, p3, p4⟩ := ih m' (by omega) a1 a2 a3 a4 B1 _ _ (by omega) (by rw [hnx]; omega) (rJ3_el f1 hj) (rH_el f1 hh) (rG_el f1 hG) k37 h1 hv1
    exact ⟨B', p1, p2, by rw [p3, k36], zFr_trans (zFr_mono f1 (Nat.le_refl _) (Nat.le_refl _) (fun _ _ e => Or.inl e)) p4 (fun _ _ _ e => e)⟩
  rw [L_Q_comes_0, rc_s]
  rcases hv.2.2.2 with h4 | ⟨p, o, h4, h5, hp, ho, -⟩
  · have h4 := h4.1
    have hnx := nx_N h4
    have k4 : zI B 15 49 = -4 := e49.trans h4
    have en : z_ne (-4 : Int32) (-4) = false := z_ne_F _
    rw [k4, z_eq_T, cond_true, en, cond_false, h37, z_ix_T (by omega) (by omega), cond_true, zn_N (by omega), e16, pif_F (fun q => q.1 h4)]
    by_cases g : nxP S < gZ G r
    · obtain ⟨B1, x2, x3, x4, p1, p2, p3⟩ := rq_nx d (xq := 0) (q := nxP S) (by rw [hnx, nL_0]) wj hj w hh wg hG hr g h37 hY hi he (by omega)
      rw [if_pos g, show z_ne (0 : Int32) (zn (gZ G r)) = true by rw [nL_0]; exact z_ne_T (by omega) (by omega) (by omega), cond_true, p1]
      exact fin _ _ _ _ B1 g p2 p3
    · rw [if_neg g, show z_ne (0 : Int32) (zn (gZ G r)) = false by rw [nL_0, show gZ G r = 0 by omega]; exact z_ne_F _, cond_false]
      exact sil
  · have hnx := nx_p h4 (by omega)
    have k4 : zI B 15 49 = zn p := e49.trans h4
    have hpp := wg.2.2.2.1 r p hr hp
    have hN := wg.2.1
    have t3 : wT (gS G r p) := wg.2.2.2.2.1 _ hpp
    have hU := t3.2.2.1
    have e20 : zI B 20 (gO G r p) = zn (tU (gS G r p)) := (hG.2.2.2.2.2.2.1 _ hpp).2.2.1
    have ne4 : z_ne (zn p) (-4 : Int32) = true := by rw [z_ne_eq]; exact decide_eq_true (n4 (by omega))
    have eq4 : z_eq (zn p) (-4 : Int32) = false := by rw [z_eq_eq]; exact decide_eq_false (n4 (by omega))
    rw [k4, eq4, cond_false, h37, E_Q_po _ hG wg hr hp, z_bI_some, z_ix_T (by omega) (by omega), cond_true, zn_N (by omega), e20, e50, h5]
    by_cases ga : o < tU (gS G r p)
    · rw [z_lt_T ga (by omega), cond_true, pif_T ⟨by rw [h4]; exact n4 (by omega), by rw [h4, h5, zn_N (by omega), zn_toInt (by omega)]; omega⟩]
      exact ⟨B, rfl, hY, rfl, zFr_refl _ _⟩
    · rw [z_lt_F (by omega) (by omega), cond_false, k4, ne4, cond_true, h37, z_ix_T (by omega) (by omega), cond_true, zn_N (by omega), zn_1, e16, pif_F (fun q => ga (by have := q.2; rw [h4, h5, zn_N (by omega), zn_toInt (by omega)] at this; omega))]
      by_cases g : nxP S < gZ G r
      · obtain ⟨B1, x2, x3, x4, p1, p2, p3⟩ := rq_nx d (xq := zn (p + 1)) (q := nxP S) (by rw [hnx]) wj hj w hh wg hG hr g h37 hY hi he (by omega)
        rw [if_pos g, z_ne_T (by omega) (by omega) (by omega), cond_true, p1]
        exact fin _ _ _ _ B1 g p2 p3
      · rw [if_neg g, show p + 1 = gZ G r by omega, z_ne_F, cond_false]
        exact sil
theorem r_comes (d : Nat) {J : zJ} {H : zH} {G : zG} {r : Nat} {B : zM} {S : yR} {l : yL} (wj : wJ J) (hj : rJ3 J B) (w : wH (jN J) H) (hh : rH H B) (wg : wG G) (hG : rG G B) (hr : r < gR G) (h37 : zI B 15 37 = zn r) (hY : rY S l B) (hv : pv (jN J) (gZ G r) S l) : ∃ B', z_den zQ (d + 6) mQ_comes [.ref 15] B = some (some (.int (if (rcF J H G r 401 (S, l)).1 = true then 1 else 0)), B') ∧ rY (rcF J H G r 401 (S, l)).2.1 (rcF J H G r 401 (S, l)).2.2 B' ∧ zI B' 15 36 = (if (rcF J H G r 401 (S, l)).1 = true then zI B 15 36 else 0) ∧ zFr 0 0 xcm B B' := by
  have hz : gZ G r ≤ 400 := by have := wG_z wg hr; have := wg.2.1; omega
  have e : z_den zQ (d + 6) mQ_comes [.ref 15] B = z_denF zQ (d + 5 + 1) mQ_comes (0, [some (.ref 15), none, none, none, none], [], B) := by rw [B_Q_comes, L_Q_comes_0]
  rw [e]
  exact L_rq d wj w wg hr 400 none none none none B S l (Nat.le_refl _) (by omega) hj hh hG h37 hY hv
