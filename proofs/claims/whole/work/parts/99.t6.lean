/-! THE TOP: the law from its entry to its end -/
/-- what is used of the room's numbers (they are measured anew at each TURN) -/
theorem t_room : 6100000 ≤ room_1.slots ∧ 100000 ≤ room_1.cells := by decide
theorem z_sum_sm : ∀ l : List (Nat × Nat), z_sum l = zsm l
  | [] => rfl
  | h :: r => by
    show h.2 + z_sum r = h.2 + zsm r
    rw [z_sum_sm r]
set_option maxRecDepth 100000 in
theorem t_tl : z_tl zN zC = 1 ∧ z_tl zN zC1 = 2 ∧ z_tl zN zC8 = 15 ∧ z_tl zN zC9 = 16 ∧ z_tl zN zC20 = 56 := ⟨rfl, rfl, rfl, rfl, rfl⟩
set_option maxRecDepth 100000 in
theorem t_ss : z_ss zC = 1000000 ∧ z_ss zC1 = 1000008 ∧ z_ss zC8 = 1009187 ∧ z_ss zC9 = 1009255 ∧ z_ss zC20 = 1744254 := by
  unfold z_ss
  rw [zz_off.2]
  exact ⟨by decide +kernel, by decide +kernel, by decide +kernel, by decide +kernel, by decide +kernel⟩
set_option maxRecDepth 100000 in
theorem t_hd : z_hd zN zC1 1 = some (10, 8) ∧ z_hd zN zC9 15 = some (11, 68) := ⟨rfl, rfl⟩
section TQ
variable {p : Program} {l : Launch} {e : Env} {s : State} {m : MethodId} {below : List Frame} {meth : Method} {c : Code} {b : Nat} {D : zDt} {Z : State → Prop}
/-- from the entry on: the two objects made, their constructors run -/
theorem t_begin (hx : p.tables.exec = Jvm.exec) (hb : c.code = code) (hG : zq_zG (tX1 s.heap.size D) 1 p s m meth c code "RollPlayerLaw" 4 false)
    (K : ∀ (H : Heap) (locs : List Loc) (ls : Array Slot), zRep (tX1 s.heap.size D) zN 1 zC20 H → zLH (tX2 s.heap.size b D) 4 [some (.ref 56), some (.ref 1), some (.ref 15), some (.int 0)] ls → (∀ q ∈ locs, s.heap.size ≤ q.base) → (∀ q : Nat, q < s.heap.size → H[q]? = s.heap[q]?) → W p l e room_1 s m #[Value.ref b] below meth c H locs 55 744254 Z (F0 m 18 ls [])) : W p l e room_1 s m #[Value.ref b] below meth c s.heap [] 0 0 Z (entryFrame m ([Value.ref b] : List Value).toArray 4) := by
  have hX1 := tX1_ok s.heap.size D
  obtain ⟨g0, g1, g8, g9, g20⟩ := t_tl
  obtain ⟨u0, u1, u8, u9, u20⟩ := t_ss
  obtain ⟨s0, hs⟩ : ∃ s0 : Nat, s0 = 1000000 := ⟨_, rfl⟩
  have hls := z_ent_has (tX2 s.heap.size b D) (as := [.ref 56]) (mx := 4) (by show 1 ≤ 4; omega)
  have e56 : ([Value.ref 56]).map (zE (tX2 s.heap.size b D)) = [Value.ref b] := by
    show [zE (tX2 s.heap.size b D) (.ref 56)] = _
    rw [zE_ref _ (by omega), tX2_56]
  rw [e56] at hls
  rw [lg_entry_eq]
  generalize (lg_sl [Value.ref b] ++ List.replicate (4 - (lg_sl [Value.ref b]).length) Slot.unset).toArray = ls0 at hls ⊢
  have f1 := z_fit_some (show z_fit mP_init [.ref 1] (z_denF zN 2 mP_init (z_ent mP_init [.ref 1] zC1)) = some (none, zC8) from B_P_init 0)
  have f2 := z_fit_some (show z_fit mQ_init [.ref 15] (z_denF zN 1 mQ_init (z_ent mQ_init [.ref 15] zC9)) = some (none, zC20) from B_Q_init 0)
  obtain ⟨n1, hr1⟩ := (z_denF_iff zN 2 mP_init _ _).mp f1.2
  obtain ⟨n2, hr2⟩ := (z_denF_iff zN 1 mQ_init _ _).mp f2.2
  obtain ⟨cP, cP1, cP2⟩ := t_call (l := l) (z_ok_all (tX1 s.heap.size D) zN 1 zSok_N) z_mon_all hX1 f1.1 hr1 mt_P_init
  obtain ⟨cQ, cQ1, cQ2⟩ := t_call (l := l) (z_ok_all (tX1 s.heap.size D) zN 1 zSok_N) z_mon_all hX1 f2.1 hr2 mt_Q_init
  have q1 : zE (tX1 s.heap.size D) (.ref 1) = .ref ((tX2 s.heap.size b D).1 1) := by rw [zE_ref _ (by omega), tX2_lo (by omega)]
  have q15 : zE (tX1 s.heap.size D) (.ref 15) = .ref ((tX2 s.heap.size b D).1 15) := by rw [zE_ref _ (by omega), tX2_lo (by omega)]
  have K0 : W p l e room_1 s m #[Value.ref b] below meth c s.heap [] (z_tl zN zC - 1) (z_ss zC - s0) Z (F0 m 0 ls0 (([] : List Value).map (zE (tX1 s.heap.size D)))) := by
    refine t_new (index := 7) (C := "RollPlayer") (tg := 10) (sz := 8) hG zSok_N (by decide +kernel) (z_tb 18 (by decide +kernel)) (z_tb 19 (by decide +kernel)) (z_tb 1 (by decide +kernel)) rfl (t_rep0 rfl) (fun _ _ => rfl) (by rw [g0]; omega) (by rw [u0, hs]; omega) (by rw [g0]; decide) (by rw [u0, hs]; decide) (fun H1 r1 o1 => ?_)
    have r1 : zRep (tX1 s.heap.size D) zN 1 zC1 H1 := r1
    show W p l e room_1 s m #[Value.ref b] below meth c H1 [] (z_tl zN zC1 - 1) (z_ss zC1 - s0) Z (F0 m 3 ls0 [zE (tX1 s.heap.size D) (.ref 1)])
    refine lv_dup hx hb (by decide +kernel) (by rw [zE_cat]; rfl) ?_
    obtain ⟨ha, hat, hcell⟩ := z_recvC (g := (10, 8)) hG r1 t_hd.1 (by show 10 < 12; omega) (rfl : vwCl[10]? = some (RX11, TX11, 8))
    have run := z_runX (l := l) (e := e) (R := room_1) (args := #[Value.ref b]) (below := below) (locs := []) (cells := z_tl zN zC1 - 1) (slots := z_ss zC1 - s0) (ls := ls0) (pc := 4) (st := [.ref 1, .ref 1]) (rest := [.ref 1]) (ps := []) (index := 9) (ins := .invokespecial 9) hG r1 hat ha hcell (cw_P_init _) (Or.inr (Or.inr (Or.inl ⟨rfl, rfl, (z_tb 21 (by decide +kernel)), Or.inl (z_tb 20 (by decide +kernel))⟩))) (fun _ => rfl) (by decide +kernel) cP rfl hls.1 rfl (by show (1 + 0 : Nat) ≤ 8; omega) (by show 3 + 1 ≤ room_1.frames; decide) (by show 64 * (3 + 1) ≤ room_1.locals; decide) ⟨by show z_tl zN zC1 - 1 + (z_tl zN zC8 - z_tl zN zC1) ≤ room_1.cells; rw [g1, g8]; decide, by dsimp only; rw [u1, u8, hs]; decide⟩
    refine t_cal (st := [.ref 1, .ref 1]) run (fun _ h => by cases h) o1 (by rw [g1]; omega) (by rw [u1, hs]; omega) cP1 cP2 (fun H2 locs2 r2 l2 o2 => ?_)
    have r2 : zRep (tX1 s.heap.size D) zN 1 zC8 H2 := r2
    show W p l e room_1 s m #[Value.ref b] below meth c H2 locs2 (z_tl zN zC8 - 1) (z_ss zC8 - s0) Z (F0 m 7 ls0 [zE (tX1 s.heap.size D) (.ref 1)])
    rw [q1]
    refine t_sr (q := 1) (i := 1) hx hb (by decide +kernel) rfl (by omega) hls (by omega) (fun ls1 hls1 => ?_)
    refine t_new (st := []) (index := 10) (C := "RollPlayerModel") (tg := 11) (sz := 68) hG zSok_N (by decide +kernel) (z_tb 954 (by decide +kernel)) (z_tb 955 (by decide +kernel)) (z_tb 3 (by decide +kernel)) rfl r2 o2 (by rw [g8]; omega) (by rw [u8, hs]; omega) (by rw [g8]; decide) (by rw [u8, hs]; decide) (fun H3 r3 o3 => ?_)
    have r3 : zRep (tX1 s.heap.size D) zN 1 zC9 H3 := r3
    have e15 : z_new zN zC8 = 15 := g8
    rw [e15]
    show W p l e room_1 s m #[Value.ref b] below meth c H3 locs2 (z_tl zN zC9 - 1) (z_ss zC9 - s0) Z (F0 m 11 ls1 [zE (tX1 s.heap.size D) (.ref 15)])
    refine lv_dup hx hb (by decide +kernel) (by rw [zE_cat]; rfl) ?_
    obtain ⟨ha2, hat2, hcell2⟩ := z_recvC (g := (11, 68)) hG r3 t_hd.2 (by show 11 < 12; omega) (rfl : vwCl[11]? = some (RX12, TX12, 68))
    have run2 := z_runX (l := l) (e := e) (R := room_1) (args := #[Value.ref b]) (below := below) (locs := locs2) (cells := z_tl zN zC9 - 1) (slots := z_ss zC9 - s0) (ls := ls1) (pc := 12) (st := [.ref 15, .ref 15]) (rest := [.ref 15]) (ps := []) (index := 12) (ins := .invokespecial 12) hG r3 hat2 ha2 hcell2 (cw_Q_init _) (Or.inr (Or.inr (Or.inl ⟨rfl, rfl, (z_tb 957 (by decide +kernel)), Or.inl (z_tb 956 (by decide +kernel))⟩))) (fun _ => rfl) (by decide +kernel) cQ rfl hls1.1 rfl (by show (1 + 0 : Nat) ≤ 8; omega) (by show 2 + 1 ≤ room_1.frames; decide) (by show 64 * (2 + 1) ≤ room_1.locals; decide) ⟨by show z_tl zN zC9 - 1 + (z_tl zN zC20 - z_tl zN zC9) ≤ room_1.cells; rw [g9, g20]; decide, by dsimp only; rw [u9, u20, hs]; decide⟩
    refine t_cal (st := [.ref 15, .ref 15]) run2 l2 o3 (by rw [g9]; omega) (by rw [u9, hs]; omega) cQ1 cQ2 (fun H4 locs4 r4 l4 o4 => ?_)
    have r4 : zRep (tX1 s.heap.size D) zN 1 zC20 H4 := r4
    show W p l e room_1 s m #[Value.ref b] below meth c H4 locs4 (z_tl zN zC20 - 1) (z_ss zC20 - s0) Z (F0 m 15 ls1 [zE (tX1 s.heap.size D) (.ref 15)])
    rw [q15, g20, u20, hs]
    refine t_sr (q := 2) (i := 2) hx hb (by decide +kernel) rfl (by omega) hls1 (by omega) (fun ls2 hls2 => ?_)
    refine lv_iconst hx hb (n := 0) (v := 0) (by decide +kernel) (by decide +kernel) ?_
    refine t_si (q := 3) (i := 3) hx hb (by decide +kernel) rfl (by omega) hls2 (fun ls3 hls3 => ?_)
    exact K H4 locs4 ls3 r4 hls3 l4 o4
  rw [g0, u0, hs] at K0
  exact K0
end TQ
theorem whole_start {p : Program} {e : Env} {s : State} {m : MethodId} {below : List Frame} {meth : Method} {c : Code} (l : Launch) {b L : Nat} {xs : Nat → Int32} (hL : L ≤ 4096) (C0 : lw_At p s m meth c b L xs) : W p l e room_1 s m #[Value.ref b] below meth c s.heap [] 0 0 (lw_Z below #[Value.ref b] s) (entryFrame m ([Value.ref b] : List Value).toArray 4) := by
  obtain ⟨hx, hb, hr, hml, hown, hts, ⟨scr, x1, x2, x3, x4, x5⟩, hbl, hlk, hg⟩ := C0
  have hd0 := Drawn.sameBut.refl s.drawn lw_cs
  have hroom := t_room
  obtain ⟨D, d20, hK⟩ := t_K hts x2
  have hWd := t_Wd hts hg
  have hX1 := tX1_ok s.heap.size D
  have hX2 := tX2_ok D hbl
  refine t_begin (D := D) hx hb ⟨hx, hb, hml, hown, hWd, hK _ _, hX1, (fun h => by cases h)⟩ (fun H locs ls h1 h2 h3 h4 => ?_)
  have hR := t_rep (b := b) (L := L) (xs := xs) h1 ⟨scr, by rw [h4 b hbl]; exact x1, d20.symm, x2.1, x3, x4, x5⟩
  have hst := zM0_st L xs
  obtain ⟨M', e1, lm, e2, e3, e4⟩ := law_loop 0 hL ((L - 0) / 8) 0 (W0 (zM0 L xs)) (fun _ => 0) (zM0 L xs) rfl (by omega) rfl (SC_0 hst) (SR_0 hst) (SW_0 hst)
  obtain ⟨nn, hrun⟩ := (z_denF_iff zQ 61 mW_law _ _).mp e1
  have hn : (L - 0) / 8 ≤ 512 := by omega
  have t1 : z_tl zQ M' = 57 + lm.length := by
    show 56 + M'.1.length = _
    rw [e2, List.length_append]
    show 56 + (1 + lm.length) = _
    omega
  have t2 : z_ss M' = L + 1000000 + zsm lm := by
    unfold z_ss
    rw [zz_off.2, e2, z_sum_sm, zsm_app]
    show (L + 0) + zsm lm + 1000000 = _
    omega
  have t3 : z_tl zQ (zM0 L xs) = 57 := rfl
  have t4 : z_ss (zM0 L xs) = L + 1000000 := by
    unfold z_ss
    rw [zz_off.2]
    show (L + 0) + 1000000 = _
    omega
  have hz := z_run_snn (tX2 s.heap.size b D) zQ 57 z_mts (z_ok_all (tX2 s.heap.size b D) zQ 57 zSok_Q) z_mon_all hX2 nn 61 mW_law _ _ hrun ⟨"RollPlayerLaw", "law", "([I)Z"⟩ code 4 (some .boolean) mt_W_law p l e room_1 s m #[Value.ref b] below meth c ⟨hx, hb, hml, hown, hWd, hK _ _, hX2, (fun h => absurd (of_decide_eq_true h) (by decide))⟩ 2 (L + 255746) (lw_Z below #[Value.ref b] s) (by show z_tl zQ M' - 2 ≤ room_1.cells; rw [t1]; omega) (by show z_ss M' - (L + 255746) ≤ room_1.slots; rw [t2]; omega) (by show 61 + 1 ≤ room_1.frames; decide) (by show 64 * (61 + 1) ≤ room_1.locals; decide) ?_
  · have hw := hz H locs ls hR (by rw [zn_eq 0]; exact h2) h3 h4 (by show 2 ≤ z_tl zQ (zM0 L xs); rw [t3]; omega) (by show L + 255746 ≤ z_ss (zM0 L xs); rw [t4]; omega)
    have hw : W p l e room_1 s m #[Value.ref b] below meth c H locs (z_tl zQ (zM0 L xs) - 2) (z_ss (zM0 L xs) - (L + 255746)) (lw_Z below #[Value.ref b] s) (F0 m 18 ls []) := hw
    rw [t3, t4, show L + 1000000 - (L + 255746) = 744254 by omega] at hw
    exact hw
  · intro H' locs' ls' pc ins hd hret hR' hl' ho' ht' hs'
    have hi : ins = .ireturn := by
      rcases hret with ⟨rfl, -⟩ | ⟨-, -, x, hx⟩ | ⟨-, -, x, hx⟩ | ⟨-, -, x, hx⟩ | ⟨-, -, hx⟩
      · rfl
      · cases hx
      · cases hx
      · cases hx
      · cases hx
    subst hi
    have k : W p l e room_1 s m #[Value.ref b] below meth c H' [] (z_tl zQ M' - 2) (z_ss M' - (L + 255746)) (lw_Z below #[Value.ref b] s) (F0 m pc ls' [.int 1]) := W.widen (k := room_1.cells) (n := room_1.slots) (by rw [t1]; omega) (by rw [t2]; omega) (W.base (lw_ret hd0 hx hb hr hlk hd))
    exact W.forget (L := locs') hl' k
