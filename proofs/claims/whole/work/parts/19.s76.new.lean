/-! new cells, kinds asked, rows copied, the machine's own -/
def z_dv (k : Nat) : Value := match k with
  | 0 => .int 0
  | 1 => .null
  | _ => .double 0
def z_defs (t n : Nat) : Bool := match z_tys[t]? with
  | some ty => (List.range n).all (fun k => decide (defaultValue (ty k) = z_dv (z_fk t k)))
  | none => false
theorem z_defs_ok : ∀ (t : Nat) (q : vw_C), vwCl[t]? = some q → z_defs t q.2.2 = true
  | 0, q, h => by cases h; decide +kernel
  | 1, q, h => by cases h; decide +kernel
  | 2, q, h => by cases h; decide +kernel
  | 3, q, h => by cases h; decide +kernel
  | 4, q, h => by cases h; decide +kernel
  | 5, q, h => by cases h; decide +kernel
  | 6, q, h => by cases h; decide +kernel
  | 7, q, h => by cases h; decide +kernel
  | 8, q, h => by cases h; decide +kernel
  | 9, q, h => by cases h; decide +kernel
  | 10, q, h => by cases h; decide +kernel
  | 11, q, h => by cases h; decide +kernel
  | t + 12, q, h => by simp [vwCl] at h
section SN
variable {X : zX} {S : zS} {n0 : Nat} {mts : List (MethodName × ByteArray × Nat × Option FieldType)} {cc : ByteArray} {own : String} {nL : Nat} {ini : Bool} {ret : Option FieldType} {pc n : Nat}
theorem z_nw_zero (hS : zSok S) (M : zM) (h : Nat × Nat) (k : Nat) : zI (z_nw S M h) (z_new S M) k = 0 ∧ zP S (z_nw S M h) (z_new S M) k = 0 ∧ zD (z_nw S M h) (z_new S M) k = 0 := by
  refine ⟨?_, ?_, ?_⟩
  · simp [zI, z_nw]
  · have : S.2.2 (z_new S M) k = none := hS _ _ (by unfold z_new; omega)
    simp [zP, this, z_nw]
  · simp [zD, z_nw]
theorem zRep.lt {M : zM} {H : Heap} (hR : zRep X S n0 M H) {a : Nat} {g : Nat × Nat} (ha : 0 < a) (h : z_hd S M a = some g) : X.1 a < H.size := (hR.2.2.1 a g ha h).lt
theorem s_new {tg sz index : Nat} {C : String} {T : u_T} (hS : zSok S) (hd : decode cc pc = .ok (.new index, 3)) (hw : Cond.classLink own index C ∈ lw_tbl) (hi : Cond.instantiable C sz ∈ lw_tbl) (hini : Cond.initialized C ∈ lw_tbl) (hq : vwCl[tg]? = some (C, T, sz)) : zSnd X S n0 mts cc own nL ini ret pc (aNew (pc + 3) tg sz) := by
  intro p l e R s m args below meth c hG d t0 s0 Q r kc cl lc st M h hk hc h1 h2 h3 h4 hE H locs ls a1 a2 a3 a4 a5 a6
  obtain ⟨k1, k2, k3⟩ := hk _ h
  have a1 : zRep X S n0 M H := a1
  have a5 : t0 ≤ z_tl S M := a5
  have a6 : s0 ≤ z_ss M := a6
  have k2 : z_tl S (z_nw S M (tg, sz)) ≤ z_tl S r.2 := k2
  have k3 : z_ss (z_nw S M (tg, sz)) ≤ z_ss r.2 := k3
  rw [z_tl_nw] at k2
  rw [z_ss_nw] at k3
  obtain ⟨f1, f2, ty, f3, f4⟩ := z_facts _ _ hq
  have hKn := hG.2.2.2.2.2.1.1.1 tg _ hq
  have hW := hG.2.2.2.2.1
  have ht12 : tg < 12 := by
    have := (List.getElem?_eq_some_iff.mp hq).1
    simpa [vwCl] using this
  show W p l e R s m args below meth c H locs (z_tl S M - t0) (z_ss M - s0) Q (F0 m pc ls (st.map (zE X)))
  refine W.newcK hG.1 hG.2.1 hG.2.2.2.1 (hW.use hw args) (hW.use hi args) (hW.use hini args) rfl hd (by omega) (by have : (tg, sz).2 = sz := rfl; omega) hKn.2.1 rfl fun H1 kC hkC e1 z1 o1 => ?_
  have had : H.size = X.1 (z_new S M) := a1.1
  have kk := k1 H1 locs ls (a1.nw hG.2.2.2.2.2.2.1 (by exact z1) o1 (fun a g ha hg => a1.lt ha hg) (fun k => hS _ _ (by unfold z_new; omega)) ?_) a2 a3 (fun q hq2 => ?_) (by show t0 ≤ z_tl S (z_nw S M (tg, sz)); rw [z_tl_nw]; omega) (by show s0 ≤ z_ss (z_nw S M (tg, sz)); rw [z_ss_nw]; omega)
  · have kk : W p l e R s m args below meth c H1 locs (z_tl S (z_nw S M (tg, sz)) - t0) (z_ss (z_nw S M (tg, sz)) - s0) Q (F0 m (pc + 3) ls (zE X (.ref (z_new S M)) :: st.map (zE X))) := kk
    rw [z_tl_nw, z_ss_nw, zE_ref X (by have := hG.2.2.2.2.2.2.1.2.2.2.1; have := a1.2.1; unfold z_new; unfold z_tl at this; omega), ← had, show z_tl S M + 1 - t0 = z_tl S M - t0 + 1 by omega, show z_ss M + (tg, sz).2 - s0 = z_ss M - s0 + sz by show z_ss M + sz - s0 = _; omega] at kk
    exact kk
  · refine Or.inl ⟨ht12, ?_, _, hq, rfl⟩
    rw [← had]
    refine (u_born ty (hW.all args) f1 hKn hkC e1 f4).to (fun k hk2 => ?_)
    have hdf := z_defs_ok tg _ hq
    unfold z_defs at hdf
    rw [f3] at hdf
    have hdf := of_decide_eq_true (List.all_eq_true.mp hdf k (List.mem_range.mpr hk2))
    rw [hdf]
    obtain ⟨c1, c2, c3⟩ := z_nw_zero hS M (tg, sz) k
    show z_dv (z_fk tg k) = z_cell X S (z_nw S M (tg, sz)) tg (z_new S M) k
    unfold z_cell z_dv
    rw [c1, c2, c3]
    generalize z_fk tg k = w
    match w with
    | 0 => rfl
    | 1 => rfl
    | w + 2 => rfl
  · have hb : X.2.1 ≤ H.size := by
      rw [had]
      by_cases e56 : z_new S M = 56
      · rcases hG.2.2.2.2.2.2.1.2.2.2.2 with hx | hx
        · have := a1.2.1; unfold z_tl at this; unfold z_new at e56; omega
        · rw [e56]; exact hx
      · refine hG.2.2.2.2.2.2.1.2.2.1 _ ?_ e56
        have h1 := hG.2.2.2.2.2.2.1.2.2.2.1
        have h2 := a1.2.1
        unfold z_new; unfold z_tl at h2; omega
    rw [o1 q (by omega)]
    exact a4 q hq2
/-- a new row of kind tg: what both rows of the kit come to -/
theorem z_newA {p : Program} {l : Launch} {e : Env} {R : Room} {s : State} {m : MethodId} {args : Array Value} {below : List Frame} {meth : Method} {c : Code} {H : Heap} {locs : List Loc} {t0 s0 : Nat} {Q : State → Prop} {ls : Array Slot} {M : zM} {tg N pc2 : Nat} {lc : List (Option Value)} {rest : List Value} (hS : zSok S) (hX : zXok X n0) (htg : 12 ≤ tg ∧ tg < 20) (a1 : zRep X S n0 M H) (a2 : zLH X nL lc ls) (a3 : ∀ q ∈ locs, X.2.1 ≤ q.base) (a4 : ∀ q : Nat, q < X.2.1 → H[q]? = s.heap[q]?) (a5 : t0 ≤ z_tl S M) (a6 : s0 ≤ z_ss M)
    (k1 : zq_zW X S n0 nL p l e R s m args below meth c t0 s0 Q (pc2, lc, .ref (z_new S M) :: rest, z_nw S M (tg, N))) {H1 : Heap} (e1 : H1[H.size]? = some (arrV (X.2.2.2.2 tg) N (fun _ => defaultValue (z_ty tg)))) (z1 : H1.size = H.size + 1) (o1 : ∀ q, q < H.size → H1[q]? = H[q]?) :
    W p l e R s m args below meth c H1 locs (z_tl S M - t0 + 1) (z_ss M - s0 + N) Q (F0 m pc2 ls (.ref H.size :: rest.map (zE X))) := by
  have had : H.size = X.1 (z_new S M) := a1.1
  have kk := k1 H1 locs ls (a1.nw hX z1 o1 (fun a g ha hg => a1.lt ha hg) (fun k => hS _ _ (by unfold z_new; omega)) ?_) a2 a3 (fun q hq2 => ?_) (by show t0 ≤ z_tl S (z_nw S M (tg, N)); rw [z_tl_nw]; omega) (by show s0 ≤ z_ss (z_nw S M (tg, N)); rw [z_ss_nw]; omega)
  · have kk : W p l e R s m args below meth c H1 locs (z_tl S (z_nw S M (tg, N)) - t0) (z_ss (z_nw S M (tg, N)) - s0) Q (F0 m pc2 ls (zE X (.ref (z_new S M)) :: rest.map (zE X))) := kk
    rw [z_tl_nw, z_ss_nw, zE_ref X (by have := hX.2.2.2.1; have := a1.2.1; unfold z_new; unfold z_tl at this; omega), ← had, show z_tl S M + 1 - t0 = z_tl S M - t0 + 1 by omega, show z_ss M + (tg, N).2 - s0 = z_ss M - s0 + N by show z_ss M + N - s0 = _; omega] at kk
    exact kk
  · refine Or.inr (Or.inl ⟨htg.1, htg.2, ?_, fun _ j => by rw [(z_nw_zero hS M (tg, N) j).1]; decide⟩)
    show H1[X.1 (z_new S M)]? = some (arrV (X.2.2.2.2 tg) N (z_elem X S (z_nw S M (tg, N)) tg (z_new S M)))
    rw [← had, e1]
    rw [show (fun _ => defaultValue (z_ty tg)) = z_elem X S (z_nw S M (tg, N)) tg (z_new S M) from funext fun k => ?_]
    obtain ⟨c1, c2, c3⟩ := z_nw_zero hS M (tg, N) k
    unfold z_elem
    rw [c1, c2, c3]
    rcases (show tg = 12 ∨ tg = 13 ∨ tg = 14 ∨ tg = 15 ∨ tg = 16 ∨ tg = 17 ∨ tg = 18 ∨ tg = 19 by omega) with rfl | rfl | rfl | rfl | rfl | rfl | rfl | rfl <;> rfl
  · have hb : X.2.1 ≤ H.size := by
      rw [had]
      by_cases e56 : z_new S M = 56
      · rcases hX.2.2.2.2 with hx | hx
        · have := a1.2.1; unfold z_tl at this; unfold z_new at e56; omega
        · rw [e56]; exact hx
      · refine hX.2.2.1 _ ?_ e56
        have h1 := hX.2.2.2.1
        have h2 := a1.2.1
        unfold z_new; unfold z_tl at h2; omega
    rw [o1 q (by omega)]
    exact a4 q hq2
theorem s_newarray {tg : Nat} {at1 : ArrayType} (hS : zSok S) (hd : decode cc pc = .ok (.newarray at1, 2)) (hw : Cond.arrayClass (newarray.typeOf at1) ∈ lw_tbl) (hty : newarray.typeOf at1 = z_ty tg) (htg : 12 ≤ tg ∧ tg < 16) : zSnd X S n0 mts cc own nL ini ret pc (aNewA (pc + 2) tg) := by
  intro p l e R s m args below meth c hG d t0 s0 Q r kc cl lc st M h hk hc h1 h2 h3 h4 hE H locs ls a1 a2 a3 a4 a5 a6
  unfold aNewA at h
  split at h
  · next i rest =>
    obtain ⟨g0, g2⟩ := z_gg_spec h
    rw [Bool.and_eq_true, decide_eq_true_eq] at g0
    have hle := Nat.le_of_ble_eq_true g0.2
    obtain ⟨k1, k2, k3⟩ := hk _ g2
    have a5 : t0 ≤ z_tl S M := a5
    have a6 : s0 ≤ z_ss M := a6
    have k2 : z_tl S (z_nw S M (tg, i.toNatClampNeg)) ≤ z_tl S r.2 := k2
    have k3 : z_ss (z_nw S M (tg, i.toNatClampNeg)) ≤ z_ss r.2 := k3
    rw [z_tl_nw] at k2
    rw [z_ss_nw] at k3
    have k3 : z_ss M + i.toNatClampNeg ≤ z_ss r.2 := k3
    show W p l e R s m args below meth c H locs (z_tl S M - t0) (z_ss M - s0) Q (F0 m pc ls (.int i :: rest.map (zE X)))
    refine va_newaK (N := i.toNatClampNeg) (h := H.size) hG.1 hG.2.1 (hG.2.2.2.2.1.use hw args) rfl hd rfl g0.1 rfl ?_ (by omega) (by omega) rfl (fun H1 cA e1 z1 o1 _ hfc => ?_)
    · have : componentBytes (newarray.typeOf at1) ≤ 8 := by rw [hty]; rcases (show tg = 12 ∨ tg = 13 ∨ tg = 14 ∨ tg = 15 by omega) with rfl | rfl | rfl | rfl <;> decide
      calc i.toNatClampNeg * componentBytes (newarray.typeOf at1) ≤ 1000000 * 8 := Nat.mul_le_mul hle this
        _ ≤ 536870912 := by decide
    · rw [hty] at e1 hfc
      have hcA : cA = X.2.2.2.2 tg := Option.some.inj (hfc.symm.trans (hG.2.2.2.2.2.1.1.2 tg (by omega) (by omega)).2.1)
      subst hcA
      exact z_newA hS hG.2.2.2.2.2.2.1 ⟨htg.1, by omega⟩ a1 a2 a3 a4 a5 a6 k1 e1 z1 o1
  · cases h
theorem s_anewarray {tg index : Nat} {C : String} (hS : zSok S) (hd : decode cc pc = .ok (.anewarray index, 3)) (hw : Cond.classLink own index C ∈ lw_tbl) (ho : Cond.arrayOver (.object C) ∈ lw_tbl) (hty : z_ty tg = .object C) (htg : 16 ≤ tg ∧ tg < 19) : zSnd X S n0 mts cc own nL ini ret pc (aNewA (pc + 3) tg) := by
  intro p l e R s m args below meth c hG d t0 s0 Q r kc cl lc st M h hk hc h1 h2 h3 h4 hE H locs ls a1 a2 a3 a4 a5 a6
  unfold aNewA at h
  split at h
  · next i rest =>
    obtain ⟨g0, g2⟩ := z_gg_spec h
    rw [Bool.and_eq_true, decide_eq_true_eq] at g0
    have hle := Nat.le_of_ble_eq_true g0.2
    obtain ⟨k1, k2, k3⟩ := hk _ g2
    have a5 : t0 ≤ z_tl S M := a5
    have a6 : s0 ≤ z_ss M := a6
    have k2 : z_tl S (z_nw S M (tg, i.toNatClampNeg)) ≤ z_tl S r.2 := k2
    have k3 : z_ss (z_nw S M (tg, i.toNatClampNeg)) ≤ z_ss r.2 := k3
    rw [z_tl_nw] at k2
    rw [z_ss_nw] at k3
    have k3 : z_ss M + i.toNatClampNeg ≤ z_ss r.2 := k3
    show W p l e R s m args below meth c H locs (z_tl S M - t0) (z_ss M - s0) Q (F0 m pc ls (.int i :: rest.map (zE X)))
    refine W.anew hG.1 hG.2.1 hG.2.2.2.1 (hG.2.2.2.2.1.use hw args) (hG.2.2.2.2.1.use ho args) rfl hd rfl g0.1 (by omega) (by omega) (by omega) (fun cA kA comp hfc _ _ _ => ?_)
    have hfc2 := (hG.2.2.2.2.2.1.1.2 tg (by omega) (by omega)).2.1
    rw [hty] at hfc2
    have hcA : cA = X.2.2.2.2 tg := Option.some.inj (hfc.symm.trans hfc2)
    subst hcA
    refine z_newA hS hG.2.2.2.2.2.2.1 ⟨by omega, by omega⟩ a1 a2 a3 a4 a5 a6 k1 ?_ (by simp) (fun q hq => by rw [Array.getElem?_push, if_neg (Nat.ne_of_lt hq)])
    rw [hty, show (fun _ : Nat => defaultValue (FieldType.object C)) = fun _ => Value.null from rfl, ← arrV_new]
    simp
  · cases h
theorem s_anewarrayA {index : Nat} (hS : zSok S) (hd : decode cc pc = .ok (.anewarray index, 3)) (hw : Cond.classLink own index (FieldType.array .int).toString ∈ lw_tbl) (ho : Cond.arrayOver (.array .int) ∈ lw_tbl) : zSnd X S n0 mts cc own nL ini ret pc (aNewA (pc + 3) 19) := by
  intro p l e R s m args below meth c hG d t0 s0 Q r kc cl lc st M h hk hc h1 h2 h3 h4 hE H locs ls a1 a2 a3 a4 a5 a6
  unfold aNewA at h
  split at h
  · next i rest =>
    obtain ⟨g0, g2⟩ := z_gg_spec h
    rw [Bool.and_eq_true, decide_eq_true_eq] at g0
    have hle := Nat.le_of_ble_eq_true g0.2
    obtain ⟨k1, k2, k3⟩ := hk _ g2
    have a5 : t0 ≤ z_tl S M := a5
    have a6 : s0 ≤ z_ss M := a6
    have k2 : z_tl S (z_nw S M (19, i.toNatClampNeg)) ≤ z_tl S r.2 := k2
    have k3 : z_ss (z_nw S M (19, i.toNatClampNeg)) ≤ z_ss r.2 := k3
    rw [z_tl_nw] at k2
    rw [z_ss_nw] at k3
    have k3 : z_ss M + i.toNatClampNeg ≤ z_ss r.2 := k3
    show W p l e R s m args below meth c H locs (z_tl S M - t0) (z_ss M - s0) Q (F0 m pc ls (.int i :: rest.map (zE X)))
    refine W.anewA (t := .int) hG.1 hG.2.1 hG.2.2.2.1 (hG.2.2.2.2.1.use hw args) (hG.2.2.2.2.1.use ho args) rfl hd rfl g0.1 (by omega) (by omega) (by omega) (fun cA kA comp hfc _ _ _ => ?_)
    have hfc2 := (hG.2.2.2.2.2.1.1.2 19 (by omega) (by omega)).2.1
    have hcA : cA = X.2.2.2.2 19 := Option.some.inj (hfc.symm.trans hfc2)
    subst hcA
    refine z_newA hS hG.2.2.2.2.2.2.1 ⟨by omega, by omega⟩ a1 a2 a3 a4 a5 a6 k1 ?_ (by simp) (fun q hq => by rw [Array.getElem?_push, if_neg (Nat.ne_of_lt hq)])
    rw [show (fun _ : Nat => defaultValue (z_ty 19)) = fun _ => Value.null from rfl, ← arrV_new]
    simp
  · cases h
theorem s_instanceof {al no : List Nat} {index : Nat} (hd : decode cc pc = .ok (.instanceof index, 3)) (hw : Cond.classLink own index "RollPlayer$Coupler" ∈ lw_tbl) (hal : al = [2]) (hno : no.all (fun t => match vwCl[t]? with | some q => decide (q.1 ∈ z_nc) && decide (t < 12) | none => false) = true) : zSnd X S n0 mts cc own nL ini ret pc (aIs (pc + 3) al no) := by
  intro p l e R s m args below meth c hG d t0 s0 Q r kc cl lc st M h hk hc h1 h2 h3 h4 hE H locs ls a1 a2 a3 a4 a5 a6
  subst hal
  unfold aIs at h
  split at h
  · next a rest =>
    obtain ⟨g0, g2⟩ := z_gg_spec h
    have a1 : zRep X S n0 M H := a1
    have kk := (hk _ g2).1 H locs ls a1 a2 a3 a4 a5 a6
    rw [Bool.or_eq_true] at g0
    by_cases hz : a = 0
    · subst hz
      have e0 : z_cls S M 0 [2] = false := by
        cases hh : z_cls S M 0 [2]
        · rfl
        · obtain ⟨g, e1, e2⟩ := z_cls_spec hh
          have := a1.2.2.2.2 g e1
          rw [List.mem_singleton] at e2
          omega
      rw [e0] at kk
      exact lv_instN hG.1 hG.2.1 hd kk
    · have g1 : z_cls S M a ([2] ++ no) = true := by
        rcases g0 with g0 | g0
        · exact absurd (Nat.eq_of_beq_eq_true g0) hz
        · exact g0
      obtain ⟨g, e1, e2⟩ := z_cls_spec g1
      show W p l e R s m args below meth c H locs _ _ Q (F0 m pc ls (zE X (.ref a) :: _))
      rw [zE_ref X (Nat.pos_of_ne_zero hz)]
      by_cases h2 : g.1 = 2
      · have e0 : z_cls S M a [2] = true := by unfold z_cls; rw [e1]; exact (z_mem_iff _ _).mpr (by rw [h2]; exact List.mem_singleton.mpr rfl)
        rw [e0] at kk
        obtain ⟨ha, ⟨cell, q1, q2, q3, -⟩, -⟩ := a1.obj (by omega) e1
        have hKn := hG.2.2.2.2.2.1.1.1 2 _ (rfl : vwCl[2]? = some (RX2, TX2, 7))
        rw [h2] at q2
        exact va_instS hG.1 hG.2.1 hG.2.2.2.1 (hG.2.2.2.2.1.use hw args) hKn.2 ⟨cell, q1, by rw [q3]; rfl, by rw [q2]; exact hKn.2.1⟩ hd kk
      · have e3 : g.1 ∈ no := by
          rcases List.mem_append.mp e2 with e2 | e2
          · exact absurd (List.mem_singleton.mp e2) h2
          · exact e2
        have e0 : z_cls S M a [2] = false := by
          unfold z_cls; rw [e1]
          show z_mem g.1 [2] = false
          cases hh : z_mem g.1 [2]
          · rfl
          · exact absurd (List.mem_singleton.mp ((z_mem_iff _ _).mp hh)) h2
        rw [e0] at kk
        have hn := List.all_eq_true.mp hno _ e3
        split at hn
        · next q hq =>
          rw [Bool.and_eq_true, decide_eq_true_eq, decide_eq_true_eq] at hn
          obtain ⟨ha, ⟨cell, q1, q2, q3, -⟩, -⟩ := a1.obj hn.2 e1
          have hKn := hG.2.2.2.2.2.1.1.1 g.1 _ hq
          exact va_instNo (C := q.1) hG.1 hG.2.1 hG.2.2.2.1 (hG.2.2.2.2.1.use hw args) (hG.2.2.2.2.1.2 _ hn.1) ⟨cell, q1, by rw [q3]; rfl, by rw [q2]; exact hKn.2.1⟩ hd kk
        · cases hn
  · cases h
theorem s_checkcast {index : Nat} (hd : decode cc pc = .ok (.checkcast index, 3)) (hw : Cond.classLink own index "RollPlayer$Coupler" ∈ lw_tbl) : zSnd X S n0 mts cc own nL ini ret pc (aCast (pc + 3) [2]) := by
  intro p l e R s m args below meth c hG d t0 s0 Q r kc cl lc st M h hk hc h1 h2 h3 h4 hE H locs ls a1 a2 a3 a4 a5 a6
  unfold aCast at h
  split at h
  · next a rest =>
    obtain ⟨g0, g2⟩ := z_gg_spec h
    have a1 : zRep X S n0 M H := a1
    have kk := (hk _ g2).1 H locs ls a1 a2 a3 a4 a5 a6
    obtain ⟨g, e1, e2⟩ := z_cls_spec g0
    have h2 : g.1 = 2 := List.mem_singleton.mp e2
    obtain ⟨ha, ⟨cell, q1, q2, q3, -⟩, -⟩ := a1.obj (by omega) e1
    have hKn := hG.2.2.2.2.2.1.1.1 2 _ (rfl : vwCl[2]? = some (RX2, TX2, 7))
    rw [h2] at q2
    have kk : W p l e R s m args below meth c H locs _ _ Q (F0 m (pc + 3) ls (zE X (.ref a) :: _)) := kk
    show W p l e R s m args below meth c H locs _ _ Q (F0 m pc ls (zE X (.ref a) :: _))
    rw [zE_ref X ha] at kk ⊢
    exact va_castS hG.1 hG.2.1 hG.2.2.2.1 (hG.2.2.2.2.1.use hw args) hKn.2 ⟨cell, q1, by rw [q3]; rfl, by rw [q2]; exact hKn.2.1⟩ hd kk
  · cases h
theorem z_words_eq : ∀ (st : List Value), z_words st = ((st.map (zE X)).map fun v => v.category).sum
  | [] => rfl
  | v :: r => by simp [z_words, z_words_eq r, z_cat_eq, zE_cat]
theorem s_raw {index : Nat} (hd : decode cc pc = .ok (.invokestatic index, 3)) (hw : Cond.methodLink own index ⟨"java/lang/Double", "doubleToRawLongBits", "(D)J"⟩ ∈ lw_tbl) (hw2 : Cond.native ⟨"java/lang/Double", "doubleToRawLongBits", "(D)J"⟩ ∈ lw_tbl) (hw3 : Cond.static ⟨"java/lang/Double", "doubleToRawLongBits", "(D)J"⟩ ∈ lw_tbl) (hw4 : Cond.initialized "java/lang/Double" ∈ lw_tbl) : zSnd X S n0 mts cc own nL ini ret pc (aRaw (pc + 3)) := by
  intro p l e R s m args below meth c hG d t0 s0 Q r kc cl lc st M h hk hc h1 h2 h3 h4 hE H locs ls a1 a2 a3 a4 a5 a6
  unfold aRaw at h
  split at h
  · next x rest =>
    obtain ⟨g0, g2⟩ := z_gg_spec h
    have hle := Nat.le_of_ble_eq_true g0
    rw [z_words_eq (X := X)] at hle
    have hW := hG.2.2.2.2.1
    exact vn_d2l hG.1 hG.2.1 (hG.2.2.1.trans a2.1.symm) hG.2.2.2.1 (hW.use hw args) (hW.use hw2 args) (hW.use hw3 args) (hW.use hw4 args) (by omega) (by omega) hd ((hk _ g2).1 H locs ls a1 a2 a3 a4 a5 a6)
  · cases h
theorem z_fits_spec {M : zM} {a b : Nat} {sp dp i : Int32} (h : z_fits S M a b sp dp i = true) : ∃ t m0 m1, z_hd S M a = some (t, m0) ∧ z_hd S M b = some (t, m1) ∧ (t = 12 ∨ t = 14) ∧ ¬ sp < 0 ∧ ¬ dp < 0 ∧ ¬ i < 0 ∧ sp.toNatClampNeg + i.toNatClampNeg ≤ m0 ∧ dp.toNatClampNeg + i.toNatClampNeg ≤ m1 := by
  unfold z_fits at h
  split at h
  · next g k hg hk =>
    simp only [Bool.and_eq_true, Bool.or_eq_true, decide_eq_true_eq] at h
    obtain ⟨⟨⟨⟨⟨⟨h1, h2⟩, h3⟩, h4⟩, h5⟩, h6⟩, h7⟩ := h
    obtain ⟨t, m0⟩ := g
    obtain ⟨t', m1⟩ := k
    have e : t = t' := Nat.eq_of_beq_eq_true h1
    subst e
    exact ⟨t, m0, m1, hg, hk, h2.imp Nat.eq_of_beq_eq_true Nat.eq_of_beq_eq_true, h3, h4, h5, Nat.le_of_ble_eq_true h6, Nat.le_of_ble_eq_true h7⟩
  · cases h
theorem z_int_nn {z : Int32} (hz : ¬ z < 0) : z.toInt = (z.toNatClampNeg : Int) := by
  have hz0 : (0 : Int) ≤ z.toInt := by
    have := Int32.not_lt.mp hz
    simpa using Int32.le_iff_toInt_le.mp this
  show z.toInt = ((z.toInt.toNat : Nat) : Int)
  omega
theorem s_copy {index : Nat} (hd : decode cc pc = .ok (.invokestatic index, 3)) (hw : Cond.methodLink own index arraycopyName ∈ lw_tbl) (hw2 : Cond.native arraycopyName ∈ lw_tbl) (hw3 : Cond.static arraycopyName ∈ lw_tbl) (hw4 : Cond.initialized "java/lang/System" ∈ lw_tbl) : zSnd X S n0 mts cc own nL ini ret pc (aCopy (pc + 3)) := by
  intro p l e R s m args below meth c hG d t0 s0 Q r kc cl lc st M h hk hc h1 h2 h3 h4 hE H locs ls a1 a2 a3 a4 a5 a6
  unfold aCopy at h
  split at h
  · next i dp b sp a rest =>
    obtain ⟨g0, g2⟩ := z_gg_spec h
    have a1 : zRep X S n0 M H := a1
    rw [Bool.and_eq_true, Bool.and_eq_true, z_beq_eq] at g0
    obtain ⟨gw, gb, gf⟩ := g0
    have hle := Nat.le_of_ble_eq_true gw
    rw [z_words_eq (X := X)] at hle
    have hb56 : b ≠ 56 := by simpa using gb
    obtain ⟨t, m0, m1, e0, e1, ht, c1, c2, c3, c4, c5⟩ := z_fits_spec gf
    have ht16 : 12 ≤ t ∧ t < 16 ∧ t ≠ 13 := by omega
    obtain ⟨ha, hca, hfa⟩ := a1.arr ht16.1 (by omega) e0
    obtain ⟨hb, hcb, hfb⟩ := a1.arr ht16.1 (by omega) e1
    have hbs := a1.base hG.2.2.2.2.2.2.1 hb e1 (Or.inr hb56)
    have ea : z_elem X S M t a = fun j => .int (zI M a j) := funext fun j => z_elem_int ht16.2.1 ht16.2.2
    have eb : z_elem X S M t b = fun j => .int (zI M b j) := funext fun j => z_elem_int ht16.2.1 ht16.2.2
    rw [ea] at hca
    rw [eb] at hcb
    have hW := hG.2.2.2.2.1
    have hArr := (hG.2.2.2.2.2.1.1.2 t ht16.1 (by omega)).1
    obtain ⟨-, k0, hk0, cm0, hkk0⟩ := hArr m0 (fun j => .int (zI M a j))
    obtain ⟨-, k1, hk1, cm1, hkk1⟩ := hArr m1 (fun j => .int (zI M b j))
    show W p l e R s m args below meth c H locs _ _ Q (F0 m pc ls (.int i :: .int dp :: zE X (.ref b) :: .int sp :: zE X (.ref a) :: rest.map (zE X)))
    rw [zE_ref X ha, zE_ref X hb]
    intro T hT Y
    obtain ⟨vm', Y', step⟩ := Y.arraycopy hG.1 hG.2.2.2.1 (hW.use hw args) (hW.use hw2 args) (hW.use hw3 args) (hW.use hw4 args) (src := X.1 a) (dst := X.1 b) (cs := arrV (X.2.2.2.2 t) m0 (fun j => .int (zI M a j))) (cd := arrV (X.2.2.2.2 t) m1 (fun j => .int (zI M b j))) (srcPos := sp) (destPos := dp) (n := i) (by rw [hT]; exact hca) (by rw [hT]; exact hcb)
      (fun _ h => by cases h) (fun _ h => by cases h) (fun h => by cases h) (fun h => by cases h) hk0 hk1 hkk0 hkk1 (by rcases ht with rfl | rfl <;> simp [z_ty, refKind]) c1 c2 c3
      (by rw [z_int_nn c1, z_int_nn c3, arrV_size]; omega)
      (by rw [z_int_nn c2, z_int_nn c3, arrV_size]; omega)
      (fun vm₁ _ j hj => by
        have ej : (arrV (X.2.2.2.2 t) m0 (fun j => .int (zI M a j))).slots.getD (sp.toNatClampNeg + j) .null = .int (zI M a (sp.toNatClampNeg + j)) := by
          rw [Array.getD_eq_getD_getElem?, arrV_read _ _ (by omega)]
          rfl
        refine ⟨?_, ?_⟩
        · rw [ej]
          rcases ht with rfl | rfl
          · exact hfa rfl _
          · rfl
        · rw [ej]
          exact trivial)
      (g := F0 m pc ls (.int i :: .int dp :: .ref (X.1 b) :: .int sp :: .ref (X.1 a) :: rest.map (zE X))) rfl (a2.1.trans hG.2.2.1.symm) (rest := rest.map (zE X)) rfl (by rw [hG.2.1]; exact hd) (by omega) (by
        have hn : nativeFrameWords "java/lang/System" "arraycopy" 5 ≤ 40 := by decide
        show 2 * 0 + _ + _ ≤ _
        omega)
    have ec : copied (arrV (X.2.2.2.2 t) m0 (fun j => .int (zI M a j))) (arrV (X.2.2.2.2 t) m1 (fun j => .int (zI M b j))) sp dp i = arrV (X.2.2.2.2 t) m1 (fun j => .int (va_cpy (zI M a) (zI M b) sp.toNatClampNeg dp.toNatClampNeg i.toNatClampNeg j)) := va_copied (fun z => .int z) _ _ _ _ c4
    rw [ec] at Y' step
    have hl : X.1 b < H.size := (Array.getElem?_eq_some_iff.mp hcb).1
    have hheap : ((T.setVm vm').setCell (X.1 b) (arrV (X.2.2.2.2 t) m1 (fun j => .int (va_cpy (zI M a) (zI M b) sp.toNatClampNeg dp.toNatClampNeg i.toNatClampNeg j)))).heap = H.setIfInBounds (X.1 b) (arrV (X.2.2.2.2 t) m1 (fun j => .int (va_cpy (zI M a) (zI M b) sp.toNatClampNeg dp.toNatClampNeg i.toNatClampNeg j))) := by rw [← hT]; rfl
    have hrd : ∀ k, zI (z_cpy M a b sp.toNatClampNeg dp.toNatClampNeg i.toNatClampNeg) b k = va_cpy (zI M a) (zI M b) sp.toNatClampNeg dp.toNatClampNeg i.toNatClampNeg k := fun k => by
      unfold va_cpy
      show (if b = b ∧ dp.toNatClampNeg ≤ k ∧ k < dp.toNatClampNeg + i.toNatClampNeg then zI M a (sp.toNatClampNeg + (k - dp.toNatClampNeg)) else zI M b k) = _
      by_cases hc : dp.toNatClampNeg ≤ k ∧ k < dp.toNatClampNeg + i.toNatClampNeg
      · rw [if_pos ⟨rfl, hc⟩, if_pos hc]
      · rw [if_neg (fun z => hc z.2), if_neg hc]
    have oq : ∀ q : Nat, q ≠ X.1 b → (H.setIfInBounds (X.1 b) (arrV (X.2.2.2.2 t) m1 (fun j => .int (va_cpy (zI M a) (zI M b) sp.toNatClampNeg dp.toNatClampNeg i.toNatClampNeg j))))[q]? = H[q]? := fun q hq => by simp [Array.getElem?_setIfInBounds, Ne.symm hq]
    obtain ⟨tt, b1, b2⟩ := (hk _ g2).1 (H.setIfInBounds (X.1 b) (arrV (X.2.2.2.2 t) m1 (fun j => .int (va_cpy (zI M a) (zI M b) sp.toNatClampNeg dp.toNatClampNeg i.toNatClampNeg j)))) _ ls (a1.upd (M' := z_cpy M a b sp.toNatClampNeg dp.toNatClampNeg i.toNatClampNeg) hG.2.2.2.2.2.2.1 rfl hb (fun x k hx => by show (if x = b ∧ _ then _ else _) = _; rw [if_neg (fun z => hx z.1)]; rfl) (fun _ _ _ => rfl) (fun _ _ _ => rfl) (by simp) oq (fun h0 hh => by
        cases e1.symm.trans hh
        refine Or.inr (Or.inl ⟨ht16.1, by show t < 20; omega, ?_, fun h12 k => ?_⟩)
        · rw [show z_elem X S (z_cpy M a b sp.toNatClampNeg dp.toNatClampNeg i.toNatClampNeg) t b = fun j => .int (va_cpy (zI M a) (zI M b) sp.toNatClampNeg dp.toNatClampNeg i.toNatClampNeg j) from funext fun k => by rw [z_elem_int ht16.2.1 ht16.2.2, hrd]]
          simp [Array.getElem?_setIfInBounds, hl]
        · rw [hrd]
          unfold va_cpy
          split
          · exact hfa h12 _
          · exact hfb h12 _)) a2 (fun x hx => by
        rcases List.mem_append.mp hx with hx | hx
        · exact a3 x hx
        · obtain ⟨j, -, hz⟩ := List.mem_map.mp hx
          rw [← hz]
          exact hbs) (fun x hx => by rw [oq x (fun z => Nat.not_le.mpr hx (z ▸ hbs))]; exact a4 x hx) a5 a6 _ hheap Y'
    exact ⟨tt, step tt b1, b2⟩
  · cases h
theorem s_objinit {index : Nat} (hd : decode cc pc = .ok (.invokespecial index, 3)) (hw : Cond.methodLink own index Lib.objectInit ∈ lw_tbl) (hw2 : Cond.instanceMethod Lib.objectInit ∈ lw_tbl) (hw3 : Cond.code Lib.objectInit ⟨#[0xb1]⟩ 1 none ∈ lw_tbl) : zSnd X S n0 mts cc own nL ini ret pc (aObj (pc + 3)) := by
  intro p l e R s m args below meth c hG d t0 s0 Q r kc cl lc st M h hk hc h1 h2 h3 h4 hE H locs ls a1 a2 a3 a4 a5 a6
  unfold aObj at h
  split at h
  · next a rest =>
    obtain ⟨g0, g2⟩ := z_gg_spec h
    rw [Bool.and_eq_true, z_beq_eq] at g0
    have hle := Nat.le_of_ble_eq_true g0.1
    rw [z_words_eq (X := X)] at hle
    have ha : 0 < a := Nat.pos_of_ne_zero (fun z => by rw [z] at g0; exact absurd g0.2 (by decide))
    have hW := hG.2.2.2.2.1
    show W p l e R s m args below meth c H locs _ _ Q (F0 m pc ls (zE X (.ref a) :: _))
    rw [zE_ref X ha]
    exact W.objInit hG.1 hG.2.1 hG.2.2.2.1 (hW.use hw args) (hW.use hw2 args) (hW.use hw3 args) rfl (a2.1.trans hG.2.2.1.symm) rfl hd (by omega) (by show 2 * 0 + _ + 12 ≤ _; omega) ((hk _ g2).1 H locs ls a1 a2 a3 a4 a5 a6)
  · cases h
end SN
