/-! THE TOP: a call by its run; rows of the law's first lines, over locals of their own -/
section TP
variable {X : zX} {S : zS} {n0 : Nat} {mts : List (MethodName × ByteArray × Nat × Option FieldType)} {cc : ByteArray} {own : String} {nL : Nat} {ini : Bool} {ret : Option FieldType} {pc : Nat}
variable {p : Program} {l : Launch} {e : Env} {R : Room} {s : State} {m : MethodId} {args : Array Value} {below : List Frame} {meth : Method} {c : Code} {H : Heap} {locs : List Loc} {cells slots t0 s0 : Nat} {Q : State → Prop} {ls : Array Slot}
theorem t_call (hok : ∀ mi, z_okn X S n0 mts mi) (hm : ∀ mi, z_monm mi) (hX : zXok X n0) {n d m2 : Nat} {as : List Value} {M1 : zM} {q : Option Value × zM} (hfit : Nat.ble (z_sl as).length (z_mx m2) = true) (hq : z_run S n d m2 (z_ent m2 as M1) = some q) {y2 : MethodName} {cc2 : ByteArray} {mx2 : Nat} {ret2 : Option FieldType} (hm2 : z_nth mts m2 = some (y2, cc2, mx2, ret2)) : zCall X S n0 l (d + 1) y2 cc2 mx2 ret2 as M1 q ∧ z_tl S M1 ≤ z_tl S q.2 ∧ z_ss M1 ≤ z_ss q.2 := by
  have hg := z_run_gr S hm n d m2 _ q hq
  refine ⟨?_, hg.1, hg.2⟩
  obtain ⟨p1, p2, p3⟩ := hok m2 y2 cc2 mx2 ret2 hm2
  refine z_ofW (cc := cc2) (maxL := mx2) (ret := ret2) p1 rfl ?_
  intro p' e' s' m' args' below' meth' c' s₁ B hml hv
  obtain ⟨rfl, hR, hW, hK⟩ := hv
  have hr := B.returns
  have hlocks := B.notSynchronized
  have hG' : zq_zG X n0 p' s' m' meth' c' cc2 y2.cls mx2 (decide (y2.name = "<init>")) := ⟨B.exec, B.bytes, hml, findClass_of_methodNamed B.named, hW, hK, hX, fun hi => by rw [(name_of_methodNamed B.named B.method).1]; exact of_decide_eq_true hi⟩
  have hz := z_run_snn X S n0 mts hok hm hX n d m2 _ q hq y2 cc2 mx2 ret2 hm2 p' l e' (z_rm (d + 1) (z_tl S q.2 - z_tl S M1) (z_ss q.2 - z_ss M1)) s' m' (as.map (zE X)).toArray below' meth' c' hG' (z_tl S M1) (z_ss M1) (MQ below' (zQc X S n0 q) (as.map (zE X)).toArray s' (z_tl S q.2 - z_tl S M1) (z_ss q.2 - z_ss M1) (fun a => X.2.1 ≤ a)) (Nat.le_refl _) (Nat.le_refl _) (Nat.le_refl _) (Nat.le_refl _) ?_
  · have hen := z_ent_has X (as := as) (mx := mx2) (by rw [← p2]; exact Nat.le_of_ble_eq_true hfit)
    have hw := hz s'.heap [] _ hR (by show zLH X mx2 (z_pad (z_mx m2) (z_sl as)) _; rw [p2]; exact hen) (fun q hq => by cases hq) (fun q _ => rfl) (Nat.le_refl _) (Nat.le_refl _)
    rw [lg_entry_eq]
    have hw : W p' l e' _ s' m' _ below' meth' c' s'.heap [] (z_tl S M1 - z_tl S M1) (z_ss M1 - z_ss M1) _ _ := hw
    rw [Nat.sub_self, Nat.sub_self] at hw
    exact hw
  · intro H locs ls pc ins hd hret hR2 hl2 ho2 ht2 hs2
    have hq2 : ∀ t : State, t.heap = H → s'.WarmedH t.vm → zQc X S n0 q (as.map (zE X)).toArray s' (.returned (q.1.map (zE X))) t := fun t ht _ => ⟨rfl, by rw [ht]; exact hR2, fun a ha => by rw [ht]; exact ho2 a ha⟩
    obtain ⟨v, Mq⟩ := q
    rcases hret with ⟨rfl, x, rfl, hx | ⟨hx, hb⟩⟩ | ⟨rfl, hx, x, rfl⟩ | ⟨rfl, hx, x, rfl⟩ | ⟨rfl, ⟨nm, hx⟩, x, rfl⟩ | ⟨rfl, hx, rfl⟩
    · exact W.iret B.exec B.bytes (by rw [hr, hx]) hq2 hl2 hd hlocks
    · exact W.zret (ty := .boolean) B.exec B.bytes (by rw [hr, hx]) (by show Value.int (x &&& 1) = _; rw [hb]) hq2 hl2 hd hlocks
    · exact W.lret B.exec B.bytes (by rw [hr, hx]) hq2 hl2 hd hlocks
    · exact W.dret B.exec B.bytes (by rw [hr, hx]) hq2 hl2 hd hlocks
    · exact W.aret (rt := .object nm) B.exec B.bytes (by rw [hr, hx]) (Or.inl ⟨nm, rfl⟩) (by cases x with | zero => exact Or.inl rfl | succ x => exact Or.inr ⟨_, rfl⟩) hq2 hl2 hd hlocks
    · exact W.vret B.exec B.bytes (by rw [hr, hx]) hq2 hl2 hd hlocks
theorem t_new {tg sz index : Nat} {C : String} {T : u_T} {st : List Value} {M : zM} (hG : zq_zG X n0 p s m meth c cc own nL ini) (hS : zSok S) (hd : decode cc pc = .ok (.new index, 3)) (hw : Cond.classLink own index C ∈ lw_tbl) (hi : Cond.instantiable C sz ∈ lw_tbl) (hini : Cond.initialized C ∈ lw_tbl) (hq : vwCl[tg]? = some (C, T, sz)) (a1 : zRep X S n0 M H) (a4 : ∀ q : Nat, q < X.2.1 → H[q]? = s.heap[q]?) (a5 : t0 ≤ z_tl S M) (a6 : s0 ≤ z_ss M) (r1 : z_tl S M - t0 + 1 ≤ R.cells) (r2 : z_ss M - s0 + sz ≤ R.slots)
    (k : ∀ H1 : Heap, zRep X S n0 (z_nw S M (tg, sz)) H1 → (∀ q : Nat, q < X.2.1 → H1[q]? = s.heap[q]?) → W p l e R s m args below meth c H1 locs (z_tl S (z_nw S M (tg, sz)) - t0) (z_ss (z_nw S M (tg, sz)) - s0) Q (F0 m (pc + 3) ls (zE X (.ref (z_new S M)) :: st.map (zE X)))) : W p l e R s m args below meth c H locs (z_tl S M - t0) (z_ss M - s0) Q (F0 m pc ls (st.map (zE X))) := by
  obtain ⟨f1, f2, ty, f3, f4⟩ := z_facts _ _ hq
  have hKn := hG.2.2.2.2.2.1.1.1 tg _ hq
  have hW := hG.2.2.2.2.1
  have ht12 : tg < 12 := by
    have := (List.getElem?_eq_some_iff.mp hq).1
    simpa [vwCl] using this
  refine W.newcK hG.1 hG.2.1 hG.2.2.2.1 (hW.use hw args) (hW.use hi args) (hW.use hini args) rfl hd r1 r2 hKn.2.1 rfl fun H1 kC hkC e1 z1 o1 => ?_
  have had : H.size = X.1 (z_new S M) := a1.1
  have kk := k H1 (a1.nw hG.2.2.2.2.2.2.1 (by exact z1) o1 (fun a g ha hg => a1.lt ha hg) (fun k => hS _ _ (by unfold z_new; omega)) ?_) (fun q hq2 => ?_)
  · rw [z_tl_nw, z_ss_nw, zE_ref X (by have := hG.2.2.2.2.2.2.1.2.2.2.1; have := a1.2.1; unfold z_new; unfold z_tl at this; omega), ← had, show z_tl S M + 1 - t0 = z_tl S M - t0 + 1 by omega, show z_ss M + (tg, sz).2 - s0 = z_ss M - s0 + sz by show z_ss M + sz - s0 = _; omega] at kk
    exact kk
  · refine Or.inl ⟨ht12, ?_, _, hq, rfl⟩
    rw [← had]
    refine (u_born ty (hW.all args) f1 hKn hkC e1 f4).to (fun k hk2 => ?_)
    have hdf := z_defs_ok tg _ hq
    unfold z_defs at hdf
    rw [f3] at hdf
    have hdf := of_decide_eq_true (List.all_eq_true.mp hdf k (List.mem_range.mpr hk2))
    rw [hdf]
    obtain ⟨c1, c2, c3⟩ := z_nw_zero hS M (tg, sz) k
    show z_dv (z_fk tg k) = z_cell X S (z_nw S M (tg, sz)) tg (z_new S M) k
    unfold z_cell z_dv
    rw [c1, c2, c3]
    generalize z_fk tg k = w
    match w with
    | 0 => rfl
    | 1 => rfl
    | w + 2 => rfl
  · have hb : X.2.1 ≤ H.size := by
      rw [had]
      by_cases e56 : z_new S M = 56
      · rcases hG.2.2.2.2.2.2.1.2.2.2.2 with hx | hx
        · have := a1.2.1; unfold z_tl at this; unfold z_new at e56; omega
        · rw [e56]; exact hx
      · refine hG.2.2.2.2.2.2.1.2.2.1 _ ?_ e56
        have h1 := hG.2.2.2.2.2.2.1.2.2.2.1
        have h2 := a1.2.1
        unfold z_new; unfold z_tl at h2; omega
    rw [o1 q (by omega)]
    exact a4 q hq2
theorem t_cal {M : zM} {q : Option Value × zM} {rest st : List Value} {a : Array Value} (hr : va_Run p l e R s m args below meth c H locs (z_tl S M - t0) (z_ss M - s0) (z_tl S q.2 - z_tl S M) (z_ss q.2 - z_ss M) (F0 m pc ls (st.map (zE X))) (rest.map (zE X)) (zQc X S n0 q a) (fun b => X.2.1 ≤ b))
    (a3 : ∀ q ∈ locs, X.2.1 ≤ q.base) (a4 : ∀ b : Nat, b < X.2.1 → H[b]? = s.heap[b]?) (a5 : t0 ≤ z_tl S M) (a6 : s0 ≤ z_ss M) (b5 : z_tl S M ≤ z_tl S q.2) (b6 : z_ss M ≤ z_ss q.2)
    (kk : ∀ (H' : Heap) (locs' : List Loc), zRep X S n0 q.2 H' → (∀ q ∈ locs', X.2.1 ≤ q.base) → (∀ b : Nat, b < X.2.1 → H'[b]? = s.heap[b]?) → W p l e R s m args below meth c H' locs' (z_tl S q.2 - t0) (z_ss q.2 - s0) Q (F0 m (pc + 3) ls ((q.1.toList ++ rest).map (zE X)))) : W p l e R s m args below meth c H locs (z_tl S M - t0) (z_ss M - s0) Q (F0 m pc ls (st.map (zE X))) := by
  intro T hT Y
  obtain ⟨v, st₀, t, T', L, h0, Y', hL, e1, e2, ⟨hq1, hq2, hq3⟩, go⟩ := hr T hT Y
  have hv : v = q.1.map (zE X) := Outcome.returned.inj hq1
  rw [show z_tl S M - t0 + (z_tl S q.2 - z_tl S M) = z_tl S q.2 - t0 by omega, show z_ss M - s0 + (z_ss q.2 - z_ss M) = z_ss q.2 - s0 by omega] at Y'
  obtain ⟨t2, c1, c2⟩ := kk T'.heap (locs ++ L) (by rw [e1]; exact hq2) (fun x hx => by
    rcases List.mem_append.mp hx with hx | hx
    · exact a3 x hx
    · exact hL x hx) (fun x hx => by rw [e1, hq3 x hx, h0]; exact a4 x hx) T' rfl Y'
  refine ⟨t2, go t2 ?_, c2⟩
  have hst : v.toList ++ rest.map (zE X) = (q.1.toList ++ rest).map (zE X) := by
    rw [hv]
    cases q.1 <;> rfl
  show Steps p.tables e below (T'.setTop (F0 m (pc + 3) ls (v.toList ++ rest.map (zE X)))) t2
  rw [hst]
  exact c1
theorem t_sr {q : Fin 4} {i x : Nat} {lc : List (Option Value)} {rest : List Value} (hx : p.tables.exec = Jvm.exec) (hb : c.code = cc) (hd : decode cc pc = .ok (.astore_n q, 1)) (hi : (q : Nat) = i) (hn : i < nL) (a2 : zLH X nL lc ls) (h0 : 0 < x)
    (k : ∀ ls', zLH X nL (z_s1 lc i (.ref x)) ls' → W p l e R s m args below meth c H locs cells slots Q (F0 m (pc + 1) ls' rest)) : W p l e R s m args below meth c H locs cells slots Q (F0 m pc ls (.ref (X.1 x) :: rest)) := by
  obtain ⟨ls', e', h'⟩ := a2.st1 hn (v := .ref x) rfl
  rw [zE_ref X h0] at e'
  subst hi
  intro T hT Y
  obtain ⟨t, a, b⟩ := k ls' h' T hT Y
  refine ⟨t, ?_, b⟩
  jvm_step Y.here [Y.here.top, ↓top_set Y.here.top, hx, hb, hd, e', Value.isRef]
  exact a
theorem t_si {q : Fin 4} {i : Nat} {x : Int32} {lc : List (Option Value)} {rest : List Value} (hx : p.tables.exec = Jvm.exec) (hb : c.code = cc) (hd : decode cc pc = .ok (.istore_n q, 1)) (hi : (q : Nat) = i) (hn : i < nL) (a2 : zLH X nL lc ls)
    (k : ∀ ls', zLH X nL (z_s1 lc i (.int x)) ls' → W p l e R s m args below meth c H locs cells slots Q (F0 m (pc + 1) ls' rest)) : W p l e R s m args below meth c H locs cells slots Q (F0 m pc ls (.int x :: rest)) := by
  obtain ⟨ls', e', h'⟩ := a2.st1 hn (v := .int x) rfl
  have e' : storeLocals ls i (.int x) = some ls' := e'
  subst hi
  intro T hT Y
  obtain ⟨t, a, b⟩ := k ls' h' T hT Y
  refine ⟨t, ?_, b⟩
  jvm_step Y.here [Y.here.top, ↓top_set Y.here.top, hx, hb, hd, e']
  exact a
end TP
