/-! the same for methods of classes some of whose other methods the machine runs by itself (java/lang/Math) -/
theorem z_ofW {l : Launch} {y : MethodName} {ws ws' : List Cond} {rm : Room} {Pc : Array Value → State → Prop} {Qc : Array Value → State → Outcome → State → Prop} {mc ms : Nat} {free : Addr → Prop} {cc : ByteArray} {maxL : Nat} {ret : Option FieldType}
    (hy : plainFor y = true) (hw : ws = Cond.code y cc maxL ret :: ws')
    (body : ∀ p e s m args below meth c s₁, BodyLoose p l y (headSpec ws rm) cc maxL ret e s m args below meth c s₁ → c.maxLocals = maxL → Pc args s →
      W p l e (headSpec ws rm).room s m args below meth c s.heap [] 0 0 (MQ below Qc args s mc ms free) (entryFrame m args maxL)) : Met l y ws rm Pc Qc mc ms free := by
  refine MetFree.of_bodyRF (code := cc) (maxLocals := maxL) (ret := ret) hy ?_ ?_
  · intro args s m h hn
    obtain ⟨meth, c, h1, h2, h3, h4, h5, h6, -, -⟩ := Cond.code_spec hn (atoms_spec (ws := ws) h _ (by rw [hw]; exact List.mem_cons_self))
    exact ⟨meth, c, h1, h2, h3, h4, h5, h6⟩
  · intro p e s m args below meth c s₁ B hml hP _ hst
    have hh0 : s₁.heap = s.heap := by rw [B.state]; rfl
    obtain ⟨t, a1, o, b1, b2, b3⟩ := body p e s m args below meth c s₁ B hml hP s₁ hh0 (Stand.of_body B)
    exact ⟨t, o, hst.trans a1, b1, b2, ⟨b3.1, b3.2⟩⟩
/-- a method's table is sound: its rows, what it is called by -/
def z_okn (X : zX) (S : zS) (n0 : Nat) (mts : List (MethodName × ByteArray × Nat × Option FieldType)) (mi : Nat) : Prop :=
  ∀ y cc mx ret, z_nth mts mi = some (y, cc, mx, ret) → plainFor y = true ∧ z_mx mi = mx ∧ (∀ q ∈ z_tab mi, zSnd X S n0 mts cc y.cls mx (decide (y.name = "<init>")) ret q.1 q.2)
theorem z_run_snn (X : zX) (S : zS) (n0 : Nat) (mts : List (MethodName × ByteArray × Nat × Option FieldType)) (hok : ∀ mi, z_okn X S n0 mts mi) (hm : ∀ mi, z_monm mi) (hX : zXok X n0) : ∀ (n d mi : Nat) (F : zF) (r : Option Value × zM), z_run S n d mi F = some r →
    ∀ (y : MethodName) (cc : ByteArray) (mx : Nat) (ret : Option FieldType), z_nth mts mi = some (y, cc, mx, ret) → ∀ (p : Program) (l : Launch) (e : Env) (R : Room) (s : State) (m : MethodId) (args : Array Value) (below : List Frame) (meth : Method) (c : Code), zq_zG X n0 p s m meth c cc y.cls mx (decide (y.name = "<init>")) →
    ∀ (t0 s0 : Nat) (Q : State → Prop), z_tl S r.2 - t0 ≤ R.cells → z_ss r.2 - s0 ≤ R.slots → d + 1 ≤ R.frames → 64 * (d + 1) ≤ R.locals → zEnd X S n0 p l e R s m args below meth c cc ret t0 s0 Q r → zq_zW X S n0 mx p l e R s m args below meth c t0 s0 Q F
  | 0, d, mi, F, r, h => by cases h
  | n + 1, d, mi, F, r, h => by
    intro y cc mx ret hmt p l e R s m args below meth c hG t0 s0 Q h1 h2 h3 h4 hE
    obtain ⟨o1, o2, o3⟩ := hok mi y cc mx ret hmt
    unfold z_run at h
    unfold z_step at h
    split at h
    · next a ha =>
      obtain ⟨pc, lc, st, M⟩ := F
      have hs := o3 _ (z_row_mem _ _ _ ha)
      refine hs p l e R s m args below meth c hG d t0 s0 Q r _ _ lc st M h (fun F' hF => ?_) (fun m2 as M1 q hq => ?_) h1 h2 h3 h4 hE
      · exact ⟨z_run_snn X S n0 mts hok hm hX n d mi F' r hF y cc mx ret hmt p l e R s m args below meth c hG t0 s0 Q h1 h2 h3 h4 hE, (z_run_gr S hm n d mi F' r hF).1, (z_run_gr S hm n d mi F' r hF).2⟩
      · cases d with
        | zero => cases hq
        | succ d =>
          obtain ⟨hfit, hq⟩ := z_fit_some hq
          have hg := z_run_gr S hm n d m2 _ q hq
          refine ⟨fun y2 cc2 mx2 ret2 hm2 => ?_, hg.1, hg.2⟩
          obtain ⟨p1, p2, p3⟩ := hok m2 y2 cc2 mx2 ret2 hm2
          refine z_ofW (cc := cc2) (maxL := mx2) (ret := ret2) p1 rfl ?_
          intro p' e' s' m' args' below' meth' c' s₁ B hml hv
          obtain ⟨rfl, hR, hW, hK⟩ := hv
          have hr := B.returns
          have hlocks := B.notSynchronized
          have hG' : zq_zG X n0 p' s' m' meth' c' cc2 y2.cls mx2 (decide (y2.name = "<init>")) := ⟨B.exec, B.bytes, hml, findClass_of_methodNamed B.named, hW, hK, hX, fun hi => by rw [(name_of_methodNamed B.named B.method).1]; exact of_decide_eq_true hi⟩
          have hz := z_run_snn X S n0 mts hok hm hX n d m2 _ q hq y2 cc2 mx2 ret2 hm2 p' l e' (z_rm (d + 1) (z_tl S q.2 - z_tl S M1) (z_ss q.2 - z_ss M1)) s' m' (as.map (zE X)).toArray below' meth' c' hG' (z_tl S M1) (z_ss M1) (MQ below' (zQc X S n0 q) (as.map (zE X)).toArray s' (z_tl S q.2 - z_tl S M1) (z_ss q.2 - z_ss M1) (fun a => X.2.1 ≤ a)) (Nat.le_refl _) (Nat.le_refl _) (Nat.le_refl _) (Nat.le_refl _) ?_
          · have hen := z_ent_has X (as := as) (mx := mx2) (by rw [← p2]; exact Nat.le_of_ble_eq_true hfit)
            have hw := hz s'.heap [] _ hR (by show zLH X mx2 (z_pad (z_mx m2) (z_sl as)) _; rw [p2]; exact hen) (fun q hq => by cases hq) (fun q _ => rfl) (Nat.le_refl _) (Nat.le_refl _)
            rw [lg_entry_eq]
            have hw : W p' l e' _ s' m' _ below' meth' c' s'.heap [] (z_tl S M1 - z_tl S M1) (z_ss M1 - z_ss M1) _ _ := hw
            rw [Nat.sub_self, Nat.sub_self] at hw
            exact hw
          · intro H locs ls pc ins hd hret hR2 hl2 ho2 ht2 hs2
            have hq2 : ∀ t : State, t.heap = H → s'.WarmedH t.vm → zQc X S n0 q (as.map (zE X)).toArray s' (.returned (q.1.map (zE X))) t := fun t ht _ => ⟨rfl, by rw [ht]; exact hR2, fun a ha => by rw [ht]; exact ho2 a ha⟩
            obtain ⟨v, Mq⟩ := q
            rcases hret with ⟨rfl, x, rfl, hx | ⟨hx, hb⟩⟩ | ⟨rfl, hx, x, rfl⟩ | ⟨rfl, hx, x, rfl⟩ | ⟨rfl, ⟨nm, hx⟩, x, rfl⟩ | ⟨rfl, hx, rfl⟩
            · exact W.iret B.exec B.bytes (by rw [hr, hx]) hq2 hl2 hd hlocks
            · exact W.zret (ty := .boolean) B.exec B.bytes (by rw [hr, hx]) (by show Value.int (x &&& 1) = _; rw [hb]) hq2 hl2 hd hlocks
            · exact W.lret B.exec B.bytes (by rw [hr, hx]) hq2 hl2 hd hlocks
            · exact W.dret B.exec B.bytes (by rw [hr, hx]) hq2 hl2 hd hlocks
            · exact W.aret (rt := .object nm) B.exec B.bytes (by rw [hr, hx]) (Or.inl ⟨nm, rfl⟩) (by cases x with | zero => exact Or.inl rfl | succ x => exact Or.inr ⟨_, rfl⟩) hq2 hl2 hd hlocks
            · exact W.vret B.exec B.bytes (by rw [hr, hx]) hq2 hl2 hd hlocks
    · cases h
