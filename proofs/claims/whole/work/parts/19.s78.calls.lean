/-! the calls -/
theorem z_wd_same {u U : State} (hv : u.vm = U.vm) (h : zWd u) : zWd U := by
  refine ⟨fun w hw => ?_, fun C hC => va_Nc.moved (by rw [hv]; exact Vm.Alike.refl _) (h.2 C hC)⟩
  have h1 := List.all_eq_true.mp z_tbl_wk w hw
  have hb := h.1 w hw
  by_cases ho : w.onTables = true
  · exact va_tabs ho hv hb
  · cases w <;> first | exact absurd h1 ho | skip
    · unfold Cond.before Cond.holds at hb ⊢
      simp only [Cond.value] at hb ⊢
      rw [← hv]
      exact hb
    · unfold Cond.before Cond.holds at hb ⊢
      simp only [Cond.value] at hb ⊢
      rw [← hv]
      exact hb
section SN
variable {X : zX} {S : zS} {n0 : Nat} {mts : List (MethodName × ByteArray × Nat × Option FieldType)} {cc : ByteArray} {own : String} {nL : Nat} {ini : Bool} {ret : Option FieldType} {pc n : Nat}
variable {p : Program} {l : Launch} {e : Env} {R : Room} {s : State} {m : MethodId} {args : Array Value} {below : List Frame} {meth : Method} {c : Code} {H : Heap} {locs : List Loc} {cells slots t0 s0 : Nat} {Q : State → Prop} {ls : Array Slot}
theorem zPc_blind {as : List Value} {M : zM} : FrameBlind (zPc X S n0 as M) := fun a U g mk q => ⟨q.1, q.2.1, z_wd_same (u := U) (U := U.calling g mk a) rfl q.2.2.1, zK.moved (u := U) (U := U.calling g mk a) (Vm.Alike.refl U.vm) q.2.2.2⟩
theorem zPc_at {as : List Value} {M : zM} (hR : zRep X S n0 M H) (hW : zWd s) (hK : zK X s) (U : State) (hU : U.heap = H) (hw : s.WarmedH U.vm) : zPc X S n0 as M (as.map (zE X)).toArray U := ⟨rfl, by rw [hU]; exact hR, hW.warm hw, hK.moved hw.alike⟩
/-- what every call's words come to -/
def z_cw (own : String) (y : MethodName) (bytes : ByteArray) (mx : Nat) (rt : Option FieldType) (na : Nat) : Prop := Cond.code y bytes mx rt ∈ lw_tbl ∧ Cond.initialized y.cls ∈ lw_tbl ∧ (y.cls ≠ "java/lang/invoke/MethodHandle" ∧ y.cls ≠ "java/lang/invoke/VarHandle") ∧ (parseMethodDescriptor y.desc).map (fun d => d.parameters.length) = some na ∧ mx ≤ 45
theorem z_cw_len {y : MethodName} {bytes : ByteArray} {mx na : Nat} {rt : Option FieldType} (h : z_cw own y bytes mx rt na) : ∀ sig, parseMethodDescriptor y.desc = some sig → na = sig.parameters.length := by
  intro sig hs
  have h2 := h.2.2.2.1
  rw [hs] at h2
  exact (Option.some.inj h2).symm
theorem z_cw_warm {y : MethodName} {bytes : ByteArray} {mx na : Nat} {rt : Option FieldType} (h : z_cw own y bytes mx rt na) (hW : zWd s) : ∀ w ∈ [Cond.code y bytes mx rt], ∀ (a' : Array Value) (U : State), s.WarmedH U.vm → w.before a' U = true := by
  intro w hw a' U hw2
  rw [List.mem_singleton] at hw
  subst hw
  exact (hW.warm hw2).use h.1 a'
theorem z_recv_spec {as : List Value} {a : Nat} (h : z_recv as = a) (ha : 0 < a) : ∃ ps, as = .ref a :: ps := by
  unfold z_recv at h
  split at h
  · next b ps => exact ⟨ps, by rw [h]⟩
  · omega
theorem s_callS {index ty mi na mx : Nat} {y : MethodName} {bytes : ByteArray} {rt : Option FieldType} (hd : decode cc pc = .ok (.invokestatic index, 3)) (hm : z_nth mts mi = some (y, bytes, mx, rt)) (hcw : z_cw own y bytes mx rt na) (hl : Cond.methodLink own index y ∈ lw_tbl) (hst : Cond.static y ∈ lw_tbl) : zSnd X S n0 mts cc own nL ini ret pc (aCall (pc + 3) ty mi na) := by
  intro p l e R s m args below meth c hG d t0 s0 Q r kc cl lc st M h hk hc h1 h2 h3 h4 hE H locs ls a1 a2 a3 a4 a5 a6
  unfold aCall at h
  split at h
  · next w hw =>
    obtain ⟨pre, p1, p2, p3⟩ := z_take_spec _ _ _ _ hw
    obtain ⟨as, rest⟩ := w
    obtain ⟨g0, q, F', c1, c2, rfl⟩ := z_cl_spec h
    obtain ⟨b1, b2, b3⟩ := hk _ c2
    obtain ⟨m1, m2, m3⟩ := hc _ _ _ _ c1
    have hM := m1 y bytes mx rt hm
    have b2 : z_tl S q.2 ≤ z_tl S r.2 := b2
    have b3 : z_ss q.2 ≤ z_ss r.2 := b3
    have m2 : z_tl S M ≤ z_tl S q.2 := m2
    have m3 : z_ss M ≤ z_ss q.2 := m3
    have a5 : t0 ≤ z_tl S M := a5
    have a6 : s0 ≤ z_ss M := a6
    have a1 : zRep X S n0 M H := a1
    have hle := Nat.le_of_ble_eq_true g0
    rw [z_words_eq (X := X)] at hle
    have p2 : st = pre ++ rest := p2
    have p3 : as = pre.reverse := by have : as = pre.reverse ++ [] := p3; simpa using this
    subst p3
    have hWd := hG.2.2.2.2.1
    refine z_callW (q := q) (rest := rest) (st := st) (M := M) (a := ((pre.reverse).map (zE X)).toArray) hG.2.2.2.2.2.2.1 ?_ a2 a3 a4 a5 a6 m2 m3 b1
    refine va_runS (Ts := lw_tbl) (own := own) (cc := cc) (nL := nL) (index := index) (n := na) (As := (pre.reverse).map (zE X)) ⟨hG.1, hG.2.1, hG.2.2.1, hG.2.2.2.1, hWd.all args⟩ hM ⟨⟨rfl, rfl, h3, ?_, z_cw_warm hcw hWd, List.mem_singleton.mpr rfl, hWd.use hcw.1 args, hWd.use hcw.2.1 args, hcw.2.2.1, z_cw_len hcw, hWd.use hl args⟩, hWd.use hst args⟩ ⟨zPc_blind, zPc_at a1 hWd hG.2.2.2.2.2.1⟩ rfl (by simp [p1]) a2.1 (by rw [p2]; simp) (lv_room hle) hd ⟨by omega, by omega⟩
    show 8 + (mx + 11) + 64 * d ≤ R.locals
    have := hcw.2.2.2.2
    omega
  · cases h
/-- what stands at a receiver's place -/
theorem z_recvC {M : zM} {a : Nat} {g : Nat × Nat} (hG : zq_zG X n0 p s m meth c cc own nL ini) (hR : zRep X S n0 M H) (hg : z_hd S M a = some g) (h12 : g.1 < 12) {q : vw_C} (hq : vwCl[g.1]? = some q) : 0 < a ∧ ClassAt s q.1 (X.2.2.1 g.1) ∧ ∃ cell : Cell, H[X.1 a]? = some cell ∧ cell.vm.isStatics = false ∧ s.vm.findClass q.1 = some cell.cls := by
  obtain ⟨ha, ⟨cell, q1, q2, q3, -⟩, -⟩ := hR.obj h12 hg
  have hKn := hG.2.2.2.2.2.1.1.1 g.1 _ hq
  exact ⟨ha, hKn.2, cell, q1, by rw [q3]; rfl, by rw [q2]; exact hKn.2.1⟩
/-- which way a call on an object of class C goes: by its own method, by an inherited or overriding one, by a nest mate's constructor, by a superclass's method -/
def z_way (own C : String) (index : Nat) (y : MethodName) (ins : Instr) : Prop :=
  (ins = .invokevirtual index ∧ Cond.methodLink own index y ∈ lw_tbl ∧ Cond.instanceMethod y ∈ lw_tbl ∧ Cond.selects C y y ∈ lw_tbl) ∨
  (ins = .invokevirtual index ∧ ∃ (x : MethodName) (owner : String), x.desc = y.desc ∧ Cond.methodLink own index x ∈ lw_tbl ∧ Cond.sameMethod x.cls owner x.name x.desc ∈ lw_tbl ∧ (owner ≠ "java/lang/invoke/MethodHandle" ∧ owner ≠ "java/lang/invoke/VarHandle") ∧ ((Cond.instanceMethod ⟨owner, x.name, x.desc⟩ ∈ lw_tbl ∧ ∃ b0 m0 r0, Cond.code ⟨owner, x.name, x.desc⟩ b0 m0 r0 ∈ lw_tbl) ∨ Cond.declares ⟨owner, x.name, x.desc⟩ ∈ lw_tbl) ∧ Cond.selects C x y ∈ lw_tbl ∧ Cond.instanceMethod y ∈ lw_tbl) ∨
  (ins = .invokespecial index ∧ y.name = "<init>" ∧ Cond.instanceMethod y ∈ lw_tbl ∧ (Cond.methodLink own index y ∈ lw_tbl ∨ ∃ host, Cond.methodLinkNest own index y host ∈ lw_tbl)) ∨
  (ins = .invokespecial index ∧ y.name ≠ "<init>" ∧ ∃ up : String, Cond.methodLink own index ⟨up, y.name, y.desc⟩ ∈ lw_tbl ∧ Cond.sameMethod up y.cls y.name y.desc ∈ lw_tbl ∧ Cond.superclass own up ∈ lw_tbl ∧ (up = y.cls ∨ Cond.superclass up y.cls ∈ lw_tbl) ∧ Cond.instanceMethod y ∈ lw_tbl)
theorem z_callSU {T : State} {locs : List Loc} {cells slots : Nat} (Y : Stand p l e R s m args below meth c T locs cells slots) (hexec : p.tables.exec = Jvm.exec) {own up : String} {index : Nat} {y : MethodName} {bytes : ByteArray} {maxL : Nat} {ret : Option FieldType}
    (hown : s.vm.findClass own = some m.cls) (hlink : (Cond.methodLink own index ⟨up, y.name, y.desc⟩).before args s = true) (hsame : (Cond.sameMethod up y.cls y.name y.desc).before args s = true) (hsup : (Cond.superclass own up).before args s = true) (hsup2 : up = y.cls ∨ (Cond.superclass up y.cls).before args s = true)
    (hinst : (Cond.instanceMethod y).before args s = true) (hcode : (Cond.code y bytes maxL ret).before args s = true) (hno : y.name ≠ "<init>")
    {W : Nat} {Pre : Pt → Array Value → Prop} {Post : Pt → Array Value → Option Value → Pt → Prop} (hK : Back l R p e below s args y 3 W Pre Post)
    {b : Addr} {cellB : Cell} {kB : Class} (hcell : T.heap[b]? = some cellB) (hobj : cellB.vm.isStatics = false) (hkB : s.vm.classes[cellB.cls]? = some kB)
    {g : JFrame} (hg : g.method = m) (hsize : g.locals.size = c.maxLocals) {argsL rest : List Value} (hlen : ∀ sig, parseMethodDescriptor y.desc = some sig → argsL.length = sig.parameters.length)
    (hstack : g.stack = argsL.reverse ++ .ref b :: rest) (hW : 2 * g.monitorRoom + (rest.map fun v => v.category).sum ≤ W) (hdg : decode c.code g.pc = .ok (.invokespecial index, 3))
    (hpre : ∀ vm₁, s.WarmedH vm₁ → Pre ⟨T.setVm vm₁, locs, cells, slots⟩ (Value.ref b :: argsL).toArray) :
    ∃ (v : Option Value) (vm₁ : Vm) (B : Pt), s.WarmedH vm₁ ∧ Stand p l e R s m args below meth c B.U B.locs B.cells B.slots ∧ Post ⟨T.setVm vm₁, locs, cells, slots⟩ (Value.ref b :: argsL).toArray v B ∧
      ∀ target, Steps p.tables e below (B.U.setTop { g with pc := g.pc + 3, stack := v.toList ++ rest }) target → Steps p.tables e below (T.setTop g) target := by
  obtain ⟨mk, methM, hnamed, hmethM, hstM, habM⟩ := Cond.instanceMethod_spec hinst
  obtain ⟨methM', cM, hmethM', -, -, -, -, -, -, hsigM⟩ := Cond.code_spec hnamed hcode
  cases hmethM.symm.trans hmethM'
  obtain ⟨ps, dk, kp, hps, hdk, hkp, hsuper, -, -, hnid⟩ := Cond.superclass_spec hown hsup
  have hn : s.methodNamed? ⟨y.cls, y.name, y.desc⟩ = some mk := hnamed
  have hpm := findClass_of_methodNamed hnamed
  have hsub : s.vm.isSubclass ps mk.cls = true := by
    rcases hsup2 with rfl | hsup2
    · have hpm : ps = mk.cls := Option.some.inj (hps.symm.trans hpm)
      rw [hpm]; simp [Vm.isSubclass, Vm.isSubclassAux]
    · obtain ⟨ps2, dk2, kp2, hps2, hdk2, hkp2, hsuper2, -⟩ := Cond.superclass_spec hps hsup2
      have hpm : ps2 = mk.cls := Option.some.inj (hps2.symm.trans hpm)
      have hz : 0 < s.vm.classes.size := Nat.lt_of_le_of_lt (Nat.zero_le _) (Array.getElem?_eq_some_iff.mp hdk2).1
      obtain ⟨z, hz⟩ : ∃ z, s.vm.classes.size = z + 1 := ⟨s.vm.classes.size - 1, by omega⟩
      unfold Vm.isSubclass
      rw [hz]
      simp only [Vm.isSubclassAux, hdk2, hsuper2, hpm]
      simp
  obtain ⟨vm₁, X₁, hstep₁⟩ := Y.invokespecialUp (x := ⟨up, y.name, y.desc⟩) (owner := y.cls) hexec hown hlink hsame hn hmethM hstM habM hno hdk hnid hps hsuper hsub (a := b) (cell := cellB) hcell
    (fun z h => by rw [h] at hobj; cases hobj) hkB (g := g) hg (argsL := argsL) (rest := rest) (hlen _ hsigM) hstack hdg
  obtain ⟨v, B, X', hpost, hsteps⟩ := hK m meth c ⟨T.setVm vm₁, locs, cells, slots⟩ { g with stack := rest } (.invokespecial index) mk (Value.ref b :: argsL).toArray X₁ hg hsize hdg hW (X₁.named hnamed) (hpre vm₁ X₁.warmed)
  exact ⟨v, vm₁, B, X₁.warmed, X', hpost, fun target h => hstep₁ _ (by rw [doInvoke_state]; exact hsteps.trans h)⟩
theorem z_runX {index na mx d : Nat} {y : MethodName} {bytes : ByteArray} {rt : Option FieldType} {ins : Instr} {M : zM} {q : Option Value × zM} {a : Nat} {C : String} {cC : ClassId} {ps rest st : List Value} (hG : zq_zG X n0 p s m meth c cc own nL ini) (hR : zRep X S n0 M H) (hat : ClassAt s C cC) (ha : 0 < a) (hcell : ∃ cell : Cell, H[X.1 a]? = some cell ∧ cell.vm.isStatics = false ∧ s.vm.findClass C = some cell.cls) (hcw : z_cw own y bytes mx rt na) (hway : z_way own C index y ins) (hni : y.name = "<init>" → rt = none) (hd : decode cc pc = .ok (ins, 3))
    (hM : zCall X S n0 l d y bytes mx rt (.ref a :: ps) M q) (hn : ps.length = na) (hsz : ls.size = nL) (hst : st.map (zE X) = (ps.map (zE X)).reverse ++ .ref (X.1 a) :: rest.map (zE X)) (hle : ((rest.map (zE X)).map fun v => v.category).sum ≤ 8) (h3 : d + 1 ≤ R.frames) (h4 : 64 * (d + 1) ≤ R.locals) (hf : cells + (z_tl S q.2 - z_tl S M) ≤ R.cells ∧ slots + (z_ss q.2 - z_ss M) ≤ R.slots) :
    va_Run p l e R s m args below meth c H locs cells slots (z_tl S q.2 - z_tl S M) (z_ss q.2 - z_ss M) (F0 m pc ls (st.map (zE X))) (rest.map (zE X)) (zQc X S n0 q (Value.ref (X.1 a) :: ps.map (zE X)).toArray) (fun b => X.2.1 ≤ b) := by
  have hWd := hG.2.2.2.2.1
  have hF : CallFix p m c cc nL s args lw_tbl own := ⟨hG.1, hG.2.1, hG.2.2.1, hG.2.2.2.1, hWd.all args⟩
  have hloc : 8 + (mx + 11) + 64 * d ≤ R.locals := by have := hcw.2.2.2.2; omega
  have hwarm := z_cw_warm (s := s) hcw hWd
  have hlen := z_cw_len hcw
  have hmem : Cond.code y bytes mx rt ∈ [Cond.code y bytes mx rt] := List.mem_singleton.mpr rfl
  have hPV : PreV s H C (X.1 a) (zPc X S n0 (.ref a :: ps) M) (ps.map (zE X)) := by
    refine ⟨zPc_blind, hcell, fun U hU hw => ?_⟩
    have := zPc_at (as := .ref a :: ps) hR hWd hG.2.2.2.2.2.1 U hU hw
    rw [List.map_cons, zE_ref X ha] at this
    exact this
  have hPS : PreS s H (zPc X S n0 (.ref a :: ps) M) (.ref (X.1 a) :: ps.map (zE X)) := ⟨zPc_blind, hPV.2.2⟩
  have hn' : (ps.map (zE X)).length = na := by simp [hn]
  have hroom : 2 * (F0 m pc ls (st.map (zE X))).monitorRoom + ((rest.map (zE X)).map fun v => v.category).sum ≤ 8 := lv_room hle
  rcases hway with ⟨rfl, w1, w2, w3⟩ | ⟨rfl, x, owner, hxd, w1, w2, w3, w4, w5, w6⟩ | ⟨rfl, w1, w2, w3⟩ | ⟨rfl, w1, up, w2, w3, w4, w5, w6⟩
  · exact va_runV (C := C) (n := na) hF hM ⟨⟨rfl, rfl, h3, hloc, hwarm, hmem, hWd.use hcw.1 args, hWd.use hcw.2.1 args, hcw.2.2.1, hlen, hWd.use w1 args⟩, hWd.use w2 args, hWd.use w3 args⟩ hPV rfl hn' hsz hst hroom hd hf
  · refine va_runU (C := C) (owner := owner) (x := x) (n := na) (bytes := bytes) (maxL := mx) (ret := rt) hF hM ⟨⟨rfl, rfl, h3, hloc, hwarm, hmem⟩, hWd.use hcw.1 args, hWd.use hcw.2.1 args, w3, by rw [hxd]; exact hlen, hWd.use w1 args, hWd.use w2 args, ?_, hWd.use w5 args, hWd.use w6 args⟩ hPV rfl hn' hsz hst hroom hd hf
    rcases w4 with ⟨w4, b0, m0, r0, w7⟩ | w4
    · exact va_Decl.of (hWd.use w4 args) (hWd.use w7 args)
    · exact va_Decl.abs (hWd.use w4 #[])
  · have hrt := hni w1
    subst hrt
    rcases w3 with w3 | ⟨host, w3⟩
    · exact va_runI (n := na) hF hM ⟨⟨rfl, rfl, h3, hloc, hwarm, hmem, hWd.use hcw.1 args, hWd.use hcw.2.1 args, hcw.2.2.1, hlen, hWd.use w3 args⟩, w1, hWd.use w2 args⟩ hPS rfl hn' hsz hst hroom hd hf
    · exact va_runIN (n := na) (host := host) hF hM ⟨⟨⟨rfl, rfl, h3, hloc, hwarm, hmem⟩, hWd.use hcw.1 args, hWd.use hcw.2.1 args, hcw.2.2.1, hlen, hWd.use w3 args⟩, w1, hWd.use w2 args⟩ hPS rfl hn' hsz hst hroom hd hf
  · have hK : Back l R p e below s args y 3 8 (PreOf R (z_tl S q.2 - z_tl S M) (z_ss q.2 - z_ss M) (zPc X S n0 (.ref a :: ps) M)) (PostOf (zQc X S n0 q) (z_tl S q.2 - z_tl S M) (z_ss q.2 - z_ss M) (fun b => X.2.1 ≤ b)) := back_of (bytes := bytes) (maxL := mx) (ret := rt) hM zPc_blind rfl rfl h3 hloc hwarm hmem (fun a' U hW => (hWd.warm hW).use hcw.2.1 a')
    obtain ⟨-, ⟨cellB, hcB, hoB, hclB⟩, hPc⟩ := hPV
    obtain ⟨hfc, kB, hkB, -⟩ := hat
    cases hfc.symm.trans hclB
    intro T hT Y
    obtain ⟨v, vm₁, ⟨U', l2, c2, s2⟩, hW₁, X', ⟨g', mk, t, L, e1, e2, hq, h1, hL, h2, h3⟩, st⟩ := z_callSU Y hG.1 (bytes := bytes) (maxL := mx) (ret := rt) hG.2.2.2.1 (hWd.use w2 args) (hWd.use w3 args) (hWd.use w4 args) (w5.imp (fun z => z) (fun z => hWd.use z args)) (hWd.use w6 args) (hWd.use hcw.1 args) w1 hK (by rw [hT]; exact hcB) hoB hkB (g := F0 m pc ls (st.map (zE X))) rfl (hsz.trans hG.2.2.1.symm) (argsL := ps.map (zE X)) (rest := rest.map (zE X)) (fun sig h => hn'.trans (hlen sig h)) hst hroom (by rw [hG.2.1]; exact hd)
      (fun vm₁ hW₁ => ⟨hf.1, hf.2, hPc (T.setVm vm₁) hT hW₁⟩)
    dsimp only [Pt.U, Pt.locs, Pt.cells, Pt.slots] at X' e1 e2 h1 h2 h3 st
    subst h1; subst h2; subst h3
    exact ⟨v, (T.setVm vm₁).calling g' mk (Value.ref (X.1 a) :: ps.map (zE X)).toArray, t, U', L, hT, X', hL, e1, e2, hq, st⟩
end SN
section SN
variable {X : zX} {S : zS} {n0 : Nat} {mts : List (MethodName × ByteArray × Nat × Option FieldType)} {cc : ByteArray} {own : String} {nL : Nat} {ini : Bool} {ret : Option FieldType} {pc n : Nat}
/-- a call on an object: by each kind that the receiver may be of, which method, and its words -/
def z_okU1 (mts : List (MethodName × ByteArray × Nat × Option FieldType)) (own : String) (index na : Nat) (ins : Instr) (t mi : Nat) : Prop := ∃ (q : vw_C) (y : MethodName) (bytes : ByteArray) (mx : Nat) (rt : Option FieldType), vwCl[t]? = some q ∧ t < 12 ∧ z_nth mts mi = some (y, bytes, mx, rt) ∧ z_cw own y bytes mx rt na ∧ z_way own q.1 index y ins ∧ (y.name = "<init>" → rt = none)
theorem z_callX {index na mi : Nat} {ins : Instr} {g : Nat × Nat} {p : Program} {l : Launch} {e : Env} {R : Room} {s : State} {m : MethodId} {args : Array Value} {below : List Frame} {meth : Method} {c : Code} (hG : zq_zG X n0 p s m meth c cc own nL ini) {d t0 s0 : Nat} {Q : State → Prop} {r : Option Value × zM} {kc : zF → zR} {cl : Nat → List Value → zM → zR} {lc : List (Option Value)} {st : List Value} {M : zM} {as rest : List Value} (hd : decode cc pc = .ok (ins, 3))
    (htk : z_take (na + 1) [] st = some (as, rest)) (hw : Nat.ble (z_words rest) 8 = true) (hg : z_hd S M (z_recv as) = some g) (hok : z_okU1 mts own index na ins g.1 mi) {q : Option Value × zM} (c1 : cl mi as M = some q) (c2 : kc (pc + 3, lc, q.1.toList ++ rest, q.2) = some r)
    (hk : ∀ F' : zF, kc F' = some r → zq_zW X S n0 nL p l e R s m args below meth c t0 s0 Q F' ∧ z_tl S F'.2.2.2 ≤ z_tl S r.2 ∧ z_ss F'.2.2.2 ≤ z_ss r.2) (hc : zCl X S n0 l d mts cl) (h1 : z_tl S r.2 - t0 ≤ R.cells) (h2 : z_ss r.2 - s0 ≤ R.slots) (h3 : d + 1 ≤ R.frames) (h4 : 64 * (d + 1) ≤ R.locals) : zq_zW X S n0 nL p l e R s m args below meth c t0 s0 Q (pc, lc, st, M) := by
  intro H locs ls a1 a2 a3 a4 a5 a6
  obtain ⟨pre, p1, p2, p3⟩ := z_take_spec _ _ _ _ htk
  obtain ⟨b1, b2, b3⟩ := hk _ c2
  obtain ⟨m1, m2, m3⟩ := hc _ _ _ _ c1
  obtain ⟨qc, y, bytes, mx, rt, o1, o2, o3, o4, o5, o6⟩ := hok
  have hM := m1 y bytes mx rt o3
  have b2 : z_tl S q.2 ≤ z_tl S r.2 := b2
  have b3 : z_ss q.2 ≤ z_ss r.2 := b3
  have a5 : t0 ≤ z_tl S M := a5
  have a6 : s0 ≤ z_ss M := a6
  have a1 : zRep X S n0 M H := a1
  have hle := Nat.le_of_ble_eq_true hw
  rw [z_words_eq (X := X)] at hle
  have p2 : st = pre ++ rest := p2
  have p3 : as = pre.reverse := by have : as = pre.reverse ++ [] := p3; simpa using this
  obtain ⟨ha, hat, hcell⟩ := z_recvC hG a1 hg o2 o1
  obtain ⟨ps, hps⟩ := z_recv_spec rfl ha
  generalize z_recv as = a at ha hat hcell hps hg
  subst hps
  have hpre : pre = ps.reverse ++ [.ref a] := by
    have := congrArg List.reverse p3
    simpa using this.symm
  have hstm : st.map (zE X) = (ps.map (zE X)).reverse ++ .ref (X.1 a) :: rest.map (zE X) := by
    rw [p2, hpre]
    simp [zE_ref X ha]
  have hlen : ps.length = na := by
    have := p1
    rw [hpre] at this
    simpa using this
  have hrun := z_runX (l := l) (e := e) (R := R) (args := args) (below := below) (locs := locs) (cells := z_tl S M - t0) (slots := z_ss M - s0) (ls := ls) (pc := pc) (st := st) (rest := rest) hG a1 hat ha hcell o4 o5 o6 hd hM hlen a2.1 hstm hle h3 h4 ⟨by omega, by omega⟩
  exact z_callW (q := q) (rest := rest) (st := st) (M := M) hG.2.2.2.2.2.2.1 hrun a2 a3 a4 a5 a6 m2 m3 b1
theorem s_callV {index ty mi na : Nat} {ins : Instr} {al : List Nat} (hd : decode cc pc = .ok (ins, 3)) (hok : ∀ t ∈ al, z_okU1 mts own index na ins t mi) : zSnd X S n0 mts cc own nL ini ret pc (aCallV (pc + 3) ty mi (na + 1) al) := by
  intro p l e R s m args below meth c hG d t0 s0 Q r kc cl lc st M h hk hc h1 h2 h3 h4 hE
  unfold aCallV at h
  split at h
  · next w hw =>
    obtain ⟨as, rest⟩ := w
    obtain ⟨g0, q, F', c1, c2, rfl⟩ := z_cl_spec h
    rw [Bool.and_eq_true] at g0
    obtain ⟨g, e1, e2⟩ := z_cls_spec g0.2
    exact z_callX hG hd hw g0.1 e1 (hok _ e2) c1 c2 hk hc h1 h2 h3 h4
  · cases h
theorem z_has_spec : ∀ (l : List (Nat × Nat)) (t : Nat), z_has l t = true → (t, z_sel l t) ∈ l
  | [], t, h => by cases h
  | q :: r, t, h => by
    unfold z_has at h
    unfold z_sel
    rw [z_beq_eq] at h ⊢
    by_cases e : q.1 = t
    · rw [decide_eq_true e]
      subst e
      exact List.mem_cons_self
    · rw [decide_eq_false e] at h ⊢
      exact List.mem_cons_of_mem _ (z_has_spec r t h)
theorem s_callU {index ty na : Nat} {ins : Instr} {l : List (Nat × Nat)} (hd : decode cc pc = .ok (ins, 3)) (hok : ∀ t ∈ l, z_okU1 mts own index na ins t.1 t.2) : zSnd X S n0 mts cc own nL ini ret pc (aCallU (pc + 3) ty (na + 1) l) := by
  intro p lq e R s m args below meth c hG d t0 s0 Q r kc cl lc st M h hk hc h1 h2 h3 h4 hE
  unfold aCallU at h
  split at h
  · next w hw =>
    obtain ⟨as, rest⟩ := w
    obtain ⟨g0, q, F', c1, c2, rfl⟩ := z_cl_spec h
    rw [Bool.and_eq_true] at g0
    have g1 := g0.2
    unfold z_okU at g1
    split at g1
    · next g hg =>
      have e2 := z_has_spec _ _ g1
      have hsel : z_selU S M (z_recv as) l = z_sel l g.1 := by
        unfold z_selU
        rw [show z_hd S M (z_recv as) = some g from hg]
      rw [show z_selU S M (z_recv (as, rest).1) l = z_sel l g.1 from hsel] at c1
      exact z_callX hG hd hw g0.1 hg (hok (g.1, z_sel l g.1) e2) c1 c2 hk hc h1 h2 h3 h4
    · cases g1
  · cases h
end SN
