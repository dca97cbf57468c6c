/-! ONE STEP OF THE SMALL MACHINE IS ONE OF THE REAL ONE'S -/
def zq_zG (X : zX) (n0 : Nat) (p : Program) (s : State) (m : MethodId) (meth : Method) (c : Code) (cc : ByteArray) (own : String) (nL : Nat) (ini : Bool) : Prop :=
  p.tables.exec = Jvm.exec ∧ c.code = cc ∧ c.maxLocals = nL ∧ s.vm.findClass own = some m.cls ∧ zWd s ∧ zK X s ∧ zXok X n0 ∧ (ini = true → meth.name = "<init>")
def zq_zW (X : zX) (S : zS) (n0 nL : Nat) (p : Program) (l : Launch) (e : Env) (R : Room) (s : State) (m : MethodId) (args : Array Value) (below : List Frame) (meth : Method) (c : Code) (t0 s0 : Nat) (Q : State → Prop) (F : zF) : Prop :=
  ∀ (H : Heap) (locs : List Loc) (ls : Array Slot), zRep X S n0 F.2.2.2 H → zLH X nL F.2.1 ls → (∀ q ∈ locs, X.2.1 ≤ q.base) → (∀ q : Nat, q < X.2.1 → H[q]? = s.heap[q]?) → t0 ≤ z_tl S F.2.2.2 → s0 ≤ z_ss F.2.2.2 →
    W p l e R s m args below meth c H locs (z_tl S F.2.2.2 - t0) (z_ss F.2.2.2 - s0) Q (F0 m F.1 ls (F.2.2.1.map (zE X)))
def z_rm (d mc ms : Nat) : Room := { frames := d, cells := mc, slots := ms, locals := 64 * d }
def zPc (X : zX) (S : zS) (n0 : Nat) (as : List Value) (M : zM) : Array Value → State → Prop := fun v U => v = (as.map (zE X)).toArray ∧ zRep X S n0 M U.heap ∧ zWd U ∧ zK X U
def zQc (X : zX) (S : zS) (n0 : Nat) (q : Option Value × zM) : Array Value → State → Outcome → State → Prop := fun _ st o t => o = .returned (q.1.map (zE X)) ∧ zRep X S n0 q.2 t.heap ∧ ∀ a : Nat, a < X.2.1 → t.heap[a]? = st.heap[a]?
def zCall (X : zX) (S : zS) (n0 : Nat) (l : Launch) (d : Nat) (y : MethodName) (cc : ByteArray) (mx : Nat) (ret : Option FieldType) (as : List Value) (M : zM) (q : Option Value × zM) : Prop :=
  Met l y [Cond.code y cc mx ret] (z_rm d (z_tl S q.2 - z_tl S M) (z_ss q.2 - z_ss M)) (zPc X S n0 as M) (zQc X S n0 q) (z_tl S q.2 - z_tl S M) (z_ss q.2 - z_ss M) (fun a => X.2.1 ≤ a)
def z_isRet (ret : Option FieldType) (ins : Instr) (v : Option Value) : Prop :=
  (ins = .ireturn ∧ ∃ x, v = some (.int x) ∧ (ret = some .int ∨ (ret = some .boolean ∧ x &&& 1 = x))) ∨ (ins = .lreturn ∧ ret = some .long ∧ ∃ x, v = some (.long x)) ∨ (ins = .dreturn ∧ ret = some .double ∧ ∃ x, v = some (.double x)) ∨
  (ins = .areturn ∧ (∃ n, ret = some (.object n)) ∧ ∃ a, v = some (.ref a)) ∨ (ins = .return_ ∧ ret = none ∧ v = none)
def zEnd (X : zX) (S : zS) (n0 : Nat) (p : Program) (l : Launch) (e : Env) (R : Room) (s : State) (m : MethodId) (args : Array Value) (below : List Frame) (meth : Method) (c : Code) (cc : ByteArray) (ret : Option FieldType) (t0 s0 : Nat) (Q : State → Prop) (r : Option Value × zM) : Prop :=
  ∀ (H : Heap) (locs : List Loc) (ls : Array Slot) (pc : Nat) (ins : Instr), decode cc pc = .ok (ins, 1) → z_isRet ret ins r.1 → zRep X S n0 r.2 H → (∀ q ∈ locs, X.2.1 ≤ q.base) → (∀ q : Nat, q < X.2.1 → H[q]? = s.heap[q]?) → t0 ≤ z_tl S r.2 → s0 ≤ z_ss r.2 →
    W p l e R s m args below meth c H locs (z_tl S r.2 - t0) (z_ss r.2 - s0) Q (F0 m pc ls (r.1.toList.map (zE X)))
def zCl (X : zX) (S : zS) (n0 : Nat) (l : Launch) (d : Nat) (mts : List (MethodName × ByteArray × Nat × Option FieldType)) (cl : Nat → List Value → zM → zR) : Prop :=
  ∀ (mi : Nat) (as : List Value) (M1 : zM) (q : Option Value × zM), cl mi as M1 = some q → (∀ y cc mx ret, z_nth mts mi = some (y, cc, mx, ret) → zCall X S n0 l d y cc mx ret as M1 q) ∧ z_tl S M1 ≤ z_tl S q.2 ∧ z_ss M1 ≤ z_ss q.2
/-- an act at pc, of a method with this code: sound -/
def zSnd (X : zX) (S : zS) (n0 : Nat) (mts : List (MethodName × ByteArray × Nat × Option FieldType)) (cc : ByteArray) (own : String) (nL : Nat) (ini : Bool) (ret : Option FieldType) (pc : Nat) (act : zA) : Prop :=
  ∀ (p : Program) (l : Launch) (e : Env) (R : Room) (s : State) (m : MethodId) (args : Array Value) (below : List Frame) (meth : Method) (c : Code), zq_zG X n0 p s m meth c cc own nL ini →
  ∀ (d t0 s0 : Nat) (Q : State → Prop) (r : Option Value × zM) (k : zF → zR) (cl : Nat → List Value → zM → zR) (lc : List (Option Value)) (st : List Value) (M : zM), z_on (act S lc st M) k cl = some r →
  (∀ F' : zF, k F' = some r → zq_zW X S n0 nL p l e R s m args below meth c t0 s0 Q F' ∧ z_tl S F'.2.2.2 ≤ z_tl S r.2 ∧ z_ss F'.2.2.2 ≤ z_ss r.2) → zCl X S n0 l d mts cl →
  z_tl S r.2 - t0 ≤ R.cells → z_ss r.2 - s0 ≤ R.slots → d + 1 ≤ R.frames → 64 * (d + 1) ≤ R.locals → zEnd X S n0 p l e R s m args below meth c cc ret t0 s0 Q r →
  zq_zW X S n0 nL p l e R s m args below meth c t0 s0 Q (pc, lc, st, M)
/-- a row of the kit that changes the stack alone -/
def zRow (cc : ByteArray) (own : String) (pc n : Nat) (st st' : List Value) : Prop :=
  ∀ (p : Program) (l : Launch) (e : Env) (R : Room) (s : State) (m : MethodId) (args : Array Value) (below : List Frame) (meth : Method) (c : Code) (H : Heap) (locs : List Loc) (cells slots : Nat) (Q : State → Prop) (ls : Array Slot),
  p.tables.exec = Jvm.exec → c.code = cc → s.vm.findClass own = some m.cls → zWd s → W p l e R s m args below meth c H locs cells slots Q (F0 m n ls st') → W p l e R s m args below meth c H locs cells slots Q (F0 m pc ls st)
section SN
variable {X : zX} {S : zS} {n0 : Nat} {mts : List (MethodName × ByteArray × Nat × Option FieldType)} {cc : ByteArray} {own : String} {nL : Nat} {ini : Bool} {ret : Option FieldType} {pc n : Nat}
theorem s_CI {v : Int32} (hr : ∀ rest, zRow cc own pc n rest (.int v :: rest)) : zSnd X S n0 mts cc own nL ini ret pc (aCI n v) := by
  intro p l e R s m args below meth c hG d t0 s0 Q r k cl lc st M h hk hc h1 h2 h3 h4 hE H locs ls a1 a2 a3 a4 a5 a6
  exact hr _ p l e R s m args below meth c H locs _ _ Q ls hG.1 hG.2.1 hG.2.2.2.1 hG.2.2.2.2.1 ((hk _ h).1 H locs ls a1 a2 a3 a4 a5 a6)
theorem s_CJ {v : Int64} (hr : ∀ rest, zRow cc own pc n rest (.long v :: rest)) : zSnd X S n0 mts cc own nL ini ret pc (aCJ n v) := by
  intro p l e R s m args below meth c hG d t0 s0 Q r k cl lc st M h hk hc h1 h2 h3 h4 hE H locs ls a1 a2 a3 a4 a5 a6
  exact hr _ p l e R s m args below meth c H locs _ _ Q ls hG.1 hG.2.1 hG.2.2.2.1 hG.2.2.2.2.1 ((hk _ h).1 H locs ls a1 a2 a3 a4 a5 a6)
theorem s_CD {v : UInt64} (hr : ∀ rest, zRow cc own pc n rest (.double v :: rest)) : zSnd X S n0 mts cc own nL ini ret pc (aCD n v) := by
  intro p l e R s m args below meth c hG d t0 s0 Q r k cl lc st M h hk hc h1 h2 h3 h4 hE H locs ls a1 a2 a3 a4 a5 a6
  exact hr _ p l e R s m args below meth c H locs _ _ Q ls hG.1 hG.2.1 hG.2.2.2.1 hG.2.2.2.2.1 ((hk _ h).1 H locs ls a1 a2 a3 a4 a5 a6)
theorem s_Null (hd : decode cc pc = .ok (.aconst_null, 1)) : zSnd X S n0 mts cc own nL ini ret pc (aNull (pc + 1)) := by
  intro p l e R s m args below meth c hG d t0 s0 Q r k cl lc st M h hk hc h1 h2 h3 h4 hE H locs ls a1 a2 a3 a4 a5 a6
  exact lv_null hG.1 hG.2.1 hd ((hk _ h).1 H locs ls a1 a2 a3 a4 a5 a6)
theorem s_iconst {v : Int32} {q : Int} (hd : decode cc pc = .ok (.iconst q, 1)) (hv : Int32.ofInt q = v) : zSnd X S n0 mts cc own nL ini ret pc (aCI (pc + 1) v) := s_CI fun _ _ _ _ _ _ _ _ _ _ _ _ _ _ _ _ _ hx hb _ _ k => lv_iconst hx hb hd hv k
theorem s_bipush {v : Int32} {q : Int} (hd : decode cc pc = .ok (.bipush q, 2)) (hv : (Int8.ofInt q).toInt32 = v) : zSnd X S n0 mts cc own nL ini ret pc (aCI (pc + 2) v) := s_CI fun _ _ _ _ _ _ _ _ _ _ _ _ _ _ _ _ _ hx hb _ _ k => lv_bipush hx hb hd hv k
theorem s_sipush {v : Int32} {q : Int} (hd : decode cc pc = .ok (.sipush q, 3)) (hv : (Int16.ofInt q).toInt32 = v) : zSnd X S n0 mts cc own nL ini ret pc (aCI (pc + 3) v) := s_CI fun _ _ _ _ _ _ _ _ _ _ _ _ _ _ _ _ _ hx hb _ _ k => lv_sipush hx hb hd hv k
theorem s_ldc {v : Int32} {i : Nat} (hd : decode cc pc = .ok (.ldc i, 2)) (hw : Cond.constant own i v ∈ lw_tbl) : zSnd X S n0 mts cc own nL ini ret pc (aCI (pc + 2) v) := s_CI fun _ _ _ _ _ _ _ args _ _ _ _ _ _ _ _ _ hx hb ho hW k => lv_ldc hx hb ho (hW.use hw _) hd k
theorem s_ldcw {v : Int32} {i : Nat} (hd : decode cc pc = .ok (.ldc_w i, 3)) (hw : Cond.constant own i v ∈ lw_tbl) : zSnd X S n0 mts cc own nL ini ret pc (aCI (pc + 3) v) := s_CI fun _ _ _ _ _ _ _ args _ _ _ _ _ _ _ _ _ hx hb ho hW k => lv_ldcw hx hb ho (hW.use hw _) hd k
theorem s_lconst {v : Int64} {q : Fin 2} (hd : decode cc pc = .ok (.lconst q, 1)) (hv : Int64.ofNat (q : Nat) = v) : zSnd X S n0 mts cc own nL ini ret pc (aCJ (pc + 1) v) := s_CJ fun _ _ _ _ _ _ _ _ _ _ _ _ _ _ _ _ _ hx hb _ _ k => lv_lconst hx hb hd hv k
theorem s_ldc2l {v : Int64} {i : Nat} (hd : decode cc pc = .ok (.ldc2_w i, 3)) (hw : Cond.constantLong own i v ∈ lw_tbl) : zSnd X S n0 mts cc own nL ini ret pc (aCJ (pc + 3) v) := s_CJ fun _ _ _ _ _ _ _ args _ _ _ _ _ _ _ _ _ hx hb ho hW k => lv_ldc2 hx hb ho (hW.use hw _) hd k
theorem s_dconst0 {v : UInt64} (hd : decode cc pc = .ok (.dconst 0, 1)) (hv : FP.dconst0 = v) : zSnd X S n0 mts cc own nL ini ret pc (aCD (pc + 1) v) := s_CD fun _ _ _ _ _ _ _ _ _ _ _ _ _ _ _ _ _ hx hb _ _ k => lv_dconst0 hx hb hd (hv ▸ k)
theorem s_dconst1 {v : UInt64} (hd : decode cc pc = .ok (.dconst 1, 1)) (hv : FP.dconst1 = v) : zSnd X S n0 mts cc own nL ini ret pc (aCD (pc + 1) v) := s_CD fun _ _ _ _ _ _ _ _ _ _ _ _ _ _ _ _ _ hx hb _ _ k => lv_dconst1 hx hb hd (hv ▸ k)
theorem s_ldc2d {v : UInt64} {i : Nat} (hd : decode cc pc = .ok (.ldc2_w i, 3)) (hw : Cond.constantDouble own i v ∈ lw_tbl) : zSnd X S n0 mts cc own nL ini ret pc (aCD (pc + 3) v) := s_CD fun _ _ _ _ _ _ _ args _ _ _ _ _ _ _ _ _ hx hb ho hW k => lv_ldc2d hx hb ho (hW.use hw _) hd k
/-! loads -/
theorem s_iload_n {q : Fin 4} {i : Nat} (hd : decode cc pc = .ok (.iload_n q, 1)) (hi : (q : Nat) = i) : zSnd X S n0 mts cc own nL ini ret pc (aLI (pc + 1) i) := by
  intro p l e R s m args below meth c hG d t0 s0 Q r k cl lc st M h hk hc h1 h2 h3 h4 hE H locs ls a1 a2 a3 a4 a5 a6
  unfold aLI at h
  split at h
  · next x hx => exact lv_iload_n hG.1 hG.2.1 hd hi (a2.2.2 i _ hx) ((hk _ h).1 H locs ls a1 a2 a3 a4 a5 a6)
  · cases h
theorem s_iload {i : Nat} (hd : decode cc pc = .ok (.iload i, 2)) : zSnd X S n0 mts cc own nL ini ret pc (aLI (pc + 2) i) := by
  intro p l e R s m args below meth c hG d t0 s0 Q r k cl lc st M h hk hc h1 h2 h3 h4 hE H locs ls a1 a2 a3 a4 a5 a6
  unfold aLI at h
  split at h
  · next x hx => exact lv_iload hG.1 hG.2.1 hd (a2.2.2 i _ hx) ((hk _ h).1 H locs ls a1 a2 a3 a4 a5 a6)
  · cases h
theorem s_lload_n {q : Fin 4} {i : Nat} (hd : decode cc pc = .ok (.lload_n q, 1)) (hi : (q : Nat) = i) : zSnd X S n0 mts cc own nL ini ret pc (aLJ (pc + 1) i) := by
  intro p l e R s m args below meth c hG d t0 s0 Q r k cl lc st M h hk hc h1 h2 h3 h4 hE H locs ls a1 a2 a3 a4 a5 a6
  unfold aLJ at h
  split at h
  · next x hx => exact lv_lload_n hG.1 hG.2.1 hd hi (a2.2.2 i _ hx) ((hk _ h).1 H locs ls a1 a2 a3 a4 a5 a6)
  · cases h
theorem s_lload {i : Nat} (hd : decode cc pc = .ok (.lload i, 2)) : zSnd X S n0 mts cc own nL ini ret pc (aLJ (pc + 2) i) := by
  intro p l e R s m args below meth c hG d t0 s0 Q r k cl lc st M h hk hc h1 h2 h3 h4 hE H locs ls a1 a2 a3 a4 a5 a6
  unfold aLJ at h
  split at h
  · next x hx => exact lv_lload hG.1 hG.2.1 hd (a2.2.2 i _ hx) ((hk _ h).1 H locs ls a1 a2 a3 a4 a5 a6)
  · cases h
theorem s_dload_n {q : Fin 4} {i : Nat} (hd : decode cc pc = .ok (.dload_n q, 1)) (hi : (q : Nat) = i) : zSnd X S n0 mts cc own nL ini ret pc (aLD (pc + 1) i) := by
  intro p l e R s m args below meth c hG d t0 s0 Q r k cl lc st M h hk hc h1 h2 h3 h4 hE H locs ls a1 a2 a3 a4 a5 a6
  unfold aLD at h
  split at h
  · next x hx => exact lv_dload_n hG.1 hG.2.1 hd hi (a2.2.2 i _ hx) ((hk _ h).1 H locs ls a1 a2 a3 a4 a5 a6)
  · cases h
theorem s_dload {i : Nat} (hd : decode cc pc = .ok (.dload i, 2)) : zSnd X S n0 mts cc own nL ini ret pc (aLD (pc + 2) i) := by
  intro p l e R s m args below meth c hG d t0 s0 Q r k cl lc st M h hk hc h1 h2 h3 h4 hE H locs ls a1 a2 a3 a4 a5 a6
  unfold aLD at h
  split at h
  · next x hx => exact lv_dload hG.1 hG.2.1 hd (a2.2.2 i _ hx) ((hk _ h).1 H locs ls a1 a2 a3 a4 a5 a6)
  · cases h
theorem s_aload_n {q : Fin 4} {i : Nat} (hd : decode cc pc = .ok (.aload_n q, 1)) (hi : (q : Nat) = i) : zSnd X S n0 mts cc own nL ini ret pc (aLR (pc + 1) i) := by
  intro p l e R s m args below meth c hG d t0 s0 Q r k cl lc st M h hk hc h1 h2 h3 h4 hE H locs ls a1 a2 a3 a4 a5 a6
  unfold aLR at h
  split at h
  · next x hx =>
    have hv := a2.2.2 i _ hx
    have kk := (hk _ h).1 H locs ls a1 a2 a3 a4 a5 a6
    cases x with
    | zero => exact lv_aload_nN hG.1 hG.2.1 hd hi hv kk
    | succ x => exact lv_aload_n hG.1 hG.2.1 hd hi hv kk
  · cases h
theorem s_aload {i : Nat} (hd : decode cc pc = .ok (.aload i, 2)) : zSnd X S n0 mts cc own nL ini ret pc (aLR (pc + 2) i) := by
  intro p l e R s m args below meth c hG d t0 s0 Q r k cl lc st M h hk hc h1 h2 h3 h4 hE H locs ls a1 a2 a3 a4 a5 a6
  unfold aLR at h
  split at h
  · next x hx =>
    have hv := a2.2.2 i _ hx
    have kk := (hk _ h).1 H locs ls a1 a2 a3 a4 a5 a6
    cases x with
    | zero => exact lv_aloadN hG.1 hG.2.1 hd hv kk
    | succ x => exact lv_aload hG.1 hG.2.1 hd hv kk
  · cases h
/-! the stack -/
theorem s_dup (hd : decode cc pc = .ok (.dup, 1)) : zSnd X S n0 mts cc own nL ini ret pc (aDup (pc + 1)) := by
  intro p l e R s m args below meth c hG d t0 s0 Q r k cl lc st M h hk hc h1 h2 h3 h4 hE H locs ls a1 a2 a3 a4 a5 a6
  unfold aDup at h
  split at h
  · exact lv_dup hG.1 hG.2.1 hd (by rw [zE_cat]; rfl) ((hk _ h).1 H locs ls a1 a2 a3 a4 a5 a6)
  · exact lv_dup hG.1 hG.2.1 hd (by rw [zE_cat]; rfl) ((hk _ h).1 H locs ls a1 a2 a3 a4 a5 a6)
  · cases h
theorem s_dup2 (hd : decode cc pc = .ok (.dup2, 1)) : zSnd X S n0 mts cc own nL ini ret pc (aDup2 (pc + 1)) := by
  intro p l e R s m args below meth c hG d t0 s0 Q r k cl lc st M h hk hc h1 h2 h3 h4 hE H locs ls a1 a2 a3 a4 a5 a6
  unfold aDup2 at h
  split at h
  · exact lv_dup2_11 hG.1 hG.2.1 hd (by rw [zE_cat]; rfl) (by rw [zE_cat]; rfl) ((hk _ h).1 H locs ls a1 a2 a3 a4 a5 a6)
  · cases h
theorem s_pop (hd : decode cc pc = .ok (.pop, 1)) : zSnd X S n0 mts cc own nL ini ret pc (aPop (pc + 1)) := by
  intro p l e R s m args below meth c hG d t0 s0 Q r k cl lc st M h hk hc h1 h2 h3 h4 hE H locs ls a1 a2 a3 a4 a5 a6
  unfold aPop at h
  split at h
  · exact lv_pop hG.1 hG.2.1 hd (by rw [zE_cat]; rfl) ((hk _ h).1 H locs ls a1 a2 a3 a4 a5 a6)
  · cases h
end SN
