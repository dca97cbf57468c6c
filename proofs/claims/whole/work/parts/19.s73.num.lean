/-! stores into locals, numbers, branches -/
section SN
variable {X : zX} {S : zS} {n0 : Nat} {mts : List (MethodName × ByteArray × Nat × Option FieldType)} {cc : ByteArray} {own : String} {nL : Nat} {ini : Bool} {ret : Option FieldType} {pc n : Nat}
theorem s_istore_n {q : Fin 4} {i : Nat} (hd : decode cc pc = .ok (.istore_n q, 1)) (hi : (q : Nat) = i) (hn : i < nL) : zSnd X S n0 mts cc own nL ini ret pc (aSI (pc + 1) i) := by
  intro p l e R s m args below meth c hG d t0 s0 Q r k cl lc st M h hk hc h1 h2 h3 h4 hE H locs ls a1 a2 a3 a4 a5 a6
  unfold aSI at h
  split at h
  · next x rest =>
    obtain ⟨ls', e', h'⟩ := a2.st1 hn (v := .int x) rfl
    have e' : storeLocals ls i (.int x) = some ls' := e'
    subst hi
    intro T hT Y
    obtain ⟨t, a, b⟩ := (hk _ h).1 H locs ls' a1 h' a3 a4 a5 a6 T hT Y
    refine ⟨t, ?_, b⟩
    jvm_step Y.here [Y.here.top, ↓top_set Y.here.top, hG.1, hG.2.1, hd, e', zE]
    exact a
  · cases h
theorem s_istore {i : Nat} (hd : decode cc pc = .ok (.istore i, 2)) (hn : i < nL) : zSnd X S n0 mts cc own nL ini ret pc (aSI (pc + 2) i) := by
  intro p l e R s m args below meth c hG d t0 s0 Q r k cl lc st M h hk hc h1 h2 h3 h4 hE H locs ls a1 a2 a3 a4 a5 a6
  unfold aSI at h
  split at h
  · next x rest =>
    obtain ⟨ls', e', h'⟩ := a2.st1 hn (v := .int x) rfl
    have e' : storeLocals ls i (.int x) = some ls' := e'
    intro T hT Y
    obtain ⟨t, a, b⟩ := (hk _ h).1 H locs ls' a1 h' a3 a4 a5 a6 T hT Y
    refine ⟨t, ?_, b⟩
    jvm_step Y.here [Y.here.top, ↓top_set Y.here.top, hG.1, hG.2.1, hd, e', zE]
    exact a
  · cases h
theorem s_lstore_n {q : Fin 4} {i : Nat} (hd : decode cc pc = .ok (.lstore_n q, 1)) (hi : (q : Nat) = i) (hn : i + 1 < nL) : zSnd X S n0 mts cc own nL ini ret pc (aSJ (pc + 1) i) := by
  intro p l e R s m args below meth c hG d t0 s0 Q r k cl lc st M h hk hc h1 h2 h3 h4 hE H locs ls a1 a2 a3 a4 a5 a6
  unfold aSJ at h
  split at h
  · next x rest =>
    obtain ⟨ls', e', h'⟩ := a2.st2 hn (v := .long x) rfl
    have e' : storeLocals ls i (.long x) = some ls' := e'
    subst hi
    intro T hT Y
    obtain ⟨t, a, b⟩ := (hk _ h).1 H locs ls' a1 h' a3 a4 a5 a6 T hT Y
    refine ⟨t, ?_, b⟩
    jvm_step Y.here [Y.here.top, ↓top_set Y.here.top, hG.1, hG.2.1, hd, e', zE]
    exact a
  · cases h
theorem s_lstore {i : Nat} (hd : decode cc pc = .ok (.lstore i, 2)) (hn : i + 1 < nL) : zSnd X S n0 mts cc own nL ini ret pc (aSJ (pc + 2) i) := by
  intro p l e R s m args below meth c hG d t0 s0 Q r k cl lc st M h hk hc h1 h2 h3 h4 hE H locs ls a1 a2 a3 a4 a5 a6
  unfold aSJ at h
  split at h
  · next x rest =>
    obtain ⟨ls', e', h'⟩ := a2.st2 hn (v := .long x) rfl
    have e' : storeLocals ls i (.long x) = some ls' := e'
    intro T hT Y
    obtain ⟨t, a, b⟩ := (hk _ h).1 H locs ls' a1 h' a3 a4 a5 a6 T hT Y
    refine ⟨t, ?_, b⟩
    jvm_step Y.here [Y.here.top, ↓top_set Y.here.top, hG.1, hG.2.1, hd, e', zE]
    exact a
  · cases h
theorem s_dstore_n {q : Fin 4} {i : Nat} (hd : decode cc pc = .ok (.dstore_n q, 1)) (hi : (q : Nat) = i) (hn : i + 1 < nL) : zSnd X S n0 mts cc own nL ini ret pc (aSD (pc + 1) i) := by
  intro p l e R s m args below meth c hG d t0 s0 Q r k cl lc st M h hk hc h1 h2 h3 h4 hE H locs ls a1 a2 a3 a4 a5 a6
  unfold aSD at h
  split at h
  · next x rest =>
    obtain ⟨ls', e', h'⟩ := a2.st2 hn (v := .double x) rfl
    have e' : storeLocals ls i (.double x) = some ls' := e'
    subst hi
    intro T hT Y
    obtain ⟨t, a, b⟩ := (hk _ h).1 H locs ls' a1 h' a3 a4 a5 a6 T hT Y
    refine ⟨t, ?_, b⟩
    jvm_step Y.here [Y.here.top, ↓top_set Y.here.top, hG.1, hG.2.1, hd, e', zE]
    exact a
  · cases h
theorem s_dstore {i : Nat} (hd : decode cc pc = .ok (.dstore i, 2)) (hn : i + 1 < nL) : zSnd X S n0 mts cc own nL ini ret pc (aSD (pc + 2) i) := by
  intro p l e R s m args below meth c hG d t0 s0 Q r k cl lc st M h hk hc h1 h2 h3 h4 hE H locs ls a1 a2 a3 a4 a5 a6
  unfold aSD at h
  split at h
  · next x rest =>
    obtain ⟨ls', e', h'⟩ := a2.st2 hn (v := .double x) rfl
    have e' : storeLocals ls i (.double x) = some ls' := e'
    intro T hT Y
    obtain ⟨t, a, b⟩ := (hk _ h).1 H locs ls' a1 h' a3 a4 a5 a6 T hT Y
    refine ⟨t, ?_, b⟩
    jvm_step Y.here [Y.here.top, ↓top_set Y.here.top, hG.1, hG.2.1, hd, e', zE]
    exact a
  · cases h
theorem s_astore_n {q : Fin 4} {i : Nat} (hd : decode cc pc = .ok (.astore_n q, 1)) (hi : (q : Nat) = i) (hn : i < nL) : zSnd X S n0 mts cc own nL ini ret pc (aSR (pc + 1) i) := by
  intro p l e R s m args below meth c hG d t0 s0 Q r k cl lc st M h hk hc h1 h2 h3 h4 hE H locs ls a1 a2 a3 a4 a5 a6
  unfold aSR at h
  split at h
  · next x rest =>
    obtain ⟨ls', e', h'⟩ := a2.st1 hn (v := .ref x) rfl
    subst hi
    have kk := (hk _ h).1 H locs ls' a1 h' a3 a4 a5 a6
    cases x with
    | zero =>
      have e' : storeLocals ls q .null = some ls' := e'
      intro T hT Y
      obtain ⟨t, a, b⟩ := kk T hT Y
      refine ⟨t, ?_, b⟩
      jvm_step Y.here [Y.here.top, ↓top_set Y.here.top, hG.1, hG.2.1, hd, e', zE, Value.isRef]
      exact a
    | succ x =>
      have e' : storeLocals ls q (.ref (X.1 (x + 1))) = some ls' := e'
      intro T hT Y
      obtain ⟨t, a, b⟩ := kk T hT Y
      refine ⟨t, ?_, b⟩
      jvm_step Y.here [Y.here.top, ↓top_set Y.here.top, hG.1, hG.2.1, hd, e', zE, Value.isRef]
      exact a
  · cases h
theorem s_astore {i : Nat} (hd : decode cc pc = .ok (.astore i, 2)) (hn : i < nL) : zSnd X S n0 mts cc own nL ini ret pc (aSR (pc + 2) i) := by
  intro p l e R s m args below meth c hG d t0 s0 Q r k cl lc st M h hk hc h1 h2 h3 h4 hE H locs ls a1 a2 a3 a4 a5 a6
  unfold aSR at h
  split at h
  · next x rest =>
    obtain ⟨ls', e', h'⟩ := a2.st1 hn (v := .ref x) rfl
    have kk := (hk _ h).1 H locs ls' a1 h' a3 a4 a5 a6
    cases x with
    | zero =>
      have e' : storeLocals ls i .null = some ls' := e'
      intro T hT Y
      obtain ⟨t, a, b⟩ := kk T hT Y
      refine ⟨t, ?_, b⟩
      jvm_step Y.here [Y.here.top, ↓top_set Y.here.top, hG.1, hG.2.1, hd, e', zE, Value.isRef]
      exact a
    | succ x =>
      have e' : storeLocals ls i (.ref (X.1 (x + 1))) = some ls' := e'
      intro T hT Y
      obtain ⟨t, a, b⟩ := kk T hT Y
      refine ⟨t, ?_, b⟩
      jvm_step Y.here [Y.here.top, ↓top_set Y.here.top, hG.1, hG.2.1, hd, e', zE, Value.isRef]
      exact a
  · cases h
theorem s_iinc {i : Nat} {q : Int} {v : Int32} (hd : decode cc pc = .ok (.iinc i q, 3)) (hv : Int32.ofInt q = v) (hn : i < nL) : zSnd X S n0 mts cc own nL ini ret pc (aInc (pc + 3) i v) := by
  intro p l e R s m args below meth c hG d t0 s0 Q r k cl lc st M h hk hc h1 h2 h3 h4 hE H locs ls a1 a2 a3 a4 a5 a6
  subst hv
  unfold aInc at h
  split at h
  · next x hx =>
    have hg : ls[i]? = some (.val (.int x)) := a2.2.2 i _ hx
    obtain ⟨ls', e', h'⟩ := a2.st1 hn (v := .int (x + Int32.ofInt q)) rfl
    have e' : storeLocals ls i (.int (x + Int32.ofInt q)) = some ls' := e'
    intro T hT Y
    obtain ⟨t, a, b⟩ := (hk _ h).1 H locs ls' a1 h' a3 a4 a5 a6 T hT Y
    refine ⟨t, ?_, b⟩
    jvm_step Y.here [Y.here.top, ↓top_set Y.here.top, hG.1, hG.2.1, hd, hg, e']
    exact a
  · cases h
/-! numbers -/
theorem s_II {f : Int32 → Int32} (hr : ∀ x rest, zRow cc own pc (pc + 1) (.int x :: rest) (.int (f x) :: rest)) : zSnd X S n0 mts cc own nL ini ret pc (aII (pc + 1) f) := by
  intro p l e R s m args below meth c hG d t0 s0 Q r k cl lc st M h hk hc h1 h2 h3 h4 hE H locs ls a1 a2 a3 a4 a5 a6
  unfold aII at h
  split at h
  · exact hr _ _ p l e R s m args below meth c H locs _ _ Q ls hG.1 hG.2.1 hG.2.2.2.1 hG.2.2.2.2.1 ((hk _ h).1 H locs ls a1 a2 a3 a4 a5 a6)
  · cases h
theorem s_B {f : Int32 → Int32 → Int32} (hr : ∀ x y rest, zRow cc own pc (pc + 1) (.int y :: .int x :: rest) (.int (f x y) :: rest)) : zSnd X S n0 mts cc own nL ini ret pc (aB (pc + 1) f) := by
  intro p l e R s m args below meth c hG d t0 s0 Q r k cl lc st M h hk hc h1 h2 h3 h4 hE H locs ls a1 a2 a3 a4 a5 a6
  unfold aB at h
  split at h
  · exact hr _ _ _ p l e R s m args below meth c H locs _ _ Q ls hG.1 hG.2.1 hG.2.2.2.1 hG.2.2.2.2.1 ((hk _ h).1 H locs ls a1 a2 a3 a4 a5 a6)
  · cases h
theorem z_gg_spec {g : Bool} {F : zF} {k : zF → zR} {cl : Nat → List Value → zM → zR} {r : Option Value × zM} (h : z_on (z_gg g F) k cl = some r) : g = true ∧ k F = some r := by
  cases g
  · cases h
  · exact ⟨rfl, h⟩
theorem s_Bz {f : Int32 → Int32 → Int32} (hr : ∀ x y rest, ¬ y = 0 → zRow cc own pc (pc + 1) (.int y :: .int x :: rest) (.int (f x y) :: rest)) : zSnd X S n0 mts cc own nL ini ret pc (aBz (pc + 1) f) := by
  intro p l e R s m args below meth c hG d t0 s0 Q r k cl lc st M h hk hc h1 h2 h3 h4 hE H locs ls a1 a2 a3 a4 a5 a6
  unfold aBz at h
  split at h
  · obtain ⟨g1, g2⟩ := z_gg_spec h
    rw [z_ne_eq] at g1
    exact hr _ _ _ (of_decide_eq_true g1) p l e R s m args below meth c H locs _ _ Q ls hG.1 hG.2.1 hG.2.2.2.1 hG.2.2.2.2.1 ((hk _ g2).1 H locs ls a1 a2 a3 a4 a5 a6)
  · cases h
theorem s_J {f : Int64 → Int64 → Int64} (hr : ∀ x y rest, zRow cc own pc (pc + 1) (.long y :: .long x :: rest) (.long (f x y) :: rest)) : zSnd X S n0 mts cc own nL ini ret pc (aJ (pc + 1) f) := by
  intro p l e R s m args below meth c hG d t0 s0 Q r k cl lc st M h hk hc h1 h2 h3 h4 hE H locs ls a1 a2 a3 a4 a5 a6
  unfold aJ at h
  split at h
  · exact hr _ _ _ p l e R s m args below meth c H locs _ _ Q ls hG.1 hG.2.1 hG.2.2.2.1 hG.2.2.2.2.1 ((hk _ h).1 H locs ls a1 a2 a3 a4 a5 a6)
  · cases h
theorem s_Jz {f : Int64 → Int64 → Int64} (hr : ∀ x y rest, ¬ y = 0 → zRow cc own pc (pc + 1) (.long y :: .long x :: rest) (.long (f x y) :: rest)) : zSnd X S n0 mts cc own nL ini ret pc (aJz (pc + 1) f) := by
  intro p l e R s m args below meth c hG d t0 s0 Q r k cl lc st M h hk hc h1 h2 h3 h4 hE H locs ls a1 a2 a3 a4 a5 a6
  unfold aJz at h
  split at h
  · obtain ⟨g1, g2⟩ := z_gg_spec h
    rw [z_nz_eq] at g1
    exact hr _ _ _ (of_decide_eq_true g1) p l e R s m args below meth c H locs _ _ Q ls hG.1 hG.2.1 hG.2.2.2.1 hG.2.2.2.2.1 ((hk _ g2).1 H locs ls a1 a2 a3 a4 a5 a6)
  · cases h
theorem s_lshl (hd : decode cc pc = .ok (.lshl, 1)) : zSnd X S n0 mts cc own nL ini ret pc (aJsh (pc + 1) (fun x y => x <<< (y.toInt64 &&& 63))) := by
  intro p l e R s m args below meth c hG d t0 s0 Q r k cl lc st M h hk hc h1 h2 h3 h4 hE H locs ls a1 a2 a3 a4 a5 a6
  unfold aJsh at h
  split at h
  · exact lv_lshl hG.1 hG.2.1 hd rfl ((hk _ h).1 H locs ls a1 a2 a3 a4 a5 a6)
  · cases h
theorem s_i2l (hd : decode cc pc = .ok (.i2l, 1)) : zSnd X S n0 mts cc own nL ini ret pc (aI2J (pc + 1)) := by
  intro p l e R s m args below meth c hG d t0 s0 Q r k cl lc st M h hk hc h1 h2 h3 h4 hE H locs ls a1 a2 a3 a4 a5 a6
  unfold aI2J at h
  split at h
  · exact lv_i2l hG.1 hG.2.1 hd rfl ((hk _ h).1 H locs ls a1 a2 a3 a4 a5 a6)
  · cases h
theorem s_l2i (hd : decode cc pc = .ok (.l2i, 1)) : zSnd X S n0 mts cc own nL ini ret pc (aJ2I (pc + 1)) := by
  intro p l e R s m args below meth c hG d t0 s0 Q r k cl lc st M h hk hc h1 h2 h3 h4 hE H locs ls a1 a2 a3 a4 a5 a6
  unfold aJ2I at h
  split at h
  · exact lv_l2i hG.1 hG.2.1 hd rfl ((hk _ h).1 H locs ls a1 a2 a3 a4 a5 a6)
  · cases h
theorem s_i2d (hd : decode cc pc = .ok (.i2d, 1)) : zSnd X S n0 mts cc own nL ini ret pc (aI2D (pc + 1)) := by
  intro p l e R s m args below meth c hG d t0 s0 Q r k cl lc st M h hk hc h1 h2 h3 h4 hE H locs ls a1 a2 a3 a4 a5 a6
  unfold aI2D at h
  rw [zf_i2d.2] at h
  split at h
  · exact lv_i2d hG.1 hG.2.1 hd ((hk _ h).1 H locs ls a1 a2 a3 a4 a5 a6)
  · cases h
theorem s_l2d (hd : decode cc pc = .ok (.l2d, 1)) : zSnd X S n0 mts cc own nL ini ret pc (aJ2D (pc + 1)) := by
  intro p l e R s m args below meth c hG d t0 s0 Q r k cl lc st M h hk hc h1 h2 h3 h4 hE H locs ls a1 a2 a3 a4 a5 a6
  unfold aJ2D at h
  rw [zf_l2d.2] at h
  split at h
  · exact lv_l2d hG.1 hG.2.1 hd ((hk _ h).1 H locs ls a1 a2 a3 a4 a5 a6)
  · cases h
theorem s_d2l (hd : decode cc pc = .ok (.d2l, 1)) : zSnd X S n0 mts cc own nL ini ret pc (aD2J (pc + 1)) := by
  intro p l e R s m args below meth c hG d t0 s0 Q r k cl lc st M h hk hc h1 h2 h3 h4 hE H locs ls a1 a2 a3 a4 a5 a6
  unfold aD2J at h
  rw [zf_d2l.2] at h
  split at h
  · exact lv_d2l hG.1 hG.2.1 hd ((hk _ h).1 H locs ls a1 a2 a3 a4 a5 a6)
  · cases h
theorem s_lcmp (hd : decode cc pc = .ok (.lcmp, 1)) : zSnd X S n0 mts cc own nL ini ret pc (aLcmp (pc + 1)) := by
  intro p l e R s m args below meth c hG d t0 s0 Q r k cl lc st M h hk hc h1 h2 h3 h4 hE H locs ls a1 a2 a3 a4 a5 a6
  unfold aLcmp at h
  split at h
  · exact W.lcmp hG.1 hG.2.1 hd ((hk _ h).1 H locs ls a1 a2 a3 a4 a5 a6)
  · cases h
theorem s_dcmp {op : CmpOp} (hd : decode cc pc = .ok (.dcmp op, 1)) : zSnd X S n0 mts cc own nL ini ret pc (aDcmp (pc + 1) op) := by
  intro p l e R s m args below meth c hG d t0 s0 Q r k cl lc st M h hk hc h1 h2 h3 h4 hE H locs ls a1 a2 a3 a4 a5 a6
  unfold aDcmp at h
  rw [zf_cmp.2] at h
  split at h
  · exact lv_dcmp hG.1 hG.2.1 hd ((hk _ h).1 H locs ls a1 a2 a3 a4 a5 a6)
  · cases h
theorem s_DD {f : UInt64 → UInt64 → UInt64} (hr : ∀ x y rest, vf_n64 (f x y) → zRow cc own pc (pc + 1) (.double y :: .double x :: rest) (.double (f x y) :: rest)) : zSnd X S n0 mts cc own nL ini ret pc (aDD (pc + 1) f) := by
  intro p l e R s m args below meth c hG d t0 s0 Q r k cl lc st M h hk hc h1 h2 h3 h4 hE H locs ls a1 a2 a3 a4 a5 a6
  unfold aDD at h
  split at h
  · obtain ⟨g1, g2⟩ := z_gg_spec h
    rw [z_num_eq] at g1
    have g1 := of_decide_eq_true g1
    exact hr _ _ _ g1 p l e R s m args below meth c H locs _ _ Q ls hG.1 hG.2.1 hG.2.2.2.1 hG.2.2.2.2.1 ((hk _ g2).1 H locs ls a1 a2 a3 a4 a5 a6)
  · cases h
theorem s_dadd (hd : decode cc pc = .ok (.dadd, 1)) : zSnd X S n0 mts cc own nL ini ret pc (aDD (pc + 1) zf_add.1) := s_DD (by rw [zf_add.2]; exact fun _ _ _ hn _ _ _ _ _ _ _ _ _ _ _ _ _ _ _ _ hx hb _ _ k => lv_dadd hx hb hd hn k)
theorem s_dsub (hd : decode cc pc = .ok (.dsub, 1)) : zSnd X S n0 mts cc own nL ini ret pc (aDD (pc + 1) zf_sub.1) := s_DD (by rw [zf_sub.2]; exact fun _ _ _ hn _ _ _ _ _ _ _ _ _ _ _ _ _ _ _ _ hx hb _ _ k => lv_dsub hx hb hd hn k)
theorem s_dmul (hd : decode cc pc = .ok (.dmul, 1)) : zSnd X S n0 mts cc own nL ini ret pc (aDD (pc + 1) zf_mul.1) := s_DD (by rw [zf_mul.2]; exact fun _ _ _ hn _ _ _ _ _ _ _ _ _ _ _ _ _ _ _ _ hx hb _ _ k => lv_dmul hx hb hd hn k)
theorem s_ddiv (hd : decode cc pc = .ok (.ddiv, 1)) : zSnd X S n0 mts cc own nL ini ret pc (aDD (pc + 1) zf_div.1) := s_DD (by rw [zf_div.2]; exact fun _ _ _ hn _ _ _ _ _ _ _ _ _ _ _ _ _ _ _ _ hx hb _ _ k => lv_ddiv hx hb hd hn k)
theorem s_iadd (hd : decode cc pc = .ok (.iadd, 1)) : zSnd X S n0 mts cc own nL ini ret pc (aB (pc + 1) (fun x y => x + y)) := s_B fun _ _ _ _ _ _ _ _ _ _ _ _ _ _ _ _ _ _ _ hx hb _ _ k => lv_iadd hx hb hd k
theorem s_isub (hd : decode cc pc = .ok (.isub, 1)) : zSnd X S n0 mts cc own nL ini ret pc (aB (pc + 1) (fun x y => x - y)) := s_B fun _ _ _ _ _ _ _ _ _ _ _ _ _ _ _ _ _ _ _ hx hb _ _ k => lv_isub hx hb hd k
theorem s_imul (hd : decode cc pc = .ok (.imul, 1)) : zSnd X S n0 mts cc own nL ini ret pc (aB (pc + 1) (fun x y => x * y)) := s_B fun _ _ _ _ _ _ _ _ _ _ _ _ _ _ _ _ _ _ _ hx hb _ _ k => lv_imul hx hb hd k
theorem s_iand (hd : decode cc pc = .ok (.iand, 1)) : zSnd X S n0 mts cc own nL ini ret pc (aB (pc + 1) (fun x y => x &&& y)) := s_B fun _ _ _ _ _ _ _ _ _ _ _ _ _ _ _ _ _ _ _ hx hb _ _ k => lv_iand hx hb hd k
theorem s_ior (hd : decode cc pc = .ok (.ior, 1)) : zSnd X S n0 mts cc own nL ini ret pc (aB (pc + 1) (fun x y => x ||| y)) := s_B fun _ _ _ _ _ _ _ _ _ _ _ _ _ _ _ _ _ _ _ hx hb _ _ k => lv_ior hx hb hd k
theorem s_ixor (hd : decode cc pc = .ok (.ixor, 1)) : zSnd X S n0 mts cc own nL ini ret pc (aB (pc + 1) (fun x y => x ^^^ y)) := s_B fun _ _ _ _ _ _ _ _ _ _ _ _ _ _ _ _ _ _ _ hx hb _ _ k => lv_ixor hx hb hd k
theorem s_ishl (hd : decode cc pc = .ok (.ishl, 1)) : zSnd X S n0 mts cc own nL ini ret pc (aB (pc + 1) (fun x y => x <<< (y &&& 31))) := s_B fun _ _ _ _ _ _ _ _ _ _ _ _ _ _ _ _ _ _ _ hx hb _ _ k => lv_ishl hx hb hd k
theorem s_ishr (hd : decode cc pc = .ok (.ishr, 1)) : zSnd X S n0 mts cc own nL ini ret pc (aB (pc + 1) (fun x y => x >>> (y &&& 31))) := s_B fun _ _ _ _ _ _ _ _ _ _ _ _ _ _ _ _ _ _ _ hx hb _ _ k => lv_ishr hx hb hd k
theorem s_iushr (hd : decode cc pc = .ok (.iushr, 1)) : zSnd X S n0 mts cc own nL ini ret pc (aB (pc + 1) (fun x y => (x.toUInt32 >>> (y.toUInt32 &&& Int32.toUInt32 31)).toInt32)) := s_B fun _ _ _ _ _ _ _ _ _ _ _ _ _ _ _ _ _ _ _ hx hb _ _ k => lv_iushr hx hb hd rfl k
theorem s_idiv (hd : decode cc pc = .ok (.idiv, 1)) : zSnd X S n0 mts cc own nL ini ret pc (aBz (pc + 1) (fun x y => x / y)) := s_Bz fun _ _ _ hn _ _ _ _ _ _ _ _ _ _ _ _ _ _ _ _ hx hb _ _ k => lv_idiv hx hb hd hn k
theorem s_irem (hd : decode cc pc = .ok (.irem, 1)) : zSnd X S n0 mts cc own nL ini ret pc (aBz (pc + 1) (fun x y => x - x / y * y)) := s_Bz fun _ _ _ hn _ _ _ _ _ _ _ _ _ _ _ _ _ _ _ _ hx hb _ _ k => lv_irem hx hb hd hn k
theorem s_ineg (hd : decode cc pc = .ok (.ineg, 1)) : zSnd X S n0 mts cc own nL ini ret pc (aII (pc + 1) (fun x => -x)) := s_II fun _ _ _ _ _ _ _ _ _ _ _ _ _ _ _ _ _ _ hx hb _ _ k => lv_ineg hx hb hd k
theorem s_i2b (hd : decode cc pc = .ok (.i2b, 1)) : zSnd X S n0 mts cc own nL ini ret pc (aII (pc + 1) (fun x => x.toInt8.toInt32)) := s_II fun _ _ _ _ _ _ _ _ _ _ _ _ _ _ _ _ _ _ hx hb _ _ k => lv_i2b hx hb hd rfl k
theorem s_i2s (hd : decode cc pc = .ok (.i2s, 1)) : zSnd X S n0 mts cc own nL ini ret pc (aII (pc + 1) (fun x => x.toInt16.toInt32)) := s_II fun _ _ _ _ _ _ _ _ _ _ _ _ _ _ _ _ _ _ hx hb _ _ k => lv_i2s hx hb hd rfl k
theorem s_ladd (hd : decode cc pc = .ok (.ladd, 1)) : zSnd X S n0 mts cc own nL ini ret pc (aJ (pc + 1) (fun x y => x + y)) := s_J fun _ _ _ _ _ _ _ _ _ _ _ _ _ _ _ _ _ _ _ hx hb _ _ k => lv_ladd hx hb hd k
theorem s_lsub (hd : decode cc pc = .ok (.lsub, 1)) : zSnd X S n0 mts cc own nL ini ret pc (aJ (pc + 1) (fun x y => x - y)) := s_J fun _ _ _ _ _ _ _ _ _ _ _ _ _ _ _ _ _ _ _ hx hb _ _ k => lv_lsub hx hb hd k
theorem s_lmul (hd : decode cc pc = .ok (.lmul, 1)) : zSnd X S n0 mts cc own nL ini ret pc (aJ (pc + 1) (fun x y => x * y)) := s_J fun _ _ _ _ _ _ _ _ _ _ _ _ _ _ _ _ _ _ _ hx hb _ _ k => lv_lmul hx hb hd k
theorem s_land (hd : decode cc pc = .ok (.land, 1)) : zSnd X S n0 mts cc own nL ini ret pc (aJ (pc + 1) (fun x y => x &&& y)) := s_J fun _ _ _ _ _ _ _ _ _ _ _ _ _ _ _ _ _ _ _ hx hb _ _ k => lv_land hx hb hd k
theorem s_lor (hd : decode cc pc = .ok (.lor, 1)) : zSnd X S n0 mts cc own nL ini ret pc (aJ (pc + 1) (fun x y => x ||| y)) := s_J fun _ _ _ _ _ _ _ _ _ _ _ _ _ _ _ _ _ _ _ hx hb _ _ k => lv_lor hx hb hd k
theorem s_lxor (hd : decode cc pc = .ok (.lxor, 1)) : zSnd X S n0 mts cc own nL ini ret pc (aJ (pc + 1) (fun x y => x ^^^ y)) := s_J fun _ _ _ _ _ _ _ _ _ _ _ _ _ _ _ _ _ _ _ hx hb _ _ k => lv_lxor hx hb hd k
theorem s_ldiv (hd : decode cc pc = .ok (.ldiv, 1)) : zSnd X S n0 mts cc own nL ini ret pc (aJz (pc + 1) (fun x y => x / y)) := s_Jz fun _ _ _ hn _ _ _ _ _ _ _ _ _ _ _ _ _ _ _ _ hx hb _ _ k => lv_ldiv hx hb hd hn k
theorem s_lrem (hd : decode cc pc = .ok (.lrem, 1)) : zSnd X S n0 mts cc own nL ini ret pc (aJz (pc + 1) (fun x y => x - x / y * y)) := s_Jz fun _ _ _ hn _ _ _ _ _ _ _ _ _ _ _ _ _ _ _ _ hx hb _ _ k => lv_lrem hx hb hd hn k
/-! branches -/
theorem s_goto {off : Int} {t : Nat} (hd : decode cc pc = .ok (.goto off, 3)) (ht : (pc : Int) + off = (t : Int)) : zSnd X S n0 mts cc own nL ini ret pc (aGo t) := by
  intro p l e R s m args below meth c hG d t0 s0 Q r k cl lc st M h hk hc h1 h2 h3 h4 hE H locs ls a1 a2 a3 a4 a5 a6
  exact lv_goto hG.1 hG.2.1 hd ht ((hk _ h).1 H locs ls a1 a2 a3 a4 a5 a6)
def zBr (cc : ByteArray) (pc n t : Nat) (st rest : List Value) (P : Prop) : Prop :=
  ∀ (p : Program) (l : Launch) (e : Env) (R : Room) (s : State) (m : MethodId) (args : Array Value) (below : List Frame) (meth : Method) (c : Code) (H : Heap) (locs : List Loc) (cells slots : Nat) (Q : State → Prop) (ls : Array Slot),
  p.tables.exec = Jvm.exec → c.code = cc → (P → W p l e R s m args below meth c H locs cells slots Q (F0 m t ls rest)) → (¬ P → W p l e R s m args below meth c H locs cells slots Q (F0 m n ls rest)) → W p l e R s m args below meth c H locs cells slots Q (F0 m pc ls st)
theorem s_If {f : Int32 → Bool} {P : Int32 → Prop} {t : Nat} (hf : ∀ x, f x = true ↔ P x) (hr : ∀ x rest, zBr cc pc (pc + 3) t (.int x :: rest) rest (P x)) : zSnd X S n0 mts cc own nL ini ret pc (aIf (pc + 3) f t) := by
  intro p l e R s m args below meth c hG d t0 s0 Q r k cl lc st M h hk hc h1 h2 h3 h4 hE H locs ls a1 a2 a3 a4 a5 a6
  unfold aIf at h
  split at h
  · next x rest =>
    refine hr x _ p l e R s m args below meth c H locs _ _ Q ls hG.1 hG.2.1 (fun hp => ?_) (fun hp => ?_)
    · have hfx := (hf x).mpr hp
      rw [hfx] at h
      exact (hk _ h).1 H locs ls a1 a2 a3 a4 a5 a6
    · have hfx : f x = false := by
        cases hq : f x
        · rfl
        · exact absurd ((hf x).mp hq) hp
      rw [hfx] at h
      exact (hk _ h).1 H locs ls a1 a2 a3 a4 a5 a6
  · cases h
theorem s_Cmp {f : Int32 → Int32 → Bool} {P : Int32 → Int32 → Prop} {t : Nat} (hf : ∀ x y, f x y = true ↔ P x y) (hr : ∀ x y rest, zBr cc pc (pc + 3) t (.int y :: .int x :: rest) rest (P x y)) : zSnd X S n0 mts cc own nL ini ret pc (aCmp (pc + 3) f t) := by
  intro p l e R s m args below meth c hG d t0 s0 Q r k cl lc st M h hk hc h1 h2 h3 h4 hE H locs ls a1 a2 a3 a4 a5 a6
  unfold aCmp at h
  split at h
  · next y x rest =>
    refine hr x y _ p l e R s m args below meth c H locs _ _ Q ls hG.1 hG.2.1 (fun hp => ?_) (fun hp => ?_)
    · have hfx := (hf x y).mpr hp
      rw [hfx] at h
      exact (hk _ h).1 H locs ls a1 a2 a3 a4 a5 a6
    · have hfx : f x y = false := by
        cases hq : f x y
        · rfl
        · exact absurd ((hf x y).mp hq) hp
      rw [hfx] at h
      exact (hk _ h).1 H locs ls a1 a2 a3 a4 a5 a6
  · cases h
theorem z_eq_iff (x y : Int32) : z_eq x y = true ↔ x = y := by rw [z_eq_eq]; exact decide_eq_true_iff
theorem z_ne_iff (x y : Int32) : z_ne x y = true ↔ ¬ x = y := by rw [z_ne_eq]; exact decide_eq_true_iff
theorem zq_z_lt_iff (x y : Int32) : z_lt x y = true ↔ x < y := by rw [z_lt_eq]; exact decide_eq_true_iff
theorem zq_z_le_iff (x y : Int32) : z_le x y = true ↔ x ≤ y := by rw [z_le_eq]; exact decide_eq_true_iff
theorem s_ifeq {off : Int} {t : Nat} (hd : decode cc pc = .ok (.ifCond .eq off, 3)) (ht : (pc : Int) + off = (t : Int)) : zSnd X S n0 mts cc own nL ini ret pc (aIf (pc + 3) (fun x => z_eq x 0) t) := s_If (fun x => z_eq_iff x 0) fun _ _ _ _ _ _ _ _ _ _ _ _ _ _ _ _ _ _ hx hb kt kf => lv_if_eq hx hb hd ht kt kf
theorem s_ifne {off : Int} {t : Nat} (hd : decode cc pc = .ok (.ifCond .ne off, 3)) (ht : (pc : Int) + off = (t : Int)) : zSnd X S n0 mts cc own nL ini ret pc (aIf (pc + 3) (fun x => z_ne x 0) t) := s_If (fun x => z_ne_iff x 0) fun _ _ _ _ _ _ _ _ _ _ _ _ _ _ _ _ _ _ hx hb kt kf => lv_if_ne hx hb hd ht kt (fun q => kf (fun z => z q))
theorem s_iflt {off : Int} {t : Nat} (hd : decode cc pc = .ok (.ifCond .lt off, 3)) (ht : (pc : Int) + off = (t : Int)) : zSnd X S n0 mts cc own nL ini ret pc (aIf (pc + 3) (fun x => z_lt x 0) t) := s_If (fun x => zq_z_lt_iff x 0) fun _ _ _ _ _ _ _ _ _ _ _ _ _ _ _ _ _ _ hx hb kt kf => lv_if_lt hx hb hd ht kt kf
theorem s_ifge {off : Int} {t : Nat} (hd : decode cc pc = .ok (.ifCond .ge off, 3)) (ht : (pc : Int) + off = (t : Int)) : zSnd X S n0 mts cc own nL ini ret pc (aIf (pc + 3) (fun x => z_le 0 x) t) := s_If (fun x => zq_z_le_iff 0 x) fun _ _ _ _ _ _ _ _ _ _ _ _ _ _ _ _ _ _ hx hb kt kf => lv_if_ge hx hb hd ht kt kf
theorem s_ifgt {off : Int} {t : Nat} (hd : decode cc pc = .ok (.ifCond .gt off, 3)) (ht : (pc : Int) + off = (t : Int)) : zSnd X S n0 mts cc own nL ini ret pc (aIf (pc + 3) (fun x => z_lt 0 x) t) := s_If (fun x => zq_z_lt_iff 0 x) fun _ _ _ _ _ _ _ _ _ _ _ _ _ _ _ _ _ _ hx hb kt kf => lv_if_gt hx hb hd ht kt kf
theorem s_ifle {off : Int} {t : Nat} (hd : decode cc pc = .ok (.ifCond .le off, 3)) (ht : (pc : Int) + off = (t : Int)) : zSnd X S n0 mts cc own nL ini ret pc (aIf (pc + 3) (fun x => z_le x 0) t) := s_If (fun x => zq_z_le_iff x 0) fun _ _ _ _ _ _ _ _ _ _ _ _ _ _ _ _ _ _ hx hb kt kf => lv_if_le hx hb hd ht kt kf
theorem s_icmpeq {off : Int} {t : Nat} (hd : decode cc pc = .ok (.if_icmp .eq off, 3)) (ht : (pc : Int) + off = (t : Int)) : zSnd X S n0 mts cc own nL ini ret pc (aCmp (pc + 3) (fun x y => z_eq x y) t) := s_Cmp (fun x y => z_eq_iff x y) fun _ _ _ _ _ _ _ _ _ _ _ _ _ _ _ _ _ _ _ hx hb kt kf => lv_icmp_eq hx hb hd ht kt kf
theorem s_icmpne {off : Int} {t : Nat} (hd : decode cc pc = .ok (.if_icmp .ne off, 3)) (ht : (pc : Int) + off = (t : Int)) : zSnd X S n0 mts cc own nL ini ret pc (aCmp (pc + 3) (fun x y => z_ne x y) t) := s_Cmp (fun x y => z_ne_iff x y) fun _ _ _ _ _ _ _ _ _ _ _ _ _ _ _ _ _ _ _ hx hb kt kf => lv_icmp_ne hx hb hd ht kt (fun q => kf (fun z => z q))
theorem s_icmplt {off : Int} {t : Nat} (hd : decode cc pc = .ok (.if_icmp .lt off, 3)) (ht : (pc : Int) + off = (t : Int)) : zSnd X S n0 mts cc own nL ini ret pc (aCmp (pc + 3) (fun x y => z_lt x y) t) := s_Cmp (fun x y => zq_z_lt_iff x y) fun _ _ _ _ _ _ _ _ _ _ _ _ _ _ _ _ _ _ _ hx hb kt kf => lv_icmp_lt hx hb hd ht kt kf
theorem s_icmpge {off : Int} {t : Nat} (hd : decode cc pc = .ok (.if_icmp .ge off, 3)) (ht : (pc : Int) + off = (t : Int)) : zSnd X S n0 mts cc own nL ini ret pc (aCmp (pc + 3) (fun x y => z_le y x) t) := s_Cmp (fun x y => zq_z_le_iff y x) fun _ _ _ _ _ _ _ _ _ _ _ _ _ _ _ _ _ _ _ hx hb kt kf => lv_icmp_ge hx hb hd ht kt kf
theorem s_icmpgt {off : Int} {t : Nat} (hd : decode cc pc = .ok (.if_icmp .gt off, 3)) (ht : (pc : Int) + off = (t : Int)) : zSnd X S n0 mts cc own nL ini ret pc (aCmp (pc + 3) (fun x y => z_lt y x) t) := s_Cmp (fun x y => zq_z_lt_iff y x) fun _ _ _ _ _ _ _ _ _ _ _ _ _ _ _ _ _ _ _ hx hb kt kf => lv_icmp_gt hx hb hd ht kt kf
theorem s_icmple {off : Int} {t : Nat} (hd : decode cc pc = .ok (.if_icmp .le off, 3)) (ht : (pc : Int) + off = (t : Int)) : zSnd X S n0 mts cc own nL ini ret pc (aCmp (pc + 3) (fun x y => z_le x y) t) := s_Cmp (fun x y => zq_z_le_iff x y) fun _ _ _ _ _ _ _ _ _ _ _ _ _ _ _ _ _ _ _ hx hb kt kf => lv_icmp_le hx hb hd ht kt kf
theorem s_ifnull {off : Int} {t : Nat} (hd : decode cc pc = .ok (.ifnull off, 3)) (ht : (pc : Int) + off = (t : Int)) : zSnd X S n0 mts cc own nL ini ret pc (aNul (pc + 3) t) := by
  intro p l e R s m args below meth c hG d t0 s0 Q r k cl lc st M h hk hc h1 h2 h3 h4 hE H locs ls a1 a2 a3 a4 a5 a6
  unfold aNul at h
  split at h
  · next x rest =>
    cases x with
    | zero => exact lv_ifnullN hG.1 hG.2.1 hd ht ((hk _ h).1 H locs ls a1 a2 a3 a4 a5 a6)
    | succ x => exact lv_ifnull hG.1 hG.2.1 hd ((hk _ h).1 H locs ls a1 a2 a3 a4 a5 a6)
  · cases h
theorem s_ifnonnull {off : Int} {t : Nat} (hd : decode cc pc = .ok (.ifnonnull off, 3)) (ht : (pc : Int) + off = (t : Int)) : zSnd X S n0 mts cc own nL ini ret pc (aNon (pc + 3) t) := by
  intro p l e R s m args below meth c hG d t0 s0 Q r k cl lc st M h hk hc h1 h2 h3 h4 hE H locs ls a1 a2 a3 a4 a5 a6
  unfold aNon at h
  split at h
  · next x rest =>
    cases x with
    | zero => exact lv_ifnonnullN hG.1 hG.2.1 hd ((hk _ h).1 H locs ls a1 a2 a3 a4 a5 a6)
    | succ x => exact lv_ifnonnull hG.1 hG.2.1 hd ht ((hk _ h).1 H locs ls a1 a2 a3 a4 a5 a6)
  · cases h
end SN
