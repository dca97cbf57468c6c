/-! switches, returns, calls -/
section SN
variable {X : zX} {S : zS} {n0 : Nat} {mts : List (MethodName × ByteArray × Nat × Option FieldType)} {cc : ByteArray} {own : String} {nL : Nat} {ini : Bool} {ret : Option FieldType} {pc n : Nat}
/-- what a switch's table says: x goes to the pair's place, or to the default -/
def z_swok (pc : Nat) (dflt lo hi : Int) (offs : Array Int) (d : Nat) (l : List (Int32 × Nat)) : Bool :=
  decide ((pc : Int) + dflt = (d : Int)) && l.all (fun q => decide (lo ≤ q.1.toInt) && decide (q.1.toInt ≤ hi) && match offs[(q.1.toInt - lo).toNat]? with | some off => decide ((pc : Int) + off = (q.2 : Int)) | none => false) &&
  (List.range ((hi - lo).toNat + 1)).all (fun i => l.any (fun q => decide (q.1.toInt = lo + (i : Int))))
theorem z_sw_pick {k : zF → zR} {x : Int32} {lc : List (Option Value)} {r : List Value} {M : zM} {dF : zF} {res : Option Value × zM} : ∀ (l : List (Int32 × Nat)), z_pick k (z_sw x lc r M l) dF = some res → (∃ q ∈ l, x = q.1 ∧ k (q.2, lc, r, M) = some res) ∨ ((∀ q ∈ l, x ≠ q.1) ∧ k dF = some res)
  | [], h => Or.inr ⟨fun q hq => (by cases hq), h⟩
  | q :: rest, h => by
    unfold z_sw z_pick at h
    by_cases e : x = q.1
    · rw [show z_eq x q.1 = true from (z_eq_iff x q.1).mpr e] at h
      exact Or.inl ⟨q, List.mem_cons_self, e, h⟩
    · have e2 : z_eq x q.1 = false := by
        cases hh : z_eq x q.1
        · rfl
        · exact absurd ((z_eq_iff x q.1).mp hh) e
      rw [e2] at h
      rcases z_sw_pick rest h with ⟨q2, a, b, c⟩ | ⟨a, b⟩
      · exact Or.inl ⟨q2, List.mem_cons_of_mem _ a, b, c⟩
      · exact Or.inr ⟨fun q2 h2 => by rcases List.mem_cons.mp h2 with rfl | h2; exact e; exact a q2 h2, b⟩
theorem s_switch {dflt lo hi : Int} {offs : Array Int} {len d : Nat} {l : List (Int32 × Nat)} (hd : decode cc pc = .ok (.tableswitch dflt lo hi offs, len)) (hok : z_swok pc dflt lo hi offs d l = true) (hlo : lo ≤ hi) : zSnd X S n0 mts cc own nL ini ret pc (aSw d l) := by
  intro p lq e R s m args below meth c hG dd t0 s0 Q r kc cl lc st M h hk hc h1 h2 h3 h4 hE H locs ls a1 a2 a3 a4 a5 a6
  unfold z_swok at hok
  rw [Bool.and_eq_true, Bool.and_eq_true, decide_eq_true_eq] at hok
  obtain ⟨⟨hdf, hin⟩, hall⟩ := hok
  unfold aSw at h
  split at h
  · next x rest =>
    have h : z_pick kc (z_sw x lc rest M l) (d, lc, rest, M) = some r := h
    rcases z_sw_pick l h with ⟨q, hq, hx, hkq⟩ | ⟨hno, hkd⟩
    · have hq2 := List.all_eq_true.mp hin q hq
      rw [Bool.and_eq_true, Bool.and_eq_true, decide_eq_true_eq, decide_eq_true_eq] at hq2
      obtain ⟨⟨q1, q2⟩, q3⟩ := hq2
      split at q3
      · next off ho =>
        have q3 := of_decide_eq_true q3
        subst hx
        exact lv_tableIn hG.1 hG.2.1 hd (by omega) (by omega) ho q3 ((hk _ hkq).1 H locs ls a1 a2 a3 a4 a5 a6)
      · cases q3
    · refine lv_tableOut hG.1 hG.2.1 hd ?_ hdf ((hk _ hkd).1 H locs ls a1 a2 a3 a4 a5 a6)
      by_cases ho : x.toInt < lo ∨ hi < x.toInt
      · exact ho
      · exfalso
        have hr : (x.toInt - lo).toNat < (hi - lo).toNat + 1 := by omega
        have := List.all_eq_true.mp hall _ (List.mem_range.mpr hr)
        obtain ⟨q, hq, he⟩ := List.any_eq_true.mp this
        have he := of_decide_eq_true he
        refine hno q hq (Int32.toInt_inj.mp ?_)
        rw [he]
        omega
  · cases h
theorem s_ireturn (hd : decode cc pc = .ok (.ireturn, 1)) (hr : ret = some .int) : zSnd X S n0 mts cc own nL ini ret pc aRI := by
  intro p l e R s m args below meth c hG d t0 s0 Q r kc cl lc st M h hk hc h1 h2 h3 h4 hE H locs ls a1 a2 a3 a4 a5 a6
  unfold aRI at h
  split at h
  · next x =>
    have h : (some (.int x), M) = r := Option.some.inj h
    subst h
    exact hE H locs ls pc .ireturn hd (Or.inl ⟨rfl, x, rfl, Or.inl hr⟩) a1 a3 a4 a5 a6
  · cases h
theorem s_zreturn (hd : decode cc pc = .ok (.ireturn, 1)) (hr : ret = some .boolean) : zSnd X S n0 mts cc own nL ini ret pc aRZ := by
  intro p l e R s m args below meth c hG d t0 s0 Q r kc cl lc st M h hk hc h1 h2 h3 h4 hE H locs ls a1 a2 a3 a4 a5 a6
  unfold aRZ at h
  split at h
  · next x =>
    by_cases hx : x &&& 1 = x
    · rw [decide_eq_true hx] at h
      have h : (some (.int x), M) = r := Option.some.inj h
      subst h
      exact hE H locs ls pc .ireturn hd (Or.inl ⟨rfl, x, rfl, Or.inr ⟨hr, hx⟩⟩) a1 a3 a4 a5 a6
    · rw [decide_eq_false hx] at h
      cases h
  · cases h
theorem s_lreturn (hd : decode cc pc = .ok (.lreturn, 1)) (hr : ret = some .long) : zSnd X S n0 mts cc own nL ini ret pc aRJ := by
  intro p l e R s m args below meth c hG d t0 s0 Q r kc cl lc st M h hk hc h1 h2 h3 h4 hE H locs ls a1 a2 a3 a4 a5 a6
  unfold aRJ at h
  split at h
  · next x =>
    have h : (some (.long x), M) = r := Option.some.inj h
    subst h
    exact hE H locs ls pc .lreturn hd (Or.inr (Or.inl ⟨rfl, hr, x, rfl⟩)) a1 a3 a4 a5 a6
  · cases h
theorem s_dreturn (hd : decode cc pc = .ok (.dreturn, 1)) (hr : ret = some .double) : zSnd X S n0 mts cc own nL ini ret pc aRD := by
  intro p l e R s m args below meth c hG d t0 s0 Q r kc cl lc st M h hk hc h1 h2 h3 h4 hE H locs ls a1 a2 a3 a4 a5 a6
  unfold aRD at h
  split at h
  · next x =>
    have h : (some (.double x), M) = r := Option.some.inj h
    subst h
    exact hE H locs ls pc .dreturn hd (Or.inr (Or.inr (Or.inl ⟨rfl, hr, x, rfl⟩))) a1 a3 a4 a5 a6
  · cases h
theorem s_areturn {C : String} (hd : decode cc pc = .ok (.areturn, 1)) (hr : ret = some (.object C)) : zSnd X S n0 mts cc own nL ini ret pc aRR := by
  intro p l e R s m args below meth c hG d t0 s0 Q r kc cl lc st M h hk hc h1 h2 h3 h4 hE H locs ls a1 a2 a3 a4 a5 a6
  unfold aRR at h
  split at h
  · next x =>
    have h : (some (.ref x), M) = r := Option.some.inj h
    subst h
    exact hE H locs ls pc .areturn hd (Or.inr (Or.inr (Or.inr (Or.inl ⟨rfl, ⟨C, hr⟩, x, rfl⟩)))) a1 a3 a4 a5 a6
  · cases h
theorem s_return (hd : decode cc pc = .ok (.return_, 1)) (hr : ret = none) : zSnd X S n0 mts cc own nL ini ret pc aRV := by
  intro p l e R s m args below meth c hG d t0 s0 Q r kc cl lc st M h hk hc h1 h2 h3 h4 hE H locs ls a1 a2 a3 a4 a5 a6
  unfold aRV at h
  split at h
  · have h : ((none : Option Value), M) = r := Option.some.inj h
    subst h
    exact hE H locs ls pc .return_ hd (Or.inr (Or.inr (Or.inr (Or.inr ⟨rfl, hr, rfl⟩)))) a1 a3 a4 a5 a6
  · cases h
/-! calls: the row of the kit is a 'run'; behind it the frame goes on -/
theorem z_take_spec : ∀ (na : Nat) (acc st : List Value) (q : List Value × List Value), z_take na acc st = some q → ∃ pre, pre.length = na ∧ st = pre ++ q.2 ∧ q.1 = pre.reverse ++ acc
  | 0, acc, st, q, h => by
    cases h
    exact ⟨[], rfl, rfl, rfl⟩
  | na + 1, acc, [], q, h => by cases h
  | na + 1, acc, v :: st, q, h => by
    obtain ⟨pre, h1, h2, h3⟩ := z_take_spec na (v :: acc) st q h
    exact ⟨v :: pre, by simp [h1], by simp [h2], by simp [h3]⟩
theorem z_cl_spec {g : Bool} {ty mi : Nat} {as : List Value} {F : zF} {k : zF → zR} {cl : Nat → List Value → zM → zR} {r : Option Value × zM} (h : z_on (z_cl g ty mi as F) k cl = some r) : g = true ∧ ∃ q F', cl mi as F.2.2.2 = some q ∧ k F' = some r ∧ F' = (F.1, F.2.1, q.1.toList ++ F.2.2.1, q.2) := by
  cases g
  · cases h
  · refine ⟨rfl, ?_⟩
    have h : z_ret ty (cl mi as F.2.2.2) F k = some r := h
    cases hc : cl mi as F.2.2.2 with
    | none =>
      rw [hc] at h
      unfold z_ret at h
      split at h <;> simp [z_bV, z_bI, z_bJ, z_bD, z_bR] at h
    | some q =>
      rw [hc] at h
      obtain ⟨v, M⟩ := q
      unfold z_ret at h
      split at h
      · cases v with
        | none => exact ⟨_, _, rfl, h, rfl⟩
        | some v => simp [z_bV] at h
      · cases v with
        | none => simp [z_bI] at h
        | some v => cases v <;> first | exact ⟨_, _, rfl, h, rfl⟩ | simp [z_bI] at h
      · cases v with
        | none => simp [z_bJ] at h
        | some v => cases v <;> first | exact ⟨_, _, rfl, h, rfl⟩ | simp [z_bJ] at h
      · cases v with
        | none => simp [z_bD] at h
        | some v => cases v <;> first | exact ⟨_, _, rfl, h, rfl⟩ | simp [z_bD] at h
      · cases v with
        | none => simp [z_bR] at h
        | some v => cases v <;> first | exact ⟨_, _, rfl, h, rfl⟩ | simp [z_bR] at h
variable {p : Program} {l : Launch} {e : Env} {R : Room} {s : State} {m : MethodId} {args : Array Value} {below : List Frame} {meth : Method} {c : Code} {H : Heap} {locs : List Loc} {cells slots t0 s0 : Nat} {Q : State → Prop} {ls : Array Slot}
theorem z_callW {M : zM} {q : Option Value × zM} {lc : List (Option Value)} {rest st : List Value} {a : Array Value} (hX : zXok X n0) (hr : va_Run p l e R s m args below meth c H locs (z_tl S M - t0) (z_ss M - s0) (z_tl S q.2 - z_tl S M) (z_ss q.2 - z_ss M) (F0 m pc ls (st.map (zE X))) (rest.map (zE X)) (zQc X S n0 q a) (fun b => X.2.1 ≤ b))
    (a2 : zLH X nL lc ls) (a3 : ∀ q ∈ locs, X.2.1 ≤ q.base) (a4 : ∀ b : Nat, b < X.2.1 → H[b]? = s.heap[b]?) (a5 : t0 ≤ z_tl S M) (a6 : s0 ≤ z_ss M) (b5 : z_tl S M ≤ z_tl S q.2) (b6 : z_ss M ≤ z_ss q.2)
    (kk : zq_zW X S n0 nL p l e R s m args below meth c t0 s0 Q (pc + 3, lc, q.1.toList ++ rest, q.2)) : W p l e R s m args below meth c H locs (z_tl S M - t0) (z_ss M - s0) Q (F0 m pc ls (st.map (zE X))) := by
  intro T hT Y
  obtain ⟨v, st₀, t, T', L, h0, Y', hL, e1, e2, ⟨hq1, hq2, hq3⟩, go⟩ := hr T hT Y
  have hv : v = q.1.map (zE X) := Outcome.returned.inj hq1
  rw [show z_tl S M - t0 + (z_tl S q.2 - z_tl S M) = z_tl S q.2 - t0 by omega, show z_ss M - s0 + (z_ss q.2 - z_ss M) = z_ss q.2 - s0 by omega] at Y'
  obtain ⟨t2, c1, c2⟩ := kk T'.heap (locs ++ L) ls (by rw [e1]; exact hq2) a2 (fun x hx => by
    rcases List.mem_append.mp hx with hx | hx
    · exact a3 x hx
    · exact hL x hx) (fun x hx => by rw [e1, hq3 x hx, h0]; exact a4 x hx) (by show t0 ≤ z_tl S q.2; omega) (by show s0 ≤ z_ss q.2; omega) T' rfl Y'
  refine ⟨t2, go t2 ?_, c2⟩
  have hst : v.toList ++ rest.map (zE X) = (q.1.toList ++ rest).map (zE X) := by
    rw [hv]
    cases q.1 <;> rfl
  show Steps p.tables e below (T'.setTop (F0 m (pc + 3) ls (v.toList ++ rest.map (zE X)))) t2
  rw [hst]
  exact c1
end SN
