/-! THE SMALL MACHINE'S RUN IS THE REAL ONE'S -/
theorem z_row_mem : ∀ (t : List (Nat × zA)) (pc : Nat) (a : zA), z_row t pc = some a → (pc, a) ∈ t
  | [], _, _, h => by cases h
  | q :: r, pc, a, h => by
    unfold z_row at h
    rw [z_beq_eq] at h
    by_cases e : q.1 = pc
    · rw [decide_eq_true e] at h
      have h : some q.2 = some a := h
      cases h
      subst e
      exact List.mem_cons_self
    · rw [decide_eq_false e] at h
      exact List.mem_cons_of_mem _ (z_row_mem r pc a h)
theorem z_ll_pad : ∀ (n : Nat) (l : List (Option Value)) (i : Nat) (v : Value), z_ll (z_pad n l) i = some v → z_ll l i = some v
  | 0, l, i, v, h => by cases h
  | n + 1, [], 0, v, h => by cases h
  | n + 1, [], i + 1, v, h => by have := z_ll_pad n [] i v h; cases this
  | n + 1, x :: r, 0, v, h => h
  | n + 1, x :: r, i + 1, v, h => z_ll_pad n r i v h
theorem z_ll_sl (X : zX) : ∀ (as : List Value) (k i : Nat) (v : Value), z_ll (z_sl as) i = some v → (k + i, zE X v) ∈ lv_args k (as.map (zE X))
  | [], k, i, v, h => by cases h
  | w :: r, k, i, v, h => by
    have h2 : w.category = 2 → z_sl (w :: r) = some w :: none :: z_sl r := by cases w <;> first | (intro _; rfl) | (intro q; cases q)
    have h1 : ¬ w.category = 2 → z_sl (w :: r) = some w :: z_sl r := by cases w <;> first | (intro _; rfl) | (intro q; exact absurd rfl q)
    show _ ∈ (k, zE X w) :: lv_args (if (zE X w).category = 2 then k + 2 else k + 1) (r.map (zE X))
    rw [zE_cat]
    by_cases hc : w.category = 2
    · rw [h2 hc] at h
      rw [if_pos hc]
      match i, h with
      | 0, h => cases h; exact List.mem_cons_self
      | 1, h => cases h
      | i + 2, h =>
        have := z_ll_sl X r (k + 2) i v h
        rw [show k + 2 + i = k + (i + 2) by omega] at this
        exact List.mem_cons_of_mem _ this
    · rw [h1 hc] at h
      rw [if_neg hc]
      match i, h with
      | 0, h => cases h; exact List.mem_cons_self
      | i + 1, h =>
        have := z_ll_sl X r (k + 1) i v h
        rw [show k + 1 + i = k + (i + 1) by omega] at this
        exact List.mem_cons_of_mem _ this
theorem z_sl_len (X : zX) : ∀ (as : List Value), (lg_sl (as.map (zE X))).length = (z_sl as).length
  | [] => rfl
  | w :: r => by
    have ih := z_sl_len X r
    have h2 : w.category = 2 → z_sl (w :: r) = some w :: none :: z_sl r := by cases w <;> first | (intro _; rfl) | (intro q; cases q)
    have h1 : ¬ w.category = 2 → z_sl (w :: r) = some w :: z_sl r := by cases w <;> first | (intro _; rfl) | (intro q; exact absurd rfl q)
    unfold lg_sl at ih ⊢
    rw [List.map_cons, List.flatMap_cons, List.length_append, zE_cat, ih]
    by_cases hc : w.category = 2
    · rw [h2 hc, if_pos hc]; simp; omega
    · rw [h1 hc, if_neg hc]; simp; omega
theorem z_ent_has (X : zX) {as : List Value} {mx : Nat} (h : (z_sl as).length ≤ mx) : zLH X mx (z_pad mx (z_sl as)) ((lg_sl (as.map (zE X)) ++ List.replicate (mx - (lg_sl (as.map (zE X))).length) Slot.unset).toArray) := by
  have hl := lv_entry (as.map (zE X)) (n := mx) (by rw [z_sl_len]; exact h)
  refine ⟨hl.1, hl.2.1, fun i v hv => ?_⟩
  have := z_ll_sl X as 0 i v (z_ll_pad _ _ _ _ hv)
  rw [Nat.zero_add] at this
  exact hl.2.2 (i, zE X v) this
/-- a method's table is sound: its rows, what it is called by -/
def z_okm (X : zX) (S : zS) (n0 : Nat) (mts : List (MethodName × ByteArray × Nat × Option FieldType)) (mi : Nat) : Prop :=
  ∀ y cc mx ret, z_nth mts mi = some (y, cc, mx, ret) → plainName y.cls = true ∧ z_mx mi = mx ∧ (∀ q ∈ z_tab mi, zSnd X S n0 mts cc y.cls mx (decide (y.name = "<init>")) ret q.1 q.2)
def z_monm (mi : Nat) : Prop := ∀ q ∈ z_tab mi, zMon q.2
theorem z_run_gr (S : zS) (hm : ∀ mi, z_monm mi) : ∀ (n d mi : Nat) (F : zF) (r : Option Value × zM), z_run S n d mi F = some r → z_gr S F.2.2.2 r.2
  | 0, d, mi, F, r, h => by cases h
  | n + 1, d, mi, F, r, h => by
    unfold z_run at h
    unfold z_step at h
    split at h
    · next a ha =>
      have hq := hm mi _ (z_row_mem _ _ _ ha)
      refine z_mon_on (hq S _ _ _) (fun F' r' h' => z_run_gr S hm n d mi F' r' h') (fun m2 as M2 r' h' => ?_) h
      cases d with
      | zero => cases h'
      | succ d => exact z_run_gr S hm n d m2 _ r' (z_fit_some h').2
    · cases h
theorem z_run_snd (X : zX) (S : zS) (n0 : Nat) (mts : List (MethodName × ByteArray × Nat × Option FieldType)) (hok : ∀ mi, z_okm X S n0 mts mi) (hm : ∀ mi, z_monm mi) (hX : zXok X n0) : ∀ (n d mi : Nat) (F : zF) (r : Option Value × zM), z_run S n d mi F = some r →
    ∀ (y : MethodName) (cc : ByteArray) (mx : Nat) (ret : Option FieldType), z_nth mts mi = some (y, cc, mx, ret) → ∀ (p : Program) (l : Launch) (e : Env) (R : Room) (s : State) (m : MethodId) (args : Array Value) (below : List Frame) (meth : Method) (c : Code), zq_zG X n0 p s m meth c cc y.cls mx (decide (y.name = "<init>")) →
    ∀ (t0 s0 : Nat) (Q : State → Prop), z_tl S r.2 - t0 ≤ R.cells → z_ss r.2 - s0 ≤ R.slots → d + 1 ≤ R.frames → 64 * (d + 1) ≤ R.locals → zEnd X S n0 p l e R s m args below meth c cc ret t0 s0 Q r → zq_zW X S n0 mx p l e R s m args below meth c t0 s0 Q F
  | 0, d, mi, F, r, h => by cases h
  | n + 1, d, mi, F, r, h => by
    intro y cc mx ret hmt p l e R s m args below meth c hG t0 s0 Q h1 h2 h3 h4 hE
    obtain ⟨o1, o2, o3⟩ := hok mi y cc mx ret hmt
    unfold z_run at h
    unfold z_step at h
    split at h
    · next a ha =>
      obtain ⟨pc, lc, st, M⟩ := F
      have hs := o3 _ (z_row_mem _ _ _ ha)
      refine hs p l e R s m args below meth c hG d t0 s0 Q r _ _ lc st M h (fun F' hF => ?_) (fun m2 as M1 q hq => ?_) h1 h2 h3 h4 hE
      · exact ⟨z_run_snd X S n0 mts hok hm hX n d mi F' r hF y cc mx ret hmt p l e R s m args below meth c hG t0 s0 Q h1 h2 h3 h4 hE, (z_run_gr S hm n d mi F' r hF).1, (z_run_gr S hm n d mi F' r hF).2⟩
      · cases d with
        | zero => cases hq
        | succ d =>
          obtain ⟨hfit, hq⟩ := z_fit_some hq
          have hg := z_run_gr S hm n d m2 _ q hq
          refine ⟨fun y2 cc2 mx2 ret2 hm2 => ?_, hg.1, hg.2⟩
          obtain ⟨p1, p2, p3⟩ := hok m2 y2 cc2 mx2 ret2 hm2
          refine Met.ofW (cc := cc2) (maxL := mx2) (ret := ret2) p1 rfl ?_
          intro p' e' s' m' args' below' meth' c' s₁ B hml hv
          obtain ⟨rfl, hR, hW, hK⟩ := hv
          have hr := B.returns
          have hlocks := B.notSynchronized
          have hG' : zq_zG X n0 p' s' m' meth' c' cc2 y2.cls mx2 (decide (y2.name = "<init>")) := ⟨B.exec, B.bytes, hml, findClass_of_methodNamed B.named, hW, hK, hX, fun hi => by rw [(name_of_methodNamed B.named B.method).1]; exact of_decide_eq_true hi⟩
          have hz := z_run_snd X S n0 mts hok hm hX n d m2 _ q hq y2 cc2 mx2 ret2 hm2 p' l e' (z_rm (d + 1) (z_tl S q.2 - z_tl S M1) (z_ss q.2 - z_ss M1)) s' m' (as.map (zE X)).toArray below' meth' c' hG' (z_tl S M1) (z_ss M1) (MQ below' (zQc X S n0 q) (as.map (zE X)).toArray s' (z_tl S q.2 - z_tl S M1) (z_ss q.2 - z_ss M1) (fun a => X.2.1 ≤ a)) (Nat.le_refl _) (Nat.le_refl _) (Nat.le_refl _) (Nat.le_refl _) ?_
          · have hen := z_ent_has X (as := as) (mx := mx2) (by rw [← p2]; exact Nat.le_of_ble_eq_true hfit)
            have hw := hz s'.heap [] _ hR (by show zLH X mx2 (z_pad (z_mx m2) (z_sl as)) _; rw [p2]; exact hen) (fun q hq => by cases hq) (fun q _ => rfl) (Nat.le_refl _) (Nat.le_refl _)
            rw [lg_entry_eq]
            have hw : W p' l e' _ s' m' _ below' meth' c' s'.heap [] (z_tl S M1 - z_tl S M1) (z_ss M1 - z_ss M1) _ _ := hw
            rw [Nat.sub_self, Nat.sub_self] at hw
            exact hw
          · intro H locs ls pc ins hd hret hR2 hl2 ho2 ht2 hs2
            have hq2 : ∀ t : State, t.heap = H → s'.WarmedH t.vm → zQc X S n0 q (as.map (zE X)).toArray s' (.returned (q.1.map (zE X))) t := fun t ht _ => ⟨rfl, by rw [ht]; exact hR2, fun a ha => by rw [ht]; exact ho2 a ha⟩
            obtain ⟨v, Mq⟩ := q
            rcases hret with ⟨rfl, x, rfl, hx | ⟨hx, hb⟩⟩ | ⟨rfl, hx, x, rfl⟩ | ⟨rfl, hx, x, rfl⟩ | ⟨rfl, ⟨nm, hx⟩, x, rfl⟩ | ⟨rfl, hx, rfl⟩
            · exact W.iret B.exec B.bytes (by rw [hr, hx]) hq2 hl2 hd hlocks
            · exact W.zret (ty := .boolean) B.exec B.bytes (by rw [hr, hx]) (by show Value.int (x &&& 1) = _; rw [hb]) hq2 hl2 hd hlocks
            · exact W.lret B.exec B.bytes (by rw [hr, hx]) hq2 hl2 hd hlocks
            · exact W.dret B.exec B.bytes (by rw [hr, hx]) hq2 hl2 hd hlocks
            · exact W.aret (rt := .object nm) B.exec B.bytes (by rw [hr, hx]) (Or.inl ⟨nm, rfl⟩) (by cases x with | zero => exact Or.inl rfl | succ x => exact Or.inr ⟨_, rfl⟩) hq2 hl2 hd hlocks
            · exact W.vret B.exec B.bytes (by rw [hr, hx]) hq2 hl2 hd hlocks
    · cases h
