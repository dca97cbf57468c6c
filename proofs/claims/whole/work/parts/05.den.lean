/-! THE SMALL MACHINE RUNS: by fuel, and without it (z_denF: what it comes to, if it comes to anything). -/
def z_row : List (Nat × zA) → Nat → Option zA
  | [], _ => none
  | q :: r, pc => bif Nat.beq q.1 pc then some q.2 else z_row r pc
def z_nth {α : Type} : List α → Nat → Option α
  | [], _ => none
  | x :: _, 0 => some x
  | _ :: r, n + 1 => z_nth r n
noncomputable def z_tab (mi : Nat) : List (Nat × zA) := match z_nth z_prog mi with
  | some t => t
  | none => []
def z_mx (mi : Nat) : Nat := match z_nth z_mxs mi with
  | some n => n
  | none => 0
noncomputable def z_step (S : zS) (mi : Nat) (F : zF) : zO := match z_row (z_tab mi) F.1 with
  | some a => a S F.2.1 F.2.2.1 F.2.2.2
  | none => none
def z_ent (mi : Nat) (as : List Value) (M : zM) : zF := (0, z_pad (z_mx mi) (z_sl as), [], M)
def z_fit (mi : Nat) (as : List Value) (r : zR) : zR := bif Nat.ble (z_sl as).length (z_mx mi) then r else none
theorem z_fit_some {mi : Nat} {as : List Value} {r : zR} {q : Option Value × zM} (h : z_fit mi as r = some q) : Nat.ble (z_sl as).length (z_mx mi) = true ∧ r = some q := by
  unfold z_fit at h
  cases hb : Nat.ble (z_sl as).length (z_mx mi)
  · rw [hb] at h; cases h
  · rw [hb] at h; exact ⟨rfl, h⟩
theorem z_fit_of {mi : Nat} {as : List Value} {r : zR} (h : Nat.ble (z_sl as).length (z_mx mi) = true) : z_fit mi as r = r := by unfold z_fit; rw [h]; rfl
noncomputable def z_run (S : zS) : Nat → Nat → Nat → zF → zR
  | 0, _, _, _ => none
  | n + 1, d, mi, F => z_on (z_step S mi F) (z_run S n d mi) (fun m2 as M => match d with | 0 => none | d' + 1 => z_fit m2 as (z_run S n d' m2 (z_ent m2 as M)))
noncomputable def z_denF (S : zS) (d mi : Nat) (F : zF) : zR := @dite _ (∃ r, ∃ n, z_run S n d mi F = some r) (Classical.propDecidable _) (fun h => some (Classical.choose h)) (fun _ => none)
noncomputable def z_den (S : zS) (d mi : Nat) (as : List Value) (M : zM) : zR := z_fit mi as (z_denF S d mi (z_ent mi as M))
noncomputable def z_callD (S : zS) (d : Nat) (mi : Nat) (as : List Value) (M : zM) : zR := match d with
  | 0 => none
  | d' + 1 => z_den S d' mi as M
/-! more fuel does no harm -/
theorem z_pick_mono {k1 k2 : zF → zR} (h : ∀ F r, k1 F = some r → k2 F = some r) : ∀ (bs : List (Bool × zF)) (F : zF) (r : Option Value × zM), z_pick k1 bs F = some r → z_pick k2 bs F = some r
  | [], F, r, e => h F r e
  | x :: rest, F, r, e => by
    unfold z_pick at e ⊢
    cases hx : x.1
    · rw [hx] at e
      exact z_pick_mono h rest F r e
    · rw [hx] at e
      exact h _ _ e
theorem z_ret_mono {k1 k2 : zF → zR} (h : ∀ F r, k1 F = some r → k2 F = some r) {c1 c2 : zR} (hc : ∀ r, c1 = some r → c2 = some r) (ty : Nat) (F : zF) (r : Option Value × zM) (e : z_ret ty c1 F k1 = some r) : z_ret ty c2 F k2 = some r := by
  cases h1 : c1 with
  | none =>
    rw [h1] at e
    unfold z_ret at e
    split at e <;> simp [z_bV, z_bI, z_bJ, z_bD, z_bR] at e
  | some q =>
    rw [hc q h1]
    rw [h1] at e
    obtain ⟨v, M⟩ := q
    unfold z_ret at e ⊢
    split at e
    · cases v with
      | none => exact h _ _ e
      | some v => simp [z_bV] at e
    · cases v with
      | none => simp [z_bI] at e
      | some v => cases v <;> first | exact h _ _ e | simp [z_bI] at e
    · cases v with
      | none => simp [z_bJ] at e
      | some v => cases v <;> first | exact h _ _ e | simp [z_bJ] at e
    · cases v with
      | none => simp [z_bD] at e
      | some v => cases v <;> first | exact h _ _ e | simp [z_bD] at e
    · cases v with
      | none => simp [z_bR] at e
      | some v => cases v <;> first | exact h _ _ e | simp [z_bR] at e
theorem z_on_mono {k1 k2 : zF → zR} (h : ∀ F r, k1 F = some r → k2 F = some r) {c1 c2 : Nat → List Value → zM → zR} (hc : ∀ m as M r, c1 m as M = some r → c2 m as M = some r) (o : zO) (r : Option Value × zM) (e : z_on o k1 c1 = some r) : z_on o k2 c2 = some r := by
  unfold z_on at e ⊢
  match o, e with
  | none, e => exact e
  | some (true, .inl b), e => exact z_pick_mono h _ _ _ e
  | some (false, .inl b), e => cases e
  | some (true, .inr (.inl x)), e => exact z_ret_mono h (fun r q => hc _ _ _ r q) _ _ _ e
  | some (false, .inr (.inl x)), e => cases e
  | some (true, .inr (.inr x)), e => exact e
  | some (false, .inr (.inr x)), e => cases e
theorem z_run_succ (S : zS) : ∀ (n d mi : Nat) (F : zF) (r : Option Value × zM), z_run S n d mi F = some r → z_run S (n + 1) d mi F = some r
  | 0, d, mi, F, r, e => by cases e
  | n + 1, d, mi, F, r, e => by
    unfold z_run at e ⊢
    refine z_on_mono (fun F r q => z_run_succ S n d mi F r q) (fun m as M r q => ?_) _ _ e
    cases d with
    | zero => cases q
    | succ d =>
      obtain ⟨q1, q2⟩ := z_fit_some q
      show z_fit m as _ = some r
      rw [z_fit_of q1]
      exact z_run_succ S n d m _ r q2
theorem z_run_mono (S : zS) {n m d mi : Nat} {F : zF} {r : Option Value × zM} (hnm : n ≤ m) (e : z_run S n d mi F = some r) : z_run S m d mi F = some r := by
  obtain ⟨k, rfl⟩ := Nat.exists_eq_add_of_le hnm
  induction k with
  | zero => exact e
  | succ k ih => exact z_run_succ S _ d mi F r (ih (Nat.le_add_right _ _))
theorem z_denF_iff (S : zS) (d mi : Nat) (F : zF) (r : Option Value × zM) : z_denF S d mi F = some r ↔ ∃ n, z_run S n d mi F = some r := by
  constructor
  · intro h
    unfold z_denF at h
    split at h
    · next hx =>
      have := Classical.choose_spec hx
      rw [Option.some.inj h] at this
      exact this
    · cases h
  · rintro ⟨n, h⟩
    have hx : ∃ r, ∃ n, z_run S n d mi F = some r := ⟨r, n, h⟩
    unfold z_denF
    rw [dif_pos hx]
    obtain ⟨m, hm⟩ := Classical.choose_spec hx
    have h1 := z_run_mono S (Nat.le_max_left n m) h
    have h2 := z_run_mono S (Nat.le_max_right n m) hm
    rw [h1] at h2
    exact h2.symm
/-! what a step asks for is asked at one place: so the run without fuel has the step's equation -/
theorem z_pick_has {k : zF → zR} {P : (zF → zR) → Prop} (bs : List (Bool × zF)) (F : zF) (r : Option Value × zM) (e : z_pick k bs F = some r) : ∃ F', k F' = some r ∧ ∀ k2 : zF → zR, k2 F' = some r → z_pick k2 bs F = some r := by
  induction bs with
  | nil => exact ⟨F, e, fun _ h => h⟩
  | cons x rest ih =>
    unfold z_pick at e
    cases hx : x.1
    · rw [hx] at e
      obtain ⟨F', h1, h2⟩ := ih e
      exact ⟨F', h1, fun k2 h => by unfold z_pick; rw [hx]; exact h2 k2 h⟩
    · rw [hx] at e
      exact ⟨x.2, e, fun k2 h => by unfold z_pick; rw [hx]; exact h⟩
theorem z_ret_has {k : zF → zR} {c : zR} (ty : Nat) (F : zF) (r : Option Value × zM) (e : z_ret ty c F k = some r) : ∃ q F', c = some q ∧ k F' = some r ∧ ∀ k2 : zF → zR, k2 F' = some r → z_ret ty (some q) F k2 = some r := by
  cases h1 : c with
  | none =>
    rw [h1] at e
    unfold z_ret at e
    split at e <;> simp [z_bV, z_bI, z_bJ, z_bD, z_bR] at e
  | some q =>
    rw [h1] at e
    obtain ⟨v, M⟩ := q
    unfold z_ret at e
    split at e
    · cases v with
      | none => exact ⟨_, _, rfl, e, fun _ h => h⟩
      | some v => simp [z_bV] at e
    · cases v with
      | none => simp [z_bI] at e
      | some v => cases v <;> first | exact ⟨_, _, rfl, e, fun _ h => h⟩ | simp [z_bI] at e
    · cases v with
      | none => simp [z_bJ] at e
      | some v => cases v <;> first | exact ⟨_, _, rfl, e, fun _ h => h⟩ | simp [z_bJ] at e
    · cases v with
      | none => simp [z_bD] at e
      | some v => cases v <;> first | exact ⟨_, _, rfl, e, fun _ h => h⟩ | simp [z_bD] at e
    · cases v with
      | none => simp [z_bR] at e
      | some v => 
        cases v <;> first | exact ⟨_, _, rfl, e, fun k2 h => by unfold z_ret; split <;> first | exact h | (simp at *; done)⟩ | simp [z_bR] at e
theorem z_denF_eq (S : zS) (d mi : Nat) (F : zF) : z_denF S d mi F = z_on (z_step S mi F) (z_denF S d mi) (z_callD S d) := by
  apply Option.ext
  intro r
  rw [z_denF_iff]
  constructor
  · rintro ⟨n, h⟩
    cases n with
    | zero => cases h
    | succ n =>
      unfold z_run at h
      refine z_on_mono (fun F r q => (z_denF_iff S d mi F r).mpr ⟨n, q⟩) (fun m as M r q => ?_) _ _ h
      cases d with
      | zero => cases q
      | succ d =>
        obtain ⟨q1, q2⟩ := z_fit_some q
        show z_fit m as _ = some r
        rw [z_fit_of q1]
        exact (z_denF_iff S d m _ r).mpr ⟨n, q2⟩
  · intro h
    unfold z_on at h
    split at h
    · cases h
    · next g b ho =>
      cases g
      · cases h
      · obtain ⟨F', h1, h2⟩ := z_pick_has (P := fun _ => True) _ _ _ h
        obtain ⟨n, hn⟩ := (z_denF_iff S d mi F' r).mp h1
        refine ⟨n + 1, ?_⟩
        unfold z_run z_on
        rw [ho]
        exact h2 _ hn
    · next g x ho =>
      cases g
      · cases h
      · obtain ⟨q, F', h0, h1, h2⟩ := z_ret_has _ _ _ h
        obtain ⟨n, hn⟩ := (z_denF_iff S d mi F' r).mp h1
        cases d with
        | zero => cases h0
        | succ d =>
          obtain ⟨q1, h0⟩ := z_fit_some h0
          obtain ⟨m, hm⟩ := (z_denF_iff S d x.2.1 _ q).mp h0
          refine ⟨Nat.max n m + 1, ?_⟩
          unfold z_run z_on
          rw [ho]
          have hm2 := z_run_mono S (Nat.le_max_right n m) hm
          show z_ret x.1 (z_fit x.2.1 x.2.2.1 (z_run S (Nat.max n m) d x.2.1 _)) x.2.2.2 _ = some r
          rw [z_fit_of q1, hm2]
          exact h2 _ (z_run_mono S (Nat.le_max_left n m) hn)
    · next g q ho =>
      cases g
      · cases h
      · refine ⟨1, ?_⟩
        unfold z_run z_on
        rw [ho]
        exact h
/-- some steps at once: up to a row of the stops, n steps at most; the rows are walked as they stand -/
def z_drop : List (Nat × zA) → Nat → List (Nat × zA)
  | [], _ => []
  | q :: r, pc => bif Nat.beq q.1 pc then q :: r else z_drop r pc
def z_seek (tab r : List (Nat × zA)) (pc : Nat) : List (Nat × zA) := match r with
  | [] => z_drop tab pc
  | q :: r' => bif Nat.beq q.1 pc then q :: r' else z_drop tab pc
noncomputable def z_J (S : zS) (d mi : Nat) (tab : List (Nat × zA)) (stops : List Nat) : Nat → List (Nat × zA) → zF → zR
  | 0, _, F => z_denF S d mi F
  | _ + 1, [], F => z_denF S d mi F
  | n + 1, q :: r, F => bif Nat.beq q.1 F.1 then z_on (q.2 S F.2.1 F.2.2.1 F.2.2.2) (fun F' => bif z_mem F'.1 stops then z_denF S d mi F' else z_J S d mi tab stops n (z_seek tab r F'.1) F') (z_callD S d) else z_denF S d mi F
def z_inc : List (Nat × zA) → Nat → Bool
  | [], _ => true
  | q :: r, b => Nat.ble b q.1 && z_inc r (q.1 + 1)
theorem z_inc_no : ∀ (t : List (Nat × zA)) (b pc : Nat), z_inc t b = true → pc < b → z_row t pc = none
  | [], _, _, _, _ => rfl
  | q :: r, b, pc, h, hp => by
    unfold z_inc at h
    rw [Bool.and_eq_true] at h
    have h1 := Nat.le_of_ble_eq_true h.1
    unfold z_row
    have : Nat.beq q.1 pc = false := by
      cases hh : Nat.beq q.1 pc
      · rfl
      · have := Nat.eq_of_beq_eq_true hh; omega
    rw [this]
    exact z_inc_no r _ pc h.2 (by omega)
/-- r is what stands from one of tab's rows on: its first row is tab's at that place -/
def z_suf (tab r : List (Nat × zA)) : Prop := ∀ (q : Nat × zA) (r' : List (Nat × zA)), r = q :: r' → z_row tab q.1 = some q.2
def z_sufs (tab : List (Nat × zA)) : List (Nat × zA) → Prop
  | [] => True
  | q :: r => z_row tab q.1 = some q.2 ∧ z_sufs tab r
theorem z_sufs_of (tab : List (Nat × zA)) : ∀ (r : List (Nat × zA)) (b : Nat), z_inc r b = true → (∀ pc, b ≤ pc → z_row tab pc = z_row r pc) → z_sufs tab r
  | [], _, _, _ => trivial
  | q :: r, b, h, he => by
    unfold z_inc at h
    rw [Bool.and_eq_true] at h
    have h1 := Nat.le_of_ble_eq_true h.1
    refine ⟨?_, z_sufs_of tab r (q.1 + 1) h.2 (fun pc hpc => ?_)⟩
    · rw [he q.1 h1]
      unfold z_row
      rw [show Nat.beq q.1 q.1 = true from Nat.beq_refl q.1]
      rfl
    · rw [he pc (by omega)]
      conv => lhs; unfold z_row
      have : Nat.beq q.1 pc = false := by
        cases hh : Nat.beq q.1 pc
        · rfl
        · have := Nat.eq_of_beq_eq_true hh; omega
      rw [this]
      rfl
theorem z_sufs_drop (tab : List (Nat × zA)) : ∀ (r : List (Nat × zA)) (pc : Nat), z_sufs tab r → z_sufs tab (z_drop r pc)
  | [], _, h => h
  | q :: r, pc, h => by
    unfold z_drop
    cases Nat.beq q.1 pc
    · exact z_sufs_drop tab r pc h.2
    · exact h
theorem z_sufs_seek (tab : List (Nat × zA)) (ht : z_sufs tab tab) (r : List (Nat × zA)) (pc : Nat) (h : z_sufs tab r) : z_sufs tab (z_seek tab r pc) := by
  unfold z_seek
  cases r with
  | nil => exact z_sufs_drop tab tab pc ht
  | cons q r' =>
    cases hq : Nat.beq q.1 pc
    · show z_sufs tab (bif Nat.beq q.1 pc then q :: r' else z_drop tab pc)
      rw [hq]
      exact z_sufs_drop tab tab pc ht
    · show z_sufs tab (bif Nat.beq q.1 pc then q :: r' else z_drop tab pc)
      rw [hq]
      exact h
theorem z_J_eq0 (S : zS) (d mi : Nat) (tab : List (Nat × zA)) (stops : List Nat) (hm : z_tab mi = tab) (ht : z_sufs tab tab) : ∀ (n : Nat) (r : List (Nat × zA)) (F : zF), z_sufs tab r → z_denF S d mi F = z_J S d mi tab stops n r F
  | 0, _, _, _ => by unfold z_J; rfl
  | n + 1, [], _, _ => by unfold z_J; rfl
  | n + 1, q :: r, F, h => by
    unfold z_J
    cases hq : Nat.beq q.1 F.1
    · rfl
    · have hq' := Nat.eq_of_beq_eq_true hq
      have hs : z_step S mi F = q.2 S F.2.1 F.2.2.1 F.2.2.2 := by
        unfold z_step
        rw [hm, ← hq', h.1]
      rw [z_denF_eq, hs]
      show _ = z_on _ _ _
      congr 1
      funext F'
      cases z_mem F'.1 stops
      · exact z_J_eq0 S d mi tab stops hm ht n _ F' (z_sufs_seek tab ht r F'.1 h.2)
      · rfl
theorem z_J_eq (S : zS) (d mi : Nat) (tab : List (Nat × zA)) (stops : List Nat) (hm : z_tab mi = tab) (ht : z_inc tab 0 = true) (n pc : Nat) (F : zF) : z_denF S d mi F = z_J S d mi tab stops n (z_drop tab pc) F :=
  z_J_eq0 S d mi tab stops hm (z_sufs_of tab tab 0 ht (fun _ _ => rfl)) n _ F (z_sufs_drop tab tab pc (z_sufs_of tab tab 0 ht (fun _ _ => rfl)))
