/-! S LEVEL: INSTRUMENTS, what they are. -/
abbrev zJ := Nat × (Nat → Nat) × (Nat → Nat) × (Nat → Nat → Nat) × (Nat → Nat) × (Nat → Nat) × (Nat → Nat) × Nat
def jN (J : zJ) : Nat := J.1
def jS (J : zJ) : Nat → Nat := J.2.1
def jM (J : zJ) : Nat → Nat := J.2.2.1
def jB (J : zJ) : Nat → Nat → Nat := J.2.2.2.1
def jP (J : zJ) : Nat → Nat := J.2.2.2.2.1
def jQ (J : zJ) : Nat → Nat := J.2.2.2.2.2.1
def jZ (J : zJ) : Nat → Nat := J.2.2.2.2.2.2.1
def jE (J : zJ) : Nat := J.2.2.2.2.2.2.2
/-- members k, k + 1, .. (m of them) -/
def msF (J : zJ) (i : Nat) : Nat → Nat → List Nat
  | _, 0 => []
  | k, m + 1 => jB J i k :: msF J i (k + 1) m
def smZ (J : zJ) : List Nat → Nat
  | [] => 0
  | i :: r => jZ J i + smZ J r
theorem smZ_app (J : zJ) : ∀ l l' : List Nat, smZ J (l ++ l') = smZ J l + smZ J l'
  | [], l' => by show smZ J l' = 0 + smZ J l'; omega
  | i :: r, l' => by show jZ J i + smZ J (r ++ l') = jZ J i + smZ J r + smZ J l'; rw [smZ_app J r l']; omega
def wJ (J : zJ) : Prop := jN J ≤ 60 ∧ 1 ≤ jE J ∧ jE J ≤ 32000 ∧ ∀ i, i < jN J → jS J i ≤ 6 ∧ jM J i ≤ 8 ∧ (jS J i ≠ 6 → jM J i = 0) ∧ jP J i ≤ 1000 ∧ jQ J i ≤ 1000 ∧ jZ J i = 1 + smZ J (msF J i 0 (jM J i)) ∧ jZ J i ≤ 40 ∧ ∀ k, k < jM J i → jB J i k < jN J
def tgF (s : Nat) : Nat := if s = 0 then 5 else if s = 1 then 7 else if s = 2 then 0 else if s = 3 then 3 else if s = 4 then 6 else if s = 5 then 1 else 2
/-- the class's object of the instrument i -/
def cJ1 (J : zJ) (A : zM) (i a : Nat) : Prop := z_hd zQ A a = some (tgF (jS J i), if jS J i = 6 then 7 else 5) ∧ zI A a 0 = zn i ∧ zI A a 1 = zn (jS J i) ∧ zI A a 2 = zn (jZ J i) ∧ zI A a 3 = zn (jP J i) ∧ zI A a 4 = zn (jQ J i) ∧ (jS J i = 6 → zI A a 6 = zn (jM J i) ∧ z_hd zQ A (zP zQ A a 5) = some (16, 8) ∧ ∀ k, k < jM J i → zP zQ A (zP zQ A a 5) k = zP zQ A 4 (jB J i k))
def cJ (J : zJ) (A : zM) : Prop := zI A 3 10 = zn (jN J) ∧ zI A 3 12 = zn (jE J) ∧ (∀ i, i < jN J → cJ1 J A i (zP zQ A 4 i)) ∧ (∀ i, jN J ≤ i → i < 60 → zP zQ A 4 i = 0) ∧ ∀ i j, i < jN J → j < jN J → jS J i = 6 → jS J j = 6 → i ≠ j → zP zQ A (zP zQ A 4 i) 5 ≠ zP zQ A (zP zQ A 4 j) 5
def rJ (J : zJ) (B : zM) : Prop := zI B 15 14 = zn (jN J) ∧ zD B 15 22 = zf_div.1 (UInt64.ofNat (iN (jE J))) 4625196817309499392 ∧ (∀ i, i < jN J → zI B 26 i = zn (jS J i) ∧ zI B 27 i = zn (jM J i) ∧ zI B 29 i = zn (jZ J i) ∧ zI B 31 i = zn (if jQ J i = 0 then 1 else 0) ∧ zD B 32 i = (if jQ J i = 0 then 0 else zf_div.1 (UInt64.ofNat (iN (jP J i))) (UInt64.ofNat (iN (jQ J i)))) ∧ ∀ k, k < jM J i → zI B 28 (8 * i + k) = zn (jB J i k)) ∧ ∀ i, jN J ≤ i → i < 60 → zI B 27 i = zn 0 ∧ zI B 31 i = zn 0
/-- the greatest -/
def mxO : Option UInt64 → Option UInt64 → Option UInt64
  | none, o => o
  | some x, none => some x
  | some x, some y => some (if x.toNat < y.toNat then y else x)
theorem mxO_n (o : Option UInt64) : mxO o none = o := by cases o <;> rfl
theorem mxO_as (a b c : Option UInt64) : mxO (mxO a b) c = mxO a (mxO b c) := by
  cases a with
  | none => rfl
  | some x =>
    cases b with
    | none => rfl
    | some y =>
      cases c with
      | none => rfl
      | some z =>
        show some (if (if x.toNat < y.toNat then y else x).toNat < z.toNat then z else (if x.toNat < y.toNat then y else x)) = some (if x.toNat < (if y.toNat < z.toNat then z else y).toNat then (if y.toNat < z.toNat then z else y) else x)
        congr 1
        by_cases g1 : x.toNat < y.toNat
        · rw [if_pos g1]
          by_cases g2 : y.toNat < z.toNat
          · rw [if_pos g2, if_pos (by omega)]
          · rw [if_neg g2, if_pos g1]
        · rw [if_neg g1]
          by_cases g2 : y.toNat < z.toNat
          · rw [if_pos g2]
          · rw [if_neg g2, if_neg g1, if_neg (by omega)]
abbrev zV := Option UInt64 × List Nat
def cmb (a r : zV) : zV := (mxO a.1 r.1, a.2 ++ r.2)
theorem cmb_as (a b c : zV) : cmb (cmb a b) c = cmb a (cmb b c) := by unfold cmb; rw [mxO_as, List.append_assoc]
theorem cmb_n (a : zV) : cmb a (none, []) = a := by unfold cmb; rw [mxO_n, List.append_nil]
theorem n_cmb (a : zV) : cmb (none, []) a = a := rfl
def evL (g : Nat → zV) : List Nat → zV → zV
  | [], a => a
  | i :: r, a => evL g r (cmb a (g i))
theorem evL_app (g : Nat → zV) : ∀ (l l' : List Nat) (a : zV), evL g (l ++ l') a = evL g l' (evL g l a)
  | [], _, _ => rfl
  | i :: r, l', a => evL_app g r l' _
theorem evL_acc (g : Nat → zV) : ∀ (l : List Nat) (a b : zV), evL g l (cmb a b) = cmb a (evL g l b)
  | [], _, _ => rfl
  | i :: r, a, b => by
    show evL g r (cmb (cmb a b) (g i)) = cmb a (evL g r (cmb b (g i)))
    rw [cmb_as, evL_acc g r]
noncomputable def pvF (J : zJ) (b : UInt64) : Nat → Nat → zV
  | 0, _ => (none, [])
  | f + 1, i => if jS J i = 6 then evL (pvF J b f) (msF J i 0 (jM J i)) (none, [13]) else if jS J i = 3 then (none, []) else (if jQ J i = 0 then none else some (ptF (jS J i) (xF b (jP J i) (jQ J i))), bkF (jS J i))
theorem evL_cg {g g' : Nat → zV} : ∀ (l : List Nat) (a : zV), (∀ i, i ∈ l → g i = g' i) → evL g l a = evL g' l a
  | [], _, _ => rfl
  | i :: r, a, h => by
    show evL g r (cmb a (g i)) = evL g' r (cmb a (g' i))
    rw [h i (List.mem_cons_self ..)]
    exact evL_cg r _ (fun j hj => h j (List.mem_cons_of_mem _ hj))
theorem ms_mem {J : zJ} {i j : Nat} : ∀ {m k : Nat}, j ∈ msF J i k m → ∃ u, k ≤ u ∧ u < k + m ∧ j = jB J i u
  | 0, k, h => by cases h
  | m + 1, k, h => by
    rcases List.mem_cons.mp h with g | g
    · exact ⟨k, by omega, by omega, g⟩
    · obtain ⟨u, h1, h2, h3⟩ := ms_mem g
      exact ⟨u, by omega, by omega, h3⟩
theorem smZ_mem {J : zJ} {j : Nat} : ∀ {l : List Nat}, j ∈ l → jZ J j ≤ smZ J l
  | [], h => by cases h
  | i :: r, h => by
    show jZ J j ≤ jZ J i + smZ J r
    rcases List.mem_cons.mp h with g | g
    · subst g; omega
    · have := smZ_mem (J := J) g; omega
theorem ms_lt {J : zJ} (w : wJ J) {i : Nat} (hi : i < jN J) {u : Nat} (hu : u < jM J i) : jB J i u < jN J := (w.2.2.2 i hi).2.2.2.2.2.2.2 u hu
theorem ms_z {J : zJ} (w : wJ J) {i j : Nat} (hi : i < jN J) (hj : j ∈ msF J i 0 (jM J i)) : j < jN J ∧ jZ J j < jZ J i := by
  obtain ⟨u, h1, h2, h3⟩ := ms_mem hj
  have h4 := smZ_mem (J := J) hj
  have h5 := (w.2.2.2 i hi).2.2.2.2.2.1
  exact ⟨by rw [h3]; exact ms_lt w hi (by omega), by omega⟩
theorem z_pos {J : zJ} (w : wJ J) {i : Nat} (hi : i < jN J) : 1 ≤ jZ J i := by have := (w.2.2.2 i hi).2.2.2.2.2.1; omega
/-- enough fuel -/
theorem pv_fu {J : zJ} (w : wJ J) (b : UInt64) : ∀ (f f' i : Nat), i < jN J → jZ J i ≤ f → jZ J i ≤ f' → pvF J b f i = pvF J b f' i
  | 0, _, i, hi, h, _ => by have := z_pos w hi; omega
  | f + 1, 0, i, hi, _, h => by have := z_pos w hi; omega
  | f + 1, f' + 1, i, hi, h, h' => by
    show (if jS J i = 6 then _ else _) = (if jS J i = 6 then _ else _)
    by_cases g : jS J i = 6
    · rw [if_pos g, if_pos g]
      refine evL_cg _ _ (fun j hj => ?_)
      have := ms_z w hi hj
      exact pv_fu w b f f' j this.1 (by omega) (by omega)
    · rw [if_neg g, if_neg g]
def oP (o : Option UInt64) : Prop := ∀ x, o = some x → nP x
theorem oP_n : oP none := fun _ h => by cases h
theorem oP_mx {a b : Option UInt64} (ha : oP a) (hb : oP b) : oP (mxO a b) := by
  cases a with
  | none => exact hb
  | some x =>
    cases b with
    | none => exact ha
    | some y =>
      intro z hz
      have hz : (if x.toNat < y.toNat then y else x) = z := Option.some.inj hz
      by_cases g : x.toNat < y.toNat
      · rw [if_pos g] at hz; rw [← hz]; exact hb y rfl
      · rw [if_neg g] at hz; rw [← hz]; exact ha x rfl
theorem oP_ev {g : Nat → zV} : ∀ (l : List Nat) (a : zV), (∀ i, i ∈ l → oP (g i).1) → oP a.1 → oP (evL g l a).1
  | [], _, _, h => h
  | i :: r, a, h, ha => oP_ev r _ (fun j hj => h j (List.mem_cons_of_mem _ hj)) (oP_mx ha (h i (List.mem_cons_self ..)))
theorem oP_pv {J : zJ} (w : wJ J) {b : UInt64} (hb : bR b) : ∀ (f i : Nat), i < jN J → oP (pvF J b f i).1
  | 0, _, _ => oP_n
  | f + 1, i, hi => by
    show oP (if jS J i = 6 then evL (pvF J b f) (msF J i 0 (jM J i)) (none, [13]) else if jS J i = 3 then (none, []) else (if jQ J i = 0 then none else some (ptF (jS J i) (xF b (jP J i) (jQ J i))), bkF (jS J i))).1
    by_cases g : jS J i = 6
    · rw [if_pos g]
      exact oP_ev _ _ (fun j hj => oP_pv w hb f j (ms_z w hi hj).1) oP_n
    · rw [if_neg g]
      by_cases g3 : jS J i = 3
      · rw [if_pos g3]; exact oP_n
      · rw [if_neg g3]
        show oP (if jQ J i = 0 then none else some (ptF (jS J i) (xF b (jP J i) (jQ J i))))
        by_cases gq : jQ J i = 0
        · rw [if_pos gq]; exact oP_n
        · rw [if_neg gq]
          intro x hx
          rw [← Option.some.inj hx]
          obtain ⟨-, -, -, w4, w5, -⟩ := w.2.2.2 i hi
          exact pt_nP (x_R hb w4 w5 (by omega)) _
