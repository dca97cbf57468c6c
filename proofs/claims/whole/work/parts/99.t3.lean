/-! THE TOP: the two maps of addresses, and the step from one to the other -/
abbrev zDt : Type := (Nat → ClassId) × (Nat → Nat → Nat) × (Nat → ClassId)
def tX1 (base : Nat) (D : zDt) : zX := (fun a => base + a - 1, base, D)
def tX2 (base b : Nat) (D : zDt) : zX := (fun a => if a < 56 then base + a - 1 else if a = 56 then b else base + a - 2, base, D)
theorem tX1_ok (base : Nat) (D : zDt) : zXok (tX1 base D) 1 := by
  refine ⟨fun a b ha hb h => ?_, fun n hn => ?_, fun a ha _ => ?_, by decide, Or.inr ?_⟩
  · have h : base + a - 1 = base + b - 1 := h
    omega
  · show base + (n + 1) - 1 = base + n - 1 + 1
    omega
  · show base ≤ base + a - 1
    omega
  · show base ≤ base + 56 - 1
    omega
theorem tX2_ok {base b : Nat} (D : zDt) (hb : b < base) : zXok (tX2 base b D) 57 := by
  refine ⟨fun x y hx hy h => ?_, fun n hn => ?_, fun a ha h => ?_, by decide, Or.inl (by decide)⟩
  · have h : (if x < 56 then base + x - 1 else if x = 56 then b else base + x - 2) = (if y < 56 then base + y - 1 else if y = 56 then b else base + y - 2) := h
    by_cases h1 : x < 56
    · rw [if_pos h1] at h
      by_cases h2 : y < 56
      · rw [if_pos h2] at h; omega
      · rw [if_neg h2] at h
        by_cases h3 : y = 56
        · rw [if_pos h3] at h; omega
        · rw [if_neg h3] at h; omega
    · rw [if_neg h1] at h
      by_cases h4 : x = 56
      · rw [if_pos h4] at h
        by_cases h2 : y < 56
        · rw [if_pos h2] at h; omega
        · rw [if_neg h2] at h
          by_cases h3 : y = 56
          · omega
          · rw [if_neg h3] at h; omega
      · rw [if_neg h4] at h
        by_cases h2 : y < 56
        · rw [if_pos h2] at h; omega
        · rw [if_neg h2] at h
          by_cases h3 : y = 56
          · rw [if_pos h3] at h; omega
          · rw [if_neg h3] at h; omega
  · show (if n + 1 < 56 then base + (n + 1) - 1 else if n + 1 = 56 then b else base + (n + 1) - 2) = (if n < 56 then base + n - 1 else if n = 56 then b else base + n - 2) + 1
    rw [if_neg (by omega), if_neg (by omega), if_neg (by omega), if_neg (by omega)]
    omega
  · show base ≤ (if a < 56 then base + a - 1 else if a = 56 then b else base + a - 2)
    by_cases h1 : a < 56
    · rw [if_pos h1]; omega
    · rw [if_neg h1, if_neg h]; omega
theorem tX2_lo {base b a : Nat} {D : zDt} (h : a < 56) : (tX2 base b D).1 a = (tX1 base D).1 a := by
  show (if a < 56 then base + a - 1 else if a = 56 then b else base + a - 2) = base + a - 1
  rw [if_pos h]
theorem tX2_56 {base b : Nat} {D : zDt} : (tX2 base b D).1 56 = b := by
  show (if 56 < 56 then base + 56 - 1 else if 56 = 56 then b else base + 56 - 2) = b
  rw [if_neg (by omega), if_pos rfl]
theorem tE_lo {base b q : Nat} {D : zDt} (h : q < 56) : zE (tX2 base b D) (.ref q) = zE (tX1 base D) (.ref q) := by
  cases q with
  | zero => rfl
  | succ q =>
    show Value.ref ((tX2 base b D).1 (q + 1)) = Value.ref ((tX1 base D).1 (q + 1))
    rw [tX2_lo h]
theorem z_at_nth : ∀ (l : List (Nat × Nat)) (a : Nat), z_at l a = z_nth l a
  | [], _ => rfl
  | _ :: _, 0 => rfl
  | _ :: r, a + 1 => z_at_nth r a
theorem z_nth_some {α : Type} : ∀ (l : List α) (a : Nat), a < l.length → ∃ x, z_nth l a = some x
  | [], _, h => by simp at h
  | x :: _, 0, _ => ⟨x, rfl⟩
  | _ :: r, a + 1, h => z_nth_some r a (by simp at h; omega)
theorem zN_hd (a : Nat) : z_hd zN zC20 a = z_at zC20.1 a := by
  unfold z_hd
  rw [z_blt_eq, decide_eq_false (by show ¬ a < 0; omega)]
  rfl
theorem zQ_hd (L : Nat) (xs : Nat → Int32) {a : Nat} {h : Nat × Nat} (e : z_hd zQ (zM0 L xs) a = some h) : (a < 56 ∧ z_hd zN zC20 a = some h) ∨ (a = 56 ∧ h = (20, L)) := by
  unfold z_hd at e
  rw [z_blt_eq] at e
  by_cases ha : a < 56
  · rw [decide_eq_true (show a < zQ.1 from ha)] at e
    have e : some (zQh a) = some h := e
    refine Or.inl ⟨ha, ?_⟩
    rw [zN_hd, zC20_h, z_at_nth]
    obtain ⟨x, hx⟩ := z_nth_some zQl a (show a < 56 from ha)
    rw [hx]
    unfold zQh at e
    rw [hx] at e
    exact e
  · rw [decide_eq_false (show ¬ a < zQ.1 from ha)] at e
    have e : z_at [(20, L)] (a - 56) = some h := e
    cases hk : a - 56 with
    | zero =>
      rw [hk] at e
      exact Or.inr ⟨by omega, (Option.some.inj e).symm⟩
    | succ k => rw [hk] at e; cases e
theorem t_rep {base b L : Nat} {xs : Nat → Int32} {D : zDt} {H : Heap} (h : zRep (tX1 base D) zN 1 zC20 H) (hs : ∃ scr : Cell, H[b]? = some scr ∧ scr.cls = D.2.2 20 ∧ (∀ k, scr.vm ≠ .statics k) ∧ scr.vm ≠ .unknown ∧ scr.slots.size = L ∧ ∀ j, j < L → scr.slots[j]? = some (.int (xs j))) : zRep (tX2 base b D) zQ 57 (zM0 L xs) H := by
  refine ⟨?_, Nat.le_refl _, fun a g ha e => ?_, fun g e => ?_, fun g e => ?_⟩
  · have h1 : H.size = base + (z_tl zN zC20) - 1 := h.1
    have h2 : z_tl zN zC20 = 56 := by
      show 0 + zC20.1.length = 56
      rw [zC20_h]; rfl
    show H.size = (if 57 < 56 then base + 57 - 1 else if 57 = 56 then b else base + 57 - 2)
    rw [if_neg (by omega), if_neg (by omega), h1, h2]
    omega
  · rcases zQ_hd L xs e with ⟨h56, e1⟩ | ⟨rfl, rfl⟩
    · have hI : ∀ k, zI (zM0 L xs) a k = zI zC20 a k := fun k => by
        show (if a = 56 then xs k else zC20.2.1 a k) = zC20.2.1 a k
        rw [if_neg (by omega)]
      have hP : ∀ k, zE (tX2 base b D) (.ref (zP zQ (zM0 L xs) a k)) = zE (tX1 base D) (.ref (zP zN zC20 a k)) := fun k => by
        rw [zM0_P]
        exact tE_lo (zC20_Plt a k)
      have hcell : ∀ t k, z_cell (tX2 base b D) zQ (zM0 L xs) t a k = z_cell (tX1 base D) zN zC20 t a k := fun t k => by
        unfold z_cell
        rw [hI k, hP k]
        rfl
      have helem : ∀ t k, z_elem (tX2 base b D) zQ (zM0 L xs) t a k = z_elem (tX1 base D) zN zC20 t a k := fun t k => by
        unfold z_elem
        rw [hI k, hP k]
        rfl
      have hx : (tX2 base b D).1 a = (tX1 base D).1 a := tX2_lo h56
      rcases h.2.2.1 a g ha e1 with ⟨q1, q2, q3⟩ | ⟨q1, q2, q3, q4⟩ | ⟨q1, scr, q2, q3, q4, q5, q6, q7⟩
      · refine Or.inl ⟨q1, ?_, q3⟩
        rw [hx]
        exact q2.to (fun k _ => (hcell _ k).symm)
      · refine Or.inr (Or.inl ⟨q1, q2, ?_, fun ht j => by rw [hI j]; exact q4 ht j⟩)
        rw [hx, q3, show z_elem (tX2 base b D) zQ (zM0 L xs) g.1 a = z_elem (tX1 base D) zN zC20 g.1 a from funext fun k => helem _ k]
        rfl
      · exact Or.inr (Or.inr ⟨q1, scr, by rw [hx]; exact q2, q3, q4, q5, q6, fun j hj => by rw [hI j]; exact q7 j hj⟩)
    · obtain ⟨scr, q2, q3, q4, q5, q6, q7⟩ := hs
      refine Or.inr (Or.inr ⟨rfl, scr, by rw [tX2_56]; exact q2, q3, q4, q5, q6, fun j hj => ?_⟩)
      have e : zI (zM0 L xs) 56 j = xs j := by
        show (if 56 = 56 then xs j else zC20.2.1 56 j) = xs j
        rw [if_pos rfl]
      rw [e]
      exact q7 j hj
  · rcases zQ_hd L xs e with ⟨h56, -⟩ | ⟨-, rfl⟩
    · omega
    · exact Or.inl rfl
  · rcases zQ_hd L xs e with ⟨-, e1⟩ | ⟨h56, -⟩
    · exact h.2.2.2.2 g e1
    · omega
theorem t_rep0 {base : Nat} {D : zDt} {H : Heap} (h : H.size = base) : zRep (tX1 base D) zN 1 zC H := by
  have hn : ∀ a g, 0 < a → ¬ z_hd zN zC a = some g := fun a g ha e => by
    have := zq_z_hd_lt e
    have : a < 1 := this
    omega
  refine ⟨?_, Nat.le_refl _, fun a g ha e => absurd e (hn a g ha), fun g e => absurd e (hn 56 g (by omega)), fun g e => ?_⟩
  · show H.size = base + 1 - 1
    omega
  · have e : some ((99 : Nat), (0 : Nat)) = some g := e
    cases e
    rfl
theorem zSok_N : zSok zN := fun _ _ _ => rfl
theorem zSok_Q : zSok zQ := fun a k h => by
  have h : 56 ≤ a := h
  exact zQp_no (by omega) (by omega) (by omega)
