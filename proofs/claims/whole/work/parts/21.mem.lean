/-! S LEVEL: binds of a known answer, cells after writes, new cells. -/
theorem z_bV_some (M : zM) (k : zM → zR) : z_bV (some (none, M)) k = k M := rfl
theorem z_bI_some (x : Int32) (M : zM) (k : Int32 → zM → zR) : z_bI (some (some (.int x), M)) k = k x M := rfl
theorem z_bJ_some (x : Int64) (M : zM) (k : Int64 → zM → zR) : z_bJ (some (some (.long x), M)) k = k x M := rfl
theorem z_bD_some (x : UInt64) (M : zM) (k : UInt64 → zM → zR) : z_bD (some (some (.double x), M)) k = k x M := rfl
theorem z_bR_some (x : Nat) (M : zM) (k : Nat → zM → zR) : z_bR (some (some (.ref x), M)) k = k x M := rfl
theorem z_cT {α : Type} {b : Bool} {x y : α} (h : b = true) : (bif b then x else y) = x := by rw [h]; rfl
theorem z_cF {α : Type} {b : Bool} {x y : α} (h : b = false) : (bif b then x else y) = y := by rw [h]; rfl
theorem z_bq_T (a : Nat) : Nat.beq a a = true := Nat.beq_refl a
theorem z_bq_F {a b : Nat} (h : a ≠ b) : Nat.beq a b = false := by
  cases e : Nat.beq a b
  · rfl
  · exact absurd (Nat.eq_of_beq_eq_true e) h
theorem z_bl_T {a b : Nat} (h : a ≤ b) : Nat.ble a b = true := Nat.ble_eq_true_of_le h
/-- cells after writes -/
theorem zI_wI (M : zM) (a k a' k' : Nat) (v : Int32) : zI (z_wI M a k v) a' k' = if a' = a ∧ k' = k then v else zI M a' k' := rfl
theorem zI_wI_s (M : zM) (a k : Nat) (v : Int32) : zI (z_wI M a k v) a k = v := by rw [zI_wI, if_pos ⟨rfl, rfl⟩]
theorem zI_wI_a {M : zM} {a k a' k' : Nat} {v : Int32} (h : a' ≠ a) : zI (z_wI M a k v) a' k' = zI M a' k' := by rw [zI_wI, if_neg (fun e => h e.1)]
theorem zI_wI_k {M : zM} {a k a' k' : Nat} {v : Int32} (h : k' ≠ k) : zI (z_wI M a k v) a' k' = zI M a' k' := by rw [zI_wI, if_neg (fun e => h e.2)]
theorem zI_wP (M : zM) (a k a' k' : Nat) (v : Nat) : zI (z_wP M a k v) a' k' = zI M a' k' := rfl
theorem zI_wD (M : zM) (a k a' k' : Nat) (v : UInt64) : zI (z_wD M a k v) a' k' = zI M a' k' := rfl
theorem zD_wI (M : zM) (a k a' k' : Nat) (v : Int32) : zD (z_wI M a k v) a' k' = zD M a' k' := rfl
theorem zD_wP (M : zM) (a k a' k' : Nat) (v : Nat) : zD (z_wP M a k v) a' k' = zD M a' k' := rfl
theorem zD_wD (M : zM) (a k a' k' : Nat) (v : UInt64) : zD (z_wD M a k v) a' k' = if a' = a ∧ k' = k then v else zD M a' k' := rfl
theorem zD_wD_s (M : zM) (a k : Nat) (v : UInt64) : zD (z_wD M a k v) a k = v := by rw [zD_wD, if_pos ⟨rfl, rfl⟩]
theorem zD_wD_a {M : zM} {a k a' k' : Nat} {v : UInt64} (h : a' ≠ a) : zD (z_wD M a k v) a' k' = zD M a' k' := by rw [zD_wD, if_neg (fun e => h e.1)]
theorem zD_wD_k {M : zM} {a k a' k' : Nat} {v : UInt64} (h : k' ≠ k) : zD (z_wD M a k v) a' k' = zD M a' k' := by rw [zD_wD, if_neg (fun e => h e.2)]
theorem zP_wI (S : zS) (M : zM) (a k a' k' : Nat) (v : Int32) : zP S (z_wI M a k v) a' k' = zP S M a' k' := rfl
theorem zP_wD (S : zS) (M : zM) (a k a' k' : Nat) (v : UInt64) : zP S (z_wD M a k v) a' k' = zP S M a' k' := rfl
theorem zQp_no {a k : Nat} (h1 : a ≠ 1) (h3 : a ≠ 3) (h15 : a ≠ 15) : zQp a k = none := by
  unfold zQp
  rw [z_bq_F h1, z_bq_F h3, z_bq_F h15]
  rfl
theorem zP_wP {M : zM} {a k a' k' v : Nat} (h : zQp a k = none) : zP zQ (z_wP M a k v) a' k' = if a' = a ∧ k' = k then v else zP zQ M a' k' := by
  by_cases e : a' = a ∧ k' = k
  · rw [if_pos e]
    obtain ⟨rfl, rfl⟩ := e
    have : zQ.2.2 a' k' = none := h
    unfold zP
    rw [this]
    show (if a' = a' ∧ k' = k' then v else _) = v
    rw [if_pos ⟨rfl, rfl⟩]
  · rw [if_neg e]
    unfold zP
    cases zQ.2.2 a' k' with
    | some p => rfl
    | none =>
      show (if a' = a ∧ k' = k then v else _) = _
      rw [if_neg e]
theorem zP_wP_s {M : zM} {a k v : Nat} (h1 : a ≠ 1) (h3 : a ≠ 3) (h15 : a ≠ 15) : zP zQ (z_wP M a k v) a k = v := by rw [zP_wP (zQp_no h1 h3 h15), if_pos ⟨rfl, rfl⟩]
theorem zP_wP_a {M : zM} {a k a' k' v : Nat} (h : a' ≠ a) : zP zQ (z_wP M a k v) a' k' = zP zQ M a' k' := by
  unfold zP
  cases zQ.2.2 a' k' with
  | some p => rfl
  | none =>
    show (if a' = a ∧ k' = k then v else _) = _
    rw [if_neg (fun e => h e.1)]
theorem zP_wP_k {M : zM} {a k a' k' v : Nat} (h : k' ≠ k) : zP zQ (z_wP M a k v) a' k' = zP zQ M a' k' := by
  unfold zP
  cases zQ.2.2 a' k' with
  | some p => rfl
  | none =>
    show (if a' = a ∧ k' = k then v else _) = _
    rw [if_neg (fun e => h e.2)]
theorem z_free_T {a k : Nat} (h1 : a ≠ 1) (h3 : a ≠ 3) (h15 : a ≠ 15) : z_free zQ a k = true := by
  unfold z_free
  have : zQ.2.2 a k = none := zQp_no h1 h3 h15
  rw [this]
/-- headers -/
theorem z_hd_wI (S : zS) (M : zM) (a k a' : Nat) (v : Int32) : z_hd S (z_wI M a k v) a' = z_hd S M a' := rfl
theorem z_hd_wP (S : zS) (M : zM) (a k a' : Nat) (v : Nat) : z_hd S (z_wP M a k v) a' = z_hd S M a' := rfl
theorem z_hd_wD (S : zS) (M : zM) (a k a' : Nat) (v : UInt64) : z_hd S (z_wD M a k v) a' = z_hd S M a' := rfl
theorem z_hd_cpy (S : zS) (M : zM) (a b sp dp n a' : Nat) : z_hd S (z_cpy M a b sp dp n) a' = z_hd S M a' := rfl
theorem z_cls_wI (S : zS) (M : zM) (a k a' : Nat) (v : Int32) (al : List Nat) : z_cls S (z_wI M a k v) a' al = z_cls S M a' al := rfl
theorem z_cls_wP (S : zS) (M : zM) (a k a' : Nat) (v : Nat) (al : List Nat) : z_cls S (z_wP M a k v) a' al = z_cls S M a' al := rfl
theorem z_cls_wD (S : zS) (M : zM) (a k a' : Nat) (v : UInt64) (al : List Nat) : z_cls S (z_wD M a k v) a' al = z_cls S M a' al := rfl
theorem z_cls_cpy (S : zS) (M : zM) (a b sp dp n a' : Nat) (al : List Nat) : z_cls S (z_cpy M a b sp dp n) a' al = z_cls S M a' al := rfl
theorem z_ia_wI (S : zS) (M : zM) (a k a' t : Nat) (v i : Int32) : z_ia S (z_wI M a k v) a' t i = z_ia S M a' t i := rfl
theorem z_ia_wP (S : zS) (M : zM) (a k a' t : Nat) (v : Nat) (i : Int32) : z_ia S (z_wP M a k v) a' t i = z_ia S M a' t i := rfl
theorem z_ia_wD (S : zS) (M : zM) (a k a' t : Nat) (v : UInt64) (i : Int32) : z_ia S (z_wD M a k v) a' t i = z_ia S M a' t i := rfl
theorem z_ia_cpy (S : zS) (M : zM) (a b sp dp n a' t : Nat) (i : Int32) : z_ia S (z_cpy M a b sp dp n) a' t i = z_ia S M a' t i := rfl
theorem z_ln_wI (S : zS) (M : zM) (a k a' : Nat) (v : Int32) : z_ln S (z_wI M a k v) a' = z_ln S M a' := rfl
theorem z_ln_wP (S : zS) (M : zM) (a k a' : Nat) (v : Nat) : z_ln S (z_wP M a k v) a' = z_ln S M a' := rfl
theorem z_ln_wD (S : zS) (M : zM) (a k a' : Nat) (v : UInt64) : z_ln S (z_wD M a k v) a' = z_ln S M a' := rfl
theorem z_ln_cpy (S : zS) (M : zM) (a b sp dp n a' : Nat) : z_ln S (z_cpy M a b sp dp n) a' = z_ln S M a' := rfl
theorem z_new_wI (S : zS) (M : zM) (a k : Nat) (v : Int32) : z_new S (z_wI M a k v) = z_new S M := rfl
theorem z_new_wP (S : zS) (M : zM) (a k : Nat) (v : Nat) : z_new S (z_wP M a k v) = z_new S M := rfl
theorem z_new_wD (S : zS) (M : zM) (a k : Nat) (v : UInt64) : z_new S (z_wD M a k v) = z_new S M := rfl
theorem z_new_cpy (S : zS) (M : zM) (a b sp dp n : Nat) : z_new S (z_cpy M a b sp dp n) = z_new S M := rfl
theorem z_new_nw (S : zS) (M : zM) (h : Nat × Nat) : z_new S (z_nw S M h) = z_new S M + 1 := by
  show S.1 + (M.1 ++ [h]).length = S.1 + M.1.length + 1
  rw [List.length_append]; rfl
theorem z_cls_of {S : zS} {M : zM} {a : Nat} {h : Nat × Nat} (e : z_hd S M a = some h) (al : List Nat) : z_cls S M a al = z_mem h.1 al := by unfold z_cls; rw [e]
theorem z_ia_of {S : zS} {M : zM} {a t n : Nat} (e : z_hd S M a = some (t, n)) (i : Int32) : z_ia S M a t i = z_ix i n := by
  unfold z_ia; rw [e]
  show (bif Nat.beq t t then z_ix i n else false) = _
  rw [z_bq_T]; rfl
theorem z_ln_of {S : zS} {M : zM} {a : Nat} {h : Nat × Nat} (e : z_hd S M a = some h) : z_ln S M a = h.2 := by unfold z_ln; rw [e]
/-- new cells -/
theorem z_at_some : ∀ (l : List (Nat × Nat)) (i : Nat) (h : Nat × Nat), z_at l i = some h → i < l.length
  | [], _, _, e => by cases e
  | _ :: _, 0, _, _ => Nat.zero_lt_succ _
  | _ :: r, i + 1, h, e => Nat.succ_lt_succ (z_at_some r i h e)
theorem z_at_lt : ∀ (l m : List (Nat × Nat)) (i : Nat), i < l.length → z_at (l ++ m) i = z_at l i
  | [], _, _, e => absurd e (Nat.not_lt_zero _)
  | _ :: _, _, 0, _ => rfl
  | _ :: r, m, i + 1, e => z_at_lt r m i (Nat.lt_of_succ_lt_succ e)
theorem z_at_len : ∀ (l : List (Nat × Nat)) (x : Nat × Nat) (m : List (Nat × Nat)), z_at (l ++ x :: m) l.length = some x
  | [], _, _ => rfl
  | _ :: r, x, m => z_at_len r x m
theorem z_at_ge : ∀ (l : List (Nat × Nat)) (i : Nat), l.length ≤ i → z_at l i = none
  | [], _, _ => rfl
  | _ :: _, 0, e => absurd e (by simp)
  | _ :: r, i + 1, e => z_at_ge r i (Nat.le_of_succ_le_succ e)
theorem z_hd_lt {M : zM} {a : Nat} {h : Nat × Nat} (e : z_hd zQ M a = some h) : a < z_new zQ M := by
  unfold z_hd at e
  by_cases hb : a < zQ.1
  · exact Nat.lt_of_lt_of_le hb (Nat.le_add_right _ _)
  · rw [show Nat.blt a zQ.1 = false from by
      cases q : Nat.blt a zQ.1
      · rfl
      · exact absurd (Nat.le_of_ble_eq_true q) hb] at e
    have := z_at_some _ _ _ e
    show a < zQ.1 + M.1.length
    omega
theorem z_hd_app {M M' : zM} {l : List (Nat × Nat)} (hl : M'.1 = M.1 ++ l) {a : Nat} (ha : a < z_new zQ M) : z_hd zQ M' a = z_hd zQ M a := by
  unfold z_hd
  cases q : Nat.blt a zQ.1
  · have hb : ¬ a < zQ.1 := fun h => by
      have := Nat.ble_eq_true_of_le (Nat.succ_le_of_lt h)
      exact Bool.false_ne_true (q.symm.trans this)
    show z_at M'.1 (a - zQ.1) = z_at M.1 (a - zQ.1)
    rw [hl]
    refine z_at_lt _ _ _ ?_
    have : a < zQ.1 + M.1.length := ha
    omega
  · rfl
theorem z_hd_nw_s (M : zM) (h : Nat × Nat) : z_hd zQ (z_nw zQ M h) (z_new zQ M) = some h := by
  unfold z_hd
  have hb : Nat.blt (z_new zQ M) zQ.1 = false := by
    cases q : Nat.blt (z_new zQ M) zQ.1
    · rfl
    · have := Nat.le_of_ble_eq_true q
      have h2 : z_new zQ M = zQ.1 + M.1.length := rfl
      omega
  rw [hb]
  show z_at (M.1 ++ [h]) (zQ.1 + M.1.length - zQ.1) = some h
  rw [Nat.add_sub_cancel_left]
  exact z_at_len _ _ _
theorem z_hd_nw_o {M : zM} {h : Nat × Nat} {a : Nat} (ha : a ≠ z_new zQ M) : z_hd zQ (z_nw zQ M h) a = z_hd zQ M a := by
  by_cases hl : a < z_new zQ M
  · exact z_hd_app (l := [h]) rfl hl
  · cases e : z_hd zQ M a with
    | some g => exact absurd (z_hd_lt e) hl
    | none =>
      cases e2 : z_hd zQ (z_nw zQ M h) a with
      | none => rfl
      | some g =>
        have := z_hd_lt e2
        rw [z_new_nw] at this
        omega
theorem z_new_ge (M : zM) : 56 ≤ z_new zQ M := Nat.le_add_right _ _
theorem zI_nw_o {M : zM} {h : Nat × Nat} {a k : Nat} (ha : a ≠ z_new zQ M) : zI (z_nw zQ M h) a k = zI M a k := by
  show (if a = z_new zQ M then _ else _) = _
  rw [if_neg ha]; rfl
theorem zI_nw_s (M : zM) (h : Nat × Nat) (k : Nat) : zI (z_nw zQ M h) (z_new zQ M) k = 0 := by
  show (if z_new zQ M = z_new zQ M then _ else _) = _
  rw [if_pos rfl]
theorem zD_nw_o {M : zM} {h : Nat × Nat} {a k : Nat} (ha : a ≠ z_new zQ M) : zD (z_nw zQ M h) a k = zD M a k := by
  show (if a = z_new zQ M then _ else _) = _
  rw [if_neg ha]; rfl
theorem zP_nw_o {M : zM} {h : Nat × Nat} {a k : Nat} (ha : a ≠ z_new zQ M) : zP zQ (z_nw zQ M h) a k = zP zQ M a k := by
  unfold zP
  cases zQ.2.2 a k with
  | some p => rfl
  | none =>
    show (if a = z_new zQ M then _ else _) = _
    rw [if_neg ha]
theorem zP_nw_s (M : zM) (h : Nat × Nat) (k : Nat) : zP zQ (z_nw zQ M h) (z_new zQ M) k = 0 := by
  have h56 := z_new_ge M
  unfold zP
  have : zQ.2.2 (z_new zQ M) k = none := zQp_no (by omega) (by omega) (by omega)
  rw [this]
  show (if z_new zQ M = z_new zQ M then _ else _) = _
  rw [if_pos rfl]
theorem zI_cpy (M : zM) (a b sp dp n a' k : Nat) : zI (z_cpy M a b sp dp n) a' k = if a' = b ∧ dp ≤ k ∧ k < dp + n then zI M a (sp + (k - dp)) else zI M a' k := rfl
theorem zI_cpy_a {M : zM} {a b sp dp n a' k : Nat} (h : a' ≠ b) : zI (z_cpy M a b sp dp n) a' k = zI M a' k := by rw [zI_cpy, if_neg (fun e => h e.1)]
theorem zP_cpy (S : zS) (M : zM) (a b sp dp n a' k : Nat) : zP S (z_cpy M a b sp dp n) a' k = zP S M a' k := rfl
theorem zD_cpy (S : zS) (M : zM) (a b sp dp n a' k : Nat) : zD (z_cpy M a b sp dp n) a' k = zD M a' k := rfl
/-- a row written anew as a whole -/
def z_uI (M : zM) (a : Nat) (f : Nat → Int32) : zM := (M.1, fun a' k => if a' = a then f k else M.2.1 a' k, M.2.2.1, M.2.2.2)
theorem zI_uI_s (M : zM) (a : Nat) (f : Nat → Int32) (k : Nat) : zI (z_uI M a f) a k = f k := by
  show (if a = a then f k else _) = _
  rw [if_pos rfl]
theorem zI_uI_a {M : zM} {a a' k : Nat} {f : Nat → Int32} (h : a' ≠ a) : zI (z_uI M a f) a' k = zI M a' k := by
  show (if a' = a then f k else _) = _
  rw [if_neg h]; rfl
theorem zP_uI (S : zS) (M : zM) (a : Nat) (f : Nat → Int32) (a' k : Nat) : zP S (z_uI M a f) a' k = zP S M a' k := rfl
theorem zD_uI (M : zM) (a : Nat) (f : Nat → Int32) (a' k : Nat) : zD (z_uI M a f) a' k = zD M a' k := rfl
theorem z_hd_uI (S : zS) (M : zM) (a a' : Nat) (f : Nat → Int32) : z_hd S (z_uI M a f) a' = z_hd S M a' := rfl
theorem z_cls_uI (S : zS) (M : zM) (a a' : Nat) (f : Nat → Int32) (al : List Nat) : z_cls S (z_uI M a f) a' al = z_cls S M a' al := rfl
theorem z_ia_uI (S : zS) (M : zM) (a a' t : Nat) (f : Nat → Int32) (i : Int32) : z_ia S (z_uI M a f) a' t i = z_ia S M a' t i := rfl
theorem z_ln_uI (S : zS) (M : zM) (a a' : Nat) (f : Nat → Int32) : z_ln S (z_uI M a f) a' = z_ln S M a' := rfl
theorem z_new_uI (S : zS) (M : zM) (a : Nat) (f : Nat → Int32) : z_new S (z_uI M a f) = z_new S M := rfl
theorem z_wI_uI (M : zM) (a k : Nat) (v : Int32) : z_wI M a k v = z_uI M a (fun j => if j = k then v else zI M a j) := by
  unfold z_wI z_uI zI
  congr 2
  funext a' k'
  by_cases h : a' = a
  · subst h; simp
  · simp [h]
theorem z_uI_uI (M : zM) (a : Nat) (f g : Nat → Int32) : z_uI (z_uI M a f) a g = z_uI M a g := by
  unfold z_uI
  congr 2
  funext a' k'
  by_cases h : a' = a
  · subst h; simp
  · simp [h]
theorem z_uI_id (M : zM) (a : Nat) : z_uI M a (fun k => zI M a k) = M := by
  unfold z_uI zI
  obtain ⟨m1, m2, m3, m4⟩ := M
  simp only [Prod.mk.injEq, true_and, and_true]
  funext a' k'
  by_cases h : a' = a
  · subst h; simp
  · simp [h]
theorem z_uI_congr {M : zM} {a : Nat} {f g : Nat → Int32} (h : ∀ k, f k = g k) : z_uI M a f = z_uI M a g := by
  have : f = g := funext h
  rw [this]
