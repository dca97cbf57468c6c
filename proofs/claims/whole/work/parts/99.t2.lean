/-! THE TOP: what the two constructors leave (wip/gen/emitT2.py) -/
abbrev zOp : Type := Nat × Nat × Nat × Nat × Int32 × UInt64
def z_op (o : zOp) (M : zM) : zM := match o.1 with
  | 0 => z_nw zN M (o.2.1, o.2.2.1)
  | 1 => z_wI M o.2.1 o.2.2.1 o.2.2.2.2.1
  | 2 => z_wP M o.2.1 o.2.2.1 o.2.2.2.1
  | _ => z_wD M o.2.1 o.2.2.1 o.2.2.2.2.2
def z_ops : List zOp → zM
  | [] => zC
  | o :: r => z_op o (z_ops r)
def z_nn : List zOp → Nat
  | [] => 1
  | o :: r => match o.1 with
    | 0 => z_nn r + 1
    | _ => z_nn r
def z_pv : List zOp → Nat → Nat → Nat
  | [], _, _ => 0
  | o :: r, a, k => match o.1 with
    | 0 => if a = z_nn r then 0 else z_pv r a k
    | 2 => if a = o.2.1 ∧ k = o.2.2.1 then o.2.2.2.1 else z_pv r a k
    | _ => z_pv r a k
def z_iv : List zOp → Nat → Nat → Int32
  | [], _, _ => 0
  | o :: r, a, k => match o.1 with
    | 0 => if a = z_nn r then 0 else z_iv r a k
    | 1 => if a = o.2.1 ∧ k = o.2.2.1 then o.2.2.2.2.1 else z_iv r a k
    | _ => z_iv r a k
theorem z_ops_new : ∀ l : List zOp, z_new zN (z_ops l) = z_nn l
  | [] => rfl
  | (0, x) :: r => by
    have ih := z_ops_new r
    show 0 + ((z_ops r).1 ++ [(x.1, x.2.1)]).length = z_nn r + 1
    rw [← ih, List.length_append]
    show 0 + ((z_ops r).1.length + 1) = 0 + (z_ops r).1.length + 1
    omega
  | (1, x) :: r => z_ops_new r
  | (2, x) :: r => z_ops_new r
  | (t + 3, x) :: r => z_ops_new r
theorem z_ops_P : ∀ (l : List zOp) (a k : Nat), (z_ops l).2.2.1 a k = z_pv l a k
  | [], _, _ => rfl
  | (0, x) :: r, a, k => by
    show (if a = z_new zN (z_ops r) then 0 else (z_ops r).2.2.1 a k) = if a = z_nn r then 0 else z_pv r a k
    rw [z_ops_new, z_ops_P r]
  | (1, x) :: r, a, k => z_ops_P r a k
  | (2, x) :: r, a, k => by
    show (if a = x.1 ∧ k = x.2.1 then x.2.2.1 else (z_ops r).2.2.1 a k) = if a = x.1 ∧ k = x.2.1 then x.2.2.1 else z_pv r a k
    rw [z_ops_P r]
  | (t + 3, x) :: r, a, k => z_ops_P r a k
theorem z_ops_I : ∀ (l : List zOp) (a k : Nat), (z_ops l).2.1 a k = z_iv l a k
  | [], _, _ => rfl
  | (0, x) :: r, a, k => by
    show (if a = z_new zN (z_ops r) then 0 else (z_ops r).2.1 a k) = if a = z_nn r then 0 else z_iv r a k
    rw [z_ops_new, z_ops_I r]
  | (1, x) :: r, a, k => by
    show (if a = x.1 ∧ k = x.2.1 then x.2.2.2.1 else (z_ops r).2.1 a k) = if a = x.1 ∧ k = x.2.1 then x.2.2.2.1 else z_iv r a k
    rw [z_ops_I r]
  | (2, x) :: r, a, k => z_ops_I r a k
  | (t + 3, x) :: r, a, k => z_ops_I r a k
theorem z_pv_0 : ∀ (l : List zOp) (a k : Nat), (∀ o ∈ l, o.1 = 2 → ¬ (a = o.2.1 ∧ k = o.2.2.1)) → z_pv l a k = 0
  | [], _, _, _ => rfl
  | (0, x) :: r, a, k, h => by
    show (if a = z_nn r then 0 else z_pv r a k) = 0
    rw [z_pv_0 r a k (fun o ho => h o (List.mem_cons_of_mem _ ho))]
    exact ite_self 0
  | (1, x) :: r, a, k, h => z_pv_0 r a k (fun o ho => h o (List.mem_cons_of_mem _ ho))
  | (2, x) :: r, a, k, h => by
    show (if a = x.1 ∧ k = x.2.1 then x.2.2.1 else z_pv r a k) = 0
    rw [if_neg (h _ List.mem_cons_self rfl)]
    exact z_pv_0 r a k (fun o ho => h o (List.mem_cons_of_mem _ ho))
  | (t + 3, x) :: r, a, k, h => z_pv_0 r a k (fun o ho => h o (List.mem_cons_of_mem _ ho))
theorem z_iv_0 : ∀ (l : List zOp) (a k : Nat), (∀ o ∈ l, o.1 = 1 → ¬ (a = o.2.1 ∧ k = o.2.2.1)) → z_iv l a k = 0
  | [], _, _, _ => rfl
  | (0, x) :: r, a, k, h => by
    show (if a = z_nn r then 0 else z_iv r a k) = 0
    rw [z_iv_0 r a k (fun o ho => h o (List.mem_cons_of_mem _ ho))]
    exact ite_self 0
  | (1, x) :: r, a, k, h => by
    show (if a = x.1 ∧ k = x.2.1 then x.2.2.2.1 else z_iv r a k) = 0
    rw [if_neg (h _ List.mem_cons_self rfl)]
    exact z_iv_0 r a k (fun o ho => h o (List.mem_cons_of_mem _ ho))
  | (2, x) :: r, a, k, h => z_iv_0 r a k (fun o ho => h o (List.mem_cons_of_mem _ ho))
  | (t + 3, x) :: r, a, k, h => z_iv_0 r a k (fun o ho => h o (List.mem_cons_of_mem _ ho))
def z_cops : List zOp := [(1, 15, 49, 0, (-4), 0), (3, 15, 22, 0, 0, 4646448178051153920), (2, 15, 67, 55, 0, 0), (0, 14, 1800, 0, 0, 0), (2, 15, 66, 54, 0, 0), (0, 14, 1800, 0, 0, 0), (2, 15, 64, 53, 0, 0), (0, 14, 256, 0, 0, 0), (2, 15, 61, 52, 0, 0), (0, 14, 606210, 0, 0, 0), (2, 15, 59, 51, 0, 0), (0, 14, 6000, 0, 0, 0), (2, 15, 57, 50, 0, 0), (0, 14, 60, 0, 0, 0), (2, 15, 56, 49, 0, 0), (0, 14, 60, 0, 0, 0), (2, 15, 55, 48, 0, 0), (0, 14, 340, 0, 0, 0), (2, 15, 54, 47, 0, 0), (0, 14, 340, 0, 0, 0), (2, 15, 53, 46, 0, 0), (0, 14, 340, 0, 0, 0), (2, 15, 40, 45, 0, 0), (0, 15, 16, 0, 0, 0), (2, 15, 39, 44, 0, 0), (0, 14, 8, 0, 0, 0), (2, 15, 38, 43, 0, 0), (0, 15, 8, 0, 0, 0), (2, 15, 34, 42, 0, 0), (0, 15, 60, 0, 0, 0), (2, 15, 33, 41, 0, 0), (0, 14, 80, 0, 0, 0), (2, 15, 32, 40, 0, 0), (0, 14, 80, 0, 0, 0), (2, 15, 31, 39, 0, 0), (0, 14, 17, 0, 0, 0), (2, 15, 30, 38, 0, 0), (0, 14, 8, 0, 0, 0), (2, 15, 29, 37, 0, 0), (0, 14, 8, 0, 0, 0), (2, 15, 28, 36, 0, 0), (0, 14, 200, 0, 0, 0), (2, 15, 26, 35, 0, 0), (0, 14, 16, 0, 0, 0), (2, 15, 25, 34, 0, 0), (0, 14, 16, 0, 0, 0), (2, 15, 24, 33, 0, 0), (0, 14, 16, 0, 0, 0), (2, 15, 21, 32, 0, 0), (0, 13, 60, 0, 0, 0), (2, 15, 20, 31, 0, 0), (0, 15, 60, 0, 0, 0), (2, 15, 19, 30, 0, 0), (0, 14, 60, 0, 0, 0), (2, 15, 18, 29, 0, 0), (0, 14, 60, 0, 0, 0), (2, 15, 17, 28, 0, 0), (0, 14, 480, 0, 0, 0), (2, 15, 16, 27, 0, 0), (0, 14, 60, 0, 0, 0), (2, 15, 15, 26, 0, 0), (0, 14, 60, 0, 0, 0), (2, 15, 12, 25, 0, 0), (0, 14, 102400, 0, 0, 0), (2, 15, 11, 24, 0, 0), (0, 14, 400, 0, 0, 0), (2, 15, 10, 23, 0, 0), (0, 14, 3600, 0, 0, 0), (2, 15, 9, 22, 0, 0), (0, 14, 400, 0, 0, 0), (2, 15, 8, 21, 0, 0), (0, 15, 400, 0, 0, 0), (2, 15, 7, 20, 0, 0), (0, 14, 400, 0, 0, 0), (2, 15, 6, 19, 0, 0), (0, 14, 400, 0, 0, 0), (2, 15, 5, 18, 0, 0), (0, 14, 400, 0, 0, 0), (2, 15, 3, 17, 0, 0), (0, 14, 8000, 0, 0, 0), (2, 15, 2, 16, 0, 0), (0, 14, 20, 0, 0, 0), (0, 11, 68, 0, 0, 0), (1, 1, 7, 0, 0, 0), (1, 1, 6, 0, 0, 0), (1, 1, 5, 0, 0, 0), (1, 1, 4, 0, 0, 0), (1, 1, 3, 0, 0, 0), (2, 1, 2, 14, 0, 0), (0, 14, 1792, 0, 0, 0), (2, 1, 1, 3, 0, 0), (1, 11, 4, 0, (-4), 0), (2, 3, 16, 0, 0, 0), (1, 3, 15, 0, 0, 0), (1, 3, 14, 0, 0, 0), (1, 3, 13, 0, 0, 0), (1, 3, 12, 0, 7040, 0), (1, 3, 11, 0, 0, 0), (1, 3, 10, 0, 0, 0), (2, 3, 9, 13, 0, 0), (0, 14, 6000, 0, 0, 0), (2, 3, 8, 12, 0, 0), (0, 19, 501, 0, 0, 0), (2, 3, 7, 11, 0, 0), (0, 14, 523, 0, 0, 0), (2, 3, 6, 10, 0, 0), (0, 14, 17, 0, 0, 0), (2, 3, 5, 9, 0, 0), (0, 14, 8, 0, 0, 0), (2, 3, 4, 8, 0, 0), (1, 8, 7, 0, (-1), 0), (1, 8, 6, 0, (-1), 0), (1, 8, 5, 0, (-1), 0), (1, 8, 4, 0, (-1), 0), (1, 8, 3, 0, (-1), 0), (1, 8, 2, 0, (-1), 0), (1, 8, 1, 0, (-1), 0), (1, 8, 0, 0, (-1), 0), (0, 14, 8, 0, 0, 0), (2, 3, 3, 7, 0, 0), (0, 14, 200, 0, 0, 0), (2, 3, 2, 6, 0, 0), (0, 14, 17, 0, 0, 0), (2, 3, 1, 5, 0, 0), (0, 14, 16, 0, 0, 0), (2, 3, 0, 4, 0, 0), (0, 16, 60, 0, 0, 0), (0, 4, 17, 0, 0, 0), (2, 1, 0, 2, 0, 0), (0, 17, 20, 0, 0, 0), (0, 10, 8, 0, 0, 0)]
set_option maxRecDepth 100000 in
set_option maxHeartbeats 8000000 in
theorem z_cops_eq : zC20 = z_ops z_cops := rfl
def z_pd (a k : Nat) : Nat := match zQp a k with
  | some p => p
  | none => 0
def z_id (a k : Nat) : Int32 := if a = 8 ∧ k < 8 then -1 else if a = 3 ∧ k = 12 then 7040 else if (a = 11 ∧ k = 4) ∨ (a = 15 ∧ k = 49) then -4 else 0
theorem z_cops_p : z_cops.all (fun o => decide (o.1 ≠ 2) || (decide (o.2.2.1 < 68) && decide (o.2.1 = 1 ∨ o.2.1 = 3 ∨ o.2.1 = 15))) = true := by decide +kernel
theorem z_cops_i : z_cops.all (fun o => decide (o.1 ≠ 1) || (decide (o.2.2.1 < 68) && decide (o.2.1 = 1 ∨ o.2.1 = 3 ∨ o.2.1 = 8 ∨ o.2.1 = 11 ∨ o.2.1 = 15))) = true := by decide +kernel
theorem z_cops_pc : [1, 3, 15].all (fun a => (List.range 68).all (fun k => decide (z_pv z_cops a k = z_pd a k))) = true := by decide +kernel
theorem z_cops_ic : [1, 3, 8, 11, 15].all (fun a => (List.range 68).all (fun k => decide (z_iv z_cops a k = z_id a k))) = true := by decide +kernel
theorem z_nthD_ge : ∀ (l : List (Option Nat)) (k : Nat), l.length ≤ k → z_nthD l k = none
  | [], _, _ => rfl
  | _ :: _, 0, h => by simp at h
  | _ :: r, k + 1, h => z_nthD_ge r k (by simp at h; omega)
theorem zQp_big {a k : Nat} (h : 68 ≤ k) : zQp a k = none := by
  unfold zQp
  rw [z_nthD_ge zQx k (by show 3 ≤ k; omega), z_nthD_ge zQo k (by show 10 ≤ k; omega), z_nthD_ge zQm k (by show 68 ≤ k; omega)]
  cases Nat.beq a 1 <;> cases Nat.beq a 3 <;> cases Nat.beq a 15 <;> rfl
theorem zC20_P (a k : Nat) : zC20.2.2.1 a k = z_pd a k := by
  rw [z_cops_eq, z_ops_P]
  by_cases ha : a = 1 ∨ a = 3 ∨ a = 15
  · by_cases hk : k < 68
    · have h := List.all_eq_true.mp z_cops_pc a (by rcases ha with rfl | rfl | rfl <;> decide)
      exact of_decide_eq_true (List.all_eq_true.mp h k (List.mem_range.mpr hk))
    · unfold z_pd
      rw [zQp_big (by omega)]
      refine z_pv_0 _ _ _ (fun o ho h2 => ?_)
      have h := List.all_eq_true.mp z_cops_p o ho
      rw [Bool.or_eq_true, Bool.and_eq_true, decide_eq_true_eq, decide_eq_true_eq, decide_eq_true_eq] at h
      rintro ⟨-, q⟩
      rcases h with h | h
      · exact h h2
      · omega
  · unfold z_pd
    rw [zQp_no (by omega) (by omega) (by omega)]
    refine z_pv_0 _ _ _ (fun o ho h2 => ?_)
    have h := List.all_eq_true.mp z_cops_p o ho
    rw [Bool.or_eq_true, Bool.and_eq_true, decide_eq_true_eq, decide_eq_true_eq, decide_eq_true_eq] at h
    rintro ⟨q, -⟩
    rcases h with h | h
    · exact h h2
    · omega
theorem zC20_I (a k : Nat) : zC20.2.1 a k = z_id a k := by
  rw [z_cops_eq, z_ops_I]
  by_cases ha : a = 1 ∨ a = 3 ∨ a = 8 ∨ a = 11 ∨ a = 15
  · by_cases hk : k < 68
    · have h := List.all_eq_true.mp z_cops_ic a (by rcases ha with rfl | rfl | rfl | rfl | rfl <;> decide)
      exact of_decide_eq_true (List.all_eq_true.mp h k (List.mem_range.mpr hk))
    · unfold z_id
      rw [if_neg (by omega), if_neg (by omega), if_neg (by omega)]
      refine z_iv_0 _ _ _ (fun o ho h2 => ?_)
      have h := List.all_eq_true.mp z_cops_i o ho
      rw [Bool.or_eq_true, Bool.and_eq_true, decide_eq_true_eq, decide_eq_true_eq, decide_eq_true_eq] at h
      rintro ⟨-, q⟩
      rcases h with h | h
      · exact h h2
      · omega
  · unfold z_id
    rw [if_neg (by omega), if_neg (by omega), if_neg (by omega)]
    refine z_iv_0 _ _ _ (fun o ho h2 => ?_)
    have h := List.all_eq_true.mp z_cops_i o ho
    rw [Bool.or_eq_true, Bool.and_eq_true, decide_eq_true_eq, decide_eq_true_eq, decide_eq_true_eq] at h
    rintro ⟨q, -⟩
    rcases h with h | h
    · exact h h2
    · omega
theorem zC20_D : zC20.2.2.2 15 22 = 4646448178051153920 := by
  show (if (15 : Nat) = 15 ∧ (22 : Nat) = 22 then (4646448178051153920 : UInt64) else zV129.2.2.2 15 22) = _
  rw [if_pos ⟨rfl, rfl⟩]
set_option maxRecDepth 100000 in
theorem zC20_h : zC20.1 = zQl := rfl
theorem z_lt56D : ∀ (l : List (Option Nat)) (k p : Nat), l.all (fun o => match o with | some p => decide (p < 56) | none => true) = true → z_nthD l k = some p → p < 56
  | [], _, _, _, h => by cases h
  | some x :: _, 0, p, ha, h => by
    rw [List.all_cons, Bool.and_eq_true] at ha
    have e : x = p := Option.some.inj h
    have h1 := of_decide_eq_true ha.1
    omega
  | none :: _, 0, p, ha, h => by cases h
  | _ :: r, k + 1, p, ha, h => by
    rw [List.all_cons, Bool.and_eq_true] at ha
    exact z_lt56D r k p ha.2 h
theorem zQp_lt {a k p : Nat} (h : zQp a k = some p) : p < 56 := by
  unfold zQp at h
  cases h1 : Nat.beq a 1 with
  | true => rw [h1] at h; exact z_lt56D zQx k p (by decide) h
  | false =>
    rw [h1] at h
    cases h3 : Nat.beq a 3 with
    | true => rw [h3] at h; exact z_lt56D zQo k p (by decide) h
    | false =>
      rw [h3] at h
      cases h15 : Nat.beq a 15 with
      | true => rw [h15] at h; exact z_lt56D zQm k p (by decide +kernel) h
      | false => rw [h15] at h; cases h
theorem zC20_Plt (a k : Nat) : zC20.2.2.1 a k < 56 := by
  rw [zC20_P]
  unfold z_pd
  cases h : zQp a k with
  | some p => exact zQp_lt h
  | none => decide
noncomputable def zM0 (L : Nat) (xs : Nat → Int32) : zM := ([(20, L)], fun a k => if a = 56 then xs k else zC20.2.1 a k, zC20.2.2.1, zC20.2.2.2)
theorem zM0_P (L : Nat) (xs : Nat → Int32) (a k : Nat) : zP zQ (zM0 L xs) a k = zC20.2.2.1 a k := by
  show (match zQp a k with | some p => p | none => zC20.2.2.1 a k) = _
  have h := zC20_P a k
  unfold z_pd at h
  cases hz : zQp a k with
  | some p => rw [hz] at h; exact h.symm
  | none => rfl
theorem zM0_st (L : Nat) (xs : Nat → Int32) : st0 L (zM0 L xs) := by
  refine ⟨fun a k ha => ?_, fun a k ha h => ?_, zC20_D, rfl⟩
  · show (if a = 56 then xs k else zC20.2.1 a k) = _
    rw [if_neg (by omega), zC20_I]; rfl
  · rw [zM0_P, zC20_P]
    unfold z_pd
    rw [h]
