/-! S LEVEL, the class: a strip's methods. -/
theorem z_dec (x : Int32) : x + (-1) = x - zn 1 := by
  apply Int32.toBitVec_inj.mp
  rw [Int32.toBitVec_add, Int32.toBitVec_sub]
  rw [zn_bv, BitVec.sub_eq_add_neg]
  rfl
theorem tI_pred {m : Nat} (h : m < 2147483648) : (zn m - zn 1).toInt = (m : Int) - 1 := by
  have e := zn_toInt h
  have e1 : (zn 1).toInt = 1 := zn_toInt (by omega)
  rw [tI_sub (by omega) (by omega), e, e1]
theorem z_lt_pred {m n : Nat} (h : m ≤ n) (hn : n < 2147483648) : z_lt (zn m - zn 1) (zn n) = true := by
  rw [z_lt_iff, tI_pred (by omega), zn_toInt hn]
  exact decide_eq_true (by omega)
/-- the memory with a row's cells lo .. lo + n - 1 new -/
def z_put (M : zM) (a lo n : Nat) (g : Nat → Int32) : zM := z_uI M a (fun i => if lo ≤ i ∧ i < lo + n then g i else zI M a i)
theorem z_put_0 (M : zM) (a lo : Nat) (g : Nat → Int32) : z_put M a lo 0 g = M := by
  unfold z_put
  rw [← z_uI_id M a, z_uI_uI]
  apply z_uI_congr
  intro k
  rw [if_neg (by omega), z_uI_id]
theorem zI_put_s (M : zM) (a lo n : Nat) (g : Nat → Int32) (i : Nat) : zI (z_put M a lo n g) a i = if lo ≤ i ∧ i < lo + n then g i else zI M a i := by unfold z_put; rw [zI_uI_s]
theorem zI_put_a {M : zM} {a lo n : Nat} {g : Nat → Int32} {a' k : Nat} (h : a' ≠ a) : zI (z_put M a lo n g) a' k = zI M a' k := zI_uI_a h
theorem zP_put (S : zS) (M : zM) (a lo n : Nat) (g : Nat → Int32) (a' k : Nat) : zP S (z_put M a lo n g) a' k = zP S M a' k := rfl
theorem zD_put (M : zM) (a lo n : Nat) (g : Nat → Int32) (a' k : Nat) : zD (z_put M a lo n g) a' k = zD M a' k := rfl
theorem z_hd_put (S : zS) (M : zM) (a lo n : Nat) (g : Nat → Int32) (a' : Nat) : z_hd S (z_put M a lo n g) a' = z_hd S M a' := rfl
theorem z_cls_put (S : zS) (M : zM) (a lo n : Nat) (g : Nat → Int32) (a' : Nat) (al : List Nat) : z_cls S (z_put M a lo n g) a' al = z_cls S M a' al := rfl
theorem z_ia_put (S : zS) (M : zM) (a lo n : Nat) (g : Nat → Int32) (a' t : Nat) (i : Int32) : z_ia S (z_put M a lo n g) a' t i = z_ia S M a' t i := rfl
theorem z_ln_put (S : zS) (M : zM) (a lo n : Nat) (g : Nat → Int32) (a' : Nat) : z_ln S (z_put M a lo n g) a' = z_ln S M a' := rfl
theorem z_new_put (S : zS) (M : zM) (a lo n : Nat) (g : Nat → Int32) : z_new S (z_put M a lo n g) = z_new S M := rfl
theorem z_put_congr {M : zM} {a lo n : Nat} {f g : Nat → Int32} (h : ∀ i, lo ≤ i → i < lo + n → f i = g i) : z_put M a lo n f = z_put M a lo n g := by
  apply z_uI_congr
  intro k
  by_cases e : lo ≤ k ∧ k < lo + n
  · rw [if_pos e, if_pos e, h k e.1 e.2]
  · rw [if_neg e, if_neg e]
/-- one more at the lower end, or at the upper -/
theorem z_put_up (M : zM) (a lo n : Nat) (g : Nat → Int32) : z_put (z_wI M a (lo + n) (g (lo + n))) a lo n g = z_put M a lo (n + 1) g := by
  unfold z_put
  rw [z_wI_uI, z_uI_uI]
  apply z_uI_congr
  intro k
  rw [zI_uI_s]
  by_cases e : lo ≤ k ∧ k < lo + n
  · rw [if_pos e, if_pos (by omega)]
  · rw [if_neg e]
    by_cases e2 : k = lo + n
    · rw [if_pos e2, if_pos (by omega), e2]
    · rw [if_neg e2, if_neg (by omega)]
theorem z_put_lo (M : zM) (a lo n : Nat) (g : Nat → Int32) : z_put (z_wI M a lo (g lo)) a (lo + 1) n g = z_put M a lo (n + 1) g := by
  unfold z_put
  rw [z_wI_uI, z_uI_uI]
  apply z_uI_congr
  intro k
  rw [zI_uI_s]
  by_cases e : lo + 1 ≤ k ∧ k < lo + 1 + n
  · rw [if_pos e, if_pos (by omega)]
  · rw [if_neg e]
    by_cases e2 : k = lo
    · rw [if_pos e2, if_pos (by omega), e2]
    · rw [if_neg e2, if_neg (by omega)]
theorem c9 {A : zM} {a : Nat} (h : z_hd zQ A a = some (9, 7)) : z_cls zQ A a [9] = true := by rw [z_cls_of h]; rfl
theorem c12 {A : zM} {a c : Nat} (h : z_hd zQ A a = some (12, c)) : z_cls zQ A a [12] = true := by rw [z_cls_of h]; rfl
theorem E_max (d : Nat) (x y : Int32) (M : zM) : z_den zQ (d + 1) mJm_max [.int x, .int y] M = some (some (.int (bif z_lt x y then y else x)), M) := by
  rw [B_Jm_max]
  cases z_lt x y <;> rfl
theorem E_min (d : Nat) (x y : Int32) (M : zM) : z_den zQ (d + 1) mJm_min [.int x, .int y] M = some (some (.int (bif z_lt y x then y else x)), M) := by
  rw [B_Jm_min]
  cases z_lt y x <;> rfl
