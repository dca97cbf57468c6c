/-! DOUBLES: order, sums, whole numbers. -/
theorem zc_num {r : Nat} (h : r % 9223372036854775808 ≤ 9218868437227405312) (h2 : r < 18446744073709551616) : z_num (UInt64.ofNat r) = true := by
  rw [z_num_eq]
  refine decide_eq_true ?_
  rw [UInt64.le_iff_toNat_le, UInt64.toNat_and, u64_n h2]
  show r &&& (2 ^ 63 - 1) ≤ 9218868437227405312
  rw [Nat.and_two_pow_sub_one_eq_mod]
  exact h
theorem num_fin (s : Bool) {c : Nat} {q : Int} (hc : c < 9007199254740992) (hq : q ≤ 971) : z_num (UInt64.ofNat (FP.Core.encode FP.Core.b64 (.fin s c q))) = true := by
  unfold FP.Core.encode
  rw [b_tails, b_qmin]
  show z_num (UInt64.ofNat (if c < 4503599627370496 then _ else _)) = true
  unfold FP.Core.assemble
  rw [b_tails, b_exps]
  by_cases g : c < 4503599627370496
  · rw [if_pos g]
    cases s
    · refine zc_num ?_ ?_ <;> simp only [Bool.toNat_false] <;> omega
    · refine zc_num ?_ ?_ <;> simp only [Bool.toNat_true] <;> omega
  · rw [if_neg g]
    cases s
    · refine zc_num ?_ ?_ <;> simp only [Bool.toNat_false] <;> omega
    · refine zc_num ?_ ?_ <;> simp only [Bool.toNat_true] <;> omega
theorem num_inf (s : Bool) : z_num (UInt64.ofNat (FP.Core.encode FP.Core.b64 (.inf s))) = true := by
  have e1 : FP.Core.encode FP.Core.b64 (.inf true) = 18442240474082181120 := by decide +kernel
  have e2 : FP.Core.encode FP.Core.b64 (.inf false) = 9218868437227405312 := by decide +kernel
  cases s
  · rw [e2]; exact zc_num (by omega) (by omega)
  · rw [e1]; exact zc_num (by omega) (by omega)
theorem num_bd (s : Bool) {c : Nat} {q : Int} (hc : c < 9007199254740992) : z_num (UInt64.ofNat (FP.Core.encode FP.Core.b64 (FP.Core.bound FP.Core.b64 s c q))) = true := by
  unfold FP.Core.bound
  rw [b_qmax]
  by_cases g : q ≤ 971
  · rw [if_pos g]; exact num_fin s hc g
  · rw [if_neg g]; exact num_inf s
theorem num_rr (s : Bool) (m : Nat) (e : Int) : z_num (UInt64.ofNat (FP.Core.encode FP.Core.b64 (FP.Core.roundRatio FP.Core.b64 s m 1 e))) = true := by
  unfold FP.Core.roundRatio FP.Core.roundAt FP.Core.settle
  rw [show (2 : Nat) ^ FP.Core.Fmt.p FP.Core.b64 = 9007199254740992 by decide +kernel, b_tails]
  by_cases g : m = 0
  · rw [if_pos g, b_qmin]; exact num_fin s (by omega) (by omega)
  · rw [if_neg g]
    generalize FP.Core.nearest _ _ = c
    by_cases g2 : c < 9007199254740992
    · rw [if_pos g2]; exact num_bd s g2
    · rw [if_neg g2]; exact num_bd s (by omega)
theorem nnD_dec {x : UInt64} {a b : Nat} (h : nnD x a b) (ha : 1 ≤ a) (hb : b ≤ 2046) : ∃ c q, FP.Core.decode FP.Core.b64 x.toNat = .fin false c q := by
  rcases h with rfl | h
  · exact ⟨0, -1074, dec_0⟩
  · obtain ⟨e, t, _, _, _, _, hd⟩ := posD_dec h ha hb
    exact ⟨_, _, hd⟩
theorem sub_num {x y : UInt64} {a b a' b' : Nat} (h : nnD x a b) (h' : nnD y a' b') (ha : 1 ≤ a) (hb : b ≤ 2046) (ha' : 1 ≤ a') (hb' : b' ≤ 2046) : z_num (FP.dsub x y) = true := by
  obtain ⟨c, q, hd⟩ := nnD_dec h ha hb
  obtain ⟨c', q', hd'⟩ := nnD_dec h' ha' hb'
  show z_num (UInt64.ofNat (FP.Core.encode FP.Core.b64 (FP.Core.round FP.Core.b64 (FP.Core.exactSum (FP.Core.decode FP.Core.b64 x.toNat) (FP.Core.negate (FP.Core.decode FP.Core.b64 y.toNat)))))) = true
  rw [hd, hd']
  exact num_rr _ _ _
/-- order: that of the encodings -/
theorem cmp_up {e t f u : Nat} (h : e < f) (ht : t < 4503599627370496) : (4503599627370496 + t) < (4503599627370496 + u) * 2 ^ (f - e) := by
  have : 2 ^ 1 ≤ 2 ^ (f - e) := Nat.pow_le_pow_right (by omega) (by omega)
  have := Nat.mul_le_mul_left (4503599627370496 + u) this
  omega
theorem cmp_pos {e t f u : Nat} (e1 : 1 ≤ e) (e2 : e ≤ 2046) (f1 : 1 ≤ f) (f2 : f ≤ 2046) (ht : t < 4503599627370496) (hu : u < 4503599627370496) : FP.Core.order (FP.Core.decode FP.Core.b64 (nrm e t)) (FP.Core.decode FP.Core.b64 (nrm f u)) = some (compare (nrm e t) (nrm f u)) := by
  rw [dec_nrm e1 e2 ht, dec_nrm f1 f2 hu]
  show some (compare (((4503599627370496 + t) * 2 ^ ((e : Int) - 1075 - min ((e : Int) - 1075) ((f : Int) - 1075)).toNat : Nat) : Int) (((4503599627370496 + u) * 2 ^ ((f : Int) - 1075 - min ((e : Int) - 1075) ((f : Int) - 1075)).toNat : Nat) : Int)) = _
  congr 1
  rcases Nat.lt_trichotomy e f with g | g | g
  · rw [show ((e : Int) - 1075 - min ((e : Int) - 1075) ((f : Int) - 1075)).toNat = 0 by omega, show ((f : Int) - 1075 - min ((e : Int) - 1075) ((f : Int) - 1075)).toNat = f - e by omega, Nat.pow_zero, Nat.mul_one]
    have h1 := cmp_up (u := u) g ht
    have h2 : nrm e t < nrm f u := by unfold nrm; omega
    rw [Nat.compare_eq_lt.mpr h2]
    exact Int.compare_eq_lt.mpr (by omega)
  · subst g
    rw [show ((e : Int) - 1075 - min ((e : Int) - 1075) ((e : Int) - 1075)).toNat = 0 by omega, Nat.pow_zero, Nat.mul_one, Nat.mul_one]
    rcases Nat.lt_trichotomy t u with k | k | k
    · have h2 : nrm e t < nrm e u := by unfold nrm; omega
      rw [Nat.compare_eq_lt.mpr h2]
      exact Int.compare_eq_lt.mpr (by omega)
    · subst k
      rw [Nat.compare_eq_eq.mpr rfl]
      exact Int.compare_eq_eq.mpr rfl
    · have h2 : nrm e u < nrm e t := by unfold nrm; omega
      rw [Nat.compare_eq_gt.mpr h2]
      exact Int.compare_eq_gt.mpr (by omega)
  · rw [show ((f : Int) - 1075 - min ((e : Int) - 1075) ((f : Int) - 1075)).toNat = 0 by omega, show ((e : Int) - 1075 - min ((e : Int) - 1075) ((f : Int) - 1075)).toNat = e - f by omega, Nat.pow_zero, Nat.mul_one]
    have h1 := cmp_up (u := t) g hu
    have h2 : nrm f u < nrm e t := by unfold nrm; omega
    rw [Nat.compare_eq_gt.mpr h2]
    exact Int.compare_eq_gt.mpr (by omega)
