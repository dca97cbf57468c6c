/-! DOUBLES: acts on those that are not below 0. -/
theorem nrm_lt {e t : Nat} (he : e ≤ 2046) (ht : t < 4503599627370496) : nrm e t < 18446744073709551616 := by unfold nrm; omega
theorem u64_n {n : Nat} (h : n < 18446744073709551616) : (UInt64.ofNat n).toNat = n := UInt64.toNat_ofNat_of_lt' h
/-- a number above 0, of an exponent from a to b -/
def posD (x : UInt64) (a b : Nat) : Prop := ∃ e t : Nat, t < 4503599627370496 ∧ x.toNat = nrm e t ∧ a ≤ e ∧ e ≤ b
def nnD (x : UInt64) (a b : Nat) : Prop := x = 0 ∨ posD x a b
theorem posD_mono {x : UInt64} {a b a' b' : Nat} (h : posD x a b) (h1 : a' ≤ a) (h2 : b ≤ b') : posD x a' b' := by
  obtain ⟨e, t, h3, h4, h5, h6⟩ := h
  exact ⟨e, t, h3, h4, by omega, by omega⟩
theorem nnD_mono {x : UInt64} {a b a' b' : Nat} (h : nnD x a b) (h1 : a' ≤ a) (h2 : b ≤ b') : nnD x a' b' := by
  rcases h with h | h
  · exact Or.inl h
  · exact Or.inr (posD_mono h h1 h2)
theorem nnD_num {x : UInt64} {a b : Nat} (h : nnD x a b) (hb : b ≤ 2046) : z_num x = true := by
  rw [z_num_eq]
  refine decide_eq_true ?_
  rw [UInt64.le_iff_toNat_le, UInt64.toNat_and]
  refine Nat.le_trans Nat.and_le_left ?_
  rcases h with rfl | ⟨e, t, h3, h4, h5, h6⟩
  · decide
  · rw [h4]
    show nrm e t ≤ 9218868437227405312
    unfold nrm
    omega
theorem posD_dec {x : UInt64} {a b : Nat} (h : posD x a b) (ha : 1 ≤ a) (hb : b ≤ 2046) : ∃ e t : Nat, t < 4503599627370496 ∧ x.toNat = nrm e t ∧ a ≤ e ∧ e ≤ b ∧ FP.Core.decode FP.Core.b64 x.toNat = .fin false (4503599627370496 + t) ((e : Int) - 1075) := by
  obtain ⟨e, t, h3, h4, h5, h6⟩ := h
  exact ⟨e, t, h3, h4, h5, h6, by rw [h4]; exact dec_nrm (by omega) (by omega) h3⟩
theorem posD_mk {n e t a b : Nat} (h : n = nrm e t) (ht : t < 4503599627370496) (h1 : a ≤ e) (h2 : e ≤ b) (hb : b ≤ 2046) : posD (UInt64.ofNat n) a b := ⟨e, t, ht, by rw [u64_n (by rw [h]; exact nrm_lt (by omega) ht)]; exact h, h1, h2⟩
theorem enc_zero : FP.Core.encode FP.Core.b64 (.fin false 0 (-1074)) = 0 := by decide +kernel
theorem rr_zero (d : Nat) (e : Int) : FP.Core.encode FP.Core.b64 (FP.Core.roundRatio FP.Core.b64 false 0 d e) = 0 := by
  unfold FP.Core.roundRatio
  rw [if_pos rfl, b_qmin]; exact enc_zero
/-- products -/
theorem mul_pos {x y : UInt64} {a b a' b' : Nat} (h : posD x a b) (h' : posD y a' b') (ha : 1 ≤ a) (hb : b ≤ 2046) (ha' : 1 ≤ a') (hb' : b' ≤ 2046) (l1 : 1100 ≤ a + a') (l2 : b + b' ≤ 2900) : posD (FP.dmul x y) (a + a' - 1023) (b + b' - 1021) := by
  obtain ⟨e, t, h3, h4, h5, h6, hd⟩ := posD_dec h ha hb
  obtain ⟨f, u, g3, g4, g5, g6, gd⟩ := posD_dec h' ha' hb'
  have hm : (4503599627370496 + t) * (4503599627370496 + u) < 2 ^ 106 := by
    have := Nat.mul_lt_mul'' (show 4503599627370496 + t < 9007199254740992 by omega) (show 4503599627370496 + u < 9007199254740992 by omega)
    exact Nat.lt_of_lt_of_le this (by decide)
  have hm2 : 2 ^ 104 ≤ (4503599627370496 + t) * (4503599627370496 + u) := by
    have := Nat.mul_le_mul (show 4503599627370496 ≤ 4503599627370496 + t by omega) (show 4503599627370496 ≤ 4503599627370496 + u by omega)
    exact Nat.le_trans (by decide) this
  have hl : ((4503599627370496 + t) * (4503599627370496 + u)).log2 = 104 ∨ ((4503599627370496 + t) * (4503599627370496 + u)).log2 = 105 := by
    by_cases g : (4503599627370496 + t) * (4503599627370496 + u) < 2 ^ 105
    · exact Or.inl (log2_of hm2 g)
    · exact Or.inr (log2_of (Nat.le_of_not_lt g) hm)
  have h0 : 0 < (4503599627370496 + t) * (4503599627370496 + u) := Nat.mul_pos (by omega) (by omega)
  have e0 : FP.dmul x y = UInt64.ofNat (FP.Core.encode FP.Core.b64 (FP.Core.roundRatio FP.Core.b64 false ((4503599627370496 + t) * (4503599627370496 + u)) 1 ((e : Int) - 1075 + ((f : Int) - 1075)))) := by
    show UInt64.ofNat (FP.Core.encode FP.Core.b64 (FP.Core.round FP.Core.b64 (FP.Core.exactProduct (FP.Core.decode FP.Core.b64 x.toNat) (FP.Core.decode FP.Core.b64 y.toNat)))) = _
    rw [hd, gd]; rfl
  rw [e0]
  rcases hl with hl | hl
  · obtain ⟨e', t', r1, r2, r3⟩ := rr_rng h0 hl (e := (e : Int) - 1075 + ((f : Int) - 1075)) (by omega) (by omega)
    exact posD_mk r3 r1 (by omega) (by omega) (by omega)
  · obtain ⟨e', t', r1, r2, r3⟩ := rr_rng h0 hl (e := (e : Int) - 1075 + ((f : Int) - 1075)) (by omega) (by omega)
    exact posD_mk r3 r1 (by omega) (by omega) (by omega)
theorem mul_z1 {y : UInt64} {a b : Nat} (h : nnD y a b) (ha : 1 ≤ a) (hb : b ≤ 2046) : FP.dmul 0 y = 0 := by
  show UInt64.ofNat (FP.Core.encode FP.Core.b64 (FP.Core.round FP.Core.b64 (FP.Core.exactProduct (FP.Core.decode FP.Core.b64 (0 : UInt64).toNat) (FP.Core.decode FP.Core.b64 y.toNat)))) = 0
  rw [show (0 : UInt64).toNat = 0 by rfl, dec_0]
  rcases h with rfl | h
  · rw [show (0 : UInt64).toNat = 0 by rfl, dec_0]
    show UInt64.ofNat (FP.Core.encode FP.Core.b64 (FP.Core.roundRatio FP.Core.b64 false (0 * 0) 1 _)) = 0
    rw [Nat.zero_mul, rr_zero]; rfl
  · obtain ⟨e, t, h3, h4, h5, h6, hd⟩ := posD_dec h ha hb
    rw [hd]
    show UInt64.ofNat (FP.Core.encode FP.Core.b64 (FP.Core.roundRatio FP.Core.b64 false (0 * (4503599627370496 + t)) 1 _)) = 0
    rw [Nat.zero_mul, rr_zero]; rfl
theorem mul_z2 {x : UInt64} {a b : Nat} (h : nnD x a b) (ha : 1 ≤ a) (hb : b ≤ 2046) : FP.dmul x 0 = 0 := by
  show UInt64.ofNat (FP.Core.encode FP.Core.b64 (FP.Core.round FP.Core.b64 (FP.Core.exactProduct (FP.Core.decode FP.Core.b64 x.toNat) (FP.Core.decode FP.Core.b64 (0 : UInt64).toNat)))) = 0
  rw [show (0 : UInt64).toNat = 0 by rfl, dec_0]
  rcases h with rfl | h
  · rw [show (0 : UInt64).toNat = 0 by rfl, dec_0]
    show UInt64.ofNat (FP.Core.encode FP.Core.b64 (FP.Core.roundRatio FP.Core.b64 false (0 * 0) 1 _)) = 0
    rw [Nat.zero_mul, rr_zero]; rfl
  · obtain ⟨e, t, h3, h4, h5, h6, hd⟩ := posD_dec h ha hb
    rw [hd]
    show UInt64.ofNat (FP.Core.encode FP.Core.b64 (FP.Core.roundRatio FP.Core.b64 false ((4503599627370496 + t) * 0) 1 _)) = 0
    rw [Nat.mul_zero, rr_zero]; rfl
theorem mul_nn {x y : UInt64} {a b a' b' : Nat} (h : nnD x a b) (h' : nnD y a' b') (ha : 1 ≤ a) (hb : b ≤ 2046) (ha' : 1 ≤ a') (hb' : b' ≤ 2046) (l1 : 1100 ≤ a + a') (l2 : b + b' ≤ 2900) : nnD (FP.dmul x y) (a + a' - 1023) (b + b' - 1021) := by
  rcases h with rfl | h
  · exact Or.inl (mul_z1 h' ha' hb')
  · rcases h' with rfl | h'
    · exact Or.inl (mul_z2 (Or.inr h) ha hb)
    · exact Or.inr (mul_pos h h' ha hb ha' hb' l1 l2)
/-- quotients -/
theorem lead_q {c d : Nat} (c1 : 4503599627370496 ≤ c) (c2 : c < 9007199254740992) (d1 : 4503599627370496 ≤ d) (d2 : d < 9007199254740992) : FP.Core.leading c d = if d ≤ c then 0 else -1 := by
  have l1 : c.log2 = 52 := log2_of (by simpa using c1) (by simpa using c2)
  have l2 : d.log2 = 52 := log2_of (by simpa using d1) (by simpa using d2)
  unfold FP.Core.leading
  rw [l1, l2]
  simp
theorem div_pos {x y : UInt64} {a b a' b' : Nat} (h : posD x a b) (h' : posD y a' b') (ha : 1 ≤ a) (hb : b ≤ 2046) (ha' : 1 ≤ a') (hb' : b' ≤ 2046) (l1 : b' ≤ a + 900) (l2 : b ≤ a' + 800) : posD (FP.ddiv x y) (a + 1022 - b') (b + 1024 - a') := by
  obtain ⟨e, t, h3, h4, h5, h6, hd⟩ := posD_dec h ha hb
  obtain ⟨f, u, g3, g4, g5, g6, gd⟩ := posD_dec h' ha' hb'
  have e0 : FP.ddiv x y = UInt64.ofNat (FP.Core.encode FP.Core.b64 (FP.Core.roundRatio FP.Core.b64 false (4503599627370496 + t) (4503599627370496 + u) ((e : Int) - 1075 - ((f : Int) - 1075)))) := by
    show UInt64.ofNat (FP.Core.encode FP.Core.b64 (FP.Core.quotient FP.Core.b64 (FP.Core.decode FP.Core.b64 x.toNat) (FP.Core.decode FP.Core.b64 y.toNat))) = _
    rw [hd, gd]
    show UInt64.ofNat (FP.Core.encode FP.Core.b64 (if 4503599627370496 + u = 0 then _ else _)) = _
    rw [if_neg (by omega)]; rfl
  rw [e0]
  unfold FP.Core.roundRatio FP.Core.roundAt FP.Core.quantum FP.Core.unitsNum FP.Core.unitsDen
  rw [if_neg (by omega), lead_q (by omega) (by omega) (by omega) (by omega), b_qmin, b_p]
  by_cases g : 4503599627370496 + u ≤ 4503599627370496 + t
  · rw [if_pos g, show max (-1074) ((0 : Int) + ((e : Int) - 1075 - ((f : Int) - 1075)) - (((53 : Nat) : Int) - 1)) = (e : Int) - f - 52 by omega, show ((e : Int) - 1075 - ((f : Int) - 1075) - ((e : Int) - f - 52)).toNat = 52 by omega, show (((e : Int) - f - 52) - ((e : Int) - 1075 - ((f : Int) - 1075))).toNat = 0 by omega]
    have hb := near_bd (U := (4503599627370496 + t) * 2 ^ 52) (V := (4503599627370496 + u) * 2 ^ 0) (lo := 4503599627370496) (hi := 9007199254740992) (by omega) (by omega) (by omega)
    rw [settle_eq hb.1 hb.2 (by omega) (by omega)]
    by_cases g2 : FP.Core.nearest ((4503599627370496 + t) * 2 ^ 52) ((4503599627370496 + u) * 2 ^ 0) < 9007199254740992
    · rw [if_pos g2]; exact posD_mk rfl (by omega) (by omega) (by omega) (by omega)
    · rw [if_neg g2]; exact posD_mk rfl (by omega) (by omega) (by omega) (by omega)
  · rw [if_neg g, show max (-1074) ((-1 : Int) + ((e : Int) - 1075 - ((f : Int) - 1075)) - (((53 : Nat) : Int) - 1)) = (e : Int) - f - 53 by omega, show ((e : Int) - 1075 - ((f : Int) - 1075) - ((e : Int) - f - 53)).toNat = 53 by omega, show (((e : Int) - f - 53) - ((e : Int) - 1075 - ((f : Int) - 1075))).toNat = 0 by omega]
    have hb := near_bd (U := (4503599627370496 + t) * 2 ^ 53) (V := (4503599627370496 + u) * 2 ^ 0) (lo := 4503599627370496) (hi := 9007199254740992) (by omega) (by omega) (by omega)
    rw [settle_eq hb.1 hb.2 (by omega) (by omega)]
    by_cases g2 : FP.Core.nearest ((4503599627370496 + t) * 2 ^ 53) ((4503599627370496 + u) * 2 ^ 0) < 9007199254740992
    · rw [if_pos g2]; exact posD_mk rfl (by omega) (by omega) (by omega) (by omega)
    · rw [if_neg g2]; exact posD_mk rfl (by omega) (by omega) (by omega) (by omega)
theorem div_z {y : UInt64} {a b : Nat} (h : posD y a b) (ha : 1 ≤ a) (hb : b ≤ 2046) : FP.ddiv 0 y = 0 := by
  obtain ⟨e, t, h3, h4, h5, h6, hd⟩ := posD_dec h ha hb
  show UInt64.ofNat (FP.Core.encode FP.Core.b64 (FP.Core.quotient FP.Core.b64 (FP.Core.decode FP.Core.b64 (0 : UInt64).toNat) (FP.Core.decode FP.Core.b64 y.toNat))) = 0
  rw [show (0 : UInt64).toNat = 0 by rfl, dec_0, hd]
  show UInt64.ofNat (FP.Core.encode FP.Core.b64 (if 4503599627370496 + t = 0 then _ else FP.Core.roundRatio FP.Core.b64 false 0 _ _)) = 0
  rw [if_neg (by omega), rr_zero]; rfl
theorem div_nn {x y : UInt64} {a b a' b' : Nat} (h : nnD x a b) (h' : posD y a' b') (ha : 1 ≤ a) (hb : b ≤ 2046) (ha' : 1 ≤ a') (hb' : b' ≤ 2046) (l1 : b' ≤ a + 900) (l2 : b ≤ a' + 800) : nnD (FP.ddiv x y) (a + 1022 - b') (b + 1024 - a') := by
  rcases h with rfl | h
  · exact Or.inl (div_z h' ha' hb')
  · exact Or.inr (div_pos h h' ha hb ha' hb' l1 l2)
/-- whole numbers -/
def iN (n : Nat) : Nat := if n = 0 then 0 else nrm (n.log2 + 1023) (n * 2 ^ (52 - n.log2) - 4503599627370496)
theorem log2_52 {n : Nat} (h0 : 0 < n) (h : n < 9007199254740992) : n.log2 ≤ 52 := by
  have b1 : 2 ^ n.log2 ≤ n := Nat.log2_self_le (by omega)
  by_cases g : n.log2 ≤ 52
  · exact g
  · have : 2 ^ 53 ≤ 2 ^ n.log2 := Nat.pow_le_pow_right (by omega) (by omega)
    have : (2 : Nat) ^ 53 = 9007199254740992 := by decide
    omega
theorem fromInt_n {n : Nat} (h : n < 9007199254740992) : FP.Core.fromInt FP.Core.b64 (n : Int) = iN n := by
  unfold FP.Core.fromInt FP.Core.ofInt iN
  rw [show decide ((n : Int) < 0) = false from decide_eq_false (by omega), Int.natAbs_natCast]
  show FP.Core.encode FP.Core.b64 (FP.Core.roundRatio FP.Core.b64 false n 1 0) = _
  by_cases g : n = 0
  · rw [if_pos g, g]; exact rr_zero _ _
  · rw [if_neg g]
    have := rr_exact (n := n) (by omega) rfl (log2_52 (by omega) h) 0 (by omega)
    rw [Nat.pow_zero, Nat.mul_one] at this
    exact this
theorem iN_tail {n : Nat} (h0 : 0 < n) (h : n < 9007199254740992) : n * 2 ^ (52 - n.log2) - 4503599627370496 < 4503599627370496 ∧ 4503599627370496 ≤ n * 2 ^ (52 - n.log2) := by
  have hl := log2_52 h0 h
  have b1 : 2 ^ n.log2 ≤ n := Nat.log2_self_le (by omega)
  have b2 : n < 2 ^ (n.log2 + 1) := Nat.lt_log2_self
  have hp := pow_le52 _ hl
  have q1 : 2 ^ n.log2 * 2 ^ (52 - n.log2) ≤ n * 2 ^ (52 - n.log2) := Nat.mul_le_mul_right _ b1
  have q2 : n * 2 ^ (52 - n.log2) < 2 ^ (n.log2 + 1) * 2 ^ (52 - n.log2) := Nat.mul_lt_mul_of_pos_right b2 (Nat.pow_pos (by omega))
  rw [Nat.pow_succ, Nat.mul_right_comm, hp] at q2
  rw [hp] at q1
  omega
theorem iN_nn {n : Nat} (h : n < 9007199254740992) : nnD (UInt64.ofNat (iN n)) 1023 1075 := by
  unfold iN
  by_cases g : n = 0
  · rw [if_pos g]; exact Or.inl rfl
  · rw [if_neg g]
    have hl := log2_52 (by omega) h
    exact Or.inr (posD_mk rfl (iN_tail (by omega) h).1 (by omega) (by omega) (by omega))
theorem iN_pos {n k : Nat} (h0 : 0 < n) (h : n < 9007199254740992) (hk : n < 2 ^ (k + 1)) (hk2 : k ≤ 52) : posD (UInt64.ofNat (iN n)) 1023 (1023 + k) := by
  unfold iN
  rw [if_neg (by omega)]
  have hl : n.log2 ≤ k := by
    have b1 : 2 ^ n.log2 ≤ n := Nat.log2_self_le (by omega)
    by_cases g : n.log2 ≤ k
    · exact g
    · have : 2 ^ (k + 1) ≤ 2 ^ n.log2 := Nat.pow_le_pow_right (by omega) (by omega)
      omega
  exact posD_mk rfl (iN_tail h0 h).1 (by omega) (by omega) (by omega)
