/-! S LEVEL, PLAYING: the tempo goes on: floorDiv against down. -/
noncomputable def fdF (p q : Int64) : Int64 := pif (p.toInt.tmod q.toInt < 0) (p / q - 1) (p / q)
theorem i64_b (x : Int64) : -9223372036854775808 ≤ x.toInt ∧ x.toInt < 9223372036854775808 := ⟨Int64.le_toInt x, Int64.toInt_lt x⟩
theorem em_le {P Q : Int} (hp : 0 ≤ P) (h : 0 < Q) : P % Q ≤ P := by
  have e := Int.emod_add_mul_ediv P Q
  have : 0 ≤ Q * (P / Q) := Int.mul_nonneg (by omega) (Int.ediv_nonneg hp (by omega))
  omega
theorem tm_sg (P Q : Int) (h : 0 < Q) : (0 ≤ P → 0 ≤ P.tmod Q ∧ P.tmod Q ≤ P) ∧ (P < 0 → P.tmod Q ≤ 0 ∧ P ≤ P.tmod Q) := by
  constructor
  · intro hp
    refine ⟨Int.tmod_nonneg Q hp, ?_⟩
    rw [Int.tmod_eq_emod_of_nonneg hp]
    exact em_le hp h
  · intro hp
    have e : P.tmod Q = -((-P).tmod Q) := by rw [Int.neg_tmod, Int.neg_neg]
    have h1 : 0 ≤ (-P).tmod Q := Int.tmod_nonneg Q (by omega)
    have h2 : (-P).tmod Q ≤ -P := by
      rw [Int.tmod_eq_emod_of_nonneg (by omega)]
      exact em_le (by omega) h
    omega
theorem fd_mul {p q : Int64} (hq : 0 < q.toInt) : (p / q * q).toInt = p.toInt - p.toInt.tmod q.toInt := by
  have h1 : q ≠ -1 := fun e => by rw [e] at hq; exact absurd hq (by decide)
  have e1 := Int.tmod_add_mul_tdiv p.toInt q.toInt
  have b := i64_b p
  have sg := tm_sg p.toInt q.toInt hq
  rw [Int64.toInt_mul, Int64.toInt_div_of_ne_right p q h1, Int.mul_comm, show q.toInt * p.toInt.tdiv q.toInt = p.toInt - p.toInt.tmod q.toInt by omega]
  refine Int.bmod_eq_of_le ?_ ?_
  · by_cases g : 0 ≤ p.toInt
    · have := sg.1 g; omega
    · have := sg.2 (by omega); omega
  · by_cases g : 0 ≤ p.toInt
    · have := sg.1 g; omega
    · have := sg.2 (by omega); omega
theorem fd_rem {p q : Int64} (hq : 0 < q.toInt) : (p - p / q * q).toInt = p.toInt.tmod q.toInt := by
  have b := i64_b p
  have sg := tm_sg p.toInt q.toInt hq
  rw [Int64.toInt_sub, fd_mul hq, show p.toInt - (p.toInt - p.toInt.tmod q.toInt) = p.toInt.tmod q.toInt by omega]
  refine Int.bmod_eq_of_le ?_ ?_
  · by_cases g : 0 ≤ p.toInt
    · have := sg.1 g; omega
    · have := sg.2 (by omega); omega
  · by_cases g : 0 ≤ p.toInt
    · have := sg.1 g; omega
    · have := sg.2 (by omega); omega
theorem nz_pos {q : Int64} (hq : 0 < q.toInt) : z_nz q = true := by
  rw [z_nz_eq]
  exact decide_eq_true (fun e => by rw [e] at hq; exact absurd hq (by decide))
theorem le_cmp (x : Int64) : z_le 0 (lg_cmp x 0) = decide (0 ≤ x.toInt) := by
  rw [z_le_eq]
  by_cases g : 0 ≤ x.toInt
  · rw [decide_eq_true g]
    exact decide_eq_true ((lg_cmp_ge x 0).mpr (Int64.le_iff_toInt_le.mpr (by rw [show (0 : Int64).toInt = 0 from rfl]; exact g)))
  · rw [decide_eq_false g]
    refine decide_eq_false (fun q => g ?_)
    have := Int64.le_iff_toInt_le.mp ((lg_cmp_ge x 0).mp q)
    rw [show (0 : Int64).toInt = 0 from rfl] at this
    exact this
theorem eq_cmp (x y : Int64) : z_eq (lg_cmp x y) 0 = decide (x = y) := by
  rw [z_eq_eq]
  by_cases g : x = y
  · rw [decide_eq_true g]; exact decide_eq_true ((lg_cmp_eq x y).mpr g)
  · rw [decide_eq_false g]; exact decide_eq_false (fun q => g ((lg_cmp_eq x y).mp q))
theorem xor_sg {p q : Int64} (hq : 0 < q.toInt) : decide (0 ≤ (p ^^^ q).toInt) = decide (0 ≤ p.toInt) := by
  have m : ∀ x : Int64, x.toBitVec.msb = decide (x.toInt < 0) := fun x => BitVec.msb_eq_toInt
  have e : (p ^^^ q).toBitVec.msb = p.toBitVec.msb := by
    rw [Int64.toBitVec_xor, BitVec.msb_xor, m q, decide_eq_false (by omega), Bool.xor_false]
  rw [m, m] at e
  by_cases g : p.toInt < 0
  · rw [decide_eq_true g] at e
    have := of_decide_eq_true e
    rw [decide_eq_false (by omega), decide_eq_false (by omega)]
  · rw [decide_eq_false g] at e
    have := of_decide_eq_false e
    rw [decide_eq_true (by omega), decide_eq_true (by omega)]
theorem c_fdiv (d : Nat) {p q : Int64} (M : zM) (hq : 0 < q.toInt) : z_den zQ (d + 1) mJm_floorDiv [.long p, .long q] M = some (some (.long (fdF p q)), M) := by
  have sg := tm_sg p.toInt q.toInt hq
  rw [B_Jm_floorDiv, nz_pos hq, cond_true, le_cmp, xor_sg hq, eq_cmp]
  unfold fdF
  by_cases g : 0 ≤ p.toInt
  · have := sg.1 g
    rw [decide_eq_true g, cond_true, pif_F (by omega)]
  · have s2 := sg.2 (by omega)
    rw [decide_eq_false g, cond_false]
    by_cases e : p.toInt.tmod q.toInt < 0
    · rw [pif_T e, decide_eq_false (fun z => ?_), cond_false]
      have := congrArg Int64.toInt z
      rw [fd_mul hq] at this
      omega
    · rw [pif_F e, decide_eq_true (Int64.toInt_inj.mp (by rw [fd_mul hq]; omega)), cond_true]
theorem r_down (d : Nat) {p q : Int64} (M : zM) (hq : 0 < q.toInt) : z_den zQ (d + 1) mQ_down [.long p, .long q] M = some (some (.long (fdF p q)), M) := by
  rw [B_Q_down, nz_pos hq, cond_true, cond_true, le_cmp, fd_rem hq]
  unfold fdF
  by_cases e : p.toInt.tmod q.toInt < 0
  · rw [pif_T e, decide_eq_false (by omega), cond_false]
  · rw [pif_F e, decide_eq_true (by omega), cond_true]
