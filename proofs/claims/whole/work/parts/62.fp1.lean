/-! DOUBLES: those that are not below 0, as encodings. -/
def nrm (e t : Nat) : Nat := e * 4503599627370496 + t
theorem b_tails : FP.Core.Fmt.tails FP.Core.b64 = 4503599627370496 := by decide +kernel
theorem b_exps : FP.Core.Fmt.exps FP.Core.b64 = 2048 := by decide +kernel
theorem b_qmin : FP.Core.Fmt.qmin FP.Core.b64 = -1074 := by decide +kernel
theorem b_qmax : FP.Core.Fmt.qmax FP.Core.b64 = 971 := by decide +kernel
theorem b_p : FP.Core.Fmt.p FP.Core.b64 = 53 := rfl
theorem dec_nrm {e t : Nat} (h1 : 1 ≤ e) (h2 : e ≤ 2046) (ht : t < 4503599627370496) : FP.Core.decode FP.Core.b64 (nrm e t) = .fin false (4503599627370496 + t) ((e : Int) - 1075) := by
  unfold FP.Core.decode FP.Core.fieldE FP.Core.fieldT FP.Core.fieldS
  rw [b_tails, b_exps, b_qmin]
  have e1 : nrm e t / 4503599627370496 = e := by unfold nrm; omega
  have e2 : nrm e t % 4503599627370496 = t := by unfold nrm; omega
  rw [e1, e2, if_neg (by omega), if_neg (by omega), show e % 2048 = e by omega, show e / 2048 = 0 by omega]
  congr 1
  omega
theorem dec_0 : FP.Core.decode FP.Core.b64 0 = .fin false 0 (-1074) := by decide +kernel
theorem near_ex (c V : Nat) (hV : 0 < V) : FP.Core.nearest (c * V) V = c := by
  unfold FP.Core.nearest
  rw [Nat.mul_mod_left, if_pos (by omega), Nat.mul_div_cancel _ hV]
theorem near_bd {U V lo hi : Nat} (hV : 0 < V) (h1 : lo * V ≤ U) (h2 : U < hi * V) : lo ≤ FP.Core.nearest U V ∧ FP.Core.nearest U V ≤ hi := by
  have a1 : lo ≤ U / V := (Nat.le_div_iff_mul_le hV).mpr h1
  have a2 : U / V < hi := (Nat.div_lt_iff_lt_mul hV).mpr h2
  unfold FP.Core.nearest
  generalize U / V = q at *
  split
  · omega
  · split
    · omega
    · have := Nat.mod_lt q (show 0 < 2 by omega); omega
theorem pow_le52 (l : Nat) (h : l ≤ 52) : 2 ^ l * 2 ^ (52 - l) = 4503599627370496 := by rw [← Nat.pow_add, show l + (52 - l) = 52 by omega]
/-- encodings of what was rounded -/
theorem enc_big {c : Nat} {q : Int} (hc : 4503599627370496 ≤ c) (hq : -1074 ≤ q) : FP.Core.encode FP.Core.b64 (.fin false c q) = nrm (q + 1075).toNat (c - 4503599627370496) := by
  unfold FP.Core.encode
  rw [b_tails, b_qmin]
  show (if c < 4503599627370496 then _ else _) = _
  rw [if_neg (by omega)]
  unfold FP.Core.assemble nrm
  rw [b_tails, b_exps]
  have : (q - -1074).toNat + 1 = (q + 1075).toNat := by omega
  rw [this]
  simp
theorem settle_eq {c : Nat} {q : Int} (h1 : 4503599627370496 ≤ c) (h2 : c ≤ 9007199254740992) (q1 : -1074 ≤ q) (q2 : q < 971) : FP.Core.encode FP.Core.b64 (FP.Core.settle FP.Core.b64 false c q) = if c < 9007199254740992 then nrm (q + 1075).toNat (c - 4503599627370496) else nrm (q + 1076).toNat 0 := by
  unfold FP.Core.settle FP.Core.bound
  rw [b_qmax, b_tails, show (2 : Nat) ^ FP.Core.Fmt.p FP.Core.b64 = 9007199254740992 by decide +kernel]
  by_cases g : c < 9007199254740992
  · rw [if_pos g, if_pos g, if_pos (by omega), enc_big h1 q1]
  · rw [if_neg g, if_neg g, if_pos (by omega), enc_big (by omega) (by omega)]
    congr 1
    omega
theorem lead_1 {num : Nat} (h : 0 < num) : FP.Core.leading num 1 = num.log2 := by
  unfold FP.Core.leading
  have e : (1 : Nat).log2 = 0 := by decide
  rw [e]
  have h1 : 2 ^ num.log2 ≤ num := Nat.log2_self_le (by omega)
  show (if 1 * 2 ^ ((num.log2 : Int) - (0 : Nat)).toNat ≤ num * 2 ^ (-((num.log2 : Int) - (0 : Nat))).toNat then _ else _) = _
  rw [show ((num.log2 : Int) - (0 : Nat)).toNat = num.log2 by omega, show (-((num.log2 : Int) - (0 : Nat))).toNat = 0 by omega, if_pos (by omega)]
  omega
theorem rr_int {num l : Nat} {e : Int} (h0 : 0 < num) (hl : num.log2 = l) (h1 : -1000 ≤ l + e) (h2 : l + e ≤ 900) : ∃ c, c = FP.Core.nearest (num * 2 ^ (52 - l)) (2 ^ (l - 52)) ∧ 4503599627370496 ≤ c ∧ c ≤ 9007199254740992 ∧ FP.Core.encode FP.Core.b64 (FP.Core.roundRatio FP.Core.b64 false num 1 e) = if c < 9007199254740992 then nrm (l + e + 1023).toNat (c - 4503599627370496) else nrm (l + e + 1024).toNat 0 := by
  have b1 : 2 ^ l ≤ num := by rw [← hl]; exact Nat.log2_self_le (by omega)
  have b2 : num < 2 ^ (l + 1) := by rw [← hl]; exact Nat.lt_log2_self
  have hb : 4503599627370496 ≤ FP.Core.nearest (num * 2 ^ (52 - l)) (2 ^ (l - 52)) ∧ FP.Core.nearest (num * 2 ^ (52 - l)) (2 ^ (l - 52)) ≤ 9007199254740992 := by
    by_cases g : l ≤ 52
    · have e0 : l - 52 = 0 := by omega
      have hp := pow_le52 l g
      rw [e0, Nat.pow_zero]
      refine near_bd (by omega) ?_ ?_
      · rw [Nat.mul_one, ← hp]; exact Nat.mul_le_mul_right _ b1
      · rw [Nat.mul_one]
        have : num * 2 ^ (52 - l) < 2 ^ (l + 1) * 2 ^ (52 - l) := Nat.mul_lt_mul_of_pos_right b2 (Nat.pow_pos (by omega))
        rw [Nat.pow_succ, Nat.mul_right_comm, hp] at this
        omega
    · have e0 : 52 - l = 0 := by omega
      rw [e0, Nat.pow_zero, Nat.mul_one]
      refine near_bd (Nat.pow_pos (by omega)) ?_ ?_
      · rw [show (4503599627370496 : Nat) = 2 ^ 52 by rfl, ← Nat.pow_add, show 52 + (l - 52) = l by omega]; exact b1
      · rw [show (9007199254740992 : Nat) = 2 ^ 53 by rfl, ← Nat.pow_add, show 53 + (l - 52) = l + 1 by omega]; exact b2
  refine ⟨_, rfl, hb.1, hb.2, ?_⟩
  unfold FP.Core.roundRatio FP.Core.roundAt FP.Core.quantum FP.Core.unitsNum FP.Core.unitsDen
  rw [if_neg (by omega), lead_1 h0, hl, b_qmin, b_p]
  have hq : max (-1074) ((l : Int) + e - (((53 : Nat) : Int) - 1)) = l + e - 52 := by omega
  rw [hq, show (e - ((l : Int) + e - 52)).toNat = 52 - l by omega, show ((l : Int) + e - 52 - e).toNat = l - 52 by omega, Nat.one_mul, settle_eq hb.1 hb.2 (by omega) (by omega)]
  rw [show ((l : Int) + e - 52 + 1075).toNat = ((l : Int) + e + 1023).toNat by omega, show ((l : Int) + e - 52 + 1076).toNat = ((l : Int) + e + 1024).toNat by omega]
/-- as a range: a number of encoding nrm e' t' -/
theorem rr_rng {num l : Nat} {e : Int} (h0 : 0 < num) (hl : num.log2 = l) (h1 : -1000 ≤ l + e) (h2 : l + e ≤ 900) : ∃ e' t' : Nat, t' < 4503599627370496 ∧ ((e' : Int) = l + e + 1023 ∨ (e' : Int) = l + e + 1024) ∧ FP.Core.encode FP.Core.b64 (FP.Core.roundRatio FP.Core.b64 false num 1 e) = nrm e' t' := by
  obtain ⟨c, -, c1, c2, c3⟩ := rr_int h0 hl h1 h2
  by_cases g : c < 9007199254740992
  · rw [if_pos g] at c3
    exact ⟨(l + e + 1023).toNat, c - 4503599627370496, by omega, Or.inl (by omega), c3⟩
  · rw [if_neg g] at c3
    exact ⟨(l + e + 1024).toNat, 0, by omega, Or.inr (by omega), c3⟩
theorem log2_of {n k : Nat} (h1 : 2 ^ k ≤ n) (h2 : n < 2 ^ (k + 1)) : n.log2 = k := by
  have hn : n ≠ 0 := fun e => by rw [e] at h1; have := Nat.pow_pos (n := k) (show 0 < 2 by omega); omega
  exact (Nat.log2_eq_iff hn).mpr ⟨h1, h2⟩
/-- a whole number -/
theorem rr_exact {n l : Nat} (h0 : 0 < n) (hl : n.log2 = l) (h52 : l ≤ 52) (j : Nat) (hj : j ≤ 200) : FP.Core.encode FP.Core.b64 (FP.Core.roundRatio FP.Core.b64 false (n * 2 ^ j) 1 (-(j : Int))) = nrm (l + 1023) (n * 2 ^ (52 - l) - 4503599627370496) := by
  have b1 : 2 ^ l ≤ n := by rw [← hl]; exact Nat.log2_self_le (by omega)
  have b2 : n < 2 ^ (l + 1) := by rw [← hl]; exact Nat.lt_log2_self
  have hl2 : (n * 2 ^ j).log2 = l + j := by
    refine log2_of ?_ ?_
    · rw [Nat.pow_add]; exact Nat.mul_le_mul_right _ b1
    · rw [show l + j + 1 = l + 1 + j by omega, Nat.pow_add]; exact Nat.mul_lt_mul_of_pos_right b2 (Nat.pow_pos (by omega))
  obtain ⟨c, c0, c1, c2, c3⟩ := rr_int (Nat.mul_pos h0 (Nat.pow_pos (by omega))) hl2 (e := -(j : Int)) (by omega) (by omega)
  have hc : c = n * 2 ^ (52 - l) := by
    rw [c0]
    by_cases g : l + j ≤ 52
    · have e0 : l + j - 52 = 0 := by omega
      rw [e0, Nat.pow_zero, Nat.mul_assoc, ← Nat.pow_add, show j + (52 - (l + j)) = 52 - l by omega]
      have := near_ex (n * 2 ^ (52 - l)) 1 (by omega)
      rw [Nat.mul_one] at this
      exact this
    · have e0 : 52 - (l + j) = 0 := by omega
      rw [e0, Nat.pow_zero, Nat.mul_one]
      have : n * 2 ^ j = n * 2 ^ (52 - l) * 2 ^ (l + j - 52) := by rw [Nat.mul_assoc, ← Nat.pow_add, show 52 - l + (l + j - 52) = j by omega]
      rw [this, near_ex _ _ (Nat.pow_pos (by omega))]
  have hlt : c < 9007199254740992 := by
    rw [hc]
    have : n * 2 ^ (52 - l) < 2 ^ (l + 1) * 2 ^ (52 - l) := Nat.mul_lt_mul_of_pos_right b2 (Nat.pow_pos (by omega))
    rw [Nat.pow_succ, Nat.mul_right_comm, pow_le52 l h52] at this
    omega
  rw [c3, if_pos hlt, hc]
  congr 1
  omega
