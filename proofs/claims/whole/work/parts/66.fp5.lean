/-! DOUBLES: a quarter more; halves and doubles; the bits. -/
theorem za_q {n : Nat} (h : n < 4503599627370496) : nP (zf_add.1 (UInt64.ofNat (iN n)) 4598175219545276416) := by
  rw [zf_add.2]
  by_cases g : n = 0
  · subst g
    have : FP.dadd (UInt64.ofNat (iN 0)) 4598175219545276416 = 4598175219545276416 := by decide +kernel
    rw [this]
    exact Or.inr ⟨1021, 0, by omega, by decide, by omega, by omega⟩
  · show nP (UInt64.ofNat (FP.Core.encode FP.Core.b64 (FP.Core.round FP.Core.b64 (FP.Core.exactSum (FP.Core.decode FP.Core.b64 (UInt64.ofNat (iN n)).toNat) (FP.Core.decode FP.Core.b64 (4598175219545276416 : UInt64).toNat)))))
    have hl := log2_52 (show 0 < n by omega) (show n < 9007199254740992 by omega)
    rw [iN_dec (by omega) (by omega), show FP.Core.decode FP.Core.b64 (4598175219545276416 : UInt64).toNat = .fin false 4503599627370496 (-54) by decide +kernel]
    show nP (UInt64.ofNat (FP.Core.encode FP.Core.b64 (FP.Core.roundRatio FP.Core.b64 (FP.Core.sumSign false false (FP.Core.sumUnits false (n * 2 ^ (52 - n.log2)) ((n.log2 : Int) - 52) false 4503599627370496 (-54) (min ((n.log2 : Int) - 52) (-54)))) (FP.Core.sumUnits false (n * 2 ^ (52 - n.log2)) ((n.log2 : Int) - 52) false 4503599627370496 (-54) (min ((n.log2 : Int) - 52) (-54))).natAbs 1 (min ((n.log2 : Int) - 52) (-54)))))
    have e1 : FP.Core.sumUnits false (n * 2 ^ (52 - n.log2)) ((n.log2 : Int) - 52) false 4503599627370496 (-54) (min ((n.log2 : Int) - 52) (-54)) = ((n * 2 ^ 54 + 2 ^ 52 : Nat) : Int) := by
      show ((n * 2 ^ (52 - n.log2) * 2 ^ ((n.log2 : Int) - 52 - min ((n.log2 : Int) - 52) (-54)).toNat : Nat) : Int) + ((4503599627370496 * 2 ^ ((-54 : Int) - min ((n.log2 : Int) - 52) (-54)).toNat : Nat) : Int) = _
      rw [show ((n.log2 : Int) - 52 - min ((n.log2 : Int) - 52) (-54)).toNat = n.log2 + 2 by omega, show ((-54 : Int) - min ((n.log2 : Int) - 52) (-54)).toNat = 0 by omega, Nat.mul_assoc, ← Nat.pow_add, show 52 - n.log2 + (n.log2 + 2) = 54 by omega]
      omega
    have e2 : FP.Core.sumSign false false ((n * 2 ^ 54 + 2 ^ 52 : Nat) : Int) = false := by
      unfold FP.Core.sumSign
      rw [if_neg (by omega)]
      exact decide_eq_false (by omega)
    rw [e1, e2, Int.natAbs_natCast, show min ((n.log2 : Int) - 52) (-54) = -54 by omega]
    have h0 : 0 < n * 2 ^ 54 + 2 ^ 52 := by omega
    have l1 : 2 ^ (n * 2 ^ 54 + 2 ^ 52).log2 ≤ n * 2 ^ 54 + 2 ^ 52 := Nat.log2_self_le (by omega)
    have l2 : n * 2 ^ 54 + 2 ^ 52 < 2 ^ ((n * 2 ^ 54 + 2 ^ 52).log2 + 1) := Nat.lt_log2_self
    have b1 : 53 ≤ (n * 2 ^ 54 + 2 ^ 52).log2 := by
      by_cases k : 53 ≤ (n * 2 ^ 54 + 2 ^ 52).log2
      · exact k
      · have := Nat.pow_le_pow_right (show 0 < 2 by omega) (show (n * 2 ^ 54 + 2 ^ 52).log2 + 1 ≤ 53 by omega)
        omega
    have b2 : (n * 2 ^ 54 + 2 ^ 52).log2 ≤ 107 := by
      by_cases k : (n * 2 ^ 54 + 2 ^ 52).log2 ≤ 107
      · exact k
      · have := Nat.pow_le_pow_right (show 0 < 2 by omega) (show 108 ≤ (n * 2 ^ 54 + 2 ^ 52).log2 by omega)
        omega
    obtain ⟨e', t', r1, r2, r3⟩ := rr_rng h0 rfl (e := -54) (by omega) (by omega)
    exact Or.inr (posD_mk r3 r1 (by omega) (by omega) (by omega))
theorem zh_2 {e t : Nat} (e1 : 900 ≤ e) (e2 : e ≤ 1200) (ht : t < 4503599627370496) : zf_div.1 (UInt64.ofNat (nrm e t)) 4611686018427387904 = UInt64.ofNat (nrm (e - 1) t) := by
  rw [zf_div.2]
  show UInt64.ofNat (FP.Core.encode FP.Core.b64 (FP.Core.quotient FP.Core.b64 (FP.Core.decode FP.Core.b64 (UInt64.ofNat (nrm e t)).toNat) (FP.Core.decode FP.Core.b64 (4611686018427387904 : UInt64).toNat))) = _
  rw [u64_n (nrm_lt (by omega) ht), dec_nrm (by omega) (by omega) ht, show FP.Core.decode FP.Core.b64 (4611686018427387904 : UInt64).toNat = .fin false 4503599627370496 (-51) by decide +kernel]
  refine congrArg UInt64.ofNat ?_
  show FP.Core.encode FP.Core.b64 (FP.Core.roundRatio FP.Core.b64 false (4503599627370496 + t) 4503599627370496 ((e : Int) - 1075 - -51)) = _
  unfold FP.Core.roundRatio FP.Core.roundAt FP.Core.quantum FP.Core.unitsNum FP.Core.unitsDen
  rw [if_neg (by omega), lead_q (by omega) (by omega) (by omega) (by omega), b_qmin, b_p, if_pos (by omega)]
  rw [show max (-1074) ((0 : Int) + ((e : Int) - 1075 - -51) - (((53 : Nat) : Int) - 1)) = (e : Int) - 1076 by omega, show ((e : Int) - 1075 - -51 - ((e : Int) - 1076)).toNat = 52 by omega, show ((e : Int) - 1076 - ((e : Int) - 1075 - -51)).toNat = 0 by omega]
  rw [show FP.Core.nearest ((4503599627370496 + t) * 2 ^ 52) (4503599627370496 * 2 ^ 0) = 4503599627370496 + t from near_ex (4503599627370496 + t) 4503599627370496 (by omega)]
  rw [settle_eq (by omega) (by omega) (by omega) (by omega), if_pos (by omega), show ((e : Int) - 1076 + 1075).toNat = e - 1 by omega, show 4503599627370496 + t - 4503599627370496 = t by omega]
theorem zt_2 {e t : Nat} (e1 : 900 ≤ e) (e2 : e ≤ 1200) (ht : t < 4503599627370496) : zf_mul.1 (UInt64.ofNat (nrm e t)) 4611686018427387904 = UInt64.ofNat (nrm (e + 1) t) := by
  rw [zf_mul.2]
  show UInt64.ofNat (FP.Core.encode FP.Core.b64 (FP.Core.round FP.Core.b64 (FP.Core.exactProduct (FP.Core.decode FP.Core.b64 (UInt64.ofNat (nrm e t)).toNat) (FP.Core.decode FP.Core.b64 (4611686018427387904 : UInt64).toNat)))) = _
  rw [u64_n (nrm_lt (by omega) ht), dec_nrm (by omega) (by omega) ht, show FP.Core.decode FP.Core.b64 (4611686018427387904 : UInt64).toNat = .fin false 4503599627370496 (-51) by decide +kernel]
  refine congrArg UInt64.ofNat ?_
  show FP.Core.encode FP.Core.b64 (FP.Core.roundRatio FP.Core.b64 false ((4503599627370496 + t) * 4503599627370496) 1 ((e : Int) - 1075 + -51)) = _
  have hl : ((4503599627370496 + t) * 4503599627370496).log2 = 104 := log2_of (by omega) (by omega)
  obtain ⟨c, c0, c1, c2, c3⟩ := rr_int (show 0 < (4503599627370496 + t) * 4503599627370496 by omega) hl (e := (e : Int) - 1075 + -51) (by omega) (by omega)
  have hc : c = 4503599627370496 + t := by
    rw [c0, show (4503599627370496 + t) * 4503599627370496 * 2 ^ (52 - 104) = (4503599627370496 + t) * 4503599627370496 by omega]
    exact near_ex (4503599627370496 + t) 4503599627370496 (by omega)
  rw [c3, hc, if_pos (by omega), show (((104 : Nat) : Int) + ((e : Int) - 1075 + -51) + 1023).toNat = e + 1 by omega, show 4503599627370496 + t - 4503599627370496 = t by omega]
def hN (t : Nat) : Nat := FP.Core.encode FP.Core.b64 (FP.Core.roundRatio FP.Core.b64 false t 1 (-52))
theorem zs_1 {t : Nat} (ht : t < 4503599627370496) : zf_sub.1 (UInt64.ofNat (nrm 1023 t)) 4607182418800017408 = UInt64.ofNat (hN t) := by
  rw [zf_sub.2]
  show UInt64.ofNat (FP.Core.encode FP.Core.b64 (FP.Core.round FP.Core.b64 (FP.Core.exactSum (FP.Core.decode FP.Core.b64 (UInt64.ofNat (nrm 1023 t)).toNat) (FP.Core.negate (FP.Core.decode FP.Core.b64 (4607182418800017408 : UInt64).toNat))))) = _
  rw [u64_n (nrm_lt (by omega) ht), dec_nrm (by omega) (by omega) ht, show FP.Core.negate (FP.Core.decode FP.Core.b64 (4607182418800017408 : UInt64).toNat) = .fin true 4503599627370496 (-52) by decide +kernel, show ((1023 : Nat) : Int) - 1075 = -52 by omega]
  refine congrArg UInt64.ofNat ?_
  show FP.Core.encode FP.Core.b64 (FP.Core.roundRatio FP.Core.b64 (FP.Core.sumSign false true (FP.Core.sumUnits false (4503599627370496 + t) (-52) true 4503599627370496 (-52) (min (-52) (-52)))) (FP.Core.sumUnits false (4503599627370496 + t) (-52) true 4503599627370496 (-52) (min (-52) (-52))).natAbs 1 (min (-52) (-52))) = _
  have e1 : FP.Core.sumUnits false (4503599627370496 + t) (-52) true 4503599627370496 (-52) (min (-52) (-52)) = (t : Int) := by
    show (((4503599627370496 + t) * 2 ^ ((-52 : Int) - min (-52) (-52)).toNat : Nat) : Int) + -((4503599627370496 * 2 ^ ((-52 : Int) - min (-52) (-52)).toNat : Nat) : Int) = _
    rw [show ((-52 : Int) - min (-52) (-52)).toNat = 0 by omega]
    omega
  have e2 : FP.Core.sumSign false true (t : Int) = false := by
    unfold FP.Core.sumSign
    by_cases g : (t : Int) = 0
    · rw [if_pos g]; rfl
    · rw [if_neg g]; exact decide_eq_false (by omega)
  rw [e1, e2, Int.natAbs_natCast, show min (-52 : Int) (-52) = -52 by omega]
  rfl
theorem hN_0 : hN 0 = 0 := by unfold hN; exact rr_zero _ _
theorem hN_p {t : Nat} (h0 : 0 < t) (ht : t < 4503599627370496) : hN t = nrm (t.log2 + 971) (t * 2 ^ (52 - t.log2) - 4503599627370496) := by
  unfold hN
  have hl := log2_52 h0 (show t < 9007199254740992 by omega)
  have hb := iN_tail h0 (show t < 9007199254740992 by omega)
  obtain ⟨c, c0, c1, c2, c3⟩ := rr_int h0 rfl (e := -52) (by omega) (by omega)
  have hc : c = t * 2 ^ (52 - t.log2) := by
    rw [c0, show t.log2 - 52 = 0 by omega, Nat.pow_zero]
    have := near_ex (t * 2 ^ (52 - t.log2)) 1 (by omega)
    rw [Nat.mul_one] at this
    exact this
  rw [c3, hc, if_pos (by omega), show ((t.log2 : Int) + -52 + 1023).toNat = t.log2 + 971 by omega]
theorem hN_nn {t : Nat} (ht : t < 4503599627370496) : nP (UInt64.ofNat (hN t)) := by
  by_cases g : t = 0
  · subst g; rw [hN_0]; exact Or.inl rfl
  · have hl := log2_52 (show 0 < t by omega) (show t < 9007199254740992 by omega)
    exact Or.inr (posD_mk (hN_p (by omega) ht) (iN_tail (by omega) (by omega)).1 (by omega) (by omega) (by omega))
theorem zt_52 {t : Nat} (ht : t < 4503599627370496) : zf_mul.1 (UInt64.ofNat (hN t)) 4841369599423283200 = UInt64.ofNat (iN t) := by
  rw [zf_mul.2]
  by_cases g : t = 0
  · subst g; rw [hN_0]; decide +kernel
  · have hl := log2_52 (show 0 < t by omega) (show t < 9007199254740992 by omega)
    have hb := iN_tail (show 0 < t by omega) (show t < 9007199254740992 by omega)
    show UInt64.ofNat (FP.Core.encode FP.Core.b64 (FP.Core.round FP.Core.b64 (FP.Core.exactProduct (FP.Core.decode FP.Core.b64 (UInt64.ofNat (hN t)).toNat) (FP.Core.decode FP.Core.b64 (4841369599423283200 : UInt64).toNat)))) = _
    rw [hN_p (by omega) ht, u64_n (nrm_lt (by omega) hb.1), dec_nrm (by omega) (by omega) hb.1, show FP.Core.decode FP.Core.b64 (4841369599423283200 : UInt64).toNat = .fin false 4503599627370496 0 by decide +kernel]
    rw [show 4503599627370496 + (t * 2 ^ (52 - t.log2) - 4503599627370496) = t * 2 ^ (52 - t.log2) by omega]
    refine congrArg UInt64.ofNat ?_
    show FP.Core.encode FP.Core.b64 (FP.Core.roundRatio FP.Core.b64 false (t * 2 ^ (52 - t.log2) * 4503599627370496) 1 (((t.log2 + 971 : Nat) : Int) - 1075 + 0)) = _
    have := rr_exact (n := t) (by omega) rfl hl (104 - t.log2) (by omega)
    rw [show t * 2 ^ (52 - t.log2) * 4503599627370496 = t * 2 ^ (104 - t.log2) by rw [Nat.mul_assoc, show (4503599627370496 : Nat) = 2 ^ 52 by rfl, ← Nat.pow_add, show 52 - t.log2 + 52 = 104 - t.log2 by omega], show ((t.log2 + 971 : Nat) : Int) - 1075 + 0 = -((104 - t.log2 : Nat) : Int) by omega, this]
    unfold iN
    rw [if_neg g]
