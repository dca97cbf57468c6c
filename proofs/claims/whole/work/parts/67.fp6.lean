/-! DOUBLES: bitsOf, and rounding to the nearest. -/
theorem nL_1022 : (1022 : Int32) = zn 1022 := (zn_eq 1022).symm
theorem bit_or {E t : Nat} (hE : E < 2048) (ht : t < 4503599627370496) : (Int64.ofInt (E : Int) <<< (Int32.toInt64 52 &&& 63)) ||| Int64.ofInt (t : Int) = UInt64.toInt64 (UInt64.ofNat (nrm E t)) := by
  have h52 : (Int32.toInt64 52 &&& 63) = (52 : Int64) := by decide
  rw [h52]
  apply Int64.toBitVec_inj.mp
  rw [Int64.toBitVec_or, Int64.toBitVec_shiftLeft]
  apply BitVec.eq_of_toNat_eq
  rw [BitVec.toNat_or, show ((52 : Int64).toBitVec.smod 64) = 52#64 by decide]
  rw [show (Int64.ofInt (E : Int)).toBitVec = BitVec.ofNat 64 E by exact BitVec.ofInt_natCast 64 E, show (Int64.ofInt (t : Int)).toBitVec = BitVec.ofNat 64 t by exact BitVec.ofInt_natCast 64 t]
  rw [show (UInt64.toInt64 (UInt64.ofNat (nrm E t))).toBitVec = BitVec.ofNat 64 (nrm E t) by rfl]
  rw [BitVec.shiftLeft_eq', BitVec.toNat_shiftLeft, BitVec.toNat_ofNat, BitVec.toNat_ofNat, BitVec.toNat_ofNat, BitVec.toNat_ofNat, show 52 % 2 ^ 64 = 52 by rfl]
  rw [Nat.mod_eq_of_lt (show E < 2 ^ 64 by omega), Nat.mod_eq_of_lt (show t < 2 ^ 64 by omega), Nat.shiftLeft_eq, Nat.mod_eq_of_lt (show E * 2 ^ 52 < 2 ^ 64 by omega)]
  rw [Nat.mod_eq_of_lt (show nrm E t < 2 ^ 64 by unfold nrm; omega)]
  rw [Nat.mul_comm E]
  have := Nat.two_pow_add_eq_or_of_lt (i := 52) (b := t) (by omega) E
  unfold nrm
  omega
theorem i64_add (n : Nat) : Int64.ofInt (n : Int) + 1 = Int64.ofInt ((n + 1 : Nat) : Int) := by
  rw [show ((n + 1 : Nat) : Int) = (n : Int) + 1 by omega, Int64.ofInt_add]; rfl
theorem i64_sub (n : Nat) (h : 1 ≤ n) : Int64.ofInt (n : Int) - 1 = Int64.ofInt ((n - 1 : Nat) : Int) := by
  rw [show ((n - 1 : Nat) : Int) = (n : Int) - 1 by omega, Int64.ofInt_sub]; rfl
theorem nP_nrm {e t : Nat} (e1 : 900 ≤ e) (e2 : e ≤ 1200) (ht : t < 4503599627370496) : nP (UInt64.ofNat (nrm e t)) := Or.inr (posD_mk rfl ht e1 e2 (by omega))
theorem nP_2 : nP 4611686018427387904 := Or.inr ⟨1024, 0, by omega, by decide, by omega, by omega⟩
theorem nP_1 : nP 4607182418800017408 := Or.inr ⟨1023, 0, by omega, by decide, by omega, by omega⟩
theorem z_lt_10 : z_lt (1 : Int32) 0 = false := by rw [z_lt_eq]; decide
theorem z_lt_m0 : z_lt (-1 : Int32) 0 = true := by rw [z_lt_eq]; decide
theorem z_lt_00 : z_lt (0 : Int32) 0 = false := by rw [z_lt_eq]; decide
theorem z_lt_01 : z_lt (0 : Int32) 1 = true := by rw [z_lt_eq]; decide
theorem z_lt_0m : z_lt (0 : Int32) (-1) = false := by rw [z_lt_eq]; decide
theorem z_le_01 : z_le (0 : Int32) 1 = true := by rw [z_le_eq]; decide
theorem z_le_00 : z_le (0 : Int32) 0 = true := by rw [z_le_eq]; decide
theorem z_le_0m : z_le (0 : Int32) (-1) = false := by rw [z_le_eq]; decide
theorem z_le_10 : z_le (1 : Int32) 0 = false := by rw [z_le_eq]; decide
theorem z_le_m0 : z_le (-1 : Int32) 0 = true := by rw [z_le_eq]; decide
theorem z_ne_10 : z_ne (1 : Int32) 0 = true := by rw [z_ne_eq]; decide
theorem z_ne_m0 : z_ne (-1 : Int32) 0 = true := by rw [z_ne_eq]; decide
theorem z_ne_00 : z_ne (0 : Int32) 0 = false := by rw [z_ne_eq]; decide
theorem bits_end {E t : Nat} (hE : E < 2048) (ht : t < 4503599627370496) (M : zM) : (bif z_num (zf_sub.1 (UInt64.ofNat (nrm 1023 t)) 4607182418800017408) then bif z_num (zf_mul.1 (zf_sub.1 (UInt64.ofNat (nrm 1023 t)) 4607182418800017408) 4841369599423283200) then (some (some (.long ((Int64.ofInt (E : Int) <<< (Int32.toInt64 52 &&& 63)) ||| (zf_d2l.1 (zf_mul.1 (zf_sub.1 (UInt64.ofNat (nrm 1023 t)) 4607182418800017408) 4841369599423283200)))), M) : zR) else none else none) = some (some (.long (UInt64.toInt64 (UInt64.ofNat (nrm E t)))), M) := by
  rw [zs_1 ht, zt_52 ht, nP_num (hN_nn ht), nnD_num (iN_nn (show t < 9007199254740992 by omega)) (by omega), zd_n (by omega), bit_or hE ht]
  rfl
theorem bits_65 (d : Nat) (l0 : UInt64) (M : zM) {t : Nat} (ht : t < 4503599627370496) : ∀ (k i e E : Nat), e + k = 1023 → 900 ≤ e → i + k ≤ 1000 → k < E → E < 2048 → z_denF zQ (d + 1) mP_bitsOf (65, [some (.double l0), none, some (.double (UInt64.ofNat (nrm e t))), none, some (.long (Int64.ofInt (E : Int))), none, some (.int (zn i))], [], M) = some (some (.long (UInt64.toInt64 (UInt64.ofNat (nrm (E - k) t)))), M)
  | 0, i, e, E, he, h9, hi, hk, hE => by
    have e0 : e = 1023 := by omega
    subst e0
    rw [L_P_bitsOf_65, nL_1022, z_le_F (by omega) (by omega)]
    have hc : z_le 0 (zf_cmp.1 .g (UInt64.ofNat (nrm 1023 t)) 4607182418800017408) = true := by
      by_cases g : t = 0
      · subst g
        rw [show UInt64.ofNat (nrm 1023 0) = 4607182418800017408 by decide, zc_eq _ nP_1, z_le_00]
      · rw [zc_gt _ (nP_nrm (by omega) (by omega) ht) nP_1 (by rw [u64_n (nrm_lt (by omega) ht)]; show 4607182418800017408 < nrm 1023 t; unfold nrm; omega), z_le_01]
    rw [hc, bits_end hE ht]
    rfl
  | k + 1, i, e, E, he, h9, hi, hk, hE => by
    rw [L_P_bitsOf_65, nL_1022, z_le_F (by omega) (by omega)]
    have hc : z_le 0 (zf_cmp.1 .g (UInt64.ofNat (nrm e t)) 4607182418800017408) = false := by
      rw [zc_lt _ (nP_nrm (by omega) (by omega) ht) nP_1 (by rw [u64_n (nrm_lt (by omega) ht)]; show nrm e t < 4607182418800017408; unfold nrm; omega), z_le_0m]
    rw [hc, zt_2 (by omega) (by omega) ht, nP_num (nP_nrm (by omega) (by omega) ht), i64_sub E (by omega), nL_1, zn_add]
    have := bits_65 d l0 M ht k (i + 1) (e + 1) (E - 1) (by omega) (by omega) (by omega) (by omega) (by omega)
    rw [show E - 1 - k = E - (k + 1) by omega] at this
    exact this
theorem bits_28 (d : Nat) (l0 : UInt64) (M : zM) {t : Nat} (ht : t < 4503599627370496) : ∀ (k i e E : Nat), (e = 1023 + k ∨ (k = 0 ∧ e ≤ 1023)) → 900 ≤ e → e ≤ 1200 → i + k ≤ 1000 → E + e < 2300 → 1023 ≤ E → z_denF zQ (d + 1) mP_bitsOf (28, [some (.double l0), none, some (.double (UInt64.ofNat (nrm e t))), none, some (.long (Int64.ofInt (E : Int))), none, some (.int (zn i))], [], M) = some (some (.long (UInt64.toInt64 (UInt64.ofNat (nrm (E + e - 1023) t)))), M)
  | 0, i, e, E, he, h9, h12, hi, hE, hE2 => by
    rw [L_P_bitsOf_28, nL_1023, z_le_F (by omega) (by omega)]
    rw [zc_lt _ (nP_nrm (by omega) (by omega) ht) nP_2 (by rw [u64_n (nrm_lt (by omega) ht)]; show nrm e t < 4611686018427387904; unfold nrm; omega), z_lt_m0]
    have := bits_65 d l0 M ht (1023 - e) 0 e E (by omega) (by omega) (by omega) (by omega) (by omega)
    rw [show E - (1023 - e) = E + e - 1023 by omega, ← nL_0] at this
    exact this
  | k + 1, i, e, E, he, h9, h12, hi, hE, hE2 => by
    rw [L_P_bitsOf_28, nL_1023, z_le_F (by omega) (by omega)]
    have hc : z_lt (zf_cmp.1 .l (UInt64.ofNat (nrm e t)) 4611686018427387904) 0 = false := by
      by_cases g : nrm e t = 4611686018427387904
      · rw [g, show UInt64.ofNat 4611686018427387904 = 4611686018427387904 by decide, zc_eq _ nP_2, z_lt_00]
      · rw [zc_gt _ (nP_nrm (by omega) (by omega) ht) nP_2 (by rw [u64_n (nrm_lt (by omega) ht)]; show 4611686018427387904 < nrm e t; unfold nrm at g ⊢; omega), z_lt_10]
    rw [hc, zh_2 (by omega) (by omega) ht, nP_num (nP_nrm (by omega) (by omega) ht), i64_add E, nL_1, zn_add]
    have := bits_28 d l0 M ht k (i + 1) (e - 1) (E + 1) (by omega) (by omega) (by omega) (by omega) (by omega) (by omega)
    rw [show E + 1 + (e - 1) - 1023 = E + e - 1023 by omega] at this
    exact this
theorem P_bits (d : Nat) (M : zM) {x : UInt64} (h : nP x) : z_den zQ (d + 1) mP_bitsOf [.double x] M = some (some (.long (UInt64.toInt64 x)), M) := by
  rw [B_P_bitsOf, zc_ge0 _ h]
  rcases h with rfl | ⟨e, t, ht, h4, h5, h6⟩
  · rw [zc_eq _ nP_0, z_ne_00]; rfl
  · have hx : x = UInt64.ofNat (nrm e t) := by rw [← h4, UInt64.ofNat_toNat]
    rw [zc_gt _ (Or.inr ⟨e, t, ht, h4, h5, h6⟩) nP_0 (by rw [h4, show (0 : UInt64).toNat = 0 by rfl]; unfold nrm; omega), z_ne_10]
    have := bits_28 d x M ht (e - 1023) 0 e 1023 (by omega) (by omega) (by omega) (by omega) (by omega) (by omega)
    rw [show 1023 + e - 1023 = e by omega, ← nL_0, ← hx] at this
    exact this
theorem P_bits_m (d : Nat) (M : zM) : z_den zQ (d + 1) mP_bitsOf [.double 13830554455654793216] M = some (some (.long 9221120237041090560), M) := by
  rw [B_P_bitsOf, zc_neg, z_le_0m]; rfl
theorem Q_bits (d : Nat) (M : zM) {x : UInt64} (h : nP x) : z_den zQ (d + 2) mJd_doubleToLongBits [.double x] M = some (some (.long (UInt64.toInt64 x)), M) := by
  rw [B_Jd_doubleToLongBits, B_Jd_isNaN, zc_eq _ h, z_eq_T, cond_true, z_bI_some, z_ne_00]; rfl
