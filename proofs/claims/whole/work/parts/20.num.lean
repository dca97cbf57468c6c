/-! S LEVEL: small numbers as ints, tests over them. -/
noncomputable def zx_n : {f : Nat → Int32 // f = Int32.ofNat} := Classical.choice ⟨⟨_, rfl⟩⟩
noncomputable def zn (n : Nat) : Int32 := zx_n.1 n
theorem zn_eq (n : Nat) : zn n = Int32.ofNat n := by unfold zn; rw [zx_n.2]
theorem zn_toInt {n : Nat} (h : n < 2147483648) : (zn n).toInt = n := by rw [zn_eq]; exact Int32.toInt_ofNat_of_lt h
theorem zn_N {n : Nat} (h : n < 2147483648) : Int32.toNatClampNeg (zn n) = n := by rw [zn_eq]; exact Int32.toNatClampNeg_ofNat_of_lt h
theorem zn_add (a b : Nat) : zn a + zn b = zn (a + b) := by rw [zn_eq, zn_eq, zn_eq]; exact (Int32.ofNat_add a b).symm
theorem zn_mul (a b : Nat) : zn a * zn b = zn (a * b) := by rw [zn_eq, zn_eq, zn_eq]; exact (Int32.ofNat_mul a b).symm
theorem zn_sub {a b : Nat} (h : b ≤ a) : zn a - zn b = zn (a - b) := by rw [zn_eq, zn_eq, zn_eq]; exact (Int32.ofNat_sub a b h).symm
theorem zn_inj {a b : Nat} (ha : a < 2147483648) (hb : b < 2147483648) (h : zn a = zn b) : a = b := by
  have := congrArg Int32.toNatClampNeg h
  rwa [zn_N ha, zn_N hb] at this
theorem zn_of {x : Int32} (h : 0 ≤ x.toInt) : zn x.toNatClampNeg = x := by rw [zn_eq]; exact Int32.ofNat_toNatClampNeg x (by rw [Int32.le_iff_toInt_le]; exact h)
theorem zn_ex {x : Int32} (h : 0 ≤ x.toInt) : ∃ n, n < 2147483648 ∧ x = zn n := ⟨x.toNatClampNeg, Int32.toNatClampNeg_lt x, (zn_of h).symm⟩
theorem zn_cases (x : Int32) : x.toInt < 0 ∨ ∃ n, n < 2147483648 ∧ x = zn n := by
  by_cases h : x.toInt < 0
  · exact Or.inl h
  · exact Or.inr (zn_ex (by omega))
theorem nL_0 : (0 : Int32) = zn 0 := (zn_eq 0).symm
theorem nL_1 : (1 : Int32) = zn 1 := (zn_eq 1).symm
theorem nL_2 : (2 : Int32) = zn 2 := (zn_eq 2).symm
theorem nL_3 : (3 : Int32) = zn 3 := (zn_eq 3).symm
theorem nL_4 : (4 : Int32) = zn 4 := (zn_eq 4).symm
theorem nL_5 : (5 : Int32) = zn 5 := (zn_eq 5).symm
theorem nL_6 : (6 : Int32) = zn 6 := (zn_eq 6).symm
theorem nL_7 : (7 : Int32) = zn 7 := (zn_eq 7).symm
theorem nL_8 : (8 : Int32) = zn 8 := (zn_eq 8).symm
theorem nL_9 : (9 : Int32) = zn 9 := (zn_eq 9).symm
theorem nL_10 : (10 : Int32) = zn 10 := (zn_eq 10).symm
theorem nL_11 : (11 : Int32) = zn 11 := (zn_eq 11).symm
theorem nL_12 : (12 : Int32) = zn 12 := (zn_eq 12).symm
theorem nL_13 : (13 : Int32) = zn 13 := (zn_eq 13).symm
theorem nL_14 : (14 : Int32) = zn 14 := (zn_eq 14).symm
theorem nL_15 : (15 : Int32) = zn 15 := (zn_eq 15).symm
theorem nL_16 : (16 : Int32) = zn 16 := (zn_eq 16).symm
theorem nL_17 : (17 : Int32) = zn 17 := (zn_eq 17).symm
theorem nL_19 : (19 : Int32) = zn 19 := (zn_eq 19).symm
theorem nL_20 : (20 : Int32) = zn 20 := (zn_eq 20).symm
theorem nL_23 : (23 : Int32) = zn 23 := (zn_eq 23).symm
theorem nL_24 : (24 : Int32) = zn 24 := (zn_eq 24).symm
theorem nL_31 : (31 : Int32) = zn 31 := (zn_eq 31).symm
theorem nL_32 : (32 : Int32) = zn 32 := (zn_eq 32).symm
theorem nL_36 : (36 : Int32) = zn 36 := (zn_eq 36).symm
theorem nL_40 : (40 : Int32) = zn 40 := (zn_eq 40).symm
theorem nL_41 : (41 : Int32) = zn 41 := (zn_eq 41).symm
theorem nL_49 : (49 : Int32) = zn 49 := (zn_eq 49).symm
theorem nL_50 : (50 : Int32) = zn 50 := (zn_eq 50).symm
theorem nL_60 : (60 : Int32) = zn 60 := (zn_eq 60).symm
theorem nL_61 : (61 : Int32) = zn 61 := (zn_eq 61).symm
theorem nL_63 : (63 : Int32) = zn 63 := (zn_eq 63).symm
theorem nL_64 : (64 : Int32) = zn 64 := (zn_eq 64).symm
theorem nL_65 : (65 : Int32) = zn 65 := (zn_eq 65).symm
theorem nL_80 : (80 : Int32) = zn 80 := (zn_eq 80).symm
theorem nL_83 : (83 : Int32) = zn 83 := (zn_eq 83).symm
theorem nL_97 : (97 : Int32) = zn 97 := (zn_eq 97).symm
theorem nL_99 : (99 : Int32) = zn 99 := (zn_eq 99).symm
theorem nL_110 : (110 : Int32) = zn 110 := (zn_eq 110).symm
theorem nL_112 : (112 : Int32) = zn 112 := (zn_eq 112).symm
theorem nL_120 : (120 : Int32) = zn 120 := (zn_eq 120).symm
theorem nL_143 : (143 : Int32) = zn 143 := (zn_eq 143).symm
theorem nL_170 : (170 : Int32) = zn 170 := (zn_eq 170).symm
theorem nL_200 : (200 : Int32) = zn 200 := (zn_eq 200).symm
theorem nL_203 : (203 : Int32) = zn 203 := (zn_eq 203).symm
theorem nL_240 : (240 : Int32) = zn 240 := (zn_eq 240).symm
theorem nL_255 : (255 : Int32) = zn 255 := (zn_eq 255).symm
theorem nL_256 : (256 : Int32) = zn 256 := (zn_eq 256).symm
theorem nL_320 : (320 : Int32) = zn 320 := (zn_eq 320).symm
theorem nL_365 : (365 : Int32) = zn 365 := (zn_eq 365).symm
theorem nL_400 : (400 : Int32) = zn 400 := (zn_eq 400).symm
theorem nL_440 : (440 : Int32) = zn 440 := (zn_eq 440).symm
theorem nL_500 : (500 : Int32) = zn 500 := (zn_eq 500).symm
theorem nL_501 : (501 : Int32) = zn 501 := (zn_eq 501).symm
theorem nL_511 : (511 : Int32) = zn 511 := (zn_eq 511).symm
theorem nL_512 : (512 : Int32) = zn 512 := (zn_eq 512).symm
theorem nL_523 : (523 : Int32) = zn 523 := (zn_eq 523).symm
theorem nL_1000 : (1000 : Int32) = zn 1000 := (zn_eq 1000).symm
theorem nL_1023 : (1023 : Int32) = zn 1023 := (zn_eq 1023).symm
theorem nL_1210 : (1210 : Int32) = zn 1210 := (zn_eq 1210).symm
theorem nL_1500 : (1500 : Int32) = zn 1500 := (zn_eq 1500).symm
theorem nL_1792 : (1792 : Int32) = zn 1792 := (zn_eq 1792).symm
theorem nL_1800 : (1800 : Int32) = zn 1800 := (zn_eq 1800).symm
theorem nL_4095 : (4095 : Int32) = zn 4095 := (zn_eq 4095).symm
theorem nL_6000 : (6000 : Int32) = zn 6000 := (zn_eq 6000).symm
theorem nL_7040 : (7040 : Int32) = zn 7040 := (zn_eq 7040).symm
theorem nL_8000 : (8000 : Int32) = zn 8000 := (zn_eq 8000).symm
theorem nL_20000 : (20000 : Int32) = zn 20000 := (zn_eq 20000).symm
theorem nL_30000 : (30000 : Int32) = zn 30000 := (zn_eq 30000).symm
theorem nL_32000 : (32000 : Int32) = zn 32000 := (zn_eq 32000).symm
theorem nL_65535 : (65535 : Int32) = zn 65535 := (zn_eq 65535).symm
theorem nL_102400 : (102400 : Int32) = zn 102400 := (zn_eq 102400).symm
theorem nL_16383 : (16383 : Int32) = zn 16383 := (zn_eq 16383).symm
theorem z_lt_iff (x y : Int32) : z_lt x y = decide (x.toInt < y.toInt) := by rw [z_lt_eq]; exact decide_eq_decide.mpr Int32.lt_iff_toInt_lt
theorem z_le_iff (x y : Int32) : z_le x y = decide (x.toInt ≤ y.toInt) := by rw [z_le_eq]; exact decide_eq_decide.mpr Int32.le_iff_toInt_le
theorem z_lt_T {a b : Nat} (h : a < b) (hb : b < 2147483648) : z_lt (zn a) (zn b) = true := by
  rw [z_lt_iff, zn_toInt (by omega), zn_toInt hb]; exact decide_eq_true (by omega)
theorem z_lt_F {a b : Nat} (h : b ≤ a) (ha : a < 2147483648) : z_lt (zn a) (zn b) = false := by
  rw [z_lt_iff, zn_toInt (by omega), zn_toInt (by omega)]; exact decide_eq_false (by omega)
theorem z_le_T {a b : Nat} (h : a ≤ b) (hb : b < 2147483648) : z_le (zn a) (zn b) = true := by
  rw [z_le_iff, zn_toInt (by omega), zn_toInt hb]; exact decide_eq_true (by omega)
theorem z_le_F {a b : Nat} (h : b < a) (ha : a < 2147483648) : z_le (zn a) (zn b) = false := by
  rw [z_le_iff, zn_toInt (by omega), zn_toInt (by omega)]; exact decide_eq_false (by omega)
theorem z_eq_T (x : Int32) : z_eq x x = true := by rw [z_eq_eq]; exact decide_eq_true rfl
theorem z_ne_F (x : Int32) : z_ne x x = false := by rw [z_ne_eq]; exact decide_eq_false (fun h => h rfl)
theorem z_eq_F {a b : Nat} (h : a ≠ b) (ha : a < 2147483648) (hb : b < 2147483648) : z_eq (zn a) (zn b) = false := by
  rw [z_eq_eq]; exact decide_eq_false (fun e => h (zn_inj ha hb e))
theorem z_ne_T {a b : Nat} (h : a ≠ b) (ha : a < 2147483648) (hb : b < 2147483648) : z_ne (zn a) (zn b) = true := by
  rw [z_ne_eq]; exact decide_eq_true (fun e => h (zn_inj ha hb e))
/-- below nothing -/
theorem z_lt_m {x : Int32} {b : Nat} (h : x.toInt < 0) (hb : b < 2147483648) : z_lt x (zn b) = true := by
  rw [z_lt_iff, zn_toInt hb]; exact decide_eq_true (by omega)
theorem z_le_m {x : Int32} {b : Nat} (h : x.toInt < 0) (hb : b < 2147483648) : z_le x (zn b) = true := by
  rw [z_le_iff, zn_toInt hb]; exact decide_eq_true (by omega)
theorem z_lt_m2 {x : Int32} {b : Nat} (h : x.toInt < 0) (hb : b < 2147483648) : z_lt (zn b) x = false := by
  rw [z_lt_iff, zn_toInt hb]; exact decide_eq_false (by omega)
theorem z_le_m2 {x : Int32} {b : Nat} (h : x.toInt < 0) (hb : b < 2147483648) : z_le (zn b) x = false := by
  rw [z_le_iff, zn_toInt hb]; exact decide_eq_false (by omega)
theorem z_eq_m {x : Int32} {b : Nat} (h : x.toInt < 0) (hb : b < 2147483648) : z_eq x (zn b) = false := by
  rw [z_eq_eq]; exact decide_eq_false (fun e => by rw [e, zn_toInt hb] at h; omega)
theorem z_ne_m {x : Int32} {b : Nat} (h : x.toInt < 0) (hb : b < 2147483648) : z_ne x (zn b) = true := by
  rw [z_ne_eq]; exact decide_eq_true (fun e => by rw [e, zn_toInt hb] at h; omega)
theorem z_ix_T {i n : Nat} (h : i < n) (h2 : i < 2147483648) : z_ix (zn i) n = true := by
  rw [z_ix_eq]
  refine decide_eq_true ?_
  rintro (e | e)
  · rw [Int32.lt_iff_toInt_lt, zn_toInt h2] at e
    have : (0 : Int32).toInt = 0 := rfl
    omega
  · rw [zn_N h2] at e; omega
/-- division, remainder, shifts of small numbers -/
theorem zn_div {a b : Nat} (ha : a < 2147483648) (hb : b < 2147483648) : zn a / zn b = zn (a / b) := by
  apply Int32.toInt_inj.mp
  have hab : a / b ≤ a := Nat.div_le_self a b
  rw [Int32.toInt_div_of_ne_left, zn_toInt ha, zn_toInt hb, zn_toInt (by omega)]
  · rfl
  · intro e
    have := congrArg Int32.toInt e
    rw [zn_toInt ha] at this
    have h2 : Int32.minValue.toInt = -2147483648 := rfl
    omega
theorem zn_bv (n : Nat) : (zn n).toBitVec = BitVec.ofNat 32 n := by rw [zn_eq]; rfl
theorem zn_nat {n : Nat} (h : n < 4294967296) : (zn n).toBitVec.toNat = n := by rw [zn_bv, BitVec.toNat_ofNat, Nat.mod_eq_of_lt h]
theorem zn_bn {x : Int32} : zn x.toBitVec.toNat = x := by
  apply Int32.toBitVec_inj.mp
  rw [zn_bv, BitVec.ofNat_toNat, BitVec.setWidth_eq]
theorem zn_and (a b : Nat) (ha : a < 4294967296) (hb : b < 4294967296) : zn a &&& zn b = zn (a &&& b) := by
  apply Int32.toBitVec_inj.mp
  apply BitVec.eq_of_toNat_eq
  rw [Int32.toBitVec_and, BitVec.toNat_and, zn_nat ha, zn_nat hb, zn_nat (Nat.lt_of_le_of_lt Nat.and_le_left ha)]
theorem z_a31 {k : Nat} (h : k < 32) : zn k &&& zn 31 = zn k := by
  rw [zn_and _ _ (by omega) (by omega), show (31 : Nat) = 2 ^ 5 - 1 from rfl, Nat.and_two_pow_sub_one_eq_mod, Nat.mod_eq_of_lt (by omega)]
theorem zn_smod0 : ∀ k, k < 32 → (BitVec.ofNat 32 k).smod 32 = BitVec.ofNat 32 k := by decide +kernel
theorem zn_smod {k : Nat} (hk : k < 32) : (zn k).toBitVec.smod 32 = BitVec.ofNat 32 k := by rw [zn_bv]; exact zn_smod0 k hk
theorem zn_shl {a k : Nat} (hk : k < 32) : zn a <<< zn k = zn (a * 2 ^ k) := by
  apply Int32.toBitVec_inj.mp
  apply BitVec.eq_of_toNat_eq
  have hs := zn_smod hk
  rw [Int32.toBitVec_shiftLeft, hs, zn_bv, zn_bv]
  simp [BitVec.toNat_shiftLeft, Nat.shiftLeft_eq]
  rw [Nat.mod_eq_of_lt (a := k) (by omega)]
theorem zn_shr {a k : Nat} (ha : a < 2147483648) (hk : k < 32) : zn a >>> zn k = zn (a / 2 ^ k) := by
  apply Int32.toBitVec_inj.mp
  have hs := zn_smod hk
  have hm : (BitVec.ofNat 32 a).msb = false := by
    rw [BitVec.msb_eq_false_iff_two_mul_lt, BitVec.toNat_ofNat]
    omega
  apply BitVec.eq_of_toNat_eq
  rw [Int32.toBitVec_shiftRight, hs, zn_bv, zn_bv, BitVec.sshiftRight', BitVec.sshiftRight_eq_of_msb_false hm]
  have hd : a / 2 ^ k ≤ a := Nat.div_le_self _ _
  simp [Nat.shiftRight_eq_div_pow]
  rw [Nat.mod_eq_of_lt (a := k) (by omega), Nat.mod_eq_of_lt (a := a) (by omega), Nat.mod_eq_of_lt (by omega)]
theorem zn_ok {n : Nat} (h : n < 2147483648) : decide (¬ zn n < 0) = true := decide_eq_true (by
  rw [Int32.lt_iff_toInt_lt, zn_toInt h]
  have : (0 : Int32).toInt = 0 := rfl
  omega)
theorem zn_ok0 {n : Nat} (h : n < 2147483648) : decide (¬ zn n < zn 0) = true := by rw [← nL_0]; exact zn_ok h
