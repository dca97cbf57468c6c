/-! S LEVEL: bytes of numbers, by toInt. -/
theorem tI_ub (x : Int32) : x.toInt = if x.toBitVec.toNat < 2147483648 then (x.toBitVec.toNat : Int) else x.toBitVec.toNat - 4294967296 := by
  have h : x.toInt = x.toBitVec.toInt := rfl
  rw [h, BitVec.toInt_eq_toNat_cond]
  have h2 : x.toBitVec.toNat < 4294967296 := x.toBitVec.isLt
  by_cases h3 : x.toBitVec.toNat < 2147483648
  · rw [if_pos (by omega), if_pos h3]
  · rw [if_neg (by omega), if_neg h3]; rfl
theorem tI_bd (x : Int32) : -2147483648 ≤ x.toInt ∧ x.toInt < 2147483648 := ⟨Int32.le_toInt x, Int32.toInt_lt x⟩
theorem tI_eq {x y : Int32} (h : x.toInt = y.toInt) : x = y := Int32.toInt_inj.mp h
theorem tI_b8 (x : Int32) : ((Int32.toInt8 x).toInt32).toInt = (x.toInt + 128) % 256 - 128 := by
  rw [Int8.toInt_toInt32, Int32.toInt_toInt8, Int.bmod_def]
  split <;> omega
theorem tI_b16 (x : Int32) : ((Int32.toInt16 x).toInt32).toInt = (x.toInt + 32768) % 65536 - 32768 := by
  rw [Int16.toInt_toInt32, Int32.toInt_toInt16, Int.bmod_def]
  split <;> omega
theorem tI_shr {x : Int32} {k : Nat} (hk : k < 32) : (x >>> zn k).toInt = x.toInt / (2 ^ k : Nat) := by
  have h : (x >>> zn k).toInt = (x >>> zn k).toBitVec.toInt := rfl
  rw [h, Int32.toBitVec_shiftRight, zn_smod hk, BitVec.sshiftRight', BitVec.toInt_sshiftRight, Int.shiftRight_eq_div_pow, BitVec.toNat_ofNat, Nat.mod_eq_of_lt (by omega)]
  rfl
theorem tI_and_pow {x : Int32} {k : Nat} (hk : k < 31) : (x &&& zn (2 ^ k - 1)).toInt = x.toInt % (2 ^ k : Nat) := by
  have hp : 2 ^ k ≤ 2 ^ 30 := Nat.pow_le_pow_right (by omega) (by omega)
  have h0 : 0 < 2 ^ k := Nat.pow_pos (by omega)
  have hn : (x &&& zn (2 ^ k - 1)).toBitVec.toNat = x.toBitVec.toNat % 2 ^ k := by
    rw [Int32.toBitVec_and, BitVec.toNat_and, zn_nat (by omega), Nat.and_two_pow_sub_one_eq_mod]
  have hlt := Nat.mod_lt x.toBitVec.toNat h0
  have hd : (2 ^ k : Nat) ∣ 4294967296 := ⟨2 ^ (32 - k), by rw [← Nat.pow_add, show k + (32 - k) = 32 by omega]⟩
  rw [tI_ub, hn, if_pos (by omega), tI_ub x]
  have h2 : x.toBitVec.toNat < 4294967296 := x.toBitVec.isLt
  by_cases h3 : x.toBitVec.toNat < 2147483648
  · rw [if_pos h3]; omega
  · rw [if_neg h3, Int.sub_emod, show ((4294967296 : Int) % (2 ^ k : Nat)) = 0 from Int.emod_eq_zero_of_dvd (Int.natCast_dvd_natCast.mpr hd), Int.sub_zero, Int.emod_emod]
    omega
theorem tI_255 (x : Int32) : (x &&& zn 255).toInt = x.toInt % 256 := tI_and_pow (k := 8) (by omega)
theorem tI_65535 (x : Int32) : (x &&& zn 65535).toInt = x.toInt % 65536 := tI_and_pow (k := 16) (by omega)
theorem tI_add {x y : Int32} (h1 : -2147483648 ≤ x.toInt + y.toInt) (h2 : x.toInt + y.toInt < 2147483648) : (x + y).toInt = x.toInt + y.toInt := by
  rw [Int32.toInt_add, Int.bmod_def]; split <;> omega
theorem tI_sub {x y : Int32} (h1 : -2147483648 ≤ x.toInt - y.toInt) (h2 : x.toInt - y.toInt < 2147483648) : (x - y).toInt = x.toInt - y.toInt := by
  rw [Int32.toInt_sub, Int.bmod_def]; split <;> omega
theorem tI_mul {x y : Int32} (h1 : -2147483648 ≤ x.toInt * y.toInt) (h2 : x.toInt * y.toInt < 2147483648) : (x * y).toInt = x.toInt * y.toInt := by
  rw [Int32.toInt_mul, Int.bmod_def]; generalize x.toInt * y.toInt = z at *; split <;> omega
theorem zn_pow {k : Nat} (hk : k < 32) (x : Int32) : x <<< zn k = x * zn (2 ^ k) := by
  conv => lhs; rw [← zn_bn (x := x), zn_shl hk]
  conv => rhs; rw [← zn_bn (x := x), zn_mul]
theorem tI_shl {x : Int32} {k : Nat} (hk : k < 31) (h1 : -2147483648 ≤ x.toInt * (2 ^ k : Nat)) (h2 : x.toInt * (2 ^ k : Nat) < 2147483648) : (x <<< zn k).toInt = x.toInt * (2 ^ k : Nat) := by
  have hp : 2 ^ k ≤ 2 ^ 30 := Nat.pow_le_pow_right (by omega) (by omega)
  have hn : (zn (2 ^ k)).toInt = (2 ^ k : Nat) := zn_toInt (by omega)
  rw [zn_pow (by omega), tI_mul] <;> rw [hn]
  · exact h1
  · exact h2
/-- numbers without a bit in common -/
theorem tI_or {x y : Int32} (k : Nat) (hk : k < 31) (hx : x.toInt % (2 ^ k : Nat) = 0) (h0 : 0 ≤ y.toInt) (hy : y.toInt < (2 ^ k : Nat)) : (x ||| y).toInt = x.toInt + y.toInt := by
  have hp : 2 ^ k ≤ 2 ^ 30 := Nat.pow_le_pow_right (by omega) (by omega)
  have hpp : 0 < 2 ^ k := Nat.pow_pos (by omega)
  have hd : (2 ^ k : Nat) ∣ 4294967296 := ⟨2 ^ (32 - k), by rw [← Nat.pow_add, show k + (32 - k) = 32 by omega]⟩
  have ux : x.toBitVec.toNat < 4294967296 := x.toBitVec.isLt
  have uy : y.toBitVec.toNat < 4294967296 := y.toBitVec.isLt
  have ey := tI_ub y
  have ey2 : y.toInt = y.toBitVec.toNat := by split at ey <;> omega
  have hyn : y.toBitVec.toNat < 2 ^ k := by omega
  have hxn : x.toBitVec.toNat % 2 ^ k = 0 := by
    have ex := tI_ub x
    split at ex
    · rw [ex] at hx; omega
    · rw [ex, Int.sub_emod, show ((4294967296 : Int) % (2 ^ k : Nat)) = 0 from Int.emod_eq_zero_of_dvd (Int.natCast_dvd_natCast.mpr hd), Int.sub_zero, Int.emod_emod] at hx
      omega
  have hq : x.toBitVec.toNat = 2 ^ k * (x.toBitVec.toNat / 2 ^ k) := by
    have := Nat.div_add_mod x.toBitVec.toNat (2 ^ k); omega
  have ho : (x ||| y).toBitVec.toNat = x.toBitVec.toNat + y.toBitVec.toNat := by
    rw [Int32.toBitVec_or, BitVec.toNat_or]
    conv => lhs; rw [hq]
    rw [← Nat.two_pow_add_eq_or_of_lt hyn, ← hq]
  have hl : (x ||| y).toBitVec.toNat < 4294967296 := (x ||| y).toBitVec.isLt
  obtain ⟨c, hc⟩ := hd
  have hbig : ∀ q : Nat, 2 ^ k * q < 2147483648 → 2 ^ k * q + 2 ^ k ≤ 2147483648 := by
    intro q hq2
    have h31 : (2 : Nat) ^ 31 = 2 ^ k * 2 ^ (31 - k) := by rw [← Nat.pow_add, show k + (31 - k) = 31 by omega]
    have : q < 2 ^ (31 - k) := by
      apply Nat.lt_of_mul_lt_mul_left (a := 2 ^ k)
      omega
    have := Nat.mul_le_mul_left (2 ^ k) (Nat.succ_le_of_lt this)
    rw [Nat.mul_succ] at this
    omega
  have hb := hbig (x.toBitVec.toNat / 2 ^ k)
  rw [← hq] at hb
  have e1 := tI_ub (x ||| y)
  have e2 := tI_ub x
  rw [ho] at e1
  split at e1 <;> split at e2 <;> omega
/-- the j-th byte from below, with sign -/
noncomputable def ebF (x : Int32) (j : Nat) : Int32 := (Int32.toInt8 (x >>> zn (8 * j))).toInt32
theorem tI_eb (x : Int32) {j : Nat} (hj : j < 4) : (ebF x j).toInt = (x.toInt / (256 ^ j : Nat) + 128) % 256 - 128 := by
  unfold ebF
  rw [tI_b8, tI_shr (by omega), Nat.pow_mul]
theorem tI_eb0 (x : Int32) : (ebF x 0).toInt = (x.toInt + 128) % 256 - 128 := by rw [tI_eb x (by omega)]; simp
theorem tI_eb1 (x : Int32) : (ebF x 1).toInt = (x.toInt / 256 + 128) % 256 - 128 := by rw [tI_eb x (by omega)]; simp
theorem tI_eb2 (x : Int32) : (ebF x 2).toInt = (x.toInt / 65536 + 128) % 256 - 128 := by rw [tI_eb x (by omega)]; simp
theorem tI_eb3 (x : Int32) : (ebF x 3).toInt = (x.toInt / 16777216 + 128) % 256 - 128 := by rw [tI_eb x (by omega)]; simp
theorem eb_zero (x : Int32) : (Int32.toInt8 x).toInt32 = ebF x 0 := tI_eq (by rw [tI_b8, tI_eb0])
theorem eb_eb (x : Int32) {j : Nat} (hj : j < 4) : ebF (ebF x j) 0 = ebF x j := tI_eq (by rw [tI_eb0, tI_eb x hj]; omega)
theorem eb_shr (x : Int32) {j : Nat} (hj : j < 3) : ebF (x >>> zn 8) j = ebF x (j + 1) := by
  apply tI_eq
  match j, hj with
  | 0, _ => rw [tI_eb0, tI_eb1, tI_shr (by omega)]; rfl
  | 1, _ => rw [tI_eb1, tI_eb2, tI_shr (by omega)]; simp; omega
  | 2, _ => rw [tI_eb2, tI_eb3, tI_shr (by omega)]; simp; omega
def isB (x : Int32) : Prop := ebF x 0 = x
theorem isB_iff (x : Int32) : isB x ↔ -128 ≤ x.toInt ∧ x.toInt < 128 := by
  unfold isB
  constructor
  · intro h
    have := congrArg Int32.toInt h
    rw [tI_eb0] at this
    omega
  · intro h
    apply tI_eq
    rw [tI_eb0]; omega
theorem isB_eb (x : Int32) {j : Nat} (hj : j < 4) : isB (ebF x j) := eb_eb x hj
/-- one more byte below -/
theorem tI_sh8 {x y : Int32} (h1 : -8388608 ≤ x.toInt) (h2 : x.toInt < 8388608) : ((x <<< zn 8) ||| (y &&& zn 255)).toInt = x.toInt * 256 + y.toInt % 256 := by
  have e : (x <<< zn 8).toInt = x.toInt * 256 := by rw [tI_shl (by omega)] <;> simp <;> omega
  have e2 := tI_255 y
  rw [tI_or 8 (by omega)]
  · rw [e, e2]
  · rw [e]; simp
  · rw [e2]; omega
  · rw [e2]; simp; omega
/-- xor, byte by byte -/
theorem eb_bv (x : Int32) {j : Nat} (hj : j < 4) : (ebF x j).toBitVec = ((x.toBitVec.sshiftRight (8 * j)).signExtend 8).signExtend 32 := by
  unfold ebF
  show (BitVec.signExtend 32 (BitVec.signExtend 8 (x >>> zn (8 * j)).toBitVec)) = _
  rw [Int32.toBitVec_shiftRight, zn_smod (by omega), BitVec.sshiftRight', BitVec.toNat_ofNat, Nat.mod_eq_of_lt (by omega)]
theorem eb_xor (x y : Int32) {j : Nat} (hj : j < 4) : ebF (x ^^^ y) j = ebF x j ^^^ ebF y j := by
  apply Int32.toBitVec_inj.mp
  rw [eb_bv _ hj, Int32.toBitVec_xor, Int32.toBitVec_xor, eb_bv _ hj, eb_bv _ hj]
  apply BitVec.eq_of_getLsbD_eq
  intro i hi
  simp only [BitVec.getLsbD_signExtend, BitVec.getLsbD_xor, BitVec.getLsbD_sshiftRight, BitVec.msb_eq_getLsbD_last]
  have h4 : ¬ 32 ≤ i := by omega
  by_cases h1 : i < 8
  · simp [h1, hi]
    by_cases h2 : 8 * j + i < 32 <;> simp [h2, h4]
  · simp [h1, hi]
    by_cases h2 : 8 * j + 7 < 32 <;> simp [h2]
