/-! DOUBLES: to the nearest whole number. -/
theorem l64 {n : Nat} (h : n < 9007199254740992) : (Int64.ofInt (n : Int)).toInt = n := Int64.toInt_ofInt_of_le (by omega) (by omega)
theorem od_c {n : Nat} (h : n < 9007199254740992) : Int64.ofInt (n : Int) &&& 1 = Int64.ofInt ((n % 2 : Nat) : Int) := by
  apply Int64.toBitVec_inj.mp
  rw [Int64.toBitVec_and]
  apply BitVec.eq_of_toNat_eq
  rw [BitVec.toNat_and, show (Int64.ofInt (n : Int)).toBitVec = BitVec.ofNat 64 n by exact BitVec.ofInt_natCast 64 n, show (Int64.ofInt ((n % 2 : Nat) : Int)).toBitVec = BitVec.ofNat 64 (n % 2) by exact BitVec.ofInt_natCast 64 (n % 2), BitVec.toNat_ofNat, BitVec.toNat_ofNat, show (1 : Int64).toBitVec.toNat = 1 by decide, Nat.and_one_is_mod]
  omega
theorem od_r {n : Nat} (h : n < 9007199254740992) : Int64.ofInt (n : Int) - Int64.ofInt (n : Int) / 2 * 2 = Int64.ofInt ((n % 2 : Nat) : Int) := by
  have h2 : (2 : Int64).toInt = 2 := by decide
  have e1 : Int64.ofInt (n : Int) / 2 = Int64.ofInt ((n / 2 : Nat) : Int) := by
    apply Int64.toInt_inj.mp
    rw [lg_ldiv_nonneg (by rw [l64 h]; omega) (by rw [h2]; omega), l64 h, h2, l64 (by omega)]
    omega
  have e2 : (2 : Int64) = Int64.ofInt 2 := by decide
  rw [e1, e2, ← Int64.ofInt_mul, ← Int64.ofInt_sub]
  congr 1
  omega
theorem od_ne {n : Nat} : z_ne (lg_cmp (Int64.ofInt ((n % 2 : Nat) : Int)) 1) 0 = decide (n % 2 ≠ 1) := by
  rcases Nat.mod_two_eq_zero_or_one n with g | g
  · rw [g, z_ne_eq]; decide
  · rw [g, z_ne_eq]; decide
noncomputable def nrF (n : Nat) (r : Int32) : Nat := if z_lt 0 r = true then n + 1 else if z_ne r 0 = true then n else if n % 2 = 1 then n + 1 else n
theorem nrF_le (n : Nat) (r : Int32) : nrF n r ≤ n + 1 := by unfold nrF; (repeat' split) <;> omega
noncomputable def nrD (x : UInt64) (n : Nat) : Nat := nrF n (zf_cmp.1 .l (zf_sub.1 x (UInt64.ofNat (iN n))) 4602678819172646912)
theorem P_near (d : Nat) (M : zM) {x : UInt64} {n : Nat} (h : zf_d2l.1 x = Int64.ofInt (n : Int)) (hx : nP x) (hn : n < 4503599627370496) : z_den zQ (d + 1) mPluck_nearest [.double x] M = some (some (.double (UInt64.ofNat (iN (nrD x n)))), M) := by
  rw [B_Pluck_nearest, h, zl_n (show n < 9007199254740992 by omega), i64_add, zl_n (show n + 1 < 9007199254740992 by omega), od_c (by omega), od_ne]
  have hs : z_num (zf_sub.1 x (UInt64.ofNat (iN n))) = true := by rw [zf_sub.2]; exact sub_num hx (iN_nn (by omega)) (by omega) (by omega) (by omega) (by omega)
  rw [hs, show z_eq (1 : Int32) 0 = false by rw [z_eq_eq]; decide, z_eq_T]
  unfold nrD nrF
  generalize zf_cmp.1 .l (zf_sub.1 x (UInt64.ofNat (iN n))) 4602678819172646912 = r
  cases z_lt 0 r
  · cases z_ne r 0
    · by_cases g : n % 2 = 1
      · simp [g]
      · simp [g]
    · simp
  · simp
theorem Q_near (d : Nat) (M : zM) {x : UInt64} {n : Nat} (h : zf_d2l.1 x = Int64.ofInt (n : Int)) (hx : nP x) (hn : n < 4503599627370496) : z_den zQ (d + 2) mQ_nearest [.double x] M = some (some (.double (UInt64.ofNat (iN (nrD x n)))), M) := by
  rw [B_Q_nearest, B_Q_floor, z_bD_some, h, zl_n (show n < 9007199254740992 by omega), zd_n (by omega), od_r (by omega), od_ne, za_1 (by omega), nnD_num (iN_nn (show n + 1 < 9007199254740992 by omega)) (by omega)]
  have hs : z_num (zf_sub.1 x (UInt64.ofNat (iN n))) = true := by rw [zf_sub.2]; exact sub_num hx (iN_nn (by omega)) (by omega) (by omega) (by omega) (by omega)
  rw [hs, show z_eq (1 : Int32) 0 = false by rw [z_eq_eq]; decide, z_eq_T, show z_nz 2 = true by rw [z_nz_eq]; decide]
  unfold nrD nrF
  generalize zf_cmp.1 .l (zf_sub.1 x (UInt64.ofNat (iN n))) 4602678819172646912 = r
  cases z_lt 0 r
  · cases z_ne r 0
    · by_cases g : n % 2 = 1
      · simp [g]
      · simp [g]
    · by_cases g : n % 2 = 1
      · simp [g]
      · simp [g]
  · by_cases g : n % 2 = 1
    · simp [g]
    · simp [g]
