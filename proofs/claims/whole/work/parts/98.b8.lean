/-! S LEVEL: bits counted, both sides; how loud, both sides. -/
theorem zn_us {a k : Nat} (ha : a < 4294967296) (hk : k < 32) {y : Int32} (e : y = zn k) : (Int32.toUInt32 (zn a) >>> (Int32.toUInt32 y &&& Int32.toUInt32 31)).toInt32 = zn (Nat.shiftRight a k) := by
  apply Int32.toBitVec_inj.mp
  apply BitVec.eq_of_toNat_eq
  have e1 : Int32.toUInt32 y &&& Int32.toUInt32 31 = Int32.toUInt32 (y &&& 31) := rfl
  rw [e1, e, nL_31, z_a31 hk]
  have e2 : (Int32.toUInt32 (zn a) >>> Int32.toUInt32 (zn k)).toInt32.toBitVec = (zn a).toBitVec >>> ((zn k).toBitVec % 32) := rfl
  rw [e2, zn_bv, zn_bv, zn_bv]
  have h3 : Nat.shiftRight a k = a / 2 ^ k := Nat.shiftRight_eq_div_pow a k
  have h4 : a / 2 ^ k ≤ a := Nat.div_le_self _ _
  rw [h3, BitVec.ushiftRight_eq', BitVec.toNat_ushiftRight, BitVec.toNat_umod, BitVec.toNat_ofNat, BitVec.toNat_ofNat, BitVec.toNat_ofNat, Nat.shiftRight_eq_div_pow]
  rw [Nat.mod_eq_of_lt (a := a) (by omega), Nat.mod_eq_of_lt (a := k) (by omega), Nat.mod_eq_of_lt (a := a / 2 ^ k) (by omega)]
  have : (32#32 : BitVec 32).toNat = 32 := rfl
  rw [show ((32 : BitVec 32)).toNat = 32 from rfl, Nat.mod_eq_of_lt hk]
theorem sr_le (a k : Nat) : Nat.shiftRight a k ≤ a := by
  rw [show Nat.shiftRight a k = a / 2 ^ k from Nat.shiftRight_eq_div_pow a k]; exact Nat.div_le_self _ _
theorem la_le (a b : Nat) : Nat.land a b ≤ a := Nat.and_le_left
theorem bc1_le (x : Nat) : bc1 x ≤ x := Nat.sub_le _ _
theorem bc2_le (y : Nat) : bc2 y ≤ y + y := Nat.add_le_add (la_le _ _) (Nat.le_trans (la_le _ _) (sr_le _ _))
theorem bc3_le (y : Nat) : bc3 y ≤ y + y := Nat.le_trans (la_le _ _) (Nat.add_le_add (Nat.le_refl _) (sr_le _ _))
theorem bc4_le (y : Nat) : bc4 y ≤ y + y := Nat.add_le_add (Nat.le_refl _) (sr_le _ _)
theorem bc5_le (y : Nat) : bc5 y ≤ y + y := Nat.add_le_add (Nat.le_refl _) (sr_le _ _)
theorem c_bc (d : Nat) (M : zM) {x : Nat} (h : x < 65536) : z_den zQ (d + 1) mJi_bitCount [.int (zn x)] M = some (some (.int (zn (popR 16 x))), M) := by
  have h1 := bc1_le x
  have h2 := bc2_le (bc1 x)
  have h3 := bc3_le (bc2 (bc1 x))
  have h4 := bc4_le (bc3 (bc2 (bc1 x)))
  have h5 := bc5_le (bc4 (bc3 (bc2 (bc1 x))))
  have s1 := sr_le x 1
  have l1 : (1431655765 : Int32) = zn 1431655765 := (zn_eq _).symm
  have l2 : (858993459 : Int32) = zn 858993459 := (zn_eq _).symm
  have l3 : (252645135 : Int32) = zn 252645135 := (zn_eq _).symm
  have a1 : zn x - ((Int32.toUInt32 (zn x) >>> (Int32.toUInt32 1 &&& Int32.toUInt32 31)).toInt32 &&& 1431655765) = zn (bc1 x) := by
    rw [zn_us (by omega) (by omega) nL_1, l1, zn_and _ _ (by omega) (by omega)]
    have := la_le (Nat.shiftRight x 1) 1431655765
    rw [show Nat.shiftRight x 1 &&& 1431655765 = Nat.land (Nat.shiftRight x 1) 1431655765 from rfl, zn_sub (by omega)]
    rfl
  have a2 : (zn (bc1 x) &&& 858993459) + ((Int32.toUInt32 (zn (bc1 x)) >>> (Int32.toUInt32 2 &&& Int32.toUInt32 31)).toInt32 &&& 858993459) = zn (bc2 (bc1 x)) := by
    have := sr_le (bc1 x) 2
    rw [zn_us (by omega) (by omega) nL_2, l2, zn_and _ _ (by omega) (by omega), zn_and _ _ (by omega) (by omega), zn_add]
    rfl
  have a3 : (zn (bc2 (bc1 x)) + (Int32.toUInt32 (zn (bc2 (bc1 x))) >>> (Int32.toUInt32 4 &&& Int32.toUInt32 31)).toInt32) &&& 252645135 = zn (bc3 (bc2 (bc1 x))) := by
    have := sr_le (bc2 (bc1 x)) 4
    rw [zn_us (by omega) (by omega) nL_4, zn_add, l3, zn_and _ _ (by omega) (by omega)]
    rfl
  have a4 : zn (bc3 (bc2 (bc1 x))) + (Int32.toUInt32 (zn (bc3 (bc2 (bc1 x)))) >>> (Int32.toUInt32 8 &&& Int32.toUInt32 31)).toInt32 = zn (bc4 (bc3 (bc2 (bc1 x)))) := by
    rw [zn_us (by omega) (by omega) nL_8, zn_add]
    rfl
  have a5 : (zn (bc4 (bc3 (bc2 (bc1 x)))) + (Int32.toUInt32 (zn (bc4 (bc3 (bc2 (bc1 x))))) >>> (Int32.toUInt32 16 &&& Int32.toUInt32 31)).toInt32) &&& 63 = zn (bc6 x) := by
    have := sr_le (bc4 (bc3 (bc2 (bc1 x)))) 16
    rw [zn_us (by omega) (by omega) nL_16, zn_add, nL_63, zn_and _ _ (by omega) (by omega)]
    rfl
  rw [B_Ji_bitCount, a1, a2, a3, a4, a5, bc_pop h]
/-- bits from place c on, r of them -/
def cnB (x : Int32) : Nat → Nat → Nat
  | 0, _ => 0
  | r + 1, c => (if btF x c = true then 1 else 0) + cnB x r (c + 1)
theorem cnB_le (x : Int32) : ∀ r c, cnB x r c ≤ r
  | 0, _ => Nat.le_refl _
  | r + 1, c => by
    have := cnB_le x r (c + 1)
    unfold cnB
    split <;> omega
theorem tb_mod (x c : Nat) : x.testBit c = decide (x / 2 ^ c % 2 = 1) := by
  rw [Nat.testBit_eq_decide_div_mod_eq]
theorem cnB_pop (x : Nat) : ∀ r c, c + r ≤ 32 → cnB (zn x) r c = popR r (x / 2 ^ c)
  | 0, c, h => rfl
  | r + 1, c, h => by
    unfold cnB popR
    rw [cnB_pop x r (c + 1) (by omega), bt_zn (by omega), tb_mod]
    have e : x / 2 ^ (c + 1) = x / 2 ^ c / 2 := by rw [Nat.pow_succ, Nat.div_div_eq_div_mul]
    rw [e]
    show _ = (x / 2 ^ c) % 2 + popR r (x / 2 ^ c / 2)
    congr 1
    by_cases g : x / 2 ^ c % 2 = 1
    · rw [decide_eq_true g, if_pos rfl, g]
    · rw [decide_eq_false g, if_neg (by decide)]; omega
theorem s16 {x : Int32} (h : ∀ c, 16 ≤ c → c < 32 → btF x c = false) : ∃ n, n < 65536 ∧ x = zn n := by
  refine ⟨x.toBitVec.toNat, ?_, zn_bn.symm⟩
  have : x.toBitVec.toNat < 2 ^ 16 := by
    refine Nat.lt_pow_two_of_testBit _ (fun i hi => ?_)
    by_cases g : i < 32
    · exact h i hi g
    · exact Nat.testBit_lt_two_pow (Nat.lt_of_lt_of_le x.toBitVec.isLt (Nat.pow_le_pow_right (by omega) (by omega)))
  exact this
theorem c_bc16 (d : Nat) (M : zM) {x : Int32} (h : ∀ c, 16 ≤ c → c < 32 → btF x c = false) : z_den zQ (d + 1) mJi_bitCount [.int x] M = some (some (.int (zn (cnB x 16 0))), M) := by
  obtain ⟨n, hn, rfl⟩ := s16 h
  rw [c_bc d M hn, cnB_pop n 16 0 (by omega), Nat.pow_zero, Nat.div_one]
/-! how loud -/
noncomputable def loV (s : Nat) (lv age : Int32) (c : Nat) : Int32 :=
  if s = 0 then lv + zn (3 + c) else if s = 1 then lv + zn (3 + c) + 7 else if s = 2 then lv + 2 * zn (3 + c) + 7 else if s = 3 then (bif z_ne age 0 then 0 else 2 * lv) else if s = 4 then (bif z_le (lv - 5 * age) 0 then 0 else lv - 5 * age) else if s = 5 then (bif z_le (lv - 5 * (age / 4)) 0 then 0 else lv - 5 * (age / 4)) + 1 else 0
def lbF (s : Nat) : List Nat := if s = 0 then [0, 6] else if s = 1 then [1, 0, 6] else if s = 2 then [1, 0, 7, 6] else if s = 3 then [2] else if s = 4 then [3] else if s = 5 then [4, 3] else [5]
def llF : List (Nat × Nat) := [(0, 144), (1, 156), (2, 161), (3, 150), (5, 141), (6, 152), (7, 144)]
def mlF (s : Nat) : Nat := if s = 0 then mPipe_loudness else if s = 1 then mReed_loudness else if s = 2 then mReed_loudness else if s = 3 then mDrum_loudness else if s = 4 then mPluck_loudness else if s = 5 then mBell_loudness else mCoup_loudness
theorem ml_ok {s : Nat} (h : s ≤ 6) : z_has llF (tgF s) = true ∧ z_sel llF (tgF s) = mlF s := by
  have : s = 0 ∨ s = 1 ∨ s = 2 ∨ s = 3 ∨ s = 4 ∨ s = 5 ∨ s = 6 := by omega
  rcases this with g | g | g | g | g | g | g <;> subst g <;> exact ⟨rfl, rfl⟩
theorem bp_1 (M : zM) (c k : Nat) : z_wI M c k (zI M c k + 1) = zbp c k M := by unfold zbp; rw [nL_1]
theorem ia10 (M : zM) {k : Nat} {x : Int32} (e : x = zn k) (h : k < 17) : z_ia zQ M 10 14 x = true := by
  rw [ia_of (show z_hd zQ M 10 = some (14, 17) from rfl)]
  exact ix_L e h (by omega)
theorem max_0 (x : Int32) : (bif z_lt (0 : Int32) x then x else (0 : Int32)) = (bif z_le x 0 then (0 : Int32) else x) := by
  rw [z_lt_iff, z_le_iff, toI_0]
  by_cases g : 0 < x.toInt
  · rw [decide_eq_true g, decide_eq_false (by omega)]; rfl
  · rw [decide_eq_false g, decide_eq_true (by omega)]; rfl
theorem b56 : (!(Nat.beq 10 56) && true) = true := rfl
theorem tn_lit {k : Nat} {x : Int32} (e : x = zn k) (h : k < 2147483648) : Int32.toNatClampNeg x = k := by rw [e]; exact zn_N h
theorem c_air0 (d : Nat) (M : zM) (a0 c : Nat) (hc : c < 1000) : z_den zQ (d + 1) mPipe_air [.ref a0, .int (zn c), .ref 10] M = some (some (.int (zn (3 + c))), zbp 10 6 M) := by
  rw [B_Pipe_air, ia10 M nL_6 (by omega), b56, cond_true, cond_true, tn_lit nL_6 (by omega), bp_1, nL_3, zn_add]
theorem c_pipeL (d : Nat) (M : zM) {a0 s c : Nat} {n : Nat} (hs : s ≤ 2) (hd : z_hd zQ M a0 = some (tgF s, n)) (lv age : Int32) (hc : c < 1000) : z_den zQ (d + 3) mPipe_loudness [.ref a0, .int lv, .int age, .int (zn c), .ref 10] M = some (some (.int (if s = 2 then lv + 2 * zn (3 + c) else lv + zn (3 + c))), zbs 10 (if s = 2 then [0, 7, 6] else [0, 6]) M) := by
  have hb : ∀ k, z_hd zQ (zbp 10 k M) a0 = some (tgF s, n) := fun k => hd
  rw [B_Pipe_loudness, ia10 M nL_0 (by omega), b56, cond_true, cond_true, tn_lit nL_0 (by omega), bp_1, okU_of (hb 0), selU_of (hb 0)]
  have : s = 0 ∨ s = 1 ∨ s = 2 := by omega
  rcases this with g | g | g <;> subst g
  · show z_bI (z_den zQ (d + 2) mPipe_air [.ref a0, .int (zn c), .ref 10] (zbp 10 0 M)) _ = _
    rw [c_air0 _ _ _ _ hc, z_bI_some]; rfl
  · show z_bI (z_den zQ (d + 2) mPipe_air [.ref a0, .int (zn c), .ref 10] (zbp 10 0 M)) _ = _
    rw [c_air0 _ _ _ _ hc, z_bI_some]; rfl
  · show z_bI (z_den zQ (d + 2) mBass_air [.ref a0, .int (zn c), .ref 10] (zbp 10 0 M)) _ = _
    have hc0 : z_cls zQ (zbp 10 7 (zbp 10 0 M)) a0 [0, 7] = true := by rw [z_cls_of (show z_hd zQ (zbp 10 7 (zbp 10 0 M)) a0 = some (tgF 2, n) from hd)]; rfl
    rw [B_Bass_air, ia10 _ nL_7 (by omega), b56, cond_true, cond_true, tn_lit nL_7 (by omega), bp_1, hc0, cond_true, c_air0 _ _ _ _ hc, z_bI_some, z_bI_some]; rfl
theorem c_loudn (d : Nat) (M : zM) {a0 s c n : Nat} (hs : s ≤ 6) (hd : z_hd zQ M a0 = some (tgF s, n)) (lv age : Int32) (hc : c < 1000) : z_den zQ (d + 4) (mlF s) [.ref a0, .int lv, .int age, .int (zn c), .ref 10] M = some (some (.int (loV s lv age c)), zbs 10 (lbF s) M) := by
  have : s = 0 ∨ s = 1 ∨ s = 2 ∨ s = 3 ∨ s = 4 ∨ s = 5 ∨ s = 6 := by omega
  rcases this with g | g | g | g | g | g | g
  · subst g
    show z_den zQ (d + 4) mPipe_loudness _ M = _
    rw [c_pipeL (d + 1) M (s := 0) (by omega) hd lv age hc]; rfl
  · subst g
    show z_den zQ (d + 4) mReed_loudness _ M = _
    have hc0 : z_cls zQ (zbp 10 1 M) a0 [0, 5, 7] = true := by rw [z_cls_of (show z_hd zQ (zbp 10 1 M) a0 = some (tgF 1, n) from hd)]; rfl
    rw [B_Reed_loudness, ia10 M nL_1 (by omega), b56, cond_true, cond_true, tn_lit nL_1 (by omega), bp_1, hc0, cond_true, c_pipeL d (zbp 10 1 M) (s := 1) (by omega) hd lv age hc, z_bI_some]; rfl
  · subst g
    show z_den zQ (d + 4) mReed_loudness _ M = _
    have hc0 : z_cls zQ (zbp 10 1 M) a0 [0, 5, 7] = true := by rw [z_cls_of (show z_hd zQ (zbp 10 1 M) a0 = some (tgF 2, n) from hd)]; rfl
    rw [B_Reed_loudness, ia10 M nL_1 (by omega), b56, cond_true, cond_true, tn_lit nL_1 (by omega), bp_1, hc0, cond_true, c_pipeL d (zbp 10 1 M) (s := 2) (by omega) hd lv age hc, z_bI_some]; rfl
  · subst g
    show z_den zQ (d + 4) mDrum_loudness _ M = some (some (.int (bif z_ne age 0 then 0 else 2 * lv)), zbs 10 [2] M)
    rw [B_Drum_loudness, ia10 M nL_2 (by omega), b56, cond_true, cond_true, tn_lit nL_2 (by omega), bp_1]
    cases z_ne age 0 <;> rfl
  · subst g
    show z_den zQ (d + 4) mPluck_loudness _ M = some (some (.int (bif z_le (lv - 5 * age) 0 then 0 else lv - 5 * age)), zbs 10 [3] M)
    rw [B_Pluck_loudness, ia10 M nL_3 (by omega), b56, cond_true, cond_true, tn_lit nL_3 (by omega), bp_1, E_max, max_0, z_bI_some]; rfl
  · subst g
    show z_den zQ (d + 4) mBell_loudness _ M = some (some (.int ((bif z_le (lv - 5 * (age / 4)) 0 then 0 else lv - 5 * (age / 4)) + 1)), zbs 10 [4, 3] M)
    have hc0 : z_cls zQ (zbp 10 4 M) a0 [1, 6] = true := by rw [z_cls_of (show z_hd zQ (zbp 10 4 M) a0 = some (tgF 5, n) from hd)]; rfl
    rw [B_Bell_loudness, ia10 M nL_4 (by omega), b56, cond_true, cond_true, show z_ne (4 : Int32) 0 = true by rw [z_ne_eq]; rfl, cond_true, tn_lit nL_4 (by omega), bp_1, hc0, cond_true, B_Pluck_loudness, ia10 _ nL_3 (by omega), b56, cond_true, cond_true, tn_lit nL_3 (by omega), bp_1, E_max, max_0, z_bI_some, z_bI_some]; rfl
  · subst g
    show z_den zQ (d + 4) mCoup_loudness _ M = some (some (.int 0), zbs 10 [5] M)
    rw [B_Coup_loudness, ia10 M nL_5 (by omega), b56, cond_true, cond_true, tn_lit nL_5 (by omega), bp_1]; rfl
