/-! DOUBLES: order of those not below 0; whole numbers and back. -/
theorem cmp_0p {e t : Nat} (e1 : 1 ≤ e) (e2 : e ≤ 2046) (ht : t < 4503599627370496) : FP.Core.order (FP.Core.decode FP.Core.b64 0) (FP.Core.decode FP.Core.b64 (nrm e t)) = some .lt := by
  rw [dec_nrm e1 e2 ht, dec_0]
  show some (compare (((0 * 2 ^ ((-1074 : Int) - min (-1074) ((e : Int) - 1075)).toNat : Nat) : Int)) (((4503599627370496 + t) * 2 ^ ((e : Int) - 1075 - min (-1074) ((e : Int) - 1075)).toNat : Nat) : Int)) = _
  congr 1
  rw [Nat.zero_mul]
  have : 0 < (4503599627370496 + t) * 2 ^ ((e : Int) - 1075 - min (-1074) ((e : Int) - 1075)).toNat := Nat.mul_pos (by omega) (Nat.pow_pos (by omega))
  exact Int.compare_eq_lt.mpr (by omega)
theorem cmp_p0 {e t : Nat} (e1 : 1 ≤ e) (e2 : e ≤ 2046) (ht : t < 4503599627370496) : FP.Core.order (FP.Core.decode FP.Core.b64 (nrm e t)) (FP.Core.decode FP.Core.b64 0) = some .gt := by
  rw [dec_nrm e1 e2 ht, dec_0]
  show some (compare (((4503599627370496 + t) * 2 ^ ((e : Int) - 1075 - min ((e : Int) - 1075) (-1074)).toNat : Nat) : Int) (((0 * 2 ^ ((-1074 : Int) - min ((e : Int) - 1075) (-1074)).toNat : Nat) : Int))) = _
  congr 1
  rw [Nat.zero_mul]
  have : 0 < (4503599627370496 + t) * 2 ^ ((e : Int) - 1075 - min ((e : Int) - 1075) (-1074)).toNat := Nat.mul_pos (by omega) (Nat.pow_pos (by omega))
  exact Int.compare_eq_gt.mpr (by omega)
theorem cmp_nn {x y : UInt64} {a b a' b' : Nat} (h : nnD x a b) (h' : nnD y a' b') (ha : 1 ≤ a) (hb : b ≤ 2046) (ha' : 1 ≤ a') (hb' : b' ≤ 2046) : FP.dcmp x y = some (compare x.toNat y.toNat) := by
  show FP.Core.order (FP.Core.decode FP.Core.b64 x.toNat) (FP.Core.decode FP.Core.b64 y.toNat) = _
  rcases h with rfl | ⟨e, t, h3, h4, h5, h6⟩
  · rcases h' with rfl | ⟨f, u, g3, g4, g5, g6⟩
    · decide +kernel
    · rw [g4]
      refine (cmp_0p (by omega) (by omega) g3).trans ?_
      rw [Nat.compare_eq_lt.mpr (show (0 : UInt64).toNat < nrm f u by rw [show (0 : UInt64).toNat = 0 by rfl]; unfold nrm; omega)]
  · rcases h' with rfl | ⟨f, u, g3, g4, g5, g6⟩
    · rw [h4]
      refine (cmp_p0 (by omega) (by omega) h3).trans ?_
      rw [Nat.compare_eq_gt.mpr (show (0 : UInt64).toNat < nrm e t by rw [show (0 : UInt64).toNat = 0 by rfl]; unfold nrm; omega)]
    · rw [h4, g4]
      exact cmp_pos (by omega) (by omega) (by omega) (by omega) h3 g3
/-- numbers of exponents 900 to 1200: all that pitches come to -/
def nP (x : UInt64) : Prop := nnD x 900 1200
theorem nP_of {x : UInt64} {a b : Nat} (h : nnD x a b) (ha : 900 ≤ a) (hb : b ≤ 1200) : nP x := nnD_mono h ha hb
theorem nP_num {x : UInt64} (h : nP x) : z_num x = true := nnD_num h (by omega)
theorem nP_cmp {x y : UInt64} (h : nP x) (h' : nP y) : FP.dcmp x y = some (compare x.toNat y.toNat) := cmp_nn h h' (by omega) (by omega) (by omega) (by omega)
theorem zc_lt {x y : UInt64} (op : CmpOp) (h : nP x) (h' : nP y) (g : x.toNat < y.toNat) : zf_cmp.1 op x y = -1 := by
  rw [zf_cmp.2]
  show Op.cmpValue (FP.dcmp x y) op = -1
  rw [nP_cmp h h', Nat.compare_eq_lt.mpr g]; rfl
theorem zc_gt {x y : UInt64} (op : CmpOp) (h : nP x) (h' : nP y) (g : y.toNat < x.toNat) : zf_cmp.1 op x y = 1 := by
  rw [zf_cmp.2]
  show Op.cmpValue (FP.dcmp x y) op = 1
  rw [nP_cmp h h', Nat.compare_eq_gt.mpr g]; rfl
theorem zc_eq {x : UInt64} (op : CmpOp) (h : nP x) : zf_cmp.1 op x x = 0 := by
  rw [zf_cmp.2]
  show Op.cmpValue (FP.dcmp x x) op = 0
  rw [nP_cmp h h, Nat.compare_eq_eq.mpr rfl]; rfl
theorem zc_neg (op : CmpOp) : zf_cmp.1 op 13830554455654793216 0 = -1 := by
  rw [zf_cmp.2]
  show Op.cmpValue (FP.dcmp 13830554455654793216 0) op = -1
  rw [show FP.dcmp 13830554455654793216 0 = some .lt by decide +kernel]; rfl
theorem zc_nn (op : CmpOp) : zf_cmp.1 op 13830554455654793216 13830554455654793216 = 0 := by
  rw [zf_cmp.2]
  show Op.cmpValue (FP.dcmp 13830554455654793216 13830554455654793216) op = 0
  rw [show FP.dcmp 13830554455654793216 13830554455654793216 = some .eq by decide +kernel]; rfl
theorem dec_m1 : FP.Core.decode FP.Core.b64 (13830554455654793216 : UInt64).toNat = .fin true 4503599627370496 (-52) := by decide +kernel
theorem pow_pos2 (k : Nat) : 0 < 2 ^ k := Nat.pow_pos (by omega)
theorem zc_np {x : UInt64} (op : CmpOp) (h : nP x) : zf_cmp.1 op x 13830554455654793216 = 1 := by
  rw [zf_cmp.2]
  show Op.cmpValue (FP.Core.order (FP.Core.decode FP.Core.b64 x.toNat) (FP.Core.decode FP.Core.b64 (13830554455654793216 : UInt64).toNat)) op = 1
  obtain ⟨c, q, hd⟩ := nnD_dec h (by omega) (by omega)
  rw [hd, dec_m1]
  show Op.cmpValue (some (compare ((c * 2 ^ (q - min q (-52)).toNat : Nat) : Int) (-((4503599627370496 * 2 ^ ((-52 : Int) - min q (-52)).toNat : Nat) : Int)))) op = 1
  have := pow_pos2 ((-52 : Int) - min q (-52)).toNat
  rw [Int.compare_eq_gt.mpr (by omega)]; rfl
theorem zc_mp {x : UInt64} (op : CmpOp) (h : nP x) : zf_cmp.1 op 13830554455654793216 x = -1 := by
  rw [zf_cmp.2]
  show Op.cmpValue (FP.Core.order (FP.Core.decode FP.Core.b64 (13830554455654793216 : UInt64).toNat) (FP.Core.decode FP.Core.b64 x.toNat)) op = -1
  obtain ⟨c, q, hd⟩ := nnD_dec h (by omega) (by omega)
  rw [hd, dec_m1]
  show Op.cmpValue (some (compare (-((4503599627370496 * 2 ^ ((-52 : Int) - min (-52) q).toNat : Nat) : Int)) ((c * 2 ^ (q - min (-52) q).toNat : Nat) : Int))) op = -1
  have := pow_pos2 ((-52 : Int) - min (-52) q).toNat
  rw [Int.compare_eq_lt.mpr (by omega)]; rfl
theorem nP_0 : nP 0 := Or.inl rfl
theorem zc_ge0 {x : UInt64} (op : CmpOp) (h : nP x) : z_le 0 (zf_cmp.1 op x 0) = true := by
  by_cases g : x = 0
  · subst g; rw [zc_eq op nP_0, z_le_eq]; decide
  · have : (0 : UInt64).toNat < x.toNat := by
      rcases h with h | ⟨e, t, _, h4, _, _⟩
      · exact absurd h g
      · rw [h4, show (0 : UInt64).toNat = 0 by rfl]; unfold nrm; omega
    rw [zc_gt op h nP_0 this, z_le_eq]; decide
/-- whole numbers -/
theorem zi_n {n : Nat} (h : n < 2147483648) : zf_i2d.1 (zn n) = UInt64.ofNat (iN n) := by
  rw [zf_i2d.2]
  show UInt64.ofNat (FP.Core.fromInt FP.Core.b64 (zn n).toInt) = _
  rw [zn_toInt h, fromInt_n (by omega)]
theorem zl_n {n : Nat} (h : n < 9007199254740992) : zf_l2d.1 (Int64.ofInt n) = UInt64.ofNat (iN n) := by
  rw [zf_l2d.2]
  show UInt64.ofNat (FP.Core.fromInt FP.Core.b64 (Int64.ofInt n).toInt) = _
  rw [Int64.toInt_ofInt_of_le (by omega) (by omega), fromInt_n h]
theorem toL_n {c : Nat} {q : Int} {n : Nat} (h : c * 2 ^ q.toNat / 2 ^ (-q).toNat = n) (hn : n < 9007199254740992) : FP.Core.toL (.fin false c q) = Int64.ofInt n := by
  show Int64.ofInt (max (-2 ^ 63) (min (2 ^ 63 - 1) ((c * 2 ^ q.toNat / 2 ^ (-q).toNat : Nat) : Int))) = _
  rw [h]
  congr 1
  omega
/-- down to a whole number -/
theorem zd_nn {x : UInt64} {a b : Nat} (h : nnD x a b) (ha : 1 ≤ a) (hb : b ≤ 1074) : ∃ n, n < 4503599627370496 ∧ zf_d2l.1 x = Int64.ofInt (n : Nat) := by
  rw [zf_d2l.2]
  rcases h with rfl | h
  · refine ⟨0, by omega, ?_⟩
    decide +kernel
  · obtain ⟨e, t, h3, h4, h5, h6, hd⟩ := posD_dec h ha (by omega)
    have hlt : (4503599627370496 + t) * 2 ^ ((e : Int) - 1075).toNat / 2 ^ (-((e : Int) - 1075)).toNat < 4503599627370496 := by
      rw [show ((e : Int) - 1075).toNat = 0 by omega, Nat.pow_zero, Nat.mul_one]
      refine (Nat.div_lt_iff_lt_mul (pow_pos2 _)).mpr ?_
      have : 2 ^ 1 ≤ 2 ^ (-((e : Int) - 1075)).toNat := Nat.pow_le_pow_right (by omega) (by omega)
      omega
    refine ⟨_, hlt, ?_⟩
    show FP.Core.toL (FP.Core.decode FP.Core.b64 x.toNat) = _
    rw [hd]
    exact toL_n rfl (by omega)
theorem iN_dec {n : Nat} (h0 : 0 < n) (h : n < 9007199254740992) : FP.Core.decode FP.Core.b64 (UInt64.ofNat (iN n)).toNat = .fin false (n * 2 ^ (52 - n.log2)) ((n.log2 : Int) - 52) := by
  have hl := log2_52 h0 h
  have ht := iN_tail h0 h
  unfold iN
  rw [if_neg (by omega), u64_n (nrm_lt (by omega) ht.1), dec_nrm (by omega) (by omega) ht.1, show 4503599627370496 + (n * 2 ^ (52 - n.log2) - 4503599627370496) = n * 2 ^ (52 - n.log2) by omega, show ((n.log2 + 1023 : Nat) : Int) - 1075 = (n.log2 : Int) - 52 by omega]
theorem zd_n {n : Nat} (h : n < 9007199254740992) : zf_d2l.1 (UInt64.ofNat (iN n)) = Int64.ofInt n := by
  rw [zf_d2l.2]
  by_cases g : n = 0
  · subst g; decide +kernel
  · show FP.Core.toL (FP.Core.decode FP.Core.b64 (UInt64.ofNat (iN n)).toNat) = _
    have hl := log2_52 (show 0 < n by omega) h
    rw [iN_dec (by omega) h]
    refine toL_n ?_ h
    rw [show ((n.log2 : Int) - 52).toNat = 0 by omega, show (-((n.log2 : Int) - 52)).toNat = 52 - n.log2 by omega, Nat.pow_zero, Nat.mul_one, Nat.mul_div_cancel _ (pow_pos2 _)]
/-- and one more -/
theorem za_1 {n : Nat} (h : n + 1 < 9007199254740992) : zf_add.1 (UInt64.ofNat (iN n)) 4607182418800017408 = UInt64.ofNat (iN (n + 1)) := by
  rw [zf_add.2]
  by_cases g : n = 0
  · subst g; decide +kernel
  · show UInt64.ofNat (FP.Core.encode FP.Core.b64 (FP.Core.round FP.Core.b64 (FP.Core.exactSum (FP.Core.decode FP.Core.b64 (UInt64.ofNat (iN n)).toNat) (FP.Core.decode FP.Core.b64 (4607182418800017408 : UInt64).toNat)))) = _
    have hl := log2_52 (show 0 < n by omega) (show n < 9007199254740992 by omega)
    rw [iN_dec (by omega) (by omega), show FP.Core.decode FP.Core.b64 (4607182418800017408 : UInt64).toNat = .fin false 4503599627370496 (-52) by decide +kernel]
    show UInt64.ofNat (FP.Core.encode FP.Core.b64 (FP.Core.roundRatio FP.Core.b64 (FP.Core.sumSign false false (FP.Core.sumUnits false (n * 2 ^ (52 - n.log2)) ((n.log2 : Int) - 52) false 4503599627370496 (-52) (min ((n.log2 : Int) - 52) (-52)))) (FP.Core.sumUnits false (n * 2 ^ (52 - n.log2)) ((n.log2 : Int) - 52) false 4503599627370496 (-52) (min ((n.log2 : Int) - 52) (-52))).natAbs 1 (min ((n.log2 : Int) - 52) (-52)))) = _
    have e1 : FP.Core.sumUnits false (n * 2 ^ (52 - n.log2)) ((n.log2 : Int) - 52) false 4503599627370496 (-52) (min ((n.log2 : Int) - 52) (-52)) = (((n + 1) * 2 ^ 52 : Nat) : Int) := by
      show ((n * 2 ^ (52 - n.log2) * 2 ^ ((n.log2 : Int) - 52 - min ((n.log2 : Int) - 52) (-52)).toNat : Nat) : Int) + ((4503599627370496 * 2 ^ ((-52 : Int) - min ((n.log2 : Int) - 52) (-52)).toNat : Nat) : Int) = _
      rw [show ((n.log2 : Int) - 52 - min ((n.log2 : Int) - 52) (-52)).toNat = n.log2 by omega, show ((-52 : Int) - min ((n.log2 : Int) - 52) (-52)).toNat = 0 by omega, Nat.mul_assoc, Nat.mul_comm (2 ^ (52 - n.log2)), pow_le52 _ hl]
      omega
    have e2 : FP.Core.sumSign false false (((n + 1) * 2 ^ 52 : Nat) : Int) = false := by
      unfold FP.Core.sumSign
      rw [if_neg (by omega)]
      exact decide_eq_false (by omega)
    rw [e1, e2, Int.natAbs_natCast, show min ((n.log2 : Int) - 52) (-52) = -((52 : Nat) : Int) by omega]
    refine congrArg UInt64.ofNat ?_
    unfold iN
    rw [if_neg (by omega)]
    exact rr_exact (by omega) rfl (log2_52 (by omega) h) 52 (by omega)
