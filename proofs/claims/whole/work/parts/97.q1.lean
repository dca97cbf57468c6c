/-! S LEVEL, PLAYING: bits, and how many sound on a track. -/
def btF (x : Int32) (t : Nat) : Bool := x.toBitVec.getLsbD t
theorem bt_zn {n t : Nat} (h : t < 32) : btF (zn n) t = n.testBit t := by
  unfold btF
  rw [zn_bv, BitVec.getLsbD_ofNat, decide_eq_true h, Bool.true_and]
theorem bt_1 {t u : Nat} (ht : t < 32) (hu : u < 32) : btF ((1 : Int32) <<< (zn t &&& 31)) u = decide (u = t) := by
  rw [nL_31, z_a31 ht, nL_1, zn_shl ht, bt_zn hu, Nat.one_mul, Nat.testBit_two_pow]
  by_cases g : u = t
  · rw [decide_eq_true g, decide_eq_true g.symm]
  · rw [decide_eq_false g, decide_eq_false (fun q => g q.symm)]
theorem bt_xor (x y : Int32) (t : Nat) : btF (x ^^^ y) t = (btF x t ^^ btF y t) := by
  unfold btF; rw [Int32.toBitVec_xor, BitVec.getLsbD_xor]
theorem bt_or (x y : Int32) (t : Nat) : btF (x ||| y) t = (btF x t || btF y t) := by
  unfold btF; rw [Int32.toBitVec_or, BitVec.getLsbD_or]
theorem bt_and (x y : Int32) (t : Nat) : btF (x &&& y) t = (btF x t && btF y t) := by
  unfold btF; rw [Int32.toBitVec_and, BitVec.getLsbD_and]
theorem bt_m1 {t : Nat} (h : t < 32) : btF (-1) t = true := by
  have : ∀ t, t < 32 → btF (-1) t = true := by decide +kernel
  exact this t h
theorem bt_ext {x y : Int32} (h : ∀ t, t < 32 → btF x t = btF y t) : x = y := by
  apply Int32.toBitVec_inj.mp
  exact BitVec.eq_of_getLsbD_eq (fun i hi => h i hi)
theorem bt_bI (b : Bool) {t : Nat} (h : t < 32) : btF (bI b) t = (b && decide (t = 0)) := by
  cases b
  · rw [bI_F, bt_zn h, Nat.zero_testBit]; rfl
  · rw [bI_T, bt_zn h, show (1 : Nat) = 2 ^ 0 from rfl, Nat.testBit_two_pow, Bool.true_and]
    by_cases g : t = 0
    · rw [decide_eq_true g, decide_eq_true g.symm]
    · rw [decide_eq_false g, decide_eq_false (fun q => g q.symm)]
theorem sh_bit (x : Int32) {t : Nat} (h : t < 32) : (x >>> (zn t &&& 31)) &&& 1 = bI (btF x t) := by
  apply bt_ext
  intro u hu
  rw [bt_and, bt_bI _ hu, nL_31, z_a31 h, nL_1, bt_zn hu, show (1 : Nat) = 2 ^ 0 from rfl, Nat.testBit_two_pow]
  by_cases g : u = 0
  · subst g
    rw [decide_eq_true rfl, Bool.and_true, Bool.and_true]
    unfold btF
    rw [Int32.toBitVec_shiftRight, zn_smod h, BitVec.sshiftRight', BitVec.getLsbD_sshiftRight]
    simp [Nat.mod_eq_of_lt (show t < 2 ^ 32 by omega), h]
  · rw [decide_eq_false g, decide_eq_false (fun q => g q.symm), Bool.and_false, Bool.and_false]
def ctF (t : Nat) (l : yL) : Nat := (l.filter (fun s => decide (s.2.1 = t))).length
def smC (l : yL) : Nat → Nat
  | 0 => 0
  | n + 1 => smC l n + ctF n l
theorem ct_c (t : Nat) (s : Nat × Nat × Nat) (l : yL) : ctF t (s :: l) = ctF t l + if s.2.1 = t then 1 else 0 := by
  unfold ctF
  by_cases g : s.2.1 = t
  · rw [List.filter_cons_of_pos (p := fun s : Nat × Nat × Nat => decide (s.2.1 = t)) (decide_eq_true g), if_pos g]; rfl
  · rw [List.filter_cons_of_neg (p := fun s : Nat × Nat × Nat => decide (s.2.1 = t)) (by rw [decide_eq_false g]; decide), if_neg g]; rfl
theorem smC_c (s : Nat × Nat × Nat) (l : yL) : ∀ n, smC (s :: l) n = smC l n + if s.2.1 < n then 1 else 0
  | 0 => by rw [if_neg (by omega)]; rfl
  | n + 1 => by
    show smC (s :: l) n + ctF n (s :: l) = smC l n + ctF n l + _
    rw [smC_c s l n, ct_c]
    by_cases g : s.2.1 < n
    · rw [if_pos g, if_neg (by omega), if_pos (by omega)]; omega
    · by_cases e : s.2.1 = n
      · rw [if_neg g, if_pos e, if_pos (by omega)]; omega
      · rw [if_neg g, if_neg e, if_neg (by omega)]; omega
theorem smC_len : ∀ (l : yL), (∀ s, s ∈ l → s.2.1 < 8) → smC l 8 = l.length
  | [], _ => rfl
  | s :: l, h => by
    rw [smC_c, smC_len l (fun q hq => h q (List.mem_cons_of_mem _ hq)), if_pos (h s List.mem_cons_self)]; rfl
theorem smC_le {l : yL} {t : Nat} (h : ∀ u, u < 8 → ctF u l ≤ 40) (h0 : ctF t l = 0) (ht : t < 8) : smC l 8 ≤ 280 := by
  have h' := h
  show 0 + ctF 0 l + ctF 1 l + ctF 2 l + ctF 3 l + ctF 4 l + ctF 5 l + ctF 6 l + ctF 7 l ≤ 280
  have a0 := h 0 (by omega); have a1 := h 1 (by omega); have a2 := h 2 (by omega); have a3 := h 3 (by omega)
  have a4 := h 4 (by omega); have a5 := h 5 (by omega); have a6 := h 6 (by omega); have a7 := h 7 (by omega)
  have ht' : t = 0 ∨ t = 1 ∨ t = 2 ∨ t = 3 ∨ t = 4 ∨ t = 5 ∨ t = 6 ∨ t = 7 := by omega
  rcases ht' with e | e | e | e | e | e | e | e <;> (subst e; omega)
theorem ct_app (t : Nat) (l m : yL) : ctF t (l ++ m) = ctF t l + ctF t m := by unfold ctF; rw [List.filter_append, List.length_append]
theorem ct_le (t : Nat) (l : yL) : ctF t l ≤ l.length := List.length_filter_le _ _
theorem ct_no {t : Nat} {l : yL} (h : ∀ s, s ∈ l → s.2.1 ≠ t) : ctF t l = 0 := by
  unfold ctF
  rw [List.filter_eq_nil_iff.mpr (fun s hs => by rw [decide_eq_false (h s hs)]; decide)]; rfl
theorem ct_ft (t u : Nat) (l : yL) : ctF u (ftF t l) = if u = t then 0 else ctF u l := by
  unfold ctF ftF
  rw [List.filter_filter]
  by_cases g : u = t
  · rw [if_pos g, List.filter_eq_nil_iff.mpr (fun s _ => ?_)]
    · rfl
    · by_cases e : s.2.1 = t
      · rw [decide_eq_false (p := s.2.1 ≠ t) (fun q => q e), Bool.and_false]; decide
      · rw [decide_eq_false (p := s.2.1 = u) (fun q => e (by omega)), Bool.false_and]; decide
  · rw [if_neg g]
    congr 1
    refine List.filter_congr (fun s _ => ?_)
    by_cases e : s.2.1 = u
    · rw [decide_eq_true e, decide_eq_true (p := s.2.1 ≠ t) (by omega)]; rfl
    · rw [decide_eq_false e]; rfl
/-- what always holds of those that sound -/
def iv (n : Nat) (S : yR) (l : yL) : Prop := okL n l ∧ (∀ t, t < 8 → ctF t l ≤ 40 ∧ (btF (yG S 7) t = false → ctF t l = 0)) ∧ (∀ c, 16 ≤ c → c < 32 → btF (yG S 8) c = false) ∧ ∃ go, yG S 3 = zn go ∧ go ≤ 20000
theorem iv_len {n : Nat} {S : yR} {l : yL} (h : iv n S l) {t : Nat} (ht : t < 8) (g : btF (yG S 7) t = false) : l.length ≤ 280 := by
  have := smC_le (fun u hu => (h.2.1 u hu).1) ((h.2.1 t ht).2 g) ht
  rw [smC_len l (fun s hs => (h.1.2.2 s hs).2.1)] at this
  exact this
