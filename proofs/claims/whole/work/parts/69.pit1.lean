/-! S LEVEL: pitches of the plain kinds. -/
noncomputable def zbp (c k : Nat) (M : zM) : zM := z_wI M c k (zI M c k + zn 1)
noncomputable def zbs (c : Nat) (l : List Nat) (M : zM) : zM := l.foldl (fun M k => zbp c k M) M
theorem zbs_nil (c : Nat) (M : zM) : zbs c [] M = M := rfl
theorem zbs_cons (c k : Nat) (l : List Nat) (M : zM) : zbs c (k :: l) M = zbs c l (zbp c k M) := rfl
theorem zbs_app (c : Nat) (l l' : List Nat) (M : zM) : zbs c (l ++ l') M = zbs c l' (zbs c l M) := by unfold zbs; exact List.foldl_append
theorem zbp_hd (c k a : Nat) (M : zM) : z_hd zQ (zbp c k M) a = z_hd zQ M a := rfl
theorem zbp_P (c k a j : Nat) (M : zM) : zP zQ (zbp c k M) a j = zP zQ M a j := zP_wI ..
theorem zbp_D (c k a j : Nat) (M : zM) : zD (zbp c k M) a j = zD M a j := zD_wI ..
theorem zbp_I {c k a j : Nat} {M : zM} (h : a ≠ c) : zI (zbp c k M) a j = zI M a j := zI_wI_a h
theorem zbs_hd (c : Nat) (a : Nat) : ∀ (l : List Nat) (M : zM), z_hd zQ (zbs c l M) a = z_hd zQ M a
  | [], _ => rfl
  | k :: l, M => by rw [zbs_cons, zbs_hd c a l]; rfl
theorem zbs_P (c a j : Nat) : ∀ (l : List Nat) (M : zM), zP zQ (zbs c l M) a j = zP zQ M a j
  | [], _ => rfl
  | k :: l, M => by rw [zbs_cons, zbs_P c a j l, zbp_P]
theorem zbs_D (c a j : Nat) : ∀ (l : List Nat) (M : zM), zD (zbs c l M) a j = zD M a j
  | [], _ => rfl
  | k :: l, M => by rw [zbs_cons, zbs_D c a j l, zbp_D]
theorem zbs_I {c a j : Nat} (h : a ≠ c) : ∀ (l : List Nat) (M : zM), zI (zbs c l M) a j = zI M a j
  | [], _ => rfl
  | k :: l, M => by rw [zbs_cons, zbs_I h l, zbp_I h]
theorem zbs_fr (c : Nat) : ∀ (l : List Nat) (M : zM), zFr 0 0 (fun a _ => a = c) M (zbs c l M)
  | [], M => zFr_refl _ _
  | k :: l, M => by
    have h1 : zFr 0 0 (fun a _ => a = c) M (zbp c k M) := zFr_wI (X := fun a _ => a = c) rfl
    exact zFr_trans h1 (zbs_fr c l (zbp c k M)) (fun _ _ _ h => h)
/-- the same bumps in two rows -/
theorem zbs_two {c c' : Nat} : ∀ (l : List Nat) (M M' : zM), (∀ j, j < 17 → zI M c j = zI M' c' j) → ∀ j, j < 17 → zI (zbs c l M) c j = zI (zbs c' l M') c' j
  | [], _, _, h => h
  | k :: l, M, M', h => by
    rw [zbs_cons, zbs_cons]
    refine zbs_two l _ _ (fun j hj => ?_)
    unfold zbp
    by_cases g : j = k
    · subst g; rw [zI_wI_s, zI_wI_s, h j hj]
    · rw [zI_wI_k g, zI_wI_k g, h j hj]
noncomputable def dN (x : UInt64) : Nat := (zf_d2l.1 x).toInt.toNat
theorem dN_eq {x : UInt64} {n : Nat} (hn : n < 9007199254740992) (h : zf_d2l.1 x = Int64.ofInt (n : Int)) : dN x = n := by unfold dN; rw [h, l64 hn]; omega
theorem dN_ok {x : UInt64} {a b : Nat} (h : nnD x a b) (ha : 1 ≤ a) (hb : b ≤ 1074) : zf_d2l.1 x = Int64.ofInt (dN x : Int) ∧ dN x < 4503599627370496 := by
  obtain ⟨n, hn, e⟩ := zd_nn h ha hb
  rw [dN_eq (by omega) e]; exact ⟨e, hn⟩
/-- what a plain kind makes of base times ratio -/
noncomputable def ptF (s : Nat) (x : UInt64) : UInt64 :=
  if s = 0 then x
  else if s = 1 then zf_div.1 x 4611686018427387904
  else if s = 2 then zf_div.1 (UInt64.ofNat (iN (dN (zf_mul.1 (zf_div.1 x 4611686018427387904) 4616189618054758400)))) 4616189618054758400
  else if s = 4 then zf_div.1 (UInt64.ofNat (iN (nrD (zf_mul.1 x 4620693217682128896) (dN (zf_mul.1 x 4620693217682128896))))) 4620693217682128896
  else zf_add.1 (UInt64.ofNat (iN (dN (zf_div.1 (UInt64.ofNat (iN (nrD (zf_mul.1 x 4620693217682128896) (dN (zf_mul.1 x 4620693217682128896))))) 4620693217682128896)))) 4598175219545276416
def bkF (s : Nat) : List Nat := if s = 0 then [8] else if s = 1 then [9, 8] else if s = 2 then [10, 9, 8] else if s = 4 then [11] else [12, 11]
theorem c_2 : posD 4611686018427387904 1024 1024 := ⟨1024, 0, by omega, by decide, by omega, by omega⟩
theorem c_4 : posD 4616189618054758400 1025 1025 := ⟨1025, 0, by omega, by decide, by omega, by omega⟩
theorem c_8 : posD 4620693217682128896 1026 1026 := ⟨1026, 0, by omega, by decide, by omega, by omega⟩
theorem c_16 : posD 4625196817309499392 1027 1027 := ⟨1027, 0, by omega, by decide, by omega, by omega⟩
def xR (x : UInt64) : Prop := nnD x 1008 1046
theorem zm_nn {x y : UInt64} {a b a' b' : Nat} (h : nnD x a b) (h' : nnD y a' b') (ha : 1 ≤ a) (hb : b ≤ 2046) (ha' : 1 ≤ a') (hb' : b' ≤ 2046) (l1 : 1100 ≤ a + a') (l2 : b + b' ≤ 2900) : nnD (zf_mul.1 x y) (a + a' - 1023) (b + b' - 1021) := by rw [zf_mul.2]; exact mul_nn h h' ha hb ha' hb' l1 l2
theorem zv_nn {x y : UInt64} {a b a' b' : Nat} (h : nnD x a b) (h' : posD y a' b') (ha : 1 ≤ a) (hb : b ≤ 2046) (ha' : 1 ≤ a') (hb' : b' ≤ 2046) (l1 : b' ≤ a + 900) (l2 : b ≤ a' + 800) : nnD (zf_div.1 x y) (a + 1022 - b') (b + 1024 - a') := by rw [zf_div.2]; exact div_nn h h' ha hb ha' hb' l1 l2
theorem x_h {x : UInt64} (h : xR x) : nnD (zf_div.1 x 4611686018427387904) 1006 1046 := nnD_mono (zv_nn h c_2 (by omega) (by omega) (by omega) (by omega) (by omega) (by omega)) (by omega) (by omega)
theorem x_h4 {x : UInt64} (h : xR x) : nnD (zf_mul.1 (zf_div.1 x 4611686018427387904) 4616189618054758400) 1008 1050 := nnD_mono (zm_nn (x_h h) (Or.inr c_4) (by omega) (by omega) (by omega) (by omega) (by omega) (by omega)) (by omega) (by omega)
theorem x_8 {x : UInt64} (h : xR x) : nnD (zf_mul.1 x 4620693217682128896) 1011 1051 := nnD_mono (zm_nn h (Or.inr c_8) (by omega) (by omega) (by omega) (by omega) (by omega) (by omega)) (by omega) (by omega)
theorem i_4 {n : Nat} (h : n < 9007199254740992) : nnD (zf_div.1 (UInt64.ofNat (iN n)) 4616189618054758400) 1020 1074 := nnD_mono (zv_nn (iN_nn h) c_4 (by omega) (by omega) (by omega) (by omega) (by omega) (by omega)) (by omega) (by omega)
theorem i_8 {n : Nat} (h : n < 9007199254740992) : nnD (zf_div.1 (UInt64.ofNat (iN n)) 4620693217682128896) 1019 1073 := nnD_mono (zv_nn (iN_nn h) c_8 (by omega) (by omega) (by omega) (by omega) (by omega) (by omega)) (by omega) (by omega)
theorem nr_lt {x : UInt64} (h : xR x) : nrD (zf_mul.1 x 4620693217682128896) (dN (zf_mul.1 x 4620693217682128896)) < 9007199254740992 := by
  have := (dN_ok (x_8 h) (by omega) (by omega)).2
  have := nrF_le (dN (zf_mul.1 x 4620693217682128896)) (zf_cmp.1 .l (zf_sub.1 (zf_mul.1 x 4620693217682128896) (UInt64.ofNat (iN (dN (zf_mul.1 x 4620693217682128896))))) 4602678819172646912)
  unfold nrD; omega
theorem pt_nP {x : UInt64} (h : xR x) (s : Nat) : nP (ptF s x) := by
  unfold ptF
  by_cases g0 : s = 0
  · rw [if_pos g0]; exact nP_of h (by omega) (by omega)
  rw [if_neg g0]
  by_cases g1 : s = 1
  · rw [if_pos g1]; exact nP_of (x_h h) (by omega) (by omega)
  rw [if_neg g1]
  by_cases g2 : s = 2
  · rw [if_pos g2]
    have := (dN_ok (x_h4 h) (by omega) (by omega)).2
    exact nP_of (i_4 (by omega)) (by omega) (by omega)
  rw [if_neg g2]
  by_cases g4 : s = 4
  · rw [if_pos g4]; exact nP_of (i_8 (nr_lt h)) (by omega) (by omega)
  rw [if_neg g4]
  exact za_q (dN_ok (i_8 (nr_lt h)) (by omega) (by omega)).2
