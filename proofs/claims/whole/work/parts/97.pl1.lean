/-! S LEVEL, PLAYING: the state of it; the class's rows 10, 11, 13 as functions. -/
def up (f : Nat → Int32) (k : Nat) (v : Int32) : Nat → Int32 := fun j => if j = k then v else f j
theorem up_s (f : Nat → Int32) (k : Nat) (v : Int32) : up f k v k = v := if_pos rfl
theorem up_o {f : Nat → Int32} {k j : Nat} {v : Int32} (h : j ≠ k) : up f k v j = f j := if_neg h
abbrev yR := (Nat → Int32) × (Nat → Int32) × (Nat → Int32)
abbrev yL := List (Nat × Nat × Nat)
def yG (S : yR) : Nat → Int32 := S.1
def yE (S : yR) : Nat → Int32 := S.2.1
def yT (S : yR) : Nat → Int32 := S.2.2
def uG (S : yR) (k : Nat) (v : Int32) : yR := (up S.1 k v, S.2.1, S.2.2)
def uE (S : yR) (k : Nat) (v : Int32) : yR := (S.1, up S.2.1 k v, S.2.2)
def uT (S : yR) (k : Nat) : yR := (S.1, S.2.1, up S.2.2 k (S.2.2 k + 1))
theorem yG_uG (S : yR) (k : Nat) (v : Int32) : yG (uG S k v) = up (yG S) k v := rfl
theorem yG_uE (S : yR) (k : Nat) (v : Int32) : yG (uE S k v) = yG S := rfl
theorem yG_uT (S : yR) (k : Nat) : yG (uT S k) = yG S := rfl
theorem yE_uG (S : yR) (k : Nat) (v : Int32) : yE (uG S k v) = yE S := rfl
theorem yE_uE (S : yR) (k : Nat) (v : Int32) : yE (uE S k v) = up (yE S) k v := rfl
theorem yE_uT (S : yR) (k : Nat) : yE (uT S k) = yE S := rfl
theorem yT_uG (S : yR) (k : Nat) (v : Int32) : yT (uG S k v) = yT S := rfl
theorem yT_uE (S : yR) (k : Nat) (v : Int32) : yT (uE S k v) = yT S := rfl
theorem yT_uT (S : yR) (k : Nat) : yT (uT S k) = up (yT S) k (yT S k + 1) := rfl
def yC (A : zM) (f : Nat → Int32) (S : yR) : zM := z_uI (z_uI (z_uI A 11 f) 13 (yE S)) 10 (yT S)
theorem yC_11 (A : zM) (f : Nat → Int32) (S : yR) (k : Nat) : zI (yC A f S) 11 k = f k := by unfold yC; rw [zI_uI_a (by omega), zI_uI_a (by omega), zI_uI_s]
theorem yC_13 (A : zM) (f : Nat → Int32) (S : yR) (k : Nat) : zI (yC A f S) 13 k = yE S k := by unfold yC; rw [zI_uI_a (by omega), zI_uI_s]
theorem yC_10 (A : zM) (f : Nat → Int32) (S : yR) (k : Nat) : zI (yC A f S) 10 k = yT S k := by unfold yC; rw [zI_uI_s]
theorem yC_o {A : zM} {f : Nat → Int32} {S : yR} {a k : Nat} (h1 : a ≠ 10) (h2 : a ≠ 11) (h3 : a ≠ 13) : zI (yC A f S) a k = zI A a k := by unfold yC; rw [zI_uI_a h1, zI_uI_a h3, zI_uI_a h2]
theorem yC_P (A : zM) (f : Nat → Int32) (S : yR) (a k : Nat) : zP zQ (yC A f S) a k = zP zQ A a k := rfl
theorem yC_D (A : zM) (f : Nat → Int32) (S : yR) (a k : Nat) : zD (yC A f S) a k = zD A a k := rfl
theorem yC_hd (A : zM) (f : Nat → Int32) (S : yR) (a : Nat) : z_hd zQ (yC A f S) a = z_hd zQ A a := rfl
theorem yC_new (A : zM) (f : Nat → Int32) (S : yR) : z_new zQ (yC A f S) = z_new zQ A := rfl
theorem z_uI_cm {M : zM} {a b : Nat} {f g : Nat → Int32} (h : a ≠ b) : z_uI (z_uI M a f) b g = z_uI (z_uI M b g) a f := by
  unfold z_uI
  refine Prod.ext rfl (Prod.ext ?_ rfl)
  funext a' k
  show (if a' = b then g k else if a' = a then f k else M.2.1 a' k) = (if a' = a then f k else if a' = b then g k else M.2.1 a' k)
  by_cases e1 : a' = b
  · rw [if_pos e1, if_neg (by omega), if_pos e1]
  · rw [if_neg e1, if_neg e1]
theorem z_wI_up (M : zM) (a k : Nat) (v : Int32) : z_wI M a k v = z_uI M a (up (fun j => zI M a j) k v) := z_wI_uI M a k v
theorem yC_w11 (A : zM) (f : Nat → Int32) (S : yR) (k : Nat) (v : Int32) : z_wI (yC A f S) 11 k v = yC A (up f k v) S := by
  rw [z_wI_up, show (fun j => zI (yC A f S) 11 j) = f from funext (fun j => yC_11 A f S j)]
  unfold yC
  rw [z_uI_cm (a := 10) (b := 11) (by omega), z_uI_cm (a := 13) (b := 11) (by omega), z_uI_uI]
theorem yC_w13 (A : zM) (f : Nat → Int32) (S : yR) (k : Nat) (v : Int32) : z_wI (yC A f S) 13 k v = yC A f (uE S k v) := by
  rw [z_wI_up, show (fun j => zI (yC A f S) 13 j) = yE S from funext (fun j => yC_13 A f S j)]
  unfold yC
  rw [z_uI_cm (a := 10) (b := 13) (by omega), z_uI_uI, yE_uE, yT_uE]
theorem yC_w10 (A : zM) (f : Nat → Int32) (S : yR) (k : Nat) : z_wI (yC A f S) 10 k (yT S k + 1) = yC A f (uT S k) := by
  rw [z_wI_up, show (fun j => zI (yC A f S) 10 j) = yT S from funext (fun j => yC_10 A f S j)]
  unfold yC
  rw [z_uI_uI, yE_uT, yT_uT]
theorem yC_G (A : zM) (f : Nat → Int32) (S : yR) (k : Nat) (v : Int32) : yC A f (uG S k v) = yC A f S := rfl
theorem yC_fr (A : zM) (f : Nat → Int32) (S : yR) : zFr 0 0 (fun a _ => a = 10 ∨ a = 11 ∨ a = 13) A (yC A f S) :=
  zFr_trans (zFr_trans (zFr_uI (X := fun a _ => a = 10 ∨ a = 11 ∨ a = 13) (fun _ => Or.inr (Or.inl rfl))) (zFr_uI (X := fun a _ => a = 10 ∨ a = 11 ∨ a = 13) (fun _ => Or.inr (Or.inr rfl))) (fun _ _ _ e => e)) (zFr_uI (X := fun a _ => a = 10 ∨ a = 11 ∨ a = 13) (fun _ => Or.inl rfl)) (fun _ _ _ e => e)
theorem yC_self (A : zM) (g : Nat → Int32) : yC A (fun k => zI A 11 k) (g, fun k => zI A 13 k, fun k => zI A 10 k) = A := by
  show z_uI (z_uI (z_uI A 11 (fun k => zI A 11 k)) 13 (fun k => zI A 13 k)) 10 (fun k => zI A 10 k) = A
  rw [z_uI_id, z_uI_id, z_uI_id]
/-! those that sound: instrument, track, since when -/
def s0 : Nat × Nat × Nat := (0, 0, 0)
noncomputable def enS (s : Nat × Nat × Nat) : Int32 := zn (s.2.2 * 512 + s.2.1 * 64 + s.1)
def okS (n : Nat) (s : Nat × Nat × Nat) : Prop := s.1 < n ∧ s.2.1 < 8 ∧ s.2.2 ≤ 20000
theorem en_i {n : Nat} {s : Nat × Nat × Nat} (h : okS n s) (hn : n ≤ 60) : enS s &&& 63 = zn s.1 := by
  obtain ⟨h1, h2, h3⟩ := h
  unfold enS
  rw [nL_63, zn_and _ _ (by omega) (by omega), show (63 : Nat) = 2 ^ 6 - 1 from rfl, Nat.and_two_pow_sub_one_eq_mod]
  congr 1; omega
theorem en_t {n : Nat} {s : Nat × Nat × Nat} (h : okS n s) (hn : n ≤ 60) : (enS s >>> ((6 : Int32) &&& 31)) &&& 7 = zn s.2.1 := by
  obtain ⟨h1, h2, h3⟩ := h
  unfold enS
  rw [nL_6, nL_31, z_a31 (by omega), zn_shr (by omega) (by omega), nL_7, zn_and _ _ (by omega) (by omega), show (7 : Nat) = 2 ^ 3 - 1 from rfl, Nat.and_two_pow_sub_one_eq_mod]
  congr 1; omega
theorem en_s {n : Nat} {s : Nat × Nat × Nat} (h : okS n s) (hn : n ≤ 60) : enS s >>> ((9 : Int32) &&& 31) = zn s.2.2 := by
  obtain ⟨h1, h2, h3⟩ := h
  unfold enS
  rw [nL_9, nL_31, z_a31 (by omega), zn_shr (by omega) (by omega)]
  congr 1; omega
def cY (g : Nat → Int32) (l : yL) (f : Nat → Int32) : Prop := (∀ j, j < 203 → j ≠ 14 → f j = g j) ∧ f 14 = zn l.length ∧ ∀ k, k < l.length → f (203 + k) = enS (l.getD k s0)
def okL (n : Nat) (l : yL) : Prop := n ≤ 60 ∧ l.length ≤ 320 ∧ ∀ s, s ∈ l → okS n s
theorem getD_mem {l : yL} {k : Nat} (h : k < l.length) : l.getD k s0 ∈ l := by
  rw [List.getD_eq_getElem?_getD, List.getElem?_eq_getElem h]
  exact List.getElem_mem h
theorem ok_at {n : Nat} {l : yL} (h : okL n l) {k : Nat} (hk : k < l.length) : okS n (l.getD k s0) := h.2.2 _ (getD_mem hk)
theorem cY_up {g : Nat → Int32} {l : yL} {f : Nat → Int32} (h : cY g l f) {k : Nat} (hk : k < 203) (h14 : k ≠ 14) (v : Int32) : cY (up g k v) l (up f k v) := by
  obtain ⟨h1, h2, h3⟩ := h
  refine ⟨fun j a b => ?_, by rw [up_o (by omega)]; exact h2, fun j a => by rw [up_o (by omega)]; exact h3 j a⟩
  by_cases e : j = k
  · subst e; rw [up_s, up_s]
  · rw [up_o e, up_o e]; exact h1 j a b
/-! log -/
def evN (S : yR) : Nat := (yG S 13).toNatClampNeg
noncomputable def lgF (S : yR) (a b c : Int32) : yR := uG (if evN S < 1500 then uE (uE (uE (uE S (4 * evN S) a) (4 * evN S + 1) (yG S 3)) (4 * evN S + 2) b) (4 * evN S + 3) c else S) 13 (yG S 13 + 1)
theorem lg_G (S : yR) (a b c : Int32) : yG (lgF S a b c) = up (yG S) 13 (yG S 13 + 1) := by
  unfold lgF
  rw [yG_uG]
  split <;> rfl
theorem lg_T (S : yR) (a b c : Int32) : yT (lgF S a b c) = yT S := by
  unfold lgF
  rw [yT_uG]
  split <;> rfl
def evB (S : yR) (b : Nat) : Prop := 0 ≤ (yG S 13).toInt ∧ evN S ≤ b
theorem evB_zn {S : yR} {b : Nat} (h : evB S b) : yG S 13 = zn (evN S) := (zn_of h.1).symm
theorem evB_up {S S' : yR} {b : Nat} (h : evB S b) (hb : b < 2147483646) (e : yG S' 13 = yG S 13 + 1) : evB S' (b + 1) := by
  have h2 := h.2
  have e' : yG S' 13 = zn (evN S + 1) := by rw [e, evB_zn h, zn_1]
  unfold evB
  unfold evN at *
  rw [e', zn_toInt (by omega), zn_N (by omega)]
  omega
theorem evB_mo {S : yR} {b b' : Nat} (h : evB S b) (hb : b ≤ b') : evB S b' := ⟨h.1, Nat.le_trans h.2 hb⟩
theorem c_log (d : Nat) {A : zM} {S : yR} {l : yL} {f : Nat → Int32} {b : Nat} (h : cY (yG S) l f) (he : evB S b) (hb : b < 2147483646) (x y z : Int32) : ∃ f', z_den zQ (d + 1) mO_log [.ref 3, .int x, .int y, .int z] (yC A f S) = some (none, yC A f' (lgF S x y z)) ∧ cY (yG (lgF S x y z)) l f' := by
  have e13 : f 13 = zn (evN S) := by rw [h.1 13 (by omega) (by omega)]; exact evB_zn he
  have e3 : f 3 = yG S 3 := h.1 3 (by omega) (by omega)
  have hN := he.2
  have hm : evN S < 2147483648 := by omega
  refine ⟨up f 13 (yG S 13 + 1), ?_, by rw [lg_G]; exact cY_up h (by omega) (by omega) _⟩
  have z13 : z_ix (13 : Int32) 523 = true := by rw [nL_13]; exact z_ix_T (by omega) (by omega)
  have z3 : z_ix (3 : Int32) 523 = true := by rw [nL_3]; exact z_ix_T (by omega) (by omega)
  have n13 : Int32.toNatClampNeg (13 : Int32) = 13 := by rw [nL_13]; exact zn_N (by omega)
  have n3 : Int32.toNatClampNeg (3 : Int32) = 3 := by rw [nL_3]; exact zn_N (by omega)
  rw [B_O_log, z13, z3, n13, n3, yC_11, yC_11, e13]
  unfold lgF
  rw [evB_zn he]
  by_cases g : evN S < 1500
  · rw [if_pos g]
    have z4 : (4 : Int32) = zn 4 := nL_4
    have z2 : (2 : Int32) = zn 2 := nL_2
    simp (disch := omega) only [cond_true, z_lt_F, nL_0, show (1500 : Int32) = zn 1500 from (zn_eq 1500).symm, z_le_F, cond_false, z4, zn_mul, nL_1, z2, nL_3, zn_add, z_ix_T, zn_N, yC_w13, yC_w11, yC_G, e3, z13]
  · rw [if_neg g]
    simp (disch := omega) only [cond_true, z_lt_F, nL_0, show (1500 : Int32) = zn 1500 from (zn_eq 1500).symm, z_le_T, cond_false, yC_w11, yC_G, z13]
