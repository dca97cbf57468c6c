/-! a heap that holds a memory, changed at one place -/
theorem zq_z_at_lt : ∀ (T : List (Nat × Nat)) (n : Nat) (h : Nat × Nat), z_at T n = some h → n < T.length
  | [], _, _, e => by cases e
  | _ :: _, 0, _, _ => by simp
  | _ :: r, n + 1, h, e => by have := zq_z_at_lt r n h e; simp; omega
theorem z_at_app : ∀ (T : List (Nat × Nat)) (h : Nat × Nat) (n : Nat), n < T.length → z_at (T ++ [h]) n = z_at T n
  | [], _, _, e => by simp at e
  | _ :: _, _, 0, _ => rfl
  | _ :: r, h, n + 1, e => z_at_app r h n (by simp at e; omega)
theorem z_at_new : ∀ (T : List (Nat × Nat)) (h : Nat × Nat), z_at (T ++ [h]) T.length = some h
  | [], _ => rfl
  | _ :: r, h => z_at_new r h
theorem zq_z_at_ge : ∀ (T : List (Nat × Nat)) (n : Nat), T.length ≤ n → z_at T n = none
  | [], _, _ => rfl
  | _ :: _, 0, e => by simp at e
  | _ :: r, n + 1, e => zq_z_at_ge r n (by simp at e; omega)
theorem z_blt_eq (a b : Nat) : Nat.blt a b = decide (a < b) := by
  by_cases h : a < b
  · rw [decide_eq_true h]; exact Nat.ble_eq_true_of_le h
  · rw [decide_eq_false h]
    cases hh : Nat.blt a b
    · rfl
    · exact absurd (Nat.le_of_ble_eq_true hh) h
theorem z_beq_eq (a b : Nat) : Nat.beq a b = decide (a = b) := by
  by_cases h : a = b
  · rw [decide_eq_true h, h]; exact Nat.beq_refl b
  · rw [decide_eq_false h]
    cases hh : Nat.beq a b
    · rfl
    · exact absurd (Nat.eq_of_beq_eq_true hh) h
theorem zq_z_hd_lt {S : zS} {M : zM} {a : Nat} {h : Nat × Nat} (e : z_hd S M a = some h) : a < z_tl S M := by
  unfold z_hd at e
  rw [z_blt_eq] at e
  by_cases hh : a < S.1
  · unfold z_tl; omega
  · rw [decide_eq_false hh] at e
    have := zq_z_at_lt _ _ _ e
    unfold z_tl; omega
theorem z_hd_of {S : zS} {M M' : zM} (h : M'.1 = M.1) (a : Nat) : z_hd S M' a = z_hd S M a := by unfold z_hd; rw [h]
theorem z_hd_nw {S : zS} {M : zM} {h : Nat × Nat} {a : Nat} (ha : a < z_tl S M) : z_hd S (z_nw S M h) a = z_hd S M a := by
  unfold z_hd
  rw [z_blt_eq]
  by_cases hh : a < S.1
  · rw [decide_eq_true hh]; rfl
  · rw [decide_eq_false hh]
    show z_at (M.1 ++ [h]) _ = z_at M.1 _
    exact z_at_app _ _ _ (by unfold z_tl at ha; omega)
theorem z_hd_nw_new (S : zS) (M : zM) (h : Nat × Nat) : z_hd S (z_nw S M h) (z_new S M) = some h := by
  unfold z_hd z_new
  rw [z_blt_eq, decide_eq_false (by omega)]
  show z_at (M.1 ++ [h]) (S.1 + M.1.length - S.1) = some h
  rw [show S.1 + M.1.length - S.1 = M.1.length by omega]
  exact z_at_new _ _
theorem z_hd_nw_cases {S : zS} {M : zM} {h g : Nat × Nat} {a : Nat} (e : z_hd S (z_nw S M h) a = some g) : (a < z_tl S M ∧ z_hd S M a = some g) ∨ (a = z_new S M ∧ g = h) := by
  have h1 := zq_z_hd_lt e
  have h2 : z_tl S (z_nw S M h) = z_tl S M + 1 := by unfold z_tl z_nw; simp; omega
  by_cases ha : a < z_tl S M
  · exact Or.inl ⟨ha, by rw [← z_hd_nw ha]; exact e⟩
  · have : a = z_new S M := by unfold z_new; unfold z_tl at ha h2 h1; omega
    subst this
    rw [z_hd_nw_new] at e
    exact Or.inr ⟨rfl, (Option.some.inj e).symm⟩
theorem z_tl_nw (S : zS) (M : zM) (h : Nat × Nat) : z_tl S (z_nw S M h) = z_tl S M + 1 := by unfold z_tl z_nw; simp; omega
theorem z_sum_app : ∀ (T : List (Nat × Nat)) (h : Nat × Nat), z_sum (T ++ [h]) = z_sum T + h.2
  | [], h => by simp [z_sum]
  | x :: r, h => by simp [z_sum, z_sum_app r h]; omega
theorem z_ss_nw (S : zS) (M : zM) (h : Nat × Nat) : z_ss (z_nw S M h) = z_ss M + h.2 := by
  show z_sum (M.1 ++ [h]) + zz_off.1 = z_sum M.1 + zz_off.1 + h.2
  rw [z_sum_app]; omega
/-- cells look at nothing but their own address -/
theorem z_cell_of {X : zX} {S : zS} {M M' : zM} {t a k : Nat} (h1 : zI M' a k = zI M a k) (h2 : zP S M' a k = zP S M a k) (h3 : zD M' a k = zD M a k) : z_cell X S M' t a k = z_cell X S M t a k := by
  unfold z_cell; rw [h1, h2, h3]
theorem z_elem_of {X : zX} {S : zS} {M M' : zM} {t a k : Nat} (h1 : zI M' a k = zI M a k) (h2 : zP S M' a k = zP S M a k) (h3 : zD M' a k = zD M a k) : z_elem X S M' t a k = z_elem X S M t a k := by
  unfold z_elem; rw [h1, h2, h3]
theorem z_okc_of {X : zX} {S : zS} {M M' : zM} {a : Nat} {h : Nat × Nat} {H H' : Heap} (hq : H'[X.1 a]? = H[X.1 a]?) (h1 : ∀ k, zI M' a k = zI M a k) (h2 : ∀ k, zP S M' a k = zP S M a k) (h3 : ∀ k, zD M' a k = zD M a k) (e : z_okc X S M a h H) : z_okc X S M' a h H' := by
  rcases e with ⟨e1, e2, e3⟩ | ⟨e1, e2, e3, e4⟩ | ⟨e1, scr, e2, e3, e4, e5, e6, e7⟩
  · refine Or.inl ⟨e1, (e2.kept hq).to (fun k _ => (z_cell_of (h1 k) (h2 k) (h3 k)).symm), e3⟩
  · refine Or.inr (Or.inl ⟨e1, e2, ?_, fun ht j => by rw [h1 j]; exact e4 ht j⟩)
    rw [hq, e3]
    rw [show z_elem X S M' h.1 a = z_elem X S M h.1 a from funext fun k => z_elem_of (h1 k) (h2 k) (h3 k)]
  · exact Or.inr (Or.inr ⟨e1, scr, by rw [hq]; exact e2, e3, e4, e5, e6, fun j hj => by rw [h1 j]; exact e7 j hj⟩)
/-- one cell changes -/
theorem zRep.upd {X : zX} {S : zS} {n0 : Nat} {M M' : zM} {H H' : Heap} {a : Nat} (hX : zXok X n0) (hR : zRep X S n0 M H) (hT : M'.1 = M.1) (ha : 0 < a)
    (hI : ∀ b k, b ≠ a → zI M' b k = zI M b k) (hP : ∀ b k, b ≠ a → zP S M' b k = zP S M b k) (hD : ∀ b k, b ≠ a → zD M' b k = zD M b k)
    (hz : H'.size = H.size) (hq : ∀ q, q ≠ X.1 a → H'[q]? = H[q]?) (hc : ∀ h, z_hd S M a = some h → z_okc X S M' a h H') : zRep X S n0 M' H' := by
  have htl : z_tl S M' = z_tl S M := by unfold z_tl; rw [hT]
  refine ⟨by rw [hz, htl]; exact hR.1, by rw [htl]; exact hR.2.1, fun b h hb e => ?_, fun h e => hR.2.2.2.1 h (by rw [← z_hd_of hT]; exact e), fun h e => hR.2.2.2.2 h (by rw [← z_hd_of hT]; exact e)⟩
  rw [z_hd_of hT] at e
  by_cases hba : b = a
  · subst hba; exact hc h e
  · exact z_okc_of (hq _ (fun x => hba (hX.1 _ _ hb ha x))) (fun k => hI b k hba) (fun k => hP b k hba) (fun k => hD b k hba) (hR.2.2.1 b h hb e)
theorem zq_zI_wI (M : zM) (a k : Nat) (v : Int32) (b j : Nat) : zI (z_wI M a k v) b j = if b = a ∧ j = k then v else zI M b j := rfl
theorem zq_zP_wI (S : zS) (M : zM) (a k : Nat) (v : Int32) (b j : Nat) : zP S (z_wI M a k v) b j = zP S M b j := rfl
theorem zq_zD_wI (M : zM) (a k : Nat) (v : Int32) (b j : Nat) : zD (z_wI M a k v) b j = zD M b j := rfl
theorem zq_zI_wP (M : zM) (a k v : Nat) (b j : Nat) : zI (z_wP M a k v) b j = zI M b j := rfl
theorem zq_zD_wP (M : zM) (a k v : Nat) (b j : Nat) : zD (z_wP M a k v) b j = zD M b j := rfl
theorem zq_zP_wP (S : zS) (M : zM) (a k v : Nat) (hf : z_free S a k = true) (b j : Nat) : zP S (z_wP M a k v) b j = if b = a ∧ j = k then v else zP S M b j := by
  by_cases h : b = a ∧ j = k
  · rw [if_pos h]
    obtain ⟨rfl, rfl⟩ := h
    unfold z_free at hf
    unfold zP
    split
    · next e => rw [e] at hf; cases hf
    · simp [z_wP]
  · rw [if_neg h]
    unfold zP
    split
    · rfl
    · simp only [z_wP, if_neg h]
theorem zq_zI_wD (M : zM) (a k : Nat) (v : UInt64) (b j : Nat) : zI (z_wD M a k v) b j = zI M b j := rfl
theorem zq_zP_wD (S : zS) (M : zM) (a k : Nat) (v : UInt64) (b j : Nat) : zP S (z_wD M a k v) b j = zP S M b j := rfl
theorem zq_zD_wD (M : zM) (a k : Nat) (v : UInt64) (b j : Nat) : zD (z_wD M a k v) b j = if b = a ∧ j = k then v else zD M b j := rfl
/-- a new cell -/
theorem zRep.nw {X : zX} {S : zS} {n0 : Nat} {M : zM} {H H' : Heap} {h : Nat × Nat} (hX : zXok X n0) (hR : zRep X S n0 M H) 
    (hz : H'.size = H.size + 1) (hq : ∀ q, q < H.size → H'[q]? = H[q]?) (hlt : ∀ a g, 0 < a → z_hd S M a = some g → X.1 a < H.size) (hSp : ∀ k, S.2.2 (z_new S M) k = none)
    (hc : z_okc X S (z_nw S M h) (z_new S M) h H') : zRep X S n0 (z_nw S M h) H' := by
  refine ⟨by rw [hz, z_tl_nw, hX.2.1 _ hR.2.1, hR.1], by rw [z_tl_nw]; exact Nat.le_succ_of_le hR.2.1, fun b g hb e => ?_, fun g e => ?_, fun g e => ?_⟩
  · rcases z_hd_nw_cases e with ⟨e1, e2⟩ | ⟨rfl, rfl⟩
    · have hne : b ≠ z_new S M := by unfold z_new; unfold z_tl at e1; omega
      refine z_okc_of (hq _ (hlt b g hb e2)) (fun k => ?_) (fun k => ?_) (fun k => ?_) (hR.2.2.1 b g hb e2)
      · simp only [zI, z_nw, if_neg hne]
      · simp only [zP, z_nw, if_neg hne]
      · simp only [zD, z_nw, if_neg hne]
    · exact hc
  · rcases z_hd_nw_cases e with ⟨e1, e2⟩ | ⟨e1, rfl⟩
    · exact hR.2.2.2.1 g e2
    · right
      have h1 := hR.2.1
      rcases hX.2.2.2.2 with h2 | h2
      · unfold z_new at e1
        unfold z_tl at h1
        omega
      · exact h2
  · rcases z_hd_nw_cases e with ⟨e1, e2⟩ | ⟨e1, rfl⟩
    · exact hR.2.2.2.2 g e2
    · have h1 := hR.2.1
      have h2 := hX.2.2.2.1
      unfold z_new at e1
      unfold z_tl at h1
      omega
theorem z_okc.lt {X : zX} {S : zS} {M : zM} {a : Nat} {h : Nat × Nat} {H : Heap} (e : z_okc X S M a h H) : X.1 a < H.size := by
  rcases e with ⟨-, ⟨cell, e2, -⟩, -⟩ | ⟨-, -, e3, -⟩ | ⟨-, scr, e3, -⟩
  · exact (Array.getElem?_eq_some_iff.mp e2).1
  · exact (Array.getElem?_eq_some_iff.mp e3).1
  · exact (Array.getElem?_eq_some_iff.mp e3).1
/-! locals -/
theorem z_cat_eq (v : Value) : z_cat v = v.category := by cases v <;> rfl
theorem zE_cat (X : zX) (v : Value) : (zE X v).category = v.category := by
  cases v <;> first | rfl | skip
  rename_i a
  cases a <;> rfl
theorem z_kill_some {x : Option Value} {w : Value} (h : z_kill x = some w) : x = some w ∧ w.category = 1 := by
  unfold z_kill at h
  split at h
  · cases h
  · cases h
  · next h1 h2 =>
    refine ⟨h, ?_⟩
    subst h
    cases w <;> first | rfl | exact absurd rfl (h1 _) | exact absurd rfl (h2 _)
theorem z_ll_s1 : ∀ (lc : List (Option Value)) (i : Nat) (v : Value) (j : Nat) (w : Value), z_ll (z_s1 lc i v) j = some w → (j = i ∧ w = v) ∨ (j ≠ i ∧ z_ll lc j = some w ∧ (j + 1 = i → w.category = 1))
  | [], _, _, _, _, h => by cases h
  | _ :: r, 0, v, 0, w, h => Or.inl ⟨rfl, (Option.some.inj h).symm⟩
  | _ :: r, 0, v, j + 1, w, h => Or.inr ⟨by omega, h, fun q => by omega⟩
  | x :: r, 1, v, 0, w, h => by
    obtain ⟨h1, h2⟩ := z_kill_some h
    exact Or.inr ⟨by omega, h1, fun _ => h2⟩
  | x :: r, n + 2, v, 0, w, h => Or.inr ⟨by omega, h, fun q => by omega⟩
  | x :: r, n + 1, v, j + 1, w, h => by
    rcases z_ll_s1 r n v j w h with ⟨a, b⟩ | ⟨a, b, c⟩
    · exact Or.inl ⟨by omega, b⟩
    · exact Or.inr ⟨by omega, b, fun q => c (by omega)⟩
theorem z_s2_cons (x : Option Value) (r : List (Option Value)) (n : Nat) (v : Value) : z_s2 (x :: r) (n + 1) v = (match n with | 0 => z_kill x | _ + 1 => x) :: z_s2 r n v := by cases r <;> rfl
theorem z_ll_s2 : ∀ (lc : List (Option Value)) (i : Nat) (v : Value) (j : Nat) (w : Value), z_ll (z_s2 lc i v) j = some w → (j = i ∧ w = v) ∨ (j ≠ i ∧ j ≠ i + 1 ∧ z_ll lc j = some w ∧ (j + 1 = i → w.category = 1))
  | [], _, _, _, _, h => by cases h
  | [_], 0, v, j, w, h => by cases h
  | _ :: _ :: r, 0, v, 0, w, h => Or.inl ⟨rfl, (Option.some.inj h).symm⟩
  | _ :: _ :: r, 0, v, 1, w, h => by cases h
  | _ :: _ :: r, 0, v, j + 2, w, h => Or.inr ⟨by omega, by omega, h, fun q => by omega⟩
  | x :: r, 1, v, 0, w, h => by
    rw [z_s2_cons] at h
    obtain ⟨h1, h2⟩ := z_kill_some h
    exact Or.inr ⟨by omega, by omega, h1, fun _ => h2⟩
  | x :: r, n + 2, v, 0, w, h => by
    rw [z_s2_cons] at h
    exact Or.inr ⟨by omega, by omega, h, fun q => by omega⟩
  | x :: r, n + 1, v, j + 1, w, h => by
    rw [z_s2_cons] at h
    rcases z_ll_s2 r n v j w h with ⟨a, b⟩ | ⟨a, a2, b, c⟩
    · exact Or.inl ⟨by omega, b⟩
    · exact Or.inr ⟨by omega, by omega, b, fun q => c (by omega)⟩
def zLH (X : zX) (nL : Nat) (lc : List (Option Value)) (ls : Array Slot) : Prop := ls.size = nL ∧ lv_wf ls ∧ ∀ i v, z_ll lc i = some v → ls[i]? = some (.val (zE X v))
theorem zLH.st1 {X : zX} {nL : Nat} {lc : List (Option Value)} {ls : Array Slot} (h : zLH X nL lc ls) {i : Nat} (hi : i < nL) {v : Value} (hc : v.category = 1) : ∃ ls', storeLocals ls i (zE X v) = some ls' ∧ zLH X nL (z_s1 lc i v) ls' := by
  obtain ⟨ls', e1, e2⟩ := lv_store1 (l := []) (v := zE X v) ⟨h.1, h.2.1, fun q hq => by cases hq⟩ hi (by rw [zE_cat]; exact hc)
  refine ⟨ls', e1, e2.1, e2.2.1, fun j w hw => ?_⟩
  rcases z_ll_s1 _ _ _ _ _ hw with ⟨rfl, rfl⟩ | ⟨q1, q2, q3⟩
  · exact e2.2.2 (j, zE X w) List.mem_cons_self
  · obtain ⟨ls2, f1, f2⟩ := lv_store1 (l := [(j, zE X w)]) (v := zE X v) ⟨h.1, h.2.1, fun q hq => by rw [List.mem_singleton] at hq; subst hq; exact h.2.2 j w q2⟩ hi (by rw [zE_cat]; exact hc)
    rw [e1] at f1
    cases f1
    refine f2.2.2 (j, zE X w) (List.mem_cons_of_mem _ (List.mem_filter.mpr ⟨List.mem_singleton.mpr rfl, ?_⟩))
    simp only [Bool.and_eq_true, Bool.not_eq_true', beq_eq_false_iff_ne, ne_eq]
    refine ⟨q1, ?_⟩
    by_cases hj : j + 1 = i
    · rw [Bool.and_eq_false_iff]
      refine Or.inr ?_
      rw [beq_eq_false_iff_ne, zE_cat, q3 hj]
      decide
    · rw [Bool.and_eq_false_iff]
      exact Or.inl (by simpa using hj)
theorem zLH.st2 {X : zX} {nL : Nat} {lc : List (Option Value)} {ls : Array Slot} (h : zLH X nL lc ls) {i : Nat} (hi : i + 1 < nL) {v : Value} (hc : v.category = 2) : ∃ ls', storeLocals ls i (zE X v) = some ls' ∧ zLH X nL (z_s2 lc i v) ls' := by
  obtain ⟨ls', e1, e2⟩ := lv_store2 (l := []) (v := zE X v) ⟨h.1, h.2.1, fun q hq => by cases hq⟩ hi (by rw [zE_cat]; exact hc)
  refine ⟨ls', e1, e2.1, e2.2.1, fun j w hw => ?_⟩
  rcases z_ll_s2 _ _ _ _ _ hw with ⟨rfl, rfl⟩ | ⟨q1, q12, q2, q3⟩
  · exact e2.2.2 (j, zE X w) List.mem_cons_self
  · obtain ⟨ls2, f1, f2⟩ := lv_store2 (l := [(j, zE X w)]) (v := zE X v) ⟨h.1, h.2.1, fun q hq => by rw [List.mem_singleton] at hq; subst hq; exact h.2.2 j w q2⟩ hi (by rw [zE_cat]; exact hc)
    rw [e1] at f1
    cases f1
    refine f2.2.2 (j, zE X w) (List.mem_cons_of_mem _ (List.mem_filter.mpr ⟨List.mem_singleton.mpr rfl, ?_⟩))
    simp only [Bool.and_eq_true, Bool.not_eq_true', beq_eq_false_iff_ne, ne_eq]
    refine ⟨q1, q12, ?_⟩
    by_cases hj : j + 1 = i
    · rw [Bool.and_eq_false_iff]
      refine Or.inr ?_
      rw [beq_eq_false_iff_ne, zE_cat, q3 hj]
      decide
    · rw [Bool.and_eq_false_iff]
      exact Or.inl (by simpa using hj)
