/-! THE S LEVEL: base rows. Binds of a known answer, tests as propositions, cells after writes. -/
theorem z_bV_some (M : zM) (k : zM → zR) : z_bV (some (none, M)) k = k M := rfl
theorem z_bI_some (x : Int32) (M : zM) (k : Int32 → zM → zR) : z_bI (some (some (.int x), M)) k = k x M := rfl
theorem z_bJ_some (x : Int64) (M : zM) (k : Int64 → zM → zR) : z_bJ (some (some (.long x), M)) k = k x M := rfl
theorem z_bD_some (x : UInt64) (M : zM) (k : UInt64 → zM → zR) : z_bD (some (some (.double x), M)) k = k x M := rfl
theorem z_bR_some (x : Nat) (M : zM) (k : Nat → zM → zR) : z_bR (some (some (.ref x), M)) k = k x M := rfl
theorem z_cT {α : Type} {b : Bool} {x y : α} (h : b = true) : (bif b then x else y) = x := by rw [h]; rfl
theorem z_cF {α : Type} {b : Bool} {x y : α} (h : b = false) : (bif b then x else y) = y := by rw [h]; rfl
/-- cells after writes -/
theorem zI_wI (M : zM) (a k a' k' : Nat) (v : Int32) : zI (z_wI M a k v) a' k' = if a' = a ∧ k' = k then v else zI M a' k' := rfl
theorem zI_wP (M : zM) (a k a' k' : Nat) (v : Nat) : zI (z_wP M a k v) a' k' = zI M a' k' := rfl
theorem zI_wD (M : zM) (a k a' k' : Nat) (v : UInt64) : zI (z_wD M a k v) a' k' = zI M a' k' := rfl
theorem zD_wI (M : zM) (a k a' k' : Nat) (v : Int32) : zD (z_wI M a k v) a' k' = zD M a' k' := rfl
theorem zD_wP (M : zM) (a k a' k' : Nat) (v : Nat) : zD (z_wP M a k v) a' k' = zD M a' k' := rfl
theorem zD_wD (M : zM) (a k a' k' : Nat) (v : UInt64) : zD (z_wD M a k v) a' k' = if a' = a ∧ k' = k then v else zD M a' k' := rfl
theorem zP_wI (S : zS) (M : zM) (a k a' k' : Nat) (v : Int32) : zP S (z_wI M a k v) a' k' = zP S M a' k' := rfl
theorem zP_wD (S : zS) (M : zM) (a k a' k' : Nat) (v : UInt64) : zP S (z_wD M a k v) a' k' = zP S M a' k' := rfl
theorem z_hd_wI (S : zS) (M : zM) (a k a' : Nat) (v : Int32) : z_hd S (z_wI M a k v) a' = z_hd S M a' := rfl
theorem z_hd_wP (S : zS) (M : zM) (a k a' : Nat) (v : Nat) : z_hd S (z_wP M a k v) a' = z_hd S M a' := rfl
theorem z_hd_wD (S : zS) (M : zM) (a k a' : Nat) (v : UInt64) : z_hd S (z_wD M a k v) a' = z_hd S M a' := rfl
/-- an index -/
theorem z_ix_of {i : Int32} {n : Nat} (h0 : 0 ≤ i) (h1 : i.toNatClampNeg < n) : z_ix i n = true := by
  rw [z_ix_eq]
  apply decide_eq_true
  rintro (h | h)
  · exact absurd h0 (Int32.not_le.mpr h)
  · omega
