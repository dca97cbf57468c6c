/-! THE SMALL MACHINE: a pure, deterministic machine over numbers and functions; part 03 shows that the real one does what it does. -/
abbrev zM : Type := List (Nat × Nat) × (Nat → Nat → Int32) × (Nat → Nat → Nat) × (Nat → Nat → UInt64)
abbrev zS : Type := Nat × (Nat → Nat × Nat) × (Nat → Nat → Option Nat)
abbrev zF : Type := Nat × List (Option Value) × List Value × zM
abbrev zR : Type := Option (Option Value × zM)
abbrev zO : Type := Option (Bool × ((List (Bool × zF) × zF) ⊕ (Nat × Nat × List Value × zF) ⊕ (Option Value × zM)))
abbrev zA : Type := zS → List (Option Value) → List Value → zM → zO
/-- headers -/
def z_at : List (Nat × Nat) → Nat → Option (Nat × Nat)
  | [], _ => none
  | x :: _, 0 => some x
  | _ :: r, n + 1 => z_at r n
def z_hd (S : zS) (M : zM) (a : Nat) : Option (Nat × Nat) := bif Nat.blt a S.1 then some (S.2.1 a) else z_at M.1 (a - S.1)
def z_mem (n : Nat) : List Nat → Bool
  | [] => false
  | x :: r => bif Nat.beq n x then true else z_mem n r
def z_cls (S : zS) (M : zM) (a : Nat) (al : List Nat) : Bool := match z_hd S M a with
  | some h => z_mem h.1 al
  | none => false
/-- tests, shut (so that no reckoner opens them): what they are stands in .2 -/
noncomputable def zx_ix : {f : Int32 → Nat → Bool // f = fun i n => decide (¬ (i < 0 ∨ n ≤ i.toNatClampNeg))} := Classical.choice ⟨⟨_, rfl⟩⟩
noncomputable def z_ix (i : Int32) (n : Nat) : Bool := zx_ix.1 i n
theorem z_ix_eq (i : Int32) (n : Nat) : z_ix i n = decide (¬ (i < 0 ∨ n ≤ i.toNatClampNeg)) := by unfold z_ix; rw [zx_ix.2]
noncomputable def zx_lt : {f : Int32 → Int32 → Bool // f = fun x y => decide (x < y)} := Classical.choice ⟨⟨_, rfl⟩⟩
noncomputable def zx_le : {f : Int32 → Int32 → Bool // f = fun x y => decide (x ≤ y)} := Classical.choice ⟨⟨_, rfl⟩⟩
noncomputable def zx_eq : {f : Int32 → Int32 → Bool // f = fun x y => decide (x = y)} := Classical.choice ⟨⟨_, rfl⟩⟩
noncomputable def zx_ne : {f : Int32 → Int32 → Bool // f = fun x y => decide (¬ x = y)} := Classical.choice ⟨⟨_, rfl⟩⟩
noncomputable def zx_nz : {f : Int64 → Bool // f = fun x => decide (¬ x = 0)} := Classical.choice ⟨⟨_, rfl⟩⟩
noncomputable def z_lt (x y : Int32) : Bool := zx_lt.1 x y
noncomputable def z_le (x y : Int32) : Bool := zx_le.1 x y
noncomputable def z_eq (x y : Int32) : Bool := zx_eq.1 x y
noncomputable def z_ne (x y : Int32) : Bool := zx_ne.1 x y
noncomputable def z_nz (x : Int64) : Bool := zx_nz.1 x
theorem z_lt_eq (x y : Int32) : z_lt x y = decide (x < y) := by unfold z_lt; rw [zx_lt.2]
theorem z_le_eq (x y : Int32) : z_le x y = decide (x ≤ y) := by unfold z_le; rw [zx_le.2]
theorem z_eq_eq (x y : Int32) : z_eq x y = decide (x = y) := by unfold z_eq; rw [zx_eq.2]
theorem z_ne_eq (x y : Int32) : z_ne x y = decide (¬ x = y) := by unfold z_ne; rw [zx_ne.2]
theorem z_nz_eq (x : Int64) : z_nz x = decide (¬ x = 0) := by unfold z_nz; rw [zx_nz.2]
noncomputable def z_ia (S : zS) (M : zM) (a tg : Nat) (i : Int32) : Bool := match z_hd S M a with
  | some h => bif Nat.beq h.1 tg then z_ix i h.2 else false
  | none => false
/-- cells -/
def zI (M : zM) (a k : Nat) : Int32 := M.2.1 a k
def zD (M : zM) (a k : Nat) : UInt64 := M.2.2.2 a k
def zP (S : zS) (M : zM) (a k : Nat) : Nat := match S.2.2 a k with
  | some p => p
  | none => M.2.2.1 a k
def z_wI (M : zM) (a k : Nat) (v : Int32) : zM := (M.1, fun a' k' => if a' = a ∧ k' = k then v else M.2.1 a' k', M.2.2.1, M.2.2.2)
def z_wP (M : zM) (a k : Nat) (v : Nat) : zM := (M.1, M.2.1, fun a' k' => if a' = a ∧ k' = k then v else M.2.2.1 a' k', M.2.2.2)
def z_wD (M : zM) (a k : Nat) (v : UInt64) : zM := (M.1, M.2.1, M.2.2.1, fun a' k' => if a' = a ∧ k' = k then v else M.2.2.2 a' k')
def z_new (S : zS) (M : zM) : Nat := S.1 + M.1.length
def z_nw (S : zS) (M : zM) (h : Nat × Nat) : zM := (M.1 ++ [h], fun a k => if a = z_new S M then 0 else M.2.1 a k, fun a k => if a = z_new S M then 0 else M.2.2.1 a k, fun a k => if a = z_new S M then 0 else M.2.2.2 a k)
def z_free (S : zS) (a k : Nat) : Bool := match S.2.2 a k with
  | some _ => false
  | none => true
/-- locals -/
def z_ll : List (Option Value) → Nat → Option Value
  | [], _ => none
  | x :: _, 0 => x
  | _ :: r, n + 1 => z_ll r n
def z_kill (x : Option Value) : Option Value := match x with
  | some (.long _) => none
  | some (.double _) => none
  | x => x
def z_s1 : List (Option Value) → Nat → Value → List (Option Value)
  | [], _, _ => []
  | _ :: r, 0, v => some v :: r
  | x :: r, n + 1, v => (match n with | 0 => z_kill x | _ + 1 => x) :: z_s1 r n v
def z_s2 : List (Option Value) → Nat → Value → List (Option Value)
  | [], _, _ => []
  | _ :: [], 0, _ => []
  | _ :: _ :: r, 0, v => some v :: none :: r
  | x :: r, n + 1, v => (match n with | 0 => z_kill x | _ + 1 => x) :: z_s2 r n v
def z_sl : List Value → List (Option Value)
  | [] => []
  | .long x :: r => some (.long x) :: none :: z_sl r
  | .double x :: r => some (.double x) :: none :: z_sl r
  | v :: r => some v :: z_sl r
def z_pad : Nat → List (Option Value) → List (Option Value)
  | 0, _ => []
  | n + 1, [] => none :: z_pad n []
  | n + 1, x :: r => x :: z_pad n r
def z_cat (v : Value) : Nat := match v with
  | .long _ => 2
  | .double _ => 2
  | _ => 1
def z_words : List Value → Nat
  | [] => 0
  | v :: r => z_cat v + z_words r
/-- outcomes of one step -/
def z_go (F : zF) : zO := some (true, .inl ([], F))
def z_gg (g : Bool) (F : zF) : zO := some (g, .inl ([], F))
def z_br (b : Bool) (F1 F2 : zF) : zO := some (true, .inl ([(b, F1)], F2))
def z_rt (v : Option Value) (M : zM) : zO := some (true, .inr (.inr (v, M)))
def z_cl (g : Bool) (ty mi : Nat) (as : List Value) (F : zF) : zO := some (g, .inr (.inl (ty, mi, as, F)))
def z_pick (k : zF → zR) : List (Bool × zF) → zF → zR
  | [], F => k F
  | x :: r, F => bif x.1 then k x.2 else z_pick k r F
def z_bV (r : zR) (k : zM → zR) : zR := match r with
  | some (none, M) => k M
  | _ => none
def z_bI (r : zR) (k : Int32 → zM → zR) : zR := match r with
  | some (some (.int x), M) => k x M
  | _ => none
def z_bJ (r : zR) (k : Int64 → zM → zR) : zR := match r with
  | some (some (.long x), M) => k x M
  | _ => none
def z_bD (r : zR) (k : UInt64 → zM → zR) : zR := match r with
  | some (some (.double x), M) => k x M
  | _ => none
def z_bR (r : zR) (k : Nat → zM → zR) : zR := match r with
  | some (some (.ref x), M) => k x M
  | _ => none
def z_ret (ty : Nat) (r : zR) (F : zF) (k : zF → zR) : zR := match ty with
  | 0 => z_bV r (fun M => k (F.1, F.2.1, F.2.2.1, M))
  | 1 => z_bI r (fun x M => k (F.1, F.2.1, .int x :: F.2.2.1, M))
  | 2 => z_bJ r (fun x M => k (F.1, F.2.1, .long x :: F.2.2.1, M))
  | 3 => z_bD r (fun x M => k (F.1, F.2.1, .double x :: F.2.2.1, M))
  | _ => z_bR r (fun x M => k (F.1, F.2.1, .ref x :: F.2.2.1, M))
def z_on (o : zO) (k : zF → zR) (c : Nat → List Value → zM → zR) : zR := match o with
  | none => none
  | some (g, .inl b) => bif g then z_pick k b.1 b.2 else none
  | some (g, .inr (.inl x)) => bif g then z_ret x.1 (c x.2.1 x.2.2.1 x.2.2.2.2.2.2) x.2.2.2 k else none
  | some (g, .inr (.inr r)) => bif g then some r else none
/-- the acts on doubles, shut: what they are stands in .2 -/
noncomputable def zf_add : {f : UInt64 → UInt64 → UInt64 // f = FP.dadd} := Classical.choice ⟨⟨FP.dadd, rfl⟩⟩
noncomputable def zf_sub : {f : UInt64 → UInt64 → UInt64 // f = FP.dsub} := Classical.choice ⟨⟨FP.dsub, rfl⟩⟩
noncomputable def zf_mul : {f : UInt64 → UInt64 → UInt64 // f = FP.dmul} := Classical.choice ⟨⟨FP.dmul, rfl⟩⟩
noncomputable def zf_div : {f : UInt64 → UInt64 → UInt64 // f = FP.ddiv} := Classical.choice ⟨⟨FP.ddiv, rfl⟩⟩
noncomputable def zf_cmp : {f : CmpOp → UInt64 → UInt64 → Int32 // f = fun op x y => Op.cmpValue (FP.dcmp x y) op} := Classical.choice ⟨⟨_, rfl⟩⟩
noncomputable def zf_i2d : {f : Int32 → UInt64 // f = FP.i2d} := Classical.choice ⟨⟨FP.i2d, rfl⟩⟩
noncomputable def zf_l2d : {f : Int64 → UInt64 // f = FP.l2d} := Classical.choice ⟨⟨FP.l2d, rfl⟩⟩
noncomputable def zf_d2l : {f : UInt64 → Int64 // f = FP.d2l} := Classical.choice ⟨⟨FP.d2l, rfl⟩⟩
/-- acts: constants, locals, the stack -/
noncomputable def aCI (n : Nat) (v : Int32) : zA := fun _ lc st M => z_go (n, lc, .int v :: st, M)
noncomputable def aCJ (n : Nat) (v : Int64) : zA := fun _ lc st M => z_go (n, lc, .long v :: st, M)
noncomputable def aCD (n : Nat) (v : UInt64) : zA := fun _ lc st M => z_go (n, lc, .double v :: st, M)
noncomputable def aNull (n : Nat) : zA := fun _ lc st M => z_go (n, lc, .ref 0 :: st, M)
noncomputable def aLI (n i : Nat) : zA := fun _ lc st M => match z_ll lc i with
  | some (.int x) => z_go (n, lc, .int x :: st, M)
  | _ => none
noncomputable def aLJ (n i : Nat) : zA := fun _ lc st M => match z_ll lc i with
  | some (.long x) => z_go (n, lc, .long x :: st, M)
  | _ => none
noncomputable def aLD (n i : Nat) : zA := fun _ lc st M => match z_ll lc i with
  | some (.double x) => z_go (n, lc, .double x :: st, M)
  | _ => none
noncomputable def aLR (n i : Nat) : zA := fun _ lc st M => match z_ll lc i with
  | some (.ref x) => z_go (n, lc, .ref x :: st, M)
  | _ => none
noncomputable def aSI (n i : Nat) : zA := fun _ lc st M => match st with
  | .int x :: r => z_go (n, z_s1 lc i (.int x), r, M)
  | _ => none
noncomputable def aSR (n i : Nat) : zA := fun _ lc st M => match st with
  | .ref x :: r => z_go (n, z_s1 lc i (.ref x), r, M)
  | _ => none
noncomputable def aSJ (n i : Nat) : zA := fun _ lc st M => match st with
  | .long x :: r => z_go (n, z_s2 lc i (.long x), r, M)
  | _ => none
noncomputable def aSD (n i : Nat) : zA := fun _ lc st M => match st with
  | .double x :: r => z_go (n, z_s2 lc i (.double x), r, M)
  | _ => none
noncomputable def aInc (n : Nat) (i : Nat) (v : Int32) : zA := fun _ lc st M => match z_ll lc i with
  | some (.int x) => z_go (n, z_s1 lc i (.int (x + v)), st, M)
  | _ => none
noncomputable def aDup (n : Nat) : zA := fun _ lc st M => match st with
  | .int x :: r => z_go (n, lc, .int x :: .int x :: r, M)
  | .ref x :: r => z_go (n, lc, .ref x :: .ref x :: r, M)
  | _ => none
noncomputable def aDup2 (n : Nat) : zA := fun _ lc st M => match st with
  | .int x :: .ref y :: r => z_go (n, lc, .int x :: .ref y :: .int x :: .ref y :: r, M)
  | _ => none
noncomputable def aPop (n : Nat) : zA := fun _ lc st M => match st with
  | .int _ :: r => z_go (n, lc, r, M)
  | _ => none
/-- acts: numbers -/
noncomputable def aII (n : Nat) (f : Int32 → Int32) : zA := fun _ lc st M => match st with
  | .int x :: r => z_go (n, lc, .int (f x) :: r, M)
  | _ => none
noncomputable def aB (n : Nat) (f : Int32 → Int32 → Int32) : zA := fun _ lc st M => match st with
  | .int y :: .int x :: r => z_go (n, lc, .int (f x y) :: r, M)
  | _ => none
noncomputable def aBz (n : Nat) (f : Int32 → Int32 → Int32) : zA := fun _ lc st M => match st with
  | .int y :: .int x :: r => z_gg (z_ne y 0) (n, lc, .int (f x y) :: r, M)
  | _ => none
noncomputable def aJ (n : Nat) (f : Int64 → Int64 → Int64) : zA := fun _ lc st M => match st with
  | .long y :: .long x :: r => z_go (n, lc, .long (f x y) :: r, M)
  | _ => none
noncomputable def aJz (n : Nat) (f : Int64 → Int64 → Int64) : zA := fun _ lc st M => match st with
  | .long y :: .long x :: r => z_gg (z_nz y) (n, lc, .long (f x y) :: r, M)
  | _ => none
noncomputable def aJsh (n : Nat) (f : Int64 → Int32 → Int64) : zA := fun _ lc st M => match st with
  | .int y :: .long x :: r => z_go (n, lc, .long (f x y) :: r, M)
  | _ => none
noncomputable def aI2J (n : Nat) : zA := fun _ lc st M => match st with
  | .int x :: r => z_go (n, lc, .long x.toInt64 :: r, M)
  | _ => none
noncomputable def aJ2I (n : Nat) : zA := fun _ lc st M => match st with
  | .long x :: r => z_go (n, lc, .int x.toInt32 :: r, M)
  | _ => none
noncomputable def aI2D (n : Nat) : zA := fun _ lc st M => match st with
  | .int x :: r => z_go (n, lc, .double (zf_i2d.1 x) :: r, M)
  | _ => none
noncomputable def aJ2D (n : Nat) : zA := fun _ lc st M => match st with
  | .long x :: r => z_go (n, lc, .double (zf_l2d.1 x) :: r, M)
  | _ => none
noncomputable def aD2J (n : Nat) : zA := fun _ lc st M => match st with
  | .double x :: r => z_go (n, lc, .long (zf_d2l.1 x) :: r, M)
  | _ => none
noncomputable def aLcmp (n : Nat) : zA := fun _ lc st M => match st with
  | .long y :: .long x :: r => z_go (n, lc, .int (lg_cmp x y) :: r, M)
  | _ => none
noncomputable def aDcmp (n : Nat) (op : CmpOp) : zA := fun _ lc st M => match st with
  | .double y :: .double x :: r => z_go (n, lc, .int (zf_cmp.1 op x y) :: r, M)
  | _ => none
noncomputable def zx_num : {f : UInt64 → Bool // f = fun r => decide (r &&& 0x7fffffffffffffff ≤ 0x7ff0000000000000)} := Classical.choice ⟨⟨_, rfl⟩⟩
noncomputable def z_num (r : UInt64) : Bool := zx_num.1 r
theorem z_num_eq (r : UInt64) : z_num r = decide (r &&& 0x7fffffffffffffff ≤ 0x7ff0000000000000) := by unfold z_num; rw [zx_num.2]
noncomputable def aDD (n : Nat) (f : UInt64 → UInt64 → UInt64) : zA := fun _ lc st M => match st with
  | .double y :: .double x :: r => z_gg (z_num (f x y)) (n, lc, .double (f x y) :: r, M)
  | _ => none
noncomputable def aRaw (n : Nat) : zA := fun _ lc st M => match st with
  | .double x :: r => z_gg (Nat.ble (z_words r) 8) (n, lc, .long x.toInt64 :: r, M)
  | _ => none
/-- acts: branches -/
noncomputable def aGo (t : Nat) : zA := fun _ lc st M => z_go (t, lc, st, M)
noncomputable def aIf (n : Nat) (c : Int32 → Bool) (t : Nat) : zA := fun _ lc st M => match st with
  | .int x :: r => z_br (c x) (t, lc, r, M) (n, lc, r, M)
  | _ => none
noncomputable def aCmp (n : Nat) (c : Int32 → Int32 → Bool) (t : Nat) : zA := fun _ lc st M => match st with
  | .int y :: .int x :: r => z_br (c x y) (t, lc, r, M) (n, lc, r, M)
  | _ => none
noncomputable def aNul (n : Nat) (t : Nat) : zA := fun _ lc st M => match st with
  | .ref x :: r => z_br (Nat.beq x 0) (t, lc, r, M) (n, lc, r, M)
  | _ => none
noncomputable def aNon (n : Nat) (t : Nat) : zA := fun _ lc st M => match st with
  | .ref x :: r => z_br (Nat.beq x 0) (n, lc, r, M) (t, lc, r, M)
  | _ => none
noncomputable def z_sw (x : Int32) (lc : List (Option Value)) (r : List Value) (M : zM) : List (Int32 × Nat) → List (Bool × zF)
  | [] => []
  | q :: rest => (z_eq x q.1, (q.2, lc, r, M)) :: z_sw x lc r M rest
noncomputable def aSw (d : Nat) (l : List (Int32 × Nat)) : zA := fun _ lc st M => match st with
  | .int x :: r => some (true, .inl (z_sw x lc r M l, (d, lc, r, M)))
  | _ => none
/-- acts: cells -/
noncomputable def aGI (n : Nat) (k : Nat) (al : List Nat) : zA := fun S lc st M => match st with
  | .ref a :: r => z_gg (z_cls S M a al) (n, lc, .int (zI M a k) :: r, M)
  | _ => none
noncomputable def aGD (n : Nat) (k : Nat) (al : List Nat) : zA := fun S lc st M => match st with
  | .ref a :: r => z_gg (z_cls S M a al) (n, lc, .double (zD M a k) :: r, M)
  | _ => none
noncomputable def aGR (n : Nat) (k : Nat) (al : List Nat) : zA := fun S lc st M => match st with
  | .ref a :: r => z_gg (z_cls S M a al) (n, lc, .ref (zP S M a k) :: r, M)
  | _ => none
noncomputable def aPI (n : Nat) (k : Nat) (al : List Nat) : zA := fun S lc st M => match st with
  | .int v :: .ref a :: r => z_gg (z_cls S M a al) (n, lc, r, z_wI M a k v)
  | _ => none
noncomputable def aPZ (n : Nat) (k : Nat) (al : List Nat) : zA := fun S lc st M => match st with
  | .int v :: .ref a :: r => z_gg (decide (v &&& 1 = v) && z_cls S M a al) (n, lc, r, z_wI M a k v)
  | _ => none
noncomputable def aPD (n : Nat) (k : Nat) (al : List Nat) : zA := fun S lc st M => match st with
  | .double v :: .ref a :: r => z_gg (z_cls S M a al) (n, lc, r, z_wD M a k v)
  | _ => none
noncomputable def aPR (n : Nat) (k : Nat) (al : List Nat) : zA := fun S lc st M => match st with
  | .ref v :: .ref a :: r => z_gg (z_free S a k && z_cls S M a al) (n, lc, r, z_wP M a k v)
  | _ => none
def z_ln (S : zS) (M : zM) (a : Nat) : Nat := match z_hd S M a with
  | some h => h.2
  | none => 0
noncomputable def aALen (n : Nat) (al : List Nat) : zA := fun S lc st M => match st with
  | .ref a :: r => z_gg (z_cls S M a al) (n, lc, .int (Int32.ofNat (z_ln S M a)) :: r, M)
  | _ => none
noncomputable def aXI (n : Nat) (tg : Nat) : zA := fun S lc st M => match st with
  | .int i :: .ref a :: r => z_gg (z_ia S M a tg i) (n, lc, .int (zI M a i.toNatClampNeg) :: r, M)
  | _ => none
noncomputable def aXD (n : Nat) : zA := fun S lc st M => match st with
  | .int i :: .ref a :: r => z_gg (z_ia S M a 13 i) (n, lc, .double (zD M a i.toNatClampNeg) :: r, M)
  | _ => none
noncomputable def aXR (n : Nat) (tg : Nat) : zA := fun S lc st M => match st with
  | .int i :: .ref a :: r => z_gg (z_ia S M a tg i) (n, lc, .ref (zP S M a i.toNatClampNeg) :: r, M)
  | _ => none
noncomputable def aYI (n : Nat) : zA := fun S lc st M => match st with
  | .int v :: .int i :: .ref a :: r => z_gg (!(Nat.beq a 56) && z_ia S M a 14 i) (n, lc, r, z_wI M a i.toNatClampNeg v)
  | _ => none
noncomputable def aYB (n : Nat) : zA := fun S lc st M => match st with
  | .int v :: .int i :: .ref a :: r => z_gg (z_ia S M a 12 i) (n, lc, r, z_wI M a i.toNatClampNeg v.toInt8.toInt32)
  | _ => none
noncomputable def aYZ (n : Nat) : zA := fun S lc st M => match st with
  | .int v :: .int i :: .ref a :: r => z_gg (z_ia S M a 15 i) (n, lc, r, z_wI M a i.toNatClampNeg (v &&& 1))
  | _ => none
noncomputable def aYD (n : Nat) : zA := fun S lc st M => match st with
  | .double v :: .int i :: .ref a :: r => z_gg (z_ia S M a 13 i) (n, lc, r, z_wD M a i.toNatClampNeg v)
  | _ => none
/-- aastore: the value is null or of a kind that the row takes -/
noncomputable def aYR (n : Nat) (tg : Nat) (al : List Nat) : zA := fun S lc st M => match st with
  | .ref v :: .int i :: .ref a :: r => z_gg (z_free S a i.toNatClampNeg && ((Nat.beq v 0 || z_cls S M v al) && z_ia S M a tg i)) (n, lc, r, z_wP M a i.toNatClampNeg v)
  | _ => none
noncomputable def aYG (n : Nat) (tg : Nat) (al : List Nat) : zA := fun S lc st M => match st with
  | .ref v :: .int i :: .ref a :: r => z_gg (z_free S a i.toNatClampNeg && (z_cls S M v al && z_ia S M a tg i)) (n, lc, r, z_wP M a i.toNatClampNeg v)
  | _ => none
noncomputable def aNew (n tg sz : Nat) : zA := fun S lc st M => z_go (n, lc, .ref (z_new S M) :: st, z_nw S M (tg, sz))
noncomputable def aNewA (n tg : Nat) : zA := fun S lc st M => match st with
  | .int i :: r => z_gg (decide (¬ i < 0) && Nat.ble i.toNatClampNeg 1000000) (n, lc, .ref (z_new S M) :: r, z_nw S M (tg, i.toNatClampNeg))
  | _ => none
noncomputable def aIs (n : Nat) (al no : List Nat) : zA := fun S lc st M => match st with
  | .ref a :: r => z_gg (Nat.beq a 0 || z_cls S M a (al ++ no)) (n, lc, .int (bif z_cls S M a al then 1 else 0) :: r, M)
  | _ => none
noncomputable def aCast (n : Nat) (al : List Nat) : zA := fun S lc st M => match st with
  | .ref a :: r => z_gg (z_cls S M a al) (n, lc, .ref a :: r, M)
  | _ => none
def z_cpy (M : zM) (a b sp dp n : Nat) : zM := (M.1, fun a' k => if a' = b ∧ dp ≤ k ∧ k < dp + n then M.2.1 a (sp + (k - dp)) else M.2.1 a' k, M.2.2.1, M.2.2.2)
def z_fits (S : zS) (M : zM) (a b : Nat) (sp dp n : Int32) : Bool := match z_hd S M a, z_hd S M b with
  | some h, some g => Nat.beq h.1 g.1 && (Nat.beq h.1 12 || Nat.beq h.1 14) && decide (¬ sp < 0) && decide (¬ dp < 0) && decide (¬ n < 0) && Nat.ble (sp.toNatClampNeg + n.toNatClampNeg) h.2 && Nat.ble (dp.toNatClampNeg + n.toNatClampNeg) g.2
  | _, _ => false
noncomputable def aCopy (n : Nat) : zA := fun S lc st M => match st with
  | .int i :: .int dp :: .ref b :: .int sp :: .ref a :: r => z_gg (Nat.ble (z_words r) 8 && (!(Nat.beq b 56) && z_fits S M a b sp dp i)) (n, lc, r, z_cpy M a b sp.toNatClampNeg dp.toNatClampNeg i.toNatClampNeg)
  | _ => none
/-- acts: calls and returns -/
def z_take : Nat → List Value → List Value → Option (List Value × List Value)
  | 0, acc, st => some (acc, st)
  | _ + 1, _, [] => none
  | n + 1, acc, v :: st => z_take n (v :: acc) st
noncomputable def aCall (n ty mi na : Nat) : zA := fun _ lc st M => match z_take na [] st with
  | some q => z_cl (Nat.ble (z_words q.2) 8) ty mi q.1 (n, lc, q.2, M)
  | none => none
def z_recv : List Value → Nat
  | .ref a :: _ => a
  | _ => 0
/-- an instance method: the receiver's kind must be among those -/
noncomputable def aCallV (n ty mi na : Nat) (al : List Nat) : zA := fun S lc st M => match z_take na [] st with
  | some q => z_cl (Nat.ble (z_words q.2) 8 && z_cls S M (z_recv q.1) al) ty mi q.1 (n, lc, q.2, M)
  | none => none
def z_sel : List (Nat × Nat) → Nat → Nat
  | [], _ => 0
  | q :: r, tg => bif Nat.beq q.1 tg then q.2 else z_sel r tg
def z_has : List (Nat × Nat) → Nat → Bool
  | [], _ => false
  | q :: r, tg => bif Nat.beq q.1 tg then true else z_has r tg
def z_okU (S : zS) (M : zM) (a : Nat) (l : List (Nat × Nat)) : Bool := match z_hd S M a with
  | some h => z_has l h.1
  | none => false
def z_selU (S : zS) (M : zM) (a : Nat) (l : List (Nat × Nat)) : Nat := match z_hd S M a with
  | some h => z_sel l h.1
  | none => 0
/-- by the receiver's kind -/
noncomputable def aCallU (n ty na : Nat) (l : List (Nat × Nat)) : zA := fun S lc st M => match z_take na [] st with
  | some q => z_cl (Nat.ble (z_words q.2) 8 && z_okU S M (z_recv q.1) l) ty (z_selU S M (z_recv q.1) l) q.1 (n, lc, q.2, M)
  | none => none
noncomputable def aObj (n : Nat) : zA := fun _ lc st M => match st with
  | .ref a :: r => z_gg (Nat.ble (z_words r) 8 && !(Nat.beq a 0)) (n, lc, r, M)
  | _ => none
noncomputable def aRI : zA := fun _ lc st M => match st with
  | [.int x] => z_rt (some (.int x)) M
  | _ => none
noncomputable def aRZ : zA := fun _ lc st M => match st with
  | [.int x] => some (decide (x &&& 1 = x), .inr (.inr (some (.int x), M)))
  | _ => none
noncomputable def aRJ : zA := fun _ lc st M => match st with
  | [.long x] => z_rt (some (.long x)) M
  | _ => none
noncomputable def aRD : zA := fun _ lc st M => match st with
  | [.double x] => z_rt (some (.double x)) M
  | _ => none
noncomputable def aRR : zA := fun _ lc st M => match st with
  | [.ref x] => z_rt (some (.ref x)) M
  | _ => none
noncomputable def aRV : zA := fun _ lc st M => match st with
  | [] => z_rt none M
  | _ => none
