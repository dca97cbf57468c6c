/-! S LEVEL: a strip: kind, number, ticks, lost, bytes of its head, elements, head, row. -/
abbrev zT : Type := Nat × Nat × Nat × Bool × Nat × Nat × (Nat → Int32) × (Nat → Int32)
def tK (T : zT) : Nat := T.1
def tN (T : zT) : Nat := T.2.1
def tU (T : zT) : Nat := T.2.2.1
def tL (T : zT) : Bool := T.2.2.2.1
def tH (T : zT) : Nat := T.2.2.2.2.1
def tS (T : zT) : Nat := T.2.2.2.2.2.1
def tB (T : zT) : Nat → Int32 := T.2.2.2.2.2.2.1
def tE (T : zT) : Nat → Int32 := T.2.2.2.2.2.2.2
/-- width of an element, as bits of a shift and in bytes -/
def wbF (k : Nat) : Nat := if k = 0 then 0 else if k = 3 then 2 else 1
def wF (k : Nat) : Nat := if k = 0 then 1 else if k = 3 then 4 else 2
theorem wF_pow (k : Nat) : 2 ^ wbF k = wF k := by unfold wbF wF; by_cases h : k = 0 <;> by_cases h2 : k = 3 <;> simp [h, h2]
theorem wbF_lt (k : Nat) : wbF k ≤ 2 := by unfold wbF; by_cases h : k = 0 <;> by_cases h2 : k = 3 <;> simp [h, h2]
theorem wF_c (k : Nat) : wF k = 1 ∨ wF k = 2 ∨ wF k = 4 := by unfold wF; by_cases h : k = 0 <;> by_cases h2 : k = 3 <;> simp [h, h2]
noncomputable def loF (k : Nat) (v : Int32) : Int32 := if k = 0 then ebF v 0 else if k = 1 then (Int32.toInt16 v).toInt32 else if k = 2 then v &&& zn 65535 else v
def tW (T : zT) : Nat := wF (tK T)
def tZ (T : zT) : Nat := tH T + tS T * tW T
/-- a byte -/
noncomputable def tY (T : zT) (i : Nat) : Int32 := if i < 9 then tB T i else ebF (tE T ((i - 9) / tW T)) (tW T - 1 - (i - 9) % tW T)
/-- sums -/
noncomputable def fB (f : Nat → Int32) : Nat → Nat → Int32 → Int32
  | _, 0, s => s
  | lo, n + 1, s => fB f (lo + 1) n (s * zn 31 + f lo)
noncomputable def tM (T : zT) : Int32 := fB (tY T) 9 (tS T * tW T) (fB (tB T) 0 5 (zn 1))
noncomputable def h5F (T : zT) (i : Nat) : Int32 := if i = 0 then ebF (zn (tK T)) 0 else if i = 1 then ebF (zn (tN T)) 1 else if i = 2 then ebF (zn (tN T)) 0 else if i = 3 then ebF (zn (tS T)) 1 else ebF (zn (tS T)) 0
noncomputable def h9F (T : zT) : zT := (tK T, tN T, tU T, tL T, 9, tS T, h5F T, tE T)
noncomputable def sealT (T : zT) : zT := (tK T, tN T, tU T, tL T, 9, tS T, fun i => if i < 5 then h5F T i else ebF (tM (h9F T)) (8 - i), tE T)
noncomputable def shF (a b : Int32) : Int32 := (a <<< zn 8) ||| (b &&& zn 255)
noncomputable def suF (f : Nat → Int32) : Int32 := shF (shF (shF (f 5) (f 6)) (f 7)) (f 8)
/-- what is found -/
noncomputable def findT (T : zT) : Nat := if tL T = true then 1 else if tH T < 9 then 2 else if tB T 0 ≠ zn (tK T) then 5 else if (tS T : Int) < (shF (tB T 3) (tB T 4)).toInt then 7 else if (shF (tB T 3) (tB T 4)).toInt < 0 then 3 else if (shF (tB T 3) (tB T 4)).toInt < tS T then 8 else if suF (tB T) = tM T then 0 else 9
def wT (T : zT) : Prop := tK T ≤ 3 ∧ tN T ≤ 30000 ∧ tU T ≤ 256 ∧ tH T ≤ 9 ∧ tS T ≤ 256 ∧ (0 < tS T → tH T = 9) ∧ (tL T = true → tH T = 0) ∧ (∀ i, i < 9 → isB (tB T i)) ∧ (∀ k, k < 256 → loF (tK T) (tE T k) = tE T k)
noncomputable def bI (b : Bool) : Int32 := if b then zn 1 else zn 0
theorem bI_T : bI true = zn 1 := rfl
theorem bI_F : bI false = zn 0 := rfl
/-- what holds a strip: in the class, in the reference -/
def cT (A : zM) (a : Nat) (T : zT) : Prop := z_hd zQ A a = some (9, 7) ∧ zI A a 0 = zn (tK T) ∧ zI A a 1 = zn (tN T) ∧ zI A a 2 = zn (tU T) ∧ zI A a 3 = zn (wbF (tK T)) ∧ zI A a 5 = zn (tZ T) ∧ zI A a 6 = bI (tL T) ∧ (∃ c, z_hd zQ A (zP zQ A a 4) = some (12, c) ∧ tZ T ≤ c ∧ 9 ≤ c ∧ c ≤ 1033) ∧ ∀ i, i < tZ T → zI A (zP zQ A a 4) i = tY T i
def rT (B : zM) (p : Nat) (T : zT) : Prop := zI B 18 p = zn (tK T) ∧ zI B 19 p = zn (tN T) ∧ zI B 20 p = zn (tU T) ∧ zI B 21 p = bI (tL T) ∧ zI B 22 p = zn (tH T) ∧ zI B 24 p = zn (tS T) ∧ (∀ i, i < 9 → zI B 23 (9 * p + i) = tB T i) ∧ ∀ k, k < 256 → zI B 25 (256 * p + k) = tE T k
theorem tZ_le {T : zT} (h : wT T) : tZ T ≤ 1033 := by
  obtain ⟨-, -, -, h4, h5, -⟩ := h
  unfold tZ tW
  have := wF_c (tK T)
  have : tS T * wF (tK T) ≤ 256 * 4 := Nat.mul_le_mul h5 (by omega)
  omega
theorem fB_congr (f g : Nat → Int32) : ∀ (n lo : Nat) (s : Int32), (∀ i, lo ≤ i → i < lo + n → f i = g i) → fB f lo n s = fB g lo n s
  | 0, _, _, _ => rfl
  | n + 1, lo, s, h => by
    unfold fB
    rw [h lo (Nat.le_refl _) (by omega)]
    exact fB_congr f g n (lo + 1) _ (fun i h1 h2 => h i (by omega) (by omega))
theorem fB_add (f : Nat → Int32) : ∀ (m n lo : Nat) (s : Int32), fB f lo (m + n) s = fB f (lo + m) n (fB f lo m s)
  | 0, n, lo, s => by rw [Nat.zero_add, Nat.add_zero]; rfl
  | m + 1, n, lo, s => by
    rw [show m + 1 + n = (m + n) + 1 by omega]
    unfold fB
    rw [fB_add f m n (lo + 1) _, show lo + 1 + m = lo + (m + 1) by omega]
    cases n <;> rfl
/-- what is read as a number -/
theorem shF_toInt {a b : Int32} (h : isB a) : (shF a b).toInt = a.toInt * 256 + b.toInt % 256 := by
  have := (isB_iff a).mp h
  exact tI_sh8 (by omega) (by omega)
theorem suF_toInt {f : Nat → Int32} (h : isB (f 5)) : (suF f).toInt = ((f 5).toInt * 256 + (f 6).toInt % 256) * 65536 + (f 7).toInt % 256 * 256 + (f 8).toInt % 256 := by
  have h5 := (isB_iff _).mp h
  have e1 := shF_toInt (a := f 5) (b := f 6) h
  have e2 : (shF (shF (f 5) (f 6)) (f 7)).toInt = (shF (f 5) (f 6)).toInt * 256 + (f 7).toInt % 256 := tI_sh8 (by omega) (by omega)
  have e3 : (shF (shF (shF (f 5) (f 6)) (f 7)) (f 8)).toInt = (shF (shF (f 5) (f 6)) (f 7)).toInt * 256 + (f 8).toInt % 256 := tI_sh8 (by omega) (by omega)
  unfold suF
  rw [e3, e2, e1]
  omega
theorem sh16 {a b : Int32} (h : isB a) : (Int32.toInt16 (shF a b)).toInt32 = shF a b := by
  apply tI_eq
  have := (isB_iff a).mp h
  rw [tI_b16, shF_toInt h]
  omega
