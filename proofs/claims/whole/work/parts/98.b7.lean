/-! S LEVEL: how many bits of sixteen. -/
def bc1 (x : Nat) : Nat := Nat.sub x (Nat.land (Nat.shiftRight x 1) 1431655765)
def bc2 (y : Nat) : Nat := Nat.add (Nat.land y 858993459) (Nat.land (Nat.shiftRight y 2) 858993459)
def bc3 (y : Nat) : Nat := Nat.land (Nat.add y (Nat.shiftRight y 4)) 252645135
def bc4 (y : Nat) : Nat := Nat.add y (Nat.shiftRight y 8)
def bc5 (y : Nat) : Nat := Nat.add y (Nat.shiftRight y 16)
def bc6 (x : Nat) : Nat := Nat.land (bc5 (bc4 (bc3 (bc2 (bc1 x))))) 63
def popR : Nat → Nat → Nat
  | 0, _ => 0
  | r + 1, x => Nat.add (Nat.mod x 2) (popR r (Nat.div x 2))
def bcK : Nat → Nat → Bool
  | 0, x => Nat.beq (bc6 x) (popR 16 x)
  | k + 1, x => bcK k x && bcK k (Nat.add x (Nat.pow 2 k))
theorem bcK_s : ∀ (k lo : Nat), bcK k lo = true → ∀ x, lo ≤ x → x < lo + 2 ^ k → bc6 x = popR 16 x
  | 0, lo, h, x, h1, h2 => by
    have e : x = lo := by rw [Nat.pow_zero] at h2; omega
    subst e
    exact Nat.eq_of_beq_eq_true h
  | k + 1, lo, h, x, h1, h2 => by
    unfold bcK at h
    rw [Bool.and_eq_true] at h
    by_cases g : x < lo + 2 ^ k
    · exact bcK_s k lo h.1 x h1 g
    · refine bcK_s k (lo + 2 ^ k) h.2 x (by omega) ?_
      rw [Nat.pow_succ] at h2
      omega
set_option maxRecDepth 100000 in
theorem bcK_all : bcK 16 0 = true := by decide +kernel
theorem bc_pop {x : Nat} (h : x < 65536) : bc6 x = popR 16 x := bcK_s 16 0 bcK_all x (Nat.zero_le _) (by simpa using h)
