/-! THE STANDING CELLS: kinds and lengths of what the two constructors make, and the final fields that point at them (wip/gen/emitB.py) -/
def zQl : List (Nat × Nat) := [(99, 0), (10, 8), (17, 20), (4, 17), (16, 60), (14, 16), (14, 17), (14, 200), (14, 8), (14, 8), (14, 17), (14, 523), (19, 501), (14, 6000), (14, 1792), (11, 68), (14, 20), (14, 8000), (14, 400), (14, 400), (14, 400), (15, 400), (14, 400), (14, 3600), (14, 400), (14, 102400), (14, 60), (14, 60), (14, 480), (14, 60), (14, 60), (15, 60), (13, 60), (14, 16), (14, 16), (14, 16), (14, 200), (14, 8), (14, 8), (14, 17), (14, 80), (14, 80), (15, 60), (15, 8), (14, 8), (15, 16), (14, 340), (14, 340), (14, 340), (14, 60), (14, 60), (14, 6000), (14, 606210), (14, 256), (14, 1800), (14, 1800)]
def zQx : List (Option Nat) := [some 2, some 3, some 14]
def zQo : List (Option Nat) := [some 4, some 5, some 6, some 7, some 8, some 9, some 10, some 11, some 12, some 13]
def zQm : List (Option Nat) := [none, none, some 16, some 17, none, some 18, some 19, some 20, some 21, some 22, some 23, some 24, some 25, none, none, some 26, some 27, some 28, some 29, some 30, some 31, some 32, none, none, some 33, some 34, some 35, none, some 36, some 37, some 38, some 39, some 40, some 41, some 42, none, none, none, some 43, some 44, some 45, none, none, none, none, none, none, none, none, none, none, none, none, some 46, some 47, some 48, some 49, some 50, none, some 51, none, some 52, none, none, some 53, none, some 54, some 55]
def z_nthD : List (Option Nat) → Nat → Option Nat
  | [], _ => none
  | x :: _, 0 => x
  | _ :: r, n + 1 => z_nthD r n
def zQh (a : Nat) : Nat × Nat := match z_nth zQl a with
  | some h => h
  | none => (99, 0)
def zQp (a k : Nat) : Option Nat := bif Nat.beq a 1 then z_nthD zQx k else bif Nat.beq a 3 then z_nthD zQo k else bif Nat.beq a 15 then z_nthD zQm k else none
def zQ : zS := (56, zQh, zQp)
