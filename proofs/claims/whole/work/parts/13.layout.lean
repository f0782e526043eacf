/-! ===== where what lies: the model's object at 100, its arrays at 101 and their slot; the class's object at 200, its arrays at 201 and their slot; gates at 300, 340, 380; String constants at 900 ..; all that is made later from 1000 on ===== -/
def zget : List Nat → Nat → Nat
  | [], _ => 0
  | a :: _, 0 => a
  | _ :: l, n + 1 => zget l n
def mKl : List Nat := [14, 0, 0, 0, 22, 22, 22, 22, 22, 0, 0, 0, 0, 0, 22, 22, 22, 22, 22, 22, 22, 22, 0, 0, 0, 22, 24, 22, 0, 0, 22, 22, 22, 22, 22, 0, 22, 22, 22, 0, 0, 22, 22, 22, 22, 0, 0, 0, 0, 0, 0, 0, 0, 22, 22, 22, 22, 22, 22, 22, 22, 22, 22, 22, 22, 0, 22, 22, 22, 23, 23]
def mNl : List Nat := [0, 0, 0, 0, 6, 6, 6, 6, 24, 0, 0, 0, 0, 0, 100, 6, 60, 60, 60, 60, 600, 101, 0, 0, 0, 13, 100, 6, 0, 0, 6, 6, 36, 6, 6, 0, 5, 5, 5, 0, 0, 10, 10, 8, 8, 0, 0, 0, 0, 0, 0, 0, 0, 6, 6, 6, 6, 24, 5, 5, 5, 10, 10, 8, 8, 0, 20, 6, 6, 360, 60]
def xKl : List Nat := [13, 0, 0, 0, 0, 21, 0, 0, 1, 22, 22, 22, 22, 23, 0, 0, 0, 0, 0, 0, 20]
def xNl : List Nat := [0, 0, 0, 0, 0, 100, 0, 0, 0, 36, 64, 6, 6, 360, 0, 0, 0, 0, 0, 0, 16]
def gKl : List Nat := [3, 25, 22, 22, 22, 0, 0, 0, 0, 0, 10, 22, 22, 22, 10, 22, 22, 22, 10, 22, 22, 22]
def gNl : List Nat := [0, 6, 6, 6, 24, 0, 0, 0, 0, 0, 0, 5, 5, 5, 0, 10, 10, 10, 0, 8, 8, 8]
def kF (K : Nat → Nat) (p : Nat) : Nat := bif Nat.blt p 1000 then (bif Nat.blt p 100 then 0 else bif Nat.blt p 200 then zget mKl (p - 100) else bif Nat.blt p 300 then zget xKl (p - 200) else bif Nat.blt p 340 then zget gKl (p - 300) else bif Nat.blt p 380 then zget gKl (p - 340) else bif Nat.blt p 420 then zget gKl (p - 380) else bif Nat.blt p 900 then 0 else bif Nat.blt p 904 then 30 else bif Nat.blt p 910 then 0 else bif Nat.blt p 914 then 31 else 0) else K p
def nF (N : Nat → Nat) (p : Nat) : Nat := bif Nat.blt p 1000 then (bif Nat.blt p 100 then 0 else bif Nat.blt p 200 then zget mNl (p - 100) else bif Nat.blt p 300 then zget xNl (p - 200) else bif Nat.blt p 340 then zget gNl (p - 300) else bif Nat.blt p 380 then zget gNl (p - 340) else bif Nat.blt p 420 then zget gNl (p - 380) else 0) else N p
/-- a reference to the place behind, if there is something -/
def rS (l : List Nat) (b k : Nat) : Option Nat := bif Nat.beq (zget l (k + 1)) 0 then none else some (b + k)
def rG (R : Nat → Nat → Option Nat) (g o k : Nat) : Option Nat := bif Nat.beq o 0 then (bif Nat.blt k 4 then some (g + 1 + k) else bif Nat.beq k 7 then R g 7 else bif Nat.beq k 8 then some (g + 10) else bif Nat.beq k 9 then some (g + 14) else bif Nat.beq k 10 then some (g + 18) else none)
  else bif Nat.beq o 1 then R (g + 1) k else bif Nat.beq o 10 || Nat.beq o 14 || Nat.beq o 18 then (bif Nat.blt k 3 then some (g + o + 1 + k) else none) else none
def rF (R : Nat → Nat → Option Nat) (p k : Nat) : Option Nat := bif Nat.blt p 1000 then (bif Nat.beq p 100 then rS mKl 101 k else bif Nat.beq p 200 then (bif Nat.beq k 0 then some 300 else bif Nat.beq k 1 then some 340 else bif Nat.beq k 2 then some 380 else rS xKl 201 k) else bif Nat.beq p 208 then (bif Nat.beq k 0 then some 220 else none) else bif Nat.blt p 300 then none else bif Nat.blt p 340 then rG R 300 (p - 300) k else bif Nat.blt p 380 then rG R 340 (p - 340) k else bif Nat.blt p 420 then rG R 380 (p - 380) k else none) else R p k
abbrev sg (K N : Nat → Nat) (R : Nat → Nat → Option Nat) (I : Nat → Nat → Int32) (L : Nat → Nat → Int64) : Sg := (kF K, nF N, I, L, rF R)
def b2i (b : Bool) : Int32 := bif b then 1 else 0
