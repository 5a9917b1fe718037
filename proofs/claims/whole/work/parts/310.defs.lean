/-! ===== the abstract state: the reference's own fields and rows; what of them is scratch ===== -/
abbrev ZA : Type := (Nat → Int32) × (Nat → Nat → Int32)
def aN (A : ZA) (j : Nat) : Nat := (A.1 j).toNatClampNeg
def zV (S : ZH) : ZA := (zI S 12 0, fun k => zI S k 0)
def eqA (A A' : ZA) : Prop := (∀ j, j ≠ 0 → j ≠ 30 → A'.1 j = A.1 j) ∧ ∀ k, 29 ≤ k → k ≠ 30 → k ≠ 43 → k ≠ 45 → k ≠ 46 → k ≠ 47 → A'.2 k = A.2 k
/-- fields and rows of the abstract state, changed -/
def aF (A : ZA) (j : Nat) (v : Int32) : ZA := (fun j' => if j' = j then v else A.1 j', A.2)
def aR (A : ZA) (k i : Nat) (v : Int32) : ZA := (A.1, fun k' i' => if k' = k ∧ i' = i then v else A.2 k' i')
/-- the reference's object: its rows and their lengths -/
def SMr : List Nat := [2, 3, 6, 7, 8, 10, 11, 12, 13, 14, 16, 18, 19, 20, 21, 23, 27, 28, 29, 32, 33, 34, 35, 36, 37, 38]
def SMl : List (Nat × Nat) := [(29, 64), (30, 64), (31, 320), (32, 40), (33, 36000), (34, 10), (35, 10), (36, 10), (37, 10), (38, 10), (39, 540), (40, 8), (41, 8), (42, 480), (43, 64), (44, 360), (45, 8), (46, 6), (47, 8), (48, 40), (49, 40), (50, 40), (51, 40), (52, 40), (53, 10), (54, 40)]
def SM (S : ZH) : Prop := (∀ j ∈ SMr, zR S 12 0 j = some 0) ∧ ∀ q ∈ SMl, zL S q.1 0 = q.2
/-- the class's objects that are there from the start -/
def SCr : List (Nat × Nat) := [(11, 0), (11, 1), (11, 3), (11, 5), (11, 7), (11, 8), (11, 10), (11, 12), (11, 13), (11, 14), (11, 15), (10, 1), (10, 2), (5, 1), (1, 0), (1, 1), (1, 2), (1, 3)]
def SCl : List (Nat × Nat) := [(22, 40), (23, 60), (24, 8), (25, 10), (26, 40), (27, 10), (28, 8), (14, 8), (15, 25), (16, 6), (20, 64), (21, 64), (19, 60)]
def SC (S : ZH) : Prop := (∀ q ∈ SCr, zR S q.1 0 q.2 = some 0) ∧ ∀ q ∈ SCl, zL S q.1 0 = q.2
/-- which places there are -/
def isPl (A : ZA) (p : Int32) : Prop := isIx (aN A 1) p ∨ (∃ s, s < aN A 9 ∧ p = nI (10 + s)) ∨ p = 20 ∨ p = 21 ∨ p = 22 ∨ p = 23
def aPl (A : ZA) (t i : Nat) : Int32 := A.2 33 (40 * t + i)
def aP (A : ZA) (i : Nat) : Int32 := aPl A (aN A 4) i
def b01 (x : Int32) : Prop := x = 0 ∨ x = 1
abbrev rg (x : Int32) (a b : Int) : Prop := a ≤ x.toInt ∧ x.toInt ≤ b
/-- a counter of the reference -/
def ctr (A : ZA) (j m : Nat) : Prop := A.1 j = nI (aN A j) ∧ aN A j ≤ m
/-- what holds of every abstract state -/
def AIn (A : ZA) : Prop :=
  (ctr A 1 8 ∧ 1 ≤ aN A 1 ∧ ctr A 4 899 ∧ ctr A 5 40 ∧ ctr A 9 10 ∧ ctr A 15 60 ∧ ctr A 17 8 ∧ ctr A 22 60 ∧ ctr A 24 60 ∧ aN A 24 ≤ aN A 22 ∧ ctr A 31 40 ∧ rg (A.1 25) 0 40 ∧ rg (A.1 26) 0 100)
  ∧ ((∀ j, j < 64 → b01 (A.2 29 j)) ∧ (∀ a b, a < 8 → b < 8 → (aN A 1 ≤ a ∨ aN A 1 ≤ b ∨ a = b) → A.2 29 (8 * a + b) = 0) ∧ ∀ a b, a < 8 → b < 8 → A.2 29 (8 * a + b) = A.2 29 (8 * b + a))
  ∧ ((∀ i, i < aN A 5 → rg (A.2 31 (8 * i)) 10 60 ∧ rg (A.2 31 (8 * i + 1)) 0 3 ∧ rg (A.2 31 (8 * i + 2)) 0 3 ∧ rg (A.2 31 (8 * i + 3)) 50 80 ∧ rg (A.2 31 (8 * i + 4)) 0 5 ∧ rg (A.2 31 (8 * i + 5)) 0 40 ∧ isIx (aN A 1) (A.2 31 (8 * i + 6)) ∧ b01 (A.2 31 (8 * i + 7))) ∧ ∀ t i, t ≤ aN A 4 → i < aN A 5 → isPl A (aPl A t i))
  ∧ ((∀ s, s < aN A 9 → b01 (A.2 34 s) ∧ rg (A.2 35 s) 1 20 ∧ rg (A.2 36 s) 0 20 ∧ rg (A.2 37 s) 0 20 ∧ b01 (A.2 38 s)) ∧ ∀ s, aN A 9 ≤ s → s < 10 → A.2 38 s = 0)
  ∧ (∀ p, p < aN A 15 → isIx (aN A 5) (A.2 39 (9 * p)) ∧ (A.2 39 (9 * p + 1) = -9 ∨ rg (A.2 39 (9 * p + 1)) 0 3) ∧ (A.2 39 (9 * p + 2) = -9 ∨ rg (A.2 39 (9 * p + 2)) 0 3) ∧ (∀ j, 3 ≤ j → j < 9 → rg (A.2 39 (9 * p + j)) 0 899))
  ∧ ((∀ a, a < 8 → A.2 41 a = nI (A.2 41 a).toNatClampNeg ∧ (A.2 41 a).toNatClampNeg ≤ 60) ∧ (∀ a, aN A 17 ≤ a → a < 8 → A.2 41 a = 0) ∧ (∀ a, a < aN A 17 → rg (A.2 40 a) 0 899) ∧ ∀ a k, a < aN A 17 → k < (A.2 41 a).toNatClampNeg → rg (A.2 42 (60 * a + k)) 33 126)
  ∧ (∀ t, t < aN A 22 → isIx (aN A 4 + 1) (A.2 44 (6 * t)) ∧ isIx (aN A 5) (A.2 44 (6 * t + 1)) ∧ (A.2 44 (6 * t + 2) = -9 ∨ isIx (aN A 15) (A.2 44 (6 * t + 2))) ∧ (isIx (aN A 1) (A.2 44 (6 * t + 3)) ∨ rg (A.2 44 (6 * t + 3)) 10 19) ∧ b01 (A.2 44 (6 * t + 4)) ∧ b01 (A.2 44 (6 * t + 5)))
  ∧ (∀ t, t < 40 → (t < aN A 31 → isIx (aN A 5) (A.2 48 t) ∧ rg (A.2 49 t) 1 4950 ∧ (A.2 50 t = -9 ∨ isIx 10 (A.2 50 t)) ∧ b01 (A.2 51 t)) ∧ (aN A 31 ≤ t → A.2 51 t = 0 ∧ A.2 52 t = 0))
  ∧ (∀ m, aN A 5 ≤ m → m < 40 → A.2 54 m = 0)
/-! the class's state beside the abstract one -/
/-- the last taking of a man, among the first n -/
def lastT (tk : Nat → Int32) (i : Nat) : Nat → Option Nat
  | 0 => none
  | n + 1 => if tk (6 * n + 1) = nI i then some n else lastT tk i n
/-- where a man was as of a tide, by his first n moves -/
def plAt (home : Int32) (T P : Nat → Int32) : Nat → Nat → Int32
  | 0, _ => home
  | n + 1, t => if (T n).toInt ≤ (t : Int) then P n else plAt home T P n t
def tt (S : ZH) (i : Nat) : Nat := (zR S 3 i 11).getD 0
def mvs (S : ZH) (i : Nat) : Nat := (zI S 3 i 13).toNatClampNeg
def capOf (S : ZH) (i : Nat) : Nat := zL S 17 (tt S i)
def RMan (A : ZA) (S : ZH) (i : Nat) : Prop :=
  (∀ j, j < 8 → zI S 3 i j = A.2 31 (8 * i + j)) ∧ zI S 3 i 8 = aP A i ∧ zI S 3 i 9 = A.2 54 i ∧ zR S 3 i 10 = lastT (A.2 44) i (aN A 22)
  ∧ (zR S 3 i 11 = some (tt S i) ∧ zR S 3 i 12 = some (tt S i) ∧ zL S 18 (tt S i) = capOf S i ∧ 4 ≤ capOf S i ∧ capOf S i ≤ 1800)
  ∧ (zI S 3 i 13 = nI (mvs S i) ∧ mvs S i ≤ capOf S i ∧ mvs S i ≤ 900)
  ∧ ((∀ j, j < mvs S i → isIx (aN A 4 + 1) (zI S 17 (tt S i) j)) ∧ ∀ j k, j < k → k < mvs S i → (zI S 17 (tt S i) j).toInt < (zI S 17 (tt S i) k).toInt)
  ∧ (∀ t, t ≤ aN A 4 → aPl A t i = plAt (A.2 31 (8 * i + 6)) (zI S 17 (tt S i)) (zI S 18 (tt S i)) (mvs S i) t)
  ∧ (aP A i = 21 → 1 ≤ mvs S i ∧ zI S 17 (tt S i) (mvs S i - 1) = A.2 32 i)
def sumN (f : Nat → Nat) : Nat → Nat
  | 0 => 0
  | n + 1 => sumN f n + f n
def RCm (A : ZA) (S : ZH) : Prop := zI S 11 0 2 = A.1 5 ∧ zN S 3 = aN A 5 ∧ (∀ i, i < aN A 5 → zR S 22 0 i = some i ∧ RMan A S i) ∧ (∀ i j, i < aN A 5 → j < aN A 5 → tt S i = tt S j → i = j) ∧ (∀ i, i < aN A 5 → tt S i < zN S 17) ∧ zN S 17 = zN S 18
