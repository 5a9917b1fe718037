/-! FAR: the reference's way of reckoning it -/
def fw0 (w : Nat → Int32) (a b : Nat) : Nat := if a = b then 0 else if w (8 * a + b) = 0 then 100 else 1
def fwS (M : Nat → Nat → Nat) (c a b : Nat) : Nat := if M a c + M c b < M a b then M a c + M c b else M a b
def fwN (w : Nat → Int32) : Nat → Nat → Nat → Nat
  | 0 => fw0 w
  | c + 1 => fwS (fwN w c) c
def aD (A : ZA) (a b : Nat) : Nat := fwN (A.2 29) 8 a b
def cD (d : Nat) : Int32 := nI (if d < 100 then d else 999)
def RCt (A : ZA) (S : ZH) : Prop := zI S 10 0 0 = A.1 1 ∧ (∀ j, j < 64 → zI S 20 0 j = A.2 29 j) ∧ (zI S 10 0 3 = 0 ∨ (zI S 10 0 3 = 1 ∧ ∀ a b, a < aN A 1 → b < aN A 1 → zI S 21 0 (8 * a + b) = cD (aD A a b)))
def RCp (A : ZA) (S : ZH) : Prop := zI S 11 0 4 = A.1 15 ∧ zN S 4 = aN A 15 ∧ zN S 7 = 3 * aN A 15 ∧ ∀ p, p < aN A 15 → zR S 23 0 p = some p ∧ zI S 4 p 0 = A.2 39 (9 * p) ∧ zI S 4 p 1 = A.2 39 (9 * p + 1) ∧ zI S 4 p 2 = A.2 39 (9 * p + 2) ∧ zR S 4 p 3 = some (3 * p) ∧ zR S 4 p 4 = some (3 * p + 1) ∧ zR S 4 p 5 = some (3 * p + 2) ∧ zI S 7 (3 * p) 0 = A.2 39 (9 * p + 3) ∧ zI S 7 (3 * p) 1 = A.2 39 (9 * p + 4) ∧ zI S 7 (3 * p + 1) 0 = A.2 39 (9 * p + 5) ∧ zI S 7 (3 * p + 1) 1 = A.2 39 (9 * p + 6) ∧ zI S 7 (3 * p + 2) 0 = A.2 39 (9 * p + 7) ∧ zI S 7 (3 * p + 2) 1 = A.2 39 (9 * p + 8)
/-! the reading of a text: a fault's place, or how many texts lack and how many digits -/
def isTst (v : Int32) : Prop := v = 97 ∨ v = 65 ∨ v = 121 ∨ v = 89 ∨ v = 116
def isFlg (v : Int32) : Prop := v = 112 ∨ v = 115 ∨ v = 104
def stp (k : Nat) (v : Int32) (q : Nat × Nat) : Nat ⊕ (Nat × Nat) :=
  if 0 < q.2 then (if 48 ≤ v.toInt ∧ v.toInt ≤ 57 then .inr (q.1, q.2 - 1) else .inl k)
  else if q.1 = 0 then .inl k
  else if v = 38 ∨ v = 124 then .inr (q.1 + 1, 0)
  else if v = 97 ∨ v = 65 ∨ v = 121 ∨ v = 89 ∨ v = 116 then .inr (q.1 - 1, 2)
  else if v = 112 ∨ v = 115 ∨ v = 104 then .inr (q.1 - 1, 0)
  else if v = 33 then .inr q
  else .inl k
def prs (sg : Nat → Int32) : Nat → Nat ⊕ (Nat × Nat)
  | 0 => .inr (1, 0)
  | k + 1 => match prs sg k with
    | .inl f => .inl f
    | .inr q => stp k (sg k) q
def aSg (A : ZA) (a : Nat) : Nat → Int32 := fun k => A.2 42 (60 * a + k)
def aSn (A : ZA) (a : Nat) : Nat := (A.2 41 a).toNatClampNeg
def RAct (A : ZA) (S : ZH) (a : Nat) : Prop := zR S 24 0 a = some a ∧ zR S 0 a 2 = some a ∧ zL S 13 a = 60 ∧ zI S 0 a 0 = A.2 40 a ∧ zI S 0 a 1 = A.2 41 a ∧ (∀ k, k < aSn A a → zI S 13 a k = A.2 42 (60 * a + k)) ∧ match prs (aSg A a) (aSn A a) with
  | .inl f => zI S 0 a 5 = nI f
  | .inr q => zI S 0 a 5 = -9 ∧ zI S 0 a 4 = nI q.2 ∧ zI S 0 a 3 = nI (if 0 < q.2 then q.1 + 1 else q.1)
def RCa (A : ZA) (S : ZH) : Prop := zI S 11 0 6 = A.1 17 ∧ zN S 0 = aN A 17 ∧ zN S 13 = aN A 17 ∧ ∀ a, a < aN A 17 → RAct A S a
def RCk (A : ZA) (S : ZH) : Prop := zI S 5 0 0 = A.1 22 ∧ zI S 5 0 2 = A.1 24 ∧ zN S 8 = aN A 22 ∧ ∀ t, t < aN A 22 → zR S 19 0 t = some t ∧ ∀ j, j < 6 → zI S 8 t j = A.2 44 (6 * t + j)
def RCs (A : ZA) (S : ZH) : Prop := zI S 11 0 9 = A.1 9 ∧ zN S 6 = aN A 9 ∧ ∀ s, s < aN A 9 → zR S 25 0 s = some s ∧ zI S 6 s 0 = A.2 34 s ∧ zI S 6 s 1 = A.2 35 s ∧ zI S 6 s 2 = A.2 36 s ∧ zI S 6 s 3 = A.2 37 s ∧ zI S 6 s 4 = (if A.2 38 s = 0 then 1 else 0)
def RCc (A : ZA) (S : ZH) : Prop := zI S 11 0 11 = A.1 31 ∧ zN S 9 = aN A 31 ∧ ∀ t, t < aN A 31 → zR S 26 0 t = some t ∧ zI S 9 t 0 = A.2 48 t ∧ zI S 9 t 1 = A.2 49 t ∧ zI S 9 t 2 = A.2 50 t ∧ zI S 9 t 3 = A.2 51 t ∧ zI S 9 t 4 = A.2 52 t
def RCx (A : ZA) (S : ZH) : Prop := zI S 11 0 16 = A.1 4 ∧ zI S 11 0 17 = A.1 25 ∧ zI S 11 0 18 = A.1 26 ∧ ∀ h, h < 10 → zI S 27 0 h = A.2 53 h + 10000000
def RCb (A : ZA) (S : ZH) : Prop := zc S ≤ 100 + sumN (capOf S) (aN A 5) + aN A 5 + 4 * aN A 15 + 2 * aN A 17 + aN A 22 + aN A 9 + aN A 31 ∧ zs S ≤ 40000 + 4 * sumN (capOf S) (aN A 5) + 14 * aN A 5 + 12 * aN A 15 + 66 * aN A 17 + 6 * aN A 22 + 5 * aN A 9 + 5 * aN A 31
def RC (A : ZA) (S : ZH) : Prop := SC S ∧ RCt A S ∧ RCm A S ∧ RCp A S ∧ RCa A S ∧ RCk A S ∧ RCs A S ∧ RCc A S ∧ RCx A S ∧ RCb A S
def isM (k : Nat) : Prop := k = 12 ∨ (29 ≤ k ∧ k ≤ 54)
def frM (S S' : ZH) : Prop := ∀ k, isM k → eqK S S' k
def frC (S S' : ZH) : Prop := (∀ k, ¬ isM k → eqK S S' k) ∧ zc S' = zc S ∧ zs S' = zs S
theorem frM.rf {S : ZH} : frM S S := fun _ _ => eqK.rf
theorem frC.rf {S : ZH} : frC S S := ⟨fun _ _ => eqK.rf, rfl, rfl⟩
theorem frM.tr {S S1 S2 : ZH} (h : frM S S1) (h' : frM S1 S2) : frM S S2 := fun k hk => (h k hk).tr (h' k hk)
theorem frC.tr {S S1 S2 : ZH} (h : frC S S1) (h' : frC S1 S2) : frC S S2 := ⟨fun k hk => (h.1 k hk).tr (h'.1 k hk), h'.2.1.trans h.2.1, h'.2.2.trans h.2.2⟩
theorem frM_sI {S : ZH} {k i j : Nat} {v : Int32} (h : ¬ isM k) : frM S (zsI S k i j v) := fun k' hk => eqK_sI (fun e => h (e ▸ hk))
theorem frM_sR {S : ZH} {k i j : Nat} {v : Option Nat} (h : ¬ isM k) : frM S (zsR S k i j v) := fun k' hk => eqK_sR (fun e => h (e ▸ hk))
theorem frM_new {S : ZH} {k n : Nat} (h : ¬ isM k) : frM S (zNew S k n) := fun k' hk => eqK_new (fun e => h (e ▸ hk))
theorem frC_sI {S : ZH} {k i j : Nat} {v : Int32} (h : isM k) : frC S (zsI S k i j v) := ⟨fun k' hk => eqK_sI (fun e => hk (e ▸ h)), rfl, rfl⟩
theorem eqA.rf {A : ZA} : eqA A A := ⟨fun _ _ _ => rfl, fun _ _ _ _ _ _ _ => rfl⟩
theorem eqA.sy {A A' : ZA} (h : eqA A A') : eqA A' A := ⟨fun j a b => (h.1 j a b).symm, fun k z a b c d e => (h.2 k z a b c d e).symm⟩
theorem eqA.tr {A A1 A2 : ZA} (h : eqA A A1) (h' : eqA A1 A2) : eqA A A2 := ⟨fun j a b => (h'.1 j a b).trans (h.1 j a b), fun k z a b c d e => (h'.2 k z a b c d e).trans (h.2 k z a b c d e)⟩
theorem eqA.n {A A' : ZA} (h : eqA A A') {j : Nat} (h0 : j ≠ 0) (h1 : j ≠ 30) : aN A' j = aN A j := by unfold aN; rw [h.1 j h0 h1]
/-- a write of the reference's scratch changes nothing abstract -/
theorem zV_sF {S : ZH} {j : Nat} {v : Int32} (h : j = 0 ∨ j = 30) : eqA (zV S) (zV (zsI S 12 0 j v)) := by
  refine ⟨fun j' h0 h1 => ?_, fun k hk _ _ _ _ _ => ?_⟩
  · show zI (zsI S 12 0 j v) 12 0 j' = _
    rw [zI_sI, if_neg (by rintro ⟨-, rfl⟩; omega)]
    rfl
  · show zI (zsI S 12 0 j v) k 0 = zI S k 0
    rw [(eqK_sI (S := S) (v := v) (i := 0) (j := j) (k := 12) (k' := k) (by omega)).2.2.1]
theorem zV_sS {S : ZH} {k i j : Nat} {v : Int32} (h : k = 30 ∨ k = 43 ∨ k = 45 ∨ k = 46 ∨ k = 47) : eqA (zV S) (zV (zsI S k i j v)) := by
  refine ⟨fun j' h0 h1 => ?_, fun k' hk _ _ _ _ _ => ?_⟩
  · show zI (zsI S k i j v) 12 0 j' = zI S 12 0 j'
    rw [(eqK_sI (S := S) (v := v) (i := i) (j := j) (k := k) (k' := 12) (by omega)).2.2.1]
  · show zI (zsI S k i j v) k' 0 = zI S k' 0
    rw [(eqK_sI (S := S) (v := v) (i := i) (j := j) (k := k) (k' := k') (by omega)).2.2.1]
theorem zV_F {S : ZH} {j : Nat} {v : Int32} : eqA (aF (zV S) j v) (zV (zsI S 12 0 j v)) := by
  refine ⟨fun j' h0 h1 => ?_, fun k hk _ _ _ _ _ => ?_⟩
  · show zI (zsI S 12 0 j v) 12 0 j' = if j' = j then v else zI S 12 0 j'
    rw [zI_sI]
    by_cases e : j' = j
    · rw [if_pos ⟨rfl, e⟩, if_pos e]
    · rw [if_neg (fun q => e q.2), if_neg e]
  · show zI (zsI S 12 0 j v) k 0 = zI S k 0
    rw [(eqK_sI (S := S) (v := v) (i := 0) (j := j) (k := 12) (k' := k) (by omega)).2.2.1]
theorem zV_R {S : ZH} {k i : Nat} {v : Int32} (h : 29 ≤ k) : eqA (aR (zV S) k i v) (zV (zsI S k 0 i v)) := by
  refine ⟨fun j' h0 h1 => ?_, fun k' hk _ _ _ _ _ => ?_⟩
  · show zI (zsI S k 0 i v) 12 0 j' = zI S 12 0 j'
    rw [(eqK_sI (S := S) (v := v) (i := 0) (j := i) (k := k) (k' := 12) (by omega)).2.2.1]
  · show zI (zsI S k 0 i v) k' 0 = fun i' => if k' = k ∧ i' = i then v else zI S k' 0 i'
    funext i'
    by_cases e : k' = k
    · subst e
      rw [zI_sI]
      by_cases e2 : i' = i
      · rw [if_pos ⟨rfl, e2⟩, if_pos ⟨rfl, e2⟩]
      · rw [if_neg (fun q => e2 q.2), if_neg (fun q => e2 q.2)]
    · rw [(eqK_sI (S := S) (v := v) (i := 0) (j := i) (k := k) (k' := k') e).2.2.1, if_neg (fun q => e q.1)]
theorem eqA.F {A A' : ZA} (h : eqA A A') (j : Nat) (v : Int32) : eqA (aF A j v) (aF A' j v) := by
  refine ⟨fun j' h0 h1 => ?_, h.2⟩
  show (if j' = j then v else A'.1 j') = if j' = j then v else A.1 j'
  rw [h.1 j' h0 h1]
theorem eqA.R {A A' : ZA} (h : eqA A A') (k i : Nat) (v : Int32) : eqA (aR A k i v) (aR A' k i v) := by
  refine ⟨h.1, fun k' z a b c d e => ?_⟩
  show (fun i' => if k' = k ∧ i' = i then v else A'.2 k' i') = fun i' => if k' = k ∧ i' = i then v else A.2 k' i'
  rw [h.2 k' z a b c d e]
/-! what depends on which kinds -/
def nA (A : ZA) : ZA := (fun j => if j = 0 ∨ j = 30 then 0 else A.1 j, fun k => if k < 29 ∨ k = 30 ∨ k = 43 ∨ k = 45 ∨ k = 46 ∨ k = 47 then fun _ => 0 else A.2 k)
theorem eqA.nA {A A' : ZA} (h : eqA A A') : nA A' = nA A := by
  show ((fun j => if j = 0 ∨ j = 30 then 0 else A'.1 j, fun k => if k < 29 ∨ k = 30 ∨ k = 43 ∨ k = 45 ∨ k = 46 ∨ k = 47 then fun _ => 0 else A'.2 k) : ZA) = (fun j => if j = 0 ∨ j = 30 then 0 else A.1 j, fun k => if k < 29 ∨ k = 30 ∨ k = 43 ∨ k = 45 ∨ k = 46 ∨ k = 47 then fun _ => 0 else A.2 k)
  refine Prod.ext (funext fun j => ?_) (funext fun k => ?_)
  · by_cases hj : j = 0 ∨ j = 30
    · simp only [if_pos hj]
    · simp only [if_neg hj]; exact h.1 j (fun e => hj (Or.inl e)) (fun e => hj (Or.inr e))
  · by_cases hk : k < 29 ∨ k = 30 ∨ k = 43 ∨ k = 45 ∨ k = 46 ∨ k = 47
    · simp only [if_pos hk]
    · simp only [if_neg hk]; exact h.2 k (by omega) (by omega) (by omega) (by omega) (by omega) (by omega)
theorem AIn.eq {A A' : ZA} (h : eqA A A') (hA : AIn A) : AIn A' := by
  have h1 : AIn (nA A) := hA
  rw [← h.nA] at h1
  exact h1
theorem RC.eq {A A' : ZA} {S : ZH} (h : eqA A A') (hA : RC A S) : RC A' S := by
  have h1 : RC (nA A) S := hA
  rw [← h.nA] at h1
  exact h1
def rS (P : Nat → Bool) (S : ZH) : ZH := (fun k => if P k = true then zN S k else 0, fun k => if P k = true then zL S k else fun _ => 0, fun k => if P k = true then zI S k else fun _ _ => 0, fun k => if P k = true then zR S k else fun _ _ => none, 0, 0)
theorem rS_eq {P : Nat → Bool} {S S' : ZH} (h : ∀ k, P k = true → eqK S S' k) : rS P S' = rS P S := by
  unfold rS
  have e1 : (fun k => if P k = true then zN S' k else 0) = fun k => if P k = true then zN S k else 0 := funext fun k => by
    by_cases hp : P k = true
    · rw [if_pos hp, if_pos hp, (h k hp).1]
    · rw [if_neg hp, if_neg hp]
  have e2 : (fun k => if P k = true then zL S' k else fun _ => 0) = fun k => if P k = true then zL S k else fun _ => 0 := funext fun k => by
    by_cases hp : P k = true
    · rw [if_pos hp, if_pos hp, (h k hp).2.1]
    · rw [if_neg hp, if_neg hp]
  have e3 : (fun k => if P k = true then zI S' k else fun _ _ => 0) = fun k => if P k = true then zI S k else fun _ _ => 0 := funext fun k => by
    by_cases hp : P k = true
    · rw [if_pos hp, if_pos hp, (h k hp).2.2.1]
    · rw [if_neg hp, if_neg hp]
  have e4 : (fun k => if P k = true then zR S' k else fun _ _ => none) = fun k => if P k = true then zR S k else fun _ _ => none := funext fun k => by
    by_cases hp : P k = true
    · rw [if_pos hp, if_pos hp, (h k hp).2.2.2]
    · rw [if_neg hp, if_neg hp]
  rw [e1, e2, e3, e4]
def kIn (l : List Nat) : Nat → Bool := fun k => l.contains k
theorem RCt.k {A : ZA} {S S' : ZH} (h : ∀ k, kIn [10, 20, 21] k = true → eqK S S' k) (hS : RCt A S) : RCt A S' := by
  have h1 : RCt A (rS (kIn [10, 20, 21]) S) := hS
  rw [← rS_eq h] at h1
  exact h1
theorem RCm.k {A : ZA} {S S' : ZH} (h : ∀ k, kIn [11, 3, 22, 17, 18] k = true → eqK S S' k) (hS : RCm A S) : RCm A S' := by
  have h1 : RCm A (rS (kIn [11, 3, 22, 17, 18]) S) := hS
  rw [← rS_eq h] at h1
  exact h1
theorem RCp.k {A : ZA} {S S' : ZH} (h : ∀ k, kIn [11, 4, 7, 23] k = true → eqK S S' k) (hS : RCp A S) : RCp A S' := by
  have h1 : RCp A (rS (kIn [11, 4, 7, 23]) S) := hS
  rw [← rS_eq h] at h1
  exact h1
theorem RCa.k {A : ZA} {S S' : ZH} (h : ∀ k, kIn [11, 0, 24, 13] k = true → eqK S S' k) (hS : RCa A S) : RCa A S' := by
  have h1 : RCa A (rS (kIn [11, 0, 24, 13]) S) := hS
  rw [← rS_eq h] at h1
  exact h1
theorem RCk.k {A : ZA} {S S' : ZH} (h : ∀ k, kIn [5, 8, 19] k = true → eqK S S' k) (hS : RCk A S) : RCk A S' := by
  have h1 : RCk A (rS (kIn [5, 8, 19]) S) := hS
  rw [← rS_eq h] at h1
  exact h1
theorem RCs.k {A : ZA} {S S' : ZH} (h : ∀ k, kIn [11, 6, 25] k = true → eqK S S' k) (hS : RCs A S) : RCs A S' := by
  have h1 : RCs A (rS (kIn [11, 6, 25]) S) := hS
  rw [← rS_eq h] at h1
  exact h1
theorem RCc.k {A : ZA} {S S' : ZH} (h : ∀ k, kIn [11, 9, 26] k = true → eqK S S' k) (hS : RCc A S) : RCc A S' := by
  have h1 : RCc A (rS (kIn [11, 9, 26]) S) := hS
  rw [← rS_eq h] at h1
  exact h1
theorem RCx.k {A : ZA} {S S' : ZH} (h : ∀ k, kIn [11, 27] k = true → eqK S S' k) (hS : RCx A S) : RCx A S' := by
  have h1 : RCx A (rS (kIn [11, 27]) S) := hS
  rw [← rS_eq h] at h1
  exact h1
theorem SC.k {S S' : ZH} (h : ∀ k, kIn [11, 10, 5, 1, 22, 23, 24, 25, 26, 27, 28, 14, 15, 16, 20, 21, 19] k = true → eqK S S' k) (hS : SC S) : SC S' := by
  refine ⟨fun q hq => ?_, fun q hq => ?_⟩
  · rw [← hS.1 q hq, (h q.1 (by revert q; decide)).2.2.2]
  · rw [← hS.2 q hq, (h q.1 (by revert q; decide)).2.1]
theorem RCb.k {A : ZA} {S S' : ZH} (h3 : eqK S S' 3) (h17 : eqK S S' 17) (hc : zc S' = zc S) (hs : zs S' = zs S) (hS : RCb A S) : RCb A S' := by
  have e : capOf S' = capOf S := by funext i; unfold capOf tt; rw [h3.2.2.2, h17.2.1]
  unfold RCb
  rw [e, hc, hs]
  exact hS
theorem frC.k {S S' : ZH} (h : frC S S') {l : List Nat} (hl : ∀ k ∈ l, ¬ isM k) : ∀ k, kIn l k = true → eqK S S' k := fun k hk => h.1 k (hl k (by simpa [kIn] using hk))
theorem RC.fr {A : ZA} {S S' : ZH} (h : frC S S') (hS : RC A S) : RC A S' := by
  obtain ⟨h0, h1, h2, h3, h4, h5, h6, h7, h8, h9⟩ := hS
  have nm : ∀ k, k < 29 → k ≠ 12 → ¬ isM k := fun k a b c => by unfold isM at c; omega
  exact ⟨h0.k (h.k (fun k hk => nm k (by revert k; decide) (by revert k; decide))), h1.k (h.k (fun k hk => nm k (by revert k; decide) (by revert k; decide))), h2.k (h.k (fun k hk => nm k (by revert k; decide) (by revert k; decide))), h3.k (h.k (fun k hk => nm k (by revert k; decide) (by revert k; decide))), h4.k (h.k (fun k hk => nm k (by revert k; decide) (by revert k; decide))), h5.k (h.k (fun k hk => nm k (by revert k; decide) (by revert k; decide))), h6.k (h.k (fun k hk => nm k (by revert k; decide) (by revert k; decide))), h7.k (h.k (fun k hk => nm k (by revert k; decide) (by revert k; decide))), h8.k (h.k (fun k hk => nm k (by revert k; decide) (by revert k; decide))), h9.k (h.1 3 (nm 3 (by decide) (by decide))) (h.1 17 (nm 17 (by decide) (by decide))) h.2.1 h.2.2⟩
def Good (S : ZH) : Prop := SM S ∧ AIn (zV S) ∧ RC (zV S) S
