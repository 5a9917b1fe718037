/-! ===== papers ===== -/
def pf (A : ZA) (p j : Nat) : Int32 := A.2 39 (9 * p + j)
def mf (A : ZA) (m j : Nat) : Int32 := A.2 31 (8 * m + j)
def cvS (f : Nat → Int32) : Int32 := if f 1 = -9 ∨ f 2 = -9 ∨ 5 < f 4 - f 3 ∨ 2 < f 6 - f 5 then 1 else 2
def cvH (f g : Nat → Int32) : Prop := rg (g 0) (f 3).toInt (f 4).toInt ∧ rg (g 3) (f 5).toInt (f 6).toInt
def cvD (f g : Nat → Int32) : Prop := (f 1 = -9 ∨ f 1 = g 1) ∧ (f 2 = -9 ∨ f 2 = g 2) ∧ rg (g 0) (f 3).toInt (f 4).toInt ∧ rg (g 3) (f 5).toInt (f 6).toInt
def aCov (A : ZA) (p m : Nat) (t : Int32) : Int32 := if ((pf A p 1 = -9 ∨ pf A p 1 = mf A m 1) ∧ (pf A p 2 = -9 ∨ pf A p 2 = mf A m 2) ∧ rg (mf A m 0) (pf A p 3).toInt (pf A p 4).toInt ∧ rg (mf A m 3) (pf A p 5).toInt (pf A p 6).toInt) ∧ rg t (pf A p 7).toInt (pf A p 8).toInt then cvS (pf A p) else 0
theorem holds7 (q : Nat) (x : Int32) (S : ZH) : f_X7_holds q x S = some (if rg x (zI S 7 q 0).toInt (zI S 7 q 1).toInt then 1 else 0) := by
  unfold f_X7_holds
  rw [within_eq]
  by_cases h : rg x (zI S 7 q 0).toInt (zI S 7 q 1).toInt
  · simp [h]; rfl
  · simp only [Option.bind_some]
    rw [if_neg h]; rfl
theorem describes_eq {A : ZA} {S : ZH} (h : RC A S) {p m : Nat} (hp : p < aN A 15) (hm : m < aN A 5) : f_X4_describes p (some m) S = some (if (pf A p 1 = -9 ∨ pf A p 1 = mf A m 1) ∧ (pf A p 2 = -9 ∨ pf A p 2 = mf A m 2) ∧ rg (mf A m 0) (pf A p 3).toInt (pf A p 4).toInt ∧ rg (mf A m 3) (pf A p 5).toInt (pf A p 6).toInt then 1 else 0) := by
  obtain ⟨-, e0, e1, e2, r3, r4, r5, e3, e4, e5, e6, e7, e8⟩ := h.paps.2.2.2 p hp
  have g0 : zI S 3 m 0 = mf A m 0 := h.att hm (by omega)
  have g1 : zI S 3 m 1 = mf A m 1 := h.att hm (by omega)
  have g2 : zI S 3 m 2 = mf A m 2 := h.att hm (by omega)
  have g3 : zI S 3 m 3 = mf A m 3 := h.att hm (by omega)
  have e40 : j_X4_describes_40 p (some m) S = some (if rg (mf A m 0) (pf A p 3).toInt (pf A p 4).toInt ∧ rg (mf A m 3) (pf A p 5).toInt (pf A p 6).toInt then 1 else 0) := by
    unfold j_X4_describes_40
    rw [r3, r4]
    simp only [Option.bind_some, holds7]
    rw [g0, g3, e3, e4, e5, e6]
    show (if (if rg (mf A m 0) (pf A p 3).toInt (pf A p 4).toInt then (1 : Int32) else 0) = 0 then _ else _) = _
    by_cases c1 : rg (mf A m 0) (pf A p 3).toInt (pf A p 4).toInt
    · rw [if_pos c1, if_neg (by decide)]
      show (if (if rg (mf A m 3) (pf A p 5).toInt (pf A p 6).toInt then (1 : Int32) else 0) = 0 then _ else _) = _
      by_cases c2 : rg (mf A m 3) (pf A p 5).toInt (pf A p 6).toInt
      · rw [if_pos c2, if_neg (by decide), if_pos ⟨c1, c2⟩]
      · rw [if_neg c2, if_pos rfl, if_neg (fun q => c2 q.2)]
    · rw [if_neg c1, if_pos rfl, if_neg (fun q => c1 q.1)]
  have e20 : j_X4_describes_20 p (some m) S = some (if (pf A p 2 = -9 ∨ pf A p 2 = mf A m 2) ∧ rg (mf A m 0) (pf A p 3).toInt (pf A p 4).toInt ∧ rg (mf A m 3) (pf A p 5).toInt (pf A p 6).toInt then 1 else 0) := by
    unfold j_X4_describes_20
    rw [e2]
    simp only [Option.bind_some, e40, g2]
    show (if pf A p 2 = -9 then _ else _) = _
    by_cases c : pf A p 2 = -9
    · simp [c]
    · by_cases c2 : pf A p 2 = mf A m 2
      · have c2' : A.2 39 (9 * p + 2) = mf A m 2 := c2
        simp [c, c2, c2']
      · have c2' : ¬ A.2 39 (9 * p + 2) = mf A m 2 := c2
        simp [c, c2, c2']
  unfold f_X4_describes
  rw [e1]
  simp only [Option.bind_some, e20, g1]
  show (if pf A p 1 = -9 then _ else _) = _
  by_cases c : pf A p 1 = -9
  · simp [c]
  · by_cases c2 : pf A p 1 = mf A m 1
    · have c2' : A.2 39 (9 * p + 1) = mf A m 1 := c2
      simp [c, c2, c2']
    · have c2' : ¬ A.2 39 (9 * p + 1) = mf A m 1 := c2
      simp [c, c2, c2']
theorem coverage_eq {A : ZA} {S : ZH} (h : RC A S) {p m : Nat} (hp : p < aN A 15) (hm : m < aN A 5) (t : Int32) : f_X4_coverage p (some m) t S = some (aCov A p m t) := by
  have hd := describes_eq h hp hm
  obtain ⟨-, e0, e1, e2, r3, r4, r5, e3, e4, e5, e6, e7, e8⟩ := h.paps.2.2.2 p hp
  have e65 : j_X4_coverage_65 S = some 1 := rfl
  unfold f_X4_coverage f_X7_width
  rw [r5, r3, r4]
  simp only [Option.bind_some, holds7, hd, e65]
  rw [e1, e2, e3, e4, e5, e6, e7, e8]
  unfold aCov cvS
  have k1 : A.2 39 (9 * p + 1) = pf A p 1 := rfl
  have k2 : A.2 39 (9 * p + 2) = pf A p 2 := rfl
  have k3 : A.2 39 (9 * p + 3) = pf A p 3 := rfl
  have k4 : A.2 39 (9 * p + 4) = pf A p 4 := rfl
  have k5 : A.2 39 (9 * p + 5) = pf A p 5 := rfl
  have k6 : A.2 39 (9 * p + 6) = pf A p 6 := rfl
  have k7 : A.2 39 (9 * p + 7) = pf A p 7 := rfl
  have k8 : A.2 39 (9 * p + 8) = pf A p 8 := rfl
  rw [k1, k2, k3, k4, k5, k6, k7, k8]
  clear hd e0 e1 e2 e3 e4 e5 e6 e7 e8 r3 r4 r5 k1 k2 k3 k4 k5 k6 k7 k8 e65 h
  grind
theorem ix9 (i j : Nat) : (9 : Int32) * nI i + nI j = nI (9 * i + j) := by
  rw [show (9 : Int32) = nI 9 from rfl, nI_mul, nI_add]
theorem ix9' (i : Nat) : (9 : Int32) * nI i = nI (9 * i) := by
  rw [show (9 : Int32) = nI 9 from rfl, nI_mul]
theorem ix8' (i : Nat) : (8 : Int32) * nI i = nI (8 * i) := by
  rw [show (8 : Int32) = nI 8 from rfl, nI_mul]
theorem nI_p (n j : Nat) : nI n + nI j = nI (n + j) := nI_add n j
theorem covers_eq {A : ZA} {S : ZH} (hA : AIn A) (h : MV A S) {p m : Nat} (hp : p < aN A 15) (hm : m < aN A 5) (t : Int32) : f_X12_covers 0 (nI p) (nI m) t S = some (aCov A p m t) := by
  have hc := hA.c15.2
  have hc5 := hA.c5.2
  have ld : ∀ j, j < 9 → zld S 39 0 (nI (9 * p + j)) = some (pf A p j) := fun j hj => h.ld 540 rfl rfl (by omega) (by decide)
  have lm : ∀ j, j < 8 → zld S 31 0 (nI (8 * m + j)) = some (mf A m j) := fun j hj => h.ld 320 rfl rfl (by omega) (by decide)
  have lm0 : zld S 31 0 (nI (8 * m)) = some (mf A m 0) := lm 0 (by omega)
  have z1 : (1 : Int32) = nI 1 := rfl
  have e282 : ∀ b s : Int32, j_X12_covers_282 b s S = some (if ¬ b = 0 then (if s = 0 then 1 else 2) else 0) := by
    intro b s
    unfold j_X12_covers_282
    split <;> (try split) <;> rfl
  have e200 : ∀ b : Int32, j_X12_covers_200 0 (nI (9 * p)) b S = some (if ¬ b = 0 then cvS (pf A p) else 0) := by
    intro b
    unfold j_X12_covers_200 j_X12_covers_281
    rw [h.ref 16 rfl]
    simp only [Option.bind_some, e282]
    rw [show nI (9 * p) + (1 : Int32) = nI (9 * p + 1) from nI_p _ 1, show nI (9 * p) + (2 : Int32) = nI (9 * p + 2) from nI_p _ 2, show nI (9 * p) + (3 : Int32) = nI (9 * p + 3) from nI_p _ 3, show nI (9 * p) + (4 : Int32) = nI (9 * p + 4) from nI_p _ 4, show nI (9 * p) + (5 : Int32) = nI (9 * p + 5) from nI_p _ 5, show nI (9 * p) + (6 : Int32) = nI (9 * p + 6) from nI_p _ 6]
    rw [ld 1 (by omega), ld 2 (by omega), ld 3 (by omega), ld 4 (by omega), ld 5 (by omega), ld 6 (by omega)]
    simp only [Option.bind_some]
    unfold cvS
    by_cases a1 : pf A p 1 = -9
    · simp [a1]
    · by_cases a2 : pf A p 2 = -9
      · simp [a1, a2]
      · by_cases a3 : 5 < pf A p 4 - pf A p 3
        · simp [a1, a2, a3]
        · by_cases a4 : 2 < pf A p 6 - pf A p 5
          · simp [a1, a2, a3, a4]
          · simp [a1, a2, a3, a4]
  have inE : ∀ (x a b : Int32), f_X12_in x.toInt64 a.toInt64 b.toInt64 S = some (if rg x a.toInt b.toInt then 1 else 0) := by
    intro x a b
    rw [in_eq, l_toInt, l_toInt, l_toInt]
  have e87 : ∀ s : Int32, j_X12_covers_87 0 t (nI (9 * p)) (nI (8 * m)) s S = some (if ¬ s = 0 ∧ rg t (pf A p 7).toInt (pf A p 8).toInt ∧ rg (mf A m 0) (pf A p 3).toInt (pf A p 4).toInt ∧ rg (mf A m 3) (pf A p 5).toInt (pf A p 6).toInt then cvS (pf A p) else 0) := by
    intro s
    unfold j_X12_covers_87 j_X12_covers_199
    rw [h.ref 16 rfl, h.ref 6 rfl]
    simp only [Option.bind_some, e200]
    rw [show nI (9 * p) + (7 : Int32) = nI (9 * p + 7) from nI_p _ 7, show nI (9 * p) + (8 : Int32) = nI (9 * p + 8) from nI_p _ 8, show nI (9 * p) + (3 : Int32) = nI (9 * p + 3) from nI_p _ 3, show nI (9 * p) + (4 : Int32) = nI (9 * p + 4) from nI_p _ 4, show nI (9 * p) + (5 : Int32) = nI (9 * p + 5) from nI_p _ 5, show nI (9 * p) + (6 : Int32) = nI (9 * p + 6) from nI_p _ 6, show nI (8 * m) + (3 : Int32) = nI (8 * m + 3) from nI_p _ 3]
    rw [ld 7 (by omega), ld 8 (by omega), ld 3 (by omega), ld 4 (by omega), ld 5 (by omega), ld 6 (by omega), lm0, lm 3 (by omega)]
    simp only [Option.bind_some, inE]
    clear ld lm lm0 e282 e200 inE h hA
    grind
  unfold f_X12_covers j_X12_covers_47 j_X12_covers_82 j_X12_covers_86
  rw [ix9', ix8', h.ref 16 rfl, h.ref 6 rfl]
  simp only [Option.bind_some, e87]
  rw [show nI (9 * p) + (1 : Int32) = nI (9 * p + 1) from nI_p _ 1, show nI (9 * p) + (2 : Int32) = nI (9 * p + 2) from nI_p _ 2, show nI (8 * m) + (1 : Int32) = nI (8 * m + 1) from nI_p _ 1, show nI (8 * m) + (2 : Int32) = nI (8 * m + 2) from nI_p _ 2]
  rw [ld 1 (by omega), ld 2 (by omega), lm 1 (by omega), lm 2 (by omega)]
  simp only [Option.bind_some]
  unfold aCov
  by_cases a1 : pf A p 1 = -9 ∨ pf A p 1 = mf A m 1
  · by_cases a2 : pf A p 2 = -9 ∨ pf A p 2 = mf A m 2
    · rcases a1 with a1 | a1 <;> rcases a2 with a2 | a2 <;> simp [a1, a2] <;> grind
    · have b1 : ¬ pf A p 2 = -9 := fun q => a2 (Or.inl q)
      have b2 : ¬ pf A p 2 = mf A m 2 := fun q => a2 (Or.inr q)
      rcases a1 with a1 | a1 <;> simp [a1, b1, b2]
  · have b1 : ¬ pf A p 1 = -9 := fun q => a1 (Or.inl q)
    have b2 : ¬ pf A p 1 = mf A m 1 := fun q => a1 (Or.inr q)
    simp [b1, b2]
