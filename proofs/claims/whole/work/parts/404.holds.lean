/-! ===== what a text says of a man ===== -/
def tc (sg : Nat → Int32) (k : Nat) : Nat := match prs sg k with
  | .inl _ => 0
  | .inr q => q.1
def dc (sg : Nat → Int32) (k : Nat) : Nat := match prs sg k with
  | .inl _ => 0
  | .inr q => q.2
def WF (sg : Nat → Int32) (n : Nat) : Prop := prs sg n = .inr (0, 0)
theorem WF.at {sg : Nat → Int32} {n : Nat} (h : WF sg n) {k : Nat} (hk : k ≤ n) : prs sg k = .inr (tc sg k, dc sg k) := by
  cases hq : prs sg k with
  | inl f =>
    have := prs_inl hq (n - k)
    rw [show k + (n - k) = n by omega, h] at this
    cases this
  | inr q =>
    unfold tc dc
    rw [hq]
theorem WF.bd {sg : Nat → Int32} {n : Nat} (h : WF sg n) {k : Nat} (hk : k ≤ n) : tc sg k ≤ k + 1 ∧ dc sg k ≤ 2 := prs_bd (h.at hk)
theorem WF.end {sg : Nat → Int32} {n : Nat} (h : WF sg n) : tc sg n = 0 ∧ dc sg n = 0 := by
  have := h.at (Nat.le_refl n)
  rw [h] at this
  cases hh : (tc sg n, dc sg n) with
  | mk a b =>
    rw [hh] at this
    cases this
    have h2 := Prod.mk.inj hh
    exact h2
theorem WF.step {sg : Nat → Int32} {n : Nat} (h : WF sg n) {k : Nat} (hk : k < n) : (0 < dc sg k ∧ rg (sg k) 48 57 ∧ tc sg (k + 1) = tc sg k ∧ dc sg (k + 1) = dc sg k - 1) ∨ (dc sg k = 0 ∧ 0 < tc sg k ∧ (sg k = 38 ∨ sg k = 124) ∧ tc sg (k + 1) = tc sg k + 1 ∧ dc sg (k + 1) = 0) ∨ (dc sg k = 0 ∧ 0 < tc sg k ∧ isTst (sg k) ∧ tc sg (k + 1) = tc sg k - 1 ∧ dc sg (k + 1) = 2) ∨ (dc sg k = 0 ∧ 0 < tc sg k ∧ isFlg (sg k) ∧ tc sg (k + 1) = tc sg k - 1 ∧ dc sg (k + 1) = 0) ∨ (dc sg k = 0 ∧ 0 < tc sg k ∧ sg k = 33 ∧ tc sg (k + 1) = tc sg k ∧ dc sg (k + 1) = 0) := by
  have h1 := h.at (show k ≤ n by omega)
  have h2 := h.at (show k + 1 ≤ n by omega)
  have h3 : prs sg (k + 1) = stp k (sg k) (tc sg k, dc sg k) := by
    show (match prs sg k with | .inl f => Sum.inl f | .inr q => stp k (sg k) q) = _
    rw [h1]
  rw [h3] at h2
  generalize tc sg (k + 1) = t' at *
  generalize dc sg (k + 1) = d' at *
  generalize tc sg k = t at *
  generalize dc sg k = d at *
  generalize sg k = v at *
  simp only [stp] at h2
  unfold isTst isFlg rg
  by_cases hd : 0 < d
  · rw [if_pos hd] at h2
    by_cases hv : 48 ≤ v.toInt ∧ v.toInt ≤ 57
    · rw [if_pos hv] at h2
      cases h2
      exact Or.inl ⟨hd, hv, rfl, rfl⟩
    · rw [if_neg hv] at h2; cases h2
  · rw [if_neg hd] at h2
    have d0 : d = 0 := by omega
    subst d0
    by_cases t0 : t = 0
    · rw [if_pos t0] at h2; cases h2
    · rw [if_neg t0] at h2
      have tp : 0 < t := by omega
      by_cases e1 : v = 38 ∨ v = 124
      · rw [if_pos e1] at h2; cases h2
        exact Or.inr (Or.inl ⟨rfl, tp, e1, rfl, rfl⟩)
      · rw [if_neg e1] at h2
        by_cases e2 : v = 97 ∨ v = 65 ∨ v = 121 ∨ v = 89 ∨ v = 116
        · rw [if_pos e2] at h2; cases h2
          exact Or.inr (Or.inr (Or.inl ⟨rfl, tp, e2, rfl, rfl⟩))
        · rw [if_neg e2] at h2
          by_cases e3 : v = 112 ∨ v = 115 ∨ v = 104
          · rw [if_pos e3] at h2; cases h2
            exact Or.inr (Or.inr (Or.inr (Or.inl ⟨rfl, tp, e3, rfl, rfl⟩)))
          · rw [if_neg e3] at h2
            by_cases e4 : v = 33
            · rw [if_pos e4] at h2; cases h2
              exact Or.inr (Or.inr (Or.inr (Or.inr ⟨rfl, tp, e4, rfl, rfl⟩)))
            · rw [if_neg e4] at h2; cases h2
/-- neither a digit nor a joint: what the tests' signs are not -/
theorem tst_nd {v : Int32} (h : isTst v ∨ isFlg v) : ¬ rg v 48 57 ∧ v ≠ 33 ∧ v ≠ 38 ∧ v ≠ 124 := by
  unfold isTst isFlg at h
  rcases h with (h | h | h | h | h) | (h | h | h) <;> subst h <;> decide
theorem WF.d1 {sg : Nat → Int32} {n : Nat} (h : WF sg n) {k : Nat} (hk : k ≤ n) (hd : dc sg k = 1) : ∃ j, k = j + 1 ∧ dc sg j = 2 ∧ rg (sg j) 48 57 := by
  cases k with
  | zero =>
    have : dc sg 0 = 0 := rfl
    omega
  | succ j =>
    have hb := (h.bd (show j ≤ n by omega)).2
    refine ⟨j, rfl, ?_⟩
    rcases h.step (show j < n by omega) with ⟨a, b, c, d⟩ | ⟨a, b, c, d, e⟩ | ⟨a, b, c, d, e⟩ | ⟨a, b, c, d, e⟩ | ⟨a, b, c, d, e⟩
    · exact ⟨by omega, b⟩
    all_goals omega
theorem WF.d2 {sg : Nat → Int32} {n : Nat} (h : WF sg n) {k : Nat} (hk : k ≤ n) (hd : dc sg k = 2) : ∃ j, k = j + 1 ∧ isTst (sg j) := by
  cases k with
  | zero =>
    have : dc sg 0 = 0 := rfl
    omega
  | succ j =>
    have hb := (h.bd (show j ≤ n by omega)).2
    refine ⟨j, rfl, ?_⟩
    rcases h.step (show j < n by omega) with ⟨a, b, c, d⟩ | ⟨a, b, c, d, e⟩ | ⟨a, b, c, d, e⟩ | ⟨a, b, c, d, e⟩ | ⟨a, b, c, d, e⟩
    · omega
    · omega
    · exact c
    all_goals omega
/-- the number behind a test -/
def nmB (sg : Nat → Int32) (k : Nat) : Int32 := (sg (k + 1) - 48) * 10 + sg (k + 2) - 48
def tV (A : ZA) (m : Nat) (cov v num : Int32) : Int32 :=
  if v = 65 then (if num ≤ mf A m 0 then 0 else 1)
  else if v = 89 then (if num ≤ mf A m 5 then 0 else 1)
  else if v = 97 then (if mf A m 0 < num then 0 else 1)
  else if v = 112 then cov
  else if v = 115 then (if rg (aP A m) 10 19 then 1 else 0)
  else if v = 116 then (if mf A m 4 = num then 1 else 0)
  else if v = 121 then (if mf A m 5 < num then 0 else 1)
  else (if aP A m = mf A m 6 then 1 else 0)
theorem tV_b {A : ZA} {m : Nat} {cov v num : Int32} (hc : b01 cov) : b01 (tV A m cov v num) := by
  unfold tV b01 at *
  repeat' split
  all_goals first | exact hc | exact Or.inl rfl | exact Or.inr rfl
def updB (st : Nat → Bool) (j : Nat) (b : Bool) : Nat → Bool := fun i => if i = j then b else st i
def stp2 (v : Int32) (t : Nat) (st : Nat → Bool) (x : Int32) : Nat → Bool :=
  if rg v 48 57 then st
  else if v = 33 then updB st (t - 1) (!st (t - 1))
  else if v = 38 then updB st (t - 2) (st (t - 1) && st (t - 2))
  else if v = 124 then updB st (t - 2) (st (t - 1) || st (t - 2))
  else updB st t (decide (x = 1))
/-- the stack when the last m of n signs were read -/
def ST (A : ZA) (a m : Nat) (cov : Int32) (n : Nat) : Nat → Nat → Bool
  | 0 => fun _ => false
  | r + 1 => stp2 (aSg A a (n - (r + 1))) (tc (aSg A a) (n - r)) (ST A a m cov n r) (tV A m cov (aSg A a (n - (r + 1))) (nmB (aSg A a) (n - (r + 1))))
theorem isShipC (p : Int32) (S : ZH) : f_X11_isShip p S = some (if rg p 10 19 then 1 else 0) := by
  unfold f_X11_isShip
  by_cases h : rg p 10 19
  · rw [within_rg (p := 10) (q := 19) rfl rfl h, if_pos h]; rfl
  · rw [within_nr (p := 10) (q := 19) rfl rfl h, if_neg h]; rfl
theorem isAboardM (p : Int32) (S : ZH) : f_X12_isAboard p S = some (if rg p 10 19 then 1 else 0) := by
  unfold f_X12_isAboard
  by_cases h : rg p 10 19
  · rw [in_rg (p := 10) (q := 19) rfl rfl h, if_pos h]; rfl
  · rw [in_nr (p := 10) (q := 19) rfl rfl h, if_neg h]; rfl
theorem RC.sign {A : ZA} {S : ZH} (hA : AIn A) (h : RC A S) {a k : Nat} (ha : a < aN A 17) (hk : k < aSn A a) : zld S 13 a (nI k) = some (aSg A a k) := by
  have := hA.c17.2
  have hsg := hA.sg (show a < 8 by omega)
  obtain ⟨r24, r2, l13, z0, z1, zs13, hp⟩ := h.acts.2.2.2 a ha
  rw [zld_at l13 (by omega) (by decide), zs13 k hk]
  rfl
theorem zb1 {x : Int32} (h : b01 x) : z_b x = x := by rcases h with rfl | rfl <;> decide
theorem test_C {A : ZA} {S : ZH} (hA : AIn A) (h : RC A S) {a k m : Nat} {cov : Int32} (ha : a < aN A 17) (hm : m < aN A 5) (hk : k < aSn A a) (hc : b01 cov) (ht : isTst (aSg A a k) ∨ isFlg (aSg A a k)) (h2 : isTst (aSg A a k) → k + 2 < aSn A a) : f_X0_testHolds a (nI k) (some m) cov S = some (tV A m cov (aSg A a k) (nmB (aSg A a) k)) := by
  have := hA.c17.2
  have hsg := hA.sg (show a < 8 by omega)
  obtain ⟨r24, r2, l13, z0, z1, zs13, hp⟩ := h.acts.2.2.2 a ha
  have g0 : zI S 3 m 0 = mf A m 0 := h.att hm (by omega)
  have g4 : zI S 3 m 4 = mf A m 4 := h.att hm (by omega)
  have g5 : zI S 3 m 5 = mf A m 5 := h.att hm (by omega)
  have g6 : zI S 3 m 6 = mf A m 6 := h.att hm (by omega)
  have g8 : zI S 3 m 8 = aP A m := h.pl hm
  have hnb : isTst (aSg A a k) → f_X0_numberBehind a (nI k) S = some (nmB (aSg A a) k) := by
    intro hq
    have hk2 := h2 hq
    unfold f_X0_numberBehind
    rw [z1, hsg.1, show nI k + (2 : Int32) = nI (k + 2) from nI_p k 2, show nI k + (1 : Int32) = nI (k + 1) from nI_p k 1, if_pos (by rw [nI_lt_iff (by omega) (by omega)]; exact hk2), r2]
    simp only [Option.bind_some]
    rw [h.sign hA ha (by omega), h.sign hA ha hk2]
    rfl
  unfold f_X0_testHolds tV
  rw [r2]
  simp only [Option.bind_some]
  rw [h.sign hA ha hk]
  simp only [Option.bind_some]
  rw [g0, g4, g5, g6, g8, isShipC]
  generalize hv : aSg A a k = v at *
  rcases ht with ht | ht
  · rw [hnb ht]
    unfold isTst at ht
    rcases ht with e | e | e | e | e <;> subst e <;> simp <;> (repeat' split) <;> first | rfl | (exfalso; simp_all; done)
  · unfold isFlg at ht
    rcases ht with e | e | e <;> subst e <;> simp
    · rw [zb1 hc]
    · split <;> decide
    · by_cases e : aP A m = mf A m 6 <;> simp [e]
theorem test_M {A : ZA} {S : ZH} (hA : AIn A) (h : MV A S) {m : Nat} {v cov num : Int32} (hm : m < aN A 5) (hc : b01 cov) : f_X12_test 0 v num (nI m) cov S = some (tV A m cov v num) := by
  have c5 := hA.c5.2
  have lm : ∀ j, j < 8 → zld S 31 0 (nI (8 * m + j)) = some (mf A m j) := fun j hj => h.ld 320 rfl rfl (by omega) (by decide)
  have lm0 : zld S 31 0 (nI (8 * m)) = some (mf A m 0) := lm 0 (by omega)
  unfold f_X12_test tV
  rw [h.ref 6 rfl, ix8', placeOf_eq hA h hm]
  simp only [Option.bind_some]
  rw [isAboardM, lm0, show nI (8 * m) + (5 : Int32) = nI (8 * m + 5) from nI_p _ 5, show nI (8 * m) + (4 : Int32) = nI (8 * m + 4) from nI_p _ 4, show nI (8 * m) + (6 : Int32) = nI (8 * m + 6) from nI_p _ 6, lm 4 (by omega), lm 5 (by omega), lm 6 (by omega), zb1 hc]
  simp only [Option.bind_some, if_true]
  have hb : z_b (if rg (aP A m) 10 19 then 1 else 0) = if rg (aP A m) 10 19 then 1 else 0 := by split <;> decide
  rw [hb]
  simp only [if_true]
  repeat' split
  all_goals first | rfl | (exfalso; simp_all; done)
/-! bits -/
theorem b_shr (w : Int64) : ((w.toUInt64 >>> (((1 : Int32)).toInt64.toUInt64 &&& Int64.toUInt64 63)).toInt64).toBitVec = w.toBitVec >>> 1 := rfl
theorem b_shl (w : Int64) : (w <<< (((1 : Int32)).toInt64 &&& 63)).toBitVec = w.toBitVec <<< 1 := rfl
def gb (w : Int64) (i : Nat) : Bool := w.toBitVec.getLsbD i
theorem gb_1 : ∀ i, i < 64 → gb 1 i = decide (i = 0) := by decide
theorem gb_n2 : ∀ i, i < 64 → gb (-2) i = !decide (i = 0) := by decide
theorem gb_and (x y : Int64) (i : Nat) : gb (x &&& y) i = (gb x i && gb y i) := by unfold gb; rw [Int64.toBitVec_and, BitVec.getLsbD_and]
theorem gb_or (x y : Int64) (i : Nat) : gb (x ||| y) i = (gb x i || gb y i) := by unfold gb; rw [Int64.toBitVec_or, BitVec.getLsbD_or]
theorem gb_xor (x y : Int64) (i : Nat) : gb (x ^^^ y) i = (gb x i ^^ gb y i) := by unfold gb; rw [Int64.toBitVec_xor, BitVec.getLsbD_xor]
theorem gb_shr (w : Int64) (i : Nat) : gb ((w.toUInt64 >>> (((1 : Int32)).toInt64.toUInt64 &&& Int64.toUInt64 63)).toInt64) i = gb w (1 + i) := by
  unfold gb
  rw [b_shr, BitVec.getLsbD_ushiftRight]
theorem gb_shl (w : Int64) {i : Nat} (hi : i < 64) : gb (w <<< (((1 : Int32)).toInt64 &&& 63)) i = (!decide (i < 1) && gb w (i - 1)) := by
  unfold gb
  rw [b_shl, BitVec.getLsbD_shiftLeft]
  simp [hi]
/-- the bits stand for the stack's top t -/
def BT (w : Int64) (t : Nat) (st : Nat → Bool) : Prop := ∀ i, i < t → gb w i = st (t - 1 - i)
theorem BT.and {w : Int64} {t : Nat} {st : Nat → Bool} (h : BT w (t + 2) st) (ht : t + 2 ≤ 64) : BT (((w.toUInt64 >>> (((1 : Int32)).toInt64.toUInt64 &&& Int64.toUInt64 63)).toInt64) &&& ((w &&& (1 : Int64)) ||| (-2 : Int64))) (t + 1) (updB st t (st (t + 1) && st t)) := by
  intro i hi
  rw [gb_and, gb_or, gb_and, gb_shr, gb_1 i (by omega), gb_n2 i (by omega)]
  unfold updB
  have h0 := h 0 (by omega)
  have h1 := h (1 + i) (by omega)
  by_cases e : i = 0
  · subst e
    rw [if_pos (by omega), h1, h0, show t + 2 - 1 - (1 + 0) = t by omega, show t + 2 - 1 - 0 = t + 1 by omega]
    simp [Bool.and_comm]
  · rw [if_neg (by omega), h1, show t + 2 - 1 - (1 + i) = t + 1 - 1 - i by omega]
    simp [e]
theorem BT.or {w : Int64} {t : Nat} {st : Nat → Bool} (h : BT w (t + 2) st) (ht : t + 2 ≤ 64) : BT (((w.toUInt64 >>> (((1 : Int32)).toInt64.toUInt64 &&& Int64.toUInt64 63)).toInt64) ||| (w &&& (1 : Int64))) (t + 1) (updB st t (st (t + 1) || st t)) := by
  intro i hi
  rw [gb_or, gb_and, gb_shr, gb_1 i (by omega)]
  unfold updB
  have h0 := h 0 (by omega)
  have h1 := h (1 + i) (by omega)
  by_cases e : i = 0
  · subst e
    rw [if_pos (by omega), h1, h0, show t + 2 - 1 - (1 + 0) = t by omega, show t + 2 - 1 - 0 = t + 1 by omega]
    simp [Bool.or_comm]
  · rw [if_neg (by omega), h1, show t + 2 - 1 - (1 + i) = t + 1 - 1 - i by omega]
    simp [e]
theorem BT.not {w : Int64} {t : Nat} {st : Nat → Bool} (h : BT w (t + 1) st) (ht : t + 1 ≤ 64) : BT (w ^^^ 1) (t + 1) (updB st t (!st t)) := by
  intro i hi
  rw [gb_xor, gb_1 i (by omega)]
  unfold updB
  have h1 := h i hi
  by_cases e : i = 0
  · subst e
    rw [if_pos (by omega), h1, show t + 1 - 1 - 0 = t by omega]
    simp
  · rw [if_neg (by omega), h1]
    simp [e]
theorem BT.push {w : Int64} {t : Nat} {st : Nat → Bool} {x : Int32} (h : BT w t st) (ht : t + 1 ≤ 64) (hx : b01 x) : BT ((w <<< (((1 : Int32)).toInt64 &&& 63)) ||| x.toInt64) (t + 1) (updB st t (decide (x = 1))) := by
  intro i hi
  have ex : gb x.toInt64 i = (decide (i = 0) && decide (x = 1)) := by
    rcases hx with rfl | rfl
    · have : ∀ i, i < 64 → gb (Int32.toInt64 0) i = (decide (i = 0) && decide ((0 : Int32) = 1)) := by decide
      exact this i (by omega)
    · have : ∀ i, i < 64 → gb (Int32.toInt64 1) i = (decide (i = 0) && decide ((1 : Int32) = 1)) := by decide
      exact this i (by omega)
  rw [gb_or, gb_shl w (by omega), ex]
  unfold updB
  by_cases e : i = 0
  · subst e
    rw [if_pos (by omega)]
    simp
  · rw [if_neg (by omega), h (i - 1) (by omega), show t - 1 - (i - 1) = t + 1 - 1 - i by omega]
    simp [e]
