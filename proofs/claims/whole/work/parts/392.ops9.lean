/-! ===== paper ===== -/
theorem isMarkC (x : Int32) (S : ZH) : f_X11_isMark x S = some (if x = -9 ∨ rg x 0 3 then 1 else 0) := by
  unfold f_X11_isMark
  by_cases h1 : x = -9
  · rw [if_pos h1, if_pos (Or.inl h1)]
  · rw [if_neg h1]
    by_cases h : rg x 0 3
    · rw [within_rg (p := 0) (q := 3) rfl rfl h, if_pos (Or.inr h)]; rfl
    · rw [within_nr (p := 0) (q := 3) rfl rfl h, if_neg (fun q => by rcases q with q | q; exact h1 q; exact h q)]; rfl
theorem badLookM (x : Int32) (S : ZH) : f_X12_badLook x S = some (if x = -9 ∨ rg x 0 3 then 0 else 1) := by
  unfold f_X12_badLook
  by_cases h1 : x = -9
  · rw [if_pos h1, if_pos (Or.inl h1)]
  · rw [if_neg h1]
    by_cases h : rg x 0 3
    · rw [in_rg (p := 0) (q := 3) rfl rfl h, if_pos (Or.inr h)]; rfl
    · rw [in_nr (p := 0) (q := 3) rfl rfl h, if_neg (fun q => by rcases q with q | q; exact h1 q; exact h q)]; rfl
abbrev spnB (x y l : Int32) : Prop := 0 ≤ x.toInt ∧ x.toInt ≤ y.toInt ∧ y.toInt ≤ l.toInt
theorem isSpanC (x y l : Int32) (S : ZH) : f_X11_isSpan x y l S = some (if spnB x y l then 1 else 0) := by
  unfold f_X11_isSpan
  simp only [Int32.lt_iff_toInt_lt, i0]
  by_cases h1 : x.toInt < 0
  · rw [if_pos h1, if_neg (by unfold spnB; omega)]
  · rw [if_neg h1]
    by_cases h2 : y.toInt < x.toInt
    · rw [if_pos h2, if_neg (by unfold spnB; omega)]
    · rw [if_neg h2]
      by_cases h3 : l.toInt < y.toInt
      · rw [if_pos h3, if_neg (by unfold spnB; omega)]
      · rw [if_neg h3, if_pos (by unfold spnB; omega)]
theorem badSpanM (x y l : Int32) (S : ZH) : f_X12_badSpan x y l S = some (if spnB x y l then 0 else 1) := by
  unfold f_X12_badSpan
  rw [in_eq, l_toInt, l_toInt, l0]
  simp only [Option.bind_some, Int32.le_iff_toInt_le]
  by_cases h1 : 0 ≤ x.toInt ∧ x.toInt ≤ y.toInt
  · rw [if_pos h1, if_neg (by decide)]
    by_cases h3 : y.toInt ≤ l.toInt
    · rw [if_pos h3, if_pos ⟨h1.1, h1.2, h3⟩]
    · rw [if_neg h3, if_neg (fun q => h3 q.2.2)]
  · rw [if_neg h1, if_pos rfl, if_neg (fun q => h1 ⟨q.1, q.2.1⟩)]
/-- the nine numbers of a paper -/
def A_row (A : ZA) (k b : Nat) (f : Nat → Int32) : Nat → ZA
  | 0 => A
  | j + 1 => aR (A_row A k b f j) k (b + j) (f j)
def S_row (S : ZH) (k b : Nat) (f : Nat → Int32) : Nat → ZH
  | 0 => S
  | j + 1 => zsI (S_row S k b f j) k 0 (b + j) (f j)
theorem row_1 {A : ZA} {k b : Nat} {f : Nat → Int32} : ∀ n, (A_row A k b f n).1 = A.1
  | 0 => rfl
  | n + 1 => row_1 (A := A) (k := k) (b := b) (f := f) n
theorem row_k {A : ZA} {k b : Nat} {f : Nat → Int32} {k' : Nat} (h : k' ≠ k) : ∀ n, (A_row A k b f n).2 k' = A.2 k'
  | 0 => rfl
  | n + 1 => by
    rw [← row_k (A := A) (k := k) (b := b) (f := f) h n]
    funext i
    exact aR_ne (fun z => h z.1)
theorem row_at {A : ZA} {k b : Nat} {f : Nat → Int32} (q : Nat) : ∀ n, (A_row A k b f n).2 k q = if b ≤ q ∧ q < b + n then f (q - b) else A.2 k q
  | 0 => by rw [if_neg (by omega)]; rfl
  | n + 1 => by
    show (if k = k ∧ q = b + n then f n else (A_row A k b f n).2 k q) = _
    rw [row_at q n]
    by_cases e : q = b + n
    · rw [if_pos ⟨rfl, e⟩, if_pos (by omega)]; congr 1; omega
    · rw [if_neg (fun z => e z.2)]
      by_cases e2 : b ≤ q ∧ q < b + n
      · rw [if_pos e2, if_pos (by omega)]
      · rw [if_neg e2, if_neg (by omega)]
theorem MV.row {A : ZA} {S : ZH} (h : MV A S) {k b : Nat} {f : Nat → Int32} (hk : 29 ≤ k) : ∀ n, MV (A_row A k b f n) (S_row S k b f n)
  | 0 => h
  | n + 1 => (h.row hk n).R k (b + n) (f n) hk
theorem frC_row {S : ZH} {k b : Nat} {f : Nat → Int32} (hk : 29 ≤ k) (hk2 : k ≤ 54) : ∀ n, frC S (S_row S k b f n)
  | 0 => frC.rf
  | n + 1 => (frC_row hk hk2 n).tr (frC_R hk hk2)
theorem S_row_R {S : ZH} {k b : Nat} {f : Nat → Int32} : ∀ n, zR (S_row S k b f n) = zR S
  | 0 => rfl
  | n + 1 => S_row_R (S := S) (k := k) (b := b) (f := f) n
theorem S_row_L {S : ZH} {k b : Nat} {f : Nat → Int32} : ∀ n, zL (S_row S k b f n) = zL S
  | 0 => rfl
  | n + 1 => S_row_L (S := S) (k := k) (b := b) (f := f) n
theorem S_row_I {S : ZH} {k b k' : Nat} {f : Nat → Int32} (h : k' ≠ k) : ∀ n, zI (S_row S k b f n) k' = zI S k'
  | 0 => rfl
  | n + 1 => (zI_ne h).trans (S_row_I h n)
/-- one store of a row in the reference -/
theorem S_row_b {α : Type} {S : ZH} {k b j m : Nat} {f : Nat → Int32} {g : ZH → Option α} (hl : zL S k 0 = m) (hj : b + j < m) (hm : m < 2 ^ 31) : (zst (S_row S k b f j) k 0 (nI (b + j)) (f j)).bind g = g (S_row S k b f (j + 1)) :=
  zst_b (by rw [S_row_L]; exact hl) hj hm
def pl9 (a b c d e f g h i : Int32) : Nat → Int32
  | 0 => a
  | 1 => b
  | 2 => c
  | 3 => d
  | 4 => e
  | 5 => f
  | 6 => g
  | 7 => h
  | _ => i
def A_pap (A : ZA) (f : Nat → Int32) : ZA := aF (A_row A 39 (9 * aN A 15) f 9) 15 (nI (aN A 15 + 1))
theorem pap_1 {A : ZA} {f : Nat → Int32} {j : Nat} (h : j ≠ 15) : (A_pap A f).1 j = A.1 j := by
  show (if j = 15 then _ else (A_row A 39 (9 * aN A 15) f 9).1 j) = _
  rw [if_neg h, row_1]
theorem pap_k {A : ZA} {f : Nat → Int32} {k : Nat} (h : k ≠ 39) : (A_pap A f).2 k = A.2 k := row_k h 9
theorem pap_at {A : ZA} {f : Nat → Int32} (p j : Nat) (hj : j < 9) : (A_pap A f).2 39 (9 * p + j) = if p = aN A 15 then f j else A.2 39 (9 * p + j) := by
  show (A_row A 39 (9 * aN A 15) f 9).2 39 (9 * p + j) = _
  rw [row_at]
  by_cases e : p = aN A 15
  · rw [if_pos e, if_pos (by omega), e]; congr 1; omega
  · rw [if_neg e, if_neg (by omega)]
def S_sp (T : ZH) (c : Nat) (x y : Int32) : ZH := zsI (zsI (zNew T 7 2) 7 c 0 x) 7 c 1 y
theorem sp_at {T : ZH} {c : Nat} {x y : Int32} (hc : zN T 7 = c) (q j : Nat) : zI (S_sp T c x y) 7 q j = if q = c then (if j = 1 then y else if j = 0 then x else 0) else zI T 7 q j := by
  unfold S_sp
  rw [zI_sI, zI_sI, zI_nw, hc]
  grind
def S_pap (S : ZH) (n : Nat) (f : Nat → Int32) : ZH := zsI (zsR (zsR (zsR (zsR (zsI (zsI (zsI (S_sp (S_sp (S_sp (zNew S 4 6) (3 * n) (f 3) (f 4)) (3 * n + 1) (f 5) (f 6)) (3 * n + 2) (f 7) (f 8)) 4 n 0 (f 0)) 4 n 1 (f 1)) 4 n 2 (f 2)) 4 n 3 (some (3 * n))) 4 n 4 (some (3 * n + 1))) 4 n 5 (some (3 * n + 2))) 23 0 n (some n)) 11 0 4 (nI (n + 1))
theorem AIn.pp {A : ZA} (h : AIn A) {p : Nat} (hp : p < aN A 15) : isIx (aN A 5) (A.2 39 (9 * p)) ∧ (A.2 39 (9 * p + 1) = -9 ∨ rg (A.2 39 (9 * p + 1)) 0 3) ∧ (A.2 39 (9 * p + 2) = -9 ∨ rg (A.2 39 (9 * p + 2)) 0 3) ∧ (∀ j, 3 ≤ j → j < 9 → rg (A.2 39 (9 * p + j)) 0 899) := h.2.2.2.2.1 p hp
theorem pap_nA {A : ZA} {f : Nat → Int32} : nA (A_pap A f) = nA (aF (fun j => A.1 j, fun k => if k = 39 then (A_pap A f).2 39 else A.2 k) 15 (nI (aN A 15 + 1))) := by
  refine congrArg nA (Prod.ext (funext fun j => ?_) (funext fun k => ?_))
  · show (if j = 15 then _ else (A_row A 39 (9 * aN A 15) f 9).1 j) = if j = 15 then _ else A.1 j
    rw [row_1]
  · show (A_pap A f).2 k = if k = 39 then (A_pap A f).2 39 else A.2 k
    by_cases e : k = 39
    · rw [if_pos e, e]
    · rw [if_neg e, pap_k e]
/-- the same state, in a form that computes -/
def A_pap2 (A : ZA) (f : Nat → Int32) : ZA := aF (fun j => A.1 j, fun k => if k = 39 then (A_pap A f).2 39 else A.2 k) 15 (nI (aN A 15 + 1))
theorem pap_AIn {A : ZA} (hA : AIn A) {f : Nat → Int32} (h0 : isIx (aN A 5) (f 0)) (h1 : f 1 = -9 ∨ rg (f 1) 0 3) (h2 : f 2 = -9 ∨ rg (f 2) 0 3) (h3 : ∀ j, 3 ≤ j → j < 9 → rg (f j) 0 899) (h8 : aN A 15 < 60) : AIn (A_pap2 A f) := by
  have en : aN (A_pap2 A f) 15 = aN A 15 + 1 := aN_F _ 15 _ (by omega)
  refine ⟨⟨hA.c1, hA.c1p, hA.c4, hA.c5, hA.c9, ⟨by rw [en]; rfl, by rw [en]; omega⟩, hA.c17, hA.c22, hA.c24, hA.c24l, hA.c31, hA.room, hA.rate⟩, hA.2.1, hA.2.2.1, hA.2.2.2.1, fun p hp => ?_, hA.2.2.2.2.2.1, fun t ht => ?_, hA.2.2.2.2.2.2.2⟩
  · rw [en] at hp
    have e : ∀ j, j < 9 → (A_pap2 A f).2 39 (9 * p + j) = if p = aN A 15 then f j else A.2 39 (9 * p + j) := fun j hj => pap_at p j hj
    have e0 : (A_pap2 A f).2 39 (9 * p) = if p = aN A 15 then f 0 else A.2 39 (9 * p) := pap_at p 0 (by omega)
    rw [e0, e 1 (by omega), e 2 (by omega)]
    by_cases q : p = aN A 15
    · simp only [if_pos q]
      refine ⟨h0, h1, h2, fun j a b => ?_⟩
      rw [e j b, if_pos q]; exact h3 j a b
    · simp only [if_neg q]
      have hp' := hA.pp (show p < aN A 15 by omega)
      refine ⟨hp'.1, hp'.2.1, hp'.2.2.1, fun j a b => ?_⟩
      rw [e j b, if_neg q]; exact hp'.2.2.2 j a b
  · obtain ⟨a, b, c, d⟩ := hA.tk (show t < aN A 22 from ht)
    refine ⟨a, b, ?_, d⟩
    rw [en]
    rcases c with c | ⟨q, hq, e⟩
    · exact Or.inl c
    · exact Or.inr ⟨q, by omega, e⟩
theorem pap_RC {A : ZA} {S : ZH} (hA : AIn A) (h : RC A S) {f : Nat → Int32} (h8 : aN A 15 < 60) : RC (A_pap2 A f) (S_pap S (aN A 15) f) := by
  have en : aN (A_pap2 A f) 15 = aN A 15 + 1 := aN_F _ 15 _ (by omega)
  have ez4 : zN S 4 = aN A 15 := h.paps.2.1
  have ez7 : zN S 7 = 3 * aN A 15 := h.paps.2.2.1
  generalize hn : aN A 15 = n at *
  have z7 : ∀ q j, zI (S_pap S n f) 7 q j = if q = 3 * n + 2 then (if j = 1 then f 8 else if j = 0 then f 7 else 0) else if q = 3 * n + 1 then (if j = 1 then f 6 else if j = 0 then f 5 else 0) else if q = 3 * n then (if j = 1 then f 4 else if j = 0 then f 3 else 0) else zI S 7 q j := by
    intro q j
    show zI (S_sp (S_sp (S_sp (zNew S 4 6) (3 * n) (f 3) (f 4)) (3 * n + 1) (f 5) (f 6)) (3 * n + 2) (f 7) (f 8)) 7 q j = _
    have e1 : zN (zNew S 4 6) 7 = 3 * n := ez7
    have e2 : zN (S_sp (zNew S 4 6) (3 * n) (f 3) (f 4)) 7 = 3 * n + 1 := congrArg (· + 1) e1
    have e3 : zN (S_sp (S_sp (zNew S 4 6) (3 * n) (f 3) (f 4)) (3 * n + 1) (f 5) (f 6)) 7 = 3 * n + 2 := congrArg (· + 1) e2
    rw [sp_at e3, sp_at e2, sp_at e1]
    rfl
  have z4 : ∀ q j, zI (S_pap S n f) 4 q j = if q = n ∧ j = 2 then f 2 else if q = n ∧ j = 1 then f 1 else if q = n ∧ j = 0 then f 0 else if q = n then 0 else zI S 4 q j := by
    intro q j
    show zI (zsI (zsI (zsI (S_sp (S_sp (S_sp (zNew S 4 6) (3 * n) (f 3) (f 4)) (3 * n + 1) (f 5) (f 6)) (3 * n + 2) (f 7) (f 8)) 4 n 0 (f 0)) 4 n 1 (f 1)) 4 n 2 (f 2)) 4 q j = _
    rw [zI_sI, zI_sI, zI_sI, show zI (S_sp (S_sp (S_sp (zNew S 4 6) (3 * n) (f 3) (f 4)) (3 * n + 1) (f 5) (f 6)) (3 * n + 2) (f 7) (f 8)) 4 q j = zI (zNew S 4 6) 4 q j from rfl, zI_nw, ez4]
  have r4 : ∀ q j, 3 ≤ j → j ≤ 5 → zR (S_pap S n f) 4 q j = if q = n then some (3 * n + (j - 3)) else zR S 4 q j := by
    intro q j h1 h2
    show zR (zsR (zsR (zsR (S_sp (S_sp (S_sp (zNew S 4 6) (3 * n) (f 3) (f 4)) (3 * n + 1) (f 5) (f 6)) (3 * n + 2) (f 7) (f 8)) 4 n 3 (some (3 * n))) 4 n 4 (some (3 * n + 1))) 4 n 5 (some (3 * n + 2))) 4 q j = _
    rw [zR_sR, zR_sR, zR_sR]
    by_cases e : q = n
    · rw [if_pos e]
      rcases (show j = 3 ∨ j = 4 ∨ j = 5 by omega) with rfl | rfl | rfl <;> simp [e]
    · rw [if_neg (fun z => e z.1), if_neg (fun z => e z.1), if_neg (fun z => e z.1), if_neg e]
      show zR (zNew S 4 6) 4 q j = _
      rw [zR_nw, ez4, if_neg e]
  have r23 : ∀ q, zR (S_pap S n f) 23 0 q = if q = n then some n else zR S 23 0 q := by
    intro q
    show zR (zsR _ 23 0 _ _) 23 0 q = _
    rw [zR_sR]
    simp only [true_and]
    rfl
  have hsc : SC (S_pap S n f) := by
    have a1 := ((((h.sc.new (k := 4) (n := 6) rfl).new (k := 7) (n := 2) rfl).new (k := 7) (n := 2) rfl).new (k := 7) (n := 2) rfl)
    refine ⟨fun q hq => ?_, fun q hq => ?_⟩
    · have e4 : q.1 ≠ 4 := by revert q; decide
      have e23 : q.1 ≠ 23 := by clear e4; revert q; decide
      have e7 : q.1 ≠ 7 := by clear e4 e23; revert q; decide
      show zR (zsR _ 23 0 _ _) q.1 0 q.2 = some 0
      rw [zR_ne e23, zR_ne e4, zR_ne e4, zR_ne e4]
      show zR (zNew (zNew (zNew (zNew S 4 6) 7 2) 7 2) 7 2) q.1 0 q.2 = some 0
      exact a1.1 q hq
    · exact a1.2 q hq
  refine ⟨hsc, h.town, h.men, ⟨by show nI (n + 1) = nI (aN A 15 + 1); rw [hn], ?_, ?_, fun q hq => ?_⟩, h.acts, h.tks, h.shps, h.tix, h.misc, ?_⟩
  · rw [en]
    show zN S 4 + 1 = _
    rw [ez4]
  · rw [en]
    show zN S 7 + 1 + 1 + 1 = _
    rw [ez7]; omega
  · rw [en] at hq
    have e : ∀ j, j < 9 → (A_pap2 A f).2 39 (9 * q + j) = if q = n then f j else A.2 39 (9 * q + j) := fun j hj => by
      have := pap_at (A := A) (f := f) q j hj
      rw [hn] at this; exact this
    have e0 : (A_pap2 A f).2 39 (9 * q) = if q = n then f 0 else A.2 39 (9 * q) := e 0 (by omega)
    rw [r23, z4, z4, z4, r4 q 3 (by omega) (by omega), r4 q 4 (by omega) (by omega), r4 q 5 (by omega) (by omega), z7, z7, z7, z7, z7, z7, e0, e 1 (by omega), e 2 (by omega), e 3 (by omega), e 4 (by omega), e 5 (by omega), e 6 (by omega), e 7 (by omega), e 8 (by omega)]
    by_cases e1 : q = n
    · subst e1
      simp
    · have h0 := h.paps.2.2.2 q (by omega)
      have n1 : ¬ 3 * q = 3 * n + 2 := by omega
      have n2 : ¬ 3 * q = 3 * n + 1 := by omega
      have n3 : ¬ 3 * q = 3 * n := by omega
      have n4 : ¬ 3 * q + 1 = 3 * n + 2 := by omega
      have n5 : ¬ 3 * q + 1 = 3 * n + 1 := by omega
      have n6 : ¬ 3 * q + 1 = 3 * n := by omega
      have n7 : ¬ 3 * q + 2 = 3 * n + 2 := by omega
      have n8 : ¬ 3 * q + 2 = 3 * n + 1 := by omega
      have n9 : ¬ 3 * q + 2 = 3 * n := by omega
      simp only [e1, n1, n2, n3, n4, n5, n6, n7, n8, n9, false_and, if_false]
      exact h0
  · have hb := h.bud
    unfold RCb at hb ⊢
    rw [en]
    rw [hn] at hb
    have e1 : zc (S_pap S n f) = zc S + 1 + 1 + 1 + 1 := rfl
    have e2 : zs (S_pap S n f) = zs S + 6 + 2 + 2 + 2 := rfl
    have e3 : capOf (S_pap S n f) = capOf S := rfl
    have e4 : aN (A_pap2 A f) 5 = aN A 5 := rfl
    have e5 : aN (A_pap2 A f) 17 = aN A 17 := rfl
    have e6 : aN (A_pap2 A f) 9 = aN A 9 := rfl
    have e7 : aN (A_pap2 A f) 22 = aN A 22 := rfl
    have e8 : aN (A_pap2 A f) 31 = aN A 31 := rfl
    rw [e1, e2, e3, e4, e5, e6, e7, e8]
    omega
theorem sp_fr {S : ZH} {c : Nat} {x y : Int32} : frM S (S_sp S c x y) := (frM_new (nM 7 rfl)).tr ((frM_sI (nM 7 rfl)).tr (frM_sI (nM 7 rfl)))
theorem pap_fr {S : ZH} {n : Nat} {f : Nat → Int32} : frM S (S_pap S n f) := by
  unfold S_pap
  exact (frM_new (nM 4 rfl)).tr (sp_fr.tr (sp_fr.tr (sp_fr.tr ((frM_sI (nM 4 rfl)).tr ((frM_sI (nM 4 rfl)).tr ((frM_sI (nM 4 rfl)).tr ((frM_sR (nM 4 rfl)).tr ((frM_sR (nM 4 rfl)).tr ((frM_sR (nM 4 rfl)).tr ((frM_sR (nM 23 rfl)).tr (frM_sI (nM 11 rfl))))))))))))
theorem pap_eqA {A : ZA} {f : Nat → Int32} : eqA (A_pap A f) (A_pap2 A f) := by
  refine ⟨fun j _ _ => ?_, fun k _ _ _ _ _ _ => ?_⟩
  · show (if j = 15 then _ else A.1 j) = if j = 15 then _ else (A_row A 39 (9 * aN A 15) f 9).1 j
    rw [row_1]
  · show (if k = 39 then (A_pap A f).2 39 else A.2 k) = (A_pap A f).2 k
    by_cases e : k = 39
    · rw [if_pos e, e]
    · rw [if_neg e, pap_k e]
theorem MV.eq {A A' : ZA} {S : ZH} (h : MV A S) (e : eqA A A') : MV A' S := ⟨h.1, e.sy.tr h.2⟩
theorem op_paper {A : ZA} (hA : AIn A) (x1 x2 x3 x4 x5 x6 x7 x8 x9 : Int32) : OpE A (f_X11_paper 0 x1 x2 x3 x4 x5 x6 x7 x8 x9) (f_X12_paper 0 x1 x2 x3 x4 x5 x6 x7 x8 x9) := by
  have c := hA.c15
  have c2 := c.2
  by_cases hx : isIx (aN A 5) x1
  · by_cases b : (x2 = -9 ∨ rg x2 0 3) ∧ (x3 = -9 ∨ rg x3 0 3) ∧ spnB x4 x5 99 ∧ spnB x6 x7 99 ∧ spnB x8 x9 899
    · obtain ⟨i, hi, rfl⟩ := hx
      obtain ⟨b2, b3, b4, b6, b8⟩ := b
      by_cases h8 : aN A 15 < 60
      · generalize hf : pl9 (nI i) x2 x3 x4 x5 x6 x7 x8 x9 = f
        have f0 : f 0 = nI i := by rw [← hf]; rfl
        have f1 : f 1 = x2 := by rw [← hf]; rfl
        have f2 : f 2 = x3 := by rw [← hf]; rfl
        have f3 : f 3 = x4 := by rw [← hf]; rfl
        have f4 : f 4 = x5 := by rw [← hf]; rfl
        have f5 : f 5 = x6 := by rw [← hf]; rfl
        have f6 : f 6 = x7 := by rw [← hf]; rfl
        have f7 : f 7 = x8 := by rw [← hf]; rfl
        have f8 : f 8 = x9 := by rw [← hf]; rfl
        have k99 : (99 : Int32).toInt = 99 := rfl
        have k899 : (899 : Int32).toInt = 899 := rfl
        refine ⟨nI (aN A 15), A_pap2 A f, pap_AIn hA (by rw [f0]; exact ⟨i, hi, rfl⟩) (by rw [f1]; exact b2) (by rw [f2]; exact b3) (fun j h1 h2 => ?_) h8, fun S h => ⟨S_pap S (aN A 15) f, ?_, pap_RC hA h h8, pap_fr⟩, fun S h => ?_⟩
        · unfold spnB at b4 b6 b8
          rw [k99] at b4 b6
          rw [k899] at b8
          unfold rg
          rcases (show j = 3 ∨ j = 4 ∨ j = 5 ∨ j = 6 ∨ j = 7 ∨ j = 8 by omega) with rfl | rfl | rfl | rfl | rfl | rfl
          · rw [f3]; omega
          · rw [f4]; omega
          · rw [f5]; omega
          · rw [f6]; omega
          · rw [f7]; omega
          · rw [f8]; omega
        · have ez4 : zN S 4 = aN A 15 := h.paps.2.1
          have ez7 : zN S 7 = 3 * aN A 15 := h.paps.2.2.1
          have e4 : zI S 11 0 4 = nI (aN A 15) := h.paps.1.trans c.1
          have hr := h.rm hA
          unfold f_X11_paper
          rw [findMan_ix hA h hi, isMarkC, if_pos b2, isMarkC, if_pos b3, isSpanC, if_pos b4, isSpanC, if_pos b6, isSpanC, if_pos b8, e4, h.al hA (by omega), h.ref 11 3 rfl]
          simp only [Option.bind_some, reduceCtorEq, if_false, if_neg (show ¬ (1 : Int32) = 0 by decide), if_pos (show ¬ (1 : Int32) = 0 by decide)]
          rw [if_pos (show nI (aN A 15) < 60 by rw [show (60 : Int32) = nI 60 from rfl, nI_ltI (by omega) (by omega)]; exact h8)]
          have e1 : zN (zNew S 4 6) 7 = 3 * aN A 15 := ez7
          have e2 : zN (S_sp (zNew S 4 6) (3 * aN A 15) (f 3) (f 4)) 7 = 3 * aN A 15 + 1 := congrArg (· + 1) e1
          have e3 : zN (S_sp (S_sp (zNew S 4 6) (3 * aN A 15) (f 3) (f 4)) (3 * aN A 15 + 1) (f 5) (f 6)) 7 = 3 * aN A 15 + 2 := congrArg (· + 1) e2
          have i7 : ∀ (q : Nat) (x y : Int32) (T : ZH), f_X7_init q x y (zNew T 7 2) = some (S_sp T q x y) := fun _ _ _ _ => rfl
          rw [zal_ok (S := zNew S 4 6) ⟨by show zc S + 1 + 1 ≤ _; omega, by show zs S + 6 + 2 ≤ _; omega⟩]
          simp only [Option.bind_some]
          rw [i7, e1, ← f3, ← f4]
          simp only [Option.bind_some]
          rw [zal_ok (S := S_sp _ _ _ _) ⟨by show zc S + 1 + 1 + 1 ≤ _; omega, by show zs S + 6 + 2 + 2 ≤ _; omega⟩]
          simp only [Option.bind_some]
          rw [i7, e2, ← f5, ← f6]
          simp only [Option.bind_some]
          rw [zal_ok (S := S_sp (S_sp _ _ _ _) _ _ _) ⟨by show zc S + 1 + 1 + 1 + 1 ≤ _; omega, by show zs S + 6 + 2 + 2 + 2 ≤ _; omega⟩]
          simp only [Option.bind_some]
          rw [i7, e3, ← f7, ← f8, ez4, ← f0, ← f1, ← f2]
          unfold f_X4_init
          simp only [Option.bind_some]
          rw [zstR_b (m := 60) (by exact h.len 23 60 rfl) h8 (by decide)]
          refine congrArg some (Prod.ext ?_ ?_)
          · show zI (zsI _ 11 0 4 _) 11 0 4 - 1 = _
            rw [zI_sI, if_pos ⟨rfl, rfl⟩]
            show zI S 11 0 4 + 1 - 1 = _
            rw [e4, nI_1, nI_pred]
          · show zsI _ 11 0 4 (zI S 11 0 4 + 1) = _
            rw [e4, nI_1]
            rfl
        · have e15 : zI (tS S) 12 0 15 = nI (aN A 15) := (h.t.f 15 rfl).trans c.1
          have hl : zL (tS S) 39 0 = 540 := h.t.len 39 540 rfl
          refine ⟨zsI (S_row (tS S) 39 (9 * aN A 15) f 9) 12 0 15 (nI (aN A 15 + 1)), ?_, ((h.t.row (by decide) 9).F 15 (nI (aN A 15 + 1))).eq pap_eqA, frC_t.tr ((frC_row (by decide) (by decide) 9).tr frC_F)⟩
          unfold f_X12_paper
          rw [noMan_ix hA h.t hi, badLookM, if_pos b2, badLookM, if_pos b3, badSpanM, if_pos b4, badSpanM, if_pos b6, badSpanM, if_pos b8, e15]
          simp only [Option.bind_some, if_true, if_neg (show ¬ ¬ (0 : Int32) = 0 by decide)]
          rw [if_pos (show ¬ nI (aN A 15) = 60 by rw [show (60 : Int32) = nI 60 from rfl, nI_eq (by omega) (by omega)]; omega), ix9']
          have hb : ∀ (j : Nat) (hj : j < 9) (g : ZH → Option (Int32 × ZH)) (x y : Int32), x = nI (9 * aN A 15 + j) → y = f j → ((zR (S_row (tS S) 39 (9 * aN A 15) f j) 12 0 16).bind fun a => (zst (S_row (tS S) 39 (9 * aN A 15) f j) 39 a x y).bind g) = g (S_row (tS S) 39 (9 * aN A 15) f (j + 1)) := by
            intro j hj g x y hx hy
            rw [S_row_R, h.t.ref 16 rfl, hx, hy]
            exact S_row_b hl (by omega) (by decide)
          refine (hb 0 (by decide) _ _ _ rfl f0.symm).trans ?_
          refine (hb 1 (by decide) _ _ _ (nI_p _ 1) f1.symm).trans ?_
          refine (hb 2 (by decide) _ _ _ (nI_p _ 2) f2.symm).trans ?_
          refine (hb 3 (by decide) _ _ _ (nI_p _ 3) f3.symm).trans ?_
          refine (hb 4 (by decide) _ _ _ (nI_p _ 4) f4.symm).trans ?_
          refine (hb 5 (by decide) _ _ _ (nI_p _ 5) f5.symm).trans ?_
          refine (hb 6 (by decide) _ _ _ (nI_p _ 6) f6.symm).trans ?_
          refine (hb 7 (by decide) _ _ _ (nI_p _ 7) f7.symm).trans ?_
          refine (hb 8 (by decide) _ _ _ (nI_p _ 8) f8.symm).trans ?_
          rw [show zI (S_row (tS S) 39 (9 * aN A 15) f (8 + 1)) 12 0 15 = nI (aN A 15) by rw [S_row_I (by decide)]; exact e15, nI_1, zI_sI, if_pos ⟨rfl, rfl⟩, nI_pred]
      · have e8 : aN A 15 = 60 := by omega
        refine .same hA (-4) (fun S h => ?_) (fun S h => ?_)
        · have e6 : zI S 11 0 4 = nI 60 := by rw [← e8]; exact h.paps.1.trans c.1
          unfold f_X11_paper
          rw [findMan_ix hA h hi, isMarkC, if_pos b2, isMarkC, if_pos b3, isSpanC, if_pos b4, isSpanC, if_pos b6, isSpanC, if_pos b8, e6]; rfl
        · have e17 : zI (tS S) 12 0 15 = nI 60 := by rw [← e8]; exact (h.t.f 15 rfl).trans c.1
          unfold f_X12_paper
          rw [noMan_ix hA h.t hi, badLookM, if_pos b2, badLookM, if_pos b3, badSpanM, if_pos b4, badSpanM, if_pos b6, badSpanM, if_pos b8, e17]; rfl
    · obtain ⟨i, hi, rfl⟩ := hx
      refine .same hA (-2) (fun S h => ?_) (fun S h => ?_)
      · unfold f_X11_paper
        rw [findMan_ix hA h hi, isMarkC, isMarkC, isSpanC, isSpanC, isSpanC]
        simp only [Option.bind_some]
        by_cases b2 : x2 = -9 ∨ rg x2 0 3
        · rw [if_pos b2]
          by_cases b3 : x3 = -9 ∨ rg x3 0 3
          · rw [if_pos b3]
            by_cases b4 : spnB x4 x5 99
            · rw [if_pos b4]
              by_cases b6 : spnB x6 x7 99
              · rw [if_pos b6]
                by_cases b8 : spnB x8 x9 899
                · exact absurd ⟨b2, b3, b4, b6, b8⟩ b
                · rw [if_neg b8]; rfl
              · rw [if_neg b6]; rfl
            · rw [if_neg b4]; rfl
          · rw [if_neg b3]; rfl
        · rw [if_neg b2]; rfl
      · unfold f_X12_paper
        rw [noMan_ix hA h.t hi, badLookM, badLookM, badSpanM, badSpanM, badSpanM]
        simp only [Option.bind_some]
        by_cases b2 : x2 = -9 ∨ rg x2 0 3
        · rw [if_pos b2]
          by_cases b3 : x3 = -9 ∨ rg x3 0 3
          · rw [if_pos b3]
            by_cases b4 : spnB x4 x5 99
            · rw [if_pos b4]
              by_cases b6 : spnB x6 x7 99
              · rw [if_pos b6]
                by_cases b8 : spnB x8 x9 899
                · exact absurd ⟨b2, b3, b4, b6, b8⟩ b
                · rw [if_neg b8]; rfl
              · rw [if_neg b6]; rfl
            · rw [if_neg b4]; rfl
          · rw [if_neg b3]; rfl
        · rw [if_neg b2]; rfl
  · refine .same hA (-1) (fun S h => ?_) (fun S h => ?_)
    · unfold f_X11_paper; rw [findMan_no hA h hx]; rfl
    · unfold f_X12_paper; rw [noMan_no hA h.t hx]; rfl
