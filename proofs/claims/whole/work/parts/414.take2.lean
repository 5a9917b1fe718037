theorem goTo_eq2 {A : ZA} {S : ZH} {i : Nat} {p : Int32} (hA : AIn A) (hmen : RCm A S) (hrm : zc S ≤ 80100 ∧ zs S ≤ 400100) (hi : i < aN A 5) : ∃ S1, f_X3_goTo i p (nI (aN A 4)) S = some (aP A i, S1) ∧ GD A S S1 i p := by
  obtain ⟨b1, b2, b3, b4, ⟨b11, b12, bl, bc1, bc2⟩, ⟨b13, bm1, bm2⟩, ⟨bT, bT2⟩, bP, bs⟩ := (hmen.2.2.1 i hi).2
  have h4 := hA.c4.2
  have htt := hmen.2.2.2.2.1 i hi
  have hnn := hmen.2.2.2.2.2
  have hbt := fun j hj => (isIx_iff (by omega)).mp (bT j hj)
  generalize hm : mvs S i = m at *
  generalize hc : capOf S i = c at *
  generalize ht : tt S i = t at *
  have hl : zL S 17 t = c := by rw [← hc, capOf, ht]
  have hdist : ∀ i', i' < aN A 5 → i' ≠ i → tt S i' ≠ t := fun i' h1 h2 e => h2 (hmen.2.2.2.1 i' i h1 hi (by rw [e, ht]))
  have hge := mono_ge (T := zI S 17 t) (m := m) (fun j hj => (hbt j hj).1) bT2
  have hold : ∀ (T P : Nat → Int32) (n : Nat), n ≤ m → (∀ j, j < n → T j = zI S 17 t j ∧ P j = zI S 18 t j) → (∀ q, q < aN A 4 → n < m → ∀ j, n ≤ j → j < m → (q : Int) < (zI S 17 t j).toInt) → ∀ q, q < aN A 4 → plAt (A.2 31 (8 * i + 6)) T P n q = aPl A q i := by
    intro T P n hn e1 e2 q hq
    rw [bP q (by omega), plAt_congr (T := zI S 17 t) (P := zI S 18 t) e1]
    have : ∀ d, n + d ≤ m → plAt (A.2 31 (8 * i + 6)) (zI S 17 t) (zI S 18 t) (n + d) q = plAt (A.2 31 (8 * i + 6)) (zI S 17 t) (zI S 18 t) n q := by
      intro d
      induction d with
      | zero => intro _; rfl
      | succ d ih =>
        intro hd
        show (if (zI S 17 t (n + d)).toInt ≤ (q : Int) then _ else _) = _
        rw [if_neg (by have := e2 q hq (by omega) (n + d) (by omega) (by omega); omega)]
        exact ih (by omega)
    have h9 := this (m - n) (by omega)
    rw [show n + (m - n) = m by omega] at h9
    exact h9.symm
  by_cases hx : m ≠ 0 ∧ zI S 17 t (m - 1) = nI (aN A 4)
  · obtain ⟨hm0, hx⟩ := hx
    obtain ⟨n, rfl⟩ : ∃ n, m = n + 1 := ⟨m - 1, by omega⟩
    rw [show n + 1 - 1 = n by omega] at hx
    have ht1 : tt (zsI (zsI S 3 i 8 p) 18 t n p) i = t := ht
    refine ⟨zsI (zsI S 3 i 8 p) 18 t n p, (goTo_A b11 b12 b13 hl bl (by omega) (by omega) hx).trans (by rw [b2]), n + 1, c, ⟨fun k a b d => (eqK_sI a).tr (eqK_sI d), rfl, fun i' hne => ⟨funext fun j => ?_, rfl⟩, ⟨fun j h8 h13 => ?_, ?_, ?_, rfl⟩, fun i' h1 h2 => ⟨rfl, rfl, rfl, funext fun j => ?_⟩, ?_, ⟨hnn, Nat.le_refl _, ?_, fun i' h1 h2 => ?_⟩, ?_⟩, ⟨bc1, bc2⟩, ⟨bm1, bm2⟩, ?_, ?_, fun q hq => ?_, by omega, ?_⟩
    · show zI (zsI S 3 i 8 p) 3 i' j = _
      rw [zI_sI, if_neg (fun e => hne e.1)]
    · show zI (zsI S 3 i 8 p) 3 i j = _
      rw [zI_sI, if_neg (fun e => h8 e.2)]
    · show zI (zsI S 3 i 8 p) 3 i 8 = _
      rw [zI_sI, if_pos ⟨rfl, rfl⟩]
    · show zI (zsI S 3 i 8 p) 3 i 13 = _
      rw [zI_sI, if_neg (by omega)]; exact b13
    · rw [zI_sI, if_neg (fun e => hdist i' h1 h2 e.1)]; rfl
    · rw [ht1]; exact ⟨b11, b12, hl, bl⟩
    · rw [ht1]; exact htt
    · rw [ht1]; exact (hdist i' h1 h2).symm
    · rw [hc]; exact ⟨Nat.le_refl _, Nat.le_refl _⟩
    · rw [ht1]; exact bT
    · rw [ht1]; exact bT2
    · rw [ht1]
      have hP : zI (zsI (zsI S 3 i 8 p) 18 t n p) 18 t n = p := by rw [zI_sI, if_pos ⟨rfl, rfl⟩]
      have hT : zI (zsI (zsI S 3 i 8 p) 18 t n p) 17 t = zI S 17 t := rfl
      show _ = if (zI (zsI (zsI S 3 i 8 p) 18 t n p) 17 t n).toInt ≤ (q : Int) then zI (zsI (zsI S 3 i 8 p) 18 t n p) 18 t n else _
      rw [hP, hT, hx, nI_toInt (by omega)]
      by_cases e : q = aN A 4
      · rw [if_pos e, if_pos (by omega)]
      · rw [if_neg e, if_neg (by omega)]
        refine (hold _ _ n (by omega) (fun j hj => ⟨rfl, ?_⟩) (fun q hq _ j h1 h2 => ?_) q (by omega)).symm
        · rw [zI_sI, if_neg (by omega)]; rfl
        · have : j = n := by omega
          rw [this, hx, nI_toInt (by omega)]; omega
    · rw [ht1]; exact hx
  · have hlt : ∀ j, j < m → (zI S 17 t j).toInt < aN A 4 := by
      intro j hj
      have h1 := (hbt j hj).2
      by_cases e : j = m - 1
      · subst e
        have h2 : (zI S 17 t (m - 1)).toInt ≠ (aN A 4 : Int) := fun e => hx ⟨by omega, i_eq.mpr (by rw [e, nI_toInt (by omega)])⟩
        omega
      · have h2 := bT2 j (m - 1) (by omega) (by omega)
        have h3 := (hbt (m - 1) (by omega)).2
        omega
    have hm9 : m + 1 ≤ 900 := by
      by_cases e : m = 0
      · omega
      · have h1 := hge (m - 1) (by omega)
        have h2 := hlt (m - 1) (by omega)
        omega
    have hB := goTo_B (p := p) (x := nI (aN A 4)) b11 b13 hl bm1 (by omega) (by
      by_cases e : m = 0
      · exact Or.inl e
      · exact Or.inr (fun e2 => hx ⟨e, e2⟩))
    -- the common end: S2 after makeRoom
    have fin : ∀ (S2 : ZH) (t' c' : Nat), f_X3_makeRoom i (zsI S 3 i 8 p) = some S2 → (∀ k, k ≠ 3 → k ≠ 17 → k ≠ 18 → eqK S S2 k) → zN S2 3 = zN S 3 → zI S2 3 = zI (zsI S 3 i 8 p) 3 → (∀ i' j, zR S2 3 i' j = if i' = i ∧ (j = 11 ∨ j = 12) then some t' else zR S 3 i' j) → (∀ q, q ≠ t' → zL S2 17 q = zL S 17 q ∧ zL S2 18 q = zL S 18 q ∧ zI S2 17 q = zI S 17 q ∧ zI S2 18 q = zI S 18 q) → (zL S2 17 t' = c' ∧ zL S2 18 t' = c') → (∀ j, j < m → zI S2 17 t' j = zI S 17 t j ∧ zI S2 18 t' j = zI S 18 t j) → (zN S2 17 = zN S2 18 ∧ zN S 17 ≤ zN S2 17 ∧ t' < zN S2 17 ∧ ∀ i', i' < aN A 5 → i' ≠ i → t' ≠ tt S i') → (zc S2 + c ≤ zc S + c' ∧ zs S2 + 4 * c ≤ zs S + 4 * c') → (m < c' ∧ 4 ≤ c' ∧ c' ≤ 1800) → ∃ S1, f_X3_goTo i p (nI (aN A 4)) S = some (aP A i, S1) ∧ GD A S S1 i p := by
      intro S2 t' c' f1 f2 f3 f4 f5 f6 f7 f8 f9 f10 f11
      have r11 : zR S2 3 i 11 = some t' := by rw [f5, if_pos ⟨rfl, Or.inl rfl⟩]
      have r12 : zR S2 3 i 12 = some t' := by rw [f5, if_pos ⟨rfl, Or.inr rfl⟩]
      have r13 : zI S2 3 i 13 = nI m := by rw [f4, zI_sI, if_neg (by omega)]; exact b13
      have hg := goTo32 (p := p) (v := aP A i) (x := nI (aN A 4)) f1 r11 r12 r13 f7.1 f7.2 f11.1 (by omega)
      generalize hS1 : zsI (zsI (zsI S2 17 t' m (nI (aN A 4))) 3 i 13 (nI (m + 1))) 18 t' m p = S1 at hg
      have g3 : ∀ i' j, zI S1 3 i' j = if i' = i ∧ j = 13 then nI (m + 1) else if i' = i ∧ j = 8 then p else zI S 3 i' j := by
        intro i' j
        subst hS1
        show zI (zsI (zsI S2 17 t' m (nI (aN A 4))) 3 i 13 (nI (m + 1))) 3 i' j = _
        rw [zI_sI]
        show (if _ then _ else zI S2 3 i' j) = _
        rw [f4, zI_sI]
      have gR : zR S1 = zR S2 := by subst hS1; rfl
      have gL : zL S1 = zL S2 := by subst hS1; rfl
      have gN : zN S1 = zN S2 := by subst hS1; rfl
      have g17 : ∀ q j, zI S1 17 q j = if q = t' ∧ j = m then nI (aN A 4) else zI S2 17 q j := by
        intro q j
        subst hS1
        show zI (zsI S2 17 t' m (nI (aN A 4))) 17 q j = _
        rw [zI_sI]
      have g18 : ∀ q j, zI S1 18 q j = if q = t' ∧ j = m then p else zI S2 18 q j := by
        intro q j
        subst hS1
        rw [zI_sI]; rfl
      have gk : ∀ k, k ≠ 3 → k ≠ 17 → k ≠ 18 → eqK S2 S1 k := by
        intro k a b d
        subst hS1
        exact ((eqK_sI b).tr (eqK_sI a)).tr (eqK_sI d)
      have gc : zc S1 = zc S2 := by subst hS1; rfl
      have gs : zs S1 = zs S2 := by subst hS1; rfl
      have ht1 : tt S1 i = t' := by unfold tt; rw [gR, r11]; rfl
      refine ⟨S1, hB.trans (by rw [b2]; exact hg), m + 1, c', ⟨fun k a b d => (f2 k a b d).tr (gk k a b d), by rw [gN, f3], fun i' hne => ⟨funext fun j => ?_, funext fun j => ?_⟩, ⟨fun j h8 h13 => ?_, ?_, ?_, ?_⟩, fun i' h1 h2 => ?_, ?_, ?_, ?_⟩, ⟨f11.2.1, f11.2.2⟩, ⟨by omega, hm9⟩, fun j hj => ?_, fun j k hjk hk => ?_, fun q hq => ?_, by omega, ?_⟩
      · rw [g3, if_neg (fun e => hne e.1), if_neg (fun e => hne e.1)]
      · rw [gR, f5, if_neg (fun e => hne e.1)]
      · rw [g3, if_neg (fun e => h13 e.2), if_neg (fun e => h8 e.2)]
      · rw [g3, if_neg (by omega), if_pos ⟨rfl, rfl⟩]
      · rw [g3, if_pos ⟨rfl, rfl⟩]
      · rw [gR, f5, if_neg (by omega)]
      · have hne := (f9.2.2.2 i' h1 h2).symm
        obtain ⟨a1, a2, a3, a4⟩ := f6 _ hne
        refine ⟨by rw [gL, a1], by rw [gL, a2], funext fun j => ?_, funext fun j => ?_⟩
        · rw [g17, if_neg (fun e => hne e.1), a3]
        · rw [g18, if_neg (fun e => hne e.1), a4]
      · rw [ht1, gR, gL]; exact ⟨r11, r12, f7.1, f7.2⟩
      · rw [ht1, gN]; exact f9
      · rw [hc, gc, gs]; exact f10
      · rw [ht1, g17]
        by_cases e : j = m
        · rw [if_pos ⟨rfl, e⟩]; exact ⟨aN A 4, by omega, rfl⟩
        · rw [if_neg (fun z => e z.2), (f8 j (by omega)).1]; exact bT j (by omega)
      · rw [ht1, g17, g17, if_neg (by omega), (f8 j (by omega)).1]
        by_cases e : k = m
        · rw [if_pos ⟨rfl, e⟩, nI_toInt (by omega)]; exact hlt j (by omega)
        · rw [if_neg (fun z => e z.2), (f8 k (by omega)).1]; exact bT2 j k hjk (by omega)
      · rw [ht1]
        show _ = if (zI S1 17 t' m).toInt ≤ (q : Int) then zI S1 18 t' m else _
        rw [g17, g18, if_pos (show t' = t' ∧ m = m from ⟨rfl, rfl⟩), if_pos (show t' = t' ∧ m = m from ⟨rfl, rfl⟩), nI_toInt (by omega)]
        by_cases e : q = aN A 4
        · rw [if_pos e, if_pos (by omega)]
        · rw [if_neg e, if_neg (by omega)]
          refine (hold _ _ m (Nat.le_refl _) (fun j hj => ?_) (fun q hq h1 => absurd h1 (Nat.lt_irrefl _)) q (by omega)).symm
          rw [g17, g18, if_neg (by omega), if_neg (by omega)]
          exact f8 j hj
      · rw [ht1, Nat.add_sub_cancel, g17, if_pos ⟨rfl, rfl⟩]
    by_cases hr : m < c
    · refine fin (zsI S 3 i 8 p) t c (room_no (m := m) (by rw [zI_sI, if_neg (by omega)]; exact b13) b11 hl hr (by omega)) (fun k a _ _ => eqK_sI a) rfl rfl (fun i' j => ?_) (fun q _ => ⟨rfl, rfl, rfl, rfl⟩) ⟨hl, bl⟩ (fun j _ => ⟨rfl, rfl⟩) ⟨hnn, Nat.le_refl _, htt, fun i' h1 h2 => (hdist i' h1 h2).symm⟩ ⟨Nat.le_refl _, Nat.le_refl _⟩ ⟨hr, bc1, bc2⟩
      show zR S 3 i' j = _
      by_cases e : i' = i ∧ (j = 11 ∨ j = 12)
      · rw [if_pos e, e.1]
        rcases e.2 with e | e <;> rw [e]
        · exact b11
        · exact b12
      · rw [if_neg e]
    · have hmc : m = c := by omega
      subst hmc
      refine fin (S_room (zsI S 3 i 8 p) i t m) (zN S 17) (2 * m) (room_yes (by rw [zI_sI, if_neg (by omega)]; exact b13) b11 b12 hl bl htt (by rw [hnn] at htt; exact htt) ⟨bc1, bm2⟩ ⟨?_, ?_⟩) (fun k a b d => ?_) rfl rfl (fun i' j => ?_) (fun q hq => ?_) ⟨?_, ?_⟩ (fun j hj => ?_) ⟨?_, ?_, ?_, fun i' h1 h2 => ?_⟩ ⟨?_, ?_⟩ ⟨by omega, by omega, by omega⟩
      all_goals try rw [hnn] at htt
      · show zc S + 2 ≤ _; omega
      · show zs S + 4 * m ≤ _; omega
      · exact (eqK_sI a).tr (room_k a b d)
      · exact room_R i' j hnn
      · refine ⟨?_, ?_, funext fun j => ?_, funext fun j => ?_⟩
        · rw [room_L17]; exact if_neg hq
        · rw [room_L18]; exact if_neg (fun e => hq (e.trans hnn.symm))
        · rw [room_I17 (S := zsI S 3 i 8 p) q j (show t ≠ zN S 17 by omega)]; exact if_neg hq
        · rw [room_I18 (S := zsI S 3 i 8 p) q j (show t ≠ zN S 18 by omega)]; exact if_neg (fun e => hq (e.trans hnn.symm))
      · rw [room_L17]; exact if_pos rfl
      · rw [room_L18]; exact if_pos hnn
      · constructor
        · rw [room_I17 (S := zsI S 3 i 8 p) _ j (show t ≠ zN S 17 by omega)]
          exact (if_pos rfl).trans (if_pos hj)
        · rw [room_I18 (S := zsI S 3 i 8 p) _ j (show t ≠ zN S 18 by omega)]
          exact (if_pos hnn).trans (if_pos hj)
      · show zN S 17 + 1 = zN S 18 + 1
        omega
      · show zN S 17 ≤ zN S 17 + 1
        omega
      · show zN S 17 < zN S 17 + 1
        omega
      · have := hmen.2.2.2.2.1 i' h1
        omega
      · show zc S + 2 + m ≤ zc S + 2 * m
        omega
      · show zs S + 2 * m + 2 * m + 4 * m ≤ zs S + 4 * (2 * m)
        omega
/-! ===== take ===== -/
def AW (A : ZA) (r : Nat → Int32) : ZA := (A.1, fun k => if k = 44 then r else A.2 k)
theorem row_AW {A : ZA} {b : Nat} {f : Nat → Int32} (n : Nat) : A_row A 44 b f n = AW A ((A_row A 44 b f n).2 44) := by
  refine Prod.ext (row_1 n) (funext fun k => ?_)
  show _ = if k = 44 then (A_row A 44 b f n).2 44 else A.2 k
  by_cases e : k = 44
  · rw [if_pos e, e]
  · rw [if_neg e, row_k e]
theorem frc_AW {A : ZA} {r : Nat → Int32} {t : Int32} : ∀ n, frc (AW A r) t n = frc A t n
  | 0 => rfl
  | n + 1 => by
    have e : fV (AW A r) n = fV A n := rfl
    show (if t < A.2 40 n then frc (AW A r) t n else if fV (AW A r) n = -9 then (match frc (AW A r) t n with | none => some n | some b => if A.2 40 n < A.2 40 b then some b else some n) else frc (AW A r) t n) = (if t < A.2 40 n then frc A t n else if fV A n = -9 then (match frc A t n with | none => some n | some b => if A.2 40 n < A.2 40 b then some b else some n) else frc A t n)
    rw [frc_AW n, e]
theorem ST_AW {A : ZA} {r : Nat → Int32} {a m : Nat} {cov : Int32} {n : Nat} : ∀ k, ST (AW A r) a m cov n k = ST A a m cov n k
  | 0 => rfl
  | k + 1 => by
    show stp2 (aSg (AW A r) a (n - (k + 1))) (tc (aSg (AW A r) a) (n - k)) (ST (AW A r) a m cov n k) (tV (AW A r) m cov (aSg (AW A r) a (n - (k + 1))) (nmB (aSg (AW A r) a) (n - (k + 1)))) = stp2 (aSg A a (n - (k + 1))) (tc (aSg A a) (n - k)) (ST A a m cov n k) (tV A m cov (aSg A a (n - (k + 1))) (nmB (aSg A a) (n - (k + 1))))
    rw [ST_AW k]
    rfl
theorem cvT_AW {A : ZA} {r : Nat → Int32} {m : Nat} : ∀ p, cvT (AW A r) m p = cvT A m p
  | 0 => rfl
  | p + 1 => by
    show (cvT (AW A r) m p || (decide (pf (AW A r) p 0 = nI m) && !decide (aCov (AW A r) p m ((AW A r).1 4) ≤ 0))) = (cvT A m p || (decide (pf A p 0 = nI m) && !decide (aCov A p m (A.1 4) ≤ 0)))
    rw [cvT_AW p]
    rfl
theorem mB_AW {A : ZA} {r : Nat → Int32} {m : Nat} {cov : Int32} : mB (AW A r) m cov = mB A m cov := by
  unfold mB
  have e1 : frc (AW A r) ((AW A r).1 4) (aN (AW A r) 17) = frc A (A.1 4) (aN A 17) := frc_AW _
  rw [e1]
  cases frc A (A.1 4) (aN A 17) with
  | none => rfl
  | some a =>
    show (if ST (AW A r) a m cov (aSn A a) (aSn A a) 0 = true then (1 : Int32) else 0) = _
    rw [ST_AW]
theorem shC_AW {A : ZA} {r : Nat → Int32} {m : Nat} {x : Int32} : shC (AW A r) m x = shC A m x := rfl
theorem AW_AIn {A : ZA} (hA : AIn A) {r : Nat → Int32} (hr : ∀ q, q < 6 * aN A 22 → r q = A.2 44 q) : AIn (AW A r) := by
  refine ⟨hA.1, hA.2.1, hA.2.2.1, hA.2.2.2.1, hA.2.2.2.2.1, hA.2.2.2.2.2.1, fun t ht => ?_, hA.2.2.2.2.2.2.2⟩
  have ht' : t < aN A 22 := ht
  have h0 := hA.tk ht'
  have e : ∀ q, q < 6 * aN A 22 → (AW A r).2 44 q = A.2 44 q := fun q hq => hr q hq
  rw [e (6 * t) (by omega), e (6 * t + 1) (by omega), e (6 * t + 2) (by omega), e (6 * t + 3) (by omega), e (6 * t + 4) (by omega), e (6 * t + 5) (by omega)]
  exact h0
theorem row_AIn {A : ZA} (hA : AIn A) {f : Nat → Int32} (n : Nat) : AIn (A_row A 44 (6 * aN A 22) f n) := by
  rw [row_AW]
  exact AW_AIn hA (fun q hq => by rw [row_at, if_neg (by omega)])
def A_tk (A : ZA) (f : Nat → Int32) : ZA := aF (A_row A 44 (6 * aN A 22) f 6) 22 (nI (aN A 22 + 1))
def A_tk2 (A : ZA) (r : Nat → Int32) : ZA := aF (AW A r) 22 (nI (aN A 22 + 1))
theorem tk_eq {A : ZA} {f : Nat → Int32} : A_tk A f = A_tk2 A ((A_row A 44 (6 * aN A 22) f 6).2 44) := by
  unfold A_tk A_tk2
  rw [← row_AW]
theorem tk_AIn {A : ZA} (hA : AIn A) {r : Nat → Int32} (h60 : aN A 22 < 60) (hr : ∀ q, q < 6 * aN A 22 → r q = A.2 44 q) (h0 : isIx (aN A 4 + 1) (r (6 * aN A 22))) (h1 : isIx (aN A 5) (r (6 * aN A 22 + 1))) (h2 : r (6 * aN A 22 + 2) = -9 ∨ isIx (aN A 15) (r (6 * aN A 22 + 2))) (h3 : isIx (aN A 1) (r (6 * aN A 22 + 3)) ∨ rg (r (6 * aN A 22 + 3)) 10 19) (h4 : b01 (r (6 * aN A 22 + 4))) (h5 : b01 (r (6 * aN A 22 + 5))) : AIn (A_tk2 A r) := by
  have en : aN (A_tk2 A r) 22 = aN A 22 + 1 := aN_F _ 22 _ (by omega)
  refine ⟨⟨hA.c1, hA.c1p, hA.c4, hA.c5, hA.c9, hA.c15, hA.c17, ⟨by rw [en]; rfl, by rw [en]; omega⟩, hA.c24, ?_, hA.c31, hA.room, hA.rate⟩, hA.2.1, hA.2.2.1, hA.2.2.2.1, hA.2.2.2.2.1, hA.2.2.2.2.2.1, fun t ht => ?_, hA.2.2.2.2.2.2.2⟩
  · rw [en]
    have := hA.c24l
    show aN A 24 ≤ _
    omega
  · rw [en] at ht
    have e : ∀ q, (A_tk2 A r).2 44 q = r q := fun q => rfl
    rw [e, e, e, e, e, e]
    by_cases e1 : t = aN A 22
    · rw [e1]
      exact ⟨h0, h1, h2, h3, h4, h5⟩
    · have h := hA.tk (show t < aN A 22 by omega)
      rw [hr (6 * t) (by omega), hr (6 * t + 1) (by omega), hr (6 * t + 2) (by omega), hr (6 * t + 3) (by omega), hr (6 * t + 4) (by omega), hr (6 * t + 5) (by omega)]
      exact h
theorem lastT_congr {tk tk' : Nat → Int32} {i : Nat} : ∀ {n : Nat}, (∀ k, k < n → tk' (6 * k + 1) = tk (6 * k + 1)) → lastT tk' i n = lastT tk i n
  | 0, _ => rfl
  | n + 1, h => by
    show (if tk' (6 * n + 1) = nI i then some n else lastT tk' i n) = if tk (6 * n + 1) = nI i then some n else lastT tk i n
    rw [h n (by omega), lastT_congr (fun k hk => h k (by omega))]
def S_tk (S : ZH) (m k : Nat) (r : Nat → Int32) : ZH := zsR (zsI (zsI (zsI (zsI (zsI (zsI (zNew S 8 6) 8 k 0 (r (6 * k))) 8 k 1 (r (6 * k + 1))) 8 k 2 (r (6 * k + 2))) 8 k 3 (r (6 * k + 3))) 8 k 4 (r (6 * k + 4))) 8 k 5 (r (6 * k + 5))) 3 m 10 (some k)
def S_add (S : ZH) (k : Nat) : ZH := zsI (zsR S 19 0 k (some k)) 5 0 0 (nI (k + 1))
theorem tk_men {A : ZA} {S : ZH} (hA : AIn A) (h : RC A S) {r : Nat → Int32} {m : Nat} (hm : m < aN A 5) (h60 : aN A 22 < 60) (hr : ∀ q, q < 6 * aN A 22 → r q = A.2 44 q) (h1 : r (6 * aN A 22 + 1) = nI m) : RCm (A_tk2 A r) (S_tk S m (aN A 22) r) := by
  have c5 := hA.c5.2
  have en : aN (A_tk2 A r) 22 = aN A 22 + 1 := aN_F _ 22 _ (by omega)
  refine ⟨h.men.1, h.men.2.1, fun i hi => ⟨(h.men.2.2.1 i hi).1, ?_⟩, ?_, ?_, h.men.2.2.2.2.2⟩
  · have hi' : i < aN A 5 := hi
    have h0 := h.man hi'
    have r3 : ∀ j, zR (S_tk S m (aN A 22) r) 3 i j = if i = m ∧ j = 10 then some (aN A 22) else zR S 3 i j := fun j => by
      unfold S_tk
      rw [zR_sR]; rfl
    refine h0.cg2 (by rw [r3, if_neg (by omega)]) (by rw [r3, if_neg (by omega)]) rfl rfl rfl rfl rfl rfl (fun _ => rfl) rfl rfl h0.1 rfl h0.2.2.1 ?_
    rw [r3, en]
    show _ = if r (6 * aN A 22 + 1) = nI i then some (aN A 22) else lastT r i (aN A 22)
    by_cases e : i = m
    · rw [if_pos ⟨e, rfl⟩, if_pos (by rw [h1, e])]
    · rw [if_neg (fun z => e z.1), if_neg (fun z => e (nI_inj (by omega) (by omega) (z.symm.trans h1))), lastT_congr (tk := A.2 44) (fun k hk => hr _ (by omega))]
      exact h0.2.2.2.1
  · intro i j hi hj e
    refine h.men.2.2.2.1 i j hi hj ?_
    have et : ∀ q, tt (S_tk S m (aN A 22) r) q = tt S q := fun q => by
      unfold tt S_tk
      rw [zR_sR, if_neg (by omega)]; rfl
    rw [et, et] at e
    exact e
  · intro i hi
    have et : tt (S_tk S m (aN A 22) r) i = tt S i := by
      unfold tt S_tk
      rw [zR_sR, if_neg (by omega)]; rfl
    rw [et]
    exact h.men.2.2.2.2.1 i hi
theorem tk_RC {A : ZA} {S : ZH} (hA : AIn A) (h : RC A S) {r : Nat → Int32} {m : Nat} (hm : m < aN A 5) (h60 : aN A 22 < 60) (hr : ∀ q, q < 6 * aN A 22 → r q = A.2 44 q) (h1 : r (6 * aN A 22 + 1) = nI m) : RC (A_tk2 A r) (S_add (S_tk S m (aN A 22) r) (aN A 22)) := by
  have en : aN (A_tk2 A r) 22 = aN A 22 + 1 := aN_F _ 22 _ (by omega)
  have ez : zN S 8 = aN A 22 := h.tks.2.2.1
  have a1 : SC (S_tk S m (aN A 22) r) := by unfold S_tk; exact SC.sR (SC.sI (SC.sI (SC.sI (SC.sI (SC.sI (SC.sI (SC.new h.sc rfl))))))) rfl
  have a2 : SC (S_add (S_tk S m (aN A 22) r) (aN A 22)) := by unfold S_add; exact SC.sI (SC.sR a1 rfl)
  have k1 : ∀ k, k ≠ 3 → k ≠ 8 → k ≠ 19 → k ≠ 5 → eqK S (S_add (S_tk S m (aN A 22) r) (aN A 22)) k := by
    intro k h3 h8 h19 h5
    unfold S_add S_tk
    exact (((((((((eqK_new h8).tr (eqK_sI h8)).tr (eqK_sI h8)).tr (eqK_sI h8)).tr (eqK_sI h8)).tr (eqK_sI h8)).tr (eqK_sI h8)).tr (eqK_sR h3)).tr (eqK_sR h19)).tr (eqK_sI h5)
  have kl : ∀ (l : List Nat), l.contains 3 = false → l.contains 8 = false → l.contains 19 = false → l.contains 5 = false → ∀ k, kIn l k = true → eqK S (S_add (S_tk S m (aN A 22) r) (aN A 22)) k := fun l a b c d k hk => k1 k (kNe a k hk) (kNe b k hk) (kNe c k hk) (kNe d k hk)
  have b1 := h.town.k (kl _ rfl rfl rfl rfl)
  have b3 := h.paps.k (kl _ rfl rfl rfl rfl)
  have b4 := h.acts.k (kl _ rfl rfl rfl rfl)
  have b5 := h.shps.k (kl _ rfl rfl rfl rfl)
  have b6 := h.tix.k (kl _ rfl rfl rfl rfl)
  have b7 := h.misc.k (kl _ rfl rfl rfl rfl)
  have b2 : RCm (A_tk2 A r) (S_add (S_tk S m (aN A 22) r) (aN A 22)) := (tk_men hA h hm h60 hr h1).k (fun k hk => (eqK_sR (kNe (k0 := 19) rfl k hk)).tr (eqK_sI (kNe (k0 := 5) rfl k hk)))
  refine ⟨a2, b1, b2, b3, b4, ⟨rfl, ?_, ?_, fun t ht => ?_⟩, b5, b6, b7, ?_⟩
  · show zI (S_add (S_tk S m (aN A 22) r) (aN A 22)) 5 0 2 = A.1 24
    exact h.tks.2.1
  · rw [en]
    show zN S 8 + 1 = _
    rw [ez]
  · rw [en] at ht
    have r19 : zR (S_add (S_tk S m (aN A 22) r) (aN A 22)) 19 0 t = if t = aN A 22 then some (aN A 22) else zR S 19 0 t := by
      show zR (zsR _ 19 0 _ _) 19 0 t = _
      rw [zR_sR]
      simp only [true_and]
      rfl
    have z8 : ∀ j, zI (S_add (S_tk S m (aN A 22) r) (aN A 22)) 8 t j = if t = aN A 22 then (if j < 6 then r (6 * aN A 22 + j) else 0) else zI S 8 t j := by
      intro j
      show zI (zsI (zsI (zsI (zsI (zsI (zsI (zNew S 8 6) 8 (aN A 22) 0 (r (6 * aN A 22))) 8 (aN A 22) 1 (r (6 * aN A 22 + 1))) 8 (aN A 22) 2 (r (6 * aN A 22 + 2))) 8 (aN A 22) 3 (r (6 * aN A 22 + 3))) 8 (aN A 22) 4 (r (6 * aN A 22 + 4))) 8 (aN A 22) 5 (r (6 * aN A 22 + 5))) 8 t j = _
      rw [zI_sI, zI_sI, zI_sI, zI_sI, zI_sI, zI_sI, zI_nw, ez]
      by_cases e : t = aN A 22
      · simp only [e, true_and, if_true]
        by_cases hj : j < 6
        · rcases (show j = 0 ∨ j = 1 ∨ j = 2 ∨ j = 3 ∨ j = 4 ∨ j = 5 by omega) with rfl | rfl | rfl | rfl | rfl | rfl <;> simp
        · rw [if_neg (by omega), if_neg (by omega), if_neg (by omega), if_neg (by omega), if_neg (by omega), if_neg (by omega), if_neg hj]
      · simp only [e, false_and, if_false]
    refine ⟨?_, fun j hj => ?_⟩
    · rw [r19]
      by_cases e : t = aN A 22
      · rw [if_pos e, e]
      · rw [if_neg e]; exact (h.tks.2.2.2 t (by omega)).1
    · rw [z8]
      show _ = r (6 * t + j)
      by_cases e : t = aN A 22
      · rw [if_pos e, if_pos hj, e]
      · rw [if_neg e, hr _ (by omega)]
        exact (h.tks.2.2.2 t (by omega)).2 j hj
  · have hb := h.bud
    have hcap : capOf (S_add (S_tk S m (aN A 22) r) (aN A 22)) = capOf S := by
      funext i
      have et : tt (S_add (S_tk S m (aN A 22) r) (aN A 22)) i = tt S i := by
        show (zR (S_tk S m (aN A 22) r) 3 i 11).getD 0 = _
        unfold S_tk
        rw [zR_sR, if_neg (by omega)]; rfl
      unfold capOf
      rw [et]; rfl
    unfold RCb at hb ⊢
    rw [en, hcap]
    have e1 : zc (S_add (S_tk S m (aN A 22) r) (aN A 22)) = zc S + 1 := rfl
    have e2 : zs (S_add (S_tk S m (aN A 22) r) (aN A 22)) = zs S + 6 := rfl
    have e4 : aN (A_tk2 A r) 5 = aN A 5 := rfl
    have e5 : aN (A_tk2 A r) 15 = aN A 15 := rfl
    have e6 : aN (A_tk2 A r) 17 = aN A 17 := rfl
    have e7 : aN (A_tk2 A r) 9 = aN A 9 := rfl
    have e8 : aN (A_tk2 A r) 31 = aN A 31 := rfl
    rw [e1, e2, e4, e5, e6, e7, e8]
    omega
theorem eqK.sR {S S1 : ZH} {k k0 i j : Nat} {v : Option Nat} (h : eqK S S1 k) : eqK (zsR S k0 i j v) (zsR S1 k0 i j v) k := by
  refine ⟨h.1, h.2.1, h.2.2.1, funext fun i' => funext fun j' => ?_⟩
  show (if k = k0 ∧ i' = i ∧ j' = j then v else zR S1 k i' j') = if k = k0 ∧ i' = i ∧ j' = j then v else zR S k i' j'
  rw [h.2.2.2]
theorem eqK.sI {S S1 : ZH} {k k0 i j : Nat} {v : Int32} (h : eqK S S1 k) : eqK (zsI S k0 i j v) (zsI S1 k0 i j v) k := by
  refine ⟨h.1, h.2.1, funext fun i' => funext fun j' => ?_, h.2.2.2⟩
  show (if k = k0 ∧ i' = i ∧ j' = j then v else zI S1 k i' j') = if k = k0 ∧ i' = i ∧ j' = j then v else zI S k i' j'
  rw [h.2.2.1]
theorem GD.add {A : ZA} {S S1 : ZH} {i k : Nat} {p : Int32} (g : GD A S S1 i p) : GD A (S_add S k) (S_add S1 k) i p := by
  obtain ⟨m', c', ⟨g1, g2, g3, g4, g5, g6, g7, g8⟩, rest⟩ := g
  exact ⟨m', c', ⟨fun k' a b d => ((g1 k' a b d).sR).sI, g2, g3, g4, g5, g6, g7, g8⟩, rest⟩
theorem mas_new {S : ZH} {x : Option Nat} {y : Int32} : f_X11_mayAsShown 0 x y (zNew S 8 6) = f_X11_mayAsShown 0 x y S := rfl
theorem mit_new {S : ZH} {x : Int32} : f_X11_mayInTruth 0 x (zNew S 8 6) = f_X11_mayInTruth 0 x S := rfl
