/-! ===== room, new objects ===== -/
theorem sumN_le {f : Nat → Nat} {c : Nat} : ∀ {n : Nat}, (∀ i, i < n → f i ≤ c) → sumN f n ≤ n * c
  | 0, _ => Nat.zero_le _
  | n + 1, h => by
    have h1 := sumN_le (n := n) (fun i hi => h i (by omega))
    have h2 := h n (by omega)
    show sumN f n + f n ≤ (n + 1) * c
    rw [Nat.add_mul]
    omega
theorem RC.rm {A : ZA} {S : ZH} (hA : AIn A) (h : RC A S) : zc S ≤ 80000 ∧ zs S ≤ 400000 := by
  have h1 := h.bud
  have h2 : sumN (capOf S) (aN A 5) ≤ aN A 5 * 1800 := sumN_le (fun i hi => (h.man hi).2.2.2.2.1.2.2.2.2)
  have a1 := hA.c5.2
  have a2 := hA.c15.2
  have a3 := hA.c17.2
  have a4 := hA.c22.2
  have a5 := hA.c9.2
  have a6 := hA.c31.2
  unfold RCb at h1
  omega
theorem RC.al {A : ZA} {S : ZH} (hA : AIn A) (h : RC A S) {k n : Nat} (hn : n ≤ 5000) : zal S k n = some (zNew S k n) := by
  have h1 := h.rm hA
  unfold zal
  rw [if_pos (by show zc S + 1 ≤ 600000 ∧ zs S + n ≤ 7302250; omega)]
theorem zI_ne {S : ZH} {k k' i j : Nat} {v : Int32} (h : k' ≠ k) : zI (zsI S k i j v) k' = zI S k' := (eqK_sI h).2.2.1
theorem zR_ne {S : ZH} {k k' i j : Nat} {v : Option Nat} (h : k' ≠ k) : zR (zsR S k i j v) k' = zR S k' := (eqK_sR h).2.2.2
theorem zI_nw (S : ZH) (k n i j : Nat) : zI (zNew S k n) k i j = if i = zN S k then 0 else zI S k i j := by
  show (if k = k ∧ i = zN S k then (0 : Int32) else zI S k i j) = _
  simp
theorem aN_F (A : ZA) (j n : Nat) (hn : n < 2 ^ 31) : aN (aF A j (nI n)) j = n := by
  unfold aN aF
  simp only [if_true]
  exact nI_clamp hn
theorem isPl_mono {A A' : ZA} (h1 : aN A' 1 = aN A 1) (h9 : aN A 9 ≤ aN A' 9) {p : Int32} (h : isPl A p) : isPl A' p := by
  rcases h with h | ⟨s, hs, e⟩ | h
  · exact Or.inl (by rw [h1]; exact h)
  · exact Or.inr (Or.inl ⟨s, by omega, e⟩)
  · exact Or.inr (Or.inr h)
theorem zstR_b {α : Type} {S : ZH} {k a n m : Nat} {v : Option Nat} {f : ZH → Option α} (hl : zL S k a = m) (h : n < m) (hm : m < 2 ^ 31) : (zstR S k a (nI n) v).bind f = f (zsR S k a n v) := by rw [zstR_at hl h hm]; rfl
theorem zst_b {α : Type} {S : ZH} {k a n m : Nat} {v : Int32} {f : ZH → Option α} (hl : zL S k a = m) (h : n < m) (hm : m < 2 ^ 31) : (zst S k a (nI n) v).bind f = f (zsI S k a n v) := by rw [zst_at hl h hm]; rfl
theorem zld_b {α : Type} {S : ZH} {k a n m : Nat} {f : Int32 → Option α} (hl : zL S k a = m) (h : n < m) (hm : m < 2 ^ 31) : (zld S k a (nI n)).bind f = f (zI S k a n) := by rw [zld_at hl h hm]; rfl
theorem zldR_b {α : Type} {S : ZH} {k a n m : Nat} {f : Option Nat → Option α} (hl : zL S k a = m) (h : n < m) (hm : m < 2 ^ 31) : (zldR S k a (nI n)).bind f = f (zR S k a n) := by rw [zldR_at hl h hm]; rfl
theorem o_b {α β : Type} {o : Option α} {a : α} {f : α → Option β} (h : o = some a) : o.bind f = f a := by rw [h]; rfl
/-- the reference's store at a row, and the row's abstract change -/
theorem MV.st {α : Type} {A : ZA} {S : ZH} (h : MV A S) {k n : Nat} (m : Nat) {v : Int32} {f : ZH → Option α} (hj : SMl.contains (k, m) = true) (hn : n < m) (hm : m < 2 ^ 31) : (zst S k 0 (nI n) v).bind f = f (zsI S k 0 n v) := zst_b (h.len k m hj) hn hm
theorem b01_rg {k : Int32} (h : rg k 0 1) : b01 k := by
  rcases (show k.toInt = 0 ∨ k.toInt = 1 by have := h.1; have := h.2; omega) with e | e
  · exact Or.inl (i_eq.mpr e)
  · exact Or.inr (i_eq.mpr e)
theorem kNe {l : List Nat} {k0 : Nat} (h : l.contains k0 = false) : ∀ k, kIn l k = true → k ≠ k0 := by
  rintro k hk rfl
  rw [kIn, h] at hk
  cases hk
def A_ship (A : ZA) (k n s l : Int32) : ZA := aF (aR (aR (aR (aR A 34 (aN A 9) k) 35 (aN A 9) n) 36 (aN A 9) s) 37 (aN A 9) l) 9 (nI (aN A 9 + 1))
def S_ship (S : ZH) (a : Nat) (k n s l : Int32) : ZH := zsI (zsR (zsI (zsI (zsI (zsI (zsI (zNew S 6 5) 6 a 4 1) 6 a 0 k) 6 a 1 n) 6 a 2 s) 6 a 3 l) 25 0 a (some a)) 11 0 9 (nI (a + 1))
theorem ship_AIn {A : ZA} (hA : AIn A) {k n s l : Int32} (h1 : rg k 0 1) (h2 : rg n 1 20) (h3 : rg s 0 n.toInt) (h4 : rg l 0 20) (h5 : aN A 9 < 10) : AIn (A_ship A k n s l) := by
  have en : aN (A_ship A k n s l) 9 = aN A 9 + 1 := aN_F _ 9 _ (by omega)
  have h3' : rg s 0 20 := ⟨h3.1, by have := h3.2; have := h2.2; omega⟩
  refine ⟨⟨hA.c1, hA.c1p, hA.c4, hA.c5, ⟨by rw [en]; rfl, by rw [en]; omega⟩, hA.c15, hA.c17, hA.c22, hA.c24, hA.c24l, hA.c31, hA.room, hA.rate⟩, hA.2.1, ⟨hA.2.2.1.1, fun t i ht hi => isPl_mono (A := A) (A' := A_ship A k n s l) (p := aPl A t i) rfl (by rw [en]; omega) (hA.2.2.1.2 t i ht hi)⟩, ⟨fun q hq => ?_, fun q hq hq2 => ?_⟩, hA.2.2.2.2⟩
  · rw [en] at hq
    by_cases e : q = aN A 9
    · subst e
      have h0 : A.2 38 (aN A 9) = 0 := hA.2.2.2.1.2 _ (Nat.le_refl _) h5
      simp only [A_ship, aF, aR]
      simp [h0]
      exact ⟨b01_rg h1, h2, h3', h4, Or.inl rfl⟩
    · have h0 := hA.sh (show q < aN A 9 by omega)
      simp only [A_ship, aF, aR]
      simpa [e] using h0
  · rw [en] at hq
    exact hA.2.2.2.1.2 q (by omega) hq2
theorem ship_RC {A : ZA} {S : ZH} (hA : AIn A) (h : RC A S) {k n s l : Int32} (h5 : aN A 9 < 10) : RC (A_ship A k n s l) (S_ship S (aN A 9) k n s l) := by
  have en : aN (A_ship A k n s l) 9 = aN A 9 + 1 := aN_F _ 9 _ (by omega)
  have ez : zN S 6 = aN A 9 := h.shps.2.1
  refine ⟨⟨fun q hq => ?_, fun q hq => ?_⟩, h.town, h.men, h.paps, h.acts, h.tks, ⟨rfl, ?_, fun q hq => ?_⟩, h.tix, h.misc, ?_⟩
  · have hne : q.1 ≠ 25 := by revert q; decide
    have hne6 : q.1 ≠ 6 := by clear hne; revert q; decide
    show zR (zsR _ 25 0 _ _) q.1 0 q.2 = some 0
    rw [zR_ne hne]
    show zR (zNew S 6 5) q.1 0 q.2 = some 0
    rw [(eqK_new (S := S) (n := 5) (k := 6) (k' := q.1) hne6).2.2.2]
    exact h.sc.1 q hq
  · have hne6 : q.1 ≠ 6 := by revert q; decide
    show zL (zNew S 6 5) q.1 0 = q.2
    rw [(eqK_new (S := S) (n := 5) (k := 6) (k' := q.1) hne6).2.1]
    exact h.sc.2 q hq
  · rw [en]
    show zN (zNew S 6 5) 6 = _
    rw [zN_new, if_pos rfl, ez]
  · rw [en] at hq
    have hz : ∀ j, zI (S_ship S (aN A 9) k n s l) 6 q j = zI (zsI (zsI (zsI (zsI (zsI (zNew S 6 5) 6 (aN A 9) 4 1) 6 (aN A 9) 0 k) 6 (aN A 9) 1 n) 6 (aN A 9) 2 s) 6 (aN A 9) 3 l) 6 q j := fun j => rfl
    have hr : zR (S_ship S (aN A 9) k n s l) 25 0 q = if q = aN A 9 then some (aN A 9) else zR S 25 0 q := by
      show zR (zsR _ 25 0 _ _) 25 0 q = _
      rw [zR_sR]
      simp only [true_and]
      rfl
    rw [hr]
    simp only [hz, zI_sI, zI_nw, ez]
    by_cases e : q = aN A 9
    · subst e
      have h0 : A.2 38 (aN A 9) = 0 := hA.2.2.2.1.2 _ (Nat.le_refl _) h5
      simp only [A_ship, aF, aR]
      simp [h0]
    · have h0 := h.shps.2.2 q (by omega)
      simp only [A_ship, aF, aR]
      simpa [e] using h0
  · have hb := h.bud
    unfold RCb at hb ⊢
    rw [en]
    have e1 : zc (S_ship S (aN A 9) k n s l) = zc S + 1 := rfl
    have e2 : zs (S_ship S (aN A 9) k n s l) = zs S + 5 := rfl
    have e3 : capOf (S_ship S (aN A 9) k n s l) = capOf S := rfl
    have e4 : aN (A_ship A k n s l) 5 = aN A 5 := rfl
    have e5 : aN (A_ship A k n s l) 15 = aN A 15 := rfl
    have e6 : aN (A_ship A k n s l) 17 = aN A 17 := rfl
    have e7 : aN (A_ship A k n s l) 22 = aN A 22 := rfl
    have e8 : aN (A_ship A k n s l) 31 = aN A 31 := rfl
    rw [e1, e2, e3, e4, e5, e6, e7, e8]
    omega
theorem ship_fr {S : ZH} {a : Nat} {k n s l : Int32} : frM S (S_ship S a k n s l) := by
  unfold S_ship
  exact (frM_new (nM 6 rfl)).tr ((frM_sI (nM 6 rfl)).tr ((frM_sI (nM 6 rfl)).tr ((frM_sI (nM 6 rfl)).tr ((frM_sI (nM 6 rfl)).tr ((frM_sI (nM 6 rfl)).tr ((frM_sR (nM 25 rfl)).tr (frM_sI (nM 11 rfl))))))))
theorem op_ship {A : ZA} (hA : AIn A) (k n s l : Int32) : OpE A (f_X11_ship 0 k n s l) (f_X12_ship 0 k n s l) := by
  have c9 := hA.c9
  have c92 := c9.2
  by_cases h1 : rg k 0 1
  · by_cases h2 : rg n 1 20
    · by_cases h3 : rg s 0 n.toInt
      · by_cases h4 : rg l 0 20
        · by_cases h5 : aN A 9 < 10
          · refine ⟨nI (aN A 9), A_ship A k n s l, ship_AIn hA h1 h2 h3 h4 h5, fun S h => ⟨S_ship S (aN A 9) k n s l, ?_, ship_RC hA h h5, ship_fr⟩, fun S h => ?_⟩
            · have ez : zN S 6 = aN A 9 := h.shps.2.1
              have e9 : zI S 11 0 9 = nI (aN A 9) := h.shps.1.trans c9.1
              unfold f_X11_ship f_X6_init
              rw [within_rg (a := 0) (b := 1) (p := 0) (q := 1) rfl rfl h1, within_rg (a := 1) (b := 20) (p := 1) (q := 20) rfl rfl h2, within_rg (a := 0) (b := n) (p := 0) (q := n.toInt) rfl rfl h3, within_rg (a := 0) (b := 20) (p := 0) (q := 20) rfl rfl h4, e9, h.al hA (by omega), ez, h.ref 11 8 rfl]
              simp only [Option.bind_some, if_neg (show ¬ (1 : Int32) = 0 by decide), if_pos (show ¬ (1 : Int32) = 0 by decide)]
              rw [if_pos (by rw [show (10 : Int32) = nI 10 from rfl, nI_ltI (by omega) (by omega)]; exact h5)]
              refine (zstR_b (m := 10) ?hl h5 (by decide)).trans ?_; case hl => exact h.len 25 10 rfl
              have e11 : zI (zsR (zsI (zsI (zsI (zsI (zsI (zNew S 6 5) 6 (aN A 9) 4 1) 6 (aN A 9) 0 k) 6 (aN A 9) 1 n) 6 (aN A 9) 2 s) 6 (aN A 9) 3 l) 25 0 (aN A 9) (some (aN A 9))) 11 0 9 = nI (aN A 9) := e9
              rw [e11, nI_1, zI_sI, if_pos ⟨rfl, rfl⟩, nI_pred]
              rfl
            · have e9 : zI S 12 0 9 = nI (aN A 9) := (h.f 9 rfl).trans c9.1
              have e9t : zI (tS S) 12 0 9 = nI (aN A 9) := e9
              refine ⟨zsI (zsI (zsI (zsI (zsI (tS S) 34 0 (aN A 9) k) 35 0 (aN A 9) n) 36 0 (aN A 9) s) 37 0 (aN A 9) l) 12 0 9 (nI (aN A 9 + 1)), ?_, ((((h.t.R 34 (aN A 9) k (by omega)).R 35 (aN A 9) n (by omega)).R 36 (aN A 9) s (by omega)).R 37 (aN A 9) l (by omega)).F 9 (nI (aN A 9 + 1)), frC_t.tr ((frC_R (by omega) (by omega)).tr ((frC_R (by omega) (by omega)).tr ((frC_R (by omega) (by omega)).tr ((frC_R (by omega) (by omega)).tr frC_F))))⟩
              unfold f_X12_ship
              rw [in_rg (a := 0) (b := 1) (p := 0) (q := 1) rfl rfl h1, in_rg (a := 1) (b := 20) (p := 1) (q := 20) rfl rfl h2, in_rg (a := 0) (b := n.toInt64) (p := 0) (q := n.toInt) rfl (l_toInt n) h3, in_rg (a := 0) (b := 20) (p := 0) (q := 20) rfl rfl h4, e9t, h.t.ref 10 rfl]
              simp only [Option.bind_some, if_neg (show ¬ (1 : Int32) = 0 by decide), if_pos (show ¬ (1 : Int32) = 0 by decide)]
              rw [if_pos (by rw [show (10 : Int32) = nI 10 from rfl, nI_eq (by omega) (by omega)]; omega)]
              refine (zst_b (m := 10) ?hl h5 (by decide)).trans ?_; case hl => exact h.t.len 34 10 rfl
              refine (o_b (a := 0) ?hl).trans ?_; case hl => exact h.t.ref 11 rfl
              rw [show zI (zsI (tS S) 34 0 (aN A 9) k) 12 0 9 = nI (aN A 9) from e9]
              refine (zst_b (m := 10) ?hl h5 (by decide)).trans ?_; case hl => exact h.t.len 35 10 rfl
              refine (o_b (a := 0) ?hl).trans ?_; case hl => exact h.t.ref 12 rfl
              rw [show zI (zsI (zsI (tS S) 34 0 (aN A 9) k) 35 0 (aN A 9) n) 12 0 9 = nI (aN A 9) from e9]
              refine (zst_b (m := 10) ?hl h5 (by decide)).trans ?_; case hl => exact h.t.len 36 10 rfl
              refine (o_b (a := 0) ?hl).trans ?_; case hl => exact h.t.ref 13 rfl
              rw [show zI (zsI (zsI (zsI (tS S) 34 0 (aN A 9) k) 35 0 (aN A 9) n) 36 0 (aN A 9) s) 12 0 9 = nI (aN A 9) from e9]
              refine (zst_b (m := 10) ?hl h5 (by decide)).trans ?_; case hl => exact h.t.len 37 10 rfl
              rw [show zI (zsI (zsI (zsI (zsI (tS S) 34 0 (aN A 9) k) 35 0 (aN A 9) n) 36 0 (aN A 9) s) 37 0 (aN A 9) l) 12 0 9 = nI (aN A 9) from e9, nI_1, zI_sI, if_pos ⟨rfl, rfl⟩, nI_pred]
          · have e10 : aN A 9 = 10 := by omega
            refine .same hA (-4) (fun S h => ?_) (fun S h => ?_)
            · have e9 : zI S 11 0 9 = nI 10 := by rw [← e10]; exact h.shps.1.trans c9.1
              unfold f_X11_ship
              rw [within_rg (a := 0) (b := 1) (p := 0) (q := 1) rfl rfl h1, within_rg (a := 1) (b := 20) (p := 1) (q := 20) rfl rfl h2, within_rg (a := 0) (b := n) (p := 0) (q := n.toInt) rfl rfl h3, within_rg (a := 0) (b := 20) (p := 0) (q := 20) rfl rfl h4, e9]
              rfl
            · have e9t : zI (tS S) 12 0 9 = nI 10 := by rw [← e10]; exact (h.f 9 rfl).trans c9.1
              unfold f_X12_ship
              rw [in_rg (a := 0) (b := 1) (p := 0) (q := 1) rfl rfl h1, in_rg (a := 1) (b := 20) (p := 1) (q := 20) rfl rfl h2, in_rg (a := 0) (b := n.toInt64) (p := 0) (q := n.toInt) rfl (l_toInt n) h3, in_rg (a := 0) (b := 20) (p := 0) (q := 20) rfl rfl h4, e9t]
              rfl
        · refine .same hA (-2) (fun S h => ?_) (fun S h => ?_)
          · unfold f_X11_ship
            rw [within_rg (a := 0) (b := 1) (p := 0) (q := 1) rfl rfl h1, within_rg (a := 1) (b := 20) (p := 1) (q := 20) rfl rfl h2, within_rg (a := 0) (b := n) (p := 0) (q := n.toInt) rfl rfl h3, within_nr (a := 0) (b := 20) (p := 0) (q := 20) rfl rfl h4]; rfl
          · unfold f_X12_ship
            rw [in_rg (a := 0) (b := 1) (p := 0) (q := 1) rfl rfl h1, in_rg (a := 1) (b := 20) (p := 1) (q := 20) rfl rfl h2, in_rg (a := 0) (b := n.toInt64) (p := 0) (q := n.toInt) rfl (l_toInt n) h3, in_nr (a := 0) (b := 20) (p := 0) (q := 20) rfl rfl h4]; rfl
      · refine .same hA (-2) (fun S h => ?_) (fun S h => ?_)
        · unfold f_X11_ship
          rw [within_rg (a := 0) (b := 1) (p := 0) (q := 1) rfl rfl h1, within_rg (a := 1) (b := 20) (p := 1) (q := 20) rfl rfl h2, within_nr (a := 0) (b := n) (p := 0) (q := n.toInt) rfl rfl h3]; rfl
        · unfold f_X12_ship
          rw [in_rg (a := 0) (b := 1) (p := 0) (q := 1) rfl rfl h1, in_rg (a := 1) (b := 20) (p := 1) (q := 20) rfl rfl h2, in_nr (a := 0) (b := n.toInt64) (p := 0) (q := n.toInt) rfl (l_toInt n) h3]; rfl
    · refine .same hA (-2) (fun S h => ?_) (fun S h => ?_)
      · unfold f_X11_ship
        rw [within_rg (a := 0) (b := 1) (p := 0) (q := 1) rfl rfl h1, within_nr (a := 1) (b := 20) (p := 1) (q := 20) rfl rfl h2]; rfl
      · unfold f_X12_ship
        rw [in_rg (a := 0) (b := 1) (p := 0) (q := 1) rfl rfl h1, in_nr (a := 1) (b := 20) (p := 1) (q := 20) rfl rfl h2]; rfl
  · refine .same hA (-2) (fun S h => ?_) (fun S h => ?_)
    · unfold f_X11_ship
      rw [within_nr (a := 0) (b := 1) (p := 0) (q := 1) rfl rfl h1]; rfl
    · unfold f_X12_ship
      rw [in_nr (a := 0) (b := 1) (p := 0) (q := 1) rfl rfl h1]; rfl
