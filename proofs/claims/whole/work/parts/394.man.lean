/-! ===== man ===== -/
theorem isIx.mono {n n' : Nat} (h : n ≤ n') {x : Int32} (hx : isIx n x) : isIx n' x := by
  obtain ⟨i, hi, e⟩ := hx
  exact ⟨i, by omega, e⟩
theorem RMan.cg2 {A A1 : ZA} {S S1 : ZH} {i : Nat} (h : RMan A S i) (hr11 : zR S1 3 i 11 = zR S 3 i 11) (hr12 : zR S1 3 i 12 = zR S 3 i 12) (h13 : zI S1 3 i 13 = zI S 3 i 13) (l17 : zL S1 17 (tt S i) = zL S 17 (tt S i)) (l18 : zL S1 18 (tt S i) = zL S 18 (tt S i)) (i17 : zI S1 17 (tt S i) = zI S 17 (tt S i)) (i18 : zI S1 18 (tt S i) = zI S 18 (tt S i)) (a4 : aN A1 4 = aN A 4) (ep : ∀ t, aPl A1 t i = aPl A t i) (ah : A1.2 31 (8 * i + 6) = A.2 31 (8 * i + 6)) (a32 : A1.2 32 i = A.2 32 i)
    (c1 : ∀ j, j < 8 → zI S1 3 i j = A1.2 31 (8 * i + j)) (c2 : zI S1 3 i 8 = zI S 3 i 8) (c3 : zI S1 3 i 9 = A1.2 54 i) (c4 : zR S1 3 i 10 = lastT (A1.2 44) i (aN A1 22)) : RMan A1 S1 i := by
  obtain ⟨b1, b2, b3, b4, ⟨b11, b12, bl, bc1, bc2⟩, ⟨b13, bm1, bm2⟩, ⟨bT, bT2⟩, bP, bs⟩ := h
  have et : tt S1 i = tt S i := by unfold tt; rw [hr11]
  have em : mvs S1 i = mvs S i := by unfold mvs; rw [h13]
  have ec : capOf S1 i = capOf S i := by unfold capOf; rw [et, l17]
  have ep' : aP A1 i = aP A i := by unfold aP; rw [a4, ep]
  refine ⟨c1, by rw [c2, b2, ep'], c3, c4, ⟨by rw [hr11, et]; exact b11, by rw [hr12, et]; exact b12, by rw [et, ec, l18]; exact bl, by rw [ec]; exact bc1, by rw [ec]; exact bc2⟩, ⟨by rw [h13, em]; exact b13, by rw [em, ec]; exact bm1, by rw [em]; exact bm2⟩, ⟨by rw [em, a4, et, i17]; exact bT, by rw [em, et, i17]; exact bT2⟩, ?_, by rw [ep', em, et, i17, a32]; exact bs⟩
  intro t ht
  rw [a4] at ht
  rw [ep, ah, et, i17, i18, em]
  exact bP t ht
def A_col (A : ZA) (n : Nat) (v : Int32) : Nat → ZA
  | 0 => A
  | t + 1 => aR (A_col A n v t) 33 (40 * t + n) v
theorem col_1 {A : ZA} {n : Nat} {v : Int32} : ∀ T, (A_col A n v T).1 = A.1
  | 0 => rfl
  | T + 1 => col_1 (A := A) (n := n) (v := v) T
theorem col_k {A : ZA} {n : Nat} {v : Int32} {k : Nat} (h : k ≠ 33) : ∀ T, (A_col A n v T).2 k = A.2 k
  | 0 => rfl
  | T + 1 => by
    rw [← col_k (A := A) (n := n) (v := v) h T]
    funext i
    exact aR_ne (fun z => h z.1)
theorem col_at {A : ZA} {n : Nat} {v : Int32} (hn : n < 40) (t j : Nat) (hj : j < 40) : ∀ T, (A_col A n v T).2 33 (40 * t + j) = if j = n ∧ t < T then v else A.2 33 (40 * t + j)
  | 0 => by rw [if_neg (by omega)]; rfl
  | T + 1 => by
    show (if 33 = 33 ∧ 40 * t + j = 40 * T + n then v else (A_col A n v T).2 33 (40 * t + j)) = _
    rw [col_at hn t j hj T]
    by_cases e : 40 * t + j = 40 * T + n
    · rw [if_pos ⟨rfl, e⟩, if_pos (by omega)]
    · rw [if_neg (fun z => e z.2)]
      by_cases e2 : j = n ∧ t < T
      · rw [if_pos e2, if_pos (by omega)]
      · rw [if_neg e2, if_neg (by omega)]
def A_man (A : ZA) (f : Nat → Int32) : ZA := aF (A_col (A_row A 31 (8 * aN A 5) f 8) (aN A 5) (f 6) (aN A 4 + 1)) 5 (nI (aN A 5 + 1))
def A_man2 (A : ZA) (f : Nat → Int32) : ZA := aF (fun j => A.1 j, fun k => if k = 31 then (A_man A f).2 31 else if k = 33 then (A_man A f).2 33 else A.2 k) 5 (nI (aN A 5 + 1))
theorem man_eqA {A : ZA} {f : Nat → Int32} : eqA (A_man A f) (A_man2 A f) := by
  refine ⟨fun j _ _ => ?_, fun k _ _ _ _ _ _ => ?_⟩
  · show (if j = 5 then _ else A.1 j) = if j = 5 then _ else (A_col (A_row A 31 (8 * aN A 5) f 8) (aN A 5) (f 6) (aN A 4 + 1)).1 j
    rw [col_1, row_1]
  · show (if k = 31 then (A_man A f).2 31 else if k = 33 then (A_man A f).2 33 else A.2 k) = (A_man A f).2 k
    by_cases e : k = 31
    · rw [if_pos e, e]
    · rw [if_neg e]
      by_cases e3 : k = 33
      · rw [if_pos e3, e3]
      · rw [if_neg e3]
        show _ = (A_col (A_row A 31 (8 * aN A 5) f 8) (aN A 5) (f 6) (aN A 4 + 1)).2 k
        rw [col_k e3, row_k e]
theorem man_31 {A : ZA} {f : Nat → Int32} (i j : Nat) (hj : j < 8) : (A_man2 A f).2 31 (8 * i + j) = if i = aN A 5 then f j else A.2 31 (8 * i + j) := by
  show (A_col (A_row A 31 (8 * aN A 5) f 8) (aN A 5) (f 6) (aN A 4 + 1)).2 31 (8 * i + j) = _
  rw [col_k (by decide), row_at]
  by_cases e : i = aN A 5
  · rw [if_pos e, if_pos (by omega), e]; congr 1; omega
  · rw [if_neg e, if_neg (by omega)]
theorem man_pl {A : ZA} {f : Nat → Int32} (h5 : aN A 5 < 40) (t i : Nat) (hi : i < 40) : aPl (A_man2 A f) t i = if i = aN A 5 ∧ t < aN A 4 + 1 then f 6 else aPl A t i := by
  show (A_col (A_row A 31 (8 * aN A 5) f 8) (aN A 5) (f 6) (aN A 4 + 1)).2 33 (40 * t + i) = _
  rw [col_at h5 t i hi, row_k (by decide)]
  rfl
theorem man_AIn {A : ZA} (hA : AIn A) {f : Nat → Int32} (h5 : aN A 5 < 40) (hf : rg (f 0) 10 60 ∧ rg (f 1) 0 3 ∧ rg (f 2) 0 3 ∧ rg (f 3) 50 80 ∧ rg (f 4) 0 5 ∧ rg (f 5) 0 40 ∧ isIx (aN A 1) (f 6) ∧ b01 (f 7)) : AIn (A_man2 A f) := by
  have en : aN (A_man2 A f) 5 = aN A 5 + 1 := aN_F _ 5 _ (by omega)
  have e4 : aN (A_man2 A f) 4 = aN A 4 := rfl
  have e1 : aN (A_man2 A f) 1 = aN A 1 := rfl
  have e9 : aN (A_man2 A f) 9 = aN A 9 := rfl
  refine ⟨⟨hA.c1, hA.c1p, hA.c4, ⟨by rw [en]; rfl, by rw [en]; omega⟩, hA.c9, hA.c15, hA.c17, hA.c22, hA.c24, hA.c24l, hA.c31, hA.room, hA.rate⟩, hA.2.1, ⟨fun i hi => ?_, fun t i ht hi => ?_⟩, hA.2.2.2.1, fun p hp => ?_, hA.2.2.2.2.2.1, fun t ht => ?_, fun t ht => ⟨fun h1 => ?_, fun h1 => hA.tx0 h1 ht⟩, fun m hm hm2 => ?_⟩
  · rw [en] at hi
    have e0 : (A_man2 A f).2 31 (8 * i) = if i = aN A 5 then f 0 else A.2 31 (8 * i) := man_31 i 0 (by omega)
    rw [e0, man_31 i 1 (by omega), man_31 i 2 (by omega), man_31 i 3 (by omega), man_31 i 4 (by omega), man_31 i 5 (by omega), man_31 i 6 (by omega), man_31 i 7 (by omega)]
    by_cases e : i = aN A 5
    · simp only [if_pos e]; exact hf
    · simp only [if_neg e]; exact hA.man (by omega)
  · rw [en] at hi
    rw [e4] at ht
    rw [man_pl h5 t i (by omega)]
    by_cases e : i = aN A 5 ∧ t < aN A 4 + 1
    · rw [if_pos e]; exact Or.inl hf.2.2.2.2.2.2.1
    · rw [if_neg e]
      exact isPl_mono (A := A) e1 (Nat.le_of_eq e9.symm) (hA.2.2.1.2 t i ht (by omega))
  · have h0 := hA.pp (show p < aN A 15 from hp)
    refine ⟨?_, h0.2⟩
    rw [en]; exact h0.1.mono (by omega)
  · have h0 := hA.tk (show t < aN A 22 from ht)
    refine ⟨h0.1, ?_, h0.2.2⟩
    rw [en]; exact h0.2.1.mono (by omega)
  · have h0 := hA.tx (show t < aN A 31 from h1)
    refine ⟨?_, h0.2⟩
    rw [en]; exact h0.1.mono (by omega)
  · rw [en] at hm
    exact hA.2.2.2.2.2.2.2.2 m (by omega) hm2
def S_man (S : ZH) (n t : Nat) (f : Nat → Int32) : ZH := zsI (zsR (zsI (zsI (zsI (zsI (zsI (zsI (zsI (zsI (zsR (zNew (zsR (zNew (zNew S 3 14) 17 4) 3 n 11 (some t)) 18 4) 3 n 12 (some t)) 3 n 0 (f 0)) 3 n 1 (f 1)) 3 n 2 (f 2)) 3 n 3 (f 3)) 3 n 4 (f 4)) 3 n 5 (f 5)) 3 n 6 (f 6)) 3 n 8 (f 6)) 22 0 n (some n)) 11 0 2 (nI (n + 1))
theorem lastT_none {tk : Nat → Int32} {i : Nat} : ∀ {n : Nat}, (∀ k, k < n → tk (6 * k + 1) ≠ nI i) → lastT tk i n = none
  | 0, _ => rfl
  | n + 1, h => by
    show (if tk (6 * n + 1) = nI i then some n else lastT tk i n) = none
    rw [if_neg (h n (by omega)), lastT_none (fun k hk => h k (by omega))]
theorem man_RC {A : ZA} {S : ZH} (hA : AIn A) (h : RC A S) {f : Nat → Int32} (h5 : aN A 5 < 40) (hh : isIx (aN A 1) (f 6)) (h7 : f 7 = 0) : RC (A_man2 A f) (S_man S (aN A 5) (zN S 17) f) := by
  have en : aN (A_man2 A f) 5 = aN A 5 + 1 := aN_F _ 5 _ (by omega)
  have e3 : zN S 3 = aN A 5 := h.men.2.1
  have enn := h.men.2.2.2.2.2
  generalize hT : zN S 17 = T at *
  have hn0 : aN A 5 = aN A 5 := rfl
  have z3 : ∀ q j, zI (S_man S (aN A 5) T f) 3 q j = if q = aN A 5 then (if j = 8 then f 6 else if j < 7 then f j else 0) else zI S 3 q j := by
    intro q j
    show zI (zsI (zsI (zsI (zsI (zsI (zsI (zsI (zsI (zsR (zNew (zsR (zNew (zNew S 3 14) 17 4) 3 (aN A 5) 11 (some T)) 18 4) 3 (aN A 5) 12 (some T)) 3 (aN A 5) 0 (f 0)) 3 (aN A 5) 1 (f 1)) 3 (aN A 5) 2 (f 2)) 3 (aN A 5) 3 (f 3)) 3 (aN A 5) 4 (f 4)) 3 (aN A 5) 5 (f 5)) 3 (aN A 5) 6 (f 6)) 3 (aN A 5) 8 (f 6)) 3 q j = _
    rw [zI_sI, zI_sI, zI_sI, zI_sI, zI_sI, zI_sI, zI_sI, zI_sI, show zI (zsR (zNew (zsR (zNew (zNew S 3 14) 17 4) 3 (aN A 5) 11 (some T)) 18 4) 3 (aN A 5) 12 (some T)) 3 q j = zI (zNew S 3 14) 3 q j from rfl, zI_nw, e3]
    by_cases e : q = aN A 5
    · simp only [e, true_and, if_true]
      by_cases hj : j < 9
      · rcases (show j = 0 ∨ j = 1 ∨ j = 2 ∨ j = 3 ∨ j = 4 ∨ j = 5 ∨ j = 6 ∨ j = 7 ∨ j = 8 by omega) with rfl | rfl | rfl | rfl | rfl | rfl | rfl | rfl | rfl <;> simp
      · rw [if_neg (by omega), if_neg (by omega), if_neg (by omega), if_neg (by omega), if_neg (by omega), if_neg (by omega), if_neg (by omega), if_neg (by omega), if_neg (by omega), if_neg (by omega)]
    · simp only [e, false_and, if_false]
  have r3 : ∀ q j, zR (S_man S (aN A 5) T f) 3 q j = if q = aN A 5 then (if j = 11 ∨ j = 12 then some T else none) else zR S 3 q j := by
    intro q j
    show zR (zsR (zNew (zsR (zNew (zNew S 3 14) 17 4) 3 (aN A 5) 11 (some T)) 18 4) 3 (aN A 5) 12 (some T)) 3 q j = _
    rw [zR_sR, show zR (zNew (zsR (zNew (zNew S 3 14) 17 4) 3 (aN A 5) 11 (some T)) 18 4) 3 q j = zR (zsR (zNew (zNew S 3 14) 17 4) 3 (aN A 5) 11 (some T)) 3 q j from rfl, zR_sR, show zR (zNew (zNew S 3 14) 17 4) 3 q j = zR (zNew S 3 14) 3 q j from rfl, zR_nw, e3]
    by_cases e : q = aN A 5
    · simp only [e, true_and, if_true]
      by_cases e1 : j = 12
      · simp [e1]
      · by_cases e2 : j = 11
        · simp [e2]
        · simp [e1, e2]
    · simp only [e, false_and, if_false]
  have r22 : ∀ q, zR (S_man S (aN A 5) T f) 22 0 q = if q = aN A 5 then some (aN A 5) else zR S 22 0 q := by
    intro q
    show zR (zsR _ 22 0 _ _) 22 0 q = _
    rw [zR_sR]
    simp only [true_and]
    rfl
  have l17 : ∀ q, zL (S_man S (aN A 5) T f) 17 q = if q = T then 4 else zL S 17 q := by
    intro q
    show zL (zNew (zNew S 3 14) 17 4) 17 q = _
    rw [zL_nw, show zN (zNew S 3 14) 17 = zN S 17 from rfl, hT]; rfl
  have l18 : ∀ q, zL (S_man S (aN A 5) T f) 18 q = if q = T then 4 else zL S 18 q := by
    intro q
    show zL (zNew (zsR (zNew (zNew S 3 14) 17 4) 3 (aN A 5) 11 (some T)) 18 4) 18 q = _
    rw [zL_nw, show zN (zsR (zNew (zNew S 3 14) 17 4) 3 (aN A 5) 11 (some T)) 18 = zN S 18 from rfl, ← enn]; rfl
  have i17 : ∀ q, q ≠ T → zI (S_man S (aN A 5) T f) 17 q = zI S 17 q := by
    intro q e
    funext j
    show zI (zNew (zNew S 3 14) 17 4) 17 q j = _
    rw [zI_nw, show zN (zNew S 3 14) 17 = zN S 17 from rfl, hT, if_neg e]; rfl
  have i18 : ∀ q, q ≠ T → zI (S_man S (aN A 5) T f) 18 q = zI S 18 q := by
    intro q e
    funext j
    show zI (zNew (zsR (zNew (zNew S 3 14) 17 4) 3 (aN A 5) 11 (some T)) 18 4) 18 q j = _
    rw [zI_nw, show zN (zsR (zNew (zNew S 3 14) 17 4) 3 (aN A 5) 11 (some T)) 18 = zN S 18 from rfl, ← enn, if_neg e]; rfl
  have tn : tt (S_man S (aN A 5) T f) (aN A 5) = T := by unfold tt; rw [r3]; simp
  have to : ∀ q, q ≠ aN A 5 → tt (S_man S (aN A 5) T f) q = tt S q := fun q e => by unfold tt; rw [r3, if_neg e]
  have hlt := h.men.2.2.2.2.1
  rw [hT] at hlt
  have m0 : mvs (S_man S (aN A 5) T f) (aN A 5) = 0 := by unfold mvs; rw [z3, if_pos rfl, if_neg (by omega), if_neg (by omega)]; rfl
  have c0 : capOf (S_man S (aN A 5) T f) (aN A 5) = 4 := by unfold capOf; rw [tn, l17, if_pos rfl]
  have hman : ∀ i, i < aN A 5 + 1 → RMan (A_man2 A f) (S_man S (aN A 5) T f) i := by
    intro i hi
    by_cases e : i = aN A 5
    · have hpl : ∀ t, t ≤ aN A 4 → aPl (A_man2 A f) t (aN A 5) = f 6 := fun t ht => by rw [man_pl h5 t _ h5, if_pos ⟨rfl, by omega⟩]
      have hp : aP (A_man2 A f) (aN A 5) = f 6 := hpl _ (Nat.le_refl _)
      rw [e]
      refine ⟨fun j hj => ?_, ?_, ?_, ?_, ⟨by rw [tn, r3]; simp, by rw [tn, r3]; simp, by rw [tn, l18, if_pos rfl, c0], by rw [c0]; omega, by rw [c0]; omega⟩, ⟨?_, by rw [m0]; omega, by rw [m0]; omega⟩, ⟨fun j hj => by rw [m0] at hj; omega, fun j k _ hk => by rw [m0] at hk; omega⟩, fun t ht => ?_, fun h21 => ?_⟩
      · rw [z3, if_pos rfl, man_31 _ j hj, if_pos rfl, if_neg (by omega)]
        by_cases e7 : j < 7
        · rw [if_pos e7]
        · rw [if_neg e7, show j = 7 by omega, h7]
      · rw [z3, if_pos rfl, if_pos rfl, hp]
      · rw [z3, if_pos rfl, if_neg (by omega), if_neg (by omega)]
        exact (hA.2.2.2.2.2.2.2.2 _ (Nat.le_refl _) h5).symm
      · rw [r3, if_pos rfl, if_neg (by omega)]
        refine (lastT_none (fun k hk e => ?_)).symm
        obtain ⟨q, hq, e2⟩ := (hA.tk (show k < aN A 22 from hk)).2.1
        have e3 : nI q = nI (aN A 5) := e2.symm.trans e
        have := nI_inj (a := q) (b := aN A 5) (by omega) (by omega) e3
        omega
      · rw [m0, z3, if_pos rfl, if_neg (by omega), if_neg (by omega)]; rfl
      · rw [m0, hpl t ht, man_31 _ 6 (by omega), if_pos rfl]; rfl
      · rw [hp] at h21
        exact absurd h21 (isIx_ne hA.c1.2 hh).2.1
    · have h0 := h.man (show i < aN A 5 by omega)
      have ht := hlt i (by omega)
      have z3o : ∀ j, zI (S_man S (aN A 5) T f) 3 i j = zI S 3 i j := fun j => by rw [z3, if_neg e]
      have r3o : ∀ j, zR (S_man S (aN A 5) T f) 3 i j = zR S 3 i j := fun j => by rw [r3, if_neg e]
      refine h0.cg2 (r3o 11) (r3o 12) (z3o 13) (by rw [l17, if_neg (by omega)]) (by rw [l18, if_neg (by omega)]) (i17 _ (by omega)) (i18 _ (by omega)) rfl (fun t => by rw [man_pl h5 t i (by omega), if_neg (fun z => e z.1)]) (by rw [man_31 _ 6 (by omega), if_neg e]) rfl (fun j hj => ?_) (z3o 8) ((z3o 9).trans h0.2.2.1) ((r3o 10).trans h0.2.2.2.1)
      rw [z3o, man_31 _ j hj, if_neg e]
      exact h0.1 j hj
  have hsc : SC (S_man S (aN A 5) T f) := by
    have a1 := ((h.sc.new (k := 3) (n := 14) rfl).new (k := 17) (n := 4) rfl).sR (k := 3) (i := aN A 5) (j := 11) (v := some T) rfl
    have a2 := (a1.new (k := 18) (n := 4) rfl).sR (k := 3) (i := aN A 5) (j := 12) (v := some T) rfl
    exact a2.sR (k := 22) (i := 0) (j := aN A 5) (v := some (aN A 5)) rfl
  refine ⟨hsc, h.town, ⟨rfl, ?_, fun i hi => ⟨?_, hman i (by rw [en] at hi; exact hi)⟩, fun i j hi hj hij => ?_, fun i hi => ?_, ?_⟩, h.paps, h.acts, h.tks, h.shps, h.tix, h.misc, ?_⟩
  · rw [en]
    show zN S 3 + 1 = _
    rw [e3]
  · rw [en] at hi
    rw [r22]
    by_cases e : i = aN A 5
    · rw [if_pos e, e]
    · rw [if_neg e]; exact (h.men.2.2.1 i (by omega)).1
  · rw [en] at hi hj
    by_cases ei : i = aN A 5
    · by_cases ej : j = aN A 5
      · rw [ei, ej]
      · rw [ei, tn, to j ej] at hij
        have := hlt j (by omega)
        omega
    · by_cases ej : j = aN A 5
      · rw [ej, tn, to i ei] at hij
        have := hlt i (by omega)
        omega
      · rw [to i ei, to j ej] at hij
        exact h.men.2.2.2.1 i j (by omega) (by omega) hij
  · rw [en] at hi
    show _ < zN S 17 + 1
    rw [hT]
    by_cases e : i = aN A 5
    · rw [e, tn]; omega
    · rw [to i e]
      have := hlt i (by omega)
      omega
  · show zN S 17 + 1 = zN S 18 + 1
    rw [hT, ← enn]
  · have hb := h.bud
    unfold RCb at hb ⊢
    rw [en]
    have hs : sumN (capOf (S_man S (aN A 5) T f)) (aN A 5 + 1) = sumN (capOf S) (aN A 5) + 4 := by
      show sumN _ (aN A 5) + capOf _ (aN A 5) = _
      rw [c0, sumN_congr (g := capOf S) (fun q hq => ?_)]
      have := hlt q hq
      unfold capOf
      rw [to q (by omega), l17, if_neg (by omega)]
    have q1 : zc (S_man S (aN A 5) T f) = zc S + 1 + 1 + 1 := rfl
    have q2 : zs (S_man S (aN A 5) T f) = zs S + 14 + 4 + 4 := rfl
    have q4 : aN (A_man2 A f) 15 = aN A 15 := rfl
    have q5 : aN (A_man2 A f) 17 = aN A 17 := rfl
    have q6 : aN (A_man2 A f) 9 = aN A 9 := rfl
    have q7 : aN (A_man2 A f) 22 = aN A 22 := rfl
    have q8 : aN (A_man2 A f) 31 = aN A 31 := rfl
    rw [hs, q1, q2, q4, q5, q6, q7, q8]
    omega
theorem man_fr {S : ZH} {n t : Nat} {f : Nat → Int32} : frM S (S_man S n t f) := by
  unfold S_man
  exact (frM_new (nM 3 rfl)).tr ((frM_new (nM 17 rfl)).tr ((frM_sR (nM 3 rfl)).tr ((frM_new (nM 18 rfl)).tr ((frM_sR (nM 3 rfl)).tr ((frM_sI (nM 3 rfl)).tr ((frM_sI (nM 3 rfl)).tr ((frM_sI (nM 3 rfl)).tr ((frM_sI (nM 3 rfl)).tr ((frM_sI (nM 3 rfl)).tr ((frM_sI (nM 3 rfl)).tr ((frM_sI (nM 3 rfl)).tr ((frM_sI (nM 3 rfl)).tr ((frM_sR (nM 22 rfl)).tr (frM_sI (nM 11 rfl)))))))))))))))
theorem op_man {A : ZA} (hA : AIn A) (x1 x2 x3 x4 x5 x6 x7 : Int32) : OpE A (f_X11_man 0 x1 x2 x3 x4 x5 x6 x7) (f_X12_man 0 x1 x2 x3 x4 x5 x6 x7) := by
  have c := hA.c5
  have c2 := c.2
  have c4 := hA.c4.2
  by_cases hx : isIx (aN A 1) x7
  · obtain ⟨s, hs, rfl⟩ := hx
    by_cases b1 : rg x1 10 60
    · by_cases b2 : rg x2 0 3
      · by_cases b3 : rg x3 0 3
        · by_cases b4 : rg x4 50 80
          · by_cases b5 : rg x5 0 5
            · by_cases b6 : rg x6 0 40
              · have evX : ∀ S, RC A S → f_X11_man 0 x1 x2 x3 x4 x5 x6 (nI s) S = if zI S 11 0 2 < 40 then (zal S 3 14).bind fun S9 => (f_X3_init (zN S 3) x1 x2 x3 x4 x5 x6 (nI s) S9).bind fun q10 => ((zR S 11 0 1)).bind fun a11 => (zstR q10 22 a11 (zI S 11 0 2) (some (zN S 3))).bind fun S12 => some (((zI (zsI S12 11 0 2 ((zI S12 11 0 2) + (1 : Int32))) 11 0 2) - (1 : Int32)), (zsI S12 11 0 2 ((zI S12 11 0 2) + (1 : Int32)))) else some (-4, S) := by
                  intro S h
                  unfold f_X11_man
                  rw [h.ref 11 0 rfl]
                  simp only [Option.bind_some]
                  rw [has_ix hA h hs, within_rg (a := 10) (b := 60) (p := 10) (q := 60) rfl rfl b1, within_rg (a := 0) (b := 3) (p := 0) (q := 3) rfl rfl b2, within_rg (a := 0) (b := 3) (p := 0) (q := 3) rfl rfl b3, within_rg (a := 50) (b := 80) (p := 50) (q := 80) rfl rfl b4, within_rg (a := 0) (b := 5) (p := 0) (q := 5) rfl rfl b5, within_rg (a := 0) (b := 40) (p := 0) (q := 40) rfl rfl b6]
                  simp only [Option.bind_some, if_neg (show ¬ (1 : Int32) = 0 by decide), if_pos (show ¬ (1 : Int32) = 0 by decide)]
                have evM : ∀ S, MV A S → ∀ {α : ZH}, α = tS S → f_X12_noStreet 0 (nI s) α = some 0 ∧ f_X12_in x1.toInt64 10 60 α = some 1 ∧ f_X12_in x2.toInt64 0 3 α = some 1 ∧ f_X12_in x3.toInt64 0 3 α = some 1 ∧ f_X12_in x4.toInt64 50 80 α = some 1 ∧ f_X12_in x5.toInt64 0 5 α = some 1 ∧ f_X12_in x6.toInt64 0 40 α = some 1 := by
                  intro S h α e
                  subst e
                  exact ⟨noStreet_ix hA h.t hs, in_rg (a := 10) (b := 60) (p := 10) (q := 60) rfl rfl b1, in_rg (a := 0) (b := 3) (p := 0) (q := 3) rfl rfl b2, in_rg (a := 0) (b := 3) (p := 0) (q := 3) rfl rfl b3, in_rg (a := 50) (b := 80) (p := 50) (q := 80) rfl rfl b4, in_rg (a := 0) (b := 5) (p := 0) (q := 5) rfl rfl b5, in_rg (a := 0) (b := 40) (p := 0) (q := 40) rfl rfl b6⟩
                by_cases h8 : aN A 5 < 40
                · generalize hf : pl9 x1 x2 x3 x4 x5 x6 (nI s) 0 0 = f
                  have f0 : f 0 = x1 := by rw [← hf]; rfl
                  have f1 : f 1 = x2 := by rw [← hf]; rfl
                  have f2 : f 2 = x3 := by rw [← hf]; rfl
                  have f3 : f 3 = x4 := by rw [← hf]; rfl
                  have f4 : f 4 = x5 := by rw [← hf]; rfl
                  have f5 : f 5 = x6 := by rw [← hf]; rfl
                  have f6 : f 6 = nI s := by rw [← hf]; rfl
                  have f7 : f 7 = 0 := by rw [← hf]; rfl
                  refine ⟨nI (aN A 5), A_man2 A f, man_AIn hA h8 (by rw [f0, f1, f2, f3, f4, f5, f6, f7]; exact ⟨b1, b2, b3, b4, b5, b6, ⟨s, hs, rfl⟩, Or.inl rfl⟩), fun S h => ⟨S_man S (aN A 5) (zN S 17) f, ?_, man_RC hA h h8 (by rw [f6]; exact ⟨s, hs, rfl⟩) f7, man_fr⟩, fun S h => ?_⟩
                  · have e2 : zI S 11 0 2 = nI (aN A 5) := h.men.1.trans c.1
                    have ez : zN S 3 = aN A 5 := h.men.2.1
                    have hr := h.rm hA
                    have enn := h.men.2.2.2.2.2
                    rw [evX S h, e2, if_pos (by rw [show (40 : Int32) = nI 40 from rfl, nI_ltI (by omega) (by omega)]; exact h8), h.al hA (by omega), ez, h.ref 11 1 rfl]
                    have hin : f_X3_init (aN A 5) x1 x2 x3 x4 x5 x6 (nI s) (zNew S 3 14) = some (zsI (zsI (zsI (zsI (zsI (zsI (zsI (zsI (zsR (zNew (zsR (zNew (zNew S 3 14) 17 4) 3 (aN A 5) 11 (some (zN S 17))) 18 4) 3 (aN A 5) 12 (some (zN S 17))) 3 (aN A 5) 0 (f 0)) 3 (aN A 5) 1 (f 1)) 3 (aN A 5) 2 (f 2)) 3 (aN A 5) 3 (f 3)) 3 (aN A 5) 4 (f 4)) 3 (aN A 5) 5 (f 5)) 3 (aN A 5) 6 (f 6)) 3 (aN A 5) 8 (f 6)) := by
                      unfold f_X3_init
                      rw [show (4 : Int32) = nI 4 from rfl, znw_al (by decide), zal_ok ⟨by show zc S + 1 + 1 ≤ _; omega, by show zs S + 14 + 4 ≤ _; omega⟩]
                      simp only [Option.bind_some]
                      rw [znw_al (by decide), zal_ok ⟨by show zc S + 1 + 1 + 1 ≤ _; omega, by show zs S + 14 + 4 + 4 ≤ _; omega⟩]
                      simp only [Option.bind_some]
                      rw [f0, f1, f2, f3, f4, f5, f6, show zN (zNew S 3 14) 17 = zN S 17 from rfl, show zN (zsR (zNew (zNew S 3 14) 17 4) 3 (aN A 5) 11 (some (zN S 17))) 18 = zN S 18 from rfl, enn]
                    simp only [Option.bind_some]
                    rw [hin]
                    simp only [Option.bind_some]
                    rw [zstR_b (m := 40) (by exact h.len 22 40 rfl) h8 (by decide)]
                    refine congrArg some (Prod.ext ?_ ?_)
                    · show zI (zsI _ 11 0 2 _) 11 0 2 - 1 = _
                      rw [zI_sI, if_pos ⟨rfl, rfl⟩]
                      show zI S 11 0 2 + 1 - 1 = _
                      rw [e2, nI_1, nI_pred]
                    · show zsI _ 11 0 2 (zI S 11 0 2 + 1) = _
                      rw [e2, nI_1]
                      rfl
                  · have e5 : zI (tS S) 12 0 5 = nI (aN A 5) := (h.t.f 5 rfl).trans c.1
                    have hl : zL (tS S) 31 0 = 320 := h.t.len 31 320 rfl
                    obtain ⟨m1, m2, m3, m4, m5, m6, m7⟩ := evM S h rfl
                    have hM0 := h.t.row (k := 31) (b := 8 * aN A 5) (f := f) (by decide) 8
                    have hfr0 : frC (tS S) (S_row (tS S) 31 (8 * aN A 5) f 8) := frC_row (by decide) (by decide) 8
                    obtain ⟨T, hT1, hT2, hT3⟩ := z_inv0 (b := b_X12_man_206 0 (nI s)) (X := fun T => MV (A_col (A_row A 31 (8 * aN A 5) f 8) (aN A 5) (f 6) (aN A 4 + 1)) T ∧ frC (S_row (tS S) 31 (8 * aN A 5) f 8) T) (fun j v => v.1 = nI j ∧ MV (A_col (A_row A 31 (8 * aN A 5) f 8) (aN A 5) (f 6) j) v.2 ∧ frC (S_row (tS S) 31 (8 * aN A 5) f 8) v.2) (aN A 4 + 1) (v := ((0 : Int32), S_row (tS S) 31 (8 * aN A 5) f 8)) (by omega) ⟨rfl, hM0, frC.rf⟩ (fun j v hj hI => by
                      obtain ⟨v1, v2⟩ := v
                      obtain ⟨i1, i2, i3⟩ := hI
                      replace i1 : v1 = nI j := i1
                      replace i2 : MV _ v2 := i2
                      subst i1
                      refine ⟨(nI j + 1, zsI v2 33 0 (40 * j + aN A 5) (nI s)), ?_, nI_1 j, ?_, i3.tr (frC_R (by decide) (by decide))⟩
                      · have g4 : zI v2 12 0 4 = nI (aN A 4) := by rw [i2.f 4 rfl, col_1, row_1]; exact hA.c4.1
                        have g5 : zI v2 12 0 5 = nI (aN A 5) := by rw [i2.f 5 rfl, col_1, row_1]; exact hA.c5.1
                        unfold b_X12_man_206
                        dsimp only
                        rw [g4, g5, if_neg (by rw [nI_lt_iff (by omega) (by omega)]; omega), i2.ref 8 rfl, ix40]
                        simp only [Option.bind_some]
                        rw [i2.st 36000 rfl (by omega) (by decide)]
                      · rw [← f6]; exact i2.R 33 _ _ (by decide)) (fun v hI => by
                      obtain ⟨v1, v2⟩ := v
                      obtain ⟨i1, i2, i3⟩ := hI
                      replace i1 : v1 = nI _ := i1
                      replace i2 : MV _ v2 := i2
                      subst i1
                      refine ⟨v2, ?_, i2, i3⟩
                      have g4 : zI v2 12 0 4 = nI (aN A 4) := by rw [i2.f 4 rfl, col_1, row_1]; exact hA.c4.1
                      unfold b_X12_man_206
                      dsimp only
                      rw [g4, if_pos (by rw [nI_lt_iff (by omega) (by omega)]; omega)])
                    have g5 : zI T 12 0 5 = nI (aN A 5) := by rw [hT2.f 5 rfl, col_1, row_1]; exact hA.c5.1
                    refine ⟨zsI T 12 0 5 (nI (aN A 5 + 1)), ?_, (hT2.F 5 (nI (aN A 5 + 1))).eq man_eqA, frC_t.tr (hfr0.tr (hT3.tr frC_F))⟩
                    unfold f_X12_man
                    rw [m1, m2, m3, m4, m5, m6, m7, e5]
                    simp only [Option.bind_some, if_true, if_neg (show ¬ (1 : Int32) = 0 by decide), if_pos (show ¬ (1 : Int32) = 0 by decide)]
                    rw [if_pos (show ¬ nI (aN A 5) = 40 by rw [show (40 : Int32) = nI 40 from rfl, nI_eq (by omega) (by omega)]; omega), ix8']
                    have hb : ∀ (j : Nat) (hj : j < 8) (g : ZH → Option (Int32 × ZH)) (x y : Int32), x = nI (8 * aN A 5 + j) → y = f j → ((zR (S_row (tS S) 31 (8 * aN A 5) f j) 12 0 6).bind fun a => (zst (S_row (tS S) 31 (8 * aN A 5) f j) 31 a x y).bind g) = g (S_row (tS S) 31 (8 * aN A 5) f (j + 1)) := by
                      intro j hj g x y hx hy
                      rw [S_row_R, h.t.ref 6 rfl, hx, hy]
                      exact S_row_b hl (by omega) (by decide)
                    refine (hb 0 (by decide) _ _ _ rfl f0.symm).trans ?_
                    refine (hb 1 (by decide) _ _ _ (nI_p _ 1) f1.symm).trans ?_
                    refine (hb 2 (by decide) _ _ _ (nI_p _ 2) f2.symm).trans ?_
                    refine (hb 3 (by decide) _ _ _ (nI_p _ 3) f3.symm).trans ?_
                    refine (hb 4 (by decide) _ _ _ (nI_p _ 4) f4.symm).trans ?_
                    refine (hb 5 (by decide) _ _ _ (nI_p _ 5) f5.symm).trans ?_
                    refine (hb 6 (by decide) _ _ _ (nI_p _ 6) f6.symm).trans ?_
                    refine (hb 7 (by decide) _ _ _ (nI_p _ 7) f7.symm).trans ?_
                    rw [show (7 + 1 : Nat) = 8 from rfl, hT1]
                    simp only [Option.bind_some]
                    rw [g5, nI_1, zI_sI, if_pos ⟨rfl, rfl⟩, nI_pred]
                · have e8 : aN A 5 = 40 := by omega
                  refine .same hA (-4) (fun S h => ?_) (fun S h => ?_)
                  · have e6 : zI S 11 0 2 = nI 40 := by rw [← e8]; exact h.men.1.trans c.1
                    rw [evX S h, e6]; rfl
                  · have e17 : zI (tS S) 12 0 5 = nI 40 := by rw [← e8]; exact (h.t.f 5 rfl).trans c.1
                    obtain ⟨m1, m2, m3, m4, m5, m6, m7⟩ := evM S h rfl
                    unfold f_X12_man
                    rw [m1, m2, m3, m4, m5, m6, m7, e17]; rfl
              · refine .same hA (-2) (fun S h => ?_) (fun S h => ?_)
                · unfold f_X11_man; rw [h.ref 11 0 rfl]; simp only [Option.bind_some]; rw [has_ix hA h hs, within_rg (a := 10) (b := 60) (p := 10) (q := 60) rfl rfl b1, within_rg (a := 0) (b := 3) (p := 0) (q := 3) rfl rfl b2, within_rg (a := 0) (b := 3) (p := 0) (q := 3) rfl rfl b3, within_rg (a := 50) (b := 80) (p := 50) (q := 80) rfl rfl b4, within_rg (a := 0) (b := 5) (p := 0) (q := 5) rfl rfl b5, within_nr (a := 0) (b := 40) (p := 0) (q := 40) rfl rfl b6]; rfl
                · unfold f_X12_man; rw [noStreet_ix hA h.t hs, in_rg (a := 10) (b := 60) (p := 10) (q := 60) rfl rfl b1, in_rg (a := 0) (b := 3) (p := 0) (q := 3) rfl rfl b2, in_rg (a := 0) (b := 3) (p := 0) (q := 3) rfl rfl b3, in_rg (a := 50) (b := 80) (p := 50) (q := 80) rfl rfl b4, in_rg (a := 0) (b := 5) (p := 0) (q := 5) rfl rfl b5, in_nr (a := 0) (b := 40) (p := 0) (q := 40) rfl rfl b6]; rfl
            · refine .same hA (-2) (fun S h => ?_) (fun S h => ?_)
              · unfold f_X11_man; rw [h.ref 11 0 rfl]; simp only [Option.bind_some]; rw [has_ix hA h hs, within_rg (a := 10) (b := 60) (p := 10) (q := 60) rfl rfl b1, within_rg (a := 0) (b := 3) (p := 0) (q := 3) rfl rfl b2, within_rg (a := 0) (b := 3) (p := 0) (q := 3) rfl rfl b3, within_rg (a := 50) (b := 80) (p := 50) (q := 80) rfl rfl b4, within_nr (a := 0) (b := 5) (p := 0) (q := 5) rfl rfl b5]; rfl
              · unfold f_X12_man; rw [noStreet_ix hA h.t hs, in_rg (a := 10) (b := 60) (p := 10) (q := 60) rfl rfl b1, in_rg (a := 0) (b := 3) (p := 0) (q := 3) rfl rfl b2, in_rg (a := 0) (b := 3) (p := 0) (q := 3) rfl rfl b3, in_rg (a := 50) (b := 80) (p := 50) (q := 80) rfl rfl b4, in_nr (a := 0) (b := 5) (p := 0) (q := 5) rfl rfl b5]; rfl
          · refine .same hA (-2) (fun S h => ?_) (fun S h => ?_)
            · unfold f_X11_man; rw [h.ref 11 0 rfl]; simp only [Option.bind_some]; rw [has_ix hA h hs, within_rg (a := 10) (b := 60) (p := 10) (q := 60) rfl rfl b1, within_rg (a := 0) (b := 3) (p := 0) (q := 3) rfl rfl b2, within_rg (a := 0) (b := 3) (p := 0) (q := 3) rfl rfl b3, within_nr (a := 50) (b := 80) (p := 50) (q := 80) rfl rfl b4]; rfl
            · unfold f_X12_man; rw [noStreet_ix hA h.t hs, in_rg (a := 10) (b := 60) (p := 10) (q := 60) rfl rfl b1, in_rg (a := 0) (b := 3) (p := 0) (q := 3) rfl rfl b2, in_rg (a := 0) (b := 3) (p := 0) (q := 3) rfl rfl b3, in_nr (a := 50) (b := 80) (p := 50) (q := 80) rfl rfl b4]; rfl
        · refine .same hA (-2) (fun S h => ?_) (fun S h => ?_)
          · unfold f_X11_man; rw [h.ref 11 0 rfl]; simp only [Option.bind_some]; rw [has_ix hA h hs, within_rg (a := 10) (b := 60) (p := 10) (q := 60) rfl rfl b1, within_rg (a := 0) (b := 3) (p := 0) (q := 3) rfl rfl b2, within_nr (a := 0) (b := 3) (p := 0) (q := 3) rfl rfl b3]; rfl
          · unfold f_X12_man; rw [noStreet_ix hA h.t hs, in_rg (a := 10) (b := 60) (p := 10) (q := 60) rfl rfl b1, in_rg (a := 0) (b := 3) (p := 0) (q := 3) rfl rfl b2, in_nr (a := 0) (b := 3) (p := 0) (q := 3) rfl rfl b3]; rfl
      · refine .same hA (-2) (fun S h => ?_) (fun S h => ?_)
        · unfold f_X11_man; rw [h.ref 11 0 rfl]; simp only [Option.bind_some]; rw [has_ix hA h hs, within_rg (a := 10) (b := 60) (p := 10) (q := 60) rfl rfl b1, within_nr (a := 0) (b := 3) (p := 0) (q := 3) rfl rfl b2]; rfl
        · unfold f_X12_man; rw [noStreet_ix hA h.t hs, in_rg (a := 10) (b := 60) (p := 10) (q := 60) rfl rfl b1, in_nr (a := 0) (b := 3) (p := 0) (q := 3) rfl rfl b2]; rfl
    · refine .same hA (-2) (fun S h => ?_) (fun S h => ?_)
      · unfold f_X11_man; rw [h.ref 11 0 rfl]; simp only [Option.bind_some]; rw [has_ix hA h hs, within_nr (a := 10) (b := 60) (p := 10) (q := 60) rfl rfl b1]; rfl
      · unfold f_X12_man; rw [noStreet_ix hA h.t hs, in_nr (a := 10) (b := 60) (p := 10) (q := 60) rfl rfl b1]; rfl
  · refine .same hA (-1) (fun S h => ?_) (fun S h => ?_)
    · unfold f_X11_man; rw [h.ref 11 0 rfl]; simp only [Option.bind_some]; rw [has_no hA h hx]; rfl
    · unfold f_X12_man; rw [noStreet_no hA h.t hx]; rfl
