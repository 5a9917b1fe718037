/-! the crowd falls sick -/
theorem sick_lock {A0 : ZA} (hA0 : AIn A0) (k0 : Int32) : ∃ A', PT A0 A' ∧ (∀ S, RC A0 S → HXs A0 S → ∃ S', z_iter zFU (b_X11_sickenTheCrowd_28 0) (k0, nI 0, S) = some S' ∧ RC A' S' ∧ HXs A0 S' ∧ frM S S') ∧ (∀ S, MV A0 S → HMs A0 S → ∃ S', z_iter zFU (b_X12_goOn_165 0) (k0, nI 0, S) = some S' ∧ MV A' S' ∧ HMs A0 S' ∧ frC S S') := by
  have c5 := hA0.c5.2
  have key := z_lock (bx := b_X11_sickenTheCrowd_28 0) (bm := b_X12_goOn_165 0) (P := fun a : ZA × Int32 => PT A0 a.1) (cA := fun a => a.1) (HX := HXs A0) (HM := HMs A0) (fun i a S => (a.2, nI i, S)) (fun i a S => (a.2, nI i, S)) (N := aN A0 5) (fun i a hi hP => ?_) (fun a hP => ?_) (aN A0 5) 0 zFU (A0, k0) (by omega) (by show _ < 1000000; omega) ⟨hA0, SX.rf, rfl⟩
  · obtain ⟨a', p1, p2, p3⟩ := key
    exact ⟨a'.1, p1, p2, p3⟩
  · obtain ⟨A, k⟩ := a
    obtain ⟨hA, hS, h4⟩ := hP
    replace hA : AIn A := hA
    replace hS : SX A0 A := hS
    replace h4 : A.1 4 = A0.1 4 := h4
    have hi' : i < aN A 5 := by rw [hS.n (by decide)]; exact hi
    have hc5 := hA.c5.2
    have h21 : isPl A 21 := Or.inr (Or.inr (Or.inr (Or.inl rfl)))
    have hnx : ∀ S, RC A S → ¬ nI (aN A 5) ≤ nI i := fun S _ => by rw [nI_leI (by omega) (by omega)]; omega
    have hne : ¬ nI (aN A 5) ≤ nI i := by rw [nI_leI (by omega) (by omega)]; omega
    by_cases hk : k ≤ 0
    · refine Or.inr ⟨fun S h _ => ?_, fun S h _ => ?_⟩
      · show b_X11_sickenTheCrowd_28 0 (k, nI i, S) = _
        unfold b_X11_sickenTheCrowd_28
        dsimp only
        rw [h.nMen hA, if_neg hne, if_pos hk]
      · show b_X12_goOn_165 0 (k, nI i, S) = _
        unfold b_X12_goOn_165
        dsimp only
        rw [h.nMen hA, if_neg hne, if_pos hk]
    · refine Or.inl ?_
      by_cases hp : aP A i = 20
      · refine ⟨(aR (A_go A i 21) 32 i (nI (aN A 4)), k + (-1)), ⟨?_, hS.tr SX.goS, h4⟩, fun S h hX => ?_, fun S h hX => ?_⟩
        · have hA1 := go_AIn hA hi' h21
          exact ⟨hA1.1, hA1.2.1, hA1.2.2.1, hA1.2.2.2.1, hA1.2.2.2.2.1, hA1.2.2.2.2.2.1, hA1.2.2.2.2.2.2.1, hA1.2.2.2.2.2.2.2.1, hA1.2.2.2.2.2.2.2.2⟩
        · obtain ⟨S1, e1, g1⟩ := goTo_eq (p := 21) hA h hi'
          refine ⟨S1, ?_, g1.rcS hA h hi', hX.k (g1.k (by decide) (by decide) (by decide)), g1.fr⟩
          show b_X11_sickenTheCrowd_28 0 (k, nI i, S) = _
          unfold b_X11_sickenTheCrowd_28
          dsimp only
          rw [h.nMen hA, if_neg hne, if_neg hk, nI_1]
          refine (o_b (h.ref 11 1 rfl)).trans ?_
          refine (o_b (h.manAt hA hi')).trans ?_
          refine (o_b (a := i) rfl).trans ?_
          rw [h.pl hi', if_neg (fun z => z hp)]
          refine (o_b (h.ref 11 1 rfl)).trans ?_
          refine (o_b (h.manAt hA hi')).trans ?_
          refine (o_b (a := i) rfl).trans ?_
          rw [h.misc.1, hA.c4.1]
          exact (o_b e1).trans rfl
        · have hM1 : MV (A_go A i 21) (zsI S 33 0 (40 * aN A 4 + i) 21) := h.R 33 _ 21 (by decide)
          refine ⟨zsI (zsI S 33 0 (40 * aN A 4 + i) 21) 32 0 i (nI (aN A 4)), ?_, hM1.R 32 _ _ (by decide), (hX.k (eqK_sI (by decide))).k (eqK_sI (by decide)), (frC_R (by decide) (by decide)).tr (frC_R (by decide) (by decide))⟩
          show b_X12_goOn_165 0 (k, nI i, S) = _
          unfold b_X12_goOn_165
          dsimp only
          rw [h.nMen hA, if_neg hne, if_neg hk, nI_1]
          refine (o_b (placeOf_eq hA h hi')).trans ?_
          rw [if_neg (fun z => z hp)]
          refine (o_b (go_eq hA h hi' 21)).trans ?_
          refine (o_b (hM1.ref 7 rfl)).trans ?_
          have q4 : zI (zsI S 33 0 (40 * aN A 4 + i) 21) 12 0 4 = nI (aN A 4) := (hM1.f 4 rfl).trans hA.c4.1
          rw [q4]
          exact hM1.st 40 rfl (by omega) (by decide)
      · refine ⟨(A, k), ⟨hA, hS, h4⟩, fun S h hX => ⟨S, ?_, h, hX, frM.rf⟩, fun S h hX => ⟨S, ?_, h, hX, frC.rf⟩⟩
        · show b_X11_sickenTheCrowd_28 0 (k, nI i, S) = _
          unfold b_X11_sickenTheCrowd_28
          dsimp only
          rw [h.nMen hA, if_neg hne, if_neg hk, nI_1]
          refine (o_b (h.ref 11 1 rfl)).trans ?_
          refine (o_b (h.manAt hA hi')).trans ?_
          refine (o_b (a := i) rfl).trans ?_
          rw [h.pl hi', if_pos hp]
        · show b_X12_goOn_165 0 (k, nI i, S) = _
          unfold b_X12_goOn_165
          dsimp only
          rw [h.nMen hA, if_neg hne, if_neg hk, nI_1]
          refine (o_b (placeOf_eq hA h hi')).trans ?_
          rw [if_pos hp]
  · obtain ⟨A, k⟩ := a
    obtain ⟨hA, hS, h4⟩ := hP
    replace hA : AIn A := hA
    replace hS : SX A0 A := hS
    have hn5 : aN A 5 = aN A0 5 := hS.n (by decide)
    refine ⟨fun S h _ => ?_, fun S h _ => ?_⟩
    · show b_X11_sickenTheCrowd_28 0 (k, nI _, S) = _
      unfold b_X11_sickenTheCrowd_28
      dsimp only
      rw [h.nMen hA, hn5, if_pos (nI_le (Nat.le_refl _) (by omega))]
    · show b_X12_goOn_165 0 (k, nI _, S) = _
      unfold b_X12_goOn_165
      dsimp only
      rw [h.nMen hA, hn5, if_pos (nI_le (Nat.le_refl _) (by omega))]
/-! the sick go home -/
theorem send_lock {A0 : ZA} (hA0 : AIn A0) : ∃ A', PT A0 A' ∧ (∀ S, RC A0 S → HXs A0 S → ∃ S', z_iter zFU (b_X11_sendTheSickHome_2 0) (nI 0, S) = some S' ∧ RC A' S' ∧ HXs A0 S' ∧ frM S S') ∧ (∀ S, MV A0 S → HMs A0 S → ∃ S', z_iter zFU (b_X12_goOn_215 0) (nI 0, S) = some S' ∧ MV A' S' ∧ HMs A0 S' ∧ frC S S') := by
  have c5 := hA0.c5.2
  refine z_lock (P := PT A0) (cA := fun a => a) (HX := HXs A0) (HM := HMs A0) (fun i _ S => (nI i, S)) (fun i _ S => (nI i, S)) (N := aN A0 5) (fun i A hi hP => Or.inl ?_) (fun A hP => ?_) (aN A0 5) 0 zFU A0 (by omega) (by show _ < 1000000; omega) ⟨hA0, SX.rf, rfl⟩
  · obtain ⟨hA, hS, h4⟩ := hP
    have hi' : i < aN A 5 := by rw [hS.n (by decide)]; exact hi
    have hc5 := hA.c5.2
    have hne : ¬ nI (aN A 5) ≤ nI i := by rw [nI_leI (by omega) (by omega)]; omega
    have hh := (hA.man hi').2.2.2.2.2.2.1
    have evX : ∀ S, RC A S → b_X11_sendTheSickHome_2 0 (nI i, S) = if aP A i = 21 ∧ A.2 32 i = A.1 4 - 10 then (f_X3_goTo i (A.2 31 (8 * i + 6)) (nI (aN A 4)) S).bind fun q5 => some (.inl (nI (i + 1), q5.2)) else some (.inl (nI (i + 1), S)) := by
      intro S h
      unfold b_X11_sendTheSickHome_2
      dsimp only
      rw [h.nMen hA, if_neg hne, nI_1]
      refine (o_b (h.ref 11 1 rfl)).trans ?_
      refine (o_b (h.manAt hA hi')).trans ?_
      refine (o_b (a := i) rfl).trans ?_
      rw [h.pl hi', h.misc.1, h.att hi' (by decide : 6 < 8)]
      by_cases q : aP A i = 21
      · rw [if_neg (fun z => z q)]
        obtain ⟨-, -, -, -, ⟨b11, -, -, -, bc⟩, ⟨b13, bm, bm9⟩, -, -, bs⟩ := h.man hi'
        obtain ⟨s1, s2⟩ := bs q
        have hl : f_X3_lastMoved i S = some (A.2 32 i) := by
          unfold f_X3_lastMoved
          rw [b13, if_pos (show ¬ nI (mvs S i) = 0 from fun z => by have := (nI_z (by omega)).mp z; omega)]
          refine (o_b b11).trans ?_
          have e : nI (mvs S i) - 1 = nI (mvs S i - 1) := nI_sub (a := mvs S i) (b := 1) s1
          rw [e]
          refine (o_b (zld_at (m := capOf S i) rfl (by omega) (by omega))).trans ?_
          rw [s2]
        refine (o_b hl).trans ?_
        by_cases q2 : A.2 32 i = A.1 4 - 10
        · rw [if_neg (fun z => z q2), if_pos ⟨q, q2⟩, hA.c4.1]
        · rw [if_pos q2, if_neg (fun z => q2 z.2)]
      · rw [if_pos q, if_neg (fun z => q z.1)]
    have evM : ∀ S, MV A S → b_X12_goOn_215 0 (nI i, S) = if aP A i = 21 ∧ A.2 32 i = A.1 4 - 10 then (f_X12_go 0 (nI i) (A.2 31 (8 * i + 6)) S).bind fun q24 => some (.inl (nI (i + 1), q24)) else some (.inl (nI (i + 1), S)) := by
      intro S h
      unfold b_X12_goOn_215
      dsimp only
      rw [h.nMen hA, if_neg hne, nI_1, h.f 4 rfl]
      refine (o_b (placeOf_eq hA h hi')).trans ?_
      by_cases q : aP A i = 21
      · rw [if_neg (fun z => z q)]
        refine (o_b (h.ref 7 rfl)).trans ?_
        refine (o_b (h.ld 40 rfl rfl (by omega) (by decide))).trans ?_
        by_cases q2 : A.2 32 i = A.1 4 - 10
        · rw [if_neg (fun z => z q2), if_pos ⟨q, q2⟩, show (6 : Int32) = nI 6 from rfl, ix8]
          refine (o_b (h.ref 6 rfl)).trans ?_
          exact (o_b (h.ld 320 rfl rfl (by omega) (by decide))).trans rfl
        · rw [if_pos q2, if_neg (fun z => q2 z.2)]
      · rw [if_pos q, if_neg (fun z => q z.1)]
    by_cases hq : aP A i = 21 ∧ A.2 32 i = A.1 4 - 10
    · refine ⟨A_go A i (A.2 31 (8 * i + 6)), ⟨go_AIn hA hi' (Or.inl hh), hS.tr SX.go, h4⟩, fun S h hX => ?_, fun S h hX => ?_⟩
      · obtain ⟨S1, e1, g1⟩ := goTo_eq (p := A.2 31 (8 * i + 6)) hA h hi'
        refine ⟨S1, ?_, g1.rc hA h hi' (isIx_ne hA.c1.2 hh).2.1, hX.k (g1.k (by decide) (by decide) (by decide)), g1.fr⟩
        show b_X11_sendTheSickHome_2 0 (nI i, S) = _
        rw [evX S h, if_pos hq]
        exact (o_b e1).trans rfl
      · refine ⟨zsI S 33 0 (40 * aN A 4 + i) (A.2 31 (8 * i + 6)), ?_, h.R 33 _ _ (by decide), hX.k (eqK_sI (by decide)), frC_R (by decide) (by decide)⟩
        show b_X12_goOn_215 0 (nI i, S) = _
        rw [evM S h, if_pos hq]
        exact (o_b (go_eq hA h hi' _)).trans rfl
    · refine ⟨A, ⟨hA, hS, h4⟩, fun S h hX => ⟨S, ?_, h, hX, frM.rf⟩, fun S h hX => ⟨S, ?_, h, hX, frC.rf⟩⟩
      · show b_X11_sendTheSickHome_2 0 (nI i, S) = _
        rw [evX S h, if_neg hq]
      · show b_X12_goOn_215 0 (nI i, S) = _
        rw [evM S h, if_neg hq]
  · obtain ⟨hA, hS, h4⟩ := hP
    have hn5 : aN A 5 = aN A0 5 := hS.n (by decide)
    refine ⟨fun S h _ => ?_, fun S h _ => ?_⟩
    · unfold b_X11_sendTheSickHome_2
      dsimp only
      rw [h.nMen hA, hn5, if_pos (nI_le (Nat.le_refl _) (by omega))]
    · unfold b_X12_goOn_215
      dsimp only
      rw [h.nMen hA, hn5, if_pos (nI_le (Nat.le_refl _) (by omega))]
/-! the tide, told -/
def A_t0 (A : ZA) : ZA := aF A 4 (nI (aN A 4 + 1))
def A_cp (A : ZA) : Nat → ZA
  | 0 => A_t0 A
  | i + 1 => aR (A_cp A i) 33 (40 * (aN A 4 + 1) + i) (aPl A (aN A 4) i)
theorem cp_1 {A : ZA} : ∀ n, (A_cp A n).1 = (A_t0 A).1
  | 0 => rfl
  | n + 1 => cp_1 (A := A) n
theorem cp_k {A : ZA} {k : Nat} (h : k ≠ 33) : ∀ n, (A_cp A n).2 k = A.2 k
  | 0 => rfl
  | n + 1 => by
    rw [← cp_k (A := A) h n]
    funext i
    exact aR_ne (fun z => h z.1)
theorem cp_at {A : ZA} {t i : Nat} (hi : i < 40) : ∀ n, n ≤ 40 → (A_cp A n).2 33 (40 * t + i) = if t = aN A 4 + 1 ∧ i < n then aPl A (aN A 4) i else A.2 33 (40 * t + i)
  | 0, _ => by rw [if_neg (by omega)]; rfl
  | n + 1, hn => by
    show (if 33 = 33 ∧ 40 * t + i = 40 * (aN A 4 + 1) + n then aPl A (aN A 4) n else (A_cp A n).2 33 (40 * t + i)) = _
    rw [cp_at hi n (by omega)]
    by_cases e : 40 * t + i = 40 * (aN A 4 + 1) + n
    · rw [if_pos ⟨rfl, e⟩, if_pos (by omega), show i = n by omega]
    · rw [if_neg (fun z => e z.2)]
      by_cases e2 : t = aN A 4 + 1 ∧ i < n
      · rw [if_pos e2, if_pos (by omega)]
      · rw [if_neg e2, if_neg (by omega)]
/-- the same, in a form that computes -/
def A_tk1 (A : ZA) : ZA := aF (fun j => A.1 j, fun k => if k = 33 then (A_cp A (aN A 5)).2 33 else A.2 k) 4 (nI (aN A 4 + 1))
theorem cp_eq {A : ZA} : A_cp A (aN A 5) = A_tk1 A := by
  refine Prod.ext (cp_1 _) (funext fun k => ?_)
  show _ = if k = 33 then (A_cp A (aN A 5)).2 33 else A.2 k
  by_cases e : k = 33
  · rw [if_pos e, e]
  · rw [if_neg e, cp_k e]
theorem tick_pl {A : ZA} (h5 : aN A 5 ≤ 40) (t i : Nat) (hi : i < aN A 5) : aPl (A_tk1 A) t i = if t = aN A 4 + 1 then aPl A (aN A 4) i else aPl A t i := by
  show (A_cp A (aN A 5)).2 33 (40 * t + i) = _
  rw [cp_at (by omega) _ h5]
  by_cases e : t = aN A 4 + 1
  · rw [if_pos ⟨e, hi⟩, if_pos e]
  · rw [if_neg (fun z => e z.1), if_neg e]; rfl
theorem tick_AIn {A : ZA} (hA : AIn A) (h4 : aN A 4 < 899) : AIn (A_tk1 A) ∧ SX A (A_tk1 A) ∧ aN (A_tk1 A) 4 = aN A 4 + 1 := by
  have en : aN (A_tk1 A) 4 = aN A 4 + 1 := aN_F _ 4 _ (by omega)
  have c5 := hA.c5.2
  refine ⟨⟨⟨hA.c1, hA.c1p, ⟨by rw [en]; rfl, by rw [en]; omega⟩, hA.c5, hA.c9, hA.c15, hA.c17, hA.c22, hA.c24, hA.c24l, hA.c31, hA.room, hA.rate⟩, hA.2.1, ⟨hA.2.2.1.1, fun t i ht hi => ?_⟩, hA.2.2.2.1, hA.2.2.2.2.1, hA.2.2.2.2.2.1, fun t ht => ?_, hA.2.2.2.2.2.2.2⟩, ⟨fun j hj => ?_, fun k _ h => ?_⟩, en⟩
  · rw [en] at ht
    have hi' : i < aN A 5 := hi
    rw [tick_pl c5 t i hi']
    by_cases e : t = aN A 4 + 1
    · rw [if_pos e]; exact hA.2.2.1.2 _ i (Nat.le_refl _) hi'
    · rw [if_neg e]; exact hA.2.2.1.2 t i (by omega) hi'
  · have h0 := hA.tk (show t < aN A 22 from ht)
    refine ⟨?_, h0.2⟩
    rw [en]; exact h0.1.mono (by omega)
  · show (if j = 4 then _ else A.1 j) = A.1 j
    rw [if_neg hj]
  · show (if k = 33 then (A_cp A (aN A 5)).2 33 else A.2 k) = A.2 k
    rw [if_neg h]
theorem plAt_all {home : Int32} {T P : Nat → Int32} {t t' : Nat} : ∀ {n : Nat}, (∀ j, j < n → (T j).toInt ≤ (t : Int)) → t ≤ t' → plAt home T P n t' = plAt home T P n t
  | 0, _, _ => rfl
  | n + 1, h, ht => by
    show (if (T n).toInt ≤ (t' : Int) then P n else plAt home T P n t') = if (T n).toInt ≤ (t : Int) then P n else plAt home T P n t
    have := h n (by omega)
    rw [if_pos (by omega), if_pos this]
theorem tick_RC {A : ZA} {S : ZH} (hA : AIn A) (h4 : aN A 4 < 899) (h : RC A S) : RC (A_tk1 A) (zsI S 11 0 16 (nI (aN A 4 + 1))) := by
  have en : aN (A_tk1 A) 4 = aN A 4 + 1 := aN_F _ 4 _ (by omega)
  have c5 := hA.c5.2
  have hman : ∀ i, i < aN A 5 → RMan (A_tk1 A) (zsI S 11 0 16 (nI (aN A 4 + 1))) i := by
    intro i hi
    obtain ⟨b1, b2, b3, b4, b5, b6, ⟨bT, bT2⟩, bP, bs⟩ := h.man hi
    have hp : aP (A_tk1 A) i = aP A i := by
      show aPl (A_tk1 A) (aN (A_tk1 A) 4) i = _
      rw [en, tick_pl c5 _ i hi, if_pos rfl]
      rfl
    refine ⟨b1, by rw [hp]; exact b2, b3, b4, b5, b6, ⟨fun j hj => ?_, bT2⟩, fun t ht => ?_, fun z => ?_⟩
    · rw [en]; exact (bT j hj).mono (by omega)
    · rw [en] at ht
      rw [tick_pl c5 t i hi]
      by_cases e : t = aN A 4 + 1
      · rw [if_pos e, e]
        show _ = plAt _ (zI S 17 (tt S i)) (zI S 18 (tt S i)) (mvs S i) (aN A 4 + 1)
        rw [plAt_all (t := aN A 4) (fun j hj => ?_) (by omega)]
        · exact bP _ (Nat.le_refl _)
        · obtain ⟨q, hq, e2⟩ := bT j hj
          rw [e2, nI_toInt (by omega)]
          omega
      · rw [if_neg e]; exact bP t (by omega)
    · rw [hp] at z; exact bs z
  exact ⟨h.sc, h.town, ⟨h.men.1, h.men.2.1, fun i hi => ⟨(h.men.2.2.1 i hi).1, hman i hi⟩, h.men.2.2.2⟩, h.paps, h.acts, h.tks, h.shps, h.tix, ⟨rfl, h.misc.2.1, h.misc.2.2.1, h.misc.2.2.2⟩, h.bud⟩
theorem tick_M {A : ZA} {S : ZH} (hA : AIn A) (h4 : aN A 4 < 899) (h : MV A S) : ∃ S1, z_iter zFU (b_X12_goOn_12 0) ((0 : Int32), zsI S 12 0 4 (nI (aN A 4 + 1))) = some S1 ∧ (MV (A_tk1 A) S1 ∧ frC S S1 ∧ eqK S S1 30) := by
  have c5 := hA.c5.2
  have h0 : MV (A_t0 A) (zsI S 12 0 4 (nI (aN A 4 + 1))) := h.F 4 _
  refine z_inv0 (fun i v => v.1 = nI i ∧ MV (A_cp A i) v.2 ∧ frC S v.2 ∧ eqK S v.2 30) (aN A 5) (v := ((0 : Int32), zsI S 12 0 4 (nI (aN A 4 + 1)))) (by omega) ⟨rfl, h0, frC_F, eqK_sI (by decide)⟩ (fun i v hi hI => ?_) (fun v hI => ?_)
  · obtain ⟨v1, v2⟩ := v
    obtain ⟨i1, i2, i3, i4⟩ := hI
    replace i1 : v1 = nI i := i1
    replace i2 : MV (A_cp A i) v2 := i2
    subst i1
    have q5 : zI v2 12 0 5 = nI (aN A 5) := by
      rw [i2.f 5 rfl, cp_1]; exact hA.c5.1
    have q4 : zI v2 12 0 4 = nI (aN A 4 + 1) := by
      rw [i2.f 4 rfl, cp_1]
      show (if 4 = 4 then nI (aN A 4 + 1) else A.1 4) = _
      rw [if_pos rfl]
    have l33 : zld v2 33 0 (nI (40 * aN A 4 + i)) = some (aPl A (aN A 4) i) := by
      rw [i2.ld 36000 rfl rfl (by omega) (by decide), cp_at (by omega) i (by omega), if_neg (by omega)]
      rfl
    refine ⟨(nI (i + 1), zsI v2 33 0 (40 * (aN A 4 + 1) + i) (aPl A (aN A 4) i)), ?_, rfl, i2.R 33 _ _ (by decide), i3.tr (frC_R (by decide) (by decide)), i4.tr (eqK_sI (by decide))⟩
    unfold b_X12_goOn_12
    dsimp only
    rw [q5, q4, if_neg (by rw [nI_leI (by omega) (by omega)]; omega), nI_pred, ix40, ix40, nI_1]
    refine (o_b (i2.ref 8 rfl)).trans ?_
    refine (o_b l33).trans ?_
    refine (o_b (i2.ref 8 rfl)).trans ?_
    exact i2.st 36000 rfl (by omega) (by decide)
  · obtain ⟨v1, v2⟩ := v
    obtain ⟨i1, i2, i3, i4⟩ := hI
    replace i1 : v1 = nI (aN A 5) := i1
    replace i2 : MV (A_cp A (aN A 5)) v2 := i2
    subst i1
    have q5 : zI v2 12 0 5 = nI (aN A 5) := by
      rw [i2.f 5 rfl, cp_1]; exact hA.c5.1
    refine ⟨v2, ?_, by rw [← cp_eq]; exact i2, i3, i4⟩
    unfold b_X12_goOn_12
    dsimp only
    rw [q5, if_pos (nI_le (Nat.le_refl _) (by omega))]
