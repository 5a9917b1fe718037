/-! ===== pass ===== -/
def kkV (A : ZA) : Int32 := pos0 (mAt A 20 - A.1 25) * A.1 26 / 100
theorem PT.tr {A0 A1 A2 : ZA} (h : PT A0 A1) (h' : PT A1 A2) : PT A0 A2 := ⟨h'.1, h.2.1.tr h'.2.1, h'.2.2.trans h.2.2⟩
theorem HXs.sx {A A' : ZA} {S : ZH} (h : HXs A S) (e : SX A A') : HXs A' S := fun s hs => by
  rw [e.n (by decide)] at hs
  rw [e.hw]
  exact h s hs
theorem HXs.sx' {A A' : ZA} {S : ZH} (h : HXs A' S) (e : SX A A') : HXs A S := fun s hs => by
  have := h s (by rw [e.n (by decide)]; exact hs)
  rw [e.hw] at this
  exact this
theorem HMs.sx {A A' : ZA} {S : ZH} (h : HMs A S) (e : SX A A') : HMs A' S := h.cg (fun a b _ _ => e.D a b)
theorem HMs.sx' {A A' : ZA} {S : ZH} (h : HMs A' S) (e : SX A A') : HMs A S := h.cg (fun a b _ _ => (e.D a b).symm)
def tickX (S : ZH) : Option ZH := (f_X11_hideTheShy 0 (zsI S 11 0 16 ((zI S 11 0 16) + (1 : Int32)))).bind fun q8 => (f_X11_sickenTheCrowd 0 q8).bind fun q9 => f_X11_sendTheSickHome 0 q9
theorem tick_lock {A : ZA} (hA : AIn A) (h4 : aN A 4 < 899) : ∃ A', AIn A' ∧ SX A A' ∧ aN A' 4 = aN A 4 + 1 ∧ (∀ S, RC A S → HXs A S → ∃ S', tickX S = some S' ∧ RC A' S' ∧ HXs A S' ∧ frM S S') ∧ (∀ S, MV A S → HMs A S → ∃ S', f_X12_goOn 0 S = some S' ∧ MV A' S' ∧ HMs A S' ∧ frC S S') := by
  obtain ⟨hA1, s1, n1⟩ := tick_AIn hA h4
  obtain ⟨A2, p2, x2, m2⟩ := hide_lock hA1
  obtain ⟨A3, p3, x3, m3⟩ := sick_lock p2.1 (kkV A2)
  obtain ⟨A4, p4, x4, m4⟩ := send_lock p3.1
  have p14 := (p2.tr p3).tr p4
  refine ⟨A4, p4.1, s1.tr p14.2.1, by rw [p14.n4, n1], fun S h hX => ?_, fun S h hX => ?_⟩
  · have r1 := tick_RC hA h4 h
    have e16 : zI S 11 0 16 + 1 = nI (aN A 4 + 1) := by rw [h.misc.1, hA.c4.1, nI_1]
    obtain ⟨S2, e2, r2, k2, f2⟩ := x2 _ r1 ((hX.k (eqK_sI (by decide))).sx s1)
    obtain ⟨S3, e3, r3, k3, f3⟩ := x3 S2 r2 (k2.sx p2.2.1)
    obtain ⟨S4, e4, r4, k4, f4⟩ := x4 S3 r3 (k3.sx p3.2.1)
    refine ⟨S4, ?_, r4, ((k4.sx' p3.2.1).sx' p2.2.1).sx' s1, (frM_sI (nM 11 rfl)).tr (f2.tr (f3.tr f4))⟩
    unfold tickX
    rw [e16]
    have q1 : f_X11_hideTheShy 0 (zsI S 11 0 16 (nI (aN A 4 + 1))) = some S2 := by
      unfold f_X11_hideTheShy
      exact (o_b e2).trans rfl
    have q2 : f_X11_sickenTheCrowd 0 S2 = some S3 := by
      unfold f_X11_sickenTheCrowd
      refine (o_b (menIn_eq p2.1 r2 20)).trans ?_
      rw [r2.misc.2.1, r2.misc.2.2.1]
      refine (o_b (max0 _ _)).trans ?_
      exact (o_b e3).trans rfl
    have q3 : f_X11_sendTheSickHome 0 S3 = some S4 := by
      unfold f_X11_sendTheSickHome
      exact (o_b e4).trans rfl
    refine (o_b q1).trans ?_
    refine (o_b q2).trans ?_
    exact q3
  · obtain ⟨S1, e1, r1, f1, k30⟩ := tick_M hA h4 h
    have e4' : zI S 12 0 4 + 1 = nI (aN A 4 + 1) := by rw [h.f 4 rfl, hA.c4.1, nI_1]
    obtain ⟨S2, e2, r2, k2, f2⟩ := m2 S1 r1 ((hX.k k30).sx s1)
    obtain ⟨S3, e3, r3, k3, f3⟩ := m3 S2 r2 (k2.sx p2.2.1)
    obtain ⟨S4, e4, r4, k4, f4⟩ := m4 S3 r3 (k3.sx p3.2.1)
    refine ⟨S4, ?_, r4, ((k4.sx' p3.2.1).sx' p2.2.1).sx' s1, f1.tr (f2.tr (f3.tr f4))⟩
    have q162 : j_X12_goOn_162 0 (kkV A2) S2 = some S4 := by
      unfold j_X12_goOn_162 j_X12_goOn_213
      refine (o_b e3).trans ?_
      exact (o_b e4).trans rfl
    unfold f_X12_goOn
    rw [e4']
    refine (o_b e1).trans ?_
    refine (o_b e2).trans ?_
    refine (o_b (many_eq p2.1 r2 20)).trans ?_
    rw [r2.f 25 rfl, r2.f 26 rfl]
    unfold kkV pos0 at q162
    by_cases q : mAt A2 20 - A2.1 25 ≤ 0
    · rw [if_pos q] at q162 ⊢
      have z : (0 : Int32) * A2.1 26 / 100 = 0 := by
        rw [Int32.zero_mul]
        decide
      rw [z] at q162
      exact q162
    · rw [if_neg q] at q162 ⊢
      exact q162
theorem heardBy_eq {A : ZA} {S : ZH} (hA : AIn A) (h : RC A S) (x : Int32) : ∃ S1, z_iter zFU (b_X11_pass_30 0 x) ((0 : Int32), S) = some S1 ∧ (RC A S1 ∧ HXs A S1 ∧ frM S S1) := by
  have hn := hA.c1.2
  refine z_inv0 (fun s v => v.1 = nI s ∧ RC A v.2 ∧ (∀ q, q < s → zI v.2 28 0 q = o9 (hV A q)) ∧ frM S v.2) (aN A 1) (v := ((0 : Int32), S)) (by omega) ⟨rfl, h, fun q hq => absurd hq (Nat.not_lt_zero _), frM.rf⟩ (fun s v hs hI => ?_) (fun v hI => ?_)
  · obtain ⟨v1, v2⟩ := v
    obtain ⟨i1, i2, i3, i4⟩ := hI
    replace i1 : v1 = nI s := i1
    replace i2 : RC A v2 := i2
    replace i3 : ∀ q, q < s → zI v2 28 0 q = o9 (hV A q) := i3
    replace i4 : frM S v2 := i4
    subst i1
    obtain ⟨S1, e1, r1, r2⟩ := firstHeard_eq hA i2 hs
    refine ⟨(nI (s + 1), zsI S1 28 0 s (o9 (hV A s))), ?_, rfl, ⟨r1.sc, r1.town, r1.men, r1.paps, r1.acts, r1.tks, r1.shps, r1.tix, r1.misc, r1.bud⟩, fun q hq => ?_, i4.tr (r2.fr.tr (frM_sI (nM 28 rfl)))⟩
    · unfold b_X11_pass_30
      dsimp only
      refine (o_b (i2.ref 11 0 rfl)).trans ?_
      rw [i2.town.1, hA.c1.1, if_neg (by rw [nI_leI (by omega) (by omega)]; omega), nI_1]
      refine (o_b (i2.ref 11 7 rfl)).trans ?_
      rw [i2.ref 11 0 rfl]
      refine (o_b e1).trans ?_
      refine (o_b (i2.ref 11 13 rfl)).trans ?_
      exact zst_b (m := 8) (by exact r1.len 28 8 rfl) (by omega) (by decide)
    · show zI (zsI S1 28 0 s (o9 (hV A s))) 28 0 q = _
      rw [zI_sI]
      by_cases e : q = s
      · rw [if_pos ⟨rfl, e⟩, e]
      · rw [if_neg (fun z => e z.2), (r2 28 (by decide) (by decide)).2.2.1]
        exact i3 q (by omega)
  · obtain ⟨v1, v2⟩ := v
    obtain ⟨i1, i2, i3, i4⟩ := hI
    replace i1 : v1 = nI (aN A 1) := i1
    replace i2 : RC A v2 := i2
    subst i1
    refine ⟨v2, ?_, i2, i3, i4⟩
    unfold b_X11_pass_30
    dsimp only
    refine (o_b (i2.ref 11 0 rfl)).trans ?_
    rw [i2.town.1, hA.c1.1, if_pos (nI_le (Nat.le_refl _) (by omega))]
theorem z_lock2 {A : ZA} (hA : AIn A) {n : Nat} (h9 : aN A 4 + n ≤ 899) : ∃ A', AIn A' ∧ SX A A' ∧ aN A' 4 = aN A 4 + n ∧ (∀ S, RC A S → HXs A S → ∃ S', z_iter zFU (b_X11_pass_67 0 (nI n)) ((0 : Int32), S) = some S' ∧ RC A' S' ∧ frM S S') ∧ (∀ S, MV A S → HMs A S → ∃ S', z_iter zFU (b_X12_pass_41 0 (nI n)) ((0 : Int32), S) = some S' ∧ MV A' S' ∧ frC S S') := by
  have gen : ∀ (d i fuel : Nat) (B : ZA), i + d = n → d < fuel → AIn B → SX A B → aN B 4 = aN A 4 + i → ∃ A', AIn A' ∧ SX A A' ∧ aN A' 4 = aN A 4 + n ∧ (∀ S, RC B S → HXs A S → ∃ S', z_iter fuel (b_X11_pass_67 0 (nI n)) (nI i, S) = some S' ∧ RC A' S' ∧ frM S S') ∧ (∀ S, MV B S → HMs A S → ∃ S', z_iter fuel (b_X12_pass_41 0 (nI n)) (nI i, S) = some S' ∧ MV A' S' ∧ frC S S') := by
    intro d
    induction d with
    | zero =>
      intro i fuel B hi hf hB hS h4
      have e : i = n := by omega
      subst e
      cases fuel with
      | zero => omega
      | succ f =>
        refine ⟨B, hB, hS, h4, fun S h _ => ⟨S, ?_, h, frM.rf⟩, fun S h _ => ⟨S, ?_, h, frC.rf⟩⟩
        · show (b_X11_pass_67 0 (nI i) (nI i, S)).bind _ = _
          unfold b_X11_pass_67
          dsimp only
          rw [if_pos (nI_le (Nat.le_refl _) (by omega))]
          rfl
        · show (b_X12_pass_41 0 (nI i) (nI i, S)).bind _ = _
          unfold b_X12_pass_41
          dsimp only
          rw [if_pos (nI_le (Nat.le_refl _) (by omega))]
          rfl
    | succ d ih =>
      intro i fuel B hi hf hB hS h4
      cases fuel with
      | zero => omega
      | succ f =>
        obtain ⟨B', b1, b2, b3, b4, b5⟩ := tick_lock hB (by omega)
        obtain ⟨A', q1, q2, q3, q4, q5⟩ := ih (i + 1) f B' (by omega) (by omega) b1 (hS.tr b2) (by omega)
        have hne : ¬ nI n ≤ nI i := by rw [nI_leI (by omega) (by omega)]; omega
        refine ⟨A', q1, q2, q3, fun S h hX => ?_, fun S h hX => ?_⟩
        · obtain ⟨S1, e1, r1, k1, f1⟩ := b4 S h (hX.sx hS)
          obtain ⟨S2, e2, r2, f2⟩ := q4 S1 r1 (k1.sx' hS)
          refine ⟨S2, ?_, r2, f1.tr f2⟩
          show (b_X11_pass_67 0 (nI n) (nI i, S)).bind _ = _
          have eb : b_X11_pass_67 0 (nI n) (nI i, S) = some (.inl (nI (i + 1), S1)) := by
            unfold b_X11_pass_67
            dsimp only
            rw [if_neg hne, nI_1]
            unfold tickX at e1
            cases ha : f_X11_hideTheShy 0 (zsI S 11 0 16 (zI S 11 0 16 + 1)) with
            | none => rw [ha] at e1; cases e1
            | some a =>
              rw [ha] at e1
              replace e1 : ((f_X11_sickenTheCrowd 0 a).bind fun q9 => f_X11_sendTheSickHome 0 q9) = some S1 := e1
              refine (o_b (a := a) rfl).trans ?_
              cases hb : f_X11_sickenTheCrowd 0 a with
              | none => rw [hb] at e1; cases e1
              | some b =>
                rw [hb] at e1
                replace e1 : f_X11_sendTheSickHome 0 b = some S1 := e1
                refine (o_b (a := b) rfl).trans ?_
                exact (o_b e1).trans rfl
          rw [eb]
          exact e2
        · obtain ⟨S1, e1, r1, k1, f1⟩ := b5 S h (hX.sx hS)
          obtain ⟨S2, e2, r2, f2⟩ := q5 S1 r1 (k1.sx' hS)
          refine ⟨S2, ?_, r2, f1.tr f2⟩
          show (b_X12_pass_41 0 (nI n) (nI i, S)).bind _ = _
          have eb : b_X12_pass_41 0 (nI n) (nI i, S) = some (.inl (nI (i + 1), S1)) := by
            unfold b_X12_pass_41
            dsimp only
            rw [if_neg hne, nI_1]
            exact (o_b e1).trans rfl
          rw [eb]
          exact e2
  exact gen n 0 zFU A (by omega) (by show _ < 1000000; omega) hA SX.rf rfl
theorem op_pass {A : ZA} (hA : AIn A) (x : Int32) : OpE A (f_X11_pass 0 x) (f_X12_pass 0 x) := by
  have c4 := hA.c4
  have c42 := c4.2
  by_cases hx : rg x 1 60
  · obtain ⟨n, hn, rfl⟩ := rg_cases (n := 60) (by omega) ⟨by have := hx.1; omega, hx.2⟩
    have hl : (nI (aN A 4 + n) ≤ 899) ↔ aN A 4 + n ≤ 899 := nI_leI (a := aN A 4 + n) (b := 899) (by omega) (by decide)
    by_cases h9 : aN A 4 + n ≤ 899
    · have key := z_lock2 (hA := hA) (n := n) h9
      obtain ⟨A', hA', hS', n4', kx, km⟩ := key
      refine ⟨nI (aN A 4 + n), A', hA', fun S h => ?_, fun S h => ?_⟩
      · obtain ⟨S1, e1, r1, k1, f1⟩ := heardBy_eq hA h (nI n)
        obtain ⟨S2, e2, r2, f2⟩ := kx S1 r1 k1
        refine ⟨S2, ?_, r2, f1.tr f2⟩
        unfold f_X11_pass
        refine (o_b (within_rg (a := 1) (b := 60) (p := 1) (q := 60) rfl rfl hx)).trans ?_
        rw [if_pos (by decide), h.misc.1, c4.1, nI_p, if_pos (hl.mpr h9)]
        refine (o_b e1).trans ?_
        refine (o_b e2).trans ?_
        rw [r2.misc.1, hA'.c4.1, n4']
      · obtain ⟨S1, e1, f1, m1⟩ := measure_M hA h.t
        have hM := h.t.FR (by omega) f1
        obtain ⟨S2, e2, r2, f2⟩ := km S1 hM m1
        refine ⟨S2, ?_, r2, frC_t.tr ((f1.frC (Or.inr ⟨by decide, by decide⟩)).tr f2)⟩
        unfold f_X12_pass
        refine (o_b (in_rg (a := 1) (b := 60) (p := 1) (q := 60) rfl rfl hx)).trans ?_
        rw [if_pos (by decide), h.t.f 4 rfl, c4.1, nI_p, if_pos (hl.mpr h9)]
        refine (o_b e1).trans ?_
        refine (o_b e2).trans ?_
        rw [r2.f 4 rfl, hA'.c4.1, n4']
    · refine .same hA (-4) (fun S h => ?_) (fun S h => ?_)
      · unfold f_X11_pass
        refine (o_b (within_rg (a := 1) (b := 60) (p := 1) (q := 60) rfl rfl hx)).trans ?_
        rw [if_pos (by decide), h.misc.1, c4.1, nI_p, if_neg (fun z => h9 (hl.mp z))]
      · unfold f_X12_pass
        refine (o_b (in_rg (a := 1) (b := 60) (p := 1) (q := 60) rfl rfl hx)).trans ?_
        rw [if_pos (by decide), h.t.f 4 rfl, c4.1, nI_p, if_neg (fun z => h9 (hl.mp z))]
  · refine .same hA (-2) (fun S h => ?_) (fun S h => ?_)
    · unfold f_X11_pass
      exact (o_b (within_nr (a := 1) (b := 60) (p := 1) (q := 60) rfl rfl hx)).trans rfl
    · unfold f_X12_pass
      exact (o_b (in_nr (a := 1) (b := 60) (p := 1) (q := 60) rfl rfl hx)).trans rfl
