/-! ===== a tide goes by, on both sides at once ===== -/
theorem z_lock {α σx σm : Type} {bx : σx → Option (σx ⊕ ZH)} {bm : σm → Option (σm ⊕ ZH)} {P : α → Prop} {cA : α → ZA} {HX HM : ZH → Prop} (vx : Nat → α → ZH → σx) (vm : Nat → α → ZH → σm) {N : Nat}
    (step : ∀ i a, i < N → P a → (∃ a', P a' ∧ (∀ S, RC (cA a) S → HX S → ∃ S', bx (vx i a S) = some (.inl (vx (i + 1) a' S')) ∧ RC (cA a') S' ∧ HX S' ∧ frM S S') ∧ (∀ S, MV (cA a) S → HM S → ∃ S', bm (vm i a S) = some (.inl (vm (i + 1) a' S')) ∧ MV (cA a') S' ∧ HM S' ∧ frC S S')) ∨ ((∀ S, RC (cA a) S → HX S → bx (vx i a S) = some (.inr S)) ∧ (∀ S, MV (cA a) S → HM S → bm (vm i a S) = some (.inr S))))
    (last : ∀ a, P a → (∀ S, RC (cA a) S → HX S → bx (vx N a S) = some (.inr S)) ∧ (∀ S, MV (cA a) S → HM S → bm (vm N a S) = some (.inr S))) :
    ∀ (d i fuel : Nat) (a : α), i + d = N → d < fuel → P a → ∃ a', P a' ∧ (∀ S, RC (cA a) S → HX S → ∃ S', z_iter fuel bx (vx i a S) = some S' ∧ RC (cA a') S' ∧ HX S' ∧ frM S S') ∧ (∀ S, MV (cA a) S → HM S → ∃ S', z_iter fuel bm (vm i a S) = some S' ∧ MV (cA a') S' ∧ HM S' ∧ frC S S') := by
  intro d
  induction d with
  | zero =>
    intro i fuel a hi hf hP
    have e : i = N := by omega
    subst e
    cases fuel with
    | zero => omega
    | succ f =>
      obtain ⟨l1, l2⟩ := last a hP
      refine ⟨a, hP, fun S h1 h2 => ⟨S, ?_, h1, h2, frM.rf⟩, fun S h1 h2 => ⟨S, ?_, h1, h2, frC.rf⟩⟩
      · show (bx (vx i a S)).bind _ = _
        rw [l1 S h1 h2]; rfl
      · show (bm (vm i a S)).bind _ = _
        rw [l2 S h1 h2]; rfl
  | succ d ih =>
    intro i fuel a hi hf hP
    cases fuel with
    | zero => omega
    | succ f =>
      rcases step i a (by omega) hP with ⟨a', hP', s1, s2⟩ | ⟨l1, l2⟩
      · obtain ⟨a2, q0, q1, q2⟩ := ih (i + 1) f a' (by omega) (by omega) hP'
        refine ⟨a2, q0, fun S h1 h2 => ?_, fun S h1 h2 => ?_⟩
        · obtain ⟨S1, e1, r1, r2, r3⟩ := s1 S h1 h2
          obtain ⟨S2, e2, r4, r5, r6⟩ := q1 S1 r1 r2
          refine ⟨S2, ?_, r4, r5, r3.tr r6⟩
          show (bx (vx i a S)).bind _ = _
          rw [e1]
          exact e2
        · obtain ⟨S1, e1, r1, r2, r3⟩ := s2 S h1 h2
          obtain ⟨S2, e2, r4, r5, r6⟩ := q2 S1 r1 r2
          refine ⟨S2, ?_, r4, r5, r3.tr r6⟩
          show (bm (vm i a S)).bind _ = _
          rw [e1]
          exact e2
      · refine ⟨a, hP, fun S h1 h2 => ⟨S, ?_, h1, h2, frM.rf⟩, fun S h1 h2 => ⟨S, ?_, h1, h2, frC.rf⟩⟩
        · show (bx (vx i a S)).bind _ = _
          rw [l1 S h1 h2]; rfl
        · show (bm (vm i a S)).bind _ = _
          rw [l2 S h1 h2]; rfl
/-- beside tide, places and sickness nothing changed -/
def SX (A A' : ZA) : Prop := (∀ j, j ≠ 4 → A'.1 j = A.1 j) ∧ ∀ k, k ≠ 32 → k ≠ 33 → A'.2 k = A.2 k
theorem SX.rf {A : ZA} : SX A A := ⟨fun _ _ => rfl, fun _ _ _ => rfl⟩
theorem SX.tr {A A1 A2 : ZA} (h : SX A A1) (h' : SX A1 A2) : SX A A2 := ⟨fun j a => (h'.1 j a).trans (h.1 j a), fun k a b => (h'.2 k a b).trans (h.2 k a b)⟩
theorem SX.n {A A' : ZA} (h : SX A A') {j : Nat} (hj : j ≠ 4) : aN A' j = aN A j := by unfold aN; rw [h.1 j hj]
theorem SX.D {A A' : ZA} (h : SX A A') (a b : Nat) : aD A' a b = aD A a b := by unfold aD; rw [h.2 29 (by decide) (by decide)]
theorem SX.hv {A A' : ZA} (h : SX A A') (s : Nat) : ∀ j, hvN A' s j = hvN A s j
  | 0 => rfl
  | j + 1 => by
    unfold hvN
    rw [SX.hv h s j, h.2 44 (by decide) (by decide), h.n (j := 24) (by decide), h.D]
theorem SX.hw {A A' : ZA} (h : SX A A') (s : Nat) : hV A' s = hV A s := by
  unfold hV
  rw [h.hv, h.n (j := 24) (by decide), h.n (j := 22) (by decide)]
theorem SX.go {A : ZA} {i : Nat} {p : Int32} : SX A (A_go A i p) := ⟨fun _ _ => rfl, fun k _ h => funext fun q => aR_ne (fun z => h z.1)⟩
theorem SX.goS {A : ZA} {i : Nat} {p v : Int32} : SX A (aR (A_go A i p) 32 i v) := ⟨fun _ _ => rfl, fun k h1 h2 => funext fun q => (aR_ne (fun z => h1 z.1)).trans (aR_ne (fun z => h2 z.1))⟩
def goOne (A : ZA) (i : Nat) (p : Int32) : Prop := i < aN A 5 ∧ isPl A p
/-- what both sides keep through a tide -/
def HXs (A : ZA) (S : ZH) : Prop := ∀ s, s < aN A 1 → zI S 28 0 s = o9 (hV A s)
def HMs (A : ZA) (S : ZH) : Prop := MX 30 S (aD A) 8
theorem HXs.k {A : ZA} {S S' : ZH} (h : HXs A S) (e : eqK S S' 28) : HXs A S' := fun s hs => by rw [e.2.2.1]; exact h s hs
theorem HMs.k {A : ZA} {S S' : ZH} (h : HMs A S) (e : eqK S S' 30) : HMs A S' := fun a b ha hb => by rw [e.2.2.1]; exact h a b ha hb
theorem GD.k {A : ZA} {S S1 : ZH} {i : Nat} {p : Int32} (g : GD A S S1 i p) {k : Nat} (h3 : k ≠ 3) (h17 : k ≠ 17) (h18 : k ≠ 18) : eqK S S1 k := by
  obtain ⟨m', c', g, -⟩ := g
  exact g.1 k h3 h17 h18
def PT (A0 A : ZA) : Prop := AIn A ∧ SX A0 A ∧ A.1 4 = A0.1 4
theorem PT.n4 {A0 A : ZA} (h : PT A0 A) : aN A 4 = aN A0 4 := by unfold aN; rw [h.2.2]
theorem place_st {A : ZA} (hA : AIn A) {p : Int32} (hp : isPl A p) (h : stB p = true) : ∃ f, f < aN A 1 ∧ p = nI f := by
  have c9 := hA.c9.2
  unfold stB at h
  simp only [decide_eq_true_eq] at h
  rcases hp with ⟨f, hf, e⟩ | ⟨s, hs, e⟩ | e
  · exact ⟨f, hf, e⟩
  · rw [e] at h
    have := h.2
    rw [nI_toInt (by omega)] at this
    omega
  · exfalso
    revert h
    rcases e with e | e | e | e <;> subst e <;> decide
/-! the shy hide -/
def hidB (A0 A : ZA) (i : Nat) : Bool := decide (A.2 31 (8 * i + 7) = 1) && stB (aP A i) && (match hV A0 (aP A i).toNatClampNeg with | none => false | some x => decide (x ≤ aN A0 4))
theorem hide_lock {A0 : ZA} (hA0 : AIn A0) : ∃ A', PT A0 A' ∧ (∀ S, RC A0 S → HXs A0 S → ∃ S', z_iter zFU (b_X11_hideTheShy_2 0) (nI 0, S) = some S' ∧ RC A' S' ∧ HXs A0 S' ∧ frM S S') ∧ (∀ S, MV A0 S → HMs A0 S → ∃ S', z_iter zFU (b_X12_goOn_58 0) (nI 0, S) = some S' ∧ MV A' S' ∧ HMs A0 S' ∧ frC S S') := by
  have c5 := hA0.c5.2
  have c4 := hA0.c4
  have c42 := c4.2
  refine z_lock (P := PT A0) (cA := fun a => a) (HX := HXs A0) (HM := HMs A0) (fun i _ S => (nI i, S)) (fun i _ S => (nI i, S)) (N := aN A0 5) (fun i A hi hP => Or.inl ?_) (fun A hP => ?_) (aN A0 5) 0 zFU A0 (by omega) (by show _ < 1000000; omega) ⟨hA0, SX.rf, rfl⟩
  · obtain ⟨hA, hS, h4⟩ := hP
    have hn4 : aN A 4 = aN A0 4 := by unfold aN; rw [h4]
    have hi' : i < aN A 5 := by rw [hS.n (by decide)]; exact hi
    have hn1 : aN A 1 = aN A0 1 := hS.n (by decide)
    have hc5 := hA.c5.2
    have h7 := (hA.man hi').2.2.2.2.2.2.2
    have h22 : isPl A 22 := Or.inr (Or.inr (Or.inr (Or.inr (Or.inl rfl))))
    have evX : ∀ S, RC A S → HXs A0 S → b_X11_hideTheShy_2 0 (nI i, S) = if hidB A0 A i = true then (f_X3_goTo i 22 (nI (aN A 4)) S).bind fun q7 => some (.inl (nI (i + 1), q7.2)) else some (.inl (nI (i + 1), S)) := by
      intro S h hX
      unfold b_X11_hideTheShy_2
      dsimp only
      rw [h.nMen hA, if_neg (by rw [nI_leI (by omega) (by omega)]; omega), nI_1]
      refine (o_b (h.ref 11 1 rfl)).trans ?_
      refine (o_b (h.manAt hA hi')).trans ?_
      refine (o_b (a := i) rfl).trans ?_
      rw [h.att hi' (by decide : 7 < 8), h.pl hi', h.misc.1]
      unfold hidB
      rcases h7 with e7 | e7
      · rw [e7, if_pos rfl]; rfl
      · rw [e7, if_neg (by decide)]
        refine (o_b (isStreetC _ _)).trans ?_
        cases hs : stB (aP A i) with
        | false => rfl
        | true =>
          obtain ⟨f, hf, ef⟩ := place_st hA (hA.aP hi') hs
          rw [if_neg (by decide), ef, nI_clamp (by have := hA.c1.2; omega)]
          refine (o_b (h.ref 11 13 rfl)).trans ?_
          have l28 : zld S 28 0 (nI f) = some (o9 (hV A0 f)) := by rw [zld_at (h.len 28 8 rfl) (by have := hA.c1.2; omega) (by decide), hX f (by omega)]
          refine (o_b l28).trans ?_
          rw [hA.c4.1]
          cases hv : hV A0 f with
          | none =>
            rw [if_pos (show nI (aN A 4) < o9 none by show nI (aN A 4) < nI 999; rw [nI_lt_iff (by omega) (by decide)]; omega)]
            rfl
          | some x =>
            have hx := hV_bd hA0 hv
            have hl := nI_lt_iff (a := aN A 4) (b := x) (by omega) (by omega)
            by_cases q : x ≤ aN A0 4
            · rw [if_neg (show ¬ nI (aN A 4) < o9 (some x) from fun z => by have := hl.mp z; omega), if_pos (by simp [q])]
            · rw [if_pos (show nI (aN A 4) < o9 (some x) from hl.mpr (by omega)), if_neg (by simp [q])]
    have evM : ∀ S, MV A S → HMs A0 S → b_X12_goOn_58 0 (nI i, S) = if hidB A0 A i = true then (f_X12_go 0 (nI i) 22 S).bind fun q10 => some (.inl (nI (i + 1), q10)) else some (.inl (nI (i + 1), S)) := by
      intro S h hX
      have hX' : MX 30 S (aD A) 8 := hX.cg (fun a b _ _ => hS.D a b)
      have e89 : ∀ s0 : Int32, j_X12_goOn_89 0 (nI i) s0 S = if A.2 31 (8 * i + 7) = 1 ∧ ¬ s0 = -9 ∧ ¬ nI (aN A 4) < s0 then (f_X12_go 0 (nI i) 22 S).bind fun q10 => some (.inl (nI (i + 1), q10)) else some (.inl (nI (i + 1), S)) := by
        intro s0
        unfold j_X12_goOn_89
        rw [show (7 : Int32) = nI 7 from rfl, ix8, h.f 4 rfl, hA.c4.1, nI_1]
        refine (o_b (h.ref 6 rfl)).trans ?_
        refine (o_b (h.ld 320 rfl rfl (by omega) (by decide))).trans ?_
        by_cases q1 : A.2 31 (8 * i + 7) = 1
        · rw [if_neg (fun z => z q1)]
          by_cases q2 : s0 = -9
          · rw [if_pos q2, if_neg (fun z => z.2.1 q2)]
          · rw [if_neg q2]
            by_cases q3 : nI (aN A 4) < s0
            · rw [if_pos q3, if_neg (fun z => z.2.2 q3)]
            · rw [if_neg q3, if_pos ⟨q1, q2, q3⟩]
        · rw [if_pos q1, if_neg (fun z => q1 z.1)]
      unfold b_X12_goOn_58
      dsimp only
      rw [h.nMen hA, if_neg (by rw [nI_leI (by omega) (by omega)]; omega)]
      refine (o_b (placeOf_eq hA h hi')).trans ?_
      refine (o_b (isStreetM _ _)).trans ?_
      unfold hidB
      cases hs : stB (aP A i) with
      | false =>
        rw [if_neg (show ¬ false = true by decide), if_pos rfl, e89, if_neg (fun z => z.2.1 rfl), if_neg (by simp)]
      | true =>
        obtain ⟨f, hf, ef⟩ := place_st hA (hA.aP hi') hs
        rw [if_pos rfl, if_neg (by decide), ef, nI_clamp (by have := hA.c1.2; omega)]
        refine (o_b (heardAt_eq hA h hX' hf)).trans ?_
        rw [e89, hS.hw]
        cases hv : hV A0 f with
        | none => rw [if_neg (fun z => z.2.1 rfl), if_neg (by simp)]
        | some x =>
          have hx := hV_bd hA0 hv
          have hl := nI_lt_iff (a := aN A 4) (b := x) (by omega) (by omega)
          by_cases q1 : A.2 31 (8 * i + 7) = 1
          · by_cases q : x ≤ aN A0 4
            · rw [if_pos ⟨q1, nI_n9 (by omega), fun z => by have := hl.mp z; omega⟩, if_pos (by simp [q, q1])]
            · rw [if_neg (fun z => z.2.2 (hl.mpr (by omega))), if_neg (by simp [q])]
          · rw [if_neg (fun z => q1 z.1), if_neg (by simp [q1])]
    by_cases hq : hidB A0 A i = true
    · refine ⟨A_go A i 22, ⟨go_AIn hA hi' h22, hS.tr SX.go, h4⟩, fun S h hX => ?_, fun S h hX => ?_⟩
      · obtain ⟨S1, e1, g1⟩ := goTo_eq (p := 22) hA h hi'
        refine ⟨S1, ?_, g1.rc hA h hi' (by decide), hX.k (g1.k (by decide) (by decide) (by decide)), g1.fr⟩
        show b_X11_hideTheShy_2 0 (nI i, S) = _
        rw [evX S h hX, if_pos hq]
        exact (o_b e1).trans rfl
      · refine ⟨zsI S 33 0 (40 * aN A 4 + i) 22, ?_, h.R 33 _ 22 (by decide), hX.k (eqK_sI (by decide)), frC_R (by decide) (by decide)⟩
        show b_X12_goOn_58 0 (nI i, S) = _
        rw [evM S h hX, if_pos hq]
        exact (o_b (go_eq hA h hi' 22)).trans rfl
    · refine ⟨A, ⟨hA, hS, h4⟩, fun S h hX => ⟨S, ?_, h, hX, frM.rf⟩, fun S h hX => ⟨S, ?_, h, hX, frC.rf⟩⟩
      · show b_X11_hideTheShy_2 0 (nI i, S) = _
        rw [evX S h hX, if_neg hq]
      · show b_X12_goOn_58 0 (nI i, S) = _
        rw [evM S h hX, if_neg hq]
  · obtain ⟨hA, hS, h4⟩ := hP
    have hn5 : aN A 5 = aN A0 5 := hS.n (by decide)
    refine ⟨fun S h _ => ?_, fun S h _ => ?_⟩
    · unfold b_X11_hideTheShy_2
      dsimp only
      rw [h.nMen hA, hn5, if_pos (nI_le (Nat.le_refl _) (by omega))]
    · unfold b_X12_goOn_58
      dsimp only
      rw [h.nMen hA, hn5, if_pos (nI_le (Nat.le_refl _) (by omega))]
