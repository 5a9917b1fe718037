/-! ===== may, mayTruly ===== -/
theorem WF_of {A : ZA} {a : Nat} (hn : aSn A a ≤ 60) (h : fV A a = -9) : WF (aSg A a) (aSn A a) := by
  unfold fV at h
  unfold WF
  cases hq : prs (aSg A a) (aSn A a) with
  | inl f =>
    rw [hq] at h
    exact absurd h (nI_n9 (by have := prs_lt hq; omega))
  | inr q =>
    rw [hq] at h
    obtain ⟨t, d⟩ := q
    by_cases e : t = 0 ∧ d = 0
    · rw [e.1, e.2]
    · have h' : (if t = 0 ∧ d = 0 then (-9 : Int32) else nI (aSn A a)) = -9 := h
      rw [if_neg e] at h'
      exact absurd h' (nI_n9 (by omega))
def mB (A : ZA) (m : Nat) (cov : Int32) : Int32 := match frc A (A.1 4) (aN A 17) with
  | none => 0
  | some a => if ST A a m cov (aSn A a) (aSn A a) 0 = true then 1 else 0
theorem mB_b {A : ZA} {m : Nat} {cov : Int32} : b01 (mB A m cov) := by
  unfold mB b01
  split
  · exact Or.inl rfl
  · split
    · exact Or.inr rfl
    · exact Or.inl rfl
theorem mayBe_eq {A : ZA} {S : ZH} (hA : AIn A) (h : MV A S) {m : Nat} {cov : Int32} (hm : m < aN A 5) (hc : b01 cov) : ∃ S1, f_X12_mayBe 0 (nI m) cov S = some (mB A m cov, S1) ∧ FR 43 S S1 := by
  have c17 := hA.c17.2
  unfold f_X12_mayBe mB
  rw [h.f 4 rfl, forceOf_eq hA h]
  cases hq : frc A (A.1 4) (aN A 17) with
  | none => exact ⟨S, rfl, FR.rf⟩
  | some a =>
    obtain ⟨ha, hf⟩ := frc_lt hq
    have hsg := hA.sg (show a < 8 by omega)
    have W := WF_of hsg.2 hf
    have h0 : SK S (tc (aSg A a) (aSn A a)) (ST A a m cov (aSn A a) (aSn A a - aSn A a)) := fun j hj => by rw [W.end.1] at hj; omega
    obtain ⟨S1, e1, e2, e3⟩ := mayBe_loop hA ha hm hc W (aSn A a) zFU 0 S (by show _ < 1000000; omega) (Nat.le_refl _) h h0 (fun z => by rw [W.end.2] at z; omega) (fun z => by rw [W.end.2] at z; omega)
    have h1 := h.FR (by omega) e2
    refine ⟨S1, ?_, e2⟩
    rw [W.end.1] at e1
    refine (o_b (a := nI a) rfl).trans ?_
    rw [if_pos (nI_n9 (by omega))]
    refine (o_b (h.ref 19 rfl)).trans ?_
    refine (o_b (h.ld 8 rfl rfl (by omega) (by decide))).trans ?_
    rw [hsg.1]
    refine (o_b e1).trans ?_
    refine (o_b (h1.ref 21 rfl)).trans ?_
    have e4 : zld S1 43 0 0 = some (if ST A a m cov (aSn A a) (aSn A a) 0 = true then 1 else 0) := by
      have := zld_at (S := S1) (k := 43) (a := 0) (n := 0) (m := 64) (h1.len 43 64 rfl) (by decide) (by decide)
      rw [e3 0 (show 0 < 1 by omega)] at this
      exact this
    refine (o_b e4).trans ?_
    rw [zbT, if_pos rfl]
theorem findAct_frc {A : ZA} {S : ZH} (hA : AIn A) (h : RC A S) : f_X11_findAct 0 (oN (frc A (A.1 4) (aN A 17))) S = some (frc A (A.1 4) (aN A 17)) := by
  have c17 := hA.c17.2
  cases hq : frc A (A.1 4) (aN A 17) with
  | none =>
    refine findAct_no hA h ?_
    rintro ⟨i, hi, e⟩
    exact nI_n9 (by omega) e.symm
  | some a => exact findAct_ix hA h (frc_lt hq).1
theorem holds_frc {A : ZA} {S : ZH} (hA : AIn A) (h : RC A S) {m a : Nat} {cov : Int32} (hm : m < aN A 5) (hc : b01 cov) (hq : frc A (A.1 4) (aN A 17) = some a) : f_X0_holds a (some m) cov S = some (mB A m cov) := by
  have c17 := hA.c17.2
  obtain ⟨ha, hf⟩ := frc_lt hq
  have hsg := hA.sg (show a < 8 by omega)
  rw [holds_eq hA h ha hm hc (WF_of hsg.2 hf)]
  unfold mB
  rw [hq]
/-- covered in truth, by the first papers -/
def cvT (A : ZA) (m : Nat) : Nat → Bool
  | 0 => false
  | p + 1 => cvT A m p || (decide (pf A p 0 = nI m) && !decide (aCov A p m (A.1 4) ≤ 0))
def pC (b : Bool) : Int32 := if b = true then 1 else 0
theorem pC_b (b : Bool) : b01 (pC b) := by cases b <;> first | exact Or.inl rfl | exact Or.inr rfl
theorem pC_z (b : Bool) : pC b = 0 ↔ b = false := by cases b <;> decide
theorem cvT_mono {A : ZA} {m p : Nat} (h : cvT A m p = true) : ∀ d, cvT A m (p + d) = true
  | 0 => h
  | d + 1 => by
    show (cvT A m (p + d) || _) = true
    rw [cvT_mono h d]
    rfl
theorem isCov_loop {A : ZA} {S : ZH} (hA : AIn A) (h : RC A S) {m : Nat} (hm : m < aN A 5) : ∀ (d j fuel : Nat), j + d = aN A 15 → d < fuel → cvT A m j = false → z_iter fuel (b_X11_isCoveredInTruth_2 0 (some m) (nI m) S) (nI j) = some (if cvT A m (aN A 15) = true then .inr 1 else .inl ()) := by
  have c15 := hA.c15.2
  have e4 : zI S 11 0 4 = nI (aN A 15) := h.paps.1.trans hA.c15.1
  intro d
  induction d with
  | zero =>
    intro j fuel hj hf hc
    have e : j = aN A 15 := by omega
    subst e
    cases fuel with
    | zero => omega
    | succ f =>
      show (b_X11_isCoveredInTruth_2 0 (some m) (nI m) S (nI (aN A 15))).bind _ = _
      unfold b_X11_isCoveredInTruth_2
      rw [e4, if_pos (nI_le (Nat.le_refl _) (by omega)), hc]
      rfl
  | succ d ih =>
    intro j fuel hj hf hc
    cases fuel with
    | zero => omega
    | succ f =>
      have hjp : j < aN A 15 := by omega
      obtain ⟨r23, p0, -⟩ := h.paps.2.2.2 j hjp
      have ez : zldR S 23 0 (nI j) = some (some j) := by rw [zldR_at (h.len 23 60 rfl) (by omega) (by decide), r23]
      have hb : b_X11_isCoveredInTruth_2 0 (some m) (nI m) S (nI j) = if cvT A m (j + 1) = true then some (.inr (.inr 1)) else some (.inl (nI (j + 1))) := by
        unfold b_X11_isCoveredInTruth_2
        rw [e4, if_neg (by rw [nI_leI (by omega) (by omega)]; omega), nI_1, h.misc.1]
        refine (o_b (h.ref 11 3 rfl)).trans ?_
        refine (o_b ez).trans ?_
        refine (o_b (a := j) rfl).trans ?_
        rw [p0]
        show _ = if (cvT A m j || (decide (pf A j 0 = nI m) && !decide (aCov A j m (A.1 4) ≤ 0))) = true then _ else _
        rw [hc]
        have e0 : A.2 39 (9 * j) = pf A j 0 := rfl
        rw [e0]
        by_cases q1 : pf A j 0 = nI m
        · rw [if_neg (fun z => z q1)]
          refine (o_b (h.ref 11 3 rfl)).trans ?_
          refine (o_b ez).trans ?_
          refine (o_b (a := j) rfl).trans ?_
          refine (o_b (coverage_eq h hjp hm (A.1 4))).trans ?_
          by_cases q2 : aCov A j m (A.1 4) ≤ 0
          · rw [if_pos q2]; simp [q1, q2]
          · rw [if_neg q2]; simp [q1, q2]
        · rw [if_pos q1]; simp [q1]
      show (b_X11_isCoveredInTruth_2 0 (some m) (nI m) S (nI j)).bind _ = _
      rw [hb]
      by_cases q : cvT A m (j + 1) = true
      · rw [if_pos q]
        have := cvT_mono q d
        rw [show j + 1 + d = aN A 15 by omega] at this
        rw [if_pos this]
        rfl
      · rw [if_neg q]
        exact ih (j + 1) f (by omega) (by omega) (by simpa using q)
theorem isCov_eq {A : ZA} {S : ZH} (hA : AIn A) (h : RC A S) {m : Nat} (hm : m < aN A 5) : f_X11_isCoveredInTruth 0 (some m) (nI m) S = some (pC (cvT A m (aN A 15))) := by
  have c15 := hA.c15.2
  unfold f_X11_isCoveredInTruth
  refine (o_b (isCov_loop hA h hm (aN A 15) 0 zFU (by omega) (by show _ < 1000000; omega) rfl)).trans ?_
  unfold pC
  cases cvT A m (aN A 15) <;> rfl
theorem holdsTruth_eq {A : ZA} {S : ZH} (hA : AIn A) (h : RC A S) {m : Nat} (hm : m < aN A 5) : f_X11_holdsInTruth 0 (frc A (A.1 4) (aN A 17)) (nI m) S = some (mB A m (pC (cvT A m (aN A 15)))) := by
  unfold f_X11_holdsInTruth
  refine (o_b (findMan_ix hA h hm)).trans ?_
  cases hq : frc A (A.1 4) (aN A 17) with
  | none =>
    rw [if_pos rfl]
    unfold mB
    rw [hq]
  | some a =>
    rw [if_neg (by simp), if_neg (by simp)]
    refine (o_b (isCov_eq hA h hm)).trans ?_
    refine (o_b (a := a) rfl).trans ?_
    refine (o_b (holds_frc hA h hm (pC_b _) hq)).trans ?_
    rcases mB_b (A := A) (m := m) (cov := pC (cvT A m (aN A 15))) with e | e <;> rw [e] <;> rfl
theorem mayTruth_eq {A : ZA} {S : ZH} (hA : AIn A) (h : RC A S) {m : Nat} (hm : m < aN A 5) : f_X11_mayInTruth 0 (nI m) S = some (mB A m (pC (cvT A m (aN A 15)))) := by
  unfold f_X11_mayInTruth
  rw [h.misc.1]
  refine (o_b (actInForce_eq hA h _)).trans ?_
  refine (o_b (findAct_frc hA h)).trans ?_
  refine (o_b (holdsTruth_eq hA h hm)).trans ?_
  rw [if_pos (zb1 mB_b)]
theorem truly_eq {A : ZA} {S : ZH} (hA : AIn A) (h : MV A S) {m : Nat} (hm : m < aN A 5) : ∃ S1, f_X12_truly 0 (nI m) S = some (mB A m (pC (cvT A m (aN A 15))), S1) ∧ FR 43 S S1 := by
  have c15 := hA.c15.2
  have e4 : zI S 12 0 15 = nI (aN A 15) := (h.f 15 rfl).trans hA.c15.1
  obtain ⟨S1, e1, e2⟩ := mayBe_eq hA h hm (pC_b (cvT A m (aN A 15)))
  refine ⟨S1, ?_, e2⟩
  unfold f_X12_truly
  have el : z_iter zFU (b_X12_truly_4 0 (nI m) S) ((0 : Int32), (0 : Int32)) = some (pC (cvT A m (aN A 15))) := by
    refine z_for0 (fun j => (pC (cvT A m j), nI j)) (aN A 15) rfl (by omega) (fun j hj => ?_) ?_
    · unfold b_X12_truly_4
      dsimp only
      rw [e4, if_neg (by rw [nI_leI (by omega) (by omega)]; omega), nI_1]
      show _ = some (Sum.inl (pC (cvT A m j || (decide (pf A j 0 = nI m) && !decide (aCov A j m (A.1 4) ≤ 0))), nI (j + 1)))
      cases hc : cvT A m j with
      | true => rw [if_pos (show ¬ pC true = 0 by decide)]; rfl
      | false =>
        rw [if_neg (show ¬ ¬ pC false = 0 by decide), ix9', h.f 4 rfl]
        refine (o_b (h.ref 16 rfl)).trans ?_
        refine (o_b (h.ld 540 rfl rfl (by omega) (by decide))).trans ?_
        have e0 : A.2 39 (9 * j) = pf A j 0 := rfl
        rw [e0]
        by_cases q1 : pf A j 0 = nI m
        · rw [if_neg (fun z => z q1)]
          refine (o_b (covers_eq hA h hj hm (A.1 4))).trans ?_
          by_cases q2 : aCov A j m (A.1 4) ≤ 0
          · rw [if_pos q2]; simp [q1, q2, pC]
          · rw [if_neg q2]; simp [q1, q2, pC]
        · rw [if_pos q1]; simp [q1, pC]
    · unfold b_X12_truly_4
      dsimp only
      rw [e4, if_pos (nI_le (Nat.le_refl _) (by omega))]
  refine (o_b el).trans ?_
  refine (o_b e1).trans ?_
  rw [if_pos (zb1 mB_b)]
def shC (A : ZA) (m : Nat) (x : Int32) : Int32 := if x = -9 then 0 else if aCov A x.toNatClampNeg m (A.1 4) ≤ 0 then 0 else 1
theorem shC_b {A : ZA} {m : Nat} {x : Int32} : b01 (shC A m x) := by
  unfold shC b01
  split
  · exact Or.inl rfl
  · split
    · exact Or.inl rfl
    · exact Or.inr rfl
theorem n9_ix {n : Nat} (hn : n < 1000) : ¬ isIx n (-9) := by
  rintro ⟨i, hi, e⟩
  exact nI_n9 (by omega) e.symm
theorem mayShown_eq {A : ZA} {S : ZH} (hA : AIn A) (h : RC A S) {m : Nat} (hm : m < aN A 5) {x : Int32} (hx : x = -9 ∨ isIx (aN A 15) x) : f_X11_mayAsShown 0 (some m) x S = some (mB A m (shC A m x)) := by
  have c15 := hA.c15.2
  unfold f_X11_mayAsShown
  rw [h.misc.1]
  refine (o_b (actInForce_eq hA h _)).trans ?_
  refine (o_b (findAct_frc hA h)).trans ?_
  cases hq : frc A (A.1 4) (aN A 17) with
  | none =>
    rw [if_pos rfl]
    unfold mB
    rw [hq]
  | some a =>
    rw [if_neg (by simp)]
    have fin : ∀ cov : Int32, b01 cov → ((some a).bind fun a4 => (f_X0_holds a4 (some m) cov S).bind fun q5 => if z_b q5 = q5 then some q5 else none) = some (mB A m cov) := by
      intro cov hc
      refine (o_b (a := a) rfl).trans ?_
      refine (o_b (holds_frc hA h hm hc hq)).trans ?_
      rw [if_pos (zb1 mB_b)]
    unfold shC
    by_cases h9 : x = -9
    · subst h9
      refine (o_b (findPaper_no hA h (n9_ix (by omega)))).trans ?_
      rw [if_pos rfl, fin 0 (Or.inl rfl), if_pos rfl]
    · obtain ⟨p, hp, rfl⟩ : isIx (aN A 15) x := by rcases hx with e | e; exact absurd e h9; exact e
      refine (o_b (findPaper_ix hA h hp)).trans ?_
      rw [if_neg (by simp), if_neg h9, nI_clamp (by omega)]
      refine (o_b (a := p) rfl).trans ?_
      refine (o_b (coverage_eq h hp hm (A.1 4))).trans ?_
      by_cases q2 : aCov A p m (A.1 4) ≤ 0
      · rw [if_pos q2, if_pos q2, fin 0 (Or.inl rfl)]
      · rw [if_neg q2, if_neg q2, fin 1 (Or.inr rfl)]
theorem asShown_eq {A : ZA} {S : ZH} (hA : AIn A) (h : MV A S) {m : Nat} (hm : m < aN A 5) {x : Int32} (hx : x = -9 ∨ isIx (aN A 15) x) : ∃ S1, f_X12_asShown 0 (nI m) x S = some (mB A m (shC A m x), S1) ∧ FR 43 S S1 := by
  have c15 := hA.c15.2
  obtain ⟨S1, e1, e2⟩ := mayBe_eq hA h hm (shC_b (A := A) (m := m) (x := x))
  refine ⟨S1, ?_, e2⟩
  unfold f_X12_asShown
  by_cases h9 : x = -9
  · have e3 : shC A m x = 0 := by unfold shC; rw [if_pos h9]
    rw [if_pos h9]
    rw [e3] at e1 ⊢
    refine (o_b e1).trans ?_
    rw [if_pos (zb1 mB_b)]
  · obtain ⟨p, hp, rfl⟩ : isIx (aN A 15) x := by rcases hx with e | e; exact absurd e h9; exact e
    rw [if_neg h9, h.f 4 rfl]
    refine (o_b (covers_eq hA h hp hm (A.1 4))).trans ?_
    have e3 : shC A m (nI p) = if aCov A p m (A.1 4) ≤ 0 then 0 else 1 := by unfold shC; rw [if_neg h9, nI_clamp (by omega)]
    by_cases q2 : aCov A p m (A.1 4) ≤ 0
    · rw [if_pos q2] at e3 ⊢
      rw [e3] at e1 ⊢
      refine (o_b e1).trans ?_
      rw [if_pos (zb1 mB_b)]
    · rw [if_neg q2] at e3 ⊢
      rw [e3] at e1 ⊢
      refine (o_b e1).trans ?_
      rw [if_pos (zb1 mB_b)]
theorem papOrNone_eq {A : ZA} {S : ZH} (hA : AIn A) (h : RC A S) (x : Int32) : ((x = -9 ∨ isIx (aN A 15) x) → f_X11_isPaperOrNone 0 x S = some 1) ∧ (¬ (x = -9 ∨ isIx (aN A 15) x) → f_X11_isPaperOrNone 0 x S = some 0) := by
  unfold f_X11_isPaperOrNone
  refine ⟨fun hx => ?_, fun hx => ?_⟩
  · by_cases h9 : x = -9
    · rw [if_pos h9]
    · obtain ⟨p, hp, rfl⟩ : isIx (aN A 15) x := by rcases hx with e | e; exact absurd e h9; exact e
      rw [if_neg h9]
      refine (o_b (findPaper_ix hA h hp)).trans ?_
      rw [if_neg (by simp)]
  · rw [if_neg (fun e => hx (Or.inl e))]
    refine (o_b (findPaper_no hA h (fun e => hx (Or.inr e)))).trans ?_
    rw [if_pos rfl]
theorem op_may {A : ZA} (hA : AIn A) (x y : Int32) : OpP A (f_X11_may 0 x y) (f_X12_may 0 x y) := by
  by_cases hx : isIx (aN A 5) x
  · obtain ⟨m, hm, rfl⟩ := hx
    by_cases hy : y = -9 ∨ isIx (aN A 15) y
    · refine ⟨mB A m (shC A m y), fun S h => ?_, fun S h => ?_⟩
      · unfold f_X11_may
        refine (o_b (findMan_ix hA h hm)).trans ?_
        rw [if_neg (by simp)]
        refine (o_b ((papOrNone_eq hA h y).1 hy)).trans ?_
        rw [if_pos (by decide)]
        refine (o_b (mayShown_eq hA h hm hy)).trans ?_
        refine (o_b (asNumber_b mB_b)).trans ?_
        rfl
      · obtain ⟨S1, e1, e2⟩ := asShown_eq hA h.t hm hy
        refine ⟨S1, ?_, h.t.FR (by omega) e2, frC_t.tr (e2.frC (Or.inr ⟨by decide, by decide⟩))⟩
        have e29 : j_X12_may_29 0 (nI m) y (tS S) = some (mB A m (shC A m y), S1) := by
          unfold j_X12_may_29
          refine (o_b e1).trans ?_
          dsimp only
          rcases mB_b (A := A) (m := m) (cov := shC A m y) with e | e <;> rw [e] <;> rfl
        unfold f_X12_may
        refine (o_b (noMan_ix hA h.t hm)).trans ?_
        rw [if_neg (by decide)]
        by_cases h9 : y = -9
        · rw [if_pos h9]; exact e29
        · obtain ⟨p, hp, rfl⟩ : isIx (aN A 15) y := by rcases hy with e | e; exact absurd e h9; exact e
          rw [if_neg h9]
          refine (o_b (noPaper_ix hA h.t hp)).trans ?_
          rw [if_pos rfl]; exact e29
    · refine .ro (-1) (fun S h => ?_) (fun S h => ?_)
      · unfold f_X11_may
        refine (o_b (findMan_ix hA h hm)).trans ?_
        rw [if_neg (by simp)]
        refine (o_b ((papOrNone_eq hA h y).2 hy)).trans ?_
        rfl
      · unfold f_X12_may
        refine (o_b (noMan_ix hA h.t hm)).trans ?_
        rw [if_neg (by decide), if_neg (fun e => hy (Or.inl e))]
        refine (o_b (noPaper_no hA h.t (fun e => hy (Or.inr e)))).trans ?_
        rfl
  · refine .ro (-1) (fun S h => ?_) (fun S h => ?_)
    · unfold f_X11_may; rw [findMan_no hA h hx]; rfl
    · unfold f_X12_may; rw [noMan_no hA h.t hx]; rfl
theorem op_mayTruly {A : ZA} (hA : AIn A) (x : Int32) : OpP A (f_X11_mayTruly 0 x) (f_X12_mayTruly 0 x) := by
  by_cases hx : isIx (aN A 5) x
  · obtain ⟨m, hm, rfl⟩ := hx
    refine ⟨mB A m (pC (cvT A m (aN A 15))), fun S h => ?_, fun S h => ?_⟩
    · unfold f_X11_mayTruly
      refine (o_b (findMan_ix hA h hm)).trans ?_
      rw [if_neg (by simp)]
      refine (o_b (mayTruth_eq hA h hm)).trans ?_
      refine (o_b (asNumber_b mB_b)).trans ?_
      rfl
    · obtain ⟨S1, e1, e2⟩ := truly_eq hA h.t hm
      refine ⟨S1, ?_, h.t.FR (by omega) e2, frC_t.tr (e2.frC (Or.inr ⟨by decide, by decide⟩))⟩
      unfold f_X12_mayTruly
      refine (o_b (noMan_ix hA h.t hm)).trans ?_
      rw [if_pos rfl]
      refine (o_b e1).trans ?_
      dsimp only
      rcases mB_b (A := A) (m := m) (cov := pC (cvT A m (aN A 15))) with e | e <;> rw [e] <;> rfl
  · refine .ro (-1) (fun S h => ?_) (fun S h => ?_)
    · unfold f_X11_mayTruly; rw [findMan_no hA h hx]; rfl
    · unfold f_X12_mayTruly; rw [noMan_no hA h.t hx]; rfl
