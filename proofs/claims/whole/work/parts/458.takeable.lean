/-! ===== men who may truly be taken, street by street, on both sides ===== -/
theorem thJ_s {A : ZA} (hA : AIn A) {i s : Nat} : thJ A (i + 1) s = thJ A i s + if (decide (aP A i = nI s) && decide (mB A i (pC (cvT A i (aN A 15))) = 1)) = true then 1 else 0 := rfl
theorem thJ_le {A : ZA} (i s : Nat) : thJ A i s ≤ i := cntN_le _ _
theorem st_no {p : Int32} (h : ¬ stB p = true) {s : Nat} (hs : s < 8) : ¬ p = nI s := by
  intro e
  apply h
  unfold stB rg
  rw [e, nI_toInt (by omega)]
  simp
  omega
theorem fill14_eq {A : ZA} {S : ZH} (h : RC A S) : ∃ S1, f_J7_fill_53178_14 (zR S 1 0 1) 0 S = some S1 ∧ FR 14 S S1 ∧ ∀ k, k < 8 → zI S1 14 0 k = nI 0 := by
  have e8 : zL S 14 0 = 8 := h.len 14 8 rfl
  unfold f_J7_fill_53178_14
  rw [h.ref 1 1 rfl, Option.bind_some, e8]
  have key := z_inv0 (b := b_J7_fill_53178_14_5 0 0 (nI 8)) (X := fun T => FR 14 S T ∧ ∀ k, k < 8 → zI T 14 0 k = nI 0) (fun j v => v.1 = nI j ∧ FR 14 S v.2 ∧ ∀ k, k < j → zI v.2 14 0 k = nI 0) 8 (v := ((0 : Int32), S)) (by omega) ⟨rfl, FR.rf, fun k hk => by omega⟩ (fun j v hj hI => ?_) (fun v hI => ?_)
  · obtain ⟨S1, e1, f1, d1⟩ := key
    exact ⟨S1, (o_b e1).trans rfl, f1, d1⟩
  · obtain ⟨v1, T⟩ := v
    obtain ⟨i1, i2, i3⟩ := hI
    replace i1 : v1 = nI j := i1
    replace i2 : FR 14 S T := i2
    subst i1
    refine ⟨(nI (j + 1), zsI T 14 0 j 0), ?_, rfl, i2.tr FR.sI, fun k hk => ?_⟩
    · unfold b_J7_fill_53178_14_5
      dsimp only
      rw [if_neg (by rw [nI_leI (by omega) (by omega)]; omega), zst_b (m := 8) (by rw [i2.all.2.1]; exact e8) hj (by decide), nI_1]
    · show zI (zsI T 14 0 j 0) 14 0 k = _
      rw [zI_sI]
      by_cases e : k = j
      · rw [if_pos ⟨rfl, e⟩]; rfl
      · rw [if_neg (fun z => e z.2)]; exact i3 k (by omega)
  · obtain ⟨v1, T⟩ := v
    obtain ⟨i1, i2, i3⟩ := hI
    replace i1 : v1 = nI 8 := i1
    refine ⟨T, ?_, i2, i3⟩
    unfold b_J7_fill_53178_14_5
    dsimp only
    rw [i1, if_pos (nI_le (Nat.le_refl _) (by omega))]
theorem takeable_eq {A : ZA} {S : ZH} (hA : AIn A) (hR : RC A S) : ∃ S1, f_X11_countTheTakeable 0 S = some S1 ∧ CS A S S1 := by
  have c5 := hA.c5.2
  have hn := hA.c1.2
  obtain ⟨S0, e0, f0, d0⟩ := fill14_eq hR
  obtain ⟨r0, m0⟩ := kG_RC (Or.inl rfl) hR f0
  have key := z_inv0 (b := b_X11_countTheTakeable_22 0 (frc A (A.1 4) (aN A 17))) (X := fun T => FR 14 S T ∧ T14 A T) (fun j v => v.1 = nI j ∧ FR 14 S v.2 ∧ ∀ s, s < 8 → zI v.2 14 0 s = nI (thJ A j s)) (aN A 5) (v := ((0 : Int32), S0)) (by omega) ⟨rfl, f0, fun s hs => d0 s hs⟩ (fun j v hj hI => ?_) (fun v hI => ?_)
  · obtain ⟨S1, e1, f1, d1⟩ := key
    obtain ⟨r1, m1⟩ := kG_RC (Or.inl rfl) hR f1
    refine ⟨S1, ?_, r1, m1, d1⟩
    unfold f_X11_countTheTakeable f_X1_forgetMen
    refine (o_b (hR.ref 11 14 rfl)).trans ?_
    refine (o_b (a := S0) ((o_b e0).trans rfl)).trans ?_
    rw [r0.misc.1]
    refine (o_b (actInForce_eq hA r0 _)).trans ?_
    refine (o_b (findAct_frc hA r0)).trans ?_
    exact (o_b e1).trans rfl
  · obtain ⟨v1, T⟩ := v
    obtain ⟨i1, i2, i3⟩ := hI
    replace i1 : v1 = nI j := i1
    replace i2 : FR 14 S T := i2
    subst i1
    obtain ⟨rT, mT⟩ := kG_RC (Or.inl rfl) hR i2
    have hs := fun s => thJ_s hA (i := j) (s := s)
    have hj40 := fun s => thJ_le (A := A) j s
    unfold b_X11_countTheTakeable_22
    dsimp only
    rw [rT.nMen hA, if_neg (by rw [nI_leI (by omega) (by omega)]; omega)]
    have head : ∀ {β : Type} (g : Nat → Option β), (((zR T 11 0 1)).bind fun a5 => (zldR T 22 a5 (nI j)).bind fun v6 => (v6).bind g) = g j := by
      intro β g
      refine (o_b (rT.ref 11 1 rfl)).trans ?_
      refine (o_b (rT.manAt hA hj)).trans ?_
      rfl
    by_cases q : stB (aP A j) = true
    · obtain ⟨s0, hs0, es⟩ := place_st hA (hA.aP hj) q
      rcases mB_b (A := A) (m := j) (cov := pC (cvT A j (aN A 15))) with z | z
      · refine ⟨(nI (j + 1), T), ?_, rfl, i2, fun s h8 => ?_⟩
        · rw [head, rT.pl hj]
          refine (o_b (isStreetC _ _)).trans ?_
          rw [if_pos q, if_neg (by decide)]
          refine (o_b (holdsTruth_eq hA rT hj)).trans ?_
          rw [z, if_pos rfl, nI_1]
        · rw [hs, z, if_neg (by simp)]; exact i3 s h8
      · refine ⟨(nI (j + 1), zsI T 14 0 s0 (nI (thJ A j s0 + 1))), ?_, rfl, i2.tr FR.sI, fun s h8 => ?_⟩
        · rw [head, rT.pl hj]
          refine (o_b (isStreetC _ _)).trans ?_
          rw [if_pos q, if_neg (by decide)]
          refine (o_b (holdsTruth_eq hA rT hj)).trans ?_
          rw [z, if_neg (by decide), head, rT.pl hj]
          refine (o_b (rT.ref 11 14 rfl)).trans ?_
          have ea : f_X1_addMan 0 (aP A j) T = some (zsI T 14 0 s0 (nI (thJ A j s0 + 1))) := by
            unfold f_X1_addMan
            rw [es]
            refine (o_b (rT.ref 1 0 rfl)).trans ?_
            refine (o_b (has_ix hA rT hs0)).trans ?_
            rw [if_neg (by decide)]
            refine (o_b (rT.ref 1 1 rfl)).trans ?_
            refine (o_b (zld_at (rT.len 14 8 rfl) (by omega) (by decide))).trans ?_
            refine (o_b (rT.ref 1 1 rfl)).trans ?_
            rw [zst_b (by exact rT.len 14 8 rfl) (by omega) (by decide), i3 s0 (by omega), nI_1]
          refine (o_b ea).trans ?_
          rw [nI_1]
        · show zI (zsI T 14 0 s0 (nI (thJ A j s0 + 1))) 14 0 s = _
          rw [hs, zI_sI, z, es]
          by_cases e : s = s0
          · rw [if_pos ⟨rfl, e⟩, if_pos (by simp [e]), e]
          · rw [if_neg (fun y => e y.2), if_neg (by
              have : ¬ nI s0 = nI s := fun y => e (nI_inj (by omega) (by omega) y).symm
              simp [this])]
            exact i3 s h8
    · refine ⟨(nI (j + 1), T), ?_, rfl, i2, fun s h8 => ?_⟩
      · rw [head, rT.pl hj]
        refine (o_b (isStreetC _ _)).trans ?_
        rw [if_neg q, if_pos rfl, nI_1]
      · rw [hs, if_neg (by simp [st_no q h8])]; exact i3 s h8
  · obtain ⟨v1, T⟩ := v
    obtain ⟨i1, i2, i3⟩ := hI
    replace i1 : v1 = nI (aN A 5) := i1
    replace i2 : FR 14 S T := i2
    refine ⟨T, ?_, i2, i3⟩
    unfold b_X11_countTheTakeable_22
    dsimp only
    rw [(kG_RC (Or.inl rfl) hR i2).1.nMen hA, i1, if_pos (nI_le (Nat.le_refl _) (by omega))]
/-! the reference: far between streets, men there -/
def LK (A : ZA) (S : ZH) : Prop := MV A S ∧ MX 30 S (aD A) 8 ∧ ∀ s, s < 8 → zI S 45 0 s = nI (thA A s)
theorem there_eq {A : ZA} {S : ZH} (hA : AIn A) (h : MV A S) (x1 x2 : Int32) : ∃ S0 S1 S2, f_X12_measure 0 S = some S0 ∧ z_iter zFU (b_X12_look_6 0 x1 x2) ((0 : Int32), S0) = some S1 ∧ z_iter zFU (b_X12_look_27 0 x1 x2) ((0 : Int32), S1) = some S2 ∧ LK A S2 ∧ frC S S2 := by
  have c5 := hA.c5.2
  have hn := hA.c1.2
  obtain ⟨S0, e0, f0, d0⟩ := measure_M hA h
  have h0 := h.FR (Or.inl rfl) f0
  have key1 := z_inv0 (b := b_X12_look_6 0 x1 x2) (X := fun T => FR 45 S0 T ∧ ∀ k, k < 8 → zI T 45 0 k = nI 0) (fun j v => v.1 = nI j ∧ FR 45 S0 v.2 ∧ ∀ k, k < j → zI v.2 45 0 k = nI 0) 8 (v := ((0 : Int32), S0)) (by omega) ⟨rfl, FR.rf, fun k hk => by omega⟩ (fun j v hj hI => ?_) (fun v hI => ?_)
  · obtain ⟨S1, e1, f1, d1⟩ := key1
    have h1 := h0.FR (Or.inr (Or.inr (Or.inl rfl))) f1
    have x1' : MX 30 S1 (aD A) 8 := fun a b ha hb => by rw [(f1.1 30 (by omega)).2.2.1]; exact d0 a b ha hb
    have key2 := z_inv0 (b := b_X12_look_27 0 x1 x2) (X := fun T => LK A T ∧ frC S1 T) (fun j v => v.1 = nI j ∧ MV A v.2 ∧ MX 30 v.2 (aD A) 8 ∧ frC S1 v.2 ∧ ∀ s, s < 8 → zI v.2 45 0 s = nI (thJ A j s)) (aN A 5) (v := ((0 : Int32), S1)) (by omega) ⟨rfl, h1, x1', frC.rf, fun s hs => d1 s hs⟩ (fun j v hj hI => ?_) (fun v hI => ?_)
    · obtain ⟨S2, e2, l2, m2⟩ := key2
      exact ⟨S0, S1, S2, e0, e1, e2, l2, ((f0.frC (Or.inr (by omega))).tr (f1.frC (Or.inr (by omega)))).tr m2⟩
    · obtain ⟨v1, T⟩ := v
      obtain ⟨i1, i2, i3, i4, i5⟩ := hI
      replace i1 : v1 = nI j := i1
      replace i2 : MV A T := i2
      replace i3 : MX 30 T (aD A) 8 := i3
      replace i4 : frC S1 T := i4
      subst i1
      have hs := fun s => thJ_s hA (i := j) (s := s)
      have hj40 := fun s => thJ_le (A := A) j s
      unfold b_X12_look_27
      dsimp only
      rw [i2.nMen hA, if_neg (by rw [nI_leI (by omega) (by omega)]; omega)]
      by_cases q : stB (aP A j) = true
      · obtain ⟨s0, hs0, es⟩ := place_st hA (hA.aP hj) q
        obtain ⟨T1, e1, f1⟩ := truly_eq hA i2 hj
        have hT1 := i2.FR (Or.inr (Or.inl rfl)) f1
        have x1 : MX 30 T1 (aD A) 8 := fun a b ha hb => by rw [(f1.1 30 (by omega)).2.2.1]; exact i3 a b ha hb
        have d45 : ∀ s, s < 8 → zI T1 45 0 s = nI (thJ A j s) := fun s h8 => by rw [(f1.1 45 (by omega)).2.2.1]; exact i5 s h8
        have m1 := i4.tr (f1.frC (Or.inr (by omega)))
        rcases mB_b (A := A) (m := j) (cov := pC (cvT A j (aN A 15))) with z | z
        · refine ⟨(nI (j + 1), T1), ?_, rfl, hT1, x1, m1, fun s h8 => ?_⟩
          · refine (o_b (placeOf_eq hA i2 hj)).trans ?_
            refine (o_b (isStreetM _ _)).trans ?_
            rw [if_pos q, if_neg (by decide)]
            refine (o_b e1).trans ?_
            dsimp only
            rw [z, if_pos rfl, nI_1]
          · rw [hs, z, if_neg (by simp)]; exact d45 s h8
        · refine ⟨(nI (j + 1), zsI T1 45 0 s0 (nI (thJ A j s0 + 1))), ?_, rfl, hT1.FR (k0 := 45) (Or.inr (Or.inr (Or.inl rfl))) FR.sI, ?_, m1.tr (FR.sI.frC (Or.inr (by omega))), fun s h8 => ?_⟩
          · refine (o_b (placeOf_eq hA i2 hj)).trans ?_
            refine (o_b (isStreetM _ _)).trans ?_
            rw [if_pos q, if_neg (by decide)]
            refine (o_b e1).trans ?_
            dsimp only
            rw [z, if_neg (by decide)]
            refine (o_b (placeOf_eq hA hT1 hj)).trans ?_
            rw [es]
            refine (o_b (hT1.ref 27 rfl)).trans ?_
            refine (o_b (zld_at (hT1.len 45 8 rfl) (by omega) (by decide))).trans ?_
            refine (o_b (hT1.ref 27 rfl)).trans ?_
            rw [zst_b (by exact hT1.len 45 8 rfl) (by omega) (by decide), d45 s0 (by omega), nI_1, nI_1]
          · intro a b ha hb
            rw [((FR.sI (k0 := 45) (S := T1) (i := 0) (j := s0) (v := nI (thJ A j s0 + 1))).1 30 (by omega)).2.2.1]
            exact x1 a b ha hb
          · show zI (zsI T1 45 0 s0 (nI (thJ A j s0 + 1))) 45 0 s = _
            rw [hs, zI_sI, z, es]
            by_cases e : s = s0
            · rw [if_pos ⟨rfl, e⟩, if_pos (by simp [e]), e]
            · rw [if_neg (fun y => e y.2), if_neg (by
                have : ¬ nI s0 = nI s := fun y => e (nI_inj (by omega) (by omega) y).symm
                simp [this])]
              exact d45 s h8
      · refine ⟨(nI (j + 1), T), ?_, rfl, i2, i3, i4, fun s h8 => ?_⟩
        · refine (o_b (placeOf_eq hA i2 hj)).trans ?_
          refine (o_b (isStreetM _ _)).trans ?_
          rw [if_neg q, if_pos rfl, nI_1]
        · rw [hs, if_neg (by simp [st_no q h8])]; exact i5 s h8
    · obtain ⟨v1, T⟩ := v
      obtain ⟨i1, i2, i3, i4, i5⟩ := hI
      replace i1 : v1 = nI (aN A 5) := i1
      replace i2 : MV A T := i2
      refine ⟨T, ?_, ⟨i2, i3, i5⟩, i4⟩
      unfold b_X12_look_27
      dsimp only
      rw [i2.nMen hA, i1, if_pos (nI_le (Nat.le_refl _) (by omega))]
  · obtain ⟨v1, T⟩ := v
    obtain ⟨i1, i2, i3⟩ := hI
    replace i1 : v1 = nI j := i1
    replace i2 : FR 45 S0 T := i2
    subst i1
    have hT := h0.FR (Or.inr (Or.inr (Or.inl rfl))) i2
    refine ⟨(nI (j + 1), zsI T 45 0 j 0), ?_, rfl, i2.tr FR.sI, fun k hk => ?_⟩
    · unfold b_X12_look_6
      dsimp only
      rw [if_neg (show ¬ (8 : Int32) ≤ nI j by rw [show (8 : Int32) = nI 8 from rfl, nI_leI (by omega) (by omega)]; omega)]
      refine (o_b (hT.ref 27 rfl)).trans ?_
      rw [zst_b (by exact hT.len 45 8 rfl) hj (by decide), nI_1]
    · show zI (zsI T 45 0 j 0) 45 0 k = _
      rw [zI_sI]
      by_cases e : k = j
      · rw [if_pos ⟨rfl, e⟩]; rfl
      · rw [if_neg (fun z => e z.2)]; exact i3 k (by omega)
  · obtain ⟨v1, T⟩ := v
    obtain ⟨i1, i2, i3⟩ := hI
    replace i1 : v1 = nI 8 := i1
    refine ⟨T, ?_, i2, i3⟩
    unfold b_X12_look_6
    dsimp only
    rw [i1, if_pos (by decide)]
