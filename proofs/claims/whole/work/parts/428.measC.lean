/-! ===== the class's reckoning ===== -/
/-- the class's town: all but the row of distances stands -/
def TW (A : ZA) (S : ZH) : Prop := zI S 10 0 0 = nI (aN A 1) ∧ (∀ j, j < 64 → zI S 20 0 j = A.2 29 j) ∧ zR S 10 0 1 = some 0 ∧ zR S 10 0 2 = some 0 ∧ zL S 20 0 = 64 ∧ zL S 21 0 = 64
theorem TW.FR {A : ZA} {S S' : ZH} (h : TW A S) (f : FR 21 S S') : TW A S' := by
  obtain ⟨h1, h2, h3, h4, h5, h6⟩ := h
  refine ⟨by rw [(f.1 10 (by decide)).2.2.1]; exact h1, fun j hj => by rw [(f.1 20 (by decide)).2.2.1]; exact h2 j hj, by rw [(f.1 10 (by decide)).2.2.2]; exact h3, by rw [(f.1 10 (by decide)).2.2.2]; exact h4, by rw [(f.1 20 (by decide)).2.1]; exact h5, by rw [f.2.2.1]; exact h6⟩
theorem cellE (a b : Nat) (S : ZH) : f_X10_cell (nI a) (nI b) S = some (nI (8 * a + b)) := by
  unfold f_X10_cell
  rw [Int32.mul_comm, ix8]
theorem meas_C0 {A : ZA} {S : ZH} (hn : aN A 1 ≤ 8) (h : TW A S) : ∃ S1, z_iter zFU (b_X10_measure_7 0) ((0 : Int32), S) = some S1 ∧ (FR 21 S S1 ∧ MX 21 S1 (gwN (A.2 29) 999 0) (aN A 1)) := by
  refine z_inv0 (fun a v => v.1 = nI a ∧ FR 21 S v.2 ∧ ∀ a' b', a' < a → b' < aN A 1 → zI v.2 21 0 (8 * a' + b') = nI (gwN (A.2 29) 999 0 a' b')) (aN A 1) (by omega) ⟨rfl, FR.rf, fun _ _ h => absurd h (Nat.not_lt_zero _)⟩ (fun a v ha hI => ?_) (fun v hI => ?_)
  · obtain ⟨v1, v2⟩ := v
    obtain ⟨i1, i2, i3⟩ := hI
    replace i1 : v1 = nI a := i1
    replace i2 : FR 21 S v2 := i2
    replace i3 : ∀ a' b', a' < a → b' < aN A 1 → zI v2 21 0 (8 * a' + b') = nI (gwN (A.2 29) 999 0 a' b') := i3
    subst i1
    have hrow : ∃ S1, z_iter zFU (b_X10_measure_17 0 (nI a)) ((0 : Int32), v2) = some S1 ∧ (FR 21 v2 S1 ∧ ∀ a' b', a' < a + 1 → b' < aN A 1 → zI S1 21 0 (8 * a' + b') = nI (gwN (A.2 29) 999 0 a' b')) := by
      refine z_inv0 (fun b v => v.1 = nI b ∧ FR 21 v2 v.2 ∧ ∀ a' b', (a' < a ∨ (a' = a ∧ b' < b)) → b' < aN A 1 → zI v.2 21 0 (8 * a' + b') = nI (gwN (A.2 29) 999 0 a' b')) (aN A 1) (by omega) ⟨rfl, FR.rf, fun a' b' h1 h2 => i3 a' b' (by omega) h2⟩ (fun b v hb hI => ?_) (fun v hI => ?_)
      · obtain ⟨u1, u2⟩ := v
        obtain ⟨j1, j2, j3⟩ := hI
        replace j1 : u1 = nI b := j1
        replace j2 : FR 21 v2 u2 := j2
        replace j3 : ∀ a' b', (a' < a ∨ (a' = a ∧ b' < b)) → b' < aN A 1 → zI u2 21 0 (8 * a' + b') = nI (gwN (A.2 29) 999 0 a' b') := j3
        subst j1
        obtain ⟨t1, t2, t3, t4, t5, t6⟩ := h.FR (i2.tr j2)
        have fin : ∀ x : Nat, x = gwN (A.2 29) 999 0 a b → (nI (b + 1), zsI u2 21 0 (8 * a + b) (nI x)).1 = nI (b + 1) ∧ FR 21 v2 (nI (b + 1), zsI u2 21 0 (8 * a + b) (nI x)).2 ∧ ∀ a' b', (a' < a ∨ (a' = a ∧ b' < b + 1)) → b' < aN A 1 → zI (nI (b + 1), zsI u2 21 0 (8 * a + b) (nI x)).2 21 0 (8 * a' + b') = nI (gwN (A.2 29) 999 0 a' b') := by
          intro x hx
          refine ⟨rfl, j2.tr FR.sI, fun a' b' h1 h2 => ?_⟩
          show zI (zsI u2 21 0 (8 * a + b) (nI x)) 21 0 (8 * a' + b') = _
          rw [zI_sI]
          by_cases e : a' = a ∧ b' = b
          · rw [if_pos ⟨rfl, by rw [e.1, e.2]⟩, e.1, e.2, hx]
          · rw [if_neg (fun z => e (by omega))]; exact j3 a' b' (by omega) h2
        have hg : gwN (A.2 29) 999 0 a b = if a = b then 0 else if A.2 29 (8 * a + b) = 0 then 999 else 1 := rfl
        unfold b_X10_measure_17
        dsimp only
        rw [t1, if_neg (by rw [nI_leI (by omega) (by omega)]; omega), cellE, nI_1]
        by_cases e : a = b
        · refine ⟨(nI (b + 1), zsI u2 21 0 (8 * a + b) (nI 0)), ?_, fin 0 (by rw [hg, if_pos e])⟩
          refine (o_b (a := nI (8 * a + b)) rfl).trans ?_
          rw [if_neg (fun z => z (by rw [e]))]
          refine (o_b t4).trans ?_
          exact zst_b t6 (by omega) (by decide)
        · have e' : ¬ nI a = nI b := fun z => e (nI_inj (by omega) (by omega) z)
          have lw : zld u2 20 0 (nI (8 * a + b)) = some (A.2 29 (8 * a + b)) := by rw [zld_at t5 (by omega) (by decide), t2 _ (by omega)]
          by_cases e2 : A.2 29 (8 * a + b) = 0
          · refine ⟨(nI (b + 1), zsI u2 21 0 (8 * a + b) (nI 999)), ?_, fin 999 (by rw [hg, if_neg e, if_pos e2])⟩
            refine (o_b (a := nI (8 * a + b)) rfl).trans ?_
            rw [if_pos e']
            refine (o_b (a := nI (8 * a + b)) rfl).trans ?_
            refine (o_b t3).trans ?_
            refine (o_b lw).trans ?_
            rw [if_pos e2]
            refine (o_b t4).trans ?_
            exact zst_b t6 (by omega) (by decide)
          · refine ⟨(nI (b + 1), zsI u2 21 0 (8 * a + b) (nI 1)), ?_, fin 1 (by rw [hg, if_neg e, if_neg e2])⟩
            refine (o_b (a := nI (8 * a + b)) rfl).trans ?_
            rw [if_pos e']
            refine (o_b (a := nI (8 * a + b)) rfl).trans ?_
            refine (o_b t3).trans ?_
            refine (o_b lw).trans ?_
            rw [if_neg e2]
            refine (o_b t4).trans ?_
            exact zst_b t6 (by omega) (by decide)
      · obtain ⟨u1, u2⟩ := v
        obtain ⟨j1, j2, j3⟩ := hI
        replace j1 : u1 = nI (aN A 1) := j1
        replace j2 : FR 21 v2 u2 := j2
        subst j1
        obtain ⟨t1, -⟩ := h.FR (i2.tr j2)
        refine ⟨u2, ?_, j2, fun a' b' h1 h2 => j3 a' b' (by omega) h2⟩
        unfold b_X10_measure_17
        dsimp only
        rw [t1, if_pos (nI_le (Nat.le_refl _) (by omega))]
    obtain ⟨S1, e1, e2, e3⟩ := hrow
    obtain ⟨t1, -⟩ := h.FR i2
    refine ⟨(nI (a + 1), S1), ?_, rfl, i2.tr e2, e3⟩
    unfold b_X10_measure_7
    dsimp only
    rw [t1, if_neg (by rw [nI_leI (by omega) (by omega)]; omega), nI_1]
    exact (o_b e1).trans rfl
  · obtain ⟨v1, v2⟩ := v
    obtain ⟨i1, i2, i3⟩ := hI
    replace i1 : v1 = nI (aN A 1) := i1
    replace i2 : FR 21 S v2 := i2
    subst i1
    obtain ⟨t1, -⟩ := h.FR i2
    refine ⟨v2, ?_, i2, fun a b ha hb => i3 a b ha hb⟩
    unfold b_X10_measure_7
    dsimp only
    rw [t1, if_pos (nI_le (Nat.le_refl _) (by omega))]
theorem meas_C3 {A : ZA} {S : ZH} (hn : aN A 1 ≤ 8) (h : TW A S) {c a : Nat} (hc : c < aN A 1) (ha : a < aN A 1) (hX : MX 21 S (mxG (gwN (A.2 29) 999 c) (gwN (A.2 29) 999 (c + 1)) a 0) (aN A 1)) : ∃ S1, z_iter zFU (b_X10_measure_98 0 (nI c) (nI a)) ((0 : Int32), S) = some S1 ∧ (FR 21 S S1 ∧ MX 21 S1 (mxG (gwN (A.2 29) 999 c) (gwN (A.2 29) 999 (c + 1)) (a + 1) 0) (aN A 1)) := by
  have hle : ∀ x y, gwN (A.2 29) 999 c x y ≤ 999 := fun x y => gw_le0 (by omega) c
  refine z_inv0 (fun b v => v.1 = nI b ∧ FR 21 S v.2 ∧ MX 21 v.2 (mxG (gwN (A.2 29) 999 c) (gwN (A.2 29) 999 (c + 1)) a b) (aN A 1)) (aN A 1) (by omega) ⟨rfl, FR.rf, hX⟩ (fun b v hb hI => ?_) (fun v hI => ?_)
  · obtain ⟨v1, v2⟩ := v
    obtain ⟨i1, i2, i3⟩ := hI
    replace i1 : v1 = nI b := i1
    replace i2 : FR 21 S v2 := i2
    replace i3 : MX 21 v2 _ _ := i3
    subst i1
    obtain ⟨t1, t2, t3, t4, t5, t6⟩ := h.FR i2
    have ld : ∀ x y, x < aN A 1 → y < aN A 1 → zld v2 21 0 (nI (8 * x + y)) = some (nI (mxG (gwN (A.2 29) 999 c) (gwN (A.2 29) 999 (c + 1)) a b x y)) := fun x y hx hy => by rw [zld_at t6 (by omega) (by decide), i3 x y hx hy]
    have e1 : mxG (gwN (A.2 29) 999 c) (gwN (A.2 29) 999 (c + 1)) a b a c = gwN (A.2 29) 999 c a c := by
      unfold mxG
      split
      · exact gw_col.1
      · rfl
    have e2 : mxG (gwN (A.2 29) 999 c) (gwN (A.2 29) 999 (c + 1)) a b c b = gwN (A.2 29) 999 c c b := by
      unfold mxG
      split
      · exact gw_col.2
      · rfl
    have e3 : mxG (gwN (A.2 29) 999 c) (gwN (A.2 29) 999 (c + 1)) a b a b = gwN (A.2 29) 999 c a b := by
      unfold mxG
      rw [if_neg (by omega)]
    have l1 := ld a c ha hc
    have l2 := ld c b hc hb
    have l3 := ld a b ha hb
    rw [e1] at l1
    rw [e2] at l2
    rw [e3] at l3
    have hF : gwN (A.2 29) 999 (c + 1) a b = if gwN (A.2 29) 999 c a c + gwN (A.2 29) 999 c c b < gwN (A.2 29) 999 c a b then gwN (A.2 29) 999 c a c + gwN (A.2 29) 999 c c b else gwN (A.2 29) 999 c a b := rfl
    have q1 := hle a c
    have q2 := hle c b
    have q3 := hle a b
    have hmin : f_J9_min_7cf53 (nI (gwN (A.2 29) 999 c a b)) (nI (gwN (A.2 29) 999 c a c) + nI (gwN (A.2 29) 999 c c b)) v2 = some (nI (gwN (A.2 29) 999 (c + 1) a b)) := by
      unfold f_J9_min_7cf53
      rw [nI_p, hF]
      have hq := nI_lt_iff (a := gwN (A.2 29) 999 c a c + gwN (A.2 29) 999 c c b) (b := gwN (A.2 29) 999 c a b) (by omega) (by omega)
      by_cases q : gwN (A.2 29) 999 c a c + gwN (A.2 29) 999 c c b < gwN (A.2 29) 999 c a b
      · rw [if_pos (hq.mpr q), if_pos q]
      · rw [if_neg (fun z => q (hq.mp z)), if_neg q]
    refine ⟨(nI (b + 1), zsI v2 21 0 (8 * a + b) (nI (gwN (A.2 29) 999 (c + 1) a b))), ?_, rfl, i2.tr FR.sI, i3.put hn ha hb (fun a' b' _ _ => mxG_step)⟩
    unfold b_X10_measure_98
    dsimp only
    rw [t1, if_neg (by rw [nI_leI (by omega) (by omega)]; omega), cellE, cellE, cellE, nI_1]
    refine (o_b (a := nI (8 * a + c)) rfl).trans ?_
    refine (o_b t4).trans ?_
    refine (o_b l1).trans ?_
    refine (o_b (a := nI (8 * c + b)) rfl).trans ?_
    refine (o_b t4).trans ?_
    refine (o_b l2).trans ?_
    refine (o_b (a := nI (8 * a + b)) rfl).trans ?_
    refine (o_b (a := nI (8 * a + b)) rfl).trans ?_
    refine (o_b t4).trans ?_
    refine (o_b l3).trans ?_
    refine (o_b hmin).trans ?_
    refine (o_b t4).trans ?_
    exact zst_b t6 (by omega) (by decide)
  · obtain ⟨v1, v2⟩ := v
    obtain ⟨i1, i2, i3⟩ := hI
    replace i1 : v1 = nI (aN A 1) := i1
    replace i2 : FR 21 S v2 := i2
    replace i3 : MX 21 v2 _ _ := i3
    subst i1
    obtain ⟨t1, -⟩ := h.FR i2
    refine ⟨v2, ?_, i2, i3.cg (fun a' b' _ hb => mxG_row hb)⟩
    unfold b_X10_measure_98
    dsimp only
    rw [t1, if_pos (nI_le (Nat.le_refl _) (by omega))]
theorem meas_C2 {A : ZA} {S : ZH} (hn : aN A 1 ≤ 8) (h : TW A S) {c : Nat} (hc : c < aN A 1) (hX : MX 21 S (gwN (A.2 29) 999 c) (aN A 1)) : ∃ S1, z_iter zFU (b_X10_measure_88 0 (nI c)) ((0 : Int32), S) = some S1 ∧ (FR 21 S S1 ∧ MX 21 S1 (gwN (A.2 29) 999 (c + 1)) (aN A 1)) := by
  refine z_inv0 (fun a v => v.1 = nI a ∧ FR 21 S v.2 ∧ MX 21 v.2 (mxG (gwN (A.2 29) 999 c) (gwN (A.2 29) 999 (c + 1)) a 0) (aN A 1)) (aN A 1) (by omega) ⟨rfl, FR.rf, hX.cg (fun _ _ _ _ => mxG_0)⟩ (fun a v ha hI => ?_) (fun v hI => ?_)
  · obtain ⟨v1, v2⟩ := v
    obtain ⟨i1, i2, i3⟩ := hI
    replace i1 : v1 = nI a := i1
    replace i2 : FR 21 S v2 := i2
    replace i3 : MX 21 v2 _ _ := i3
    subst i1
    obtain ⟨S1, e1, e2, e3⟩ := meas_C3 hn (h.FR i2) hc ha i3
    obtain ⟨t1, -⟩ := h.FR i2
    refine ⟨(nI (a + 1), S1), ?_, rfl, i2.tr e2, e3⟩
    unfold b_X10_measure_88
    dsimp only
    rw [t1, if_neg (by rw [nI_leI (by omega) (by omega)]; omega), nI_1]
    exact (o_b e1).trans rfl
  · obtain ⟨v1, v2⟩ := v
    obtain ⟨i1, i2, i3⟩ := hI
    replace i1 : v1 = nI (aN A 1) := i1
    replace i2 : FR 21 S v2 := i2
    replace i3 : MX 21 v2 _ _ := i3
    subst i1
    obtain ⟨t1, -⟩ := h.FR i2
    refine ⟨v2, ?_, i2, i3.cg (fun a' b' ha _ => (mxG_n ha).symm)⟩
    unfold b_X10_measure_88
    dsimp only
    rw [t1, if_pos (nI_le (Nat.le_refl _) (by omega))]
theorem measure_C {A : ZA} {S : ZH} (hA : AIn A) (h : TW A (zsI S 10 0 3 1)) : ∃ S1, f_X10_measure 0 S = some S1 ∧ FR 21 (zsI S 10 0 3 1) S1 ∧ ∀ a b, a < aN A 1 → b < aN A 1 → zI S1 21 0 (8 * a + b) = cD (aD A a b) := by
  have hn := hA.c1.2
  obtain ⟨S0, e0, f0, m0⟩ := meas_C0 hn h
  have h0 := h.FR f0
  obtain ⟨S1, e1, f1, m1⟩ := z_inv0 (b := b_X10_measure_78 0) (X := fun T => FR 21 S0 T ∧ MX 21 T (gwN (A.2 29) 999 (aN A 1)) (aN A 1)) (fun c v => v.1 = nI c ∧ FR 21 S0 v.2 ∧ MX 21 v.2 (gwN (A.2 29) 999 c) (aN A 1)) (aN A 1) (v := ((0 : Int32), S0)) (by omega) ⟨rfl, FR.rf, m0⟩ (fun c v hc hI => by
    obtain ⟨v1, v2⟩ := v
    obtain ⟨i1, i2, i3⟩ := hI
    replace i1 : v1 = nI c := i1
    replace i2 : FR 21 S0 v2 := i2
    subst i1
    obtain ⟨S1, e1, e2, e3⟩ := meas_C2 hn (h0.FR i2) hc i3
    obtain ⟨t1, -⟩ := h0.FR i2
    refine ⟨(nI (c + 1), S1), ?_, rfl, i2.tr e2, e3⟩
    unfold b_X10_measure_78
    dsimp only
    rw [t1, if_neg (by rw [nI_leI (by omega) (by omega)]; omega), nI_1]
    exact (o_b e1).trans rfl) (fun v hI => by
    obtain ⟨v1, v2⟩ := v
    obtain ⟨i1, i2, i3⟩ := hI
    replace i1 : v1 = nI (aN A 1) := i1
    replace i2 : FR 21 S0 v2 := i2
    subst i1
    obtain ⟨t1, -⟩ := h0.FR i2
    refine ⟨v2, ?_, i2, i3⟩
    unfold b_X10_measure_78
    dsimp only
    rw [t1, if_pos (nI_le (Nat.le_refl _) (by omega))])
  refine ⟨S1, ?_, f0.tr f1, fun a b ha hb => ?_⟩
  · unfold f_X10_measure
    refine (o_b e0).trans ?_
    exact (o_b e1).trans rfl
  · have e := gw_n hA.2.1.2.1 ha hb hn (8 - aN A 1) (by omega)
    unfold aD
    rw [m1 a b ha hb, gw_cD (by omega) (by omega), ← e, show aN A 1 + (8 - aN A 1) = 8 by omega]
