/-! ===== both reckon FAR ===== -/
theorem n8_lt {b : Nat} (h : b < 8) : ¬ (8 : Int32) ≤ nI b := by
  rw [show (8 : Int32) = nI 8 from rfl, nI_leI (by decide) (by omega)]
  omega
theorem ld30 {A : ZA} {S : ZH} (h : MV A S) {f : Nat → Nat → Nat} (hX : MX 30 S f 8) {a b : Nat} (ha : a < 8) (hb : b < 8) : zld S 30 0 (nI (8 * a + b)) = some (nI (f a b)) := by
  rw [zld_at (h.len 30 64 rfl) (by omega) (by decide), hX a b ha hb]
theorem meas_M0 {A : ZA} {S : ZH} (hA : AIn A) (h : MV A S) : ∃ S1, z_iter zFU (b_X12_measure_2 0) ((0 : Int32), S) = some S1 ∧ (FR 30 S S1 ∧ MX 30 S1 (gwN (A.2 29) 100 0) 8) := by
  have hb29 := hA.2.1.1
  refine z_inv0 (fun j v => v.1 = nI j ∧ FR 30 S v.2 ∧ ∀ k, k < j → zI v.2 30 0 k = nI (gw0 (A.2 29) 100 (k / 8) (k % 8))) 64 (by omega) ⟨rfl, FR.rf, fun k hk => absurd hk (Nat.not_lt_zero _)⟩ (fun j v hj hI => ?_) (fun v hI => ?_)
  · obtain ⟨v1, v2⟩ := v
    obtain ⟨i1, i2, i3⟩ := hI
    replace i1 : v1 = nI j := i1
    replace i2 : FR 30 S v2 := i2
    subst i1
    have hM := h.FR (by omega) i2
    have hl : zL v2 30 0 = 64 := hM.len 30 64 rfl
    have st : ∀ (x : Int32) (g : ZH → Option ((Int32 × ZH) ⊕ ZH)), (zst v2 30 0 (nI j) x).bind g = g (zsI v2 30 0 j x) := fun x g => zst_b hl (by omega) (by decide)
    have fin : ∀ x : Nat, x = gw0 (A.2 29) 100 (j / 8) (j % 8) → (nI (j + 1), zsI v2 30 0 j (nI x)).1 = nI (j + 1) ∧ FR 30 S (nI (j + 1), zsI v2 30 0 j (nI x)).2 ∧ ∀ k, k < j + 1 → zI (nI (j + 1), zsI v2 30 0 j (nI x)).2 30 0 k = nI (gw0 (A.2 29) 100 (k / 8) (k % 8)) := by
      intro x hx
      refine ⟨rfl, i2.tr FR.sI, fun k hk => ?_⟩
      show zI (zsI v2 30 0 j (nI x)) 30 0 k = _
      rw [zI_sI]
      by_cases e : k = j
      · rw [if_pos ⟨rfl, e⟩, e, hx]
      · rw [if_neg (fun z => e z.2)]; exact i3 k (by omega)
    have hdv : nI j / 8 = nI (j / 8) := nI_div (b := 8) (by omega) (by decide)
    have hmd : nI j - nI j / 8 * 8 = nI (j % 8) := nI_mod (b := 8) (by omega) (by decide)
    have e8 : 8 * (j / 8) + j % 8 = j := Nat.div_add_mod j 8
    unfold b_X12_measure_2
    dsimp only
    rw [show (64 : Int32) = nI 64 from rfl, if_neg (by rw [nI_leI (by omega) (by omega)]; omega), hmd, hdv, nI_1]
    by_cases e : j / 8 = j % 8
    · refine ⟨(nI (j + 1), zsI v2 30 0 j (nI 0)), ?_, fin 0 ?_⟩
      · rw [if_neg (fun z => z (by rw [e]))]
        refine (o_b (hM.ref 3 rfl)).trans ?_
        exact st 0 _
      · unfold gw0; rw [if_pos e]
    · rw [if_pos (show ¬ nI (j / 8) = nI (j % 8) from fun z => e (nI_inj (by omega) (by omega) z))]
      by_cases e2 : A.2 29 j = 0
      · refine ⟨(nI (j + 1), zsI v2 30 0 j (nI 100)), ?_, fin 100 ?_⟩
        · refine (o_b (hM.ref 2 rfl)).trans ?_
          refine (o_b (hM.ld 64 rfl rfl (by omega) (by decide))).trans ?_
          rw [if_pos e2]
          refine (o_b (hM.ref 3 rfl)).trans ?_
          exact st 100 _
        · unfold gw0; rw [if_neg e, e8, if_pos e2]
      · refine ⟨(nI (j + 1), zsI v2 30 0 j (nI 1)), ?_, fin 1 ?_⟩
        · refine (o_b (hM.ref 2 rfl)).trans ?_
          refine (o_b (hM.ld 64 rfl rfl (by omega) (by decide))).trans ?_
          rw [if_neg e2]
          refine (o_b (hM.ref 3 rfl)).trans ?_
          exact st 1 _
        · unfold gw0; rw [if_neg e, e8, if_neg e2]
  · obtain ⟨v1, v2⟩ := v
    obtain ⟨i1, i2, i3⟩ := hI
    replace i1 : v1 = nI 64 := i1
    subst i1
    refine ⟨v2, ?_, i2, fun a b ha hb => ?_⟩
    · unfold b_X12_measure_2
      dsimp only
      rw [show (64 : Int32) = nI 64 from rfl, if_pos (nI_le (Nat.le_refl _) (by decide))]
    · rw [i3 (8 * a + b) (by omega), show (8 * a + b) / 8 = a by omega, show (8 * a + b) % 8 = b by omega]
      rfl
theorem meas_M3 {A : ZA} {S : ZH} (h : MV A S) {c a : Nat} (hc : c < 8) (ha : a < 8) (hX : MX 30 S (mxG (gwN (A.2 29) 100 c) (gwN (A.2 29) 100 (c + 1)) a 0) 8) : ∃ S1, z_iter zFU (b_X12_measure_68 0 (nI c) (nI a)) ((0 : Int32), S) = some S1 ∧ (FR 30 S S1 ∧ MX 30 S1 (mxG (gwN (A.2 29) 100 c) (gwN (A.2 29) 100 (c + 1)) (a + 1) 0) 8) := by
  have hle : ∀ x y, gwN (A.2 29) 100 c x y ≤ 100 := fun x y => gw_le0 (by omega) c
  refine z_inv0 (fun b v => v.1 = nI b ∧ FR 30 S v.2 ∧ MX 30 v.2 (mxG (gwN (A.2 29) 100 c) (gwN (A.2 29) 100 (c + 1)) a b) 8) 8 (by omega) ⟨rfl, FR.rf, hX⟩ (fun b v hb hI => ?_) (fun v hI => ?_)
  · obtain ⟨v1, v2⟩ := v
    obtain ⟨i1, i2, i3⟩ := hI
    replace i1 : v1 = nI b := i1
    replace i2 : FR 30 S v2 := i2
    replace i3 : MX 30 v2 _ 8 := i3
    subst i1
    have hM := h.FR (by omega) i2
    have hl : zL v2 30 0 = 64 := hM.len 30 64 rfl
    have e1 : mxG (gwN (A.2 29) 100 c) (gwN (A.2 29) 100 (c + 1)) a b a c = gwN (A.2 29) 100 c a c := by
      unfold mxG
      split
      · exact gw_col.1
      · rfl
    have e2 : mxG (gwN (A.2 29) 100 c) (gwN (A.2 29) 100 (c + 1)) a b c b = gwN (A.2 29) 100 c c b := by
      unfold mxG
      split
      · exact gw_col.2
      · rfl
    have e3 : mxG (gwN (A.2 29) 100 c) (gwN (A.2 29) 100 (c + 1)) a b a b = gwN (A.2 29) 100 c a b := by
      unfold mxG
      rw [if_neg (by omega)]
    have l1 := ld30 hM i3 ha hc
    have l2 := ld30 hM i3 hc hb
    have l3 := ld30 hM i3 ha hb
    rw [e1] at l1
    rw [e2] at l2
    rw [e3] at l3
    have hF : gwN (A.2 29) 100 (c + 1) a b = if gwN (A.2 29) 100 c a c + gwN (A.2 29) 100 c c b < gwN (A.2 29) 100 c a b then gwN (A.2 29) 100 c a c + gwN (A.2 29) 100 c c b else gwN (A.2 29) 100 c a b := rfl
    have q1 := hle a c
    have q2 := hle c b
    have q3 := hle a b
    refine ⟨(nI (b + 1), zsI v2 30 0 (8 * a + b) (nI (gwN (A.2 29) 100 (c + 1) a b))), ?_, rfl, i2.tr FR.sI, ?_⟩
    · unfold b_X12_measure_68
      dsimp only
      rw [if_neg (n8_lt (b := b) (by omega)), ix8, ix8, ix8, nI_1]
      refine (o_b (hM.ref 3 rfl)).trans ?_
      refine (o_b l1).trans ?_
      refine (o_b (hM.ref 3 rfl)).trans ?_
      refine (o_b l2).trans ?_
      refine (o_b (hM.ref 3 rfl)).trans ?_
      refine (o_b l3).trans ?_
      rw [nI_p, hF]
      have hq := nI_leI (a := gwN (A.2 29) 100 c a b) (b := gwN (A.2 29) 100 c a c + gwN (A.2 29) 100 c c b) (by omega) (by omega)
      by_cases q : gwN (A.2 29) 100 c a b ≤ gwN (A.2 29) 100 c a c + gwN (A.2 29) 100 c c b
      · rw [if_pos (hq.mpr q), if_neg (by omega)]
        refine (o_b (hM.ref 3 rfl)).trans ?_
        refine (o_b l3).trans ?_
        refine (o_b (hM.ref 3 rfl)).trans ?_
        exact zst_b hl (by omega) (by decide)
      · rw [if_neg (fun z => q (hq.mp z)), if_pos (by omega)]
        refine (o_b (hM.ref 3 rfl)).trans ?_
        exact zst_b hl (by omega) (by decide)
    · exact i3.put (by omega) ha hb (fun a' b' _ _ => mxG_step)
  · obtain ⟨v1, v2⟩ := v
    obtain ⟨i1, i2, i3⟩ := hI
    replace i1 : v1 = nI 8 := i1
    replace i3 : MX 30 v2 _ 8 := i3
    subst i1
    refine ⟨v2, ?_, i2, i3.cg (fun a' b' _ hb => mxG_row hb)⟩
    unfold b_X12_measure_68
    dsimp only
    rw [if_pos (show (8 : Int32) ≤ nI 8 by decide)]
theorem mxG_0 {F F' : Nat → Nat → Nat} {a b : Nat} : mxG F F' 0 0 a b = F a b := by
  unfold mxG
  rw [if_neg (by omega)]
theorem mxG_n {F F' : Nat → Nat → Nat} {n a b : Nat} (ha : a < n) : mxG F F' n 0 a b = F' a b := by
  unfold mxG
  rw [if_pos (Or.inl ha)]
theorem meas_M2 {A : ZA} {S : ZH} (h : MV A S) {c : Nat} (hc : c < 8) (hX : MX 30 S (gwN (A.2 29) 100 c) 8) : ∃ S1, z_iter zFU (b_X12_measure_60 0 (nI c)) ((0 : Int32), S) = some S1 ∧ (FR 30 S S1 ∧ MX 30 S1 (gwN (A.2 29) 100 (c + 1)) 8) := by
  refine z_inv0 (fun a v => v.1 = nI a ∧ FR 30 S v.2 ∧ MX 30 v.2 (mxG (gwN (A.2 29) 100 c) (gwN (A.2 29) 100 (c + 1)) a 0) 8) 8 (by omega) ⟨rfl, FR.rf, hX.cg (fun _ _ _ _ => mxG_0)⟩ (fun a v ha hI => ?_) (fun v hI => ?_)
  · obtain ⟨v1, v2⟩ := v
    obtain ⟨i1, i2, i3⟩ := hI
    replace i1 : v1 = nI a := i1
    replace i2 : FR 30 S v2 := i2
    replace i3 : MX 30 v2 _ 8 := i3
    subst i1
    obtain ⟨S1, e1, e2, e3⟩ := meas_M3 (h.FR (by omega) i2) hc ha i3
    refine ⟨(nI (a + 1), S1), ?_, rfl, i2.tr e2, e3⟩
    unfold b_X12_measure_60
    dsimp only
    rw [if_neg (n8_lt (b := a) (by omega)), nI_1]
    exact (o_b e1).trans rfl
  · obtain ⟨v1, v2⟩ := v
    obtain ⟨i1, i2, i3⟩ := hI
    replace i1 : v1 = nI 8 := i1
    replace i3 : MX 30 v2 _ 8 := i3
    subst i1
    refine ⟨v2, ?_, i2, i3.cg (fun a' b' ha _ => (mxG_n ha).symm)⟩
    unfold b_X12_measure_60
    dsimp only
    rw [if_pos (show (8 : Int32) ≤ nI 8 by decide)]
theorem measure_M {A : ZA} {S : ZH} (hA : AIn A) (h : MV A S) : ∃ S1, f_X12_measure 0 S = some S1 ∧ FR 30 S S1 ∧ MX 30 S1 (aD A) 8 := by
  obtain ⟨S0, e0, f0, m0⟩ := meas_M0 hA h
  have h0 := h.FR (by omega) f0
  obtain ⟨S1, e1, f1, m1⟩ := z_inv0 (b := b_X12_measure_52 0) (X := fun T => FR 30 S0 T ∧ MX 30 T (gwN (A.2 29) 100 8) 8) (fun c v => v.1 = nI c ∧ FR 30 S0 v.2 ∧ MX 30 v.2 (gwN (A.2 29) 100 c) 8) 8 (v := ((0 : Int32), S0)) (by omega) ⟨rfl, FR.rf, m0⟩ (fun c v hc hI => by
    obtain ⟨v1, v2⟩ := v
    obtain ⟨i1, i2, i3⟩ := hI
    replace i1 : v1 = nI c := i1
    replace i2 : FR 30 S0 v2 := i2
    subst i1
    obtain ⟨S1, e1, e2, e3⟩ := meas_M2 (h0.FR (by omega) i2) hc i3
    refine ⟨(nI (c + 1), S1), ?_, rfl, i2.tr e2, e3⟩
    unfold b_X12_measure_52
    dsimp only
    rw [if_neg (n8_lt (b := c) (by omega)), nI_1]
    exact (o_b e1).trans rfl) (fun v hI => by
    obtain ⟨v1, v2⟩ := v
    obtain ⟨i1, i2, i3⟩ := hI
    replace i1 : v1 = nI 8 := i1
    subst i1
    refine ⟨v2, ?_, i2, i3⟩
    unfold b_X12_measure_52
    dsimp only
    rw [if_pos (show (8 : Int32) ≤ nI 8 by decide)])
  refine ⟨S1, ?_, f0.tr f1, ?_⟩
  · unfold f_X12_measure
    refine (o_b e0).trans ?_
    exact (o_b e1).trans rfl
  · unfold aD
    rw [gw_100]
    exact m1
