/-! ===== the class lays its gangs: the first pair; whom they can meet ===== -/
theorem OKP_999 {A : ZA} (hA : AIn A) {h g c0 c1 : Nat} (hh : h ≤ 3) (hp : OKP A h g c0 c1) : c0 < 999 ∧ c1 < 999 := by
  have h512 := pow_512 hA.c1.2 hh
  obtain ⟨a, b, c⟩ := hp
  refine ⟨by omega, ?_⟩
  by_cases e : g = 1
  · rw [if_pos e] at c; omega
  · rw [if_neg e] at c; omega
theorem OKP_kd {A : ZA} {h g c0 c0' c1 : Nat} (hp : OKP A h g c0 c1) (hc : c0' < (aN A 1) ^ h) (hv : vld A h c0') (e : kdc A h c0' = kdc A h c0) : OKP A h g c0' c1 := by
  obtain ⟨a, b, c⟩ := hp
  exact ⟨hc, hv, by rw [e]; exact c⟩
theorem lay_eq {A : ZA} {S : ZH} (hA : AIn A) (h0 : CS A S S) {h g : Nat} (hh : h ≤ 3) (hg : g = 1 ∨ g = 2) {C0 C1 : Nat} (hex : OKP A h g C0 C1) (hl : ∀ c0 c1, OKP A h g c0 c1 → C0 ≤ c0 ∧ (c0 = C0 → C1 ≤ c1)) : ∃ S1, f_X1_lay 0 (nI g) (nI h) S = some S1 ∧ CS A S S1 ∧ (∀ k, k < h → zI S1 16 0 k = nI (dg (aN A 1) h C0 k)) ∧ (∀ k, k < h → zI S1 16 0 (3 + k) = nI (dg (aN A 1) h C1 k)) := by
  have hn := hA.c1.2
  have h512 := pow_512 hn hh
  obtain ⟨S1, e1, c1, w1⟩ := findFirst_eq hA h0 hh
  have key := z_inv0 (b := b_X1_lay_24 0 (nI g) (nI h) (nI (MOA A g))) (X := fun r : Int32 × Int32 × ZH => ∃ B E, r.1 = nI B ∧ r.2.1 = nI E ∧ CS A S r.2.2 ∧ ((B = 999 ∧ E = 999) ∨ OKP A h g B E) ∧ ∀ c0 c1, OKP A h g c0 c1 → B ≤ c0 ∧ (c0 = B → E ≤ c1))
    (fun j v => v.2.2.1 = nI j ∧ ∃ B E, v.1 = nI B ∧ v.2.1 = nI E ∧ CS A S v.2.2.2 ∧ FW A h ((aN A 1) ^ h) v.2.2.2 ∧ ((B = 999 ∧ E = 999) ∨ (OKP A h g B E ∧ knc A h B < j)) ∧ ∀ c0 c1, OKP A h g c0 c1 → knc A h c0 < j → B ≤ c0 ∧ (c0 = B → E ≤ c1)) 25 (v := ((999 : Int32), (999 : Int32), (0 : Int32), S1)) (by omega) ⟨rfl, 999, 999, rfl, rfl, c1, w1, Or.inl ⟨rfl, rfl⟩, fun c0 c1 _ z => by omega⟩ (fun j v hj hI => ?_) (fun v hI => ?_)
  · obtain ⟨r, e2, B, E, x1, x2, x3, x4, x5⟩ := key
    have hok : OKP A h g B E := by
      rcases x4 with x4 | x4
      · have := x5 C0 C1 hex
        have := (OKP_999 hA hh hex).1
        omega
      · exact x4
    have y1 := x5 C0 C1 hex
    have y2 := hl B E hok
    have eB : B = C0 := by omega
    have eE : E = C1 := by
      have := y1.2 eB.symm
      have := y2.2 eB
      omega
    have b9 := OKP_999 hA hh hok
    obtain ⟨q1, T1, f1, fr1, d1, -, -⟩ := walkOut_eq hA x3.1 (x := 0) (c := B) (h := h) (by omega) hh (by omega)
    have cT1 := x3.fr (Or.inr rfl) fr1
    obtain ⟨q2, T2, f2, fr2, d2, k2, -⟩ := walkOut_eq hA cT1.1 (x := 1) (c := E) (h := h) (by omega) hh (by omega)
    refine ⟨T2, ?_, cT1.fr (Or.inr rfl) fr2, fun k hk => ?_, fun k hk => ?_⟩
    · unfold f_X1_lay
      refine (o_b (mostMet_eq hA h0.1 h0.2.2 hg)).trans ?_
      refine (o_b e1).trans ?_
      refine (o_b e2).trans ?_
      rw [x1, x2]
      refine (o_b (show f_X1_walkOut 0 (0 : Int32) (nI B) (nI h) r.2.2 = some (q1, T1) from f1)).trans ?_
      exact (o_b (show f_X1_walkOut 0 (1 : Int32) (nI E) (nI h) T1 = some (q2, T2) from f2)).trans rfl
    · rw [k2 k (by omega)]
      have := d1 k hk
      rw [Nat.mul_zero, Nat.zero_add] at this
      rw [this, eB]
    · have := d2 k hk
      rw [Nat.mul_one] at this
      rw [this, eE]
  · obtain ⟨v1, v2, v3, T⟩ := v
    obtain ⟨i1, B, E, i2, i3, i4, i5, i6, i7⟩ := hI
    replace i1 : v3 = nI j := i1
    replace i2 : v1 = nI B := i2
    replace i3 : v2 = nI E := i3
    replace i4 : CS A S T := i4
    replace i5 : FW A h ((aN A 1) ^ h) T := i5
    subst i1 i2 i3
    have hB : B ≤ 999 ∧ E ≤ 999 := by
      rcases i6 with i6 | i6
      · omega
      · have := OKP_999 hA hh i6.1; omega
    obtain ⟨f, a1, a2, a3⟩ := i5 j hj
    have hf : f ≤ 999 := by rcases a2 with a2 | ⟨a2, -⟩ <;> omega
    have el : zld T 15 0 (nI j) = some (nI f) := by rw [zld_at (i4.1.len 15 25 rfl) hj (by decide), a1]
    have keep : (∀ c0 c1, OKP A h g c0 c1 → knc A h c0 = j → B ≤ c0 ∧ (c0 = B → E ≤ c1)) → ((B = 999 ∧ E = 999) ∨ (OKP A h g B E ∧ knc A h B < j + 1)) ∧ ∀ c0 c1, OKP A h g c0 c1 → knc A h c0 < j + 1 → B ≤ c0 ∧ (c0 = B → E ≤ c1) := by
      intro hk
      refine ⟨?_, fun c0 c1 z1 z2 => ?_⟩
      · rcases i6 with i6 | i6
        · left; exact i6
        · right; exact ⟨i6.1, by omega⟩
      · by_cases y : knc A h c0 = j
        · exact hk c0 c1 z1 y
        · exact i7 c0 c1 z1 (by omega)
    unfold b_X1_lay_24
    dsimp only
    rw [if_neg (show ¬ (24 : Int32) < nI j by rw [Int32.lt_iff_toInt_lt, show (24 : Int32) = nI 24 from rfl, nI_toInt (by omega), nI_toInt (by omega)]; omega)]
    by_cases q : B ≤ f
    · obtain ⟨z1, z2⟩ := keep (fun c0 c1 y1 y2 => by
        have := a3 c0 y1.1 y1.2.1 y2
        refine ⟨by omega, fun e => ?_⟩
        rcases i6 with i6 | i6
        · have := (OKP_999 hA hh y1).1; omega
        · rw [e] at y2; omega)
      refine ⟨(nI B, nI E, nI (j + 1), T), ?_, rfl, B, E, rfl, rfl, i4, i5, z1, z2⟩
      refine (o_b (i4.1.ref 1 2 rfl)).trans ?_
      refine (o_b el).trans ?_
      rw [if_pos (nI_le q (by omega))]
      unfold j_X1_lay_57
      rw [if_pos (by decide), nI_1]
    · obtain ⟨b1, b2, b3⟩ : f < (aN A 1) ^ h ∧ vld A h f ∧ knc A h f = j := by
        rcases a2 with a2 | a2
        · omega
        · exact a2
      obtain ⟨F, T1, e3, r1, f1, F9, fk, fl⟩ := firstMate_eq hA i4.1 i4.2.2 hh hg i5 b1 b2
      rw [b3] at e3
      have cT := i4.h21 r1 f1
      have wT := i5.h21 f1
      have same : ∀ c0 c1, OKP A h g c0 c1 → knc A h c0 = j → f ≤ c0 ∧ F ≤ c1 := by
        intro c0 c1 z1 y
        refine ⟨a3 c0 z1.1 z1.2.1 y, fl c1 (OKP_kd z1 b1 b2 (kn_inj hA (kdc_ok hA hh) (kdc_ok hA hh) (b3.trans y.symm)))⟩
      have pre : (((zR T 1 0 2)).bind fun a3 => (zld T 15 a3 (nI j)).bind fun v4 => if nI B ≤ v4 then j_X1_lay_57 0 (nI g) (nI h) (nI (MOA A g)) (nI B) (nI E) (nI j) (999 : Int32) T else (f_X1_firstMate 0 (nI j) (nI g) (nI (MOA A g)) T).bind fun q7 => j_X1_lay_57 0 (nI g) (nI h) (nI (MOA A g)) (nI B) (nI E) (nI j) q7.1 q7.2) = j_X1_lay_57 0 (nI g) (nI h) (nI (MOA A g)) (nI B) (nI E) (nI j) (nI F) T1 := by
        refine (o_b (i4.1.ref 1 2 rfl)).trans ?_
        refine (o_b el).trans ?_
        rw [if_neg (fun z => q ((nI_leI (by omega) (by omega)).mp z))]
        exact (o_b e3).trans rfl
      rw [pre]
      unfold j_X1_lay_57
      by_cases q2 : F = 999
      · obtain ⟨z1, z2⟩ := keep (fun c0 c1 y1 y2 => by
          have := (same c0 c1 y1 y2).2
          have := (OKP_999 hA hh y1).2
          omega)
        refine ⟨(nI B, nI E, nI (j + 1), T1), ?_, rfl, B, E, rfl, rfl, cT, wT, z1, z2⟩
        rw [q2, if_pos (by decide), nI_1]
      · have hok : OKP A h g f F := by
          rcases fk with y | y
          · exact absurd y q2
          · exact y
        refine ⟨(nI f, nI F, nI (j + 1), T1), ?_, rfl, f, F, rfl, rfl, cT, wT, Or.inr ⟨hok, by omega⟩, fun c0 c1 z1 z2 => ?_⟩
        · rw [if_neg (show ¬ (999 : Int32) ≤ nI F by rw [show (999 : Int32) = nI 999 from rfl, nI_leI (by omega) (by omega)]; omega)]
          refine (o_b (r1.ref 1 2 rfl)).trans ?_
          have el2 : zld T1 15 0 (nI j) = some (nI f) := by rw [zld_at (r1.len 15 25 rfl) hj (by decide), (f1 15 (by omega) (by omega)).2.2.1, a1]
          refine (o_b el2).trans ?_
          rw [nI_1]
        · by_cases y : knc A h c0 = j
          · have := same c0 c1 z1 y
            exact ⟨this.1, fun _ => this.2⟩
          · have := i7 c0 c1 z1 (by omega)
            exact ⟨by omega, fun e => by omega⟩
  · obtain ⟨v1, v2, v3, T⟩ := v
    obtain ⟨i1, B, E, i2, i3, i4, i5, i6, i7⟩ := hI
    replace i1 : v3 = nI 25 := i1
    refine ⟨(v1, v2, T), ?_, B, E, i2, i3, i4, ?_, fun c0 c1 z1 => i7 c0 c1 z1 (kn_lt hA hh)⟩
    · unfold b_X1_lay_24
      dsimp only
      rw [i1, if_pos (show (24 : Int32) < nI 25 by decide)]
    · rcases i6 with i6 | i6
      · left; exact i6
      · right; exact i6.1
