/-! ===== the class lays its gangs: the most, the first mate, the first pair ===== -/
theorem BS_40 {th : Nat → Nat} (h : ∀ s, th s ≤ 40) : ∀ n, (BS th n).1 ≤ 40 ∧ (BS th n).2 ≤ 40
  | 0 => ⟨Nat.zero_le _, Nat.zero_le _⟩
  | n + 1 => by
    have ih := BS_40 h n
    have e : BS th (n + 1) = if (BS th n).1 < th n then (th n, (BS th n).1) else if (BS th n).2 < th n then ((BS th n).1, th n) else BS th n := rfl
    have h1 := h n
    rw [e]
    split
    · exact ⟨h1, ih.1⟩
    · split
      · exact ⟨ih.1, h1⟩
      · exact ih
def MOA (A : ZA) (g : Nat) : Nat := MO (thA A) (aN A 1) g
theorem MOA_80 {A : ZA} (hA : AIn A) (g : Nat) : MOA A g ≤ 80 := by
  have := BS_40 (fun s => thA_le hA s) (aN A 1)
  unfold MOA MO
  split <;> omega
theorem mostMet_eq {A : ZA} {S : ZH} (hA : AIn A) (hR : RC A S) (h14 : T14 A S) {g : Nat} (hg : g = 1 ∨ g = 2) : f_X1_mostMet 0 (nI g) S = some (nI (MOA A g)) := by
  have hn := hA.c1.2
  have e : z_iter zFU (b_X1_mostMet_7 0 (nI g) S) ((0 : Int32), (0 : Int32), (0 : Int32)) = some (nI (BS (thA A) (aN A 1)).1, nI (BS (thA A) (aN A 1)).2) := by
    refine z_for0 (fun j => (nI (BS (thA A) j).1, nI (BS (thA A) j).2, nI j)) (aN A 1) rfl (by omega) (fun j hj => ?_) ?_
    · have h40 := BS_40 (fun s => thA_le hA s) j
      have ht := thA_le hA j
      have e1 : BS (thA A) (j + 1) = if (BS (thA A) j).1 < thA A j then (thA A j, (BS (thA A) j).1) else if (BS (thA A) j).2 < thA A j then ((BS (thA A) j).1, thA A j) else BS (thA A) j := rfl
      have el : zld S 14 0 (nI j) = some (nI (thA A j)) := by rw [zld_at (hR.len 14 8 rfl) (by omega) (by decide), h14 j (by omega)]
      unfold b_X1_mostMet_7
      dsimp only
      refine (o_b (hR.ref 1 0 rfl)).trans ?_
      rw [hR.nT hA, if_neg (by rw [nI_leI (by omega) (by omega)]; omega)]
      refine (o_b (hR.ref 1 1 rfl)).trans ?_
      refine (o_b el).trans ?_
      rw [nI_1, e1]
      by_cases a : thA A j ≤ (BS (thA A) j).1
      · rw [if_pos ((nI_leI (by omega) (by omega)).mpr a), if_neg (show ¬ (BS (thA A) j).1 < thA A j by omega)]
        refine (o_b (hR.ref 1 1 rfl)).trans ?_
        refine (o_b el).trans ?_
        by_cases b : thA A j ≤ (BS (thA A) j).2
        · rw [if_pos ((nI_leI (by omega) (by omega)).mpr b), if_neg (show ¬ (BS (thA A) j).2 < thA A j by omega)]
        · rw [if_neg (fun z => b ((nI_leI (by omega) (by omega)).mp z)), if_pos (show (BS (thA A) j).2 < thA A j by omega)]
          refine (o_b (hR.ref 1 1 rfl)).trans ?_
          exact (o_b el).trans rfl
      · rw [if_neg (fun z => a ((nI_leI (by omega) (by omega)).mp z)), if_pos (show (BS (thA A) j).1 < thA A j by omega)]
        refine (o_b (hR.ref 1 1 rfl)).trans ?_
        exact (o_b el).trans rfl
    · unfold b_X1_mostMet_7
      dsimp only
      refine (o_b (hR.ref 1 0 rfl)).trans ?_
      rw [hR.nT hA, if_pos (nI_le (Nat.le_refl _) (by omega))]
  unfold f_X1_mostMet MOA MO
  refine (o_b e).trans ?_
  rcases hg with rfl | rfl
  · rw [if_neg (show ¬ ¬ nI 1 = 1 from fun z => z rfl), if_pos rfl]
  · rw [if_pos (show ¬ nI 2 = 1 by decide), if_neg (by decide), nI_add]
/-- two walks (or one, and 0) that meet the most -/
def OKP (A : ZA) (h g c0 c1 : Nat) : Prop := c0 < (aN A 1) ^ h ∧ vld A h c0 ∧ (if g = 1 then c1 = 0 ∧ lv A (kdc A h c0) none = MOA A g else c1 < (aN A 1) ^ h ∧ vld A h c1 ∧ lv A (kdc A h c0) (kdc A h c1) = MOA A g)
theorem FW.h21 {A : ZA} {h N : Nat} {S S' : ZH} (w : FW A h N S) (f : H21 S S') : FW A h N S' := fun k hk => by
  obtain ⟨x, a, b⟩ := w k hk
  exact ⟨x, by rw [(f 15 (by omega) (by omega)).2.2.1]; exact a, b⟩
theorem T14.h21 {A : ZA} {S S' : ZH} (h14 : T14 A S) (f : H21 S S') : T14 A S' := fun s hs => by rw [(f 14 (by omega) (by omega)).2.2.1]; exact h14 s hs
theorem firstMate_eq {A : ZA} {S : ZH} (hA : AIn A) (hR : RC A S) (h14 : T14 A S) {h g c0 : Nat} (hh : h ≤ 3) (hg : g = 1 ∨ g = 2) (hw : FW A h ((aN A 1) ^ h) S) (hc0 : c0 < (aN A 1) ^ h) (hv0 : vld A h c0) : ∃ F S1, f_X1_firstMate 0 (nI (knc A h c0)) (nI g) (nI (MOA A g)) S = some (nI F, S1) ∧ RC A S1 ∧ H21 S S1 ∧ F ≤ 999 ∧ (F = 999 ∨ OKP A h g c0 F) ∧ ∀ c1, OKP A h g c0 c1 → F ≤ c1 := by
  have hn := hA.c1.2
  have h512 := pow_512 hn hh
  have hM := MOA_80 hA g
  have k0 := kdc_ok hA (c := c0) hh
  unfold f_X1_firstMate
  rcases hg with rfl | rfl
  · have m := menMet_eq hA hR h14 k0
    have hm40 : mm A (kdc A h c0) ≤ 40 := by
      cases kdc A h c0 with
      | none => exact Nat.zero_le _
      | some p => exact thA_le hA _
    have el : lv A (kdc A h c0) none = mm A (kdc A h c0) := (lv_0 _).1
    by_cases q : mm A (kdc A h c0) = MOA A 1
    · refine ⟨0, S, ?_, hR, H21.rf, by omega, Or.inr ⟨hc0, hv0, ?_⟩, fun c1 _ => Nat.zero_le _⟩
      · rw [if_neg (show ¬ ¬ nI 1 = 1 from fun z => z rfl)]
        refine (o_b m).trans ?_
        rw [q, if_neg (fun z => z rfl)]; rfl
      · rw [if_pos rfl]; exact ⟨rfl, el.trans q⟩
    · refine ⟨999, S, ?_, hR, H21.rf, by omega, Or.inl rfl, fun c1 hc1 => ?_⟩
      · rw [if_neg (show ¬ ¬ nI 1 = 1 from fun z => z rfl)]
        refine (o_b m).trans ?_
        rw [if_pos (fun z => q (nI_inj (by omega) (by omega) z))]; rfl
      · have z := hc1.2.2
        rw [if_pos rfl] at z
        exact absurd (el.symm.trans z.2) q
  · have key := z_inv0 (b := b_X1_firstMate_30 0 (nI (knc A h c0)) (nI (MOA A 2))) (X := fun r : Int32 × ZH => ∃ F, r.1 = nI F ∧ RC A r.2 ∧ H21 S r.2 ∧ F ≤ 999 ∧ (F = 999 ∨ OKP A h 2 c0 F) ∧ ∀ c1, OKP A h 2 c0 c1 → F ≤ c1)
      (fun j v => v.2.1 = nI j ∧ ∃ F, v.1 = nI F ∧ RC A v.2.2 ∧ H21 S v.2.2 ∧ F ≤ 999 ∧ (F = 999 ∨ OKP A h 2 c0 F) ∧ ∀ c1, OKP A h 2 c0 c1 → knc A h c1 < j → F ≤ c1) 25 (v := ((999 : Int32), (0 : Int32), S)) (by omega) ⟨rfl, 999, rfl, hR, H21.rf, Nat.le_refl _, Or.inl rfl, fun c1 _ z => by omega⟩ (fun j v hj hI => ?_) (fun v hI => ?_)
    · obtain ⟨r, e1, F, x1, x2, x3, x4, x5, x6⟩ := key
      refine ⟨F, r.2, ?_, x2, x3, x4, x5, x6⟩
      rw [if_pos (show ¬ nI 2 = 1 by decide)]
      refine (o_b e1).trans ?_
      rw [x1]
    · obtain ⟨v1, v2, T⟩ := v
      obtain ⟨i1, F, i2, i3, i4, i5, i6, i7⟩ := hI
      replace i1 : v2 = nI j := i1
      replace i2 : v1 = nI F := i2
      replace i3 : RC A T := i3
      replace i4 : H21 S T := i4
      subst i1 i2
      obtain ⟨f, a1, a2, a3⟩ := (hw.h21 i4) j hj
      have hf : f ≤ 999 := by rcases a2 with a2 | ⟨a2, -⟩ <;> omega
      have el : zld T 15 0 (nI j) = some (nI f) := by rw [zld_at (i3.len 15 25 rfl) hj (by decide), a1]
      unfold b_X1_firstMate_30
      dsimp only
      rw [if_neg (show ¬ (24 : Int32) < nI j by rw [Int32.lt_iff_toInt_lt, show (24 : Int32) = nI 24 from rfl, nI_toInt (by omega), nI_toInt (by omega)]; omega)]
      by_cases q : F ≤ f
      · refine ⟨(nI F, nI (j + 1), T), ?_, rfl, F, rfl, i3, i4, i5, i6, fun c1 z1 z2 => ?_⟩
        · refine (o_b (i3.ref 1 2 rfl)).trans ?_
          refine (o_b el).trans ?_
          rw [if_pos (nI_le q (by omega)), nI_1]
        · by_cases y : knc A h c1 = j
          · have w := z1.2.2
            rw [if_neg (by decide)] at w
            have := a3 c1 w.1 w.2.1 y
            omega
          · exact i7 c1 z1 (by omega)
      · obtain ⟨b1, b2, b3⟩ : f < (aN A 1) ^ h ∧ vld A h f ∧ knc A h f = j := by
          rcases a2 with a2 | a2
          · omega
          · exact a2
        have kf := kdc_ok hA (c := f) hh
        obtain ⟨T1, e1, r1, f1⟩ := menBoth_eq hA i3 (h14.h21 i4) k0 kf
        have e1' : f_X1_menMetByBoth 0 (nI (knc A h c0)) (nI j) T = some (nI (lv A (kdc A h c0) (kdc A h f)), T1) := by rw [← b3]; exact e1
        have hl : lv A (kdc A h c0) (kdc A h f) ≤ 80 := by
          have := lval2_le (th := thA A) (D := aD A) (n := aN A 1) (k0 := kdc A h c0) (k1 := kdc A h f) (fun p hp => (k0 p hp).2) (fun p hp => (kf p hp).2)
          have h80 := MOA_80 hA 2
          exact Nat.le_trans this h80
        have same : ∀ c1, OKP A h 2 c0 c1 → knc A h c1 = j → lv A (kdc A h c0) (kdc A h f) = MOA A 2 ∧ f ≤ c1 := by
          intro c1 z1 y
          have w := z1.2.2
          rw [if_neg (by decide)] at w
          have e : kdc A h c1 = kdc A h f := kn_inj hA (kdc_ok hA hh) kf (y.trans b3.symm)
          rw [← e]
          exact ⟨w.2.2, a3 c1 w.1 w.2.1 y⟩
        by_cases q2 : lv A (kdc A h c0) (kdc A h f) = MOA A 2
        · refine ⟨(nI f, nI (j + 1), T1), ?_, rfl, f, rfl, r1, i4.tr f1, hf, Or.inr ⟨hc0, hv0, by rw [if_neg (by decide)]; exact ⟨b1, b2, q2⟩⟩, fun c1 z1 z2 => ?_⟩
          · refine (o_b (i3.ref 1 2 rfl)).trans ?_
            refine (o_b el).trans ?_
            rw [if_neg (by rw [nI_leI (by omega) (by omega)]; exact q)]
            refine (o_b e1').trans ?_
            rw [q2, if_neg (fun z => z rfl)]
            refine (o_b (r1.ref 1 2 rfl)).trans ?_
            have el2 : zld T1 15 0 (nI j) = some (nI f) := by rw [zld_at (r1.len 15 25 rfl) hj (by decide), (f1 15 (by omega) (by omega)).2.2.1, a1]
            refine (o_b el2).trans ?_
            rw [nI_1]
          · by_cases y : knc A h c1 = j
            · exact (same c1 z1 y).2
            · have := i7 c1 z1 (by omega)
              omega
        · refine ⟨(nI F, nI (j + 1), T1), ?_, rfl, F, rfl, r1, i4.tr f1, i5, i6, fun c1 z1 z2 => ?_⟩
          · refine (o_b (i3.ref 1 2 rfl)).trans ?_
            refine (o_b el).trans ?_
            rw [if_neg (by rw [nI_leI (by omega) (by omega)]; exact q)]
            refine (o_b e1').trans ?_
            rw [if_pos (fun z => q2 (nI_inj (by omega) (by omega) z)), nI_1]
          · by_cases y : knc A h c1 = j
            · exact absurd (same c1 z1 y).1 q2
            · exact i7 c1 z1 (by omega)
    · obtain ⟨v1, v2, T⟩ := v
      obtain ⟨i1, F, i2, i3, i4, i5, i6, i7⟩ := hI
      replace i1 : v2 = nI 25 := i1
      refine ⟨(v1, T), ?_, F, i2, i3, i4, i5, i6, fun c1 z1 => i7 c1 z1 (kn_lt hA hh)⟩
      unfold b_X1_firstMate_30
      dsimp only
      rw [i1, if_pos (show (24 : Int32) < nI 25 by decide)]
