theorem isTideC (x : Int32) (S : ZH) : f_X11_isTide x S = some (if rg x 0 899 then 1 else 0) := by
  unfold f_X11_isTide
  rw [within_eq]
  show (some (if rg x 0 899 then (1 : Int32) else 0)).bind _ = _
  by_cases h : rg x 0 899
  · rw [if_pos h]; rfl
  · rw [if_neg h]; rfl
theorem noTideM (x : Int32) (S : ZH) : f_X12_noTide x S = some (if rg x 0 899 then 0 else 1) := by
  unfold f_X12_noTide
  rw [in_eq, l_toInt]
  show (some (if rg x 0 899 then (1 : Int32) else 0)).bind _ = _
  by_cases h : rg x 0 899
  · rw [if_pos h, if_pos h]; rfl
  · rw [if_neg h, if_neg h]; rfl
theorem op_cover {A : ZA} (hA : AIn A) (x y t : Int32) : OpP A (f_X11_cover 0 x y t) (f_X12_cover 0 x y t) := by
  by_cases hx : isIx (aN A 15) x
  · obtain ⟨p, hp, rfl⟩ := hx
    by_cases hy : isIx (aN A 5) y
    · obtain ⟨m, hm, rfl⟩ := hy
      by_cases ht : rg t 0 899
      · refine .ro (aCov A p m t) (fun S h => ?_) (fun S h => ?_)
        · unfold f_X11_cover
          rw [findPaper_ix hA h hp, findMan_ix hA h hm, isTideC, if_pos ht]
          simp only [Option.bind_some]
          rw [coverage_eq h hp hm]; rfl
        · unfold f_X12_cover
          rw [noPaper_ix hA h.t hp, noMan_ix hA h.t hm, noTideM, if_pos ht, covers_eq hA h.t hp hm]; rfl
      · refine .ro (-2) (fun S h => ?_) (fun S h => ?_)
        · unfold f_X11_cover
          rw [findPaper_ix hA h hp, findMan_ix hA h hm, isTideC, if_neg ht]; rfl
        · unfold f_X12_cover
          rw [noPaper_ix hA h.t hp, noMan_ix hA h.t hm, noTideM, if_neg ht]; rfl
    · refine .ro (-1) (fun S h => ?_) (fun S h => ?_)
      · unfold f_X11_cover
        rw [findPaper_ix hA h hp, findMan_no hA h hy]; rfl
      · unfold f_X12_cover
        rw [noPaper_ix hA h.t hp, noMan_no hA h.t hy]; rfl
  · refine .ro (-1) (fun S h => ?_) (fun S h => ?_)
    · unfold f_X11_cover
      rw [findPaper_no hA h hx]
      by_cases hy : isIx (aN A 5) y
      · obtain ⟨m, hm, rfl⟩ := hy
        rw [findMan_ix hA h hm]; rfl
      · rw [findMan_no hA h hy]; rfl
    · unfold f_X12_cover
      rw [noPaper_no hA h.t hx]; rfl
theorem op_same {A : ZA} (hA : AIn A) (x t : Int32) : OpP A (f_X11_same 0 x t) (f_X12_same 0 x t) := by
  have h5 := hA.c5.2
  by_cases hx : isIx (aN A 15) x
  · obtain ⟨p, hp, rfl⟩ := hx
    by_cases ht : rg t 0 899
    · refine .ro (nI (cntN (fun m => !decide (aCov A p m t ≤ 0)) (aN A 5))) (fun S h => ?_) (fun S h => ?_)
      · unfold f_X11_same
        rw [findPaper_ix hA h hp, isTideC, if_pos ht]
        simp only [Option.bind_some]
        rw [z_cnt (fun m => !decide (aCov A p m t ≤ 0)) (n := aN A 5) (by omega) (fun j c hj => ?_) (fun c => ?_)]
        · rfl
        · unfold b_X11_same_28
          rw [h.nMen hA, if_neg (by rw [nI_leI (by omega) (by omega)]; omega), h.ref 11 1 rfl]
          simp only [Option.bind_some]
          rw [h.manAt hA hj]
          simp only [Option.bind_some]
          rw [coverage_eq h hp hj]
          by_cases e : aCov A p j t ≤ 0 <;> simp [e, nI_1]
        · unfold b_X11_same_28
          rw [h.nMen hA, if_pos (nI_le (Nat.le_refl _) (by omega))]
      · unfold f_X12_same
        rw [noPaper_ix hA h.t hp, noTideM, if_pos ht]
        simp only [Option.bind_some]
        rw [z_cnt (fun m => !decide (aCov A p m t ≤ 0)) (n := aN A 5) (by omega) (fun j c hj => ?_) (fun c => ?_)]
        · rfl
        · unfold b_X12_same_30
          rw [h.t.nMen hA, if_neg (by rw [nI_leI (by omega) (by omega)]; omega), covers_eq hA h.t hp hj]
          by_cases e : aCov A p j t ≤ 0 <;> simp [e, nI_1]
        · unfold b_X12_same_30
          rw [h.t.nMen hA, if_pos (nI_le (Nat.le_refl _) (by omega))]
    · refine .ro (-2) (fun S h => ?_) (fun S h => ?_)
      · unfold f_X11_same
        rw [findPaper_ix hA h hp, isTideC, if_neg ht]; rfl
      · unfold f_X12_same
        rw [noPaper_ix hA h.t hp, noTideM, if_neg ht]; rfl
  · refine .ro (-1) (fun S h => ?_) (fun S h => ?_)
    · unfold f_X11_same; rw [findPaper_no hA h hx]; rfl
    · unfold f_X12_same; rw [noPaper_no hA h.t hx]; rfl
/-! at -/
theorem ship_rng {n : Nat} (hn : n ≤ 10) {p : Int32} : isIx n (p - 10) ↔ 10 ≤ p.toInt ∧ p.toInt ≤ 9 + (n : Int) := by
  constructor
  · rintro ⟨i, hi, e⟩
    have e2 : p = nI (i + 10) := by
      rw [← nI_add, ← e]
      exact (Int32.sub_add_cancel _ _).symm
    rw [e2, nI_toInt (by omega)]
    omega
  · rintro ⟨h1, h2⟩
    refine ⟨(p.toInt - 10).toNat, by omega, ?_⟩
    have e2 : p = nI ((p.toInt - 10).toNat + 10) := by
      rw [i_eq, nI_toInt (by omega)]
      omega
    have e3 : p - 10 = nI ((p.toInt - 10).toNat + 10) - nI 10 := congrArg (· - nI 10) e2
    rw [e3, nI_sub (by omega)]
    congr 1
theorem op_at {A : ZA} (hA : AIn A) (p : Int32) : OpP A (f_X11_at 0 p) (f_X12_at 0 p) := by
  have c1 := hA.c1
  have c12 := c1.2
  have c9 := hA.c9
  have c92 := c9.2
  have e9 : ((9 : Int32) + A.1 9).toInt = 9 + (aN A 9 : Int) := by
    have e1 : (A.1 9).toInt = aN A 9 := by rw [c9.1, nI_toInt (by omega)]
    rw [i_add (by rw [e1, show (9 : Int32).toInt = 9 from rfl]; omega) (by rw [e1, show (9 : Int32).toInt = 9 from rfl]; omega), e1]; rfl
  by_cases a1 : isIx (aN A 1) p
  · refine .ro (nI (cntN (fun i => decide (aP A i = p)) (aN A 5))) (fun S h => ?_) (fun S h => ?_)
    · unfold f_X11_at f_X11_isPlace
      rw [h.ref 11 0 rfl, menIn_eq hA h]
      obtain ⟨i, hi, rfl⟩ := a1
      simp only [Option.bind_some]
      rw [has_ix hA h hi]; rfl
    · unfold f_X12_at
      rw [many_eq hA h.t, h.t.f 1 rfl, h.t.f 9 rfl, in_ix c1.1 (by omega) a1]; rfl
  · by_cases a2 : isIx (aN A 9) (p - 10)
    · refine .ro (nI (cntN (fun i => decide (aP A i = p)) (aN A 5))) (fun S h => ?_) (fun S h => ?_)
      · unfold f_X11_at f_X11_isPlace
        rw [h.ref 11 0 rfl, menIn_eq hA h]
        simp only [Option.bind_some]
        rw [has_no hA h a1]
        obtain ⟨i, hi, e⟩ := a2
        rw [e, findShip_ix hA h hi]; rfl
      · unfold f_X12_at
        rw [many_eq hA h.t, h.t.f 1 rfl, h.t.f 9 rfl, in_no c1.1 (by omega) a1, in_rg (p := 10) (q := 9 + (aN A 9 : Int)) rfl (by rw [l_toInt, e9]) ((ship_rng c92).mp a2)]; rfl
    · by_cases a3 : rg p 20 23
      · refine .ro (nI (cntN (fun i => decide (aP A i = p)) (aN A 5))) (fun S h => ?_) (fun S h => ?_)
        · unfold f_X11_at f_X11_isPlace
          rw [h.ref 11 0 rfl, menIn_eq hA h]
          simp only [Option.bind_some]
          rw [has_no hA h a1, findShip_no hA h a2, within_rg (p := 20) (q := 23) rfl rfl a3]; rfl
        · unfold f_X12_at
          rw [many_eq hA h.t, h.t.f 1 rfl, h.t.f 9 rfl, in_no c1.1 (by omega) a1, in_nr (p := 10) (q := 9 + (aN A 9 : Int)) rfl (by rw [l_toInt, e9]) (fun q => a2 ((ship_rng c92).mpr q)), in_rg (p := 20) (q := 23) rfl rfl a3]; rfl
      · refine .ro (-2) (fun S h => ?_) (fun S h => ?_)
        · unfold f_X11_at f_X11_isPlace
          rw [h.ref 11 0 rfl, menIn_eq hA h]
          simp only [Option.bind_some]
          rw [has_no hA h a1, findShip_no hA h a2, within_nr (p := 20) (q := 23) rfl rfl a3]; rfl
        · unfold f_X12_at
          rw [many_eq hA h.t, h.t.f 1 rfl, h.t.f 9 rfl, in_no c1.1 (by omega) a1, in_nr (p := 10) (q := 9 + (aN A 9 : Int)) rfl (by rw [l_toInt, e9]) (fun q => a2 ((ship_rng c92).mpr q)), in_nr (p := 20) (q := 23) rfl rfl a3]; rfl
/-! tender -/
theorem MV.F {A : ZA} {S : ZH} (h : MV A S) (j : Nat) (v : Int32) : MV (aF A j v) (zsI S 12 0 j v) := ⟨h.1, (h.2.F j v).tr zV_F⟩
theorem MV.R {A : ZA} {S : ZH} (h : MV A S) (k i : Nat) (v : Int32) (hk : 29 ≤ k) : MV (aR A k i v) (zsI S k 0 i v) := ⟨h.1, (h.2.R k i v).tr (zV_R hk)⟩
theorem frC_F {S : ZH} {j : Nat} {v : Int32} : frC S (zsI S 12 0 j v) := frC_sI (Or.inl rfl)
theorem frC_R {S : ZH} {k j : Nat} {v : Int32} (h1 : 29 ≤ k) (h2 : k ≤ 54) : frC S (zsI S k 0 j v) := frC_sI (Or.inr ⟨h1, h2⟩)
theorem nM (k : Nat) (h : (k != 12 && (Nat.ble k 28 || Nat.ble 55 k)) = true) : ¬ isM k := by
  simp only [Bool.and_eq_true, bne_iff_ne, Bool.or_eq_true, Nat.ble_eq] at h
  unfold isM
  omega
theorem op_tender {A : ZA} (hA : AIn A) (x y : Int32) : OpE A (f_X11_tender 0 x y) (f_X12_tender 0 x y) := by
  by_cases hx0 : x = 0
  · subst hx0
    by_cases hy : rg y 0 40
    · refine ⟨A.1 25, aF A 25 y, ⟨⟨hA.c1, hA.c1p, hA.c4, hA.c5, hA.c9, hA.c15, hA.c17, hA.c22, hA.c24, hA.c24l, hA.c31, hy, hA.rate⟩, hA.2⟩, fun S h => ⟨zsI S 11 0 17 y, ?_, ⟨h.sc, h.town, h.men, h.paps, h.acts, h.tks, h.shps, h.tix, ⟨h.misc.1, rfl, h.misc.2.2.1, h.misc.2.2.2⟩, h.bud⟩, frM_sI (nM 11 rfl)⟩, fun S h => ⟨zsI (tS S) 12 0 25 y, ?_, h.t.F 25 y, frC_t.tr frC_F⟩⟩
      · unfold f_X11_tender
        rw [within_rg (a := 0) (b := 40) (p := 0) (q := 40) rfl rfl hy, h.misc.2.1]; rfl
      · unfold f_X12_tender j_X12_tender_31 j_X12_tender_55
        rw [in_rg (p := 0) (q := 1) rfl rfl (by decide), in_rg (a := 0) (b := 40) (p := 0) (q := 40) rfl rfl hy, h.t.f 25 rfl]; rfl
    · refine .same hA (-2) (fun S h => ?_) (fun S h => ?_)
      · unfold f_X11_tender j_X11_tender_26
        rw [within_nr (a := 0) (b := 40) (p := 0) (q := 40) rfl rfl hy]; rfl
      · unfold f_X12_tender j_X12_tender_31
        rw [in_rg (p := 0) (q := 1) rfl rfl (by decide), in_nr (a := 0) (b := 40) (p := 0) (q := 40) rfl rfl hy]; rfl
  · by_cases hx1 : x = 1
    · subst hx1
      by_cases hy : rg y 0 100
      · refine ⟨A.1 26, aF A 26 y, ⟨⟨hA.c1, hA.c1p, hA.c4, hA.c5, hA.c9, hA.c15, hA.c17, hA.c22, hA.c24, hA.c24l, hA.c31, hA.room, hy⟩, hA.2⟩, fun S h => ⟨zsI S 11 0 18 y, ?_, ⟨h.sc, h.town, h.men, h.paps, h.acts, h.tks, h.shps, h.tix, ⟨h.misc.1, h.misc.2.1, rfl, h.misc.2.2.2⟩, h.bud⟩, frM_sI (nM 11 rfl)⟩, fun S h => ⟨zsI (tS S) 12 0 26 y, ?_, h.t.F 26 y, frC_t.tr frC_F⟩⟩
        · unfold f_X11_tender j_X11_tender_26
          rw [within_rg (a := 0) (b := 100) (p := 0) (q := 100) rfl rfl hy, h.misc.2.2.1]; rfl
        · unfold f_X12_tender j_X12_tender_31 j_X12_tender_55
          rw [in_rg (a := 0) (b := 1) (p := 0) (q := 1) rfl rfl (by decide), in_rg (a := 0) (b := 100) (p := 0) (q := 100) rfl rfl hy, h.t.f 26 rfl]; rfl
      · refine .same hA (-2) (fun S h => ?_) (fun S h => ?_)
        · unfold f_X11_tender j_X11_tender_26
          rw [within_nr (a := 0) (b := 100) (p := 0) (q := 100) rfl rfl hy]; rfl
        · unfold f_X12_tender j_X12_tender_31
          rw [in_rg (a := 0) (b := 1) (p := 0) (q := 1) rfl rfl (by decide), in_nr (a := 0) (b := 100) (p := 0) (q := 100) rfl rfl hy]; rfl
    · have hn : ¬ rg x 0 1 := by
        rintro ⟨h1, h2⟩
        rcases (show x.toInt = 0 ∨ x.toInt = 1 by omega) with e | e
        · exact hx0 (i_eq.mpr e)
        · exact hx1 (i_eq.mpr e)
      refine .same hA (-2) (fun S h => ?_) (fun S h => ?_)
      · unfold f_X11_tender j_X11_tender_26
        simp [hx0, hx1]
      · unfold f_X12_tender
        rw [in_nr (a := 0) (b := 1) (p := 0) (q := 1) rfl rfl hn]; rfl
