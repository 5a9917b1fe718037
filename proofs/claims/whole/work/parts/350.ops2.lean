theorem ne_of_nr {y : Int32} {n : Int} (hy : ¬ rg y 0 n) (k : Int32) (h0 : 0 ≤ k.toInt) (h1 : k.toInt ≤ n) : ¬ y = k := fun e => hy (by rw [e]; exact ⟨h0, h1⟩)
theorem op_purse {A : ZA} (x : Int32) : OpP A (f_X11_purse 0 x) (f_X12_purse 0 x) := by
  by_cases hx : rg x 0 9
  · obtain ⟨i, hi, rfl⟩ := rg_cases (n := 9) (by omega) hx
    refine .ro (A.2 53 i + 10000000) (fun S h => ?_) (fun S h => ?_)
    · unfold f_X11_purse f_X11_isHolder
      rw [within_rg (p := 0) (q := 9) rfl rfl hx, h.ref 11 12 rfl]
      simp only [Option.bind_some, show z_b 1 = 1 from rfl, if_true, if_neg (show ¬ (1 : Int32) = 0 by decide)]
      rw [zld_at (h.len 27 10 rfl) (by omega) (by decide), h.misc.2.2.2 i (by omega)]
      rfl
    · unfold f_X12_purse f_X12_noHolder
      rw [in_rg (p := 0) (q := 9) rfl rfl hx, h.t.ref 37 rfl]
      simp only [Option.bind_some, if_pos (show ¬ (1 : Int32) = 0 by decide), if_true]
      rw [h.t.ld 10 rfl rfl (by omega) (by decide)]
      rfl
  · refine .ro (-1) (fun S h => ?_) (fun S h => ?_)
    · unfold f_X11_purse f_X11_isHolder
      rw [within_nr (p := 0) (q := 9) rfl rfl hx]
      rfl
    · unfold f_X12_purse f_X12_noHolder
      rw [in_nr (p := 0) (q := 9) rfl rfl hx]
      rfl
theorem find5_ix {A : ZA} {S : ZH} (hA : AIn A) (h : RC A S) {i : Nat} (hi : i < aN A 22) : f_X5_find 0 (nI i) S = some (some i) := by
  have hc := hA.c22
  have hb := hc.2
  unfold f_X5_find
  rw [within_ix (h.tks.1.trans hc.1) (by omega) ⟨i, hi, rfl⟩, h.ref 5 1 rfl]
  simp only [Option.bind_some]
  rw [zldR_at (h.len 19 60 rfl) (by omega) (by decide), (h.tks.2.2.2 i hi).1]
  rfl
theorem find5_no {A : ZA} {S : ZH} (hA : AIn A) (h : RC A S) {x : Int32} (hx : ¬ isIx (aN A 22) x) : f_X5_find 0 x S = some none := by
  have hc := hA.c22
  have hb := hc.2
  unfold f_X5_find
  rw [within_no (h.tks.1.trans hc.1) (by omega) hx]
  rfl
theorem AIn.tk {A : ZA} (h : AIn A) {t : Nat} (ht : t < aN A 22) : isIx (aN A 4 + 1) (A.2 44 (6 * t)) ∧ isIx (aN A 5) (A.2 44 (6 * t + 1)) ∧ (A.2 44 (6 * t + 2) = -9 ∨ isIx (aN A 15) (A.2 44 (6 * t + 2))) ∧ (isIx (aN A 1) (A.2 44 (6 * t + 3)) ∨ rg (A.2 44 (6 * t + 3)) 10 19) ∧ b01 (A.2 44 (6 * t + 4)) ∧ b01 (A.2 44 (6 * t + 5)) := h.2.2.2.2.2.2.1 t ht
theorem ix6 (i j : Nat) : (6 : Int32) * nI i + nI j = nI (6 * i + j) := by
  rw [show (6 : Int32) = nI 6 from rfl, nI_mul, nI_add]
theorem op_taking {A : ZA} (hA : AIn A) (x y : Int32) : OpP A (f_X11_taking 0 x y) (f_X12_taking 0 x y) := by
  have c := hA.c22
  have c2 := c.2
  by_cases hx : isIx (aN A 22) x
  · obtain ⟨i, hi, rfl⟩ := hx
    have ht := hA.tk hi
    by_cases hy : rg y 0 5
    · obtain ⟨j, hj, rfl⟩ := rg_cases (n := 5) (by omega) hy
      refine .ro (A.2 44 (6 * i + j)) (fun S h => ?_) (fun S h => ?_)
      · have hm := (h.tks.2.2.2 i hi).2
        unfold f_X11_taking
        rw [h.ref 11 7 rfl]
        simp only [Option.bind_some]
        rw [find5_ix hA h hi]
        rcases (show j = 0 ∨ j = 1 ∨ j = 2 ∨ j = 3 ∨ j = 4 ∨ j = 5 by omega) with rfl | rfl | rfl | rfl | rfl | rfl <;> simp [nI, hm] <;> first | exact asNumber_b ht.2.2.2.2.1 | exact asNumber_b ht.2.2.2.2.2
      · unfold f_X12_taking
        rw [in_ix ((h.t.f 22 rfl).trans c.1) (by omega) ⟨i, hi, rfl⟩, in_rg (p := 0) (q := 5) rfl rfl hy, h.t.ref 23 rfl, ix6]
        simp only [Option.bind_some, if_pos (show ¬ (1 : Int32) = 0 by decide), if_neg (show ¬ (1 : Int32) = 0 by decide)]
        rw [h.t.ld 360 rfl rfl (by omega) (by decide)]
        rfl
    · refine .ro (-2) (fun S h => ?_) (fun S h => ?_)
      · unfold f_X11_taking
        rw [h.ref 11 7 rfl]
        simp only [Option.bind_some]
        rw [find5_ix hA h hi]
        simp [ne_of_nr hy 0 (by decide) (by decide), ne_of_nr hy 1 (by decide) (by decide), ne_of_nr hy 2 (by decide) (by decide), ne_of_nr hy 3 (by decide) (by decide), ne_of_nr hy 4 (by decide) (by decide), ne_of_nr hy 5 (by decide) (by decide)]
      · unfold f_X12_taking
        rw [in_ix ((h.t.f 22 rfl).trans c.1) (by omega) ⟨i, hi, rfl⟩, in_nr (p := 0) (q := 5) rfl rfl hy]
        rfl
  · refine .ro (-1) (fun S h => ?_) (fun S h => ?_)
    · unfold f_X11_taking
      rw [h.ref 11 7 rfl]
      simp only [Option.bind_some]
      rw [find5_no hA h hx]
      rfl
    · unfold f_X12_taking
      rw [in_no ((h.t.f 22 rfl).trans c.1) (by omega) hx]
      rfl
theorem AIn.tx {A : ZA} (h : AIn A) {t : Nat} (ht : t < aN A 31) : isIx (aN A 5) (A.2 48 t) ∧ rg (A.2 49 t) 1 4950 ∧ (A.2 50 t = -9 ∨ isIx 10 (A.2 50 t)) ∧ b01 (A.2 51 t) := (h.2.2.2.2.2.2.2.1 t (by have := h.c31.2; omega)).1 ht
theorem op_ticketOf {A : ZA} (hA : AIn A) (x y : Int32) : OpP A (f_X11_ticketOf 0 x y) (f_X12_ticketOf 0 x y) := by
  have c2 := hA.c31.2
  by_cases hx : isIx (aN A 31) x
  · obtain ⟨i, hi, rfl⟩ := hx
    have ht := hA.tx hi
    by_cases hy : rg y 0 3
    · obtain ⟨j, hj, rfl⟩ := rg_cases (n := 3) (by omega) hy
      refine .ro (if j = 0 then A.2 50 i else if j = 1 then A.2 51 i else if j = 2 then A.2 52 i else A.2 49 i) (fun S h => ?_) (fun S h => ?_)
      · have hm := h.tix.2.2 i hi
        unfold f_X11_ticketOf
        rw [findTicket_ix hA h hi]
        rcases (show j = 0 ∨ j = 1 ∨ j = 2 ∨ j = 3 by omega) with rfl | rfl | rfl | rfl <;> simp [nI, hm] <;> exact asNumber_b ht.2.2.2
      · unfold f_X12_ticketOf
        rw [noTicket_ix hA h.t hi, h.t.ref 34 rfl, h.t.ref 35 rfl, h.t.ref 36 rfl, h.t.ref 33 rfl]
        simp only [Option.bind_some]
        rw [h.t.ld (k := 50) 40 rfl rfl (by omega) (by decide), h.t.ld (k := 51) 40 rfl rfl (by omega) (by decide), h.t.ld (k := 52) 40 rfl rfl (by omega) (by decide), h.t.ld (k := 49) 40 rfl rfl (by omega) (by decide)]
        rcases (show j = 0 ∨ j = 1 ∨ j = 2 ∨ j = 3 by omega) with rfl | rfl | rfl | rfl <;> simp [nI]
        rcases ht.2.2.2 with e | e <;> simp [e]
    · refine .ro (-2) (fun S h => ?_) (fun S h => ?_)
      · unfold f_X11_ticketOf
        rw [findTicket_ix hA h hi]
        simp [ne_of_nr hy 0 (by decide) (by decide), ne_of_nr hy 1 (by decide) (by decide), ne_of_nr hy 2 (by decide) (by decide), ne_of_nr hy 3 (by decide) (by decide)]
      · unfold f_X12_ticketOf
        rw [noTicket_ix hA h.t hi]
        simp [ne_of_nr hy 0 (by decide) (by decide), ne_of_nr hy 1 (by decide) (by decide), ne_of_nr hy 2 (by decide) (by decide), ne_of_nr hy 3 (by decide) (by decide)]
  · refine .ro (-1) (fun S h => ?_) (fun S h => ?_)
    · unfold f_X11_ticketOf; rw [findTicket_no hA h hx]; rfl
    · unfold f_X12_ticketOf; rw [noTicket_no hA h.t hx]; rfl
theorem AIn.sh {A : ZA} (h : AIn A) {s : Nat} (hs : s < aN A 9) : b01 (A.2 34 s) ∧ rg (A.2 35 s) 1 20 ∧ rg (A.2 36 s) 0 20 ∧ rg (A.2 37 s) 0 20 ∧ b01 (A.2 38 s) := h.2.2.2.1.1 s hs
theorem op_of {A : ZA} (hA : AIn A) (x y : Int32) : OpP A (f_X11_of 0 x y) (f_X12_of 0 x y) := by
  have c2 := hA.c9.2
  by_cases hx : isIx (aN A 9) x
  · obtain ⟨i, hi, rfl⟩ := hx
    have ht := hA.sh hi
    by_cases hy : rg y 0 6
    · obtain ⟨j, hj, rfl⟩ := rg_cases (n := 6) (by omega) hy
      refine .ro (if j = 0 then A.2 34 i else if j = 1 then A.2 35 i else if j = 2 then A.2 36 i else if j = 3 then A.2 37 i else if j = 4 then (if A.2 38 i = 0 then 1 else 0) else if j = 5 then nI (cntN (fun k => decide (aP A k = 10 + nI i)) (aN A 5)) else nI (cntN (fun k => decide (aP A k = 10 + nI i) && isSea A k) (aN A 5))) (fun S h => ?_) (fun S h => ?_)
      · have hm := h.shps.2.2 i hi
        have hb : b01 (if A.2 38 i = 0 then 1 else 0) := by unfold b01; split <;> simp
        unfold f_X11_of
        rw [findShip_ix hA h hi, menIn_eq hA h, seamenIn_eq hA h]
        rcases (show j = 0 ∨ j = 1 ∨ j = 2 ∨ j = 3 ∨ j = 4 ∨ j = 5 ∨ j = 6 by omega) with rfl | rfl | rfl | rfl | rfl | rfl | rfl <;> simp [nI, hm] <;> exact asNumber_b hb
      · unfold f_X12_of
        rw [noShip_ix hA h.t hi, h.t.ref 10 rfl, h.t.ref 11 rfl, h.t.ref 12 rfl, h.t.ref 13 rfl, h.t.ref 14 rfl, many_eq hA h.t, skilled_eq hA h.t]
        simp only [Option.bind_some]
        rw [h.t.ld (k := 34) 10 rfl rfl (by omega) (by decide), h.t.ld (k := 35) 10 rfl rfl (by omega) (by decide), h.t.ld (k := 36) 10 rfl rfl (by omega) (by decide), h.t.ld (k := 37) 10 rfl rfl (by omega) (by decide), h.t.ld (k := 38) 10 rfl rfl (by omega) (by decide)]
        rcases (show j = 0 ∨ j = 1 ∨ j = 2 ∨ j = 3 ∨ j = 4 ∨ j = 5 ∨ j = 6 by omega) with rfl | rfl | rfl | rfl | rfl | rfl | rfl <;> simp [nI]
        rcases ht.2.2.2.2 with e | e <;> simp [e]
    · have hn := fun k h0 h1 => ne_of_nr hy k h0 h1
      refine .ro (-2) (fun S h => ?_) (fun S h => ?_)
      · unfold f_X11_of
        rw [findShip_ix hA h hi]
        simp [hn 0 (by decide) (by decide), hn 1 (by decide) (by decide), hn 2 (by decide) (by decide), hn 3 (by decide) (by decide), hn 4 (by decide) (by decide), hn 5 (by decide) (by decide), hn 6 (by decide) (by decide)]
      · unfold f_X12_of
        rw [noShip_ix hA h.t hi]
        simp [hn 0 (by decide) (by decide), hn 1 (by decide) (by decide), hn 2 (by decide) (by decide), hn 3 (by decide) (by decide), hn 4 (by decide) (by decide), hn 5 (by decide) (by decide), hn 6 (by decide) (by decide)]
  · refine .ro (-1) (fun S h => ?_) (fun S h => ?_)
    · unfold f_X11_of; rw [findShip_no hA h hx]; rfl
    · unfold f_X12_of; rw [noShip_no hA h.t hx]; rfl
