/-! ===== an operation: class and reference answer alike, and stay beside each other ===== -/
def OpE (A : ZA) (fx fm : ZH → Option (Int32 × ZH)) : Prop := ∃ r A1, AIn A1 ∧ (∀ S, RC A S → ∃ S1, fx S = some (r, S1) ∧ RC A1 S1 ∧ frM S S1) ∧ (∀ S, MV A S → ∃ S2, fm S = some (r, S2) ∧ MV A1 S2 ∧ frC S S2)
def OpP (A : ZA) (fx : ZH → Option Int32) (fm : ZH → Option (Int32 × ZH)) : Prop := ∃ r, (∀ S, RC A S → fx S = some r) ∧ (∀ S, MV A S → ∃ S2, fm S = some (r, S2) ∧ MV A S2 ∧ frC S S2)
theorem OpE.ro {A : ZA} {fx fm : ZH → Option (Int32 × ZH)} (hA : AIn A) (r : Int32) (h1 : ∀ S, RC A S → ∃ S1, fx S = some (r, S1) ∧ RC A S1 ∧ frM S S1) (h2 : ∀ S, MV A S → fm S = some (r, tS S)) : OpE A fx fm := ⟨r, A, hA, h1, fun S hS => ⟨tS S, h2 S hS, hS.t, frC_t⟩⟩
theorem OpP.ro {A : ZA} {fx : ZH → Option Int32} {fm : ZH → Option (Int32 × ZH)} (r : Int32) (h1 : ∀ S, RC A S → fx S = some r) (h2 : ∀ S, MV A S → fm S = some (r, tS S)) : OpP A fx fm := ⟨r, h1, fun S hS => ⟨tS S, h2 S hS, hS.t, frC_t⟩⟩
theorem OpE.same {A : ZA} {fx fm : ZH → Option (Int32 × ZH)} (hA : AIn A) (r : Int32) (h1 : ∀ S, RC A S → fx S = some (r, S)) (h2 : ∀ S, MV A S → fm S = some (r, tS S)) : OpE A fx fm := .ro hA r (fun S hS => ⟨S, h1 S hS, hS, frM.rf⟩) h2
theorem op_tide {A : ZA} : OpP A (f_X11_tide 0) (f_X12_tide 0) := by
  refine .ro (A.1 4) (fun S h => ?_) (fun S h => ?_)
  · show some (zI S 11 0 16) = _; rw [h.misc.1]
  · show some (zI (tS S) 12 0 4, tS S) = _; rw [h.t.f 4 rfl]
theorem asNumber_b {x : Int32} {S : ZH} (h : b01 x) : f_X11_asNumber x S = some x := by
  rcases h with rfl | rfl <;> rfl
theorem AIn.man {A : ZA} (h : AIn A) {i : Nat} (hi : i < aN A 5) : rg (A.2 31 (8 * i)) 10 60 ∧ rg (A.2 31 (8 * i + 1)) 0 3 ∧ rg (A.2 31 (8 * i + 2)) 0 3 ∧ rg (A.2 31 (8 * i + 3)) 50 80 ∧ rg (A.2 31 (8 * i + 4)) 0 5 ∧ rg (A.2 31 (8 * i + 5)) 0 40 ∧ isIx (aN A 1) (A.2 31 (8 * i + 6)) ∧ b01 (A.2 31 (8 * i + 7)) := h.2.2.1.1 i hi
theorem RC.man {A : ZA} {S : ZH} (h : RC A S) {i : Nat} (hi : i < aN A 5) : RMan A S i := (h.men.2.2.1 i hi).2
/-- a number between 0 and 7, one by one -/
theorem rg_cases {x : Int32} {n : Nat} (hn : n < 1000) (h : rg x 0 n) : ∃ j, j ≤ n ∧ x = nI j := by
  obtain ⟨i, hi, rfl⟩ := (isIx_iff (n := n + 1) (by omega)).mpr ⟨h.1, by have := h.2; omega⟩
  exact ⟨i, by omega, rfl⟩
theorem ix8 (i j : Nat) : (8 : Int32) * nI i + nI j = nI (8 * i + j) := by
  rw [show (8 : Int32) = nI 8 from rfl, nI_mul, nI_add]
theorem op_about {A : ZA} (hA : AIn A) (x y : Int32) : OpP A (f_X11_about 0 x y) (f_X12_about 0 x y) := by
  have c5 := hA.c5.2
  by_cases hx : isIx (aN A 5) x
  · obtain ⟨i, hi, rfl⟩ := hx
    by_cases hy : rg y 0 7
    · obtain ⟨j, hj, rfl⟩ := rg_cases (n := 7) (by omega) hy
      refine .ro (A.2 31 (8 * i + j)) (fun S h => ?_) (fun S h => ?_)
      · have hm := (h.man hi).1
        have h7 := (hA.man hi).2.2.2.2.2.2.2
        unfold f_X11_about
        rw [findMan_ix hA h hi]
        rcases (show j = 0 ∨ j = 1 ∨ j = 2 ∨ j = 3 ∨ j = 4 ∨ j = 5 ∨ j = 6 ∨ j = 7 by omega) with rfl | rfl | rfl | rfl | rfl | rfl | rfl | rfl <;> simp [nI, hm] <;> rw [asNumber_b h7] <;> rfl
      · show f_X12_about 0 (nI i) (nI j) S = _
        unfold f_X12_about
        show ((f_X12_noMan 0 (nI i) (tS S)).bind _) = _
        rw [noMan_ix hA h.t hi]
        simp only [Option.bind_some, if_pos]
        show ((f_X12_in (nI j).toInt64 0 7 (tS S)).bind _) = _
        rw [in_rg (p := 0) (q := 7) rfl rfl hy]
        simp only [Option.bind_some]
        rw [if_neg (by decide)]
        show ((zR (tS S) 12 0 6).bind _) = _
        rw [h.t.ref 6 rfl]
        simp only [Option.bind_some]
        rw [ix8]
        show ((zld (tS S) 31 0 (nI (8 * i + j))).bind _) = _
        rw [h.t.ld 320 rfl rfl (by omega) (by decide)]
        rfl
    · refine .ro (-2) (fun S h => ?_) (fun S h => ?_)
      · unfold f_X11_about
        rw [findMan_ix hA h hi]
        have hne : ∀ n : Int32, 0 ≤ n.toInt → n.toInt ≤ 7 → ¬ y = n := fun n h1 h2 e => hy (by rw [e]; exact ⟨h1, h2⟩)
        simp [hne 0 (by decide) (by decide), hne 1 (by decide) (by decide), hne 2 (by decide) (by decide), hne 3 (by decide) (by decide), hne 4 (by decide) (by decide), hne 5 (by decide) (by decide), hne 6 (by decide) (by decide), hne 7 (by decide) (by decide)]
      · unfold f_X12_about
        show ((f_X12_noMan 0 (nI i) (tS S)).bind _) = _
        rw [noMan_ix hA h.t hi]
        simp only [Option.bind_some, if_pos]
        show ((f_X12_in y.toInt64 0 7 (tS S)).bind _) = _
        rw [in_nr (p := 0) (q := 7) rfl rfl hy]
        rfl
  · refine .ro (-1) (fun S h => ?_) (fun S h => ?_)
    · unfold f_X11_about
      rw [findMan_no hA h hx]
      rfl
    · unfold f_X12_about
      show ((f_X12_noMan 0 x (tS S)).bind _) = _
      rw [noMan_no hA h.t hx]
      rfl
