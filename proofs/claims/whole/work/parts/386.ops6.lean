/-! ===== board, turn, shy ===== -/
theorem cntN_upd {f g : Nat → Bool} {i : Nat} : ∀ {n : Nat}, i < n → f i = false → g i = true → (∀ j, j < n → j ≠ i → g j = f j) → cntN g n = cntN f n + 1
  | 0, h, _, _, _ => by omega
  | n + 1, h, hf, hg, hh => by
    show cntN g n + (if g n = true then 1 else 0) = cntN f n + (if f n = true then 1 else 0) + 1
    by_cases e : i = n
    · subst e
      rw [cntN_congr (f := g) (g := f) (fun j hj => hh j (by omega) (by omega)), hf, hg]
      simp
    · rw [cntN_upd (i := i) (n := n) (by omega) hf hg (fun j hj hne => hh j (by omega) hne), hh n (by omega) (by omega)]
      omega
theorem go_aP {A : ZA} {i j : Nat} {p : Int32} (hi : i < 40) (hj : j < 40) : aP (A_go A i p) j = if j = i then p else aP A j := by
  have := go_pl (A := A) (t := aN A 4) (p := p) hi hj
  simp only [true_and] at this
  exact this
theorem isPl_s {A : ZA} {s : Nat} (hs : s < aN A 9) : isPl A (nI (10 + s)) := Or.inr (Or.inl ⟨s, hs, rfl⟩)
theorem ship_ne21 {s : Nat} (hs : s < 10) : nI (10 + s) ≠ 21 := fun e => by
  have := nI_inj (a := 10 + s) (b := 21) (by omega) (by decide) e
  omega
theorem RC.ship {A : ZA} {S : ZH} (h : RC A S) {s : Nat} (hs : s < aN A 9) : zI S 6 s 4 = (if A.2 38 s = 0 then 1 else 0) ∧ zI S 6 s 1 = A.2 35 s := ⟨(h.shps.2.2 s hs).2.2.2.2.2, (h.shps.2.2 s hs).2.2.1⟩
theorem op_board {A : ZA} (hA : AIn A) (x y : Int32) : OpE A (f_X11_board 0 x y) (f_X12_board 0 x y) := by
  have c5 := hA.c5.2
  have c9 := hA.c9.2
  by_cases hx : isIx (aN A 5) x
  · obtain ⟨i, hi, rfl⟩ := hx
    by_cases hy : isIx (aN A 9) y
    · obtain ⟨s, hs, rfl⟩ := hy
      by_cases hst : stB (aP A i) = true
      · by_cases ho : A.2 38 s = 0
        · by_cases hq : nI (cntN (fun i => decide (aP A i = nI (10 + s))) (aN A 5)) < 2 * A.2 35 s
          · refine .go hA (i := i) (p := nI (10 + s)) (r := nI (cntN (fun i => decide (aP A i = nI (10 + s))) (aN A 5) + 1)) hi (isPl_s hs) (ship_ne21 (by omega)) (fun S h S1 e _ => ?_) (fun S h hg hM => ?_)
            · unfold f_X11_board
              rw [findMan_ix hA h hi, findShip_ix hA h hs]
              simp only [Option.bind_some]
              rw [h.pl hi, isStreetC, if_pos hst, (h.ship hs).1, (h.ship hs).2, ship_add, menIn_eq hA h, h.misc.1, e, if_pos ho]
              simp only [Option.bind_some]
              rw [if_pos hq, show (nI (cntN (fun i => decide (aP A i = nI (10 + s))) (aN A 5)) + 1 : Int32) = nI (cntN (fun i => decide (aP A i = nI (10 + s))) (aN A 5) + 1) from nI_p _ 1]
              rfl
            · unfold f_X12_board
              rw [noMan_ix hA h.t hi, noShip_ix hA h.t hs, placeOf_eq hA h.t hi, ship_add, many_eq hA h.t, h.t.ref 14 rfl, h.t.ref 11 rfl, hg _ h.t]
              simp only [Option.bind_some]
              rw [isStreetM, if_pos hst, h.t.ld 10 rfl rfl (by omega) (by decide), h.t.ld 10 rfl rfl (by omega) (by decide), ho]
              simp only [Option.bind_some]
              rw [if_pos hq, many_eq (go_AIn hA hi (isPl_s hs)) hM]
              have e5 : aN (A_go A i (nI (10 + s))) 5 = aN A 5 := rfl
              have ec : cntN (fun j => decide (aP (A_go A i (nI (10 + s))) j = nI (10 + s))) (aN A 5) = cntN (fun j => decide (aP A j = nI (10 + s))) (aN A 5) + 1 := by
                refine cntN_upd hi ?_ ?_ (fun j hj hne => ?_)
                · simp only [decide_eq_false_iff_not]
                  intro e
                  rw [e] at hst
                  simp only [stB, decide_eq_true_eq, rg] at hst
                  rw [nI_toInt (by omega)] at hst
                  omega
                · rw [go_aP (by omega) (by omega), if_pos rfl]; simp
                · rw [go_aP (by omega) (by omega), if_neg hne]
              rw [e5, ec]
              rfl
          · refine .same hA (-4) (fun S h => ?_) (fun S h => ?_)
            · unfold f_X11_board
              rw [findMan_ix hA h hi, findShip_ix hA h hs]
              simp only [Option.bind_some]
              rw [h.pl hi, isStreetC, if_pos hst, (h.ship hs).1, (h.ship hs).2, ship_add, menIn_eq hA h, if_pos ho]
              simp only [Option.bind_some]
              rw [if_neg hq]; rfl
            · unfold f_X12_board
              rw [noMan_ix hA h.t hi, noShip_ix hA h.t hs, placeOf_eq hA h.t hi, ship_add, many_eq hA h.t, h.t.ref 14 rfl, h.t.ref 11 rfl]
              simp only [Option.bind_some]
              rw [isStreetM, if_pos hst, h.t.ld 10 rfl rfl (by omega) (by decide), h.t.ld 10 rfl rfl (by omega) (by decide), ho]
              simp only [Option.bind_some]
              rw [if_neg hq]; rfl
        · refine .same hA (-3) (fun S h => ?_) (fun S h => ?_)
          · unfold f_X11_board
            rw [findMan_ix hA h hi, findShip_ix hA h hs]
            simp only [Option.bind_some]
            rw [h.pl hi, isStreetC, if_pos hst, (h.ship hs).1, if_neg ho]; rfl
          · unfold f_X12_board
            rw [noMan_ix hA h.t hi, noShip_ix hA h.t hs, placeOf_eq hA h.t hi, h.t.ref 14 rfl]
            simp only [Option.bind_some]
            rw [isStreetM, if_pos hst, h.t.ld 10 rfl rfl (by omega) (by decide)]
            simp only [Option.bind_some]
            rw [if_neg ho]; rfl
      · refine .same hA (-3) (fun S h => ?_) (fun S h => ?_)
        · unfold f_X11_board
          rw [findMan_ix hA h hi, findShip_ix hA h hs]
          simp only [Option.bind_some]
          rw [h.pl hi, isStreetC, if_neg hst]; rfl
        · unfold f_X12_board
          rw [noMan_ix hA h.t hi, noShip_ix hA h.t hs, placeOf_eq hA h.t hi]
          simp only [Option.bind_some]
          rw [isStreetM, if_neg hst]; rfl
    · refine .same hA (-1) (fun S h => ?_) (fun S h => ?_)
      · unfold f_X11_board; rw [findMan_ix hA h hi, findShip_no hA h hy]; rfl
      · unfold f_X12_board; rw [noMan_ix hA h.t hi, noShip_no hA h.t hy]; rfl
  · by_cases hy : isIx (aN A 9) y
    · obtain ⟨s, hs, rfl⟩ := hy
      refine .same hA (-1) (fun S h => ?_) (fun S h => ?_)
      · unfold f_X11_board; rw [findMan_no hA h hx, findShip_ix hA h hs]; rfl
      · unfold f_X12_board; rw [noMan_no hA h.t hx]; rfl
    · refine .same hA (-1) (fun S h => ?_) (fun S h => ?_)
      · unfold f_X11_board; rw [findMan_no hA h hx, findShip_no hA h hy]; rfl
      · unfold f_X12_board; rw [noMan_no hA h.t hx]; rfl
theorem op_turn {A : ZA} (hA : AIn A) (x y : Int32) : OpE A (f_X11_turn 0 x y) (f_X12_turn 0 x y) := by
  have c5 := hA.c5.2
  have c9 := hA.c9.2
  by_cases hx : isIx (aN A 5) x
  · obtain ⟨i, hi, rfl⟩ := hx
    by_cases hy : isIx (aN A 9) y
    · obtain ⟨s, hs, rfl⟩ := hy
      by_cases hst : aP A i = 20 ∨ hereB A (aP A i) = true
      · have eX : ∀ S, RC A S → f_X11_turn 0 (nI i) (nI s) S = j_X11_turn_49 0 (nI s) i (some s) 1 S := by
          intro S h
          unfold f_X11_turn j_X11_turn_44
          rw [findMan_ix hA h hi, findShip_ix hA h hs]
          simp only [Option.bind_some]
          rw [h.pl hi, inShip_eq hA h (hA.aP hi)]
          simp only [Option.bind_some]
          grind
        have eM : ∀ S, MV A S → f_X12_turn 0 (nI i) (nI s) S = j_X12_turn_43 0 (nI i) (nI s) (aP A i) (tS S) := by
          intro S h
          unfold f_X12_turn
          rw [noMan_ix hA h.t hi, noShip_ix hA h.t hs, placeOf_eq hA h.t hi]
          simp only [Option.bind_some]
          rw [isHere_eq hA h.t (hA.aP hi)]
          simp only [Option.bind_some]
          grind
        by_cases hh : aP A i = nI (10 + s)
        · refine .same hA (-3) (fun S h => ?_) (fun S h => ?_)
          · rw [eX S h]
            unfold j_X11_turn_49
            rw [h.pl hi, ship_add, if_pos hh]; rfl
          · rw [eM S h]
            unfold j_X12_turn_43
            rw [ship_add, if_pos hh]
        · by_cases ho : A.2 38 s = 0
          · by_cases hq : nI (cntN (fun i => decide (aP A i = nI (10 + s))) (aN A 5)) < 2 * A.2 35 s
            · refine .go hA (i := i) (p := nI (10 + s)) (r := aP A i) hi (isPl_s hs) (ship_ne21 (by omega)) (fun S h S1 e _ => ?_) (fun S h hg hM => ?_)
              · rw [eX S h]
                unfold j_X11_turn_49
                rw [h.pl hi, ship_add, if_neg hh, menIn_eq hA h, h.misc.1, e]
                simp only [Option.bind_some]
                rw [(h.ship hs).1, (h.ship hs).2, if_pos ho, if_pos hq]
                rfl
              · rw [eM S h]
                unfold j_X12_turn_43
                rw [ship_add, if_neg hh, many_eq hA h.t, h.t.ref 14 rfl, h.t.ref 11 rfl, hg _ h.t]
                simp only [Option.bind_some]
                rw [h.t.ld 10 rfl rfl (by omega) (by decide), h.t.ld 10 rfl rfl (by omega) (by decide), ho]
                simp only [Option.bind_some]
                rw [if_pos hq]; rfl
            · refine .same hA (-4) (fun S h => ?_) (fun S h => ?_)
              · rw [eX S h]
                unfold j_X11_turn_49
                rw [h.pl hi, ship_add, if_neg hh, menIn_eq hA h]
                simp only [Option.bind_some]
                rw [(h.ship hs).1, (h.ship hs).2, if_pos ho, if_neg hq]
                rfl
              · rw [eM S h]
                unfold j_X12_turn_43
                rw [ship_add, if_neg hh, many_eq hA h.t, h.t.ref 14 rfl, h.t.ref 11 rfl]
                simp only [Option.bind_some]
                rw [h.t.ld 10 rfl rfl (by omega) (by decide), h.t.ld 10 rfl rfl (by omega) (by decide), ho]
                simp only [Option.bind_some]
                rw [if_neg hq]; rfl
          · refine .same hA (-3) (fun S h => ?_) (fun S h => ?_)
            · rw [eX S h]
              unfold j_X11_turn_49
              rw [h.pl hi, ship_add, if_neg hh]
              simp only [Option.bind_some]
              rw [(h.ship hs).1, if_neg ho]; rfl
            · rw [eM S h]
              unfold j_X12_turn_43
              rw [ship_add, if_neg hh, h.t.ref 14 rfl]
              simp only [Option.bind_some]
              rw [h.t.ld 10 rfl rfl (by omega) (by decide)]
              simp only [Option.bind_some]
              rw [if_neg ho]
      · refine .same hA (-3) (fun S h => ?_) (fun S h => ?_)
        · unfold f_X11_turn
          rw [findMan_ix hA h hi, findShip_ix hA h hs]
          simp only [Option.bind_some]
          rw [h.pl hi, inShip_eq hA h (hA.aP hi), if_neg (show ¬ aP A i = 20 from fun e => hst (Or.inl e)), if_neg (show ¬ hereB A (aP A i) = true from fun e => hst (Or.inr e))]
          rfl
        · unfold f_X12_turn
          rw [noMan_ix hA h.t hi, noShip_ix hA h.t hs, placeOf_eq hA h.t hi]
          simp only [Option.bind_some]
          rw [isHere_eq hA h.t (hA.aP hi), if_neg (show ¬ aP A i = 20 from fun e => hst (Or.inl e)), if_neg (show ¬ hereB A (aP A i) = true from fun e => hst (Or.inr e))]
          rfl
    · refine .same hA (-1) (fun S h => ?_) (fun S h => ?_)
      · unfold f_X11_turn; rw [findMan_ix hA h hi, findShip_no hA h hy]; rfl
      · unfold f_X12_turn; rw [noMan_ix hA h.t hi, noShip_no hA h.t hy]; rfl
  · by_cases hy : isIx (aN A 9) y
    · obtain ⟨s, hs, rfl⟩ := hy
      refine .same hA (-1) (fun S h => ?_) (fun S h => ?_)
      · unfold f_X11_turn; rw [findMan_no hA h hx, findShip_ix hA h hs]; rfl
      · unfold f_X12_turn; rw [noMan_no hA h.t hx]; rfl
    · refine .same hA (-1) (fun S h => ?_) (fun S h => ?_)
      · unfold f_X11_turn; rw [findMan_no hA h hx, findShip_no hA h hy]; rfl
      · unfold f_X12_turn; rw [noMan_no hA h.t hx]; rfl
