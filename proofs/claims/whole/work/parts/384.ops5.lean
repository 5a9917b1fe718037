/-! ===== walk, run, letGo, board, turn ===== -/
theorem go_eq {A : ZA} {S : ZH} (hA : AIn A) (h : MV A S) {i : Nat} (hi : i < aN A 5) (p : Int32) : f_X12_go 0 (nI i) p S = some (zsI S 33 0 (40 * aN A 4 + i) p) := by
  have c4 := hA.c4.2
  have c5 := hA.c5.2
  unfold f_X12_go
  rw [h.ref 8 rfl, h.f 4 rfl, hA.c4.1, ix40]
  exact h.st 36000 rfl (by omega) (by decide)
theorem OpE.go {A : ZA} {fx fm : ZH → Option (Int32 × ZH)} (hA : AIn A) {i : Nat} {p r : Int32} (hi : i < aN A 5) (hp : isPl A p) (h21 : p ≠ 21) (h1 : ∀ S, RC A S → ∀ S1, f_X3_goTo i p (A.1 4) S = some (aP A i, S1) → RC (A_go A i p) S1 → fx S = some (r, S1)) (h2 : ∀ S, MV A S → (∀ S', MV A S' → f_X12_go 0 (nI i) p S' = some (zsI S' 33 0 (40 * aN A 4 + i) p)) → MV (A_go A i p) (zsI (tS S) 33 0 (40 * aN A 4 + i) p) → fm S = some (r, zsI (tS S) 33 0 (40 * aN A 4 + i) p)) : OpE A fx fm := by
  refine ⟨r, A_go A i p, go_AIn hA hi hp, fun S h => ?_, fun S h => ?_⟩
  · obtain ⟨S1, e, g⟩ := goTo_eq (p := p) hA h hi
    rw [← hA.c4.1] at e
    exact ⟨S1, h1 S h S1 e (g.rc hA h hi h21), g.rc hA h hi h21, g.fr⟩
  · have hM : MV (A_go A i p) (zsI (tS S) 33 0 (40 * aN A 4 + i) p) := h.t.R 33 _ p (by decide)
    exact ⟨_, h2 S h (fun S' h' => go_eq hA h' hi p) hM, hM, frC_t.tr (frC_R (by decide) (by decide))⟩
theorem isAshoreC (p : Int32) (S : ZH) : f_X11_isAshore p S = some (if stB p = true ∨ p = 22 then 1 else 0) := by
  unfold f_X11_isAshore
  rw [isStreetC]
  simp only [Option.bind_some]
  by_cases e : stB p = true
  · simp [e]
  · by_cases e2 : p = 22
    · subst e2; simp [e]
    · simp [e, e2]
theorem op_walk {A : ZA} (hA : AIn A) (x y : Int32) : OpE A (f_X11_walk 0 x y) (f_X12_walk 0 x y) := by
  by_cases hx : isIx (aN A 5) x
  · obtain ⟨i, hi, rfl⟩ := hx
    by_cases hy : isIx (aN A 1) y
    · obtain ⟨s, hs, rfl⟩ := hy
      by_cases ha : stB (aP A i) = true ∨ aP A i = 22
      · refine .go hA (i := i) (p := nI s) (r := aP A i) hi (Or.inl ⟨s, hs, rfl⟩) (fun e => by have := hA.c1.2; have := nI_inj (a := s) (b := 21) (by omega) (by decide) e; omega) (fun S h S1 e _ => ?_) (fun S h hg _ => ?_)
        · unfold f_X11_walk
          rw [findMan_ix hA h hi, h.ref 11 0 rfl]
          simp only [Option.bind_some]
          rw [has_ix hA h hs, h.pl hi, isAshoreC, if_pos ha, h.misc.1]
          simp only [Option.bind_some]
          rw [e]
          rfl
        · unfold f_X12_walk j_X12_walk_45
          rw [noMan_ix hA h.t hi, noStreet_ix hA h.t hs, placeOf_eq hA h.t hi, hg _ h.t]
          simp only [Option.bind_some]
          rw [isStreetM]
          simp only [Option.bind_some]
          rcases ha with ha | ha
          · simp [ha]
          · by_cases hb : stB (aP A i) = true
            · simp [hb]
            · simp [hb, ha]
      · refine .same hA (-3) (fun S h => ?_) (fun S h => ?_)
        · unfold f_X11_walk
          rw [findMan_ix hA h hi, h.ref 11 0 rfl]
          simp only [Option.bind_some]
          rw [has_ix hA h hs, h.pl hi, isAshoreC, if_neg ha]
          rfl
        · unfold f_X12_walk
          rw [noMan_ix hA h.t hi, noStreet_ix hA h.t hs, placeOf_eq hA h.t hi]
          simp only [Option.bind_some]
          rw [isStreetM]
          rw [if_neg (show ¬ stB (aP A i) = true from fun e => ha (Or.inl e)), if_neg (show ¬ aP A i = 22 from fun e => ha (Or.inr e))]
          rfl
    · refine .same hA (-1) (fun S h => ?_) (fun S h => ?_)
      · unfold f_X11_walk
        rw [findMan_ix hA h hi, h.ref 11 0 rfl]
        simp only [Option.bind_some]
        rw [has_no hA h hy]; rfl
      · unfold f_X12_walk
        rw [noMan_ix hA h.t hi, noStreet_no hA h.t hy]; rfl
  · refine .same hA (-1) (fun S h => ?_) (fun S h => ?_)
    · unfold f_X11_walk; rw [findMan_no hA h hx]; rfl
    · unfold f_X12_walk; rw [noMan_no hA h.t hx]; rfl
theorem op_run {A : ZA} (hA : AIn A) (x : Int32) : OpE A (f_X11_run 0 x) (f_X12_run 0 x) := by
  by_cases hx : isIx (aN A 5) x
  · obtain ⟨i, hi, rfl⟩ := hx
    by_cases ha : aP A i = 23
    · refine .same hA (-3) (fun S h => ?_) (fun S h => ?_)
      · unfold f_X11_run
        rw [findMan_ix hA h hi]
        simp only [Option.bind_some]
        rw [h.pl hi, ha]; rfl
      · unfold f_X12_run
        rw [noMan_ix hA h.t hi, placeOf_eq hA h.t hi, ha]; rfl
    · refine .go hA (i := i) (p := 23) (r := aP A i) hi (Or.inr (Or.inr (Or.inr (Or.inr (Or.inr rfl))))) (by decide) (fun S h S1 e _ => ?_) (fun S h hg _ => ?_)
      · unfold f_X11_run
        rw [findMan_ix hA h hi]
        simp only [Option.bind_some]
        rw [h.pl hi, h.misc.1, e]
        simp [ha]
      · unfold f_X12_run
        rw [noMan_ix hA h.t hi, placeOf_eq hA h.t hi, hg _ h.t]
        simp [ha]
  · refine .same hA (-1) (fun S h => ?_) (fun S h => ?_)
    · unfold f_X11_run; rw [findMan_no hA h hx]; rfl
    · unfold f_X12_run; rw [noMan_no hA h.t hx]; rfl

/-- in a ship that is at home -/
def hereB (A : ZA) (p : Int32) : Bool := decide (rg p 10 19 ∧ A.2 38 (p.toInt - 10).toNat = 0)
theorem hereB_ship {A : ZA} {s : Nat} (hs : s < 10) : hereB A (nI (10 + s)) = decide (A.2 38 s = 0) := by
  have e1 : (nI (10 + s)).toInt = ((10 + s : Nat) : Int) := nI_toInt (by omega)
  have e : ((nI (10 + s)).toInt - 10).toNat = s := by omega
  have hr : rg (nI (10 + s)) 10 19 := by constructor <;> omega
  unfold hereB
  rw [e]
  exact decide_eq_decide.mpr ⟨And.right, fun q => ⟨hr, q⟩⟩
theorem isPl_ship {A : ZA} (hA : AIn A) {p : Int32} (h : isPl A p) (hr : rg p 10 19) : ∃ s, s < aN A 9 ∧ p = nI (10 + s) := by
  rcases h with ⟨i, hi, rfl⟩ | h | h
  · have := hA.c1.2
    rw [rg, nI_toInt (by omega)] at hr
    omega
  · exact h
  · rcases h with rfl | rfl | rfl | rfl <;> exact absurd hr (by decide)
theorem ship_sub {s : Nat} (hs : s < 10) : nI (10 + s) - (10 : Int32) = nI s := by
  have := nI_sub (a := 10 + s) (b := 10) (by omega)
  rw [show 10 + s - 10 = s by omega] at this
  exact this
theorem ship_add (s : Nat) : (10 : Int32) + nI s = nI (10 + s) := nI_add 10 s
theorem inShip_eq {A : ZA} {S : ZH} (hA : AIn A) (h : RC A S) {p : Int32} (hp : isPl A p) : f_X11_isInShipAtHome 0 p S = some (if hereB A p = true then 1 else 0) := by
  have c9 := hA.c9.2
  unfold f_X11_isInShipAtHome f_X11_isShip
  by_cases hr : rg p 10 19
  · obtain ⟨s, hs, rfl⟩ := isPl_ship hA hp hr
    rw [within_rg (p := 10) (q := 19) rfl rfl hr, ship_sub (by omega), findShip_ix hA h hs]
    simp only [Option.bind_some]
    rw [if_pos (show z_b (1 : Int32) = 1 by decide)]
    simp only [Option.bind_some]
    rw [if_neg (show ¬ (1 : Int32) = 0 by decide)]
    unfold j_X11_isInShipAtHome_19
    simp only [Option.bind_some]
    rw [(h.shps.2.2 s hs).2.2.2.2.2]
    rw [hereB_ship (by omega)]
    by_cases e0 : A.2 38 s = 0
    · simp [e0]
    · simp [e0]
  · rw [within_nr (p := 10) (q := 19) rfl rfl hr]
    have e : hereB A p = false := by unfold hereB; simp only [decide_eq_false_iff_not]; exact fun e => hr e.1
    rw [e]; rfl
theorem isHere_eq {A : ZA} {S : ZH} (hA : AIn A) (h : MV A S) {p : Int32} (hp : isPl A p) : f_X12_isHere 0 p S = some (if hereB A p = true then 1 else 0) := by
  have c9 := hA.c9.2
  unfold f_X12_isHere f_X12_isAboard
  by_cases hr : rg p 10 19
  · obtain ⟨s, hs, rfl⟩ := isPl_ship hA hp hr
    rw [in_rg (p := 10) (q := 19) rfl rfl hr, ship_sub (by omega), h.ref 14 rfl]
    simp only [Option.bind_some]
    rw [if_pos (show z_b (1 : Int32) = 1 by decide)]
    simp only [Option.bind_some]
    rw [if_neg (show ¬ (1 : Int32) = 0 by decide), h.ld 10 rfl rfl (by omega) (by decide)]
    simp only [Option.bind_some]
    rw [hereB_ship (by omega)]
    by_cases e0 : A.2 38 s = 0
    · simp [e0]
    · simp [e0]
  · rw [in_nr (p := 10) (q := 19) rfl rfl hr]
    have e : hereB A p = false := by unfold hereB; simp only [decide_eq_false_iff_not]; exact fun e => hr e.1
    rw [e]; rfl
theorem AIn.aP {A : ZA} (hA : AIn A) {i : Nat} (hi : i < aN A 5) : isPl A (aP A i) := hA.2.2.1.2 _ i (Nat.le_refl _) hi
theorem isIx_ne {n : Nat} (hn : n ≤ 8) {p : Int32} (h : isIx n p) : p ≠ 20 ∧ p ≠ 21 ∧ p ≠ 22 ∧ p ≠ 23 := by
  obtain ⟨i, hi, rfl⟩ := h
  refine ⟨fun e => ?_, fun e => ?_, fun e => ?_, fun e => ?_⟩
  · have := nI_inj (a := i) (b := 20) (by omega) (by decide) e; omega
  · have := nI_inj (a := i) (b := 21) (by omega) (by decide) e; omega
  · have := nI_inj (a := i) (b := 22) (by omega) (by decide) e; omega
  · have := nI_inj (a := i) (b := 23) (by omega) (by decide) e; omega
theorem op_letGo {A : ZA} (hA : AIn A) (x : Int32) : OpE A (f_X11_letGo 0 x) (f_X12_letGo 0 x) := by
  have c5 := hA.c5.2
  by_cases hx : isIx (aN A 5) x
  · obtain ⟨i, hi, rfl⟩ := hx
    by_cases ha : aP A i = 20 ∨ aP A i = 21 ∨ hereB A (aP A i) = true
    · have hh := (hA.man hi).2.2.2.2.2.2.1
      refine .go hA (i := i) (p := A.2 31 (8 * i + 6)) (r := aP A i) hi (Or.inl hh) (isIx_ne hA.c1.2 hh).2.1 (fun S h S1 e _ => ?_) (fun S h hg _ => ?_)
      · unfold f_X11_letGo j_X11_letGo_44
        rw [findMan_ix hA h hi]
        simp only [Option.bind_some]
        rw [h.pl hi, h.misc.1, inShip_eq hA h (hA.aP hi), h.att hi (by decide), e]
        simp only [Option.bind_some]
        grind
      · unfold f_X12_letGo j_X12_letGo_44
        rw [noMan_ix hA h.t hi, placeOf_eq hA h.t hi, h.t.ref 6 rfl]
        simp only [Option.bind_some]
        rw [isHere_eq hA h.t (hA.aP hi), show (6 : Int32) = nI 6 from rfl, ix8, h.t.ld 320 rfl rfl (by omega) (by decide)]
        simp only [Option.bind_some]
        rw [hg _ h.t]
        simp only [Option.bind_some]
        grind
    · refine .same hA (-3) (fun S h => ?_) (fun S h => ?_)
      · unfold f_X11_letGo
        rw [findMan_ix hA h hi]
        simp only [Option.bind_some]
        rw [h.pl hi, inShip_eq hA h (hA.aP hi)]
        simp only [Option.bind_some]
        grind
      · unfold f_X12_letGo
        rw [noMan_ix hA h.t hi, placeOf_eq hA h.t hi]
        simp only [Option.bind_some]
        rw [isHere_eq hA h.t (hA.aP hi)]
        simp only [Option.bind_some]
        grind
  · refine .same hA (-1) (fun S h => ?_) (fun S h => ?_)
    · unfold f_X11_letGo; rw [findMan_no hA h hx]; rfl
    · unfold f_X12_letGo; rw [noMan_no hA h.t hx]; rfl
