theorem offSt_eq {A : ZA} {S : ZH} (hA : AIn A) (h : RC A S) : f_X11_menOffTheStreets 0 S = some (nI (cntN (fun i => !stB (aP A i)) (aN A 5))) := by
  have h5 := hA.c5.2
  unfold f_X11_menOffTheStreets
  rw [z_cnt (fun i => !stB (aP A i)) (n := aN A 5) (by omega) (fun j c hj => ?_) (fun c => ?_)]
  · rfl
  · unfold b_X11_menOffTheStreets_4
    rw [h.nMen hA, if_neg (by rw [nI_leI (by omega) (by omega)]; omega), h.ref 11 1 rfl]
    simp only [Option.bind_some]
    rw [h.manAt hA hj]
    simp only [Option.bind_some]
    rw [h.pl hj, isStreetC]
    cases e : stB (aP A j) <;> simp [e, nI_1]
  · unfold b_X11_menOffTheStreets_4
    rw [h.nMen hA, if_pos (nI_le (Nat.le_refl _) (by omega))]
theorem away_eq {A : ZA} {S : ZH} (hA : AIn A) (h : MV A S) (x : Int32) : z_iter zFU (b_X12_count_9 0 x S) ((0 : Int32), (0 : Int32)) = some (nI (cntN (fun i => !stB (aP A i)) (aN A 5))) := by
  have h5 := hA.c5.2
  refine z_cnt (fun i => !stB (aP A i)) (n := aN A 5) (by omega) (fun j c hj => ?_) (fun c => ?_)
  · unfold b_X12_count_9
    rw [h.nMen hA, if_neg (by rw [nI_leI (by omega) (by omega)]; omega), placeOf_eq hA h hj]
    simp only [Option.bind_some]
    rw [isStreetM]
    cases e : stB (aP A j) <;> simp [e, nI_1]
  · unfold b_X12_count_9
    rw [h.nMen hA, if_pos (nI_le (Nat.le_refl _) (by omega))]
theorem op_count {A : ZA} (hA : AIn A) (x : Int32) : OpP A (f_X11_count 0 x) (f_X12_count 0 x) := by
  by_cases hx : rg x 0 7
  · obtain ⟨j, hj, rfl⟩ := rg_cases (n := 7) (by omega) hx
    refine .ro (if j = 0 then A.1 5 else if j = 1 then A.1 9 else if j = 2 then A.1 15 else if j = 3 then A.1 17 else if j = 4 then A.1 22 else if j = 5 then A.1 31 else if j = 6 then nI (cntN (fun i => !stB (aP A i)) (aN A 5)) else A.1 1) (fun S h => ?_) (fun S h => ?_)
    · unfold f_X11_count
      rw [h.ref 11 7 rfl, h.ref 11 0 rfl, offSt_eq hA h, h.men.1, h.shps.1, h.paps.1, h.acts.1, h.tix.1]
      simp only [Option.bind_some]
      rw [h.tks.1, h.town.1]
      rcases (show j = 0 ∨ j = 1 ∨ j = 2 ∨ j = 3 ∨ j = 4 ∨ j = 5 ∨ j = 6 ∨ j = 7 by omega) with rfl | rfl | rfl | rfl | rfl | rfl | rfl | rfl <;> simp [nI]
    · unfold f_X12_count
      rw [away_eq hA h.t, h.t.f 5 rfl, h.t.f 9 rfl, h.t.f 15 rfl, h.t.f 17 rfl, h.t.f 22 rfl, h.t.f 31 rfl, h.t.f 1 rfl]
      rcases (show j = 0 ∨ j = 1 ∨ j = 2 ∨ j = 3 ∨ j = 4 ∨ j = 5 ∨ j = 6 ∨ j = 7 by omega) with rfl | rfl | rfl | rfl | rfl | rfl | rfl | rfl <;> simp [nI]
  · have hn := fun k h0 h1 => ne_of_nr hx k h0 h1
    refine .ro (-2) (fun S h => ?_) (fun S h => ?_)
    · unfold f_X11_count
      simp [hn 0 (by decide) (by decide), hn 1 (by decide) (by decide), hn 2 (by decide) (by decide), hn 3 (by decide) (by decide), hn 4 (by decide) (by decide), hn 5 (by decide) (by decide), hn 6 (by decide) (by decide), hn 7 (by decide) (by decide)]
    · unfold f_X12_count
      rw [away_eq hA h.t]
      simp [hn 0 (by decide) (by decide), hn 1 (by decide) (by decide), hn 2 (by decide) (by decide), hn 3 (by decide) (by decide), hn 4 (by decide) (by decide), hn 5 (by decide) (by decide), hn 6 (by decide) (by decide), hn 7 (by decide) (by decide)]
/-! where -/
def kAt (T : Nat → Int32) : Nat → Nat → Nat
  | 0, _ => 0
  | n + 1, t => if (T n).toInt ≤ (t : Int) then n + 1 else kAt T n t
theorem kAt_le (T : Nat → Int32) : ∀ n t, kAt T n t ≤ n
  | 0, _ => Nat.le_refl _
  | n + 1, t => by
    have := kAt_le T n t
    unfold kAt
    split <;> omega
theorem plAt_k (home : Int32) (T P : Nat → Int32) : ∀ n t, plAt home T P n t = if kAt T n t = 0 then home else P (kAt T n t - 1)
  | 0, t => rfl
  | n + 1, t => by
    unfold plAt kAt
    by_cases h : (T n).toInt ≤ (t : Int)
    · rw [if_pos h, if_pos h]; simp
    · rw [if_neg h, if_neg h, plAt_k home T P n t]
theorem moveAsOf_loop {A : ZA} {S : ZH} {i t : Nat} (h : RMan A S i) (ht : t < 2 ^ 31) : ∀ (n fuel : Nat), n < fuel → n ≤ mvs S i → z_iter fuel (b_X3_moveAsOf_7 i (nI t) S) (nI n - 1) = some (nI (kAt (zI S 17 (tt S i)) n t) - 1) := by
  obtain ⟨-, -, -, -, ⟨h11, -, -, -, hcap⟩, ⟨-, hmc, -⟩, -⟩ := h
  intro n
  induction n with
  | zero =>
    intro fuel hf _
    cases fuel with
    | zero => omega
    | succ f =>
      show (b_X3_moveAsOf_7 i (nI t) S (nI 0 - 1)).bind _ = _
      have e : (nI 0 - 1 : Int32) < 0 := by decide
      unfold b_X3_moveAsOf_7
      rw [if_pos e]
      rfl
  | succ n ih =>
    intro fuel hf hn
    cases fuel with
    | zero => omega
    | succ f =>
      have hb : b_X3_moveAsOf_7 i (nI t) S (nI (n + 1) - 1) = if (zI S 17 (tt S i) n).toInt ≤ (t : Int) then some (.inr (nI n)) else some (.inl (nI n - 1)) := by
        unfold b_X3_moveAsOf_7
        rw [nI_pred, if_neg (nI_pos (by omega)), h11]
        simp only [Option.bind_some]
        rw [zld_at (m := capOf S i) rfl (by omega) (by omega)]
        simp only [Option.bind_some, Int32.le_iff_toInt_le]
        rw [nI_toInt ht, show nI n + (-1) = nI n - 1 from (Int32.sub_eq_add_neg _ _).symm]
      show (b_X3_moveAsOf_7 i (nI t) S (nI (n + 1) - 1)).bind _ = _
      rw [hb]
      unfold kAt
      by_cases hc : (zI S 17 (tt S i) n).toInt ≤ (t : Int)
      · rw [if_pos hc, if_pos hc, nI_pred]
        rfl
      · rw [if_neg hc, if_neg hc]
        exact ih f (by omega) (by omega)
theorem moveAsOf_eq {A : ZA} {S : ZH} {i t : Nat} (h : RMan A S i) (ht : t < 2 ^ 31) : f_X3_moveAsOf i (nI t) S = some (nI (kAt (zI S 17 (tt S i)) (mvs S i) t) - 1) := by
  unfold f_X3_moveAsOf
  rw [h.2.2.2.2.2.1.1, moveAsOf_loop h ht (mvs S i) zFU (by have := h.2.2.2.2.2.1.2.2; show _ < 1000000; omega) (Nat.le_refl _)]
  rfl
theorem placeAsOf_eq {A : ZA} {S : ZH} {i t : Nat} (h : RMan A S i) (ht : t ≤ aN A 4) (h4 : aN A 4 ≤ 899) : f_X3_placeAsOf i (nI t) S = some (aPl A t i) := by
  have hk := kAt_le (zI S 17 (tt S i)) (mvs S i) t
  have hpl := h.2.2.2.2.2.2.2.1 t ht
  rw [plAt_k] at hpl
  have hm := h.2.2.2.2.2.1
  have hcp := h.2.2.2.2.1
  unfold f_X3_placeAsOf
  rw [moveAsOf_eq h (by omega)]
  simp only [Option.bind_some]
  cases hq : kAt (zI S 17 (tt S i)) (mvs S i) t with
  | zero =>
    rw [hq] at hpl
    rw [if_neg (by decide), h.1 6 (by omega), hpl]
    rfl
  | succ k =>
    rw [hq] at hpl hk
    rw [nI_pred, if_pos (nI_pos' (by omega)), hcp.2.1]
    simp only [Option.bind_some]
    rw [zld_at (m := capOf S i) hcp.2.2.1 (by omega) (by omega), hpl]
    rfl
theorem now_rng {A : ZA} (hA : AIn A) {y : Int32} : (rg y 0 (aN A 4)) ↔ isIx (aN A 4 + 1) y := by
  have := hA.c4.2
  rw [isIx_iff (by omega)]
  constructor <;> intro h
  · exact ⟨h.1, by have := h.2; omega⟩
  · exact ⟨h.1, by have := h.2; omega⟩
theorem op_where {A : ZA} (hA : AIn A) (x y : Int32) : OpP A (f_X11_where 0 x y) (f_X12_where 0 x y) := by
  have c4 := hA.c4
  have c42 := c4.2
  have c52 := hA.c5.2
  have e4 : (A.1 4).toInt = (aN A 4 : Int) := by rw [c4.1, nI_toInt (by omega)]
  by_cases hx : isIx (aN A 5) x
  · obtain ⟨i, hi, rfl⟩ := hx
    by_cases hy : rg y 0 (aN A 4)
    · obtain ⟨t, ht, rfl⟩ := (now_rng hA).mp hy
      refine .ro (aPl A t i) (fun S h => ?_) (fun S h => ?_)
      · unfold f_X11_where
        rw [findMan_ix hA h hi, h.misc.1, within_rg (p := 0) (q := aN A 4) rfl e4 hy]
        simp only [Option.bind_some]
        rw [placeAsOf_eq (h.man hi) (by omega) c42]
        rfl
      · unfold f_X12_where
        rw [noMan_ix hA h.t hi, h.t.f 4 rfl, in_rg (p := 0) (q := aN A 4) rfl (by rw [l_toInt, e4]) hy, h.t.ref 8 rfl, ix40]
        simp only [Option.bind_some, if_neg (show ¬ (1 : Int32) = 0 by decide), if_true]
        rw [h.t.ld 36000 rfl rfl (by omega) (by decide)]
        rfl
    · refine .ro (-2) (fun S h => ?_) (fun S h => ?_)
      · unfold f_X11_where
        rw [findMan_ix hA h hi, h.misc.1, within_nr (p := 0) (q := aN A 4) rfl e4 hy]
        rfl
      · unfold f_X12_where
        rw [noMan_ix hA h.t hi, h.t.f 4 rfl, in_nr (p := 0) (q := aN A 4) rfl (by rw [l_toInt, e4]) hy]
        rfl
  · refine .ro (-1) (fun S h => ?_) (fun S h => ?_)
    · unfold f_X11_where; rw [findMan_no hA h hx]; rfl
    · unfold f_X12_where; rw [noMan_no hA h.t hx]; rfl
