/-! ===== shown ===== -/
def shwB (A : ZA) (p : Nat) (t : Int32) (k : Nat) : Bool := decide (A.2 44 (6 * k + 2) = nI p) && decide (rg (A.2 44 (6 * k)) (t - 13).toInt t.toInt)
theorem shwB_iff {A : ZA} {p : Nat} {t : Int32} {k : Nat} : shwB A p t k = true ↔ A.2 44 (6 * k + 2) = nI p ∧ rg (A.2 44 (6 * k)) (t - 13).toInt t.toInt := by
  unfold shwB
  simp only [Bool.and_eq_true, decide_eq_true_eq]
theorem shwB_no {A : ZA} {p : Nat} {t : Int32} {k : Nat} (h : ¬ (A.2 44 (6 * k + 2) = nI p ∧ rg (A.2 44 (6 * k)) (t - 13).toInt t.toInt)) : shwB A p t k = false := by
  cases e : shwB A p t k with
  | false => rfl
  | true => exact absurd (shwB_iff.mp e) h
def ddB (A : ZA) (p : Nat) (t : Int32) (m : Nat) : Nat → Bool
  | 0 => false
  | k + 1 => ddB A p t m k || (decide (A.2 44 (6 * k + 1) = nI m) && shwB A p t k)
def nnB (A : ZA) (p : Nat) (t : Int32) : Nat → Nat
  | 0 => 0
  | k + 1 => if shwB A p t k = true then nnB A p t k ||| 2 ^ (A.2 44 (6 * k + 1)).toNatClampNeg else nnB A p t k
theorem nnB_lt {A : ZA} (hA : AIn A) {p : Nat} {t : Int32} : ∀ k, k ≤ aN A 22 → nnB A p t k < 2 ^ 40
  | 0, _ => by show 0 < 2 ^ 40; decide
  | k + 1, h => by
    have c5 := hA.c5.2
    have ih := nnB_lt hA (p := p) (t := t) k (by omega)
    obtain ⟨m, hm, e⟩ := (hA.tk (show k < aN A 22 by omega)).2.1
    unfold nnB
    by_cases q : shwB A p t k = true
    · rw [if_pos q, e, nI_clamp (by omega)]
      exact Nat.or_lt_two_pow ih (Nat.pow_lt_pow_right (by decide) (by omega))
    · rw [if_neg q]; exact ih
theorem nnB_bit {A : ZA} (hA : AIn A) {p : Nat} {t : Int32} {i : Nat} (hi : i < 40) : ∀ k, k ≤ aN A 22 → (nnB A p t k).testBit i = ddB A p t i k
  | 0, _ => by exact Nat.zero_testBit i
  | k + 1, h => by
    have c5 := hA.c5.2
    have ih := nnB_bit hA (p := p) (t := t) hi k (by omega)
    obtain ⟨m, hm, e⟩ := (hA.tk (show k < aN A 22 by omega)).2.1
    unfold nnB ddB
    rw [e, nI_clamp (by omega)]
    have em : decide (nI m = nI i) = decide (m = i) := decide_eq_decide.mpr ⟨fun z => nI_inj (by omega) (by omega) z, fun z => by rw [z]⟩
    by_cases q : shwB A p t k = true
    · rw [if_pos q, q, Nat.testBit_or, ih, Nat.testBit_two_pow, em]
      simp
    · rw [if_neg q, ih, show shwB A p t k = false by simpa using q]
      simp
theorem ddB_no {A : ZA} (hA : AIn A) {p : Nat} {t : Int32} {i : Nat} (h1 : aN A 5 ≤ i) (h2 : i < 40) : ∀ k, k ≤ aN A 22 → ddB A p t i k = false
  | 0, _ => rfl
  | k + 1, h => by
    have c5 := hA.c5.2
    have ih := ddB_no hA (p := p) (t := t) h1 h2 k (by omega)
    obtain ⟨m, hm, e⟩ := (hA.tk (show k < aN A 22 by omega)).2.1
    unfold ddB
    rw [ih, e]
    have em : decide (nI m = nI i) = false := by
      simp only [decide_eq_false_iff_not]
      intro z
      have := nI_inj (by omega) (by omega) z
      omega
    rw [em]
    rfl
theorem cntN_tail {f : Nat → Bool} {n : Nat} : ∀ d, (∀ i, n ≤ i → i < n + d → f i = false) → cntN f (n + d) = cntN f n
  | 0, _ => rfl
  | d + 1, h => by
    show cntN f (n + d) + (if f (n + d) = true then 1 else 0) = _
    rw [h (n + d) (by omega) (by omega), cntN_tail d (fun i a b => h i a (by omega))]
    rfl
theorem menWho_eq {A : ZA} {S : ZH} (hA : AIn A) (h : RC A S) {p : Nat} {t : Int32} : f_X5_menWhoShowed 0 (nI p) ((t - 14) + 1) t S = some (nI (cntN (fun m => ddB A p t m (aN A 22)) (aN A 5))) := by
  have c5 := hA.c5.2
  have c22 := hA.c22.2
  have et : (t - 14) + 1 = t - 13 := by
    rw [Int32.sub_eq_add_neg, Int32.add_assoc, Int32.sub_eq_add_neg]
    congr 1
  unfold f_X5_menWhoShowed
  rw [et]
  have el : z_iter zFU (b_X5_menWhoShowed_6 0 (nI p) (t - 13) t S) ((0 : Int64), (0 : Int32)) = some (lN (nnB A p t (aN A 22))) := by
    refine z_for0 (fun j => (lN (nnB A p t j), nI j)) (aN A 22) rfl (by omega) (fun j hj => ?_) ?_
    · obtain ⟨m, hm, em⟩ := (hA.tk hj).2.1
      unfold b_X5_menWhoShowed_6
      dsimp only
      rw [h.nTk hA, if_neg (by rw [nI_leI (by omega) (by omega)]; omega), nI_1]
      refine (o_b (h.ref 5 1 rfl)).trans ?_
      refine (o_b (h.tkAt hA hj)).trans ?_
      refine (o_b (a := j) rfl).trans ?_
      have z0 : zI S 8 j 0 = A.2 44 (6 * j) := h.tkF hj (j := 0) (by omega)
      rw [h.tkF hj (j := 2) (by omega), z0, h.tkF hj (j := 1) (by omega), em]
      show _ = some (Sum.inl (lN (if shwB A p t j = true then nnB A p t j ||| 2 ^ (A.2 44 (6 * j + 1)).toNatClampNeg else nnB A p t j), nI (j + 1)))
      by_cases q1 : A.2 44 (6 * j + 2) = nI p
      · rw [if_neg (fun z => z q1)]
        refine (o_b (within_eq _ _ _ S)).trans ?_
        by_cases q2 : rg (A.2 44 (6 * j)) (t - 13).toInt t.toInt
        · have hsh : ((1 : Int64) <<< ((nI m).toInt64 &&& 63)) = lN (2 ^ m) := by
            have := wb_shl 1 (k := m) (by omega)
            rw [Nat.one_mul] at this
            exact this
          rw [if_pos q2, if_neg (by decide), hsh, wb_or (Nat.lt_trans (nnB_lt hA j (by omega)) (by decide)) (Nat.pow_lt_pow_right (by decide) (by omega))]
          rw [if_pos (shwB_iff.mpr ⟨q1, q2⟩), em, nI_clamp (by omega)]
        · rw [if_neg q2, if_pos rfl, if_neg (fun z => q2 (shwB_iff.mp z).2)]
      · rw [if_pos q1, if_neg (fun z => q1 (shwB_iff.mp z).1)]
    · unfold b_X5_menWhoShowed_6
      dsimp only
      rw [h.nTk hA, if_pos (nI_le (Nat.le_refl _) (by omega))]
  refine (o_b el).trans ?_
  rw [bitCount40 (nnB_lt hA _ (Nat.le_refl _))]
  show some _ = _
  congr 2
  rw [cntN_congr (g := fun m => ddB A p t m (aN A 22)) (fun i hi => nnB_bit hA hi _ (Nat.le_refl _)), show (40 : Nat) = aN A 5 + (40 - aN A 5) by omega]
  exact cntN_tail _ (fun i h1 h2 => ddB_no hA h1 (by omega) _ (Nat.le_refl _))
theorem op_shown {A : ZA} (hA : AIn A) (x t : Int32) : OpP A (f_X11_shown 0 x t) (f_X12_shown 0 x t) := by
  have c5 := hA.c5.2
  have c22 := hA.c22.2
  by_cases hx : isIx (aN A 15) x
  · obtain ⟨p, hp, rfl⟩ := hx
    by_cases ht : rg t 0 899
    · refine .ro (nI (cntN (fun m => ddB A p t m (aN A 22)) (aN A 5))) (fun S h => ?_) (fun S h => ?_)
      · unfold f_X11_shown
        refine (o_b (findPaper_ix hA h hp)).trans ?_
        rw [if_neg (by simp)]
        refine (o_b (isTideC t S)).trans ?_
        rw [if_pos ht, if_pos (by decide)]
        refine (o_b (h.ref 11 7 rfl)).trans ?_
        refine (o_b (menWho_eq hA h)).trans ?_
        rfl
      · unfold f_X12_shown
        refine (o_b (noPaper_ix hA h.t hp)).trans ?_
        rw [if_pos rfl]
        refine (o_b (noTideM t _)).trans ?_
        rw [if_pos ht, if_pos rfl]
        have el : z_iter zFU (b_X12_shown_30 0 (nI p) t (tS S)) ((0 : Int32), (0 : Int32)) = some (nI (cntN (fun m => ddB A p t m (aN A 22)) (aN A 5))) := by
          refine z_cnt (fun m => ddB A p t m (aN A 22)) (n := aN A 5) (by omega) (fun j c hj => ?_) (fun c => ?_)
          · unfold b_X12_shown_30
            dsimp only
            rw [h.t.nMen hA, if_neg (by rw [nI_leI (by omega) (by omega)]; omega), nI_1]
            have ei : z_iter zFU (b_X12_shown_45 0 (nI p) t (nI c) (nI j) (tS S)) ((0 : Int32), (0 : Int32)) = some (pC (ddB A p t j (aN A 22))) := by
              refine z_for0 (fun k => (pC (ddB A p t j k), nI k)) (aN A 22) rfl (by omega) (fun k hk => ?_) ?_
              · unfold b_X12_shown_45
                dsimp only
                rw [h.t.nTk hA, if_neg (by rw [nI_leI (by omega) (by omega)]; omega), nI_1]
                show _ = some (Sum.inl (pC (ddB A p t j k || (decide (A.2 44 (6 * k + 1) = nI j) && shwB A p t k)), nI (k + 1)))
                cases hc : ddB A p t j k with
                | true => rw [if_pos (show ¬ pC true = 0 by decide)]; rfl
                | false =>
                  rw [if_neg (show ¬ ¬ pC false = 0 by decide), show (2 : Int32) = nI 2 from rfl, ix6, ix6', nI_1]
                  refine (o_b (h.t.ref 23 rfl)).trans ?_
                  refine (o_b (h.t.ld 360 rfl rfl (by omega) (by decide))).trans ?_
                  by_cases q0 : A.2 44 (6 * k + 1) = nI j
                  · rw [if_neg (fun z => z q0)]
                    refine (o_b (h.t.ref 23 rfl)).trans ?_
                    refine (o_b (h.t.ld 360 rfl rfl (by omega) (by decide))).trans ?_
                    by_cases q1 : A.2 44 (6 * k + 2) = nI p
                    · rw [if_neg (fun z => z q1)]
                      refine (o_b (h.t.ref 23 rfl)).trans ?_
                      refine (o_b (h.t.ld 360 rfl rfl (by omega) (by decide))).trans ?_
                      refine (o_b (in_eq _ _ _ _)).trans ?_
                      rw [l_toInt, l_toInt, l_toInt]
                      by_cases q2 : rg (A.2 44 (6 * k)) (t - 13).toInt t.toInt
                      · rw [if_pos q2, if_neg (by decide), shwB_iff.mpr ⟨q1, q2⟩, decide_eq_true q0]; rfl
                      · rw [if_neg q2, if_pos rfl, shwB_no (fun z => q2 z.2), decide_eq_true q0]; rfl
                    · rw [if_pos q1, shwB_no (fun z => q1 z.1), decide_eq_true q0]; rfl
                  · rw [if_pos q0, decide_eq_false q0]; rfl
              · unfold b_X12_shown_45
                dsimp only
                rw [h.t.nTk hA, if_pos (nI_le (Nat.le_refl _) (by omega))]
            refine (o_b ei).trans ?_
            cases hc : ddB A p t j (aN A 22) with
            | true => rw [if_neg (by decide), show nI c + (1 : Int32) = nI (c + 1) from nI_p c 1]; rfl
            | false => rw [if_pos (by decide), show nI c + (0 : Int32) = nI (c + 0) from nI_p c 0]; rfl
          · unfold b_X12_shown_30
            dsimp only
            rw [h.t.nMen hA, if_pos (nI_le (Nat.le_refl _) (by omega))]
        refine (o_b el).trans ?_
        rfl
    · refine .ro (-2) (fun S h => ?_) (fun S h => ?_)
      · unfold f_X11_shown
        refine (o_b (findPaper_ix hA h hp)).trans ?_
        rw [if_neg (by simp)]
        refine (o_b (isTideC t S)).trans ?_
        rw [if_neg ht]
        rfl
      · unfold f_X12_shown
        refine (o_b (noPaper_ix hA h.t hp)).trans ?_
        rw [if_pos rfl]
        refine (o_b (noTideM t _)).trans ?_
        rw [if_neg ht]
        rfl
  · refine .ro (-1) (fun S h => ?_) (fun S h => ?_)
    · unfold f_X11_shown; rw [findPaper_no hA h hx]; rfl
    · unfold f_X12_shown; rw [noPaper_no hA h.t hx]; rfl
