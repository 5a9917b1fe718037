/-! ===== notAshore ===== -/
def ashB (p : Int32) : Bool := stB p || decide (p = 22)
def lA (g : Nat → Bool) : Nat → Nat
  | 0 => 0
  | n + 1 => if g n = true then n + 1 else lA g n
theorem lA_le (g : Nat → Bool) : ∀ n, lA g n ≤ n
  | 0 => Nat.le_refl _
  | n + 1 => by
    have := lA_le g n
    show (if g n = true then n + 1 else lA g n) ≤ n + 1
    split <;> omega
theorem lA_skip {g : Nat → Bool} {m : Nat} : ∀ {n : Nat}, m ≤ n → (∀ s, m ≤ s → s < n → g s = false) → lA g n = lA g m
  | 0, h, _ => by rw [show m = 0 by omega]
  | n + 1, h, hg => by
    by_cases e : m = n + 1
    · rw [e]
    · show (if g n = true then n + 1 else lA g n) = _
      rw [hg n (by omega) (by omega), if_neg (by decide)]
      exact lA_skip (by omega) (fun s h1 h2 => hg s h1 (by omega))
theorem notAsh_loop {A : ZA} {S : ZH} (hA : AIn A) (h : MV A S) {i : Nat} (hi : i < aN A 5) (y : Int32) : ∀ (n fuel : Nat), n < fuel → n ≤ aN A 4 + 1 → z_iter fuel (b_X12_notAshore_34 0 (nI i) y S) (nI n - 1) = some (nI (lA (fun t => ashB (aPl A t i)) n) - 1) := by
  have c4 := hA.c4.2
  have c5 := hA.c5.2
  intro n
  induction n with
  | zero =>
    intro fuel hf _
    cases fuel with
    | zero => omega
    | succ f =>
      show (b_X12_notAshore_34 0 (nI i) y S (nI 0 - 1)).bind _ = _
      unfold b_X12_notAshore_34
      rw [if_pos (by decide)]
      rfl
  | succ n ih =>
    intro fuel hf hn
    cases fuel with
    | zero => omega
    | succ f =>
      have hb : b_X12_notAshore_34 0 (nI i) y S (nI (n + 1) - 1) = if ashB (aPl A n i) = true then some (.inr (nI n)) else some (.inl (nI n - 1)) := by
        unfold b_X12_notAshore_34
        rw [nI_pred, if_neg (nI_pos (by omega)), h.ref 8 rfl, ix40]
        simp only [Option.bind_some]
        rw [h.ld 36000 rfl rfl (by omega) (by decide), show nI n + (-1) = nI n - 1 from (Int32.sub_eq_add_neg _ _).symm]
        simp only [Option.bind_some]
        rw [isStreetM]
        simp only [Option.bind_some]
        show _ = if ashB (A.2 33 (40 * n + i)) = true then _ else _
        unfold ashB
        cases e : stB (A.2 33 (40 * n + i)) with
        | true => simp
        | false =>
          by_cases e2 : A.2 33 (40 * n + i) = 22
          · simp [e2]
          · simp [e2]
      show (b_X12_notAshore_34 0 (nI i) y S (nI (n + 1) - 1)).bind _ = _
      rw [hb]
      show _ = some (nI (if ashB (aPl A n i) = true then n + 1 else lA (fun t => ashB (aPl A t i)) n) - 1)
      by_cases hc : ashB (aPl A n i) = true
      · rw [if_pos hc, if_pos hc, nI_pred]
        rfl
      · rw [if_neg hc, if_neg hc]
        exact ih f (by omega) (by omega)
theorem off_loop {A : ZA} {S : ZH} (hA : AIn A) {i t : Nat} (hi : i < aN A 5) (h : RMan A S i) (ht : t ≤ aN A 4) : ∀ (k u fuel : Nat), k < fuel → k ≤ kAt (zI S 17 (tt S i)) (mvs S i) t → u ≤ t + 1 → (∀ j, j < k → (zI S 17 (tt S i) j).toInt < u) → (∀ s, s < u → aPl A s i = plAt (A.2 31 (8 * i + 6)) (zI S 17 (tt S i)) (zI S 18 (tt S i)) k s) → (z_iter fuel (b_X3_tidesOffShore_8 i (nI t) S) (nI u - 1, nI k - 1)).bind (fun q => Sum.elim (fun v => some (nI t - v)) (fun q => some q) q) = some (nI t - (nI (lA (fun t => ashB (aPl A t i)) u) - 1)) := by
  have c4 := hA.c4.2
  have hh := (hA.man hi).2.2.2.2.2.2.1
  obtain ⟨-, -, -, -, ⟨h11, h12, hl, -, hcap⟩, ⟨-, hmc, hm9⟩, ⟨hT, hT2⟩, -, -⟩ := h
  have hkm := kAt_le (zI S 17 (tt S i)) (mvs S i) t
  intro k
  induction k with
  | zero =>
    intro u fuel hf _ hu _ hp
    cases fuel with
    | zero => omega
    | succ f =>
      have e : lA (fun t => ashB (aPl A t i)) u = u := by
        cases u with
        | zero => rfl
        | succ s =>
          show (if ashB (aPl A s i) = true then s + 1 else _) = s + 1
          have h1 : aPl A s i = A.2 31 (8 * i + 6) := hp s (by omega)
          obtain ⟨q, hq, e⟩ := hh
          have c1 := hA.c1.2
          rw [h1, e, if_pos]
          unfold ashB stB rg
          rw [nI_toInt (by omega)]
          simp
          omega
      rw [e]
      show ((b_X3_tidesOffShore_8 i (nI t) S (nI u - 1, nI 0 - 1)).bind _).bind _ = _
      unfold b_X3_tidesOffShore_8
      rw [if_pos (show (nI u - 1, nI 0 - 1).2 < 0 by show (nI 0 - 1 : Int32) < 0; decide)]
      rfl
  | succ k ih =>
    intro u fuel hf hk hu hlt hp
    cases fuel with
    | zero => omega
    | succ f =>
      obtain ⟨w, hw, ew⟩ := hT k (by omega)
      have hwu : w < u := by
        have := hlt k (by omega)
        rw [ew, nI_toInt (by omega)] at this
        omega
      have hb : b_X3_tidesOffShore_8 i (nI t) S (nI u - 1, nI (k + 1) - 1) = if ashB (zI S 18 (tt S i) k) = true then some (.inr (.inr (nI t - (nI u - 1)))) else some (.inl (nI w - 1, nI k - 1)) := by
        unfold b_X3_tidesOffShore_8
        dsimp only
        rw [nI_pred, if_neg (nI_pos (by omega)), h12, h11]
        simp only [Option.bind_some]
        rw [zld_at hl (by omega) (by omega), zld_at (m := capOf S i) rfl (by omega) (by omega), ew, show nI k + (-1) = nI k - 1 from (Int32.sub_eq_add_neg _ _).symm]
        simp only [Option.bind_some]
        rw [isAshoreC]
        simp only [Option.bind_some]
        unfold ashB
        cases e : stB (zI S 18 (tt S i) k) with
        | true => simp
        | false =>
          by_cases e2 : zI S 18 (tt S i) k = 22
          · simp [e2]
          · simp [e2]
      have hpw : ∀ s, w ≤ s → s < u → aPl A s i = zI S 18 (tt S i) k := by
        intro s h1 h2
        rw [hp s h2]
        show (if (zI S 17 (tt S i) k).toInt ≤ (s : Int) then zI S 18 (tt S i) k else _) = _
        rw [ew, nI_toInt (by omega), if_pos (by omega)]
      show ((b_X3_tidesOffShore_8 i (nI t) S (nI u - 1, nI (k + 1) - 1)).bind _).bind _ = _
      rw [hb]
      by_cases hc : ashB (zI S 18 (tt S i) k) = true
      · rw [if_pos hc]
        obtain ⟨s, rfl⟩ : ∃ s, u = s + 1 := ⟨u - 1, by omega⟩
        have e : lA (fun t => ashB (aPl A t i)) (s + 1) = s + 1 := by
          show (if ashB (aPl A s i) = true then s + 1 else _) = s + 1
          rw [hpw s (by omega) (by omega), if_pos hc]
        rw [e]
        rfl
      · rw [if_neg hc]
        have e : lA (fun t => ashB (aPl A t i)) u = lA (fun t => ashB (aPl A t i)) w := lA_skip (by omega) (fun s h1 h2 => by
          show ashB (aPl A s i) = false
          rw [hpw s h1 h2]
          simpa using hc)
        rw [e]
        refine ih w f (by omega) (by omega) (by omega) (fun j hj => ?_) (fun s hs => ?_)
        · have := hT2 j k hj (by omega)
          rw [ew, nI_toInt (by omega)] at this
          exact this
        · rw [hp s (by omega)]
          show (if (zI S 17 (tt S i) k).toInt ≤ (s : Int) then zI S 18 (tt S i) k else _) = _
          rw [ew, nI_toInt (by omega), if_neg (by omega)]
theorem kAt_spec {T : Nat → Int32} {t : Nat} : ∀ n, (∀ j k, j < k → k < n → (T j).toInt < (T k).toInt) → ∀ j, j < kAt T n t → (T j).toInt ≤ t
  | 0, _, j, hj => by exact absurd hj (Nat.not_lt_zero _)
  | n + 1, h, j, hj => by
    unfold kAt at hj
    by_cases e : (T n).toInt ≤ (t : Int)
    · rw [if_pos e] at hj
      by_cases e2 : j = n
      · rw [e2]; exact e
      · have := h j n (by omega) (by omega)
        omega
    · rw [if_neg e] at hj
      exact kAt_spec n (fun a b hab hb => h a b hab (by omega)) j hj
theorem plAt_cut {home : Int32} {T P : Nat → Int32} {t s : Nat} (hs : s ≤ t) : ∀ n, plAt home T P n s = plAt home T P (kAt T n t) s
  | 0 => rfl
  | n + 1 => by
    show (if (T n).toInt ≤ (s : Int) then P n else plAt home T P n s) = plAt home T P (if (T n).toInt ≤ (t : Int) then n + 1 else kAt T n t) s
    by_cases e : (T n).toInt ≤ (t : Int)
    · rw [if_pos e]; rfl
    · rw [if_neg e, if_neg (by omega)]
      exact plAt_cut hs n
theorem offShore_eq {A : ZA} {S : ZH} (hA : AIn A) {i t : Nat} (hi : i < aN A 5) (h : RMan A S i) (ht : t ≤ aN A 4) : f_X3_tidesOffShore i (nI t) S = some (nI t - (nI (lA (fun t => ashB (aPl A t i)) (t + 1)) - 1)) := by
  have c4 := hA.c4.2
  have hkm := kAt_le (zI S 17 (tt S i)) (mvs S i) t
  have hm9 := h.2.2.2.2.2.1.2.2
  unfold f_X3_tidesOffShore
  rw [moveAsOf_eq h (by omega)]
  simp only [Option.bind_some]
  have e := off_loop hA hi h ht (kAt (zI S 17 (tt S i)) (mvs S i) t) (t + 1) zFU (by show _ < 1000000; omega) (Nat.le_refl _) (Nat.le_refl _) (fun j hj => by
    have := kAt_spec (t := t) (mvs S i) h.2.2.2.2.2.2.1.2 j hj
    omega) (fun s hs => by
    rw [h.2.2.2.2.2.2.2.1 s (by omega), plAt_cut (t := t) (by omega)])
  rw [nI_pred] at e
  exact e
theorem op_notAshore {A : ZA} (hA : AIn A) (x y : Int32) : OpP A (f_X11_notAshore 0 x y) (f_X12_notAshore 0 x y) := by
  have c4 := hA.c4
  have c42 := c4.2
  have c52 := hA.c5.2
  have e4 : (A.1 4).toInt = (aN A 4 : Int) := by rw [c4.1, nI_toInt (by omega)]
  by_cases hx : isIx (aN A 5) x
  · obtain ⟨i, hi, rfl⟩ := hx
    by_cases hy : rg y 0 (aN A 4)
    · obtain ⟨t, ht, rfl⟩ := (now_rng hA).mp hy
      refine .ro (nI t - (nI (lA (fun t => ashB (aPl A t i)) (t + 1)) - 1)) (fun S h => ?_) (fun S h => ?_)
      · unfold f_X11_notAshore
        rw [findMan_ix hA h hi, h.misc.1, within_rg (p := 0) (q := aN A 4) rfl e4 hy]
        simp only [Option.bind_some]
        rw [offShore_eq hA hi (h.man hi) (by omega)]
        rfl
      · unfold f_X12_notAshore
        have e := notAsh_loop hA h.t hi (nI t) (t + 1) zFU (by show _ < 1000000; omega) (by omega)
        rw [nI_pred] at e
        rw [noMan_ix hA h.t hi, h.t.f 4 rfl, in_rg (p := 0) (q := aN A 4) rfl (by rw [l_toInt, e4]) hy, e]
        rfl
    · refine .ro (-2) (fun S h => ?_) (fun S h => ?_)
      · unfold f_X11_notAshore
        rw [findMan_ix hA h hi, h.misc.1, within_nr (p := 0) (q := aN A 4) rfl e4 hy]
        rfl
      · unfold f_X12_notAshore
        rw [noMan_ix hA h.t hi, h.t.f 4 rfl, in_nr (p := 0) (q := aN A 4) rfl (by rw [l_toInt, e4]) hy]
        rfl
  · refine .ro (-1) (fun S h => ?_) (fun S h => ?_)
    · unfold f_X11_notAshore; rw [findMan_no hA h hx]; rfl
    · unfold f_X12_notAshore; rw [noMan_no hA h.t hx]; rfl
