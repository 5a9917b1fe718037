/-! ===== the two operations ===== -/
theorem LK.s30 {A : ZA} {S : ZH} {v : Int32} (h : LK A S) : LK A (zsI S 12 0 30 v) := by
  refine ⟨⟨h.1.1, h.1.2.tr (zV_sF (Or.inr rfl))⟩, fun a b ha hb => ?_, fun s hs => ?_⟩
  · rw [(eqK_sI (S := S) (v := v) (i := 0) (j := 30) (k := 12) (k' := 30) (by omega)).2.2.1]; exact h.2.1 a b ha hb
  · rw [(eqK_sI (S := S) (v := v) (i := 0) (j := 30) (k := 12) (k' := 45) (by omega)).2.2.1]; exact h.2.2 s hs
theorem look_eq {A : ZA} {S : ZH} (hA : AIn A) (h : MV A S) {g H : Nat} (hg : g = 1 ∨ g = 2) (h1 : 1 ≤ H) (hh : H ≤ 3) {C : Nat} (hC : C < (aN A 1) ^ (g * H)) (ho : OKC A g H C) (hl : ∀ C', C' < C → ¬ OKC A g H C') : ∃ S1, f_X12_look 0 (nI g) (nI H) S = some (nI (MOA A g), S1) ∧ LK A S1 ∧ frC S S1 ∧ zI S1 12 0 30 = nI C := by
  have hn := hA.c1.2
  have hn1 := hA.c1p
  have h6 := gh6 hg hh
  have hM := MOA_80 hA g
  have hpow : (aN A 1) ^ (g * H) ≤ 262144 := by
    have a1 : (aN A 1) ^ (g * H) ≤ 8 ^ (g * H) := Nat.pow_le_pow_left hn _
    have a2 : 8 ^ (g * H) ≤ 8 ^ 6 := Nat.pow_le_pow_right (by decide) h6
    omega
  obtain ⟨S0, S1, S2, e0, e1, e2, l2, m2⟩ := there_eq hA h (nI g) (nI H)
  have hx : z_iter zFU (b_X12_look_79 0 (nI g) (nI H) S2) ((1 : Int32), (0 : Int32)) = some (nI ((aN A 1) ^ (g * H))) := by
    refine z_for0 (fun j => (nI ((aN A 1) ^ j), nI j)) (g * H) (by rw [Nat.pow_zero]; rfl) (by omega) (fun j hj => ?_) ?_
    · unfold b_X12_look_79
      dsimp only
      rw [nI_mul, if_neg (by rw [nI_leI (by omega) (by omega)]; omega), l2.1.nT hA, nI_mul, nI_1, Nat.pow_succ]
    · unfold b_X12_look_79
      dsimp only
      rw [nI_mul, if_pos (nI_le (Nat.le_refl _) (by omega))]
  have key := z_inv0 (b := b_X12_look_107 0 (nI g) (nI H) (nI ((aN A 1) ^ (g * H)))) (X := fun r : Int32 × ZH => r.1 = nI (MOA A g) ∧ LK A r.2 ∧ frC S2 r.2 ∧ zI r.2 12 0 30 = nI C)
    (fun c v => v.2.1 = nI c ∧ LK A v.2.2 ∧ frC S2 v.2.2 ∧ ((c ≤ C ∧ v.1.toInt < MOA A g) ∨ (C < c ∧ v.1 = nI (MOA A g) ∧ zI v.2.2 12 0 30 = nI C))) ((aN A 1) ^ (g * H)) (v := ((-9 : Int32), (0 : Int32), S2)) (by omega) ⟨rfl, l2, frC.rf, Or.inl ⟨Nat.zero_le _, by show (-9 : Int32).toInt < _; rw [show (-9 : Int32).toInt = -9 from rfl]; omega⟩⟩ (fun c v hc hI => ?_) (fun v hI => ?_)
  · obtain ⟨r, e3, x1, x2, x3, x4⟩ := key
    refine ⟨r.2, ?_, x2, m2.tr x3, x4⟩
    unfold f_X12_look
    refine (o_b e0).trans ?_
    refine (o_b e1).trans ?_
    refine (o_b e2).trans ?_
    refine (o_b hx).trans ?_
    refine (o_b e3).trans ?_
    rw [x1]
  · obtain ⟨v1, v2, T⟩ := v
    obtain ⟨i1, i2, i3, i4⟩ := hI
    replace i1 : v2 = nI c := i1
    replace i2 : LK A T := i2
    replace i3 : frC S2 T := i3
    replace i4 : (c ≤ C ∧ v1.toInt < MOA A g) ∨ (C < c ∧ v1 = nI (MOA A g) ∧ zI T 12 0 30 = nI C) := i4
    subst i1
    obtain ⟨q, T1, f1, lT, mT, e12, -, fv⟩ := meet_eq hA i2 hg h1 hh (C := c) (by omega)
    have hle := LO_le hA (C := c) hg hh
    have hq : q.toInt ≤ MOA A g ∧ (OKC A g H c → q = nI (MOA A g)) ∧ (¬ OKC A g H c → q.toInt < MOA A g) := by
      rcases fv with ⟨z1, z2⟩ | ⟨z1, z2⟩
      · refine ⟨by rw [z2, nI_toInt (by omega)]; omega, fun o => by rw [z2, o.2], fun o => ?_⟩
        have : lval (thA A) (LO A g H c H) ≠ MOA A g := fun e => o ⟨z1, e⟩
        rw [z2, nI_toInt (by omega)]
        omega
      · have e9 : (-9 : Int32).toInt = -9 := rfl
        refine ⟨by rw [z2, e9]; omega, fun o => absurd o.1 z1, fun _ => by rw [z2, e9]; omega⟩
    unfold b_X12_look_107
    dsimp only
    rw [if_neg (by rw [nI_leI (by omega) (by omega)]; omega)]
    by_cases le : q ≤ v1
    · refine ⟨(v1, nI (c + 1), T1), ?_, rfl, lT, i3.tr mT, ?_⟩
      · refine (o_b f1).trans ?_
        rw [if_pos le, nI_1]
      · rcases i4 with ⟨j1, j2⟩ | ⟨j1, j2, j3⟩
        · left
          refine ⟨?_, j2⟩
          by_cases e : c = C
          · rw [← e] at ho
            have := hq.2.1 ho
            rw [Int32.le_iff_toInt_le, this, nI_toInt (by omega)] at le
            have j2' : v1.toInt < MOA A g := j2
            omega
          · omega
        · right
          exact ⟨by omega, j2, by show zI T1 12 0 30 = _; rw [e12]; exact j3⟩
    · refine ⟨(q, nI (c + 1), zsI T1 12 0 30 (nI c)), ?_, rfl, lT.s30, (i3.tr mT).tr (frC_sI (Or.inl rfl)), ?_⟩
      · refine (o_b f1).trans ?_
        rw [if_neg le, nI_1]
      · rcases i4 with ⟨j1, j2⟩ | ⟨j1, j2, j3⟩
        · by_cases e : c = C
          · right
            refine ⟨by omega, hq.2.1 (by rw [e]; exact ho), ?_⟩
            show zI (zsI T1 12 0 30 (nI c)) 12 0 30 = _
            rw [zI_sI, if_pos ⟨rfl, rfl⟩, e]
          · left
            exact ⟨by omega, hq.2.2 (hl c (by omega))⟩
        · exfalso
          apply le
          rw [Int32.le_iff_toInt_le, j2, nI_toInt (by omega)]
          exact hq.1
  · obtain ⟨v1, v2, T⟩ := v
    obtain ⟨i1, i2, i3, i4⟩ := hI
    replace i1 : v2 = nI ((aN A 1) ^ (g * H)) := i1
    replace i4 : ((aN A 1) ^ (g * H) ≤ C ∧ v1.toInt < MOA A g) ∨ (C < (aN A 1) ^ (g * H) ∧ v1 = nI (MOA A g) ∧ zI T 12 0 30 = nI C) := i4
    rcases i4 with ⟨j1, j2⟩ | ⟨j1, j2, j3⟩
    · omega
    · refine ⟨(v1, T), ?_, j2, i2, i3, j3⟩
      unfold b_X12_look_107
      dsimp only
      rw [i1, if_pos (nI_le (Nat.le_refl _) (by omega))]
theorem rg_12 {x : Int32} (h : rg x 1 2) : ∃ g, (g = 1 ∨ g = 2) ∧ x = nI g := by
  have a := h.1
  have b := h.2
  refine ⟨x.toInt.toNat, by omega, ?_⟩
  rw [i_eq, nI_toInt (by omega)]
  omega
theorem rg_13 {x : Int32} (h : rg x 1 3) : ∃ g, 1 ≤ g ∧ g ≤ 3 ∧ x = nI g := by
  have a := h.1
  have b := h.2
  refine ⟨x.toInt.toNat, by omega, by omega, ?_⟩
  rw [i_eq, nI_toInt (by omega)]
  omega
theorem badGangs_eq (x y : Int32) (S : ZH) : f_X12_badGangs x y S = some (if rg x 1 2 ∧ rg y 1 3 then 0 else 1) := by
  unfold f_X12_badGangs
  by_cases a : rg x 1 2
  · refine (o_b (in_rg (p := 1) (q := 2) rfl rfl a)).trans ?_
    rw [if_neg (show ¬ (1 : Int32) = 0 by decide)]
    by_cases b : rg y 1 3
    · refine (o_b (in_rg (p := 1) (q := 3) rfl rfl b)).trans ?_
      rw [if_pos (show ¬ (1 : Int32) = 0 by decide), if_pos (show rg x 1 2 ∧ rg y 1 3 from ⟨a, b⟩)]
    · refine (o_b (in_nr (p := 1) (q := 3) rfl rfl b)).trans ?_
      rw [if_neg (show ¬ ¬ (0 : Int32) = 0 from fun z => z rfl), if_neg (show ¬ (rg x 1 2 ∧ rg y 1 3) from fun z => b z.2)]
  · refine (o_b (in_nr (p := 1) (q := 2) rfl rfl a)).trans ?_
    rw [if_pos rfl, if_neg (show ¬ (rg x 1 2 ∧ rg y 1 3) from fun z => a z.1)]
theorem op_met {A : ZA} (hA : AIn A) (x y : Int32) : OpE A (f_X11_met 0 x y) (f_X12_met 0 x y) := by
  by_cases hx : rg x 1 2
  · by_cases hy : rg y 1 3
    · obtain ⟨g, hg, ex⟩ := rg_12 hx
      obtain ⟨H, h1, hh, ey⟩ := rg_13 hy
      obtain ⟨C, hC, ho, hl, -, -⟩ := best_ex hA hg h1
      refine ⟨nI (MOA A g), A, hA, fun S h => ?_, fun S h => ?_⟩
      · obtain ⟨S1, e1, c1⟩ := takeable_eq hA h
        refine ⟨S1, ?_, c1.1, c1.2.1⟩
        unfold f_X11_met
        refine (o_b (within_rg (p := 1) (q := 2) rfl rfl hx)).trans ?_
        rw [if_neg (by decide)]
        refine (o_b (within_rg (p := 1) (q := 3) rfl rfl hy)).trans ?_
        rw [if_pos (show ¬ (1 : Int32) = 0 by decide)]
        refine (o_b e1).trans ?_
        refine (o_b (c1.1.ref 11 14 rfl)).trans ?_
        rw [ex]
        exact (o_b (mostMet_eq hA c1.1 c1.2.2 hg)).trans rfl
      · obtain ⟨S1, e1, l1, m1, -⟩ := look_eq hA h.t hg h1 hh hC ho hl
        refine ⟨S1, ?_, l1.1, frC_t.tr m1⟩
        unfold f_X12_met
        refine (o_b (badGangs_eq x y _)).trans ?_
        rw [if_pos (show rg x 1 2 ∧ rg y 1 3 from ⟨hx, hy⟩), if_pos rfl, ex, ey]
        exact (o_b e1).trans rfl
    · refine .same hA (-2) (fun S h => ?_) (fun S h => ?_)
      · unfold f_X11_met
        refine (o_b (within_rg (p := 1) (q := 2) rfl rfl hx)).trans ?_
        rw [if_neg (by decide)]
        refine (o_b (within_nr (p := 1) (q := 3) rfl rfl hy)).trans ?_
        rw [if_neg (fun z => z rfl)]
      · unfold f_X12_met
        refine (o_b (badGangs_eq x y _)).trans ?_
        rw [if_neg (show ¬ (rg x 1 2 ∧ rg y 1 3) from fun z => hy z.2), if_neg (by decide)]
  · refine .same hA (-2) (fun S h => ?_) (fun S h => ?_)
    · unfold f_X11_met
      refine (o_b (within_nr (p := 1) (q := 2) rfl rfl hx)).trans ?_
      rw [if_pos rfl]
    · unfold f_X12_met
      refine (o_b (badGangs_eq x y _)).trans ?_
      rw [if_neg (show ¬ (rg x 1 2 ∧ rg y 1 3) from fun z => hx z.1), if_neg (by decide)]
theorem op_laid {A : ZA} (hA : AIn A) (x y u w : Int32) : OpE A (f_X11_laid 0 x y u w) (f_X12_laid 0 x y u w) := by
  have hn := hA.c1.2
  have hn1 := hA.c1p
  by_cases hx : rg x 1 2
  · by_cases hy : rg y 1 3
    · obtain ⟨g, hg, ex⟩ := rg_12 hx
      obtain ⟨H, h1, hh, ey⟩ := rg_13 hy
      have mid : ∀ S, (f_X11_laid 0 x y u w S) = ((f_X11_within u (0 : Int32) (x - (1 : Int32)) S).bind fun q3 => if q3 = 0 then some ((-2 : Int32), S) else (f_X11_within w (0 : Int32) (y - (1 : Int32)) S).bind fun q4 => if ¬ q4 = 0 then (f_X11_countTheTakeable 0 S).bind fun q5 => ((zR q5 11 0 14)).bind fun a6 => (f_X1_lay a6 x y q5).bind fun q7 => ((zR q7 11 0 14)).bind fun a8 => (f_X1_streetOf a8 u w q7).bind fun q9 => some (q9, q7) else some ((-2 : Int32), S)) := by
        intro S
        unfold f_X11_laid
        refine (o_b (within_rg (p := 1) (q := 2) rfl rfl hx)).trans ?_
        rw [if_neg (by decide)]
        refine (o_b (within_rg (p := 1) (q := 3) rfl rfl hy)).trans ?_
        rw [if_neg (by decide)]
      have midM : ∀ S, (f_X12_laid 0 x y u w S) = ((f_X12_in u.toInt64 (0 : Int64) ((x - (1 : Int32)).toInt64) (tS S)).bind fun q2 => if q2 = 0 then some ((-2 : Int32), tS S) else (f_X12_in w.toInt64 (0 : Int64) ((y - (1 : Int32)).toInt64) (tS S)).bind fun q3 => if ¬ q3 = 0 then (f_X12_look 0 x y (tS S)).bind fun q4 => (f_X12_meet 0 (zI q4.2 12 0 30) x y q4.2).bind fun q5 => ((zR q5.2 12 0 28)).bind fun a6 => (zld q5.2 46 a6 ((u * y) + w)).bind fun v7 => some (v7, q5.2) else some ((-2 : Int32), tS S)) := by
        intro S
        unfold f_X12_laid
        refine (o_b (badGangs_eq x y _)).trans ?_
        rw [if_pos (show rg x 1 2 ∧ rg y 1 3 from ⟨hx, hy⟩), if_neg (show ¬ ¬ (0 : Int32) = 0 from fun z => z rfl)]
      by_cases hu : isIx g u
      · by_cases hw : isIx H w
        · obtain ⟨j, hj, eu⟩ := hu
          obtain ⟨k, hk, ew⟩ := hw
          obtain ⟨C, hC, ho, hl, hp, hb⟩ := best_ex hA hg h1
          have hjh : j * H + k < g * H := by
            have a1 : (j + 1) * H ≤ g * H := Nat.mul_le_mul_right H hj
            rw [Nat.add_mul, Nat.one_mul] at a1
            omega
          have h6 := gh6 hg hh
          have hpow : (aN A 1) ^ (g * H) ≤ 262144 := by
            have a1 : (aN A 1) ^ (g * H) ≤ 8 ^ (g * H) := Nat.pow_le_pow_left hn _
            have a2 : 8 ^ (g * H) ≤ 8 ^ 6 := Nat.pow_le_pow_right (by decide) h6
            omega
          refine ⟨nI (wk (aN A 1) g H C (j * H + k)), A, hA, fun S h => ?_, fun S h => ?_⟩
          · obtain ⟨S1, e1, c1⟩ := takeable_eq hA h
            have c1' : CS A S1 S1 := ⟨c1.1, frM.rf, c1.2.2⟩
            obtain ⟨S2, e2, c2, d0, d1⟩ := lay_eq hA c1' hh hg hp hb
            refine ⟨S2, ?_, c2.1, c1.2.1.tr c2.2.1⟩
            rw [mid S]
            refine (o_b (within_ix (n := g) ex (by omega) ⟨j, hj, eu⟩)).trans ?_
            rw [if_neg (by decide)]
            refine (o_b (within_ix (n := H) ey (by omega) ⟨k, hk, ew⟩)).trans ?_
            rw [if_pos (show ¬ (1 : Int32) = 0 by decide)]
            refine (o_b e1).trans ?_
            refine (o_b (c1.1.ref 11 14 rfl)).trans ?_
            rw [ex, ey]
            refine (o_b e2).trans ?_
            refine (o_b (c2.1.ref 11 14 rfl)).trans ?_
            rw [eu, ew]
            refine (o_b (streetOf_eq c2.1 (x := j) (k := k) (by omega))).trans ?_
            have es : zI S2 16 0 (3 * j + k) = nI (wk (aN A 1) g H C (j * H + k)) := by
              by_cases z : j = 0
              · rw [z, Nat.mul_zero, Nat.zero_add, Nat.zero_mul, Nat.zero_add, d0 k hk, wk_0 hg hk]
              · have e2 : g = 2 := by omega
                subst e2
                have ej : j = 1 := by omega
                rw [ej, Nat.mul_one, Nat.one_mul, d1 k hk, wk_1 hk]
            rw [es]
          · obtain ⟨S1, e1, l1, m1, e30⟩ := look_eq hA h.t hg h1 hh hC ho hl
            obtain ⟨q, S2, f1, l2, m2, -, d46, -⟩ := meet_eq hA l1 hg h1 hh (C := C) (by omega)
            refine ⟨S2, ?_, l2.1, (frC_t.tr m1).tr m2⟩
            rw [midM S]
            refine (o_b (in_ix (n := g) ex (by omega) ⟨j, hj, eu⟩)).trans ?_
            rw [if_neg (by decide)]
            refine (o_b (in_ix (n := H) ey (by omega) ⟨k, hk, ew⟩)).trans ?_
            rw [if_pos (show ¬ (1 : Int32) = 0 by decide), ex, ey]
            refine (o_b e1).trans ?_
            dsimp only
            rw [e30]
            refine (o_b f1).trans ?_
            refine (o_b (l2.1.ref 28 rfl)).trans ?_
            rw [eu, ew, nI_mul, nI_add]
            refine (o_b (zld_at (l2.1.len 46 6 rfl) (by omega) (by decide))).trans ?_
            rw [d46 _ hjh]
        · refine .same hA (-2) (fun S h => ?_) (fun S h => ?_)
          · rw [mid S]
            refine (o_b (within_ix (n := g) ex (by omega) hu)).trans ?_
            rw [if_neg (by decide)]
            refine (o_b (within_no (n := H) ey (by omega) hw)).trans ?_
            rw [if_neg (fun z => z rfl)]
          · rw [midM S]
            refine (o_b (in_ix (n := g) ex (by omega) hu)).trans ?_
            rw [if_neg (by decide)]
            refine (o_b (in_no (n := H) ey (by omega) hw)).trans ?_
            rw [if_neg (fun z => z rfl)]
      · refine .same hA (-2) (fun S h => ?_) (fun S h => ?_)
        · rw [mid S]
          refine (o_b (within_no (n := g) ex (by omega) hu)).trans ?_
          rw [if_pos rfl]
        · rw [midM S]
          refine (o_b (in_no (n := g) ex (by omega) hu)).trans ?_
          rw [if_pos rfl]
    · refine .same hA (-2) (fun S h => ?_) (fun S h => ?_)
      · unfold f_X11_laid
        refine (o_b (within_rg (p := 1) (q := 2) rfl rfl hx)).trans ?_
        rw [if_neg (by decide)]
        refine (o_b (within_nr (p := 1) (q := 3) rfl rfl hy)).trans ?_
        rw [if_pos rfl]
      · unfold f_X12_laid
        refine (o_b (badGangs_eq x y _)).trans ?_
        rw [if_neg (show ¬ (rg x 1 2 ∧ rg y 1 3) from fun z => hy z.2), if_pos (by decide)]
  · refine .same hA (-2) (fun S h => ?_) (fun S h => ?_)
    · unfold f_X11_laid
      refine (o_b (within_nr (p := 1) (q := 2) rfl rfl hx)).trans ?_
      rw [if_pos rfl]
    · unfold f_X12_laid
      refine (o_b (badGangs_eq x y _)).trans ?_
      rw [if_neg (show ¬ (rg x 1 2 ∧ rg y 1 3) from fun z => hx z.1), if_pos (by decide)]
