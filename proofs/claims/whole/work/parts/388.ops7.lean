/-! ===== shy, spare, sail, comeHome, quiet ===== -/
theorem aR_ne {A : ZA} {k i k' i' : Nat} {v : Int32} (h : ¬ (k' = k ∧ i' = i)) : (aR A k i v).2 k' i' = A.2 k' i' := if_neg h
theorem aR_eq {A : ZA} {k i : Nat} {v : Int32} : (aR A k i v).2 k i = v := if_pos ⟨rfl, rfl⟩
/-- a man's cells, where little has changed -/
theorem RMan.cg {A A1 : ZA} {S S1 : ZH} {i : Nat} (h : RMan A S i) (hr11 : zR S1 3 i 11 = zR S 3 i 11) (hr12 : zR S1 3 i 12 = zR S 3 i 12) (h13 : zI S1 3 i 13 = zI S 3 i 13) (l17 : zL S1 17 = zL S 17) (l18 : zL S1 18 = zL S 18) (i17 : zI S1 17 = zI S 17) (i18 : zI S1 18 = zI S 18) (a4 : aN A1 4 = aN A 4) (a33 : A1.2 33 = A.2 33) (ah : A1.2 31 (8 * i + 6) = A.2 31 (8 * i + 6)) (a32 : A1.2 32 i = A.2 32 i)
    (c1 : ∀ j, j < 8 → zI S1 3 i j = A1.2 31 (8 * i + j)) (c2 : zI S1 3 i 8 = zI S 3 i 8) (c3 : zI S1 3 i 9 = A1.2 54 i) (c4 : zR S1 3 i 10 = lastT (A1.2 44) i (aN A1 22)) : RMan A1 S1 i := by
  obtain ⟨b1, b2, b3, b4, ⟨b11, b12, bl, bc1, bc2⟩, ⟨b13, bm1, bm2⟩, ⟨bT, bT2⟩, bP, bs⟩ := h
  have et : tt S1 i = tt S i := by unfold tt; rw [hr11]
  have em : mvs S1 i = mvs S i := by unfold mvs; rw [h13]
  have ec : capOf S1 i = capOf S i := by unfold capOf; rw [et, l17]
  have ep : ∀ t, aPl A1 t i = aPl A t i := fun t => by unfold aPl; rw [a33]
  have ep' : aP A1 i = aP A i := by unfold aP; rw [a4, ep]
  refine ⟨c1, by rw [c2, b2, ep'], c3, c4, ⟨by rw [hr11, et]; exact b11, by rw [hr12, et]; exact b12, by rw [et, ec, l18]; exact bl, by rw [ec]; exact bc1, by rw [ec]; exact bc2⟩, ⟨by rw [h13, em]; exact b13, by rw [em, ec]; exact bm1, by rw [em]; exact bm2⟩, ⟨by rw [em, a4, et, i17]; exact bT, by rw [em, et, i17]; exact bT2⟩, ?_, by rw [ep', em, et, i17, a32]; exact bs⟩
  intro t ht
  rw [a4] at ht
  rw [ep, ah, et, i17, i18, em]
  exact bP t ht
theorem shy_AIn {A : ZA} (hA : AIn A) {i : Nat} {v : Int32} (hi : i < aN A 5) (hv : b01 v) : AIn (aR A 31 (8 * i + 7) v) := by
  refine ⟨hA.1, hA.2.1, ⟨fun j hj => ?_, hA.2.2.1.2⟩, hA.2.2.2⟩
  have h0 := hA.man hj
  have e : ∀ q, q ≠ 8 * i + 7 → (aR A 31 (8 * i + 7) v).2 31 q = A.2 31 q := fun q hq => aR_ne (fun z => hq z.2)
  have e7 : b01 ((aR A 31 (8 * i + 7) v).2 31 (8 * j + 7)) := by
    by_cases q : j = i
    · subst q; rw [aR_eq]; exact hv
    · rw [e _ (by omega)]; exact h0.2.2.2.2.2.2.2
  rw [e (8 * j) (by omega), e (8 * j + 1) (by omega), e (8 * j + 2) (by omega), e (8 * j + 3) (by omega), e (8 * j + 4) (by omega), e (8 * j + 5) (by omega), e (8 * j + 6) (by omega)]
  exact ⟨h0.1, h0.2.1, h0.2.2.1, h0.2.2.2.1, h0.2.2.2.2.1, h0.2.2.2.2.2.1, h0.2.2.2.2.2.2.1, e7⟩
theorem shy_RC {A : ZA} {S : ZH} (hA : AIn A) (h : RC A S) {i : Nat} {v : Int32} (hi : i < aN A 5) : RC (aR A 31 (8 * i + 7) v) (zsI S 3 i 7 v) := by
  have hman : ∀ j, j < aN A 5 → RMan (aR A 31 (8 * i + 7) v) (zsI S 3 i 7 v) j := by
    intro j hj
    have h0 := h.man hj
    have ez : ∀ q, q ≠ 7 → zI (zsI S 3 i 7 v) 3 j q = zI S 3 j q := fun q hq => by rw [zI_sI, if_neg (fun z => hq z.2)]
    refine h0.cg rfl rfl (ez 13 (by omega)) rfl rfl rfl rfl rfl rfl (aR_ne (by omega)) rfl (fun q hq => ?_) (ez 8 (by omega)) ((ez 9 (by omega)).trans h0.2.2.1) h0.2.2.2.1
    by_cases q7 : q = 7
    · subst q7
      rw [zI_sI]
      by_cases e : j = i
      · subst e; rw [if_pos ⟨rfl, rfl⟩, aR_eq]
      · rw [if_neg (fun z => e z.1), aR_ne (by omega)]; exact h0.1 7 hq
    · rw [ez q q7, aR_ne (by omega)]; exact h0.1 q hq
  exact ⟨h.sc, h.town, ⟨h.men.1, h.men.2.1, fun j hj => ⟨(h.men.2.2.1 j hj).1, hman j hj⟩, h.men.2.2.2⟩, h.paps, h.acts, h.tks, h.shps, h.tix, h.misc, h.bud⟩
theorem op_shy {A : ZA} (hA : AIn A) (x y : Int32) (hy : b01 y) : OpE A (f_X11_shy 0 x y) (f_X12_shy 0 x y) := by
  have c5 := hA.c5.2
  by_cases hx : isIx (aN A 5) x
  · obtain ⟨i, hi, rfl⟩ := hx
    have h7 := (hA.man hi).2.2.2.2.2.2.2
    refine ⟨A.2 31 (8 * i + 7), aR A 31 (8 * i + 7) y, shy_AIn hA hi hy, fun S h => ⟨zsI S 3 i 7 y, ?_, shy_RC hA h hi, frM_sI (nM 3 rfl)⟩, fun S h => ⟨zsI (tS S) 31 0 (8 * i + 7) y, ?_, h.t.R 31 _ y (by decide), frC_t.tr (frC_R (by decide) (by decide))⟩⟩
    · unfold f_X11_shy
      rw [findMan_ix hA h hi]
      simp only [Option.bind_some]
      rw [h.att hi (by decide : 7 < 8), asNumber_b h7]
      rcases hy with rfl | rfl <;> rfl
    · unfold f_X12_shy
      rw [noMan_ix hA h.t hi, h.t.ref 6 rfl, show (7 : Int32) = nI 7 from rfl, ix8]
      simp only [Option.bind_some]
      rw [h.t.ld 320 rfl rfl (by omega) (by decide)]
      simp only [Option.bind_some]
      rw [h.t.st 320 rfl (by omega) (by decide), h.t.st 320 rfl (by omega) (by decide)]
      rcases hy with rfl | rfl <;> rfl
  · refine .same hA (-1) (fun S h => ?_) (fun S h => ?_)
    · unfold f_X11_shy; rw [findMan_no hA h hx]; rfl
    · unfold f_X12_shy; rw [noMan_no hA h.t hx]; rfl
/-! weather, spare -/
theorem isWeatherC (x : Int32) (S : ZH) : f_X11_isWeather x S = some (if rg x 0 3 then 1 else 0) := by
  unfold f_X11_isWeather
  by_cases h : rg x 0 3
  · rw [within_rg (p := 0) (q := 3) rfl rfl h, if_pos h]; rfl
  · rw [within_nr (p := 0) (q := 3) rfl rfl h, if_neg h]; rfl
theorem badWeatherM (x : Int32) (S : ZH) : f_X12_badWeather x S = some (if rg x 0 3 then 0 else 1) := by
  unfold f_X12_badWeather
  by_cases h : rg x 0 3
  · rw [in_rg (p := 0) (q := 3) rfl rfl h, if_pos h]; rfl
  · rw [in_nr (p := 0) (q := 3) rfl rfl h, if_neg h]; rfl
def pos0 (y : Int32) : Int32 := if y ≤ 0 then 0 else y
theorem max0 (y : Int32) (S : ZH) : f_J9_max_7cf53 0 y S = some (pos0 y) := by
  unfold f_J9_max_7cf53 pos0
  simp only [Int32.lt_iff_toInt_lt, Int32.le_iff_toInt_le]
  by_cases h : (0 : Int32).toInt < y.toInt
  · rw [if_pos h, if_neg (by omega)]
  · rw [if_neg h, if_pos (by omega)]
abbrev mAt (A : ZA) (p : Int32) : Int32 := nI (cntN (fun i => decide (aP A i = p)) (aN A 5))
abbrev kAtS (A : ZA) (p : Int32) : Int32 := nI (cntN (fun i => decide (aP A i = p) && isSea A i) (aN A 5))
def sprV (A : ZA) (s : Nat) (w : Int32) : Int32 := pos0 (mAt A (nI (10 + s)) - A.2 37 s - w)
theorem spareOf_eq {A : ZA} {S : ZH} (h : RC A S) {s : Nat} (hs : s < aN A 9) (w : Int32) : f_X11_spareOf (some s) (mAt A (nI (10 + s))) w S = some (sprV A s w) := by
  unfold f_X11_spareOf
  simp only [Option.bind_some]
  rw [(h.shps.2.2 s hs).2.2.2.2.1, max0]
  rfl
theorem spared_eq {A : ZA} {S : ZH} (hA : AIn A) (h : MV A S) {s : Nat} (hs : s < aN A 9) (w : Int32) : f_X12_spared 0 (nI s) w S = some (sprV A s w) := by
  have c9 := hA.c9.2
  unfold f_X12_spared
  rw [ship_add, many_eq hA h, h.ref 13 rfl]
  simp only [Option.bind_some]
  rw [h.ld 10 rfl rfl (by omega) (by decide)]
  simp only [Option.bind_some]
  unfold sprV pos0
  split <;> rfl
theorem op_spare {A : ZA} (hA : AIn A) (x w : Int32) : OpP A (f_X11_spare 0 x w) (f_X12_spare 0 x w) := by
  have c9 := hA.c9.2
  by_cases hx : isIx (aN A 9) x
  · obtain ⟨s, hs, rfl⟩ := hx
    by_cases hw : rg w 0 3
    · by_cases hk : A.2 34 s = 0
      · refine .ro (-3) (fun S h => ?_) (fun S h => ?_)
        · unfold f_X11_spare
          rw [findShip_ix hA h hs, isWeatherC, if_pos hw]
          simp only [Option.bind_some]
          rw [(h.shps.2.2 s hs).2.1, hk]; rfl
        · unfold f_X12_spare
          rw [noShip_ix hA h.t hs, badWeatherM, if_pos hw, h.t.ref 10 rfl]
          simp only [Option.bind_some]
          rw [h.t.ld 10 rfl rfl (by omega) (by decide), hk]; rfl
      · refine .ro (sprV A s w) (fun S h => ?_) (fun S h => ?_)
        · unfold f_X11_spare
          rw [findShip_ix hA h hs, isWeatherC, if_pos hw, ship_add, menIn_eq hA h]
          simp only [Option.bind_some]
          rw [spareOf_eq h hs, (h.shps.2.2 s hs).2.1, if_pos hk]; rfl
        · unfold f_X12_spare
          rw [noShip_ix hA h.t hs, badWeatherM, if_pos hw, h.t.ref 10 rfl, spared_eq hA h.t hs]
          simp only [Option.bind_some]
          rw [h.t.ld 10 rfl rfl (by omega) (by decide)]
          simp only [Option.bind_some]
          rw [if_pos hk]; rfl
    · refine .ro (-2) (fun S h => ?_) (fun S h => ?_)
      · unfold f_X11_spare
        rw [findShip_ix hA h hs, isWeatherC, if_neg hw]; rfl
      · unfold f_X12_spare
        rw [noShip_ix hA h.t hs, badWeatherM, if_neg hw]; rfl
  · refine .ro (-1) (fun S h => ?_) (fun S h => ?_)
    · unfold f_X11_spare; rw [findShip_no hA h hx]; rfl
    · unfold f_X12_spare; rw [noShip_no hA h.t hx]; rfl
/-! sail, comeHome -/
theorem out_AIn {A : ZA} (hA : AIn A) {s : Nat} {v : Int32} (hs : s < aN A 9) (hv : b01 v) : AIn (aR A 38 s v) := by
  refine ⟨hA.1, hA.2.1, hA.2.2.1, ⟨fun q hq => ?_, fun q h1 h2 => ?_⟩, hA.2.2.2.2⟩
  · have h0 := hA.sh hq
    refine ⟨h0.1, h0.2.1, h0.2.2.1, h0.2.2.2.1, ?_⟩
    by_cases e : q = s
    · subst e; rw [aR_eq]; exact hv
    · rw [aR_ne (by omega)]; exact h0.2.2.2.2
  · have h1' : aN A 9 ≤ q := h1
    rw [aR_ne (by omega)]
    exact hA.2.2.2.1.2 q h1 h2
theorem out_RC {A : ZA} {S : ZH} (h : RC A S) {s : Nat} {v u : Int32} (hs : s < aN A 9) (hu : u = if v = 0 then 1 else 0) : RC (aR A 38 s v) (zsI S 6 s 4 u) := by
  refine ⟨h.sc, h.town, h.men, h.paps, h.acts, h.tks, ⟨h.shps.1, h.shps.2.1, fun q hq => ?_⟩, h.tix, h.misc, h.bud⟩
  obtain ⟨a, b, c, d, e, f⟩ := h.shps.2.2 q hq
  have ez : ∀ j, j ≠ 4 → zI (zsI S 6 s 4 u) 6 q j = zI S 6 q j := fun j hj => by rw [zI_sI, if_neg (fun z => hj z.2)]
  refine ⟨a, (ez 0 (by omega)).trans b, (ez 1 (by omega)).trans c, (ez 2 (by omega)).trans d, (ez 3 (by omega)).trans e, ?_⟩
  rw [zI_sI]
  by_cases e1 : q = s
  · subst e1; rw [if_pos ⟨rfl, rfl⟩, aR_eq]; exact hu
  · rw [if_neg (fun z => e1 z.1), aR_ne (by omega)]; exact f
theorem op_sail {A : ZA} (hA : AIn A) (x : Int32) : OpE A (f_X11_sail 0 x) (f_X12_sail 0 x) := by
  have c9 := hA.c9.2
  by_cases hx : isIx (aN A 9) x
  · obtain ⟨s, hs, rfl⟩ := hx
    have evX : ∀ S, RC A S → f_X11_sail 0 (nI s) S = if A.2 38 s = 0 ∧ ¬ mAt A (nI (10 + s)) < A.2 35 s ∧ A.2 36 s ≤ kAtS A (nI (10 + s)) then some (mAt A (nI (10 + s)), zsI S 6 s 4 0) else some (-3, S) := by
      intro S h
      unfold f_X11_sail
      rw [findShip_ix hA h hs, ship_add, menIn_eq hA h, seamenIn_eq hA h]
      simp only [Option.bind_some]
      rw [(h.ship hs).1, (h.ship hs).2, (h.shps.2.2 s hs).2.2.2.1]
      by_cases ho : A.2 38 s = 0 <;> by_cases h1 : mAt A (nI (10 + s)) < A.2 35 s <;> by_cases h2 : A.2 36 s ≤ kAtS A (nI (10 + s)) <;> simp [ho, h1, h2]
    have evM : ∀ S, MV A S → f_X12_sail 0 (nI s) S = if A.2 38 s = 0 ∧ ¬ mAt A (nI (10 + s)) < A.2 35 s ∧ A.2 36 s ≤ kAtS A (nI (10 + s)) then some (mAt A (nI (10 + s)), zsI (tS S) 38 0 s 1) else some (-3, tS S) := by
      intro S h
      unfold f_X12_sail
      rw [noShip_ix hA h.t hs, h.t.ref 14 rfl, h.t.ref 11 rfl, h.t.ref 12 rfl, ship_add, many_eq hA h.t, skilled_eq hA h.t, show z_b (1 : Int32) = 1 from rfl]
      simp only [Option.bind_some]
      rw [h.t.ld (k := 38) 10 rfl rfl (by omega) (by decide), h.t.ld (k := 35) 10 rfl rfl (by omega) (by decide), h.t.ld (k := 36) 10 rfl rfl (by omega) (by decide), h.t.st 10 rfl (by omega) (by decide)]
      have hM : MV (aR A 38 s 1) (zsI (tS S) 38 0 s 1) := h.t.R 38 s 1 (by decide)
      rw [many_eq (out_AIn hA hs (Or.inr rfl)) hM]
      simp only [Option.bind_some]
      have eM : nI (cntN (fun i => decide (aP (aR A 38 s 1) i = nI (10 + s))) (aN (aR A 38 s 1) 5)) = mAt A (nI (10 + s)) := rfl
      rw [eM]
      by_cases ho : A.2 38 s = 0 <;> by_cases h1 : mAt A (nI (10 + s)) < A.2 35 s <;> by_cases h2 : A.2 36 s ≤ kAtS A (nI (10 + s)) <;> simp [ho, h1, h2]
    by_cases hg : A.2 38 s = 0 ∧ ¬ mAt A (nI (10 + s)) < A.2 35 s ∧ A.2 36 s ≤ kAtS A (nI (10 + s))
    · refine ⟨mAt A (nI (10 + s)), aR A 38 s 1, out_AIn hA hs (Or.inr rfl), fun S h => ⟨zsI S 6 s 4 0, by rw [evX S h, if_pos hg], out_RC h hs rfl, frM_sI (nM 6 rfl)⟩, fun S h => ⟨zsI (tS S) 38 0 s 1, by rw [evM S h, if_pos hg], h.t.R 38 _ 1 (by decide), frC_t.tr (frC_R (by decide) (by decide))⟩⟩
    · exact .same hA (-3) (fun S h => by rw [evX S h, if_neg hg]) (fun S h => by rw [evM S h, if_neg hg])
  · refine .same hA (-1) (fun S h => ?_) (fun S h => ?_)
    · unfold f_X11_sail; rw [findShip_no hA h hx]; rfl
    · unfold f_X12_sail; rw [noShip_no hA h.t hx]; rfl
theorem op_comeHome {A : ZA} (hA : AIn A) (x : Int32) : OpE A (f_X11_comeHome 0 x) (f_X12_comeHome 0 x) := by
  have c9 := hA.c9.2
  by_cases hx : isIx (aN A 9) x
  · obtain ⟨s, hs, rfl⟩ := hx
    by_cases ho : A.2 38 s = 0
    · refine .same hA (-3) (fun S h => ?_) (fun S h => ?_)
      · unfold f_X11_comeHome
        rw [findShip_ix hA h hs]
        simp only [Option.bind_some]
        rw [(h.ship hs).1, if_pos ho]; rfl
      · unfold f_X12_comeHome
        rw [noShip_ix hA h.t hs, h.t.ref 14 rfl]
        simp only [Option.bind_some]
        rw [h.t.ld 10 rfl rfl (by omega) (by decide), ho]; rfl
    · refine ⟨mAt A (nI (10 + s)), aR A 38 s 0, out_AIn hA hs (Or.inl rfl), fun S h => ⟨zsI S 6 s 4 1, ?_, out_RC h hs rfl, frM_sI (nM 6 rfl)⟩, fun S h => ⟨zsI (tS S) 38 0 s 0, ?_, h.t.R 38 _ 0 (by decide), frC_t.tr (frC_R (by decide) (by decide))⟩⟩
      · have hR : RC (aR A 38 s 0) (zsI S 6 s 4 1) := out_RC h hs rfl
        unfold f_X11_comeHome
        rw [findShip_ix hA h hs, ship_add]
        simp only [Option.bind_some]
        rw [(h.ship hs).1, if_neg ho, menIn_eq (out_AIn hA hs (Or.inl rfl)) hR]; rfl
      · unfold f_X12_comeHome
        rw [noShip_ix hA h.t hs, h.t.ref 14 rfl, ship_add, show z_b (0 : Int32) = 0 from rfl]
        simp only [Option.bind_some]
        rw [h.t.ld 10 rfl rfl (by omega) (by decide), h.t.st 10 rfl (by omega) (by decide)]
        have hM : MV (aR A 38 s 0) (zsI (tS S) 38 0 s 0) := h.t.R 38 s 0 (by decide)
        rw [many_eq (out_AIn hA hs (Or.inl rfl)) hM]
        simp only [Option.bind_some]
        rw [if_pos ho]; rfl
  · refine .same hA (-1) (fun S h => ?_) (fun S h => ?_)
    · unfold f_X11_comeHome; rw [findShip_no hA h hx]; rfl
    · unfold f_X12_comeHome; rw [noShip_no hA h.t hx]; rfl
/-! quiet -/
theorem z_cnt2 {b : Int32 × Int32 → Option ((Int32 × Int32) ⊕ Int32)} {m n : Nat} (f : Nat → Bool) (hm : m ≤ n) (hn : n ≤ 1000) (hs : ∀ j c, j < n → b (nI c, nI j) = some (.inl (nI (c + if f j = true then 1 else 0), nI (j + 1)))) (hx : ∀ c, b (nI c, nI n) = some (.inr (nI c))) : z_iter zFU b ((0 : Int32), nI m) = some (nI (cntN (fun j => f (m + j)) (n - m))) := by
  refine z_for0 (fun j => (nI (cntN (fun j => f (m + j)) j), nI (m + j))) (n - m) rfl (by omega) (fun j hj => hs (m + j) _ (by omega)) ?_
  show b (_, nI (m + (n - m))) = _
  rw [show m + (n - m) = n by omega]
  exact hx _
theorem RC.tkAt {A : ZA} {S : ZH} (hA : AIn A) (h : RC A S) {t : Nat} (ht : t < aN A 22) : zldR S 19 0 (nI t) = some (some t) := by
  have := hA.c22.2
  rw [zldR_at (h.len 19 60 rfl) (by omega) (by decide), (h.tks.2.2.2 t ht).1]
theorem RC.tkF {A : ZA} {S : ZH} (h : RC A S) {t j : Nat} (ht : t < aN A 22) (hj : j < 6) : zI S 8 t j = A.2 44 (6 * t + j) := (h.tks.2.2.2 t ht).2 j hj
theorem RC.nTk {A : ZA} {S : ZH} (hA : AIn A) (h : RC A S) : zI S 5 0 0 = nI (aN A 22) := h.tks.1.trans hA.c22.1
theorem RC.nQ {A : ZA} {S : ZH} (hA : AIn A) (h : RC A S) : zI S 5 0 2 = nI (aN A 24) := h.tks.2.1.trans hA.c24.1
theorem MV.nTk {A : ZA} {S : ZH} (hA : AIn A) (h : MV A S) : zI S 12 0 22 = nI (aN A 22) := (h.f 22 rfl).trans hA.c22.1
theorem MV.nQ {A : ZA} {S : ZH} (hA : AIn A) (h : MV A S) : zI S 12 0 24 = nI (aN A 24) := (h.f 24 rfl).trans hA.c24.1
theorem quiet_AIn {A : ZA} (hA : AIn A) : AIn (aF A 24 (A.1 22)) := ⟨⟨hA.c1, hA.c1p, hA.c4, hA.c5, hA.c9, hA.c15, hA.c17, hA.c22, hA.c22, Nat.le_refl _, hA.c31, hA.room, hA.rate⟩, hA.2⟩
theorem op_quiet {A : ZA} (hA : AIn A) : OpE A (f_X11_quiet 0) (f_X12_quiet 0) := by
  have c22 := hA.c22.2
  have c24 := hA.c24l
  refine ⟨nI (cntN (fun j => stB (A.2 44 (6 * (aN A 24 + j) + 3))) (aN A 22 - aN A 24)), aF A 24 (A.1 22), quiet_AIn hA, fun S h => ⟨zsI S 5 0 2 (A.1 22), ?_, ⟨h.sc, h.town, h.men, h.paps, h.acts, ⟨h.tks.1, rfl, h.tks.2.2⟩, h.shps, h.tix, h.misc, h.bud⟩, frM_sI (nM 5 rfl)⟩, fun S h => ⟨zsI (tS S) 12 0 24 (A.1 22), ?_, h.t.F 24 _, frC_t.tr frC_F⟩⟩
  · unfold f_X11_quiet f_X5_takingsInNews f_X5_hush
    rw [h.ref 11 7 rfl]
    simp only [Option.bind_some]
    rw [h.nQ hA, z_cnt2 (fun t => stB (A.2 44 (6 * t + 3))) (n := aN A 22) c24 (by omega) (fun j c hj => ?_) (fun c => ?_), h.tks.1]
    · rfl
    · unfold b_X5_takingsInNews_7
      rw [h.nTk hA, if_neg (by rw [nI_leI (by omega) (by omega)]; omega), h.ref 5 1 rfl]
      simp only [Option.bind_some]
      rw [h.tkAt hA hj]
      simp only [Option.bind_some]
      rw [h.tkF hj (by omega), isStreetC]
      cases e : stB (A.2 44 (6 * j + 3)) <;> simp [nI_1]
    · unfold b_X5_takingsInNews_7
      rw [h.nTk hA, if_pos (nI_le (Nat.le_refl _) (by omega))]
  · unfold f_X12_quiet
    rw [h.t.nQ hA, z_cnt2 (fun t => stB (A.2 44 (6 * t + 3))) (n := aN A 22) c24 (by omega) (fun j c hj => ?_) (fun c => ?_), h.t.f 22 rfl]
    · rfl
    · unfold b_X12_quiet_12
      rw [h.t.nTk hA, if_neg (by rw [nI_leI (by omega) (by omega)]; omega), h.t.ref 23 rfl, show (3 : Int32) = nI 3 from rfl, ix6]
      simp only [Option.bind_some]
      rw [h.t.ld 360 rfl rfl (by omega) (by decide)]
      simp only [Option.bind_some]
      rw [isStreetM]
      cases e : stB (A.2 44 (6 * j + 3)) <;> simp [nI_1]
    · unfold b_X12_quiet_12
      rw [h.t.nTk hA, if_pos (nI_le (Nat.le_refl _) (by omega))]
