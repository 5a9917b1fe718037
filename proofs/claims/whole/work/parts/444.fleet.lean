/-! ===== the levy's two operations ===== -/
theorem z_none {ρ : Type} {b : Int32 → Option (Int32 ⊕ (Unit ⊕ ρ))} {n : Nat} (hn : n ≤ 1000) (hs : ∀ j, j < n → b (nI j) = some (.inl (nI (j + 1)))) (hx : b (nI n) = some (.inr (.inl ()))) : z_iter zFU b (0 : Int32) = some (.inl ()) :=
  z_for0 (fun j => nI j) n rfl (by omega) hs hx
theorem first_bad (g : Nat → Bool) : ∀ n, (∃ i, i < n ∧ g i = false) → ∃ i, i < n ∧ g i = false ∧ ∀ j, j < i → g j = true
  | 0, ⟨i, h, _⟩ => absurd h (Nat.not_lt_zero _)
  | n + 1, ⟨i, h, e⟩ => by
    by_cases q : ∃ i, i < n ∧ g i = false
    · obtain ⟨a, b, c, d⟩ := first_bad g n q
      exact ⟨a, by omega, c, d⟩
    · refine ⟨i, h, e, fun j hj => ?_⟩
      cases hg : g j with
      | true => rfl
      | false => exact absurd ⟨j, by omega, hg⟩ q
theorem and01 (y : Int32) : y &&& 1 = if bt y 0 = true then 1 else 0 := by
  have e : (y &&& 1).toBitVec = BitVec.setWidth 32 (BitVec.ofBool (y.toBitVec.getLsbD 0)) := by
    rw [Int32.toBitVec_and]; exact BitVec.and_one_eq_setWidth_ofBool_getLsbD
  unfold bt
  cases hh : y.toBitVec.getLsbD 0
  · rw [hh] at e
    rw [if_neg (by decide)]
    apply Int32.toBitVec_inj.mp; rw [e]; rfl
  · rw [hh] at e
    rw [if_pos rfl]
    apply Int32.toBitVec_inj.mp; rw [e]; rfl
theorem bit01 (x : Int32) {s : Nat} (hs : s < 31) : ((x >>> (nI s &&& 31)) &&& 1) = if bt x s = true then 1 else 0 := by
  have h := bitAt x hs
  have h2 := and01 (x >>> (nI s &&& 31))
  by_cases q : bt x s = true
  · rw [if_pos q]; exact h.mpr q
  · rw [if_neg q]
    by_cases z : bt (x >>> (nI s &&& 31)) 0 = true
    · rw [if_pos z] at h2; exact absurd (h.mp h2) q
    · rw [if_neg z] at h2; exact h2
/-- a set whose bits lie among the king's ships at home is a set of the fleet's ships -/
theorem sub_kg {A : ZA} {m n : Nat} (hn : n ≤ 32) (hm : m < 2 ^ 32) : (∀ i, i < 32 → m.testBit i = true → (kgN A n).testBit i = true) ↔ (m < 2 ^ n ∧ ∀ i, i < n → m.testBit i = true → kgB A i = true) := by
  constructor
  · intro h
    refine ⟨Nat.lt_pow_two_of_testBit m fun i hi => ?_, fun i hi hb => ?_⟩
    · cases hb : m.testBit i with
      | false => rfl
      | true =>
        by_cases q : i < 32
        · have := h i q hb
          rw [kgN_bit] at this
          simp at this
          omega
        · rw [Nat.testBit_lt_two_pow (Nat.lt_of_lt_of_le hm (Nat.pow_le_pow_right (by decide) (by omega)))] at hb
          cases hb
    · have := h i (by omega) hb
      rw [kgN_bit] at this
      simp at this
      exact this.2
  · rintro ⟨h1, h2⟩ i hi hb
    rw [kgN_bit]
    have : i < n := by
      by_cases q : i < n
      · exact q
      · rw [Nat.testBit_lt_two_pow (Nat.lt_of_lt_of_le h1 (Nat.pow_le_pow_right (by decide) (by omega)))] at hb
        cases hb
    simp [this, h2 i this hb]
theorem mask_eq {A : ZA} (hA : AIn A) {m : Nat} (hm : m < 2 ^ 32) : (nI m &&& (nI (kgN A (aN A 9)) ^^^ (-1 : Int32)) = 0) ↔ (m < 2 ^ (aN A 9) ∧ ∀ i, i < aN A 9 → m.testBit i = true → kgB A i = true) := by
  have c9 := hA.c9.2
  have h1 := kgN_lt (A := A) (aN A 9)
  have h2 : 2 ^ (aN A 9) ≤ 2 ^ 32 := Nat.pow_le_pow_right (by decide) (by omega)
  rw [sub_bits hm (by omega), sub_kg (by omega) hm]
theorem op_taken {A : ZA} (hA : AIn A) (x w : Int32) : OpE A (f_X11_taken 0 x w) (f_X12_taken 0 x w) := by
  have c9 := hA.c9.2
  have h10 : 2 ^ (aN A 9) ≤ 2 ^ 10 := Nat.pow_le_pow_right (by decide) (by omega)
  obtain ⟨m, hm, rfl⟩ := i_nat x
  by_cases hw : rg w 0 3
  · by_cases hq : m < 2 ^ (aN A 9) ∧ ∀ i, i < aN A 9 → m.testBit i = true → kgB A i = true
    · refine .ro hA (lfA A w m) (fun S h => ?_) (fun S h => ?_)
      · obtain ⟨S1, e1, f1, l1⟩ := muster_eq hA h w
        obtain ⟨hR, fM⟩ := k2_RC h f1
        refine ⟨S1, ?_, hR, fM⟩
        unfold f_X11_taken
        refine (o_b (kings_eq hA h)).trans ?_
        refine (o_b (isWeatherC w S)).trans ?_
        rw [if_pos hw, if_neg (by decide), if_pos ((mask_eq hA hm).mpr hq)]
        refine (o_b e1).trans ?_
        exact (o_b (leastTaken_eq hA hR hw l1 hm)).trans rfl
      · unfold f_X12_taken
        refine (o_b (badWeatherM w _)).trans ?_
        rw [if_pos hw, if_neg (by decide)]
        have e9 : zI (tS S) 12 0 9 = nI (aN A 9) := h.t.nSh hA
        refine (o_b (in_ix (n := 2 ^ (aN A 9)) (by show (1 : Int32) <<< (zI (tS S) 12 0 9 &&& 31) = _; rw [e9]; exact sh1 _ (by omega)) (by omega) ⟨m, hq.1, rfl⟩)).trans ?_
        rw [if_pos (by decide)]
        refine (o_b (z_none (n := aN A 9) (by omega) (fun s hs => ?_) ?_)).trans ?_
        · have hb := bitAt (nI m) (s := s) (by omega)
          rw [bt_nI hm (by omega)] at hb
          unfold b_X12_taken_35
          rw [show zI (zsI S 12 0 0 0) 12 0 9 = nI (aN A 9) from e9, if_neg (by rw [nI_leI (by omega) (by omega)]; omega), nI_1]
          by_cases q : m.testBit s = true
          · rw [if_neg (fun z => z (hb.mpr q))]
            refine (o_b (mayGo_eq hA h.t hs)).trans ?_
            rw [hq.2 s hs q, if_pos (by decide)]
          · rw [if_pos (fun z => q (hb.mp z))]
        · unfold b_X12_taken_35
          rw [show zI (zsI S 12 0 0 0) 12 0 9 = nI (aN A 9) from e9, if_pos (nI_le (Nat.le_refl _) (by omega))]
        · exact (o_b (fewest_eq hA h.t hm hq.2)).trans rfl
    · refine .ro hA (-2) (fun S h => ⟨S, ?_, h, frM.rf⟩) (fun S h => ?_)
      · unfold f_X11_taken
        refine (o_b (kings_eq hA h)).trans ?_
        refine (o_b (isWeatherC w S)).trans ?_
        rw [if_pos hw, if_neg (by decide), if_neg (fun z => hq ((mask_eq hA hm).mp z))]
      · unfold f_X12_taken
        refine (o_b (badWeatherM w _)).trans ?_
        rw [if_pos hw, if_neg (by decide)]
        have e9 : zI (tS S) 12 0 9 = nI (aN A 9) := h.t.nSh hA
        have esh : (1 : Int32) <<< (zI (zsI S 12 0 0 0) 12 0 9 &&& 31) = nI (2 ^ (aN A 9)) := by
          show (1 : Int32) <<< (zI (tS S) 12 0 9 &&& 31) = _
          rw [e9]; exact sh1 _ (by omega)
        by_cases hx : isIx (2 ^ (aN A 9)) (nI m)
        · refine (o_b (in_ix (n := 2 ^ (aN A 9)) esh (by omega) hx)).trans ?_
          have hm2 : m < 2 ^ (aN A 9) := by
            obtain ⟨i, hi, e⟩ := hx
            have e2 : (nI m).toBitVec.toNat = (nI i).toBitVec.toNat := by rw [e]
            have e3 : m % 2 ^ 32 = i % 2 ^ 32 := by
              have a1 : (BitVec.ofNat 32 m).toNat = (BitVec.ofNat 32 i).toNat := e2
              rw [BitVec.toNat_ofNat, BitVec.toNat_ofNat] at a1
              exact a1
            omega
          have hbad : ∃ i, i < aN A 9 ∧ (fun i => !(m.testBit i) || kgB A i) i = false := by
            by_cases z : ∃ i, i < aN A 9 ∧ (fun i => !(m.testBit i) || kgB A i) i = false
            · exact z
            · refine absurd ⟨hm2, fun i hi hb => ?_⟩ hq
              cases hg : kgB A i with
              | true => rfl
              | false => exact absurd ⟨i, hi, by simp [hb, hg]⟩ z
          obtain ⟨i, hi, hb, hall⟩ := first_bad _ _ hbad
          rw [if_pos (by decide)]
          refine (o_b (z_for0 (x := Sum.inr ((-2 : Int32), zsI S 12 0 0 0)) (fun j => nI j) i rfl (by omega) (fun s hs => ?_) ?_)).trans rfl
          · have hb := bitAt (nI m) (s := s) (by omega)
            rw [bt_nI hm (by omega)] at hb
            have ha := hall s hs
            unfold b_X12_taken_35
            rw [show zI (zsI S 12 0 0 0) 12 0 9 = nI (aN A 9) from e9, if_neg (by rw [nI_leI (by omega) (by omega)]; omega), nI_1]
            by_cases q : m.testBit s = true
            · rw [if_neg (fun z => z (hb.mpr q))]
              refine (o_b (mayGo_eq hA h.t (show s < aN A 9 by omega))).trans ?_
              rw [show kgB A s = true by simpa [q] using ha, if_pos (by decide)]
            · rw [if_pos (fun z => q (hb.mp z))]
          · have hb2 := bitAt (nI m) (s := i) (by omega)
            rw [bt_nI hm (by omega)] at hb2
            have q : m.testBit i = true ∧ kgB A i = false := by simpa using hb
            unfold b_X12_taken_35
            rw [show zI (zsI S 12 0 0 0) 12 0 9 = nI (aN A 9) from e9, if_neg (by rw [nI_leI (by omega) (by omega)]; omega), if_neg (fun z => z (hb2.mpr q.1))]
            refine (o_b (mayGo_eq hA h.t hi)).trans ?_
            rw [q.2, if_neg (by decide)]
        · refine (o_b (in_no (n := 2 ^ (aN A 9)) esh (by omega) hx)).trans ?_
          rw [if_neg (by decide)]
  · refine .ro hA (-2) (fun S h => ⟨S, ?_, h, frM.rf⟩) (fun S h => ?_)
    · unfold f_X11_taken
      refine (o_b (kings_eq hA h)).trans ?_
      refine (o_b (isWeatherC w S)).trans ?_
      rw [if_neg hw, if_pos rfl]
    · unfold f_X12_taken
      refine (o_b (badWeatherM w _)).trans ?_
      rw [if_neg hw, if_pos (by decide)]
/-! the best fleet -/
def bcI (m : Nat) : Int32 := nI (cntN (fun i => m.testBit i) 10)
theorem bc_all : ∀ m, m < 1024 → f_J6_bitCount_0f7a4 (nI m) zE = some (bcI m) := by decide +kernel
theorem bc_eq {m : Nat} (h : m < 1024) (S : ZH) : f_J6_bitCount_0f7a4 (nI m) S = some (bcI m) := bc_all m h
theorem cntN_stay (f : Nat → Bool) {n : Nat} (h : ∀ i, n ≤ i → f i = false) : ∀ d, cntN f (n + d) = cntN f n
  | 0 => rfl
  | d + 1 => by
    show cntN f (n + d) + (if f (n + d) = true then 1 else 0) = _
    rw [h _ (by omega), cntN_stay f h d]; rfl
def fsP (A : ZA) (w : Int32) (m : Nat) (v : Int32 × Int32 × Int32) : Int32 × Int32 × Int32 :=
  if nI m &&& (nI (kgN A (aN A 9)) ^^^ (-1 : Int32)) = 0 then
    if bcI m < v.2.1 then v
    else if lfA A w m = -9 then v
    else if v.2.1 < bcI m then (nI m, bcI m, lfA A w m)
    else if v.2.2 ≤ lfA A w m then v
    else (nI m, bcI m, lfA A w m)
  else v
def FS (A : ZA) (w : Int32) : Nat → Int32 × Int32 × Int32
  | 0 => (0, 0, 0)
  | j + 1 => fsP A w (j + 1) (FS A w j)
theorem FS_stay {A : ZA} (w : Int32) (hA : AIn A) : ∀ d, kgN A (aN A 9) + d < 2 ^ 32 → FS A w (kgN A (aN A 9) + d) = FS A w (kgN A (aN A 9))
  | 0, _ => rfl
  | d + 1, h => by
    show fsP A w (kgN A (aN A 9) + d + 1) (FS A w (kgN A (aN A 9) + d)) = _
    rw [FS_stay w hA d (by omega)]
    unfold fsP
    rw [if_neg]
    intro z
    have c9 := hA.c9.2
    have h1 := kgN_lt (A := A) (aN A 9)
    have h2 : 2 ^ (aN A 9) ≤ 2 ^ 32 := Nat.pow_le_pow_right (by decide) (by omega)
    have z2 := (sub_bits (by omega) (by omega)).mp z
    have e : (kgN A (aN A 9) + d + 1) &&& kgN A (aN A 9) = kgN A (aN A 9) + d + 1 := by
      apply Nat.eq_of_testBit_eq
      intro i
      rw [Nat.testBit_and]
      cases hb : (kgN A (aN A 9) + d + 1).testBit i with
      | false => rfl
      | true =>
        by_cases q : i < 32
        · rw [z2 i q hb]; rfl
        · rw [Nat.testBit_lt_two_pow (Nat.lt_of_lt_of_le (show kgN A (aN A 9) + d + 1 < 2 ^ 32 by omega) (Nat.pow_le_pow_right (by decide) (by omega)))] at hb
          cases hb
    have e2 : (kgN A (aN A 9) + d + 1) &&& kgN A (aN A 9) ≤ kgN A (aN A 9) := Nat.and_le_right
    omega
theorem i_le_lt {a b : Int32} : (a ≤ b) ↔ ¬ b < a := by rw [Int32.le_iff_toInt_le, Int32.lt_iff_toInt_lt]; omega
theorem op_fleet {A : ZA} (hA : AIn A) (w : Int32) : OpE A (f_X11_fleet 0 w) (f_X12_fleet 0 w) := by
  have c9 := hA.c9.2
  have h10 : 2 ^ (aN A 9) ≤ 1024 := Nat.pow_le_pow_right (show 0 < 2 by decide) (show aN A 9 ≤ 10 by omega)
  have hkg := kgN_lt (A := A) (aN A 9)
  have hpos : 0 < 2 ^ (aN A 9) := Nat.two_pow_pos _
  by_cases hw : rg w 0 3
  · refine .ro hA (FS A w (kgN A (aN A 9))).1 (fun S h => ?_) (fun S h => ?_)
    · obtain ⟨S1, e1, f1, l1⟩ := muster_eq hA h w
      obtain ⟨hR, fM⟩ := k2_RC h f1
      refine ⟨S1, ?_, hR, fM⟩
      unfold f_X11_fleet
      refine (o_b (isWeatherC w S)).trans ?_
      rw [if_pos hw, if_pos (show ¬ (1 : Int32) = 0 by decide)]
      refine (o_b e1).trans ?_
      refine (o_b (kings_eq hA hR)).trans ?_
      refine (o_b (z_for0 (fun j => ((FS A w j).1, (FS A w j).2.1, (FS A w j).2.2, nI (j + 1))) (kgN A (aN A 9)) (x := (FS A w (kgN A (aN A 9))).1) rfl (by omega) (fun j hj => ?_) ?_)).trans rfl
      · show b_X11_fleet_31 0 (nI (kgN A (aN A 9))) S1 ((FS A w j).1, (FS A w j).2.1, (FS A w j).2.2, nI (j + 1)) = some (Sum.inl ((fsP A w (j + 1) (FS A w j)).1, (fsP A w (j + 1) (FS A w j)).2.1, (fsP A w (j + 1) (FS A w j)).2.2, nI (j + 1 + 1)))
        generalize FS A w j = v
        unfold b_X11_fleet_31
        dsimp only
        rw [if_neg (fun z => absurd ((nI_leI (show j + 1 < 2 ^ 31 by omega) (show kgN A (aN A 9) < 2 ^ 31 by omega)).mpr hj) (by rw [i_le_lt]; exact fun y => y z)), nI_1]
        refine (o_b (bc_eq (m := j + 1) (by omega) S1)).trans ?_
        unfold fsP
        by_cases q : nI (j + 1) &&& (nI (kgN A (aN A 9)) ^^^ (-1 : Int32)) = 0
        · rw [if_neg (fun z => z q), if_pos q]
          by_cases q2 : bcI (j + 1) < v.2.1
          · rw [if_pos q2, if_neg (fun z => i_le_lt.mp z q2)]
          · rw [if_neg q2, if_pos (i_le_lt.mpr q2)]
            refine (o_b (leastTaken_eq hA hR hw l1 (m := j + 1) (by omega))).trans ?_
            by_cases q3 : lfA A w (j + 1) = -9
            · rw [if_pos q3, if_pos q3]
            · rw [if_neg q3, if_neg q3]
              unfold j_X11_fleet_92
              by_cases q4 : v.2.1 < bcI (j + 1)
              · rw [if_pos q4, if_pos q4, nI_1]
              · rw [if_neg q4, if_neg q4]
                by_cases q5 : v.2.2 ≤ lfA A w (j + 1)
                · rw [if_pos q5, if_pos q5]
                · rw [if_neg q5, if_neg q5, nI_1]
        · rw [if_pos q, if_neg q]
      · unfold b_X11_fleet_31
        dsimp only
        rw [if_pos (by rw [Int32.lt_iff_toInt_lt, nI_toInt (by omega), nI_toInt (by omega)]; omega)]
    · have e9 : zI (zsI S 12 0 0 0) 12 0 9 = nI (aN A 9) := h.t.nSh hA
      unfold f_X12_fleet
      refine (o_b (badWeatherM w _)).trans ?_
      rw [if_pos hw, if_pos rfl]
      refine (o_b (a := nI (kgN A (aN A 9))) (z_for0 (fun j => (nI (kgN A j), nI j)) (aN A 9) rfl (by omega) (fun j hj => ?_) ?_)).trans ?_
      · unfold b_X12_fleet_19
        dsimp only
        rw [e9, if_neg (by rw [nI_leI (by omega) (by omega)]; omega), nI_1]
        refine (o_b (mayGo_eq hA h.t hj)).trans ?_
        show _ = some (Sum.inl (nI (if kgB A j = true then kgN A j ||| 2 ^ j else kgN A j), nI (j + 1)))
        by_cases q : kgB A j = true
        · rw [q, if_neg (by decide), if_pos rfl, sh1 j (by omega), nx_or]
        · rw [show kgB A j = false by simpa using q, if_pos (by decide), if_neg (by decide), show (0 : Int32) = nI 0 from rfl, nx_or, Nat.or_zero]
      · unfold b_X12_fleet_19
        dsimp only
        rw [e9, if_pos (nI_le (Nat.le_refl _) (by omega))]
      · have fin : FS A w (2 ^ (aN A 9) - 1) = FS A w (kgN A (aN A 9)) := by
          have := FS_stay w hA (2 ^ (aN A 9) - 1 - kgN A (aN A 9)) (by omega)
          rw [show kgN A (aN A 9) + (2 ^ (aN A 9) - 1 - kgN A (aN A 9)) = 2 ^ (aN A 9) - 1 by omega] at this
          exact this
        refine (o_b (z_for0 (fun j => ((FS A w j).1, (FS A w j).2.1, (FS A w j).2.2, nI (j + 1))) (2 ^ (aN A 9) - 1) (x := (FS A w (kgN A (aN A 9))).1) rfl (by omega) (fun j hj => ?_) ?_)).trans rfl
        · show b_X12_fleet_62 0 w (nI (kgN A (aN A 9))) (zsI S 12 0 0 0) ((FS A w j).1, (FS A w j).2.1, (FS A w j).2.2, nI (j + 1)) = some (Sum.inl ((fsP A w (j + 1) (FS A w j)).1, (fsP A w (j + 1) (FS A w j)).2.1, (fsP A w (j + 1) (FS A w j)).2.2, nI (j + 1 + 1)))
          generalize FS A w j = v
          have hm : j + 1 < 2 ^ (aN A 9) := by omega
          unfold b_X12_fleet_62
          dsimp only
          rw [e9, sh1 _ (by omega), if_neg (by rw [nI_leI (by omega) (by omega)]; omega)]
          have ebc : z_iter zFU (b_X12_fleet_79 0 w (nI (kgN A (aN A 9))) v.1 v.2.1 v.2.2 (nI (j + 1)) (zsI S 12 0 0 0)) ((0 : Int32), (0 : Int32)) = some (bcI (j + 1)) := by
            have e10 : cntN (fun i => (j + 1).testBit i) 10 = cntN (fun i => (j + 1).testBit i) (aN A 9) := by
              have := cntN_stay (fun i => (j + 1).testBit i) (n := aN A 9) (fun i hi => Nat.testBit_lt_two_pow (Nat.lt_of_lt_of_le hm (Nat.pow_le_pow_right (by decide) hi))) (10 - aN A 9)
              rw [show aN A 9 + (10 - aN A 9) = 10 by omega] at this
              exact this
            unfold bcI
            rw [e10]
            refine z_cnt (fun i => (j + 1).testBit i) (by omega) (fun i c hi => ?_) (fun c => ?_)
            · unfold b_X12_fleet_79
              dsimp only
              rw [e9, if_neg (by rw [nI_leI (by omega) (by omega)]; omega), nI_1, bit01 _ (by omega), bt_nI (by omega) (by omega)]
              by_cases q : (j + 1).testBit i = true
              · rw [if_pos q, if_pos q, nI_1]
              · rw [if_neg q, if_neg q, Int32.add_zero]; rfl
            · unfold b_X12_fleet_79
              dsimp only
              rw [e9, if_pos (nI_le (Nat.le_refl _) (by omega))]
          refine (o_b ebc).trans ?_
          unfold fsP
          by_cases q : nI (j + 1) &&& (nI (kgN A (aN A 9)) ^^^ (-1 : Int32)) = 0
          · rw [if_neg (fun z => z q), if_pos q]
            by_cases q2 : bcI (j + 1) < v.2.1
            · rw [if_pos q2, if_pos q2]
              unfold j_X12_fleet_132 j_X12_fleet_134
              rw [if_pos rfl, nI_1]
            · rw [if_neg q2, if_neg q2]
              refine (o_b (fewest_eq hA h.t (m := j + 1) (by omega) ((mask_eq hA (by omega)).mp q).2)).trans ?_
              unfold j_X12_fleet_134 j_X12_fleet_157
              by_cases q3 : lfA A w (j + 1) = -9
              · rw [if_pos q3, if_pos q3, nI_1]
              · rw [if_neg q3, if_neg q3]
                by_cases q4 : v.2.1 < bcI (j + 1)
                · rw [if_pos q4, if_pos q4, nI_1]
                · rw [if_neg q4, if_neg q4]
                  by_cases q5 : v.2.2 ≤ lfA A w (j + 1)
                  · rw [if_pos q5, if_pos q5, nI_1]
                  · rw [if_neg q5, if_neg q5, nI_1]
          · rw [if_pos q, if_neg q]
            unfold j_X12_fleet_132 j_X12_fleet_134
            rw [if_pos rfl, nI_1]
        · unfold b_X12_fleet_62
          dsimp only
          rw [e9, sh1 _ (by omega), if_pos (by rw [show 2 ^ (aN A 9) - 1 + 1 = 2 ^ (aN A 9) by omega]; exact nI_le (Nat.le_refl _) (by omega)), fin]
  · refine .ro hA (-2) (fun S h => ⟨S, ?_, h, frM.rf⟩) (fun S h => ?_)
    · unfold f_X11_fleet
      refine (o_b (isWeatherC w S)).trans ?_
      rw [if_neg hw, if_neg (fun z => z rfl)]
    · unfold f_X12_fleet
      refine (o_b (badWeatherM w _)).trans ?_
      rw [if_neg hw, if_neg (by decide)]
