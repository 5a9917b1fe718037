def NS (A : ZA) (m : Nat) : Nat → Int32
  | 0 => 0
  | s + 1 => if m.testBit s = true then NS A m s + A.2 35 s else NS A m s
def ZS (A : ZA) (m : Nat) : Nat → Int32
  | 0 => 0
  | s + 1 => if m.testBit s = true then ZS A m s + A.2 36 s else ZS A m s
/-- what the class's levy holds -/
def LV (A : ZA) (w : Int32) (S : ZH) : Prop := zI S 2 0 0 = HS A (aN A 9) ∧ zI S 2 0 1 = KS A (aN A 9) ∧ zI S 2 0 2 = SP A w (aN A 9) ∧ zI S 2 0 3 = SQ A w (aN A 9)
theorem k2_RC {A : ZA} {S S' : ZH} (h : RC A S) (f : FR 2 S S') : RC A S' ∧ frM S S' := by
  have kl : ∀ (l : List Nat), l.contains 2 = false → ∀ k, kIn l k = true → eqK S S' k := fun l a k hk => f.1 k (kNe a k hk)
  exact ⟨⟨h.sc.k (kl _ rfl), h.town.k (kl _ rfl), h.men.k (kl _ rfl), h.paps.k (kl _ rfl), h.acts.k (kl _ rfl), h.tks.k (kl _ rfl), h.shps.k (kl _ rfl), h.tix.k (kl _ rfl), h.misc.k (kl _ rfl), h.bud.k (f.1 3 (by decide)) (f.1 17 (by decide)) f.2.2.2.2.1 f.2.2.2.2.2⟩, fun k hk => f.1 k (fun e => nM 2 rfl (e ▸ hk))⟩
theorem muster_eq {A : ZA} {S : ZH} (hA : AIn A) (h : RC A S) (w : Int32) : ∃ S1, f_X11_musterLevy 0 w S = some S1 ∧ FR 2 S S1 ∧ LV A w S1 := by
  have c9 := hA.c9.2
  have h0 : FR 2 S (zsI (zsI (zsI (zsI S 2 0 0 (mAt A 20)) 2 0 1 (kAtS A 20)) 2 0 2 0) 2 0 3 0) := ((FR.sI.tr FR.sI).tr FR.sI).tr FR.sI
  have key := z_inv0 (b := b_X11_musterLevy_21 0 w) (X := fun T => FR 2 S T ∧ LV A w T) (fun s v => v.1 = nI s ∧ FR 2 S v.2 ∧ zI v.2 2 0 0 = HS A s ∧ zI v.2 2 0 1 = KS A s ∧ zI v.2 2 0 2 = SP A w s ∧ zI v.2 2 0 3 = SQ A w s) (aN A 9) (v := ((0 : Int32), zsI (zsI (zsI (zsI S 2 0 0 (mAt A 20)) 2 0 1 (kAtS A 20)) 2 0 2 0) 2 0 3 0)) (by omega) ⟨rfl, h0, by rw [zI_sI, if_neg (by omega), zI_sI, if_neg (by omega), zI_sI, if_neg (by omega), zI_sI, if_pos ⟨rfl, rfl⟩]; rfl, by rw [zI_sI, if_neg (by omega), zI_sI, if_neg (by omega), zI_sI, if_pos ⟨rfl, rfl⟩]; rfl, by rw [zI_sI, if_neg (by omega), zI_sI, if_pos ⟨rfl, rfl⟩]; rfl, by rw [zI_sI, if_pos ⟨rfl, rfl⟩]; rfl⟩ (fun s v hs hI => ?_) (fun v hI => ?_)
  · obtain ⟨S1, e1, f1, l1⟩ := key
    refine ⟨S1, ?_, f1, l1⟩
    unfold f_X11_musterLevy f_X2_begin
    refine (o_b (menIn_eq hA h 20)).trans ?_
    refine (o_b (seamenIn_eq hA h 20)).trans ?_
    refine (o_b (h.ref 11 15 rfl)).trans ?_
    refine (o_b (a := zsI (zsI (zsI (zsI S 2 0 0 (mAt A 20)) 2 0 1 (kAtS A 20)) 2 0 2 0) 2 0 3 0) rfl).trans ?_
    exact (o_b e1).trans rfl
  · obtain ⟨v1, v2⟩ := v
    obtain ⟨i1, i2, i3, i4, i5, i6⟩ := hI
    replace i1 : v1 = nI s := i1
    replace i2 : FR 2 S v2 := i2
    replace i3 : zI v2 2 0 0 = HS A s := i3
    replace i4 : zI v2 2 0 1 = KS A s := i4
    replace i5 : zI v2 2 0 2 = SP A w s := i5
    replace i6 : zI v2 2 0 3 = SQ A w s := i6
    subst i1
    have hR := (k2_RC h i2).1
    obtain ⟨r, a0, a1, a2, a3, a4⟩ := hR.shps.2.2 s hs
    have hb := hA.sh hs
    have head : ∀ g, (((zR v2 11 0 8)).bind fun a5 => (zldR v2 25 a5 (nI s)).bind fun v6 => (v6).bind g) = (g s : Option ((Int32 × ZH) ⊕ ZH)) := by
      intro g
      refine (o_b (hR.ref 11 8 rfl)).trans ?_
      refine (o_b (hR.shAt hA hs)).trans ?_
      rfl
    have hH : HS A (s + 1) = if kgB A s = true then HS A s + mAt A (nI (10 + s)) else HS A s := rfl
    have hK : KS A (s + 1) = if kgB A s = true then KS A s + kAtS A (nI (10 + s)) else KS A s := rfl
    have hP : SP A w (s + 1) = if trB A s = true then SP A w s + sprV A s w else SP A w s := rfl
    have hQ : SQ A w (s + 1) = if trB A s = true then SQ A w s + minI (sprV A s w) (kAtS A (nI (10 + s))) else SQ A w s := rfl
    unfold b_X11_musterLevy_21
    dsimp only
    rw [hR.nSh hA, if_neg (by rw [nI_leI (by omega) (by omega)]; omega), head, a4, a0, nI_1]
    by_cases q2 : A.2 38 s = 0
    · rw [if_pos q2, if_pos (show ¬ (1 : Int32) = 0 by decide), ship_add]
      rcases hb.1 with q1 | q1
      · have k1 : kgB A s = true := by unfold kgB; simp [q1, q2]
        have k2 : trB A s = false := by unfold trB; simp [q1]
        refine ⟨(nI (s + 1), zsI (zsI v2 2 0 0 (HS A (s + 1))) 2 0 1 (KS A (s + 1))), ?_, rfl, i2.tr (FR.sI.tr FR.sI), ?_, ?_, ?_, ?_⟩
        · refine (o_b (menIn_eq hA hR _)).trans ?_
          refine (o_b (seamenIn_eq hA hR _)).trans ?_
          rw [if_neg (fun z => z q1)]
          refine (o_b (hR.ref 11 15 rfl)).trans ?_
          unfold f_X2_addCrew
          have z1 : zI (zsI v2 2 0 0 (zI v2 2 0 0 + mAt A (nI (10 + s)))) 2 0 1 = KS A s := by rw [zI_sI, if_neg (by omega)]; exact i4
          rw [z1, i3, hH, hK, if_pos k1, if_pos k1]
          rfl
        · show zI (zsI (zsI v2 2 0 0 (HS A (s + 1))) 2 0 1 (KS A (s + 1))) 2 0 0 = _
          rw [zI_sI, if_neg (by omega), zI_sI, if_pos ⟨rfl, rfl⟩]
        · show zI (zsI (zsI v2 2 0 0 (HS A (s + 1))) 2 0 1 (KS A (s + 1))) 2 0 1 = _
          rw [zI_sI, if_pos ⟨rfl, rfl⟩]
        · show zI (zsI (zsI v2 2 0 0 (HS A (s + 1))) 2 0 1 (KS A (s + 1))) 2 0 2 = _
          rw [zI_sI, if_neg (by omega), zI_sI, if_neg (by omega), i5, hP, k2]; rfl
        · show zI (zsI (zsI v2 2 0 0 (HS A (s + 1))) 2 0 1 (KS A (s + 1))) 2 0 3 = _
          rw [zI_sI, if_neg (by omega), zI_sI, if_neg (by omega), i6, hQ, k2]; rfl
      · have k1 : kgB A s = false := by unfold kgB; simp [q1]
        have k2 : trB A s = true := by unfold trB; simp [q1, q2]
        refine ⟨(nI (s + 1), zsI (zsI v2 2 0 2 (SP A w (s + 1))) 2 0 3 (SQ A w (s + 1))), ?_, rfl, i2.tr (FR.sI.tr FR.sI), ?_, ?_, ?_, ?_⟩
        · refine (o_b (menIn_eq hA hR _)).trans ?_
          refine (o_b (seamenIn_eq hA hR _)).trans ?_
          rw [q1, if_pos (show ¬ (1 : Int32) = 0 by decide)]
          refine (o_b (spareOf_eq hR hs w)).trans ?_
          refine (o_b (hR.ref 11 15 rfl)).trans ?_
          unfold f_X2_addSpare
          rw [i5]
          have hmin : f_J9_min_7cf53 (sprV A s w) (kAtS A (nI (10 + s))) (zsI v2 2 0 2 (SP A w s + sprV A s w)) = some (minI (sprV A s w) (kAtS A (nI (10 + s)))) := by
            unfold f_J9_min_7cf53 minI
            split <;> rfl
          have z1 : zI (zsI v2 2 0 2 (SP A w s + sprV A s w)) 2 0 3 = SQ A w s := by rw [zI_sI, if_neg (by omega)]; exact i6
          rw [hP, hQ, if_pos k2, if_pos k2, z1]
          refine (o_b (a := zsI (zsI v2 2 0 2 (SP A w s + sprV A s w)) 2 0 3 (SQ A w s + minI (sprV A s w) (kAtS A (nI (10 + s))))) ?_).trans rfl
          exact (o_b hmin).trans rfl
        · show zI (zsI (zsI v2 2 0 2 (SP A w (s + 1))) 2 0 3 (SQ A w (s + 1))) 2 0 0 = _
          rw [zI_sI, if_neg (by omega), zI_sI, if_neg (by omega), i3, hH, k1]; rfl
        · show zI (zsI (zsI v2 2 0 2 (SP A w (s + 1))) 2 0 3 (SQ A w (s + 1))) 2 0 1 = _
          rw [zI_sI, if_neg (by omega), zI_sI, if_neg (by omega), i4, hK, k1]; rfl
        · show zI (zsI (zsI v2 2 0 2 (SP A w (s + 1))) 2 0 3 (SQ A w (s + 1))) 2 0 2 = _
          rw [zI_sI, if_neg (by omega), zI_sI, if_pos ⟨rfl, rfl⟩]
        · show zI (zsI (zsI v2 2 0 2 (SP A w (s + 1))) 2 0 3 (SQ A w (s + 1))) 2 0 3 = _
          rw [zI_sI, if_pos ⟨rfl, rfl⟩]
    · have k1 : kgB A s = false := by unfold kgB; simp [q2]
      have k2 : trB A s = false := by unfold trB; simp [q2]
      rw [if_neg q2, if_neg (show ¬ ¬ (0 : Int32) = 0 from fun z => z rfl)]
      refine ⟨(nI (s + 1), v2), rfl, rfl, i2, ?_, ?_, ?_, ?_⟩
      · show zI v2 2 0 0 = _
        rw [i3, hH, k1]; rfl
      · show zI v2 2 0 1 = _
        rw [i4, hK, k1]; rfl
      · show zI v2 2 0 2 = _
        rw [i5, hP, k2]; rfl
      · show zI v2 2 0 3 = _
        rw [i6, hQ, k2]; rfl
  · obtain ⟨v1, v2⟩ := v
    obtain ⟨i1, i2, i3⟩ := hI
    replace i1 : v1 = nI (aN A 9) := i1
    replace i2 : FR 2 S v2 := i2
    subst i1
    refine ⟨v2, ?_, i2, i3⟩
    unfold b_X11_musterLevy_21
    dsimp only
    rw [(k2_RC h i2).1.nSh hA, if_pos (nI_le (Nat.le_refl _) (by omega))]
def lfA (A : ZA) (w : Int32) (m : Nat) : Int32 := lfV (NS A m (aN A 9)) (ZS A m (aN A 9)) (HS A (aN A 9)) (KS A (aN A 9)) (SP A w (aN A 9)) (SQ A w (aN A 9))
theorem leastFor_eq {S : ZH} {n k h q sp sq : Int32} (hq : 0 ≤ sq.toInt) (z0 : zI S 2 0 0 = h) (z1 : zI S 2 0 1 = q) (z2 : zI S 2 0 2 = sp) (z3 : zI S 2 0 3 = sq) : f_X2_leastFor 0 n k S = some (lfV n k h q sp sq) := by
  unfold f_X2_leastFor
  refine (o_b (max0 _ _)).trans ?_
  have e2 : f_J9_max_7cf53 (pos0 (k - zI S 2 0 1)) (n - zI S 2 0 0) S = some (pos0 (if n - h ≤ k - q then k - q else n - h)) := by
    unfold f_J9_max_7cf53 pos0
    rw [z0, z1]
    simp only [Int32.lt_iff_toInt_lt, Int32.le_iff_toInt_le, i0]
    generalize k - q = x
    generalize n - h = y
    by_cases a : x.toInt ≤ 0
    · rw [if_pos a, i0]
      by_cases b : 0 < y.toInt
      · rw [if_pos b, if_neg (show ¬ y.toInt ≤ x.toInt by omega), if_neg (by omega)]
      · rw [if_neg b]
        by_cases c : y.toInt ≤ x.toInt
        · rw [if_pos c, if_pos a]
        · rw [if_neg c, if_pos (by omega)]
    · rw [if_neg a]
      by_cases b : x.toInt < y.toInt
      · rw [if_pos b, if_neg (show ¬ y.toInt ≤ x.toInt by omega), if_neg (by omega)]
      · rw [if_neg b, if_pos (show y.toInt ≤ x.toInt by omega), if_neg a]
  refine (o_b e2).trans ?_
  rw [z1, z2, z3]
  unfold lfV
  have e3 : (sq < pos0 (k - q)) ↔ sq < k - q := by
    unfold pos0
    simp only [Int32.lt_iff_toInt_lt, Int32.le_iff_toInt_le, i0]
    by_cases a : (k - q).toInt ≤ 0
    · rw [if_pos a, i0]
      constructor <;> intro z <;> omega
    · rw [if_neg a]
  by_cases a : sq < k - q
  · rw [if_pos (e3.mpr a), if_pos (show sq < k - q ∨ sp < pos0 (if n - h ≤ k - q then k - q else n - h) from Or.inl a)]
  · rw [if_neg (fun z => a (e3.mp z))]
    by_cases b : sp < pos0 (if n - h ≤ k - q then k - q else n - h)
    · rw [if_pos b, if_pos (show sq < k - q ∨ sp < pos0 (if n - h ≤ k - q then k - q else n - h) from Or.inr b)]
    · rw [if_neg b, if_neg (show ¬ (sq < k - q ∨ sp < pos0 (if n - h ≤ k - q then k - q else n - h)) from fun z => by rcases z with z | z; exact a z; exact b z)]
theorem leastTaken_eq {A : ZA} {S : ZH} (hA : AIn A) (h : RC A S) {w : Int32} (hw : rg w 0 3) (hL : LV A w S) {m : Nat} (hm : m < 2 ^ 32) : f_X11_leastTaken 0 (nI m) S = some (lfA A w m) := by
  have c9 := hA.c9.2
  unfold f_X11_leastTaken
  have el : z_iter zFU (b_X11_leastTaken_7 0 (nI m) S) ((0 : Int32), (0 : Int32), (0 : Int32)) = some (NS A m (aN A 9), ZS A m (aN A 9)) := by
    refine z_for0 (fun s => (NS A m s, ZS A m s, nI s)) (aN A 9) rfl (by omega) (fun s hs => ?_) ?_
    · obtain ⟨r, a0, a1, a2, a3, a4⟩ := h.shps.2.2 s hs
      have hb := bitAt (nI m) (s := s) (by omega)
      rw [bt_nI hm (by omega)] at hb
      unfold b_X11_leastTaken_7
      dsimp only
      rw [h.nSh hA, if_neg (by rw [nI_leI (by omega) (by omega)]; omega), nI_1]
      show _ = some (Sum.inl ((if m.testBit s = true then NS A m s + A.2 35 s else NS A m s), (if m.testBit s = true then ZS A m s + A.2 36 s else ZS A m s), nI (s + 1)))
      by_cases q : m.testBit s = true
      · rw [if_neg (fun z => z (hb.mpr q)), if_pos q, if_pos q]
        refine (o_b (h.ref 11 8 rfl)).trans ?_
        refine (o_b (h.shAt hA hs)).trans ?_
        refine (o_b (a := s) rfl).trans ?_
        refine (o_b (h.ref 11 8 rfl)).trans ?_
        refine (o_b (h.shAt hA hs)).trans ?_
        refine (o_b (a := s) rfl).trans ?_
        rw [a1, a2]
      · rw [if_pos (fun z => q (hb.mp z)), if_neg q, if_neg q]
    · unfold b_X11_leastTaken_7
      dsimp only
      rw [h.nSh hA, if_pos (nI_le (Nat.le_refl _) (by omega))]
  refine (o_b el).trans ?_
  refine (o_b (h.ref 11 15 rfl)).trans ?_
  exact (o_b (leastFor_eq (SQ_bd hA hw _ (Nat.le_refl _)).1 hL.1 hL.2.1 hL.2.2.1 hL.2.2.2)).trans rfl
theorem i32_mv (n h q : Int32) : (n - h) - q = n - (h + q) := by
  rw [Int32.sub_eq_add_neg, Int32.sub_eq_add_neg, Int32.sub_eq_add_neg, Int32.neg_add, Int32.add_assoc, Int32.sub_eq_add_neg (-h) q]
theorem i32_mv2 (n h v : Int32) : (n - h) + v = (n + v) - h := by
  rw [Int32.sub_eq_add_neg, Int32.sub_eq_add_neg, Int32.add_assoc, Int32.add_comm (-h) v, ← Int32.add_assoc]
theorem fewest_eq {A : ZA} {S : ZH} (hA : AIn A) (h : MV A S) {w : Int32} {m : Nat} (hm : m < 2 ^ 32) (hs : ∀ i, i < aN A 9 → m.testBit i = true → kgB A i = true) : f_X12_fewest 0 (nI m) w S = some (lfA A w m) := by
  have c9 := hA.c9.2
  unfold f_X12_fewest
  refine (o_b (many_eq hA h 20)).trans ?_
  refine (o_b (skilled_eq hA h 20)).trans ?_
  have z0 : ∀ x : Int32, 0 - x = -x := fun x => by rw [Int32.sub_eq_add_neg, Int32.zero_add]
  have el : z_iter zFU (b_X12_fewest_26 0 (nI m) w S) (-(mAt A 20), -(kAtS A 20), (0 : Int32), (0 : Int32), (0 : Int32)) = some (NS A m (aN A 9) - HS A (aN A 9), ZS A m (aN A 9) - KS A (aN A 9), SP A w (aN A 9), SQ A w (aN A 9)) := by
    refine z_for0 (fun s => (NS A m s - HS A s, ZS A m s - KS A s, SP A w s, SQ A w s, nI s)) (aN A 9) (by rw [← z0, ← z0]; rfl) (by omega) (fun s hs2 => ?_) ?_
    · have hb := bitAt (nI m) (s := s) (by omega)
      rw [bt_nI hm (by omega)] at hb
      have hsh := hA.sh hs2
      have hN : NS A m (s + 1) = if m.testBit s = true then NS A m s + A.2 35 s else NS A m s := rfl
      have hZ : ZS A m (s + 1) = if m.testBit s = true then ZS A m s + A.2 36 s else ZS A m s := rfl
      have hH : HS A (s + 1) = if kgB A s = true then HS A s + mAt A (nI (10 + s)) else HS A s := rfl
      have hK : KS A (s + 1) = if kgB A s = true then KS A s + kAtS A (nI (10 + s)) else KS A s := rfl
      have hP : SP A w (s + 1) = if trB A s = true then SP A w s + sprV A s w else SP A w s := rfl
      have hQ : SQ A w (s + 1) = if trB A s = true then SQ A w s + minI (sprV A s w) (kAtS A (nI (10 + s))) else SQ A w s := rfl
      show b_X12_fewest_26 0 (nI m) w S (NS A m s - HS A s, ZS A m s - KS A s, SP A w s, SQ A w s, nI s) = some (.inl (NS A m (s + 1) - HS A (s + 1), ZS A m (s + 1) - KS A (s + 1), SP A w (s + 1), SQ A w (s + 1), nI (s + 1)))
      unfold b_X12_fewest_26
      dsimp only
      rw [h.nSh hA, if_neg (by rw [nI_leI (by omega) (by omega)]; omega), nI_1, ship_add]
      refine (o_b (mayGo_eq hA h hs2)).trans ?_
      by_cases k1 : kgB A s = true
      · have k2 : trB A s = false := by
          unfold kgB at k1
          unfold trB
          simp only [Bool.and_eq_true, decide_eq_true_eq] at k1
          simp [k1.1]
        rw [k1, if_neg (by decide)]
        refine (o_b (many_eq hA h _)).trans ?_
        refine (o_b (skilled_eq hA h _)).trans ?_
        rw [hN, hZ, hH, hK, hP, hQ, if_pos k1, if_pos k1, k2]
        unfold j_X12_fewest_92
        rw [i32_mv, i32_mv]
        by_cases q : m.testBit s = true
        · rw [if_neg (fun z => z (hb.mpr q)), if_pos q, if_pos q]
          refine (o_b (h.ref 11 rfl)).trans ?_
          refine (o_b (h.ld 10 rfl rfl (by omega) (by decide))).trans ?_
          rw [if_neg (fun z => z (hb.mpr q))]
          refine (o_b (h.ref 12 rfl)).trans ?_
          refine (o_b (h.ld 10 rfl rfl (by omega) (by decide))).trans ?_
          rw [i32_mv2, i32_mv2, nI_1]
          rfl
        · rw [if_pos (fun z => q (hb.mp z)), if_pos (fun z => q (hb.mp z)), if_neg q, if_neg q, Int32.add_zero, Int32.add_zero, nI_1]
          rfl
      · have kf : kgB A s = false := by simpa using k1
        have q : ¬ m.testBit s = true := fun z => k1 (hs s hs2 z)
        have hN2 : NS A m (s + 1) = NS A m s := by rw [hN, if_neg q]
        have hZ2 : ZS A m (s + 1) = ZS A m s := by rw [hZ, if_neg q]
        have hH2 : HS A (s + 1) = HS A s := by rw [hH, if_neg k1]
        have hK2 : KS A (s + 1) = KS A s := by rw [hK, if_neg k1]
        rw [hN2, hZ2, hH2, hK2, kf, if_pos (by decide)]
        refine (o_b (h.ref 10 rfl)).trans ?_
        refine (o_b (h.ld 10 rfl rfl (by omega) (by decide))).trans ?_
        by_cases q1 : A.2 34 s = 1
        · rw [if_neg (fun z => z q1)]
          refine (o_b (h.ref 14 rfl)).trans ?_
          refine (o_b (h.ld 10 rfl rfl (by omega) (by decide))).trans ?_
          by_cases q2 : A.2 38 s = 0
          · have t : trB A s = true := by unfold trB; simp [q1, q2]
            rw [if_neg (fun z => z q2)]
            refine (o_b (spared_eq hA h hs2 w)).trans ?_
            refine (o_b (skilled_eq hA h _)).trans ?_
            rw [hP, hQ, if_pos t, if_pos t]
            unfold minI
            simp only [Int32.lt_iff_toInt_lt, Int32.le_iff_toInt_le]
            by_cases q3 : (kAtS A (nI (10 + s))).toInt ≤ (sprV A s w).toInt
            · rw [if_pos q3]
              by_cases q4 : (kAtS A (nI (10 + s))).toInt < (sprV A s w).toInt
              · rw [if_pos q4]
              · have e4 : kAtS A (nI (10 + s)) = sprV A s w := i_eq.mpr (by omega)
                rw [if_neg q4]
                show some (Sum.inl (_, _, _, SQ A w s + kAtS A (nI (10 + s)), _)) = _
                rw [e4]
            · rw [if_neg q3, if_neg (show ¬ (kAtS A (nI (10 + s))).toInt < (sprV A s w).toInt by omega)]
          · have t : ¬ trB A s = true := by unfold trB; simp [q2]
            rw [if_pos q2, hP, hQ, if_neg t, if_neg t]
        · have t : ¬ trB A s = true := by unfold trB; simp [q1]
          rw [if_pos q1, hP, hQ, if_neg t, if_neg t]
    · unfold b_X12_fewest_26
      dsimp only
      rw [h.nSh hA, if_pos (nI_le (Nat.le_refl _) (by omega))]
  refine (o_b el).trans ?_
  dsimp only
  unfold lfA lfV
  generalize NS A m (aN A 9) - HS A (aN A 9) = L
  generalize ZS A m (aN A 9) - KS A (aN A 9) = K
  have e221 : ∀ x : Int32, j_X12_fewest_208 K (SP A w (aN A 9)) (SQ A w (aN A 9)) x S = some (if SQ A w (aN A 9) < K ∨ SP A w (aN A 9) < pos0 x then -9 else pos0 x) := by
    intro x
    unfold j_X12_fewest_208 j_X12_fewest_221 pos0
    by_cases a : x ≤ 0
    · rw [if_pos a, if_pos a]
      by_cases b : SP A w (aN A 9) < 0
      · rw [if_pos b, if_pos (Or.inr b)]
      · rw [if_neg b]
        by_cases c : SQ A w (aN A 9) < K
        · rw [if_pos c, if_pos (Or.inl c)]
        · rw [if_neg c, if_neg (fun z => by rcases z with z | z; exact c z; exact b z)]
    · rw [if_neg a, if_neg a]
      by_cases b : SP A w (aN A 9) < x
      · rw [if_pos b, if_pos (Or.inr b)]
      · rw [if_neg b]
        by_cases c : SQ A w (aN A 9) < K
        · rw [if_pos c, if_pos (Or.inl c)]
        · rw [if_neg c, if_neg (fun z => by rcases z with z | z; exact c z; exact b z)]
  rw [e221, e221]
  by_cases a : L ≤ K
  · rw [if_pos a, if_pos a]
  · rw [if_neg a, if_neg a]
