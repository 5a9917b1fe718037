/-! ===== far, way, heard ===== -/
theorem FR.all {k0 : Nat} {S S' : ZH} (h : FR k0 S S') : zN S' = zN S ∧ zL S' = zL S ∧ zR S' = zR S := by
  refine ⟨funext fun k => ?_, funext fun k => ?_, funext fun k => ?_⟩ <;> by_cases e : k = k0
  · rw [e, h.2.1]
  · rw [(h.1 k e).1]
  · rw [e, h.2.2.1]
  · rw [(h.1 k e).2.1]
  · rw [e, h.2.2.2.1]
  · rw [(h.1 k e).2.2.2]
theorem RC.TW {A : ZA} {S : ZH} (hA : AIn A) (h : RC A S) : TW A (zsI S 10 0 3 1) := by
  refine ⟨?_, h.town.2.1, h.ref 10 1 rfl, h.ref 10 2 rfl, h.len 20 64 rfl, h.len 21 64 rfl⟩
  rw [zI_sI, if_neg (by omega)]
  exact h.town.1.trans hA.c1.1
def H21 (S S1 : ZH) : Prop := ∀ k, k ≠ 10 → k ≠ 21 → eqK S S1 k
theorem H21.rf {S : ZH} : H21 S S := fun _ _ _ => eqK.rf
theorem H21.tr {S S1 S2 : ZH} (h : H21 S S1) (h' : H21 S1 S2) : H21 S S2 := fun k a b => (h k a b).tr (h' k a b)
theorem H21.fr {S S1 : ZH} (h : H21 S S1) : frM S S1 := fun k hk => h k (fun e => nM 10 rfl (e ▸ hk)) (fun e => nM 21 rfl (e ▸ hk))
theorem measure_RC {A : ZA} {S S1 : ZH} (h : RC A S) (f : FR 21 (zsI S 10 0 3 1) S1) (hd : ∀ a b, a < aN A 1 → b < aN A 1 → zI S1 21 0 (8 * a + b) = cD (aD A a b)) : RC A S1 ∧ H21 S S1 := by
  obtain ⟨eN, eL, eR⟩ := f.all
  have k1 : ∀ k, k ≠ 10 → k ≠ 21 → eqK S S1 k := fun k a b => (eqK_sI a).tr (f.1 k b)
  have kl : ∀ (l : List Nat), l.contains 10 = false → l.contains 21 = false → ∀ k, kIn l k = true → eqK S S1 k := fun l a b k hk => k1 k (kNe a k hk) (kNe b k hk)
  refine ⟨⟨⟨fun q hq => by rw [eR]; exact h.sc.1 q hq, fun q hq => by rw [eL]; exact h.sc.2 q hq⟩, ⟨?_, fun j hj => ?_, Or.inr ⟨?_, hd⟩⟩, h.men.k (kl _ rfl rfl), h.paps.k (kl _ rfl rfl), h.acts.k (kl _ rfl rfl), h.tks.k (kl _ rfl rfl), h.shps.k (kl _ rfl rfl), h.tix.k (kl _ rfl rfl), h.misc.k (kl _ rfl rfl), h.bud.k (k1 3 (by decide) (by decide)) (k1 17 (by decide) (by decide)) f.2.2.2.2.1 f.2.2.2.2.2⟩, k1⟩
  · rw [(f.1 10 (by decide)).2.2.1, zI_sI, if_neg (by omega)]; exact h.town.1
  · rw [(f.1 20 (by decide)).2.2.1]; exact h.town.2.1 j hj
  · rw [(f.1 10 (by decide)).2.2.1, zI_sI, if_pos ⟨rfl, rfl⟩]
theorem hops_eq {A : ZA} {S : ZH} (hA : AIn A) (h : RC A S) {a b : Nat} (ha : a < aN A 1) (hb : b < aN A 1) : ∃ S1, f_X10_hops 0 (nI a) (nI b) S = some (cD (aD A a b), S1) ∧ RC A S1 ∧ H21 S S1 := by
  have hn := hA.c1.2
  have e11 : ∀ T, RC A T → (∀ a b, a < aN A 1 → b < aN A 1 → zI T 21 0 (8 * a + b) = cD (aD A a b)) → j_X10_hops_11 0 (nI a) (nI b) T = some (cD (aD A a b), T) := by
    intro T hT hd
    unfold j_X10_hops_11
    rw [cellE]
    refine (o_b (a := nI (8 * a + b)) rfl).trans ?_
    refine (o_b (hT.ref 10 2 rfl)).trans ?_
    refine (o_b (a := cD (aD A a b)) ?_).trans rfl
    rw [zld_at (hT.len 21 64 rfl) (by omega) (by decide), hd a b ha hb]
  unfold f_X10_hops
  rcases h.town.2.2 with e | ⟨e, hd⟩
  · obtain ⟨S1, e1, f1, d1⟩ := measure_C hA (h.TW hA)
    obtain ⟨r1, r2⟩ := measure_RC h f1 d1
    refine ⟨S1, ?_, r1, r2⟩
    rw [e, if_neg (fun z => z rfl)]
    exact (o_b e1).trans (e11 S1 r1 d1)
  · refine ⟨S, ?_, h, H21.rf⟩
    rw [e, if_pos (by decide)]
    exact e11 S h hd
theorem cD_9 {d : Nat} (hd : d ≤ 100) : (cD d = 999 ↔ ¬ d < 100) ∧ (d < 100 → cD d = nI d) := by
  unfold cD
  by_cases e : d < 100
  · rw [if_pos e]
    refine ⟨⟨fun z => ?_, fun z => absurd e z⟩, fun _ => rfl⟩
    have := nI_inj (a := d) (b := 999) (by omega) (by decide) z
    omega
  · rw [if_neg e]
    exact ⟨⟨fun _ => e, fun _ => rfl⟩, fun z => absurd z e⟩
theorem op_far {A : ZA} (hA : AIn A) (x y : Int32) : OpE A (f_X11_far 0 x y) (f_X12_far 0 x y) := by
  have hn := hA.c1.2
  by_cases hx : isIx (aN A 1) x
  · obtain ⟨a, ha, rfl⟩ := hx
    by_cases hy : isIx (aN A 1) y
    · obtain ⟨b, hb, rfl⟩ := hy
      have hd := aD_le (A := A) a b
      refine ⟨if aD A a b < 100 then nI (aD A a b) else -9, A, hA, fun S h => ?_, fun S h => ?_⟩
      · obtain ⟨S1, e1, r1, r2⟩ := hops_eq hA h ha hb
        refine ⟨S1, ?_, r1, r2.fr⟩
        unfold f_X11_far
        refine (o_b (h.ref 11 0 rfl)).trans ?_
        refine (o_b (has_ix hA h ha)).trans ?_
        rw [if_neg (by decide)]
        refine (o_b (h.ref 11 0 rfl)).trans ?_
        refine (o_b (has_ix hA h hb)).trans ?_
        rw [if_pos (by decide)]
        refine (o_b (h.ref 11 0 rfl)).trans ?_
        refine (o_b e1).trans ?_
        dsimp only
        by_cases q : aD A a b < 100
        · rw [if_pos (fun z => ((cD_9 hd).1.mp z) q), if_pos q, (cD_9 hd).2 q]
        · rw [if_neg (fun z => z ((cD_9 hd).1.mpr q)), if_neg q]
      · obtain ⟨S1, e1, f1, m1⟩ := measure_M hA h.t
        have hM := h.t.FR (by omega) f1
        refine ⟨S1, ?_, hM, frC_t.tr (f1.frC (Or.inr ⟨by decide, by decide⟩))⟩
        have l1 := ld30 hM m1 (a := a) (b := b) (by omega) (by omega)
        unfold f_X12_far
        refine (o_b (noStreet_ix hA h.t ha)).trans ?_
        rw [if_neg (by decide)]
        refine (o_b (noStreet_ix hA h.t hb)).trans ?_
        rw [if_pos rfl]
        refine (o_b e1).trans ?_
        rw [ix8]
        refine (o_b (hM.ref 3 rfl)).trans ?_
        refine (o_b l1).trans ?_
        have hq : (100 : Int32) ≤ nI (aD A a b) ↔ 100 ≤ aD A a b := nI_leI (a := 100) (b := aD A a b) (by decide) (by omega)
        by_cases q : aD A a b < 100
        · rw [if_neg (fun z => by have := hq.mp z; omega), if_pos q]
          refine (o_b (hM.ref 3 rfl)).trans ?_
          exact (o_b l1).trans rfl
        · rw [if_pos (hq.mpr (by omega)), if_neg q]
    · refine .same hA (-1) (fun S h => ?_) (fun S h => ?_)
      · unfold f_X11_far
        refine (o_b (h.ref 11 0 rfl)).trans ?_
        refine (o_b (has_ix hA h ha)).trans ?_
        rw [if_neg (by decide)]
        refine (o_b (h.ref 11 0 rfl)).trans ?_
        exact (o_b (has_no hA h hy)).trans rfl
      · unfold f_X12_far
        refine (o_b (noStreet_ix hA h.t ha)).trans ?_
        rw [if_neg (by decide)]
        exact (o_b (noStreet_no hA h.t hy)).trans rfl
  · refine .same hA (-1) (fun S h => ?_) (fun S h => ?_)
    · unfold f_X11_far
      refine (o_b (h.ref 11 0 rfl)).trans ?_
      exact (o_b (has_no hA h hx)).trans rfl
    · unfold f_X12_far
      exact (o_b (noStreet_no hA h.t hx)).trans rfl
/-! way -/
def A_way (A : ZA) (a b : Nat) (v : Int32) : ZA := aR (aR A 29 (8 * a + b) v) 29 (8 * b + a) v
theorem way_at {A : ZA} {a b : Nat} {v : Int32} (ha : a < 8) (hb : b < 8) (p q : Nat) (hp : p < 8) (hq : q < 8) : (A_way A a b v).2 29 (8 * p + q) = if (p = a ∧ q = b) ∨ (p = b ∧ q = a) then v else A.2 29 (8 * p + q) := by
  show (if 29 = 29 ∧ 8 * p + q = 8 * b + a then v else if 29 = 29 ∧ 8 * p + q = 8 * a + b then v else A.2 29 (8 * p + q)) = _
  by_cases e : p = b ∧ q = a
  · rw [if_pos ⟨rfl, by rw [e.1, e.2]⟩, if_pos (Or.inr e)]
  · rw [if_neg (fun z => e (by omega))]
    by_cases e2 : p = a ∧ q = b
    · rw [if_pos ⟨rfl, by rw [e2.1, e2.2]⟩, if_pos (Or.inl e2)]
    · rw [if_neg (fun z => e2 (by omega)), if_neg (fun z => by rcases z with z | z; exact e2 z; exact e z)]
theorem way_AIn {A : ZA} (hA : AIn A) {a b : Nat} {v : Int32} (ha : a < aN A 1) (hb : b < aN A 1) (hab : a ≠ b) (hv : b01 v) : AIn (A_way A a b v) := by
  have hn := hA.c1.2
  obtain ⟨w1, w2, w3⟩ := hA.2.1
  have e : ∀ p q, p < 8 → q < 8 → (A_way A a b v).2 29 (8 * p + q) = if (p = a ∧ q = b) ∨ (p = b ∧ q = a) then v else A.2 29 (8 * p + q) := fun p q hp hq => way_at (by omega) (by omega) p q hp hq
  refine ⟨hA.1, ⟨fun j hj => ?_, fun p q hp hq h => ?_, fun p q hp hq => ?_⟩, hA.2.2⟩
  · rw [show j = 8 * (j / 8) + j % 8 by omega, e _ _ (by omega) (by omega)]
    split
    · exact hv
    · exact w1 _ (by omega)
  · have h' : aN A 1 ≤ p ∨ aN A 1 ≤ q ∨ p = q := h
    rw [e p q hp hq, if_neg (by omega)]
    exact w2 p q hp hq h'
  · rw [e p q hp hq, e q p hq hp]
    by_cases z : (p = a ∧ q = b) ∨ (p = b ∧ q = a)
    · rw [if_pos z, if_pos (by omega)]
    · rw [if_neg z, if_neg (by omega)]
      exact w3 p q hp hq
theorem op_way {A : ZA} (hA : AIn A) (x y v : Int32) (hv : b01 v) : OpE A (f_X11_way 0 x y v) (f_X12_way 0 x y v) := by
  have hn := hA.c1.2
  obtain ⟨w1, w2, w3⟩ := hA.2.1
  by_cases hx : isIx (aN A 1) x
  · obtain ⟨a, ha, rfl⟩ := hx
    by_cases hy : isIx (aN A 1) y
    · obtain ⟨b, hb, rfl⟩ := hy
      by_cases hab : a = b
      · refine .same hA (-2) (fun S h => ?_) (fun S h => ?_)
        · unfold f_X11_way
          refine (o_b (h.ref 11 0 rfl)).trans ?_
          refine (o_b (has_ix hA h ha)).trans ?_
          rw [if_neg (by decide)]
          refine (o_b (h.ref 11 0 rfl)).trans ?_
          refine (o_b (has_ix hA h hb)).trans ?_
          rw [if_pos (by decide), if_neg (fun z => z (by rw [hab]))]
        · unfold f_X12_way
          refine (o_b (noStreet_ix hA h.t ha)).trans ?_
          rw [if_neg (by decide)]
          refine (o_b (noStreet_ix hA h.t hb)).trans ?_
          rw [if_pos rfl, if_neg (fun z => z (by rw [hab]))]
      · have hne : ¬ nI a = nI b := fun z => hab (nI_inj (by omega) (by omega) z)
        have evX : ∀ S, RC A S → f_X11_way 0 (nI a) (nI b) v S = (f_X10_setWay 0 (nI a) (nI b) v S).bind fun q6 => (f_X11_asNumber q6.1 q6.2).bind fun q7 => some (q7, q6.2) := by
          intro S h
          unfold f_X11_way
          refine (o_b (h.ref 11 0 rfl)).trans ?_
          refine (o_b (has_ix hA h ha)).trans ?_
          rw [if_neg (by decide)]
          refine (o_b (h.ref 11 0 rfl)).trans ?_
          refine (o_b (has_ix hA h hb)).trans ?_
          rw [if_pos (by decide), if_pos hne]
          exact o_b (h.ref 11 0 rfl)
        have evS : ∀ S, RC A S → f_X10_setWay 0 (nI a) (nI b) v S = if A.2 29 (8 * a + b) = v then some (A.2 29 (8 * a + b), zsI (zsI S 20 0 (8 * a + b) v) 20 0 (8 * b + a) v) else some (A.2 29 (8 * a + b), zsI (zsI (zsI S 20 0 (8 * a + b) v) 20 0 (8 * b + a) v) 10 0 3 0) := by
          intro S h
          unfold f_X10_setWay
          rw [cellE]
          refine (o_b (a := nI (8 * a + b)) rfl).trans ?_
          refine (o_b (h.ref 10 1 rfl)).trans ?_
          have lw : zld S 20 0 (nI (8 * a + b)) = some (A.2 29 (8 * a + b)) := by rw [zld_at (h.len 20 64 rfl) (by omega) (by decide), h.town.2.1 _ (by omega)]
          refine (o_b lw).trans ?_
          refine (o_b (a := nI (8 * a + b)) rfl).trans ?_
          refine (o_b (h.ref 10 1 rfl)).trans ?_
          rw [zb1 hv]
          refine (zst_b (h.len 20 64 rfl) (by omega) (by decide)).trans ?_
          rw [cellE]
          refine (o_b (a := nI (8 * b + a)) rfl).trans ?_
          refine (o_b (a := 0) (h.ref 10 1 rfl)).trans ?_
          refine (zst_b (m := 64) (n := 8 * b + a) (by exact h.len 20 64 rfl) (by omega) (by decide)).trans ?_
          rw [if_pos (zb1 (w1 _ (by omega))), if_pos (zb1 (w1 _ (by omega)))]
        have evM : ∀ S, MV A S → f_X12_way 0 (nI a) (nI b) v S = some (A.2 29 (8 * a + b), zsI (zsI (tS S) 29 0 (8 * a + b) v) 29 0 (8 * b + a) v) := by
          intro S h
          have e50 : ∀ s0 : Int32, j_X12_way_50 0 (nI a) (nI b) v s0 (tS S) = some (s0, zsI (zsI (tS S) 29 0 (8 * a + b) v) 29 0 (8 * b + a) v) := by
            intro s0
            unfold j_X12_way_50
            rw [ix8, ix8, zb1 hv]
            refine (o_b (h.t.ref 2 rfl)).trans ?_
            refine (h.t.st 64 rfl (by omega) (by decide)).trans ?_
            refine (o_b (a := 0) (h.t.ref 2 rfl)).trans ?_
            exact zst_b (m := 64) (h.t.len 29 64 rfl) (by omega) (by decide)
          unfold f_X12_way
          refine (o_b (noStreet_ix hA h.t ha)).trans ?_
          rw [if_neg (by decide)]
          refine (o_b (noStreet_ix hA h.t hb)).trans ?_
          rw [if_pos rfl, if_pos hne, ix8]
          refine (o_b (h.t.ref 2 rfl)).trans ?_
          refine (o_b (h.t.ld 64 rfl rfl (by omega) (by decide))).trans ?_
          rw [e50, e50]
          rcases w1 (8 * a + b) (by omega) with e | e
          · rw [e, if_pos rfl]
          · rw [e, if_neg (by decide)]
        by_cases q : A.2 29 (8 * a + b) = v
        · have q2 : A.2 29 (8 * b + a) = v := by rw [← w3 a b (by omega) (by omega)]; exact q
          refine .same hA v (fun S h => ?_) (fun S h => ?_)
          · have i1 : zsI S 20 0 (8 * a + b) v = S := zsI_id (by rw [h.town.2.1 _ (by omega)]; exact q)
            have i2 : zsI S 20 0 (8 * b + a) v = S := zsI_id (by rw [h.town.2.1 _ (by omega)]; exact q2)
            rw [evX S h, evS S h, if_pos q, i1, i2, q]
            refine (o_b (a := (v, S)) rfl).trans ?_
            exact (o_b (asNumber_b hv)).trans rfl
          · have i1 : zsI (tS S) 29 0 (8 * a + b) v = tS S := zsI_id (by rw [h.t.r 29 rfl]; exact q)
            have i2 : zsI (tS S) 29 0 (8 * b + a) v = tS S := zsI_id (by rw [h.t.r 29 rfl]; exact q2)
            rw [evM S h, i1, i2, q]
        · refine ⟨A.2 29 (8 * a + b), A_way A a b v, way_AIn hA ha hb hab hv, fun S h => ⟨zsI (zsI (zsI S 20 0 (8 * a + b) v) 20 0 (8 * b + a) v) 10 0 3 0, by rw [evX S h, evS S h, if_neg q]; exact (o_b (asNumber_b (w1 _ (by omega)))).trans rfl, ⟨h.sc, ⟨h.town.1, fun j hj => ?_, Or.inl rfl⟩, h.men, h.paps, h.acts, h.tks, h.shps, h.tix, h.misc, h.bud⟩, (frM_sI (nM 20 rfl)).tr ((frM_sI (nM 20 rfl)).tr (frM_sI (nM 10 rfl)))⟩, fun S h => ⟨_, evM S h, (h.t.R 29 _ v (by decide)).R 29 _ v (by decide), frC_t.tr ((frC_R (by decide) (by decide)).tr (frC_R (by decide) (by decide)))⟩⟩
          have z20 : zI (zsI (zsI (zsI S 20 0 (8 * a + b) v) 20 0 (8 * b + a) v) 10 0 3 0) 20 0 j = if j = 8 * b + a then v else if j = 8 * a + b then v else zI S 20 0 j := by
            show zI (zsI (zsI S 20 0 (8 * a + b) v) 20 0 (8 * b + a) v) 20 0 j = _
            rw [zI_sI, zI_sI]
            simp only [true_and]
          have z29 : (A_way A a b v).2 29 j = if j = 8 * b + a then v else if j = 8 * a + b then v else A.2 29 j := by
            show (if 29 = 29 ∧ j = 8 * b + a then v else if 29 = 29 ∧ j = 8 * a + b then v else A.2 29 j) = _
            simp only [true_and]
          rw [z20, z29, h.town.2.1 j hj]
    · refine .same hA (-1) (fun S h => ?_) (fun S h => ?_)
      · unfold f_X11_way
        refine (o_b (h.ref 11 0 rfl)).trans ?_
        refine (o_b (has_ix hA h ha)).trans ?_
        rw [if_neg (by decide)]
        refine (o_b (h.ref 11 0 rfl)).trans ?_
        exact (o_b (has_no hA h hy)).trans rfl
      · unfold f_X12_way
        refine (o_b (noStreet_ix hA h.t ha)).trans ?_
        rw [if_neg (by decide)]
        exact (o_b (noStreet_no hA h.t hy)).trans rfl
  · refine .same hA (-1) (fun S h => ?_) (fun S h => ?_)
    · unfold f_X11_way
      refine (o_b (h.ref 11 0 rfl)).trans ?_
      exact (o_b (has_no hA h hx)).trans rfl
    · unfold f_X12_way
      exact (o_b (noStreet_no hA h.t hx)).trans rfl
/-! heard -/
def hvN (A : ZA) (s : Nat) : Nat → Option Nat
  | 0 => none
  | j + 1 => if stB (A.2 44 (6 * (aN A 24 + j) + 3)) = true ∧ aD A (A.2 44 (6 * (aN A 24 + j) + 3)).toNatClampNeg s < 100 then
      some (match hvN A s j with
        | none => (A.2 44 (6 * (aN A 24 + j))).toNatClampNeg + aD A (A.2 44 (6 * (aN A 24 + j) + 3)).toNatClampNeg s
        | some x => min x ((A.2 44 (6 * (aN A 24 + j))).toNatClampNeg + aD A (A.2 44 (6 * (aN A 24 + j) + 3)).toNatClampNeg s))
    else hvN A s j
def hV (A : ZA) (s : Nat) : Option Nat := hvN A s (aN A 22 - aN A 24)
def o9 : Option Nat → Int32
  | none => 999
  | some x => nI x
theorem hvN_bd {A : ZA} (hA : AIn A) {s : Nat} : ∀ {j x : Nat}, j ≤ aN A 22 - aN A 24 → hvN A s j = some x → x ≤ 998
  | 0, x, _, h => by cases h
  | j + 1, x, hj, h => by
    have c4 := hA.c4.2
    have ih := fun x => hvN_bd hA (s := s) (j := j) (x := x) (by omega)
    obtain ⟨t, ht, et⟩ := (hA.tk (show aN A 24 + j < aN A 22 by omega)).1
    unfold hvN at h
    rw [et, nI_clamp (by omega)] at h
    by_cases q : stB (A.2 44 (6 * (aN A 24 + j) + 3)) = true ∧ aD A (A.2 44 (6 * (aN A 24 + j) + 3)).toNatClampNeg s < 100
    · rw [if_pos q] at h
      cases hp : hvN A s j with
      | none =>
        rw [hp] at h
        have h' : t + aD A (A.2 44 (6 * (aN A 24 + j) + 3)).toNatClampNeg s = x := Option.some.inj h
        omega
      | some y =>
        rw [hp] at h
        have := ih y hp
        have h' : min y (t + aD A (A.2 44 (6 * (aN A 24 + j) + 3)).toNatClampNeg s) = x := Option.some.inj h
        omega
    · rw [if_neg q] at h; exact ih x h
theorem tk_from {A : ZA} (hA : AIn A) {k : Nat} (hk : k < aN A 22) (h : stB (A.2 44 (6 * k + 3)) = true) : ∃ f, f < aN A 1 ∧ A.2 44 (6 * k + 3) = nI f := by
  rcases (hA.tk hk).2.2.2.1 with ⟨f, hf, e⟩ | e
  · exact ⟨f, hf, e⟩
  · unfold stB at h
    simp only [decide_eq_true_eq] at h
    have := h.2
    have := e.1
    omega
theorem firstHeard_eq {A : ZA} {S : ZH} (hA : AIn A) (h : RC A S) {s : Nat} (hs : s < aN A 1) : ∃ S1, f_X5_firstHeard 0 (nI s) (some 0) S = some (o9 (hV A s), S1) ∧ RC A S1 ∧ H21 S S1 := by
  have hn := hA.c1.2
  have c22 := hA.c22.2
  have c24 := hA.c24l
  have c4 := hA.c4.2
  obtain ⟨x, e1, e2, e3, e4⟩ := z_inv0 (b := b_X5_firstHeard_10 0 (nI s) (some 0)) (X := fun x => x.1 = o9 (hV A s) ∧ RC A x.2 ∧ H21 S x.2) (fun j v => v.1 = o9 (hvN A s j) ∧ v.2.1 = nI (aN A 24 + j) ∧ RC A v.2.2 ∧ H21 S v.2.2) (aN A 22 - aN A 24) (v := ((999 : Int32), nI (aN A 24), S)) (by omega) ⟨rfl, rfl, h, H21.rf⟩ (fun j v hj hI => by
    obtain ⟨v1, v2, v3⟩ := v
    obtain ⟨i1, i2, i3, i4⟩ := hI
    replace i1 : v1 = o9 (hvN A s j) := i1
    replace i2 : v2 = nI (aN A 24 + j) := i2
    replace i3 : RC A v3 := i3
    replace i4 : H21 S v3 := i4
    subst i1 i2
    have hk : aN A 24 + j < aN A 22 := by omega
    obtain ⟨t, ht, et⟩ := (hA.tk hk).1
    have bd := fun x => hvN_bd hA (s := s) (j := j) (x := x) (by omega)
    have z0 : zI v3 8 (aN A 24 + j) 0 = A.2 44 (6 * (aN A 24 + j)) := i3.tkF hk (j := 0) (by omega)
    have z3 : zI v3 8 (aN A 24 + j) 3 = A.2 44 (6 * (aN A 24 + j) + 3) := i3.tkF hk (by omega)
    have hu : hvN A s (j + 1) = if stB (A.2 44 (6 * (aN A 24 + j) + 3)) = true ∧ aD A (A.2 44 (6 * (aN A 24 + j) + 3)).toNatClampNeg s < 100 then some (match hvN A s j with | none => (A.2 44 (6 * (aN A 24 + j))).toNatClampNeg + aD A (A.2 44 (6 * (aN A 24 + j) + 3)).toNatClampNeg s | some x => min x ((A.2 44 (6 * (aN A 24 + j))).toNatClampNeg + aD A (A.2 44 (6 * (aN A 24 + j) + 3)).toNatClampNeg s)) else hvN A s j := rfl
    have hhead : b_X5_firstHeard_10 0 (nI s) (some 0) (o9 (hvN A s j), nI (aN A 24 + j), v3) = if stB (A.2 44 (6 * (aN A 24 + j) + 3)) = true then (f_X10_hops 0 (A.2 44 (6 * (aN A 24 + j) + 3)) (nI s) v3).bind fun q7 => j_X5_firstHeard_55 0 (nI s) (some 0) (o9 (hvN A s j)) (nI (aN A 24 + j)) (aN A 24 + j) q7.1 q7.2 else j_X5_firstHeard_55 0 (nI s) (some 0) (o9 (hvN A s j)) (nI (aN A 24 + j)) (aN A 24 + j) 999 v3 := by
      unfold b_X5_firstHeard_10
      dsimp only
      rw [i3.nTk hA, if_neg (by rw [nI_leI (by omega) (by omega)]; omega)]
      refine (o_b (i3.ref 5 1 rfl)).trans ?_
      refine (o_b (i3.tkAt hA hk)).trans ?_
      refine (o_b (a := aN A 24 + j) rfl).trans ?_
      rw [z3]
      refine (o_b (isStreetC _ _)).trans ?_
      cases stB (A.2 44 (6 * (aN A 24 + j) + 3)) with
      | true => rw [if_pos rfl, if_neg (by decide), if_pos rfl]; rfl
      | false => rfl
    by_cases q0 : stB (A.2 44 (6 * (aN A 24 + j) + 3)) = true
    · obtain ⟨f, hf, ef⟩ := tk_from hA hk q0
      have hd := aD_le (A := A) f s
      obtain ⟨S1, h1, h2, h3⟩ := hops_eq hA i3 hf hs
      have z0' : zI S1 8 (aN A 24 + j) 0 = A.2 44 (6 * (aN A 24 + j)) := h2.tkF hk (j := 0) (by omega)
      rw [ef, nI_clamp (by omega), et, nI_clamp (by omega)] at hu
      have hb : b_X5_firstHeard_10 0 (nI s) (some 0) (o9 (hvN A s j), nI (aN A 24 + j), v3) = some (.inl (o9 (hvN A s (j + 1)), nI (aN A 24 + j + 1), S1)) := by
        rw [hhead, if_pos q0, ef]
        refine (o_b h1).trans ?_
        unfold j_X5_firstHeard_55
        dsimp only
        rw [nI_1]
        by_cases q : aD A f s < 100
        · have hc := (cD_9 hd).2 q
          rw [hc, if_neg (show ¬ (999 : Int32) ≤ nI (aD A f s) by rw [show (999 : Int32) = nI 999 from rfl, nI_leI (by decide) (by omega)]; omega), z0', et, nI_p]
          rw [ef] at q0
          rw [hu, if_pos ⟨q0, q⟩]
          unfold f_J9_min_7cf53
          cases hp : hvN A s j with
          | none =>
            rw [if_pos (show nI (t + aD A f s) < o9 none by show nI (t + aD A f s) < nI 999; rw [nI_lt_iff (by omega) (by decide)]; omega)]
            rfl
          | some y =>
            have := bd y hp
            have hl := nI_lt_iff (a := t + aD A f s) (b := y) (by omega) (by omega)
            show ((if nI (t + aD A f s) < nI y then some (nI (t + aD A f s)) else some (nI y)).bind _) = some (Sum.inl (nI (min y (t + aD A f s)), _, _))
            by_cases q2 : t + aD A f s < y
            · rw [if_pos (hl.mpr q2), show min y (t + aD A f s) = t + aD A f s by omega]; rfl
            · rw [if_neg (fun z => q2 (hl.mp z)), show min y (t + aD A f s) = y by omega]; rfl
        · rw [if_pos (by rw [(cD_9 hd).1.mpr q]; decide), hu, if_neg (fun z => q z.2)]
      exact ⟨_, hb, rfl, rfl, h2, i4.tr h3⟩
    · refine ⟨(o9 (hvN A s (j + 1)), nI (aN A 24 + j + 1), v3), ?_, rfl, rfl, i3, i4⟩
      rw [hhead, if_neg q0, hu, if_neg (fun z => q0 z.1)]
      unfold j_X5_firstHeard_55
      rw [if_pos (by decide), nI_1]) (fun v hI => by
    obtain ⟨v1, v2, v3⟩ := v
    obtain ⟨i1, i2, i3, i4⟩ := hI
    replace i1 : v1 = o9 (hvN A s _) := i1
    replace i2 : v2 = nI (aN A 24 + (aN A 22 - aN A 24)) := i2
    replace i3 : RC A v3 := i3
    replace i4 : H21 S v3 := i4
    subst i1 i2
    refine ⟨(o9 (hV A s), v3), ?_, rfl, i3, i4⟩
    unfold b_X5_firstHeard_10
    dsimp only
    rw [i3.nTk hA, if_pos (nI_le (by omega) (by omega))]
    rfl)
  obtain ⟨x1, x2⟩ := x
  refine ⟨x2, ?_, e3, e4⟩
  unfold f_X5_firstHeard
  rw [h.nQ hA]
  refine (o_b e1).trans ?_
  show some (x1, x2) = _
  rw [show x1 = o9 (hV A s) from e2]
theorem heardAt_eq {A : ZA} {S : ZH} (hA : AIn A) (h : MV A S) (hX : MX 30 S (aD A) 8) {s : Nat} (hs : s < aN A 1) : f_X12_heardAt 0 (nI s) S = some (oN (hV A s)) := by
  have hn := hA.c1.2
  have c22 := hA.c22.2
  have c24 := hA.c24l
  have c4 := hA.c4.2
  unfold f_X12_heardAt
  rw [h.nQ hA]
  refine (o_b (a := oN (hV A s)) ?_).trans rfl
  refine z_for0 (fun j => (oN (hvN A s j), nI (aN A 24 + j))) (aN A 22 - aN A 24) rfl (by omega) (fun j hj => ?_) ?_
  · have hk : aN A 24 + j < aN A 22 := by omega
    obtain ⟨t, ht, et⟩ := (hA.tk hk).1
    have bd := fun x => hvN_bd hA (s := s) (j := j) (x := x) (by omega)
    have hu : hvN A s (j + 1) = if stB (A.2 44 (6 * (aN A 24 + j) + 3)) = true ∧ aD A (A.2 44 (6 * (aN A 24 + j) + 3)).toNatClampNeg s < 100 then some (match hvN A s j with | none => (A.2 44 (6 * (aN A 24 + j))).toNatClampNeg + aD A (A.2 44 (6 * (aN A 24 + j) + 3)).toNatClampNeg s | some x => min x ((A.2 44 (6 * (aN A 24 + j))).toNatClampNeg + aD A (A.2 44 (6 * (aN A 24 + j) + 3)).toNatClampNeg s)) else hvN A s j := rfl
    show b_X12_heardAt_8 0 (nI s) S (oN (hvN A s j), nI (aN A 24 + j)) = some (.inl (oN (hvN A s (j + 1)), nI (aN A 24 + j + 1)))
    unfold b_X12_heardAt_8
    dsimp only
    rw [h.nTk hA, if_neg (by rw [nI_leI (by omega) (by omega)]; omega), show (3 : Int32) = nI 3 from rfl, ix6, ix6', nI_1]
    refine (o_b (h.ref 23 rfl)).trans ?_
    refine (o_b (h.ld 360 rfl rfl (by omega) (by decide))).trans ?_
    refine (o_b (isStreetM _ _)).trans ?_
    by_cases q0 : stB (A.2 44 (6 * (aN A 24 + j) + 3)) = true
    · obtain ⟨f, hf, ef⟩ := tk_from hA hk q0
      have hd := aD_le (A := A) f s
      have l30 := ld30 h hX (a := f) (b := s) (by omega) (by omega)
      rw [ef, nI_clamp (by omega), et, nI_clamp (by omega)] at hu
      rw [ef] at q0
      rw [ef, if_pos q0, if_neg (by decide), ix8]
      refine (o_b (h.ref 3 rfl)).trans ?_
      refine (o_b l30).trans ?_
      have hq : (100 : Int32) ≤ nI (aD A f s) ↔ 100 ≤ aD A f s := nI_leI (a := 100) (b := aD A f s) (by decide) (by omega)
      by_cases q : aD A f s < 100
      · rw [if_neg (fun z => by have := hq.mp z; omega)]
        refine (o_b (h.ref 23 rfl)).trans ?_
        refine (o_b (h.ld 360 rfl rfl (by omega) (by decide))).trans ?_
        refine (o_b (h.ref 3 rfl)).trans ?_
        refine (o_b l30).trans ?_
        rw [et, nI_p, hu, if_pos (show stB (nI f) = true ∧ aD A f s < 100 from ⟨q0, q⟩)]
        cases hp : hvN A s j with
        | none => rw [if_pos (show oN none = -9 from rfl)]; rfl
        | some y =>
          have := bd y hp
          have hl := nI_leI (a := y) (b := t + aD A f s) (by omega) (by omega)
          rw [if_neg (show ¬ oN (some y) = -9 from nI_n9 (by omega))]
          show (if nI y ≤ nI (t + aD A f s) then some (Sum.inl (nI y, nI (aN A 24 + j + 1))) else some (Sum.inl (nI (t + aD A f s), nI (aN A 24 + j + 1)))) = some (Sum.inl (nI (min y (t + aD A f s)), nI (aN A 24 + j + 1)))
          by_cases q2 : y ≤ t + aD A f s
          · rw [if_pos (hl.mpr q2), show min y (t + aD A f s) = y by omega]
          · rw [if_neg (fun z => q2 (hl.mp z)), show min y (t + aD A f s) = t + aD A f s by omega]
      · rw [if_pos (hq.mpr (by omega)), hu, if_neg (fun z => q z.2)]
    · rw [if_neg q0, if_pos rfl, hu, if_neg (fun z => q0 z.1)]
  · show b_X12_heardAt_8 0 (nI s) S (oN (hV A s), nI (aN A 24 + (aN A 22 - aN A 24))) = _
    unfold b_X12_heardAt_8
    dsimp only
    rw [h.nTk hA, if_pos (nI_le (by omega) (by omega))]
theorem hV_bd {A : ZA} (hA : AIn A) {s x : Nat} (h : hV A s = some x) : x ≤ 998 := hvN_bd hA (Nat.le_refl _) h
theorem op_heard {A : ZA} (hA : AIn A) (x : Int32) : OpE A (f_X11_heard 0 x) (f_X12_heard 0 x) := by
  have hn := hA.c1.2
  by_cases hx : isIx (aN A 1) x
  · obtain ⟨s, hs, rfl⟩ := hx
    refine ⟨oN (hV A s), A, hA, fun S h => ?_, fun S h => ?_⟩
    · obtain ⟨S1, e1, r1, r2⟩ := firstHeard_eq hA h hs
      refine ⟨S1, ?_, r1, r2.fr⟩
      unfold f_X11_heard
      refine (o_b (h.ref 11 0 rfl)).trans ?_
      refine (o_b (has_ix hA h hs)).trans ?_
      rw [if_pos (by decide)]
      refine (o_b (h.ref 11 7 rfl)).trans ?_
      rw [h.ref 11 0 rfl]
      refine (o_b e1).trans ?_
      dsimp only
      cases hq : hV A s with
      | none => rfl
      | some y =>
        have := hV_bd hA hq
        rw [if_pos (show ¬ o9 (some y) = 999 from fun z => by have := nI_inj (a := y) (b := 999) (by omega) (by decide) z; omega)]
        rfl
    · obtain ⟨S1, e1, f1, m1⟩ := measure_M hA h.t
      have hM := h.t.FR (by omega) f1
      refine ⟨S1, ?_, hM, frC_t.tr (f1.frC (Or.inr ⟨by decide, by decide⟩))⟩
      unfold f_X12_heard
      refine (o_b (noStreet_ix hA h.t hs)).trans ?_
      rw [if_pos rfl]
      refine (o_b e1).trans ?_
      exact (o_b (heardAt_eq hA hM m1 hs)).trans rfl
  · refine .same hA (-1) (fun S h => ?_) (fun S h => ?_)
    · unfold f_X11_heard
      refine (o_b (h.ref 11 0 rfl)).trans ?_
      exact (o_b (has_no hA h hx)).trans rfl
    · unfold f_X12_heard
      exact (o_b (noStreet_no hA h.t hx)).trans rfl
