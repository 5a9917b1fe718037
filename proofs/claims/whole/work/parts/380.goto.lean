/-! ===== a man goes somewhere ===== -/
theorem plAt_congr {home : Int32} {T P T' P' : Nat → Int32} : ∀ {n t : Nat}, (∀ j, j < n → T' j = T j ∧ P' j = P j) → plAt home T' P' n t = plAt home T P n t
  | 0, _, _ => rfl
  | n + 1, t, h => by
    unfold plAt
    rw [(h n (by omega)).1, (h n (by omega)).2, plAt_congr (fun j hj => h j (by omega))]
theorem mono_ge {T : Nat → Int32} {m : Nat} (h0 : ∀ j, j < m → 0 ≤ (T j).toInt) (h : ∀ j k, j < k → k < m → (T j).toInt < (T k).toInt) : ∀ j, j < m → (j : Int) ≤ (T j).toInt := by
  intro j
  induction j with
  | zero => intro hj; exact h0 0 hj
  | succ j ih =>
    intro hj
    have h1 := ih (by omega)
    have h2 := h j (j + 1) (by omega) hj
    omega
theorem sumN_congr {f g : Nat → Nat} : ∀ {n : Nat}, (∀ i, i < n → f i = g i) → sumN f n = sumN g n
  | 0, _ => rfl
  | n + 1, h => by
    show sumN f n + f n = sumN g n + g n
    rw [sumN_congr (fun i hi => h i (by omega)), h n (by omega)]
theorem sumN_upd {f g : Nat → Nat} {i : Nat} : ∀ {n : Nat}, i < n → (∀ j, j < n → j ≠ i → g j = f j) → sumN g n + f i = sumN f n + g i
  | 0, h, _ => by omega
  | n + 1, h, hg => by
    show sumN g n + g n + f i = sumN f n + f n + g i
    by_cases e : i = n
    · subst e
      rw [sumN_congr (f := g) (g := f) (fun j hj => hg j (by omega) (by omega))]
      omega
    · have h1 := sumN_upd (f := f) (g := g) (i := i) (n := n) (by omega) (fun j hj hne => hg j (by omega) hne)
      have h2 := hg n (by omega) (by omega)
      omega
/-- what a man's going does to the class's cells -/
def GT (A : ZA) (S S1 : ZH) (i : Nat) (p : Int32) (m' c' : Nat) : Prop :=
  (∀ k, k ≠ 3 → k ≠ 17 → k ≠ 18 → eqK S S1 k) ∧ zN S1 3 = zN S 3 ∧ (∀ i', i' ≠ i → zI S1 3 i' = zI S 3 i' ∧ zR S1 3 i' = zR S 3 i')
  ∧ ((∀ j, j ≠ 8 → j ≠ 13 → zI S1 3 i j = zI S 3 i j) ∧ zI S1 3 i 8 = p ∧ zI S1 3 i 13 = nI m' ∧ zR S1 3 i 10 = zR S 3 i 10)
  ∧ (∀ i', i' < aN A 5 → i' ≠ i → zL S1 17 (tt S i') = zL S 17 (tt S i') ∧ zL S1 18 (tt S i') = zL S 18 (tt S i') ∧ zI S1 17 (tt S i') = zI S 17 (tt S i') ∧ zI S1 18 (tt S i') = zI S 18 (tt S i'))
  ∧ (zR S1 3 i 11 = some (tt S1 i) ∧ zR S1 3 i 12 = some (tt S1 i) ∧ zL S1 17 (tt S1 i) = c' ∧ zL S1 18 (tt S1 i) = c')
  ∧ (zN S1 17 = zN S1 18 ∧ zN S 17 ≤ zN S1 17 ∧ tt S1 i < zN S1 17 ∧ ∀ i', i' < aN A 5 → i' ≠ i → tt S1 i ≠ tt S i')
  ∧ (zc S1 + capOf S i ≤ zc S + c' ∧ zs S1 + 4 * capOf S i ≤ zs S + 4 * c')
def A_go (A : ZA) (i : Nat) (p : Int32) : ZA := aR A 33 (40 * aN A 4 + i) p
theorem go_AIn {A : ZA} (hA : AIn A) {i : Nat} {p : Int32} (hi : i < aN A 5) (hp : isPl A p) : AIn (A_go A i p) := by
  have h5 := hA.c5.2
  refine ⟨hA.1, hA.2.1, ⟨hA.2.2.1.1, fun t j ht hj => ?_⟩, hA.2.2.2⟩
  show isPl A (if 33 = 33 ∧ 40 * t + j = 40 * aN A 4 + i then p else A.2 33 (40 * t + j))
  by_cases e : 33 = 33 ∧ 40 * t + j = 40 * aN A 4 + i
  · rw [if_pos e]; exact hp
  · rw [if_neg e]; exact hA.2.2.1.2 t j ht hj
theorem go_pl {A : ZA} {i j t : Nat} {p : Int32} (hi : i < 40) (hj : j < 40) : aPl (A_go A i p) t j = if t = aN A 4 ∧ j = i then p else aPl A t j := by
  show (if 33 = 33 ∧ 40 * t + j = 40 * aN A 4 + i then p else A.2 33 (40 * t + j)) = _
  by_cases e : t = aN A 4 ∧ j = i
  · rw [if_pos e, if_pos ⟨rfl, by rw [e.1, e.2]⟩]
  · rw [if_neg e, if_neg (fun q => e (by omega))]; rfl
theorem GT.rc {A A1 : ZA} {S S1 : ZH} {i m' c' : Nat} {p : Int32} (hA : AIn A) (h : RC A S) (hi : i < aN A 5) (g : GT A S S1 i p m' c') (e1 : A1.1 = A.1) (e2 : ∀ k, k ≠ 33 → k ≠ 32 → A1.2 k = A.2 k) (e33 : A1.2 33 = (A_go A i p).2 33) (e32 : ∀ j, j ≠ i → A1.2 32 j = A.2 32 j)
    (hc : 4 ≤ c' ∧ c' ≤ 1800) (hm : m' ≤ c' ∧ m' ≤ 900) (hT : ∀ j, j < m' → isIx (aN A 4 + 1) (zI S1 17 (tt S1 i) j)) (hT2 : ∀ j k, j < k → k < m' → (zI S1 17 (tt S1 i) j).toInt < (zI S1 17 (tt S1 i) k).toInt)
    (hP : ∀ t, t ≤ aN A 4 → (if t = aN A 4 then p else aPl A t i) = plAt (A.2 31 (8 * i + 6)) (zI S1 17 (tt S1 i)) (zI S1 18 (tt S1 i)) m' t) (hs : p = 21 → 1 ≤ m' ∧ zI S1 17 (tt S1 i) (m' - 1) = A1.2 32 i) : RC A1 S1 := by
  obtain ⟨gk, gn, go, ⟨g1, g8, g13, g10⟩, ga, ⟨r11, r12, l17, l18⟩, ⟨n1, n2, n3, n4⟩, gc, gs⟩ := g
  have h5 := hA.c5.2
  have eN : ∀ j, aN A1 j = aN A j := fun j => by unfold aN; rw [e1]
  have ett : ∀ i', i' ≠ i → tt S1 i' = tt S i' := fun i' hne => by unfold tt; rw [(go i' hne).2]
  have epl : ∀ t j, j < 40 → aPl A1 t j = if t = aN A 4 ∧ j = i then p else aPl A t j := fun t j hj => by
    rw [← go_pl (A := A) (p := p) (by omega) hj]
    show A1.2 33 _ = (A_go A i p).2 33 _
    rw [e33]
  have em : mvs S1 i = m' := by unfold mvs; rw [g13, nI_clamp (by omega)]
  have ec : capOf S1 i = c' := l17
  have hne : ∀ (l : List Nat), l.contains 3 = false → l.contains 17 = false → l.contains 18 = false → ∀ k, kIn l k = true → eqK S S1 k := fun l a b c k hk => gk k (kNe a k hk) (kNe b k hk) (kNe c k hk)
  have hman : ∀ i', i' < aN A 5 → RMan A1 S1 i' := by
    intro i' hi'
    have h0 := h.man hi'
    by_cases e : i' = i
    · subst e
      refine ⟨fun j hj => ?_, ?_, ?_, ?_, ⟨r11, r12, by rw [ec]; exact l18, by rw [ec]; exact hc.1, by rw [ec]; exact hc.2⟩, ⟨by rw [em]; exact g13, by rw [em, ec]; exact hm.1, by rw [em]; exact hm.2⟩, ⟨fun j hj => ?_, fun j k hjk hk => ?_⟩, fun t ht => ?_, fun hp => ?_⟩
      · rw [g1 j (by omega) (by omega), h0.1 j hj, e2 31 (by decide) (by decide)]
      · show _ = aPl A1 (aN A1 4) i'
        rw [eN, epl _ _ (by omega), if_pos ⟨rfl, rfl⟩]; exact g8
      · rw [g1 9 (by omega) (by omega), h0.2.2.1, e2 54 (by decide) (by decide)]
      · rw [g10, h0.2.2.2.1, e2 44 (by decide) (by decide), eN]
      · rw [em] at hj; rw [eN]; exact hT j hj
      · rw [em] at hk; exact hT2 j k hjk hk
      · rw [eN] at ht
        rw [epl _ _ (by omega), em, e2 31 (by decide) (by decide), ← hP t ht]
        by_cases q : t = aN A 4
        · rw [if_pos ⟨q, rfl⟩, if_pos q]
        · rw [if_neg (fun z => q z.1), if_neg q]
      · have hp2 : p = 21 := by
          have : aPl A1 (aN A1 4) i' = 21 := hp
          rw [eN, epl _ _ (by omega), if_pos ⟨rfl, rfl⟩] at this
          exact this
        rw [em]; exact hs hp2
    · obtain ⟨a1, a2, a3, a4⟩ := ga i' hi' e
      obtain ⟨z1, z2⟩ := go i' e
      have et := ett i' e
      have ep : ∀ t, aPl A1 t i' = aPl A t i' := fun t => by rw [epl _ _ (by omega), if_neg (fun z => e z.2)]
      have emv : mvs S1 i' = mvs S i' := by unfold mvs; rw [z1]
      have ecp : capOf S1 i' = capOf S i' := by unfold capOf; rw [et, a1]
      obtain ⟨b1, b2, b3, b4, b5, b6, b7, b8, b9⟩ := h0
      refine ⟨fun j hj => by rw [z1, b1 j hj, e2 31 (by decide) (by decide)], ?_, by rw [z1, b3, e2 54 (by decide) (by decide)], by rw [z2, b4, e2 44 (by decide) (by decide), eN], ⟨by rw [z2, et]; exact b5.1, by rw [z2, et]; exact b5.2.1, by rw [et, ecp, a2]; exact b5.2.2.1, by rw [ecp]; exact b5.2.2.2.1, by rw [ecp]; exact b5.2.2.2.2⟩, ⟨by rw [z1, emv]; exact b6.1, by rw [emv, ecp]; exact b6.2.1, by rw [emv]; exact b6.2.2⟩, ⟨fun j hj => ?_, fun j k hjk hk => ?_⟩, fun t ht => ?_, fun hp => ?_⟩
      · show _ = aPl A1 (aN A1 4) i'
        rw [z1, eN, ep]; exact b2
      · rw [et, a3, eN]; rw [emv] at hj; exact b7.1 j hj
      · rw [et, a3]; rw [emv] at hk; exact b7.2 j k hjk hk
      · rw [eN] at ht
        rw [ep, et, a3, a4, emv, e2 31 (by decide) (by decide)]; exact b8 t ht
      · have hp' : aP A i' = 21 := by
          have : aPl A1 (aN A1 4) i' = 21 := hp
          rw [eN, ep] at this; exact this
        rw [emv, et, a3, e32 i' e]; exact b9 hp'
  have hAA : nA A1 = nA (aR (fun j => A.1 j, A1.2) 29 0 (A1.2 29 0)) := by rw [← e1]; congr 1; refine Prod.ext rfl (funext fun k => funext fun j => ?_); show A1.2 k j = if k = 29 ∧ j = 0 then A1.2 29 0 else A1.2 k j; split <;> simp_all
  refine ⟨h.sc.k (hne _ rfl rfl rfl), ?_, ⟨?_, by rw [gn, eN]; exact h.men.2.1, fun i' hi' => ⟨?_, hman i' (by rw [eN] at hi'; exact hi')⟩, fun a b ha hb hab => ?_, fun a ha => ?_, n1⟩, ?_, ?_, ?_, ?_, ?_, ?_, ?_⟩
  · have := h.town.k (hne _ rfl rfl rfl)
    unfold RCt aD at this ⊢
    rw [e1, e2 29 (by decide) (by decide), eN]; exact this
  · rw [(gk 11 (by omega) (by omega) (by omega)).2.2.1, e1]; exact h.men.1
  · rw [eN] at hi'
    rw [(gk 22 (by omega) (by omega) (by omega)).2.2.2]; exact (h.men.2.2.1 i' hi').1
  · rw [eN] at ha hb
    by_cases ea : a = i
    · by_cases eb : b = i
      · rw [ea, eb]
      · subst ea
        rw [ett b eb] at hab
        exact absurd hab (n4 b hb eb)
    · by_cases eb : b = i
      · subst eb
        rw [ett a ea] at hab
        exact absurd hab.symm (n4 a ha ea)
      · rw [ett a ea, ett b eb] at hab
        exact h.men.2.2.2.1 a b ha hb hab
  · rw [eN] at ha
    by_cases ea : a = i
    · subst ea; exact n3
    · rw [ett a ea]; exact Nat.lt_of_lt_of_le (h.men.2.2.2.2.1 a ha) n2
  · have := h.paps.k (hne _ rfl rfl rfl)
    unfold RCp at this ⊢
    rw [e1, e2 39 (by decide) (by decide), eN]; exact this
  · have := h.acts.k (hne _ rfl rfl rfl)
    unfold RCa RAct aSg aSn at this ⊢
    rw [e1, e2 40 (by decide) (by decide), e2 41 (by decide) (by decide), e2 42 (by decide) (by decide), eN]; exact this
  · have := h.tks.k (hne _ rfl rfl rfl)
    unfold RCk at this ⊢
    rw [e1, e2 44 (by decide) (by decide), eN]; exact this
  · have := h.shps.k (hne _ rfl rfl rfl)
    unfold RCs at this ⊢
    rw [e1, e2 34 (by decide) (by decide), e2 35 (by decide) (by decide), e2 36 (by decide) (by decide), e2 37 (by decide) (by decide), e2 38 (by decide) (by decide), eN]; exact this
  · have := h.tix.k (hne _ rfl rfl rfl)
    unfold RCc at this ⊢
    rw [e1, e2 48 (by decide) (by decide), e2 49 (by decide) (by decide), e2 50 (by decide) (by decide), e2 51 (by decide) (by decide), e2 52 (by decide) (by decide), eN]; exact this
  · have := h.misc.k (hne _ rfl rfl rfl)
    unfold RCx at this ⊢
    rw [e1, e2 53 (by decide) (by decide)]; exact this
  · have hb := h.bud
    have hsum := sumN_upd (f := capOf S) (g := capOf S1) hi (fun j hj hne => by
      obtain ⟨a1, -⟩ := ga j hj hne
      unfold capOf; rw [ett j hne, a1])
    unfold RCb at hb ⊢
    rw [eN, eN, eN, eN, eN, eN]
    rw [ec] at hsum
    omega
