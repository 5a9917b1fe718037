/-! ===== one call on both sides ===== -/
def kA (A B : ZA) : ZA := (A.1, fun k => if 55 ≤ k then B.2 k else A.2 k)
theorem kA_AIn {A B : ZA} (h : AIn A) : AIn (kA A B) := h
theorem kA_RC {A B : ZA} {S : ZH} (h : RC A S) : RC (kA A B) S := h
theorem kA_MV {A : ZA} {S S1 : ZH} (h : MV A S) (f : frM S S1) : MV (kA A (zV S1)) S1 := by
  refine ⟨⟨fun j hj => ?_, fun q hq => ?_⟩, fun j h0 h30 => ?_, fun k a b c d e g => ?_⟩
  · rw [(f 12 (Or.inl rfl)).2.2.2]; exact h.1.1 j hj
  · have hk : ∀ q ∈ SMl, 29 ≤ q.1 ∧ q.1 ≤ 54 := by decide
    rw [(f q.1 (Or.inr (hk q hq))).2.1]; exact h.1.2 q hq
  · show zI S1 12 0 j = A.1 j
    rw [(f 12 (Or.inl rfl)).2.2.1]; exact h.2.1 j h0 h30
  · show zI S1 k 0 = if 55 ≤ k then zI S1 k 0 else A.2 k
    by_cases y : 55 ≤ k
    · rw [if_pos y]
    · rw [if_neg y, (f k (Or.inr ⟨a, by omega⟩)).2.2.1]; exact h.2.2 k a b c d e g
theorem stepE {fx fm : ZH → Option (Int32 × ZH)} {S : ZH} (ho : ∀ A, AIn A → OpE A fx fm) (h : GoodA S) : ∃ r S1 S2, fx S = some (r, S1) ∧ fm S1 = some (r, S2) ∧ GoodA S2 := by
  obtain ⟨A, hA, hR, hM⟩ := h
  obtain ⟨r, A1, -, g1, -⟩ := ho A hA
  obtain ⟨S1, e1, -, f1⟩ := g1 S hR
  obtain ⟨r', A1', a1, g1', g2'⟩ := ho (kA A (zV S1)) (kA_AIn hA)
  obtain ⟨S1', e1', r1', f1'⟩ := g1' S (kA_RC hR)
  have ee : (r, S1) = (r', S1') := Option.some.inj (e1.symm.trans e1')
  have e2 : r = r' := congrArg Prod.fst ee
  have e3 : S1 = S1' := congrArg Prod.snd ee
  subst e2
  rw [← e3] at r1'
  obtain ⟨S2, e4, m2, f2⟩ := g2' S1 (kA_MV hM f1)
  exact ⟨r, S1, S2, e1, e4, A1', a1, r1'.fr f2, m2⟩
theorem stepP {fx : ZH → Option Int32} {fm : ZH → Option (Int32 × ZH)} {S : ZH} (ho : ∀ A, AIn A → OpP A fx fm) (h : GoodA S) : ∃ r S2, fx S = some r ∧ fm S = some (r, S2) ∧ GoodA S2 := by
  obtain ⟨A, hA, hR, hM⟩ := h
  obtain ⟨r, g1, g2⟩ := ho A hA
  obtain ⟨S2, e2, m2, f2⟩ := g2 S hM
  exact ⟨r, S2, g1 S hR, e2, A, hA, hR.fr f2, m2⟩
/-- one turn of the law -/
def Turn (x : Int32) (o : Option ((Int32 × ZH) ⊕ ZH)) : Prop := ∃ S', o = some (.inl (x + 10, S')) ∧ GoodA S'
theorem turnE {fx fm : ZH → Option (Int32 × ZH)} {S : ZH} {x : Int32} (ho : ∀ A, AIn A → OpE A fx fm) (h : GoodA S) : Turn x ((fx S).bind fun q => (fm q.2).bind fun q' => if q.1 = q'.1 then some (.inl (x + 10, q'.2)) else none) := by
  obtain ⟨r, S1, S2, e1, e2, g⟩ := stepE ho h
  refine ⟨S2, ?_, g⟩
  refine (o_b e1).trans ?_
  refine (o_b e2).trans ?_
  rw [if_pos rfl]
theorem turnP {fx : ZH → Option Int32} {fm : ZH → Option (Int32 × ZH)} {S : ZH} {x : Int32} (ho : ∀ A, AIn A → OpP A fx fm) (h : GoodA S) : Turn x ((fx S).bind fun q => (fm S).bind fun q' => if q = q'.1 then some (.inl (x + 10, q'.2)) else none) := by
  obtain ⟨r, S2, e1, e2, g⟩ := stepP ho h
  refine ⟨S2, ?_, g⟩
  refine (o_b e1).trans ?_
  refine (o_b e2).trans ?_
  rw [if_pos rfl]
/-- the script's words of one call are there -/
def Wd (L : Nat) (xs : Nat → Int32) (x : Int32) (w : Nat → Int32) : Prop := zldX L xs (x + 1) = some (w 1) ∧ zldX L xs (x + 2) = some (w 2) ∧ zldX L xs (x + 3) = some (w 3) ∧ zldX L xs (x + 4) = some (w 4) ∧ zldX L xs (x + 5) = some (w 5) ∧ zldX L xs (x + 6) = some (w 6) ∧ zldX L xs (x + 7) = some (w 7) ∧ zldX L xs (x + 8) = some (w 8) ∧ zldX L xs (x + 9) = some (w 9)
theorem zldX_at {L : Nat} {xs : Nat → Int32} {i : Nat} (hi : i < L) (hL : L ≤ 5120) : zldX L xs (nI i) = some (xs i) := by
  unfold zldX
  rw [nI_clamp (by omega), if_neg]
  rintro (z | z)
  · exact nI_nneg (by omega) z
  · omega
theorem wd_at {L : Nat} {xs : Nat → Int32} {j : Nat} (hj : 10 * j + 10 ≤ L) (hL : L ≤ 5120) : Wd L xs (nI (10 * j)) (fun k => xs (10 * j + k)) := by
  have e : ∀ k, k < 10 → zldX L xs (nI (10 * j) + nI k) = some (xs (10 * j + k)) := fun k hk => by rw [nI_add]; exact zldX_at (by omega) hL
  exact ⟨e 1 (by omega), e 2 (by omega), e 3 (by omega), e 4 (by omega), e 5 (by omega), e 6 (by omega), e 7 (by omega), e 8 (by omega), e 9 (by omega)⟩
