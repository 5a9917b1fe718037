/-! ===== pure part: loops, small numbers, agreement of kinds ===== -/
theorem z_for {σ ρ : Type} {b : σ → Option (σ ⊕ ρ)} {x : ρ} (st : Nat → σ) : ∀ (N fuel : Nat), N < fuel → (∀ j, j < N → b (st j) = some (.inl (st (j + 1)))) → b (st N) = some (.inr x) → z_iter fuel b (st 0) = some x := by
  intro N
  induction N generalizing st with
  | zero =>
    intro fuel hf _ hx
    cases fuel with
    | zero => omega
    | succ f => show (b (st 0)).bind _ = some x; rw [hx]; rfl
  | succ N ih =>
    intro fuel hf hs hx
    cases fuel with
    | zero => omega
    | succ f =>
      show (b (st 0)).bind _ = some x
      rw [hs 0 (by omega)]
      exact ih (fun j => st (j + 1)) f (by omega) (fun j hj => hs (j + 1) (by omega)) hx
/-- a loop, by the states that it passes; its fuel is a million -/
theorem z_for0 {σ ρ : Type} {b : σ → Option (σ ⊕ ρ)} {x : ρ} (st : Nat → σ) (N : Nat) {v : σ} (hv : v = st 0) (hN : N < 1000000) (hs : ∀ j, j < N → b (st j) = some (.inl (st (j + 1)))) (hx : b (st N) = some (.inr x)) : z_iter zFU b v = some x := by
  rw [hv]; exact z_for st N zFU hN hs hx
/-- a loop by an invariant: each turn keeps it, the last gives the answer -/
theorem z_inv {σ ρ : Type} {b : σ → Option (σ ⊕ ρ)} {X : ρ → Prop} (I : Nat → σ → Prop) : ∀ (N fuel : Nat) (v : σ), N < fuel → I 0 v → (∀ j v, j < N → I j v → ∃ v', b v = some (.inl v') ∧ I (j + 1) v') → (∀ v, I N v → ∃ x, b v = some (.inr x) ∧ X x) → ∃ x, z_iter fuel b v = some x ∧ X x := by
  intro N
  induction N generalizing I with
  | zero =>
    intro fuel v hf h0 _ hx
    cases fuel with
    | zero => omega
    | succ f =>
      obtain ⟨x, h1, h2⟩ := hx v h0
      exact ⟨x, by show (b v).bind _ = some x; rw [h1]; rfl, h2⟩
  | succ N ih =>
    intro fuel v hf h0 hs hx
    cases fuel with
    | zero => omega
    | succ f =>
      obtain ⟨v', h1, h2⟩ := hs 0 v (by omega) h0
      obtain ⟨x, h3, h4⟩ := ih (fun j => I (j + 1)) f v' (by omega) h2 (fun j v hj hI => hs (j + 1) v (by omega) hI) hx
      exact ⟨x, by show (b v).bind _ = some x; rw [h1]; exact h3, h4⟩
theorem z_inv0 {σ ρ : Type} {b : σ → Option (σ ⊕ ρ)} {X : ρ → Prop} (I : Nat → σ → Prop) (N : Nat) {v : σ} (hN : N < 1000000) (h0 : I 0 v) (hs : ∀ j v, j < N → I j v → ∃ v', b v = some (.inl v') ∧ I (j + 1) v') (hx : ∀ v, I N v → ∃ x, b v = some (.inr x) ∧ X x) : ∃ x, z_iter zFU b v = some x ∧ X x := z_inv I N zFU v hN h0 hs hx
/-! numbers -/
theorem i_add {a b : Int32} (h1 : -2147483648 ≤ a.toInt + b.toInt) (h2 : a.toInt + b.toInt < 2147483648) : (a + b).toInt = a.toInt + b.toInt := by
  rw [Int32.toInt_add]
  exact Int.bmod_eq_of_le (by omega) (by omega)
theorem i_sub {a b : Int32} (h1 : -2147483648 ≤ a.toInt - b.toInt) (h2 : a.toInt - b.toInt < 2147483648) : (a - b).toInt = a.toInt - b.toInt := by
  rw [Int32.toInt_sub]
  exact Int.bmod_eq_of_le (by omega) (by omega)
theorem i_mul {a b : Int32} (h1 : -2147483648 ≤ a.toInt * b.toInt) (h2 : a.toInt * b.toInt < 2147483648) : (a * b).toInt = a.toInt * b.toInt := by
  rw [Int32.toInt_mul]
  exact Int.bmod_eq_of_le (by omega) (by omega)
theorem i_lo (a : Int32) : -2147483648 ≤ a.toInt := by have := Int32.le_toInt a; simpa using this
theorem i_hi (a : Int32) : a.toInt < 2147483648 := by have := Int32.toInt_lt a; simpa using this
theorem nI_mul (a b : Nat) : nI a * nI b = nI (a * b) := by
  show Int32.ofNat a * Int32.ofNat b = Int32.ofNat (a * b)
  rw [Int32.ofNat_mul]
theorem nI_sub {a b : Nat} (h : b ≤ a) : nI a - nI b = nI (a - b) := by
  have e : nI a = nI (a - b) + nI b := by rw [nI_add]; congr 1; omega
  rw [e]
  exact Int32.add_sub_cancel _ _
theorem i_eq {a b : Int32} : a = b ↔ a.toInt = b.toInt := Int32.toInt_inj.symm
/-- x is one of the first n numbers -/
def isIx (n : Nat) (x : Int32) : Prop := ∃ i, i < n ∧ x = nI i
theorem isIx_iff {n : Nat} (hn : n < 2 ^ 31) {x : Int32} : isIx n x ↔ 0 ≤ x.toInt ∧ x.toInt < n := by
  constructor
  · rintro ⟨i, hi, rfl⟩
    rw [nI_toInt (by omega)]
    omega
  · rintro ⟨h1, h2⟩
    refine ⟨x.toInt.toNat, by omega, ?_⟩
    rw [i_eq, nI_toInt (by omega)]
    omega
/-! agreement -/
def eqK (S S' : ZH) (k : Nat) : Prop := zN S' k = zN S k ∧ zL S' k = zL S k ∧ zI S' k = zI S k ∧ zR S' k = zR S k
theorem eqK.rf {S : ZH} {k : Nat} : eqK S S k := ⟨rfl, rfl, rfl, rfl⟩
theorem eqK.tr {S S1 S2 : ZH} {k : Nat} (h : eqK S S1 k) (h' : eqK S1 S2 k) : eqK S S2 k := ⟨h'.1.trans h.1, h'.2.1.trans h.2.1, h'.2.2.1.trans h.2.2.1, h'.2.2.2.trans h.2.2.2⟩
theorem eqK_sI {S : ZH} {k k' i j : Nat} {v : Int32} (h : k' ≠ k) : eqK S (zsI S k i j v) k' := by
  refine ⟨rfl, rfl, ?_, rfl⟩
  funext i' j'
  exact if_neg (fun q => h q.1)
theorem eqK_sR {S : ZH} {k k' i j : Nat} {v : Option Nat} (h : k' ≠ k) : eqK S (zsR S k i j v) k' := by
  refine ⟨rfl, rfl, rfl, ?_⟩
  funext i' j'
  exact if_neg (fun q => h q.1)
theorem eqK_new {S : ZH} {k k' n : Nat} (h : k' ≠ k) : eqK S (zNew S k n) k' := by
  refine ⟨if_neg h, ?_, ?_, ?_⟩
  · funext i'; exact if_neg (fun q => h q.1)
  · funext i' j'; exact if_neg (fun q => h q.1)
  · funext i' j'; exact if_neg (fun q => h q.1)
theorem zI_sI (S : ZH) (k i j : Nat) (v : Int32) (i' j' : Nat) : zI (zsI S k i j v) k i' j' = if i' = i ∧ j' = j then v else zI S k i' j' := by
  show z_up _ _ _ _ _ _ _ _ = _
  unfold z_up
  by_cases h : i' = i ∧ j' = j
  · rw [if_pos ⟨rfl, h⟩, if_pos h]
  · rw [if_neg (fun q => h q.2), if_neg h]; rfl
theorem zR_sR (S : ZH) (k i j : Nat) (v : Option Nat) (i' j' : Nat) : zR (zsR S k i j v) k i' j' = if i' = i ∧ j' = j then v else zR S k i' j' := by
  show z_up _ _ _ _ _ _ _ _ = _
  unfold z_up
  by_cases h : i' = i ∧ j' = j
  · rw [if_pos ⟨rfl, h⟩, if_pos h]
  · rw [if_neg (fun q => h q.2), if_neg h]; rfl
theorem zN_sI (S : ZH) (k i j : Nat) (v : Int32) : zN (zsI S k i j v) = zN S := rfl
theorem zL_sI (S : ZH) (k i j : Nat) (v : Int32) : zL (zsI S k i j v) = zL S := rfl
theorem zR_sI (S : ZH) (k i j : Nat) (v : Int32) : zR (zsI S k i j v) = zR S := rfl
theorem zc_sI (S : ZH) (k i j : Nat) (v : Int32) : zc (zsI S k i j v) = zc S := rfl
theorem zs_sI (S : ZH) (k i j : Nat) (v : Int32) : zs (zsI S k i j v) = zs S := rfl
theorem zN_sR (S : ZH) (k i j : Nat) (v : Option Nat) : zN (zsR S k i j v) = zN S := rfl
theorem zL_sR (S : ZH) (k i j : Nat) (v : Option Nat) : zL (zsR S k i j v) = zL S := rfl
theorem zI_sR (S : ZH) (k i j : Nat) (v : Option Nat) : zI (zsR S k i j v) = zI S := rfl
theorem zc_sR (S : ZH) (k i j : Nat) (v : Option Nat) : zc (zsR S k i j v) = zc S := rfl
theorem zs_sR (S : ZH) (k i j : Nat) (v : Option Nat) : zs (zsR S k i j v) = zs S := rfl
/-! loads and stores at a small index -/
theorem zld_at {S : ZH} {k a n m : Nat} (hl : zL S k a = m) (h : n < m) (hm : m < 2 ^ 31) : zld S k a (nI n) = some (zI S k a n) := by
  unfold zld
  rw [hl, if_neg (nI_in h hm), nI_clamp (by omega)]
theorem zldR_at {S : ZH} {k a n m : Nat} (hl : zL S k a = m) (h : n < m) (hm : m < 2 ^ 31) : zldR S k a (nI n) = some (zR S k a n) := by
  unfold zldR
  rw [hl, if_neg (nI_in h hm), nI_clamp (by omega)]
theorem zst_at {S : ZH} {k a n m : Nat} {v : Int32} (hl : zL S k a = m) (h : n < m) (hm : m < 2 ^ 31) : zst S k a (nI n) v = some (zsI S k a n v) := by
  unfold zst
  rw [hl, if_neg (nI_in h hm), nI_clamp (by omega)]
theorem zstR_at {S : ZH} {k a n m : Nat} {v : Option Nat} (hl : zL S k a = m) (h : n < m) (hm : m < 2 ^ 31) : zstR S k a (nI n) v = some (zsR S k a n v) := by
  unfold zstR
  rw [hl, if_neg (nI_in h hm), nI_clamp (by omega)]
/-! the two range tests -/
theorem within_eq (x a b : Int32) (S : ZH) : f_X11_within x a b S = some (if a.toInt ≤ x.toInt ∧ x.toInt ≤ b.toInt then 1 else 0) := by
  unfold f_X11_within
  simp only [Int32.lt_iff_toInt_lt]
  by_cases h1 : x.toInt < a.toInt
  · rw [if_pos h1, if_neg (by omega)]
  · rw [if_neg h1]
    by_cases h2 : b.toInt < x.toInt
    · rw [if_pos h2, if_neg (by omega)]
    · rw [if_neg h2, if_pos (by omega)]
theorem in_eq (x a b : Int64) (S : ZH) : f_X12_in x a b S = some (if a.toInt ≤ x.toInt ∧ x.toInt ≤ b.toInt then 1 else 0) := by
  unfold f_X12_in
  simp only [lg_cmp_lt, lg_cmp_gt, Int64.lt_iff_toInt_lt]
  by_cases h1 : x.toInt < a.toInt
  · rw [if_pos h1, if_neg (by omega)]
  · rw [if_neg h1]
    by_cases h2 : b.toInt < x.toInt
    · rw [if_pos h2, if_neg (by omega)]
    · rw [if_neg h2, if_pos (by omega)]
theorem l_toInt (x : Int32) : x.toInt64.toInt = x.toInt := Int32.toInt_toInt64 x
