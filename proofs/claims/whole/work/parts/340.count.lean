/-! ===== counting loops ===== -/
def cntN (f : Nat → Bool) : Nat → Nat
  | 0 => 0
  | n + 1 => cntN f n + if f n = true then 1 else 0
theorem cntN_le (f : Nat → Bool) : ∀ n, cntN f n ≤ n
  | 0 => Nat.le_refl _
  | n + 1 => by
    have := cntN_le f n
    show cntN f n + _ ≤ n + 1
    split <;> omega
theorem cntN_congr {f g : Nat → Bool} : ∀ {n : Nat}, (∀ i, i < n → f i = g i) → cntN f n = cntN g n
  | 0, _ => rfl
  | n + 1, h => by
    show cntN f n + _ = cntN g n + _
    rw [cntN_congr (fun i hi => h i (by omega)), h n (by omega)]
theorem z_cnt {b : Int32 × Int32 → Option ((Int32 × Int32) ⊕ Int32)} {n : Nat} (f : Nat → Bool) (hn : n ≤ 1000) (hs : ∀ j c, j < n → b (nI c, nI j) = some (.inl (nI (c + if f j = true then 1 else 0), nI (j + 1)))) (hx : ∀ c, b (nI c, nI n) = some (.inr (nI c))) : z_iter zFU b ((0 : Int32), (0 : Int32)) = some (nI (cntN f n)) :=
  z_for0 (fun j => (nI (cntN f j), nI j)) n rfl (by omega) (fun j hj => hs j _ hj) (hx _)
theorem RC.pl {A : ZA} {S : ZH} (h : RC A S) {i : Nat} (hi : i < aN A 5) : zI S 3 i 8 = aP A i := (h.man hi).2.1
theorem RC.att {A : ZA} {S : ZH} (h : RC A S) {i j : Nat} (hi : i < aN A 5) (hj : j < 8) : zI S 3 i j = A.2 31 (8 * i + j) := (h.man hi).1 j hj
theorem RC.manAt {A : ZA} {S : ZH} (hA : AIn A) (h : RC A S) {i : Nat} (hi : i < aN A 5) : zldR S 22 0 (nI i) = some (some i) := by
  have := hA.c5.2
  rw [zldR_at (h.len 22 40 rfl) (by omega) (by decide), (h.men.2.2.1 i hi).1]
theorem RC.nMen {A : ZA} {S : ZH} (hA : AIn A) (h : RC A S) : zI S 11 0 2 = nI (aN A 5) := h.men.1.trans hA.c5.1
theorem MV.nMen {A : ZA} {S : ZH} (hA : AIn A) (h : MV A S) : zI S 12 0 5 = nI (aN A 5) := (h.f 5 rfl).trans hA.c5.1
theorem ix40 (t i : Nat) : (40 : Int32) * nI t + nI i = nI (40 * t + i) := by
  rw [show (40 : Int32) = nI 40 from rfl, nI_mul, nI_add]
theorem placeOf_eq {A : ZA} {S : ZH} (hA : AIn A) (h : MV A S) {i : Nat} (hi : i < aN A 5) : f_X12_placeOf 0 (nI i) S = some (aP A i) := by
  have h4 := hA.c4
  have h5 := hA.c5.2
  have h42 := h4.2
  unfold f_X12_placeOf
  rw [h.ref 8 rfl, h.f 4 rfl, h4.1, ix40]
  simp only [Option.bind_some]
  rw [h.ld 36000 rfl rfl (by omega) (by decide)]
  rfl
theorem menIn_eq {A : ZA} {S : ZH} (hA : AIn A) (h : RC A S) (p : Int32) : f_X11_menIn 0 p S = some (nI (cntN (fun i => decide (aP A i = p)) (aN A 5))) := by
  have h5 := hA.c5.2
  unfold f_X11_menIn
  rw [z_cnt (fun i => decide (aP A i = p)) (n := aN A 5) (by omega) (fun j c hj => ?_) (fun c => ?_)]
  · rfl
  · unfold b_X11_menIn_4
    rw [h.nMen hA, if_neg (by rw [nI_leI (by omega) (by omega)]; omega), h.ref 11 1 rfl]
    simp only [Option.bind_some]
    rw [h.manAt hA hj]
    simp only [Option.bind_some]
    rw [h.pl hj]
    by_cases e : aP A j = p
    · simp [e, nI_1]
    · simp [e, nI_1]
  · unfold b_X11_menIn_4
    rw [h.nMen hA, if_pos (nI_le (Nat.le_refl _) (by omega))]
theorem many_eq {A : ZA} {S : ZH} (hA : AIn A) (h : MV A S) (p : Int32) : f_X12_many 0 p S = some (nI (cntN (fun i => decide (aP A i = p)) (aN A 5))) := by
  have h5 := hA.c5.2
  unfold f_X12_many
  rw [z_cnt (fun i => decide (aP A i = p)) (n := aN A 5) (by omega) (fun j c hj => ?_) (fun c => ?_)]
  · rfl
  · unfold b_X12_many_4
    rw [h.nMen hA, if_neg (by rw [nI_leI (by omega) (by omega)]; omega), placeOf_eq hA h hj]
    simp only [Option.bind_some]
    by_cases e : aP A j = p
    · simp [e, nI_1]
    · simp [e, nI_1]
  · unfold b_X12_many_4
    rw [h.nMen hA, if_pos (nI_le (Nat.le_refl _) (by omega))]
def isSea (A : ZA) (i : Nat) : Bool := decide (3 ≤ (A.2 31 (8 * i + 5)).toInt)
theorem seamenIn_eq {A : ZA} {S : ZH} (hA : AIn A) (h : RC A S) (p : Int32) : f_X11_seamenIn 0 p S = some (nI (cntN (fun i => decide (aP A i = p) && isSea A i) (aN A 5))) := by
  have h5 := hA.c5.2
  unfold f_X11_seamenIn
  rw [z_cnt (fun i => decide (aP A i = p) && isSea A i) (n := aN A 5) (by omega) (fun j c hj => ?_) (fun c => ?_)]
  · rfl
  · unfold b_X11_seamenIn_4
    rw [h.nMen hA, if_neg (by rw [nI_leI (by omega) (by omega)]; omega), h.ref 11 1 rfl]
    simp only [Option.bind_some]
    rw [h.manAt hA hj]
    simp only [Option.bind_some]
    rw [h.pl hj]
    by_cases e : aP A j = p
    · unfold f_X3_isSeaman isSea
      rw [h.att hj (by omega)]
      simp only [Int32.lt_iff_toInt_lt, show (3 : Int32).toInt = 3 from rfl]
      by_cases e2 : (A.2 31 (8 * j + 5)).toInt < 3
      · simp [e, nI_1, e2, show ¬ 3 ≤ (A.2 31 (8 * j + 5)).toInt by omega]
      · simp [e, nI_1, e2, show 3 ≤ (A.2 31 (8 * j + 5)).toInt by omega]
    · simp [e, nI_1]
  · unfold b_X11_seamenIn_4
    rw [h.nMen hA, if_pos (nI_le (Nat.le_refl _) (by omega))]
theorem skilled_eq {A : ZA} {S : ZH} (hA : AIn A) (h : MV A S) (p : Int32) : f_X12_skilled 0 p S = some (nI (cntN (fun i => decide (aP A i = p) && isSea A i) (aN A 5))) := by
  have h5 := hA.c5.2
  unfold f_X12_skilled
  rw [z_cnt (fun i => decide (aP A i = p) && isSea A i) (n := aN A 5) (by omega) (fun j c hj => ?_) (fun c => ?_)]
  · rfl
  · unfold b_X12_skilled_4
    rw [h.nMen hA, if_neg (by rw [nI_leI (by omega) (by omega)]; omega), placeOf_eq hA h hj]
    simp only [Option.bind_some]
    by_cases e : aP A j = p
    · rw [h.ref 6 rfl, show (5 : Int32) = nI 5 from rfl, ix8]
      simp only [Option.bind_some]
      rw [h.ld 320 rfl rfl (by omega) (by decide)]
      unfold isSea
      simp only [Int32.le_iff_toInt_le, show (2 : Int32).toInt = 2 from rfl, Option.bind_some]
      by_cases e2 : (A.2 31 (8 * j + 5)).toInt < 3
      · simp [e, nI_1, show (A.2 31 (8 * j + 5)).toInt ≤ 2 by omega, show ¬ 3 ≤ (A.2 31 (8 * j + 5)).toInt by omega]
      · simp [e, nI_1, show ¬ (A.2 31 (8 * j + 5)).toInt ≤ 2 by omega, show 3 ≤ (A.2 31 (8 * j + 5)).toInt by omega]
    · simp [e, nI_1]
  · unfold b_X12_skilled_4
    rw [h.nMen hA, if_pos (nI_le (Nat.le_refl _) (by omega))]
/-- a place is a street's -/
def stB (p : Int32) : Bool := decide (rg p 0 7)
theorem isStreetC (p : Int32) (S : ZH) : f_X11_isStreet p S = some (if stB p = true then 1 else 0) := by
  unfold f_X11_isStreet stB
  by_cases h : rg p 0 7
  · rw [within_rg (p := 0) (q := 7) rfl rfl h]; simp [h]; rfl
  · rw [within_nr (p := 0) (q := 7) rfl rfl h]; simp [h]; rfl
theorem isStreetM (p : Int32) (S : ZH) : f_X12_isStreet p S = some (if stB p = true then 1 else 0) := by
  unfold f_X12_isStreet stB
  by_cases h : rg p 0 7
  · rw [in_rg (p := 0) (q := 7) rfl rfl h]; simp [h]; rfl
  · rw [in_nr (p := 0) (q := 7) rfl rfl h]; simp [h]; rfl
