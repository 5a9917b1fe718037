/-! ===== the reference: meet and look ===== -/
def wk (n g h C k : Nat) : Nat := C / n ^ (g * h - 1 - k) % n
theorem wk_lt {n g h C k : Nat} (hn : 1 ≤ n) : wk n g h C k < n := Nat.mod_lt _ (by omega)
def vW (A : ZA) (g h C : Nat) : Prop := ∀ k, k < g * h → k % h = 0 ∨ aD A (wk (aN A 1) g h C (k - 1)) (wk (aN A 1) g h C k) ≤ 1
def w0 (A : ZA) (g h C : Nat) : Nat → Nat := fun t => wk (aN A 1) g h C t
def w1 (A : ZA) (g h C : Nat) : Nat → Nat := fun t => wk (aN A 1) g h C (h + t)
def LO (A : ZA) (g h C t : Nat) : List NN := FL (aD A) (kd (thA A) (w0 A g h C) t) (if g = 1 then none else kd (thA A) (w1 A g h C) t)
theorem gh6 {g h : Nat} (hg : g = 1 ∨ g = 2) (hh : h ≤ 3) : g * h ≤ 6 := by
  rcases hg with rfl | rfl <;> omega
theorem dec_eq {A : ZA} {S : ZH} (hA : AIn A) (hS : LK A S) {g h C : Nat} (hg : g = 1 ∨ g = 2) (hh : h ≤ 3) (hC : C < 1000000) : ∃ S1, z_iter zFU (b_X12_meet_10 0 (nI g) (nI h)) (nI C, (nI g * nI h) - 1, S) = some S1 ∧ FR 46 S S1 ∧ ∀ k, k < g * h → zI S1 46 0 k = nI (wk (aN A 1) g h C k) := by
  have hn := hA.c1.2
  have hn1 := hA.c1p
  have h6 := gh6 hg hh
  obtain ⟨p1, p2, -⟩ := nI_pz (n := aN A 1) hn1 (by omega)
  have key := z_inv0 (b := b_X12_meet_10 0 (nI g) (nI h)) (X := fun T => FR 46 S T ∧ ∀ k, k < g * h → zI T 46 0 k = nI (wk (aN A 1) g h C k)) (fun j v => v.1 = nI (C / (aN A 1) ^ j) ∧ v.2.1 = nI (g * h - j) - 1 ∧ FR 46 S v.2.2 ∧ ∀ k, g * h - j ≤ k → k < g * h → zI v.2.2 46 0 k = nI (wk (aN A 1) g h C k)) (g * h) (v := (nI C, (nI g * nI h) - 1, S)) (by omega) ⟨by show nI C = nI (C / (aN A 1) ^ 0); rw [Nat.pow_zero, Nat.div_one], by show (nI g * nI h) - 1 = nI (g * h - 0) - 1; rw [nI_mul, Nat.sub_zero], FR.rf, fun k a b => by omega⟩ (fun j v hj hI => ?_) (fun v hI => ?_)
  · exact key
  · obtain ⟨v1, v2, T⟩ := v
    obtain ⟨i1, i2, i3, i4⟩ := hI
    replace i1 : v1 = nI (C / (aN A 1) ^ j) := i1
    replace i2 : v2 = nI (g * h - j) - 1 := i2
    replace i3 : FR 46 S T := i3
    have hT := hS.k (Or.inl rfl) i3
    have hcl : C / (aN A 1) ^ j ≤ C := Nat.div_le_self _ _
    have e2 : v2 = nI (g * h - j - 1) := by rw [i2, show (1 : Int32) = nI 1 from rfl, nI_sub (by omega)]
    have hd : wk (aN A 1) g h C (g * h - j - 1) = C / (aN A 1) ^ j % aN A 1 := by
      unfold wk
      rw [show g * h - 1 - (g * h - j - 1) = j by omega]
    have hT2 := hT.k (Or.inl rfl) (FR.sI (i := 0) (j := g * h - j - 1) (v := nI (wk (aN A 1) g h C (g * h - j - 1))))
    refine ⟨(nI (C / (aN A 1) ^ (j + 1)), nI (g * h - j - 1) + (-1), zsI T 46 0 (g * h - j - 1) (nI (wk (aN A 1) g h C (g * h - j - 1)))), ?_, rfl, ?_, i3.tr FR.sI, fun k a b => ?_⟩
    · unfold b_X12_meet_10
      dsimp only
      rw [e2, if_neg (nI_nneg (by omega)), hT.1.nT hA, if_neg p2, i1, nI_mod (by omega) (by omega), ← hd]
      refine (o_b (hT.1.ref 28 rfl)).trans ?_
      rw [zst_b (by exact hT.1.len 46 6 rfl) (by omega) (by decide), hT2.1.nT hA, if_neg p2, nI_div (by omega) (by omega), Nat.div_div_eq_div_mul, ← Nat.pow_succ]
    · show nI (g * h - j - 1) + (-1) = _
      rw [← Int32.sub_eq_add_neg, show g * h - (j + 1) = g * h - j - 1 by omega]
    · show zI (zsI T 46 0 (g * h - j - 1) _) 46 0 k = _
      rw [zI_sI]
      by_cases e : k = g * h - j - 1
      · rw [e, if_pos ⟨rfl, rfl⟩]
      · rw [if_neg (fun z => e z.2)]; exact i4 k (by omega) b
  · obtain ⟨v1, v2, T⟩ := v
    obtain ⟨i1, i2, i3, i4⟩ := hI
    replace i2 : v2 = nI (g * h - g * h) - 1 := i2
    refine ⟨T, ?_, i3, fun k hk => i4 k (by omega) hk⟩
    unfold b_X12_meet_10
    dsimp only
    rw [i2, Nat.sub_self, if_pos (by decide)]
theorem fill47_eq {A : ZA} {S : ZH} (hS : LK A S) (a b : Int32) : ∃ S1, z_iter zFU (b_X12_meet_103 0 a b) ((0 : Int32), S) = some S1 ∧ FR 47 S S1 ∧ ∀ u, u < 8 → zI S1 47 0 u = -9 := by
  have key := z_inv0 (b := b_X12_meet_103 0 a b) (X := fun T => FR 47 S T ∧ ∀ u, u < 8 → zI T 47 0 u = -9) (fun j v => v.1 = nI j ∧ FR 47 S v.2 ∧ ∀ k, k < j → zI v.2 47 0 k = -9) 8 (v := ((0 : Int32), S)) (by omega) ⟨rfl, FR.rf, fun k hk => by omega⟩ (fun j v hj hI => ?_) (fun v hI => ?_)
  · exact key
  · obtain ⟨v1, T⟩ := v
    obtain ⟨i1, i2, i3⟩ := hI
    replace i1 : v1 = nI j := i1
    replace i2 : FR 47 S T := i2
    subst i1
    have hT := hS.k (Or.inr rfl) i2
    refine ⟨(nI (j + 1), zsI T 47 0 j (-9)), ?_, rfl, i2.tr FR.sI, fun k hk => ?_⟩
    · unfold b_X12_meet_103
      dsimp only
      rw [if_neg (show ¬ (8 : Int32) ≤ nI j by rw [show (8 : Int32) = nI 8 from rfl, nI_leI (by omega) (by omega)]; omega)]
      refine (o_b (hT.1.ref 29 rfl)).trans ?_
      rw [zst_b (by exact hT.1.len 47 8 rfl) hj (by decide), nI_1]
    · show zI (zsI T 47 0 j (-9)) 47 0 k = _
      rw [zI_sI]
      by_cases e : k = j
      · rw [if_pos ⟨rfl, e⟩]
      · rw [if_neg (fun z => e z.2)]; exact i3 k (by omega)
  · obtain ⟨v1, T⟩ := v
    obtain ⟨i1, i2, i3⟩ := hI
    replace i1 : v1 = nI 8 := i1
    refine ⟨T, ?_, i2, i3⟩
    unfold b_X12_meet_103
    dsimp only
    rw [i1, if_pos (by decide)]
/-- the ways are there, or not -/
theorem ways_eq {A : ZA} {S : ZH} (hA : AIn A) (hS : LK A S) {g h C : Nat} (hg : g = 1 ∨ g = 2) (h1 : 1 ≤ h) (hh : h ≤ 3) (h46 : ∀ k, k < g * h → zI S 46 0 k = nI (wk (aN A 1) g h C k)) : (vW A g h C ∧ z_iter zFU (b_X12_meet_47 0 (nI g) (nI h) S) (0 : Int32) = some (.inl ())) ∨ (¬ vW A g h C ∧ z_iter zFU (b_X12_meet_47 0 (nI g) (nI h) S) (0 : Int32) = some (.inr (-9, S))) := by
  have hn := hA.c1.2
  have hn1 := hA.c1p
  have h6 := gh6 hg hh
  obtain ⟨p1, p2, -⟩ := nI_pz (n := h) h1 (by omega)
  have step : ∀ k, k < g * h → b_X12_meet_47 0 (nI g) (nI h) S (nI k) = if k % h = 0 ∨ aD A (wk (aN A 1) g h C (k - 1)) (wk (aN A 1) g h C k) ≤ 1 then some (.inl (nI (k + 1))) else some (.inr (.inr (-9, S))) := by
    intro k hk
    have hm : k % h < h := Nat.mod_lt _ (by omega)
    unfold b_X12_meet_47
    rw [nI_mul, if_neg (by rw [nI_leI (by omega) (by omega)]; omega), if_neg p2, nI_mod (by omega) (by omega), nI_1]
    by_cases q : k % h = 0
    · rw [q, if_pos (by decide), if_pos (Or.inl rfl)]
    · have hk1 : 1 ≤ k := by
        by_cases z : k = 0
        · rw [z] at q; exact absurd (Nat.zero_mod h) q
        · omega
      have l0 := wk_lt (n := aN A 1) (g := g) (h := h) (C := C) (k := k) hn1
      have l1 := wk_lt (n := aN A 1) (g := g) (h := h) (C := C) (k := k - 1) hn1
      rw [if_neg (nI_pz (by omega) (by omega)).1]
      refine (o_b (hS.1.ref 28 rfl)).trans ?_
      rw [show nI k - (1 : Int32) = nI (k - 1) by rw [show (1 : Int32) = nI 1 from rfl, nI_sub hk1]]
      refine (o_b (zld_at (hS.1.len 46 6 rfl) (by omega) (by decide))).trans ?_
      refine (o_b (hS.1.ref 28 rfl)).trans ?_
      refine (o_b (zld_at (hS.1.len 46 6 rfl) (by omega) (by decide))).trans ?_
      refine (o_b (hS.1.ref 3 rfl)).trans ?_
      rw [h46 _ hk, h46 _ (by omega), ix8]
      refine (o_b (zld_at (hS.1.len 30 64 rfl) (by omega) (by decide))).trans ?_
      rw [hS.2.1 _ _ (by omega) (by omega)]
      have h100 := aD_le (A := A) (wk (aN A 1) g h C (k - 1)) (wk (aN A 1) g h C k)
      by_cases y : aD A (wk (aN A 1) g h C (k - 1)) (wk (aN A 1) g h C k) ≤ 1
      · rw [if_pos (show nI (aD A (wk (aN A 1) g h C (k - 1)) (wk (aN A 1) g h C k)) ≤ 1 from nI_le (b := 1) y (by omega)), if_pos (Or.inr y)]
      · rw [if_neg (show ¬ nI (aD A (wk (aN A 1) g h C (k - 1)) (wk (aN A 1) g h C k)) ≤ 1 from fun z => y ((nI_leI (b := 1) (by omega) (by omega)).mp z)), if_neg (fun z => by rcases z with z | z; exact q z; exact y z)]
  by_cases hv : vW A g h C
  · left
    refine ⟨hv, z_none (n := g * h) (by omega) (fun k hk => by rw [step k hk, if_pos (hv k hk)]) ?_⟩
    unfold b_X12_meet_47
    rw [nI_mul, if_pos (nI_le (Nat.le_refl _) (by omega))]
  · right
    refine ⟨hv, ?_⟩
    have hbad : ∃ i, i < g * h ∧ (fun k => decide (k % h = 0 ∨ aD A (wk (aN A 1) g h C (k - 1)) (wk (aN A 1) g h C k) ≤ 1)) i = false := by
      by_cases z : ∃ i, i < g * h ∧ (fun k => decide (k % h = 0 ∨ aD A (wk (aN A 1) g h C (k - 1)) (wk (aN A 1) g h C k) ≤ 1)) i = false
      · exact z
      · refine absurd (fun k hk => ?_) hv
        by_cases y : k % h = 0 ∨ aD A (wk (aN A 1) g h C (k - 1)) (wk (aN A 1) g h C k) ≤ 1
        · exact y
        · exact absurd ⟨k, hk, decide_eq_false y⟩ z
    obtain ⟨i, hi, hb, hall⟩ := first_bad _ _ hbad
    refine z_for0 (x := Sum.inr ((-9 : Int32), S)) (fun j => nI j) i rfl (by omega) (fun s hs => ?_) ?_
    · rw [step s (by omega), if_pos (of_decide_eq_true (hall s hs))]
    · rw [step i hi, if_neg (of_decide_eq_false hb)]
theorem meet_eq {A : ZA} {S : ZH} (hA : AIn A) (hS : LK A S) {g h C : Nat} (hg : g = 1 ∨ g = 2) (h1 : 1 ≤ h) (hh : h ≤ 3) (hC : C < 1000000) : ∃ q S1, f_X12_meet 0 (nI C) (nI g) (nI h) S = some (q, S1) ∧ LK A S1 ∧ frC S S1 ∧ zI S1 12 = zI S 12 ∧ (∀ k, k < g * h → zI S1 46 0 k = nI (wk (aN A 1) g h C k)) ∧ ((vW A g h C ∧ q = nI (lval (thA A) (LO A g h C h))) ∨ (¬ vW A g h C ∧ q = -9)) := by
  have hn := hA.c1.2
  have hn1 := hA.c1p
  have h6 := gh6 hg hh
  have hT := aD_TRI A
  obtain ⟨S1, e1, f1, d1⟩ := dec_eq hA hS hg hh hC
  have l1 := hS.k (Or.inl rfl) f1
  unfold f_X12_meet
  rcases ways_eq hA l1 hg h1 hh d1 with ⟨hv, e2⟩ | ⟨hv, e2⟩
  · obtain ⟨S2, e3, f2, d2⟩ := fill47_eq l1 (nI g) (nI h)
    have l2 := l1.k (Or.inr rfl) f2
    have d46 : ∀ k, k < g * h → zI S2 46 0 k = nI (wk (aN A 1) g h C k) := fun k hk => by rw [(f2.1 46 (by omega)).2.2.1]; exact d1 k hk
    have stp : ∀ t, t < h → (g = 1 → eA A t (w0 A g h C t) (LO A g h C t) = LO A g h C (t + 1)) ∧ (g = 2 → eA A t (w1 A g h C t) (eA A t (w0 A g h C t) (LO A g h C t)) = LO A g h C (t + 1)) := by
      intro t ht
      have m8 : ∀ k, wk (aN A 1) g h C k < 8 := fun k => by have := wk_lt (n := aN A 1) (g := g) (h := h) (C := C) (k := k) hn1; omega
      have av : ∀ k, k + 1 < h → aD A (w0 A g h C k) (w0 A g h C (k + 1)) ≤ 1 := by
        intro k hk
        have := hv (k + 1) (by rcases hg with rfl | rfl <;> omega)
        rw [Nat.mod_eq_of_lt hk] at this
        rcases this with z | z
        · omega
        · exact z
      refine ⟨fun e => ?_, fun e => ?_⟩
      · have := (meet_step hT ht (th := thA A) (w0 := w0 A g h C) (w1 := w0 A g h C) (fun k _ => m8 k) (fun k _ => m8 k) av av).2.2
        unfold LO
        rw [if_pos e, if_pos e]
        exact this
      · have bv : ∀ k, k + 1 < h → aD A (w1 A g h C k) (w1 A g h C (k + 1)) ≤ 1 := by
          intro k hk
          have := hv (h + (k + 1)) (by rw [e]; omega)
          rw [Nat.add_mod_left, Nat.mod_eq_of_lt hk] at this
          rcases this with z | z
          · omega
          · exact z
        obtain ⟨s1, s2, -⟩ := meet_step hT ht (th := thA A) (w0 := w0 A g h C) (w1 := w1 A g h C) (fun k _ => m8 k) (fun k _ => m8 _) av bv
        unfold LO
        rw [if_neg (by omega), if_neg (by omega)]
        show evt (thA A) (aD A) t (w1 A g h C t) (evt (thA A) (aD A) t (w0 A g h C t) (FL (aD A) (kd (thA A) (w0 A g h C) t) (kd (thA A) (w1 A g h C) t))) = _
        rw [s1, s2]
    have key := z_inv0 (b := b_X12_meet_131 0 (nI g) (nI h)) (X := fun r : Int32 × ZH => r.1 = nI (lval (thA A) (LO A g h C h)) ∧ FR 47 S2 r.2) (fun t v => v.2.1 = nI t ∧ v.1 = nI (lval (thA A) (LO A g h C t)) ∧ FR 47 S2 v.2.2 ∧ M47 A t (LO A g h C t) v.2.2) h (v := ((0 : Int32), (0 : Int32), S2)) (by omega) ⟨rfl, ?_, FR.rf, ?_⟩ (fun t v ht hI => ?_) (fun v hI => ?_)
    · obtain ⟨r, e4, x1, f3⟩ := key
      have l3 := l2.k (Or.inr rfl) f3
      refine ⟨nI (lval (thA A) (LO A g h C h)), r.2, ?_, l3, ((f1.frC (Or.inr (by omega))).tr (f2.frC (Or.inr (by omega)))).tr (f3.frC (Or.inr (by omega))), ?_, fun k hk => ?_, Or.inl ⟨hv, rfl⟩⟩
      · refine (o_b e1).trans ?_
        refine (o_b e2).trans ?_
        refine (o_b e3).trans ?_
        refine (o_b e4).trans ?_
        rw [x1]
      · rw [(f3.1 12 (by omega)).2.2.1, (f2.1 12 (by omega)).2.2.1, (f1.1 12 (by omega)).2.2.1]
      · rw [(f3.1 46 (by omega)).2.2.1]; exact d46 k hk
    · show (0 : Int32) = nI (lval (thA A) (LO A g h C 0))
      have : LO A g h C 0 = [] := by unfold LO; split <;> rfl
      rw [this]; rfl
    · have : LO A g h C 0 = [] := by unfold LO; split <;> rfl
      show M47 A 0 (LO A g h C 0) S2
      rw [this]
      exact ⟨fun p hp => (by cases hp), fun u hu _ => d2 u hu⟩
    · obtain ⟨v1, v2, T⟩ := v
      obtain ⟨i1, i2, i3, i4⟩ := hI
      replace i1 : v2 = nI t := i1
      replace i2 : v1 = nI (lval (thA A) (LO A g h C t)) := i2
      replace i3 : FR 47 S2 T := i3
      replace i4 : M47 A t (LO A g h C t) T := i4
      subst i1 i2
      have up : ∀ {L : List NN} {T : ZH}, M47 A t L T → M47 A (t + 1) L T := fun m => ⟨fun p hp => ⟨by have := (m.1 p hp).1; omega, (m.1 p hp).2⟩, m.2⟩
      have lT := l2.k (Or.inr rfl) i3
      have c46 : ∀ {T' : ZH}, FR 47 S2 T' → ∀ k, k < g * h → zI T' 46 0 k = nI (wk (aN A 1) g h C k) := fun f k hk => by rw [(f.1 46 (by omega)).2.2.1]; exact d46 k hk
      obtain ⟨T1, b1, b2, b3⟩ := evt_eq hA lT (g := g) (h := h) (t := t) (j := 0) (s := w0 A g h C t) (by omega) hh ht (by omega) (wk_lt hn1) (by rw [Nat.zero_mul, Nat.zero_add]; exact c46 i3 t (by rcases hg with rfl | rfl <;> omega)) i4
      have inner : ∃ T2, z_iter zFU (b_X12_meet_140 0 (nI g) (nI h) (nI t)) (nI (lval (thA A) (LO A g h C t)), (0 : Int32), T) = some (nI (lval (thA A) (LO A g h C (t + 1))), T2) ∧ FR 47 S2 T2 ∧ M47 A t (LO A g h C (t + 1)) T2 := by
        have ex : ∀ (x : Int32) (T' : ZH), b_X12_meet_140 0 (nI g) (nI h) (nI t) (x, nI g, T') = some (.inr (x, T')) := by
          intro x T'
          unfold b_X12_meet_140
          dsimp only
          rw [if_pos (nI_le (Nat.le_refl _) (by omega))]
        rcases hg with rfl | rfl
        · have s1 := (stp t ht).1 rfl
          rw [s1] at b1 b3
          refine ⟨T1, z_for0 (fun j => if j = 0 then (nI (lval (thA A) (LO A 1 h C t)), nI 0, T) else (nI (lval (thA A) (LO A 1 h C (t + 1))), nI 1, T1)) 1 (by rw [if_pos rfl]; rfl) (by omega) (fun j hj => ?_) ?_, i3.tr b2, b3⟩
          · have : j = 0 := by omega
            subst this
            rw [if_pos rfl, if_neg (by omega)]
            exact b1
          · rw [if_neg (by omega)]
            exact ex _ _
        · have s2 := (stp t ht).2 rfl
          have lT1 := lT.k (Or.inr rfl) b2
          obtain ⟨T2, c1, c2, c3⟩ := evt_eq hA lT1 (g := 2) (h := h) (t := t) (j := 1) (s := w1 A 2 h C t) (by omega) hh ht (by omega) (wk_lt hn1) (by rw [Nat.one_mul]; exact c46 (i3.tr b2) (h + t) (by omega)) b3
          rw [s2] at c1 c3
          refine ⟨T2, z_for0 (fun j => if j = 0 then (nI (lval (thA A) (LO A 2 h C t)), nI 0, T) else if j = 1 then (nI (lval (thA A) (eA A t (w0 A 2 h C t) (LO A 2 h C t))), nI 1, T1) else (nI (lval (thA A) (LO A 2 h C (t + 1))), nI 2, T2)) 2 (by rw [if_pos rfl]; rfl) (by omega) (fun j hj => ?_) ?_, (i3.tr b2).tr c2, c3⟩
          · have : j = 0 ∨ j = 1 := by omega
            rcases this with rfl | rfl
            · rw [if_pos rfl, if_neg (by omega), if_pos rfl]
              exact b1
            · rw [if_neg (by omega), if_pos rfl, if_neg (by omega), if_neg (by omega)]
              exact c1
          · rw [if_neg (by omega), if_neg (by omega)]
            exact ex _ _
      obtain ⟨T2, g1, g2, g3⟩ := inner
      refine ⟨(nI (lval (thA A) (LO A g h C (t + 1))), nI (t + 1), T2), ?_, rfl, rfl, g2, up g3⟩
      unfold b_X12_meet_131
      dsimp only
      rw [if_neg (by rw [nI_leI (by omega) (by omega)]; omega)]
      refine (o_b g1).trans ?_
      rw [nI_1]
    · obtain ⟨v1, v2, T⟩ := v
      obtain ⟨i1, i2, i3, i4⟩ := hI
      replace i1 : v2 = nI h := i1
      refine ⟨(v1, T), ?_, i2, i3⟩
      unfold b_X12_meet_131
      dsimp only
      rw [i1, if_pos (nI_le (Nat.le_refl _) (by omega))]
  · refine ⟨-9, S1, ?_, l1, f1.frC (Or.inr (by omega)), (f1.1 12 (by omega)).2.2.1, d1, Or.inr ⟨hv, rfl⟩⟩
    refine (o_b e1).trans ?_
    exact (o_b e2).trans rfl
