/-! ===== streets ===== -/
def cutR (w : Nat → Int32) (n m : Nat) : Nat → Int32 := fun q => if q < m ∧ ¬ (q / 8 < n ∧ q % 8 < n) then 0 else w q
def A_cut (A : ZA) (n m : Nat) : ZA := (fun j => if j = 1 then nI n else A.1 j, fun k => if k = 29 then cutR (A.2 29) n m else A.2 k)
theorem cut_AIn {A : ZA} (hA : AIn A) {n : Nat} (h0 : aN A 5 = 0) (hn : 1 ≤ n ∧ n ≤ 8) : AIn (A_cut A n 64) := by
  have en : aN (A_cut A n 64) 1 = n := by
    show (if 1 = 1 then nI n else A.1 1).toNatClampNeg = n
    rw [if_pos rfl, nI_clamp (by omega)]
  obtain ⟨w1, w2, w3⟩ := hA.2.1
  have no5 : ∀ {x : Int32}, ¬ isIx (aN A 5) x := fun {x} hx => by
    obtain ⟨i, hi, _⟩ := hx
    omega
  have e29 : ∀ q, q < 64 → (A_cut A n 64).2 29 q = if ¬ (q / 8 < n ∧ q % 8 < n) then 0 else A.2 29 q := fun q hq => by
    show (if q < 64 ∧ ¬ (q / 8 < n ∧ q % 8 < n) then 0 else A.2 29 q) = _
    by_cases e : ¬ (q / 8 < n ∧ q % 8 < n)
    · rw [if_pos ⟨hq, e⟩, if_pos e]
    · rw [if_neg (fun z => e z.2), if_neg e]
  refine ⟨⟨⟨by rw [en]; rfl, by rw [en]; omega⟩, by rw [en]; omega, hA.c4, hA.c5, hA.c9, hA.c15, hA.c17, hA.c22, hA.c24, hA.c24l, hA.c31, hA.room, hA.rate⟩, ⟨fun j hj => ?_, fun a b ha hb h => ?_, fun a b ha hb => ?_⟩, ⟨fun i hi => ?_, fun t i _ hi => ?_⟩, hA.2.2.2.1, hA.2.2.2.2.1, hA.2.2.2.2.2.1, fun t ht => absurd (hA.tk ht).2.1 no5, hA.2.2.2.2.2.2.2.1, hA.2.2.2.2.2.2.2.2⟩
  · rw [e29 j hj]
    split
    · exact Or.inl rfl
    · exact w1 j hj
  · rw [en] at h
    rw [e29 _ (by omega)]
    by_cases e : ¬ ((8 * a + b) / 8 < n ∧ (8 * a + b) % 8 < n)
    · rw [if_pos e]
    · rw [if_neg e]
      exact w2 a b ha hb (by omega)
  · rw [e29 _ (by omega), e29 _ (by omega), show (8 * a + b) / 8 = a by omega, show (8 * a + b) % 8 = b by omega, show (8 * b + a) / 8 = b by omega, show (8 * b + a) % 8 = a by omega]
    by_cases e : ¬ (a < n ∧ b < n)
    · rw [if_pos e, if_pos (show ¬ (b < n ∧ a < n) from fun z => e ⟨z.2, z.1⟩)]
    · rw [if_neg e, if_neg (show ¬ ¬ (b < n ∧ a < n) from fun z => e (fun y => z ⟨y.2, y.1⟩))]
      exact w3 a b ha hb
  · have hi' : i < aN A 5 := hi
    omega
  · have hi' : i < aN A 5 := hi
    omega
theorem cutA_step {A : ZA} {n m : Nat} {x : Int32} (hx : x = if ¬ (m / 8 < n ∧ m % 8 < n) then 0 else A.2 29 m) : aR (A_cut A n m) 29 m x = A_cut A n (m + 1) := by
  refine Prod.ext rfl (funext fun k => funext fun q => ?_)
  show (if k = 29 ∧ q = m then x else (if k = 29 then cutR (A.2 29) n m else A.2 k) q) = (if k = 29 then cutR (A.2 29) n (m + 1) else A.2 k) q
  by_cases e : k = 29
  · rw [if_pos e, if_pos e]
    show (if k = 29 ∧ q = m then x else if q < m ∧ ¬ (q / 8 < n ∧ q % 8 < n) then 0 else A.2 29 q) = if q < m + 1 ∧ ¬ (q / 8 < n ∧ q % 8 < n) then 0 else A.2 29 q
    by_cases e2 : q = m
    · rw [if_pos ⟨e, e2⟩, hx, e2]
      by_cases e3 : ¬ (m / 8 < n ∧ m % 8 < n)
      · rw [if_pos e3, if_pos ⟨by omega, e3⟩]
      · rw [if_neg e3, if_neg (fun z => e3 z.2)]
    · rw [if_neg (fun z => e2 z.2)]
      by_cases e3 : q < m ∧ ¬ (q / 8 < n ∧ q % 8 < n)
      · rw [if_pos e3, if_pos ⟨by omega, e3.2⟩]
      · rw [if_neg e3, if_neg (fun z => e3 ⟨by omega, z.2⟩)]
  · rw [if_neg (fun z => e z.1), if_neg e, if_neg e]
theorem cut_at {A : ZA} {n m q : Nat} (h : m ≤ q) : (A_cut A n m).2 29 q = A.2 29 q := by
  show (if q < m ∧ ¬ (q / 8 < n ∧ q % 8 < n) then 0 else A.2 29 q) = _
  rw [if_neg (by omega)]
theorem cut_M3 {A : ZA} {S : ZH} (hA : AIn A) {n a : Nat} (hn : n ≤ 8) (ha : a < 8) (u : Int32) (h : MV (A_cut A n (8 * a)) S) : ∃ S1, z_iter zFU (b_X12_streets_51 0 (nI n) u (nI a)) ((0 : Int32), S) = some S1 ∧ (MV (A_cut A n (8 * (a + 1))) S1 ∧ frC S S1) := by
  obtain ⟨w1, w2, w3⟩ := hA.2.1
  refine z_inv0 (fun b v => v.1 = nI b ∧ MV (A_cut A n (8 * a + b)) v.2 ∧ frC S v.2) 8 (by omega) ⟨rfl, h, frC.rf⟩ (fun b v hb hI => ?_) (fun v hI => ?_)
  · obtain ⟨v1, v2⟩ := v
    obtain ⟨i1, i2, i3⟩ := hI
    replace i1 : v1 = nI b := i1
    replace i2 : MV (A_cut A n (8 * a + b)) v2 := i2
    subst i1
    have fin : ∀ x : Int32, x = (if ¬ ((8 * a + b) / 8 < n ∧ (8 * a + b) % 8 < n) then 0 else A.2 29 (8 * a + b)) → (nI (b + 1), zsI v2 29 0 (8 * a + b) x).1 = nI (b + 1) ∧ MV (A_cut A n (8 * a + (b + 1))) (nI (b + 1), zsI v2 29 0 (8 * a + b) x).2 ∧ frC S (nI (b + 1), zsI v2 29 0 (8 * a + b) x).2 := by
      intro x hx
      refine ⟨rfl, ?_, i3.tr (frC_R (by decide) (by decide))⟩
      have := i2.R 29 (8 * a + b) x (by decide)
      rw [cutA_step hx] at this
      exact this
    have ha1 := nI_leI (a := n) (b := a) (by omega) (by omega)
    have hb1 := nI_leI (a := n) (b := b) (by omega) (by omega)
    unfold b_X12_streets_51
    dsimp only
    rw [if_neg (n8_lt (b := b) (by omega)), ix8, nI_1, show z_b (0 : Int32) = 0 by decide, show z_b (1 : Int32) = 1 by decide]
    by_cases q0 : A.2 29 (8 * a + b) = 0
    · refine ⟨(nI (b + 1), zsI v2 29 0 (8 * a + b) 0), ?_, fin 0 (by rw [q0]; split <;> rfl)⟩
      refine (o_b (i2.ref 2 rfl)).trans ?_
      refine (o_b (i2.ld 64 rfl rfl (by omega) (by decide))).trans ?_
      rw [cut_at (Nat.le_refl _), if_pos q0]
      refine (o_b (i2.ref 2 rfl)).trans ?_
      exact i2.st 64 rfl (by omega) (by decide)
    · have q1 : A.2 29 (8 * a + b) = 1 := by
        rcases w1 (8 * a + b) (by omega) with e | e
        · exact absurd e q0
        · exact e
      by_cases q2 : n ≤ a
      · refine ⟨(nI (b + 1), zsI v2 29 0 (8 * a + b) 0), ?_, fin 0 (by rw [if_pos (by omega)])⟩
        refine (o_b (i2.ref 2 rfl)).trans ?_
        refine (o_b (i2.ld 64 rfl rfl (by omega) (by decide))).trans ?_
        rw [cut_at (Nat.le_refl _), if_neg q0, if_pos (ha1.mpr q2)]
        refine (o_b (i2.ref 2 rfl)).trans ?_
        exact i2.st 64 rfl (by omega) (by decide)
      · by_cases q3 : n ≤ b
        · refine ⟨(nI (b + 1), zsI v2 29 0 (8 * a + b) 0), ?_, fin 0 (by rw [if_pos (by omega)])⟩
          refine (o_b (i2.ref 2 rfl)).trans ?_
          refine (o_b (i2.ld 64 rfl rfl (by omega) (by decide))).trans ?_
          rw [cut_at (Nat.le_refl _), if_neg q0, if_neg (fun z => q2 (ha1.mp z)), if_pos (hb1.mpr q3)]
          refine (o_b (i2.ref 2 rfl)).trans ?_
          exact i2.st 64 rfl (by omega) (by decide)
        · refine ⟨(nI (b + 1), zsI v2 29 0 (8 * a + b) 1), ?_, fin 1 (by rw [if_neg (by omega), q1])⟩
          refine (o_b (i2.ref 2 rfl)).trans ?_
          refine (o_b (i2.ld 64 rfl rfl (by omega) (by decide))).trans ?_
          rw [cut_at (Nat.le_refl _), if_neg q0, if_neg (fun z => q2 (ha1.mp z)), if_neg (fun z => q3 (hb1.mp z))]
          refine (o_b (i2.ref 2 rfl)).trans ?_
          exact i2.st 64 rfl (by omega) (by decide)
  · obtain ⟨v1, v2⟩ := v
    obtain ⟨i1, i2, i3⟩ := hI
    replace i1 : v1 = nI 8 := i1
    replace i2 : MV (A_cut A n (8 * a + 8)) v2 := i2
    subst i1
    refine ⟨v2, ?_, i2, i3⟩
    unfold b_X12_streets_51
    dsimp only
    rw [if_pos (show (8 : Int32) ≤ nI 8 by decide)]
/-- the class's ways, cut up to a street and a cell -/
def ctP (n g s q : Nat) : Prop := (n ≤ q / 8 ∧ q / 8 < g) ∨ (n ≤ q % 8 ∧ q % 8 < g) ∨ (q / 8 = g ∧ q % 8 < s) ∨ (q % 8 = g ∧ q / 8 < s)
theorem cut_C {A : ZA} {S : ZH} (h20 : ∀ q, q < 64 → zI S 20 0 q = A.2 29 q) (r : zR S 10 0 1 = some 0) (l : zL S 20 0 = 64) {n : Nat} (hn : n ≤ 8) : ∃ S1, z_iter zFU (b_X10_resize_12 0) (nI n, S) = some S1 ∧ (FR 20 S S1 ∧ ∀ q, q < 64 → (ctP n 8 0 q → zI S1 20 0 q = 0) ∧ (¬ ctP n 8 0 q → zI S1 20 0 q = A.2 29 q)) := by
  refine z_inv0 (fun j v => v.1 = nI (n + j) ∧ FR 20 S v.2 ∧ ∀ q, q < 64 → (ctP n (n + j) 0 q → zI v.2 20 0 q = 0) ∧ (¬ ctP n (n + j) 0 q → zI v.2 20 0 q = A.2 29 q)) (8 - n) (by omega) ⟨rfl, FR.rf, fun q hq => ⟨fun z => ?_, fun _ => h20 q hq⟩⟩ (fun j v hj hI => ?_) (fun v hI => ?_)
  · unfold ctP at z; omega
  · obtain ⟨v1, v2⟩ := v
    obtain ⟨i1, i2, i3⟩ := hI
    replace i1 : v1 = nI (n + j) := i1
    replace i2 : FR 20 S v2 := i2
    replace i3 : ∀ q, q < 64 → (ctP n (n + j) 0 q → zI v2 20 0 q = 0) ∧ (¬ ctP n (n + j) 0 q → zI v2 20 0 q = A.2 29 q) := i3
    subst i1
    obtain ⟨S1, e1, e2, e3⟩ := z_inv0 (b := b_X10_resize_20 0 (nI (n + j))) (X := fun T => FR 20 v2 T ∧ ∀ q, q < 64 → (ctP n (n + j) 8 q → zI T 20 0 q = 0) ∧ (¬ ctP n (n + j) 8 q → zI T 20 0 q = A.2 29 q)) (fun s v => v.1 = nI s ∧ FR 20 v2 v.2 ∧ ∀ q, q < 64 → (ctP n (n + j) s q → zI v.2 20 0 q = 0) ∧ (¬ ctP n (n + j) s q → zI v.2 20 0 q = A.2 29 q)) 8 (v := ((0 : Int32), v2)) (by omega) ⟨rfl, FR.rf, i3⟩ (fun s v hs hI => by
      obtain ⟨u1, u2⟩ := v
      obtain ⟨j1, j2, j3⟩ := hI
      replace j1 : u1 = nI s := j1
      replace j2 : FR 20 v2 u2 := j2
      replace j3 : ∀ q, q < 64 → (ctP n (n + j) s q → zI u2 20 0 q = 0) ∧ (¬ ctP n (n + j) s q → zI u2 20 0 q = A.2 29 q) := j3
      subst j1
      have f2 := i2.tr j2
      have r2 : zR u2 10 0 1 = some 0 := by rw [(f2.1 10 (by decide)).2.2.2]; exact r
      have l2 : zL u2 20 0 = 64 := by rw [f2.2.2.1]; exact l
      refine ⟨(nI (s + 1), zsI (zsI u2 20 0 (8 * (n + j) + s) 0) 20 0 (8 * s + (n + j)) 0), ?_, rfl, j2.tr (FR.sI.tr FR.sI), fun q hq => ?_⟩
      · unfold b_X10_resize_20
        dsimp only
        rw [if_neg (n8_lt (b := s) (by omega)), cellE, nI_1, show z_b (0 : Int32) = 0 by decide]
        refine (o_b (a := nI (8 * (n + j) + s)) rfl).trans ?_
        refine (o_b r2).trans ?_
        refine (zst_b l2 (by omega) (by decide)).trans ?_
        rw [cellE]
        refine (o_b (a := nI (8 * s + (n + j))) rfl).trans ?_
        refine (o_b (a := 0) r2).trans ?_
        exact zst_b (m := 64) (n := 8 * s + (n + j)) (by exact l2) (by omega) (by decide)
      · have e : zI (zsI (zsI u2 20 0 (8 * (n + j) + s) 0) 20 0 (8 * s + (n + j)) 0) 20 0 q = if q = 8 * s + (n + j) then 0 else if q = 8 * (n + j) + s then 0 else zI u2 20 0 q := by
          rw [zI_sI, zI_sI]
          simp only [true_and]
        show (ctP n (n + j) (s + 1) q → zI (zsI (zsI u2 20 0 (8 * (n + j) + s) 0) 20 0 (8 * s + (n + j)) 0) 20 0 q = 0) ∧ (¬ ctP n (n + j) (s + 1) q → zI (zsI (zsI u2 20 0 (8 * (n + j) + s) 0) 20 0 (8 * s + (n + j)) 0) 20 0 q = A.2 29 q)
        rw [e]
        obtain ⟨k1, k2⟩ := j3 q hq
        by_cases q1 : q = 8 * s + (n + j)
        · rw [if_pos q1]
          refine ⟨fun _ => rfl, fun z => absurd ?_ z⟩
          unfold ctP; omega
        · rw [if_neg q1]
          by_cases q2 : q = 8 * (n + j) + s
          · rw [if_pos q2]
            refine ⟨fun _ => rfl, fun z => absurd ?_ z⟩
            unfold ctP; omega
          · rw [if_neg q2]
            refine ⟨fun z => k1 ?_, fun z => k2 (fun y => z ?_)⟩
            · unfold ctP at z ⊢; omega
            · unfold ctP at y ⊢; omega) (fun v hI => by
      obtain ⟨u1, u2⟩ := v
      obtain ⟨j1, j2, j3⟩ := hI
      replace j1 : u1 = nI 8 := j1
      subst j1
      refine ⟨u2, ?_, j2, j3⟩
      unfold b_X10_resize_20
      dsimp only
      rw [if_pos (show (8 : Int32) ≤ nI 8 by decide)])
    refine ⟨(nI (n + j + 1), S1), ?_, rfl, i2.tr e2, fun q hq => ?_⟩
    · unfold b_X10_resize_12
      dsimp only
      rw [if_neg (n8_lt (b := n + j) (by omega)), nI_1]
      exact (o_b e1).trans rfl
    · obtain ⟨k1, k2⟩ := e3 q hq
      refine ⟨fun z => k1 ?_, fun z => k2 (fun y => z ?_)⟩
      · unfold ctP at z ⊢; omega
      · unfold ctP at y ⊢; omega
  · obtain ⟨v1, v2⟩ := v
    obtain ⟨i1, i2, i3⟩ := hI
    replace i1 : v1 = nI (n + (8 - n)) := i1
    rw [show n + (8 - n) = 8 by omega] at i1 i3
    subst i1
    refine ⟨v2, ?_, i2, i3⟩
    unfold b_X10_resize_12
    dsimp only
    rw [if_pos (show (8 : Int32) ≤ nI 8 by decide)]
theorem op_streets {A : ZA} (hA : AIn A) (x : Int32) : OpE A (f_X11_streets 0 x) (f_X12_streets 0 x) := by
  have c5 := hA.c5
  have c52 := c5.2
  by_cases hx : rg x 1 8
  · by_cases h0 : aN A 5 = 0
    · obtain ⟨n, hn, rfl⟩ := rg_cases (n := 8) (by omega) ⟨by have := hx.1; omega, hx.2⟩
      have hn1 : 1 ≤ n := by
        have := hx.1
        rw [nI_toInt (by omega)] at this
        omega
      have hA1 := cut_AIn hA (n := n) h0 ⟨hn1, hn⟩
      refine ⟨A.1 1, A_cut A n 64, hA1, fun S h => ?_, fun S h => ?_⟩
      · obtain ⟨S1, e1, f1, d1⟩ := cut_C (A := A) (S := zsI (zsI S 10 0 0 (nI n)) 10 0 3 0) (fun q hq => h.town.2.1 q hq) (h.ref 10 1 rfl) (h.len 20 64 rfl) (n := n) hn
        obtain ⟨eN, eL, eR⟩ := f1.all
        have k1 : ∀ k, k ≠ 10 → k ≠ 20 → eqK S S1 k := fun k a b => ((eqK_sI a).tr (eqK_sI a)).tr (f1.1 k b)
        have kl : ∀ (l : List Nat), l.contains 10 = false → l.contains 20 = false → ∀ k, kIn l k = true → eqK S S1 k := fun l a b k hk => k1 k (kNe a k hk) (kNe b k hk)
        have hmen : RCm A S1 := h.men.k (kl _ rfl rfl)
        refine ⟨S1, ?_, ⟨⟨fun q hq => by rw [eR]; exact h.sc.1 q hq, fun q hq => by rw [eL]; exact h.sc.2 q hq⟩, ⟨?_, fun j hj => ?_, Or.inl ?_⟩, ⟨hmen.1, hmen.2.1, fun i hi => ?_, fun i j hi _ _ => ?_, fun i hi => ?_, hmen.2.2.2.2.2⟩, h.paps.k (kl _ rfl rfl), h.acts.k (kl _ rfl rfl), h.tks.k (kl _ rfl rfl), h.shps.k (kl _ rfl rfl), h.tix.k (kl _ rfl rfl), h.misc.k (kl _ rfl rfl), h.bud.k (k1 3 (by decide) (by decide)) (k1 17 (by decide) (by decide)) f1.2.2.2.2.1 f1.2.2.2.2.2⟩, fun k hk => k1 k (fun e => nM 10 rfl (e ▸ hk)) (fun e => nM 20 rfl (e ▸ hk))⟩
        · unfold f_X11_streets
          refine (o_b (within_rg (a := 1) (b := 8) (p := 1) (q := 8) rfl rfl hx)).trans ?_
          rw [if_pos (by decide), h.nMen hA, h0, if_pos (by decide)]
          refine (o_b (h.ref 11 0 rfl)).trans ?_
          refine (o_b (h.ref 11 0 rfl)).trans ?_
          have er : f_X10_resize 0 (nI n) S = some S1 := by
            unfold f_X10_resize
            exact (o_b e1).trans rfl
          refine (o_b er).trans ?_
          rw [h.town.1]
        · rw [(f1.1 10 (by decide)).2.2.1, zI_sI, if_neg (by omega), zI_sI, if_pos ⟨rfl, rfl⟩]
          rfl
        · obtain ⟨k1, k2⟩ := d1 j hj
          show zI S1 20 0 j = if j < 64 ∧ ¬ (j / 8 < n ∧ j % 8 < n) then 0 else A.2 29 j
          by_cases z : ¬ (j / 8 < n ∧ j % 8 < n)
          · rw [if_pos ⟨hj, z⟩]
            exact k1 (by unfold ctP; omega)
          · rw [if_neg (fun y => z y.2)]
            exact k2 (by unfold ctP; omega)
        · rw [(f1.1 10 (by decide)).2.2.1, zI_sI, if_pos ⟨rfl, rfl⟩]
        · have hi' : i < aN A 5 := hi
          omega
        · have hi' : i < aN A 5 := hi
          omega
        · have hi' : i < aN A 5 := hi
          omega
      · have hM0 : MV (A_cut A n 0) (zsI (tS S) 12 0 1 (nI n)) := by
          have := h.t.F 1 (nI n)
          have e : aF A 1 (nI n) = A_cut A n 0 := by
            refine Prod.ext rfl (funext fun k => ?_)
            show A.2 k = if k = 29 then cutR (A.2 29) n 0 else A.2 k
            by_cases e : k = 29
            · rw [if_pos e, e]
              funext q
              show _ = if q < 0 ∧ _ then 0 else A.2 29 q
              rw [if_neg (by omega)]
            · rw [if_neg e]
          rw [e] at this
          exact this
        obtain ⟨T, t1, t2, t3⟩ := z_inv0 (b := b_X12_streets_42 0 (nI n) (A.1 1)) (X := fun T => MV (A_cut A n 64) T ∧ frC (zsI (tS S) 12 0 1 (nI n)) T) (fun a v => v.1 = nI a ∧ MV (A_cut A n (8 * a)) v.2 ∧ frC (zsI (tS S) 12 0 1 (nI n)) v.2) 8 (v := ((0 : Int32), zsI (tS S) 12 0 1 (nI n))) (by omega) ⟨rfl, hM0, frC.rf⟩ (fun a v ha hI => by
          obtain ⟨v1, v2⟩ := v
          obtain ⟨i1, i2, i3⟩ := hI
          replace i1 : v1 = nI a := i1
          replace i2 : MV (A_cut A n (8 * a)) v2 := i2
          subst i1
          obtain ⟨S1, e1, e2, e3⟩ := cut_M3 hA hn ha (A.1 1) i2
          refine ⟨(nI (a + 1), S1), ?_, rfl, e2, i3.tr e3⟩
          unfold b_X12_streets_42
          dsimp only
          rw [if_neg (n8_lt (b := a) (by omega)), nI_1]
          exact (o_b e1).trans rfl) (fun v hI => by
          obtain ⟨v1, v2⟩ := v
          obtain ⟨i1, i2, i3⟩ := hI
          replace i1 : v1 = nI 8 := i1
          subst i1
          refine ⟨v2, ?_, i2, i3⟩
          unfold b_X12_streets_42
          dsimp only
          rw [if_pos (show (8 : Int32) ≤ nI 8 by decide)])
        refine ⟨T, ?_, t2, frC_t.tr (frC_F.tr t3)⟩
        unfold f_X12_streets
        refine (o_b (in_rg (a := 1) (b := 8) (p := 1) (q := 8) rfl rfl hx)).trans ?_
        rw [if_pos (by decide), h.t.nMen hA, h0, if_pos (by decide), h.t.f 1 rfl]
        exact (o_b t1).trans rfl
    · have hp : ¬ nI (aN A 5) ≤ 0 := fun z => h0 ((nI_le0 (by omega)).mp z)
      refine .same hA (-3) (fun S h => ?_) (fun S h => ?_)
      · unfold f_X11_streets
        refine (o_b (within_rg (a := 1) (b := 8) (p := 1) (q := 8) rfl rfl hx)).trans ?_
        rw [if_pos (by decide), h.nMen hA, if_neg hp]
      · unfold f_X12_streets
        refine (o_b (in_rg (a := 1) (b := 8) (p := 1) (q := 8) rfl rfl hx)).trans ?_
        rw [if_pos (by decide), h.t.nMen hA, if_neg hp]
  · refine .same hA (-2) (fun S h => ?_) (fun S h => ?_)
    · unfold f_X11_streets
      exact (o_b (within_nr (a := 1) (b := 8) (p := 1) (q := 8) rfl rfl hx)).trans rfl
    · unfold f_X12_streets
      exact (o_b (in_nr (a := 1) (b := 8) (p := 1) (q := 8) rfl rfl hx)).trans rfl
