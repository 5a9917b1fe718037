/-! ===== the class walks a walk out, and finds the least walk of each kind ===== -/
theorem nI_pz {n : Nat} (h0 : 1 ≤ n) (hn : n < 2 ^ 31) : ¬ nI n ≤ 0 ∧ ¬ nI n = 0 ∧ ¬ nI n < 0 := by
  have e := nI_toInt hn
  refine ⟨fun z => ?_, fun z => ?_, fun z => ?_⟩
  · rw [Int32.le_iff_toInt_le, e, i0] at z; omega
  · rw [z, i0] at e; omega
  · rw [Int32.lt_iff_toInt_lt, e, i0] at z; omega
theorem nI_nneg {n : Nat} (hn : n < 2 ^ 31) : ¬ nI n < 0 := by
  intro z
  rw [Int32.lt_iff_toInt_lt, nI_toInt hn, i0] at z; omega
def okS (A : ZA) (h c j : Nat) : Prop := ∀ k, h - j ≤ k → k + 1 < h → aD A (dg (aN A 1) h c k) (dg (aN A 1) h c (k + 1)) ≤ 1
theorem walkOut_eq {A : ZA} {S : ZH} (hA : AIn A) (hR : RC A S) {x c h : Nat} (hx : x ≤ 1) (hh : h ≤ 3) (hc : c < 100000) : ∃ v S1, f_X1_walkOut 0 (nI x) (nI c) (nI h) S = some (v, S1) ∧ FR 16 S S1 ∧ (∀ k, k < h → zI S1 16 0 (3 * x + k) = nI (dg (aN A 1) h c k)) ∧ (∀ i, (i < 3 * x ∨ 3 * x + h ≤ i) → zI S1 16 0 i = zI S 16 0 i) ∧ ((v = 1 ∧ vld A h c) ∨ (v = 0 ∧ ¬ vld A h c)) := by
  have hn := hA.c1.2
  have hn1 := hA.c1p
  obtain ⟨p1, p2, -⟩ := nI_pz (n := aN A 1) hn1 (by omega)
  have key := z_inv0 (b := b_X1_walkOut_15 0 (nI x)) (X := fun r : Int32 × ZH => FR 16 S r.2 ∧ (∀ k, k < h → zI r.2 16 0 (3 * x + k) = nI (dg (aN A 1) h c k)) ∧ (∀ i, (i < 3 * x ∨ 3 * x + h ≤ i) → zI r.2 16 0 i = zI S 16 0 i) ∧ ((r.1 = 1 ∧ okS A h c h) ∨ (r.1 = 0 ∧ ¬ okS A h c h)))
    (fun j v => v.1 = nI (c / (aN A 1) ^ j) ∧ (v.2.1 = if j = 0 then -9 else nI (dg (aN A 1) h c (h - j))) ∧ ((v.2.2.1 = 1 ∧ okS A h c j) ∨ (v.2.2.1 = 0 ∧ ¬ okS A h c j)) ∧ v.2.2.2.1 = nI (h - j) - 1 ∧ FR 16 S v.2.2.2.2 ∧ (∀ k, h - j ≤ k → k < h → zI v.2.2.2.2 16 0 (3 * x + k) = nI (dg (aN A 1) h c k)) ∧ (∀ i, (i < 3 * x ∨ 3 * x + h ≤ i) → zI v.2.2.2.2 16 0 i = zI S 16 0 i)) h
    (v := (nI c, (-9 : Int32), (1 : Int32), nI h - 1, S)) (by omega) ⟨by show nI c = nI (c / (aN A 1) ^ 0); rw [Nat.pow_zero, Nat.div_one], rfl, Or.inl ⟨rfl, fun k a b => by omega⟩, rfl, FR.rf, fun k a b => by omega, fun i _ => rfl⟩ (fun j v hj hI => ?_) (fun v hI => ?_)
  · obtain ⟨r, e1, f1, q1, q2, q3⟩ := key
    refine ⟨r.1, r.2, ?_, f1, q1, q2, ?_⟩
    · unfold f_X1_walkOut
      refine (o_b e1).trans ?_
      have hb : b01 r.1 := by rcases q3 with ⟨z, -⟩ | ⟨z, -⟩; exact Or.inr z; exact Or.inl z
      rw [if_pos (zb1 hb)]
    · have e : okS A h c h ↔ vld A h c := ⟨fun z k hk => z k (by omega) hk, fun z k _ hk => z k hk⟩
      rw [e] at q3
      exact q3
  · obtain ⟨v1, v2, v3, v4, T⟩ := v
    obtain ⟨i1, i2, i3, i4, i5, i6, i7⟩ := hI
    replace i1 : v1 = nI (c / (aN A 1) ^ j) := i1
    replace i2 : v2 = if j = 0 then -9 else nI (dg (aN A 1) h c (h - j)) := i2
    replace i3 : (v3 = 1 ∧ okS A h c j) ∨ (v3 = 0 ∧ ¬ okS A h c j) := i3
    replace i4 : v4 = nI (h - j) - 1 := i4
    replace i5 : FR 16 S T := i5
    have hT := (kG_RC (Or.inr (Or.inr rfl)) hR i5).1
    have hd : dg (aN A 1) h c (h - j - 1) = c / (aN A 1) ^ j % aN A 1 := by
      unfold dg
      rw [show h - 1 - (h - j - 1) = j by omega]
    have hdl := dg_lt (n := aN A 1) (h := h) (c := c) (k := h - j - 1) hn1
    have hcl : c / (aN A 1) ^ j ≤ c := Nat.div_le_self _ _
    have e4 : v4 = nI (h - j - 1) := by
      rw [i4, show (1 : Int32) = nI 1 from rfl, nI_sub (by omega)]
    have e10 : zI T 10 0 0 = nI (aN A 1) := hT.nT hA
    have hP : okS A h c (j + 1) ↔ (j = 0 ∨ aD A (dg (aN A 1) h c (h - j - 1)) (dg (aN A 1) h c (h - j)) ≤ 1) ∧ okS A h c j := by
      constructor
      · intro z
        refine ⟨?_, fun k a b => z k (by omega) b⟩
        by_cases e : j = 0
        · left; exact e
        · right
          have := z (h - j - 1) (by omega) (by omega)
          rw [show h - j - 1 + 1 = h - j by omega] at this
          exact this
      · rintro ⟨z1, z2⟩ k a b
        by_cases e : k = h - j - 1
        · rcases z1 with z1 | z1
          · omega
          · rw [e, show h - j - 1 + 1 = h - j by omega]; exact z1
        · exact z2 k (by omega) b
    have fin : ∀ can : Int32, ((can = 1 ∧ okS A h c (j + 1)) ∨ (can = 0 ∧ ¬ okS A h c (j + 1))) → ∃ v', (some (Sum.inl (nI (c / (aN A 1) ^ (j + 1)), nI (dg (aN A 1) h c (h - j - 1)), can, nI (h - j - 1) + (-1), zsI T 16 0 (3 * x + (h - j - 1)) (nI (dg (aN A 1) h c (h - j - 1))))) : Option ((Int32 × Int32 × Int32 × Int32 × ZH) ⊕ (Int32 × ZH))) = some (.inl v') ∧ (v'.1 = nI (c / (aN A 1) ^ (j + 1)) ∧ (v'.2.1 = if j + 1 = 0 then -9 else nI (dg (aN A 1) h c (h - (j + 1)))) ∧ ((v'.2.2.1 = 1 ∧ okS A h c (j + 1)) ∨ (v'.2.2.1 = 0 ∧ ¬ okS A h c (j + 1))) ∧ v'.2.2.2.1 = nI (h - (j + 1)) - 1 ∧ FR 16 S v'.2.2.2.2 ∧ (∀ k, h - (j + 1) ≤ k → k < h → zI v'.2.2.2.2 16 0 (3 * x + k) = nI (dg (aN A 1) h c k)) ∧ (∀ i, (i < 3 * x ∨ 3 * x + h ≤ i) → zI v'.2.2.2.2 16 0 i = zI S 16 0 i)) := by
      intro can hcan
      refine ⟨_, rfl, rfl, ?_, hcan, ?_, i5.tr FR.sI, fun k a b => ?_, fun i hi => ?_⟩
      · rw [if_neg (by omega), show h - (j + 1) = h - j - 1 by omega]
      · show nI (h - j - 1) + (-1) = _
        rw [← Int32.sub_eq_add_neg, show h - (j + 1) = h - j - 1 by omega]
      · show zI (zsI T 16 0 (3 * x + (h - j - 1)) _) 16 0 (3 * x + k) = _
        rw [zI_sI]
        by_cases e : k = h - j - 1
        · rw [e, if_pos ⟨rfl, rfl⟩]
        · rw [if_neg (by omega)]; exact i6 k (by omega) b
      · show zI (zsI T 16 0 (3 * x + (h - j - 1)) _) 16 0 i = _
        rw [zI_sI, if_neg (by omega)]; exact i7 i hi
    unfold b_X1_walkOut_15
    dsimp only
    rw [e4, if_neg (nI_nneg (by omega))]
    rw [show (zR T 1 0 0) = some 0 from hT.ref 1 0 rfl, Option.bind_some, e10, if_neg p1, Option.bind_some, e10, if_neg p2, i1, nI_mod (by omega) (by omega), ← hd]
    unfold j_X1_walkOut_44
    rw [show (zR T 1 0 0) = some 0 from hT.ref 1 0 rfl, Option.bind_some, e10, if_neg p1, Option.bind_some, e10, if_neg p2, nI_div (by omega) (by omega), Nat.div_div_eq_div_mul, ← Nat.pow_succ]
    unfold j_X1_walkOut_70
    rw [show (nI x * 3 + nI (h - j - 1)) = nI (3 * x + (h - j - 1)) by rw [show (3 : Int32) = nI 3 from rfl, nI_mul, nI_add, Nat.mul_comm]]
    rw [show (zR T 1 0 3) = some 0 from hT.ref 1 3 rfl, Option.bind_some, zst_b (by exact hT.len 16 6 rfl) (by omega) (by decide)]
    have hT2 := (kG_RC (Or.inr (Or.inr rfl)) hT (FR.sI (i := 0) (j := 3 * x + (h - j - 1)) (v := nI (dg (aN A 1) h c (h - j - 1))))).1
    rcases i3 with ⟨c1, c2⟩ | ⟨c1, c2⟩
    · rw [c1, if_neg (by decide)]
      by_cases ej : j = 0
      · rw [i2, if_pos ej, if_pos rfl]
        exact fin 1 (Or.inl ⟨rfl, hP.mpr ⟨Or.inl ej, c2⟩⟩)
      · have hdl2 := dg_lt (n := aN A 1) (h := h) (c := c) (k := h - j) hn1
        rw [i2, if_neg ej, if_neg (nI_n9 (by omega)), show (zR (zsI T 16 0 (3 * x + (h - j - 1)) (nI (dg (aN A 1) h c (h - j - 1)))) 1 0 0) = some 0 from hT2.ref 1 0 rfl, Option.bind_some]
        rcases isStep_eq hA hT2 hdl hdl2 with ⟨s1, s2⟩ | ⟨s1, s2⟩
        · rw [s2, Option.bind_some, if_neg (by decide)]
          exact fin 1 (Or.inl ⟨rfl, hP.mpr ⟨Or.inr s1, c2⟩⟩)
        · rw [s2, Option.bind_some, if_pos rfl]
          exact fin 0 (Or.inr ⟨rfl, fun z => by rcases (hP.mp z).1 with y | y; exact ej y; exact s1 y⟩)
    · rw [c1, if_pos rfl]
      exact fin 0 (Or.inr ⟨rfl, fun z => c2 (hP.mp z).2⟩)
  · obtain ⟨v1, v2, v3, v4, T⟩ := v
    obtain ⟨i1, i2, i3, i4, i5, i6, i7⟩ := hI
    replace i4 : v4 = nI (h - h) - 1 := i4
    refine ⟨(v3, T), ?_, i5, fun k hk => i6 k (by omega) hk, i7, i3⟩
    unfold b_X1_walkOut_15
    dsimp only
    rw [i4, Nat.sub_self, if_pos (by decide)]
/-! kinds of walks -/
def kn : Option NN → Nat
  | none => 24
  | some p => 8 * p.1 + p.2
def knc (A : ZA) (h c : Nat) : Nat := kn (kdc A h c)
def T14 (A : ZA) (S : ZH) : Prop := ∀ s, s < 8 → zI S 14 0 s = nI (thA A s)
theorem kd_none {th w : Nat → Nat} : ∀ {h : Nat}, kd th w h = none → ∀ t, t < h → ¬ 0 < th (w t)
  | 0, _, t, ht => by omega
  | h + 1, e, t, ht => by
    have e' : kup th (kd th w h) h (w h) = none := e
    cases q : kd th w h with
    | some p => rw [q] at e'; cases e'
    | none =>
      rw [q] at e'
      by_cases z : t = h
      · intro y
        rw [z] at y
        unfold kup at e'
        rw [if_pos y] at e'; cases e'
      · exact kd_none q t (by omega)
theorem kd_first {th w : Nat → Nat} : ∀ {h : Nat} {p : NN}, kd th w h = some p → ∀ t, t < p.1 → ¬ 0 < th (w t)
  | 0, p, e, t, ht => by cases e
  | h + 1, p, e, t, ht => by
    have e' : kup th (kd th w h) h (w h) = some p := e
    cases q : kd th w h with
    | some r =>
      rw [q] at e'
      have e2 : r = p := by simpa [kup] using e'
      rw [e2] at q
      exact kd_first q t ht
    | none =>
      have hp := (kd_in e).1
      exact kd_none q t (by omega)
theorem streetOf_eq {A : ZA} {S : ZH} (hR : RC A S) {x k : Nat} (hx : 3 * x + k < 6) : f_X1_streetOf 0 (nI x) (nI k) S = some (zI S 16 0 (3 * x + k)) := by
  unfold f_X1_streetOf
  rw [show (nI x * 3 + nI k) = nI (3 * x + k) by rw [show (3 : Int32) = nI 3 from rfl, nI_mul, nI_add, Nat.mul_comm]]
  refine (o_b (hR.ref 1 3 rfl)).trans ?_
  exact (o_b (zld_at (hR.len 16 6 rfl) hx (by decide))).trans rfl
theorem kindWalked_eq {A : ZA} {S : ZH} (hA : AIn A) (hR : RC A S) (h14 : T14 A S) {c h : Nat} (hh : h ≤ 3) (hw : ∀ k, k < h → zI S 16 0 k = nI (dg (aN A 1) h c k)) : f_X1_kindWalked 0 (nI h) S = some (nI (knc A h c)) := by
  have hn := hA.c1.2
  have hn1 := hA.c1p
  have st : ∀ t, t < h → ∀ g : Int32 → Int32 → Option (Int32 ⊕ (Unit ⊕ Int32)), ((f_X1_streetOf 0 0 (nI t) S).bind fun q1 => ((zR S 1 0 1)).bind fun a2 => (zld S 14 a2 q1).bind (g q1)) = g (nI (dg (aN A 1) h c t)) (nI (thA A (dg (aN A 1) h c t))) := by
    intro t ht g
    have hdl := dg_lt (n := aN A 1) (h := h) (c := c) (k := t) hn1
    have e := streetOf_eq hR (x := 0) (k := t) (by omega)
    rw [Nat.mul_zero, Nat.zero_add, hw t ht] at e
    refine (o_b e).trans ?_
    refine (o_b (hR.ref 1 1 rfl)).trans ?_
    exact (o_b (zld_at (hR.len 14 8 rfl) (by omega) (by decide))).trans (by rw [h14 _ (by omega)])
  unfold f_X1_kindWalked
  cases q : kdc A h c with
  | none =>
    have hz := kd_none q
    refine (o_b (z_none (n := h) (by omega) (fun t ht => ?_) ?_)).trans ?_
    · unfold b_X1_kindWalked_2
      rw [if_neg (by rw [nI_leI (by omega) (by omega)]; omega)]
      refine (st t ht (fun q1 v3 => if v3 ≤ 0 then some (Sum.inl (nI t + 1)) else some (Sum.inr (Sum.inr (nI t * 8 + q1))))).trans ?_
      rw [show thA A (dg (aN A 1) h c t) = 0 by have := hz t ht; omega, if_pos (by decide), nI_1]
    · unfold b_X1_kindWalked_2
      rw [if_pos (nI_le (Nat.le_refl _) (by omega))]
    · unfold knc
      rw [q]; rfl
  | some p =>
    obtain ⟨k1, k2, k3⟩ := kd_in q
    have hz := kd_first q
    refine (o_b (z_for0 (x := Sum.inr (nI (8 * p.1 + p.2))) (fun j => nI j) p.1 rfl (by omega) (fun t ht => ?_) ?_)).trans ?_
    · unfold b_X1_kindWalked_2
      rw [if_neg (by rw [nI_leI (by omega) (by omega)]; omega)]
      refine (st t (by omega) (fun q1 v3 => if v3 ≤ 0 then some (Sum.inl (nI t + 1)) else some (Sum.inr (Sum.inr (nI t * 8 + q1))))).trans ?_
      rw [show thA A (dg (aN A 1) h c t) = 0 by have := hz t ht; omega, if_pos (by decide), nI_1]
    · have h40 := thA_le hA p.2
      unfold b_X1_kindWalked_2
      rw [if_neg (by rw [nI_leI (by omega) (by omega)]; omega)]
      have e := streetOf_eq hR (x := 0) (k := p.1) (by omega)
      rw [Nat.mul_zero, Nat.zero_add, hw p.1 k1, ← k2] at e
      have hdl : p.2 < aN A 1 := by rw [k2]; exact dg_lt hn1
      refine (o_b e).trans ?_
      refine (o_b (hR.ref 1 1 rfl)).trans ?_
      refine (o_b (zld_at (hR.len 14 8 rfl) (by omega) (by decide))).trans ?_
      rw [h14 _ (by omega), if_neg (nI_pz k3 (by omega)).1, show (8 : Int32) = nI 8 from rfl, nI_mul, nI_add, Nat.mul_comm]
    · unfold knc
      rw [q]; rfl
/-! what the class keeps while it lays gangs -/
def CS (A : ZA) (S0 S : ZH) : Prop := RC A S ∧ frM S0 S ∧ T14 A S
theorem CS.fr {A : ZA} {S0 S S' : ZH} {k0 : Nat} (hk : k0 = 15 ∨ k0 = 16) (h : CS A S0 S) (f : FR k0 S S') : CS A S0 S' := by
  obtain ⟨r, m⟩ := kG_RC (Or.inr hk) h.1 f
  refine ⟨r, h.2.1.tr m, fun s hs => ?_⟩
  rw [(f.1 14 (by omega)).2.2.1]
  exact h.2.2 s hs
theorem CS.h21 {A : ZA} {S0 S S' : ZH} (h : CS A S0 S) (r : RC A S') (f : H21 S S') : CS A S0 S' := by
  refine ⟨r, h.2.1.tr f.fr, fun s hs => ?_⟩
  rw [(f 14 (by omega) (by omega)).2.2.1]
  exact h.2.2 s hs
/-- the least walk of each kind, among the first N -/
def FW (A : ZA) (h N : Nat) (S : ZH) : Prop := ∀ k, k < 25 → ∃ f, zI S 15 0 k = nI f ∧ (f = 999 ∨ (f < N ∧ vld A h f ∧ knc A h f = k)) ∧ ∀ c, c < N → vld A h c → knc A h c = k → f ≤ c
theorem kn_lt {A : ZA} (hA : AIn A) {h c : Nat} (hh : h ≤ 3) : knc A h c < 25 := by
  have hn := hA.c1.2
  unfold knc
  cases q : kdc A h c with
  | none => show 24 < 25; omega
  | some p =>
    obtain ⟨k1, k2, k3⟩ := kd_in q
    have hdl : p.2 < aN A 1 := by rw [k2]; exact dg_lt hA.c1p
    show 8 * p.1 + p.2 < 25
    omega
theorem fill15_eq {A : ZA} {S0 S : ZH} (h : CS A S0 S) : ∃ S1, f_J7_fill_53178_15 (zR S 1 0 2) 999 S = some S1 ∧ CS A S0 S1 ∧ ∀ k, k < 25 → zI S1 15 0 k = nI 999 := by
  have e25 : zL S 15 0 = 25 := h.1.len 15 25 rfl
  unfold f_J7_fill_53178_15
  rw [h.1.ref 1 2 rfl, Option.bind_some, e25]
  have key := z_inv0 (b := b_J7_fill_53178_15_5 0 999 (nI 25)) (X := fun T => FR 15 S T ∧ ∀ k, k < 25 → zI T 15 0 k = nI 999) (fun j v => v.1 = nI j ∧ FR 15 S v.2 ∧ ∀ k, k < j → zI v.2 15 0 k = nI 999) 25 (v := ((0 : Int32), S)) (by omega) ⟨rfl, FR.rf, fun k hk => by omega⟩ (fun j v hj hI => ?_) (fun v hI => ?_)
  · obtain ⟨S1, e1, f1, d1⟩ := key
    exact ⟨S1, (o_b e1).trans rfl, h.fr (Or.inl rfl) f1, d1⟩
  · obtain ⟨v1, T⟩ := v
    obtain ⟨i1, i2, i3⟩ := hI
    replace i1 : v1 = nI j := i1
    replace i2 : FR 15 S T := i2
    subst i1
    refine ⟨(nI (j + 1), zsI T 15 0 j 999), ?_, rfl, i2.tr FR.sI, fun k hk => ?_⟩
    · unfold b_J7_fill_53178_15_5
      dsimp only
      rw [if_neg (by rw [nI_leI (by omega) (by omega)]; omega), zst_b (m := 25) (by rw [i2.all.2.1]; exact e25) hj (by decide), nI_1]
    · show zI (zsI T 15 0 j 999) 15 0 k = _
      rw [zI_sI]
      by_cases e : k = j
      · rw [if_pos ⟨rfl, e⟩]; rfl
      · rw [if_neg (fun z => e z.2)]; exact i3 k (by omega)
  · obtain ⟨v1, T⟩ := v
    obtain ⟨i1, i2, i3⟩ := hI
    replace i1 : v1 = nI 25 := i1
    refine ⟨T, ?_, i2, i3⟩
    unfold b_J7_fill_53178_15_5
    dsimp only
    rw [i1, if_pos (nI_le (Nat.le_refl _) (by omega))]
theorem pow_512 {n h : Nat} (hn : n ≤ 8) (hh : h ≤ 3) : n ^ h ≤ 512 := by
  have h1 : n ^ h ≤ 8 ^ h := Nat.pow_le_pow_left hn h
  have h2 : 8 ^ h ≤ 8 ^ 3 := Nat.pow_le_pow_right (by decide) hh
  omega
theorem findFirst_eq {A : ZA} {S0 S : ZH} (hA : AIn A) (h : CS A S0 S) {H : Nat} (hh : H ≤ 3) : ∃ S1, f_X1_findFirstWalks 0 (nI H) S = some S1 ∧ CS A S0 S1 ∧ FW A H ((aN A 1) ^ H) S1 := by
  have hn := hA.c1.2
  obtain ⟨S1, e1, c1, d1⟩ := fill15_eq h
  have h512 := pow_512 hn hh
  have hx : z_iter zFU (b_X1_findFirstWalks_14 0 (nI H) S1) ((1 : Int32), (0 : Int32)) = some (nI ((aN A 1) ^ H)) := by
    refine z_for0 (fun j => (nI ((aN A 1) ^ j), nI j)) H (by rw [Nat.pow_zero]; rfl) (by omega) (fun j hj => ?_) ?_
    · unfold b_X1_findFirstWalks_14
      dsimp only
      rw [if_neg (by rw [nI_leI (by omega) (by omega)]; omega), show (zR S1 1 0 0) = some 0 from c1.1.ref 1 0 rfl, Option.bind_some, c1.1.nT hA, nI_mul, nI_1, Nat.pow_succ]
    · unfold b_X1_findFirstWalks_14
      dsimp only
      rw [if_pos (nI_le (Nat.le_refl _) (by omega))]
  have key := z_inv0 (b := b_X1_findFirstWalks_37 0 (nI H) (nI ((aN A 1) ^ H))) (X := fun T => CS A S0 T ∧ FW A H ((aN A 1) ^ H) T) (fun c v => v.1 = nI c ∧ CS A S0 v.2 ∧ FW A H c v.2) ((aN A 1) ^ H) (v := ((0 : Int32), S1)) (by omega) ⟨rfl, c1, fun k hk => ⟨999, d1 k hk, Or.inl rfl, fun c hc => by omega⟩⟩ (fun c v hc hI => ?_) (fun v hI => ?_)
  · obtain ⟨T, e2, c2, d2⟩ := key
    refine ⟨T, ?_, c2, d2⟩
    unfold f_X1_findFirstWalks
    refine (o_b e1).trans ?_
    refine (o_b hx).trans ?_
    exact (o_b e2).trans rfl
  · obtain ⟨v1, T⟩ := v
    obtain ⟨i1, i2, i3⟩ := hI
    replace i1 : v1 = nI c := i1
    replace i2 : CS A S0 T := i2
    replace i3 : FW A H c T := i3
    subst i1
    obtain ⟨w, T2, e2, f2, d2, -, g2⟩ := walkOut_eq hA i2.1 (x := 0) (c := c) (h := H) (by omega) hh (by omega)
    have c2 := i2.fr (Or.inr rfl) f2
    have fw2 : FW A H c T2 := by
      intro k hk
      obtain ⟨f, a1, a2, a3⟩ := i3 k hk
      exact ⟨f, by rw [(f2.1 15 (by omega)).2.2.1]; exact a1, a2, a3⟩
    have hd : (fun (y : Int32) => f_X1_walkOut 0 y (nI c) (nI H) T) 0 = some (w, T2) := e2
    unfold b_X1_findFirstWalks_37
    dsimp only
    rw [if_neg (by rw [nI_leI (by omega) (by omega)]; omega)]
    rcases g2 with ⟨g3, g4⟩ | ⟨g3, g4⟩
    · have ek := kindWalked_eq hA c2.1 c2.2.2 hh (c := c) (fun k hk => by have := d2 k hk; rw [Nat.mul_zero, Nat.zero_add] at this; exact this)
      have hk := kn_lt hA (h := H) (c := c) hh
      obtain ⟨f, a1, a2, a3⟩ := fw2 _ hk
      have hf : f ≤ 999 := by rcases a2 with a2 | ⟨a2, -⟩ <;> omega
      have emin : f_J9_min_7cf53 (nI f) (nI c) T2 = some (nI (min f c)) := by
        unfold f_J9_min_7cf53
        by_cases z : f ≤ c
        · rw [show min f c = f by omega]
          by_cases y : f < c
          · first
            | rw [if_pos (nI_le z (by omega))]
            | rw [if_neg (by rw [Int32.lt_iff_toInt_lt, nI_toInt (by omega), nI_toInt (by omega)]; omega)]
          · have : f = c := by omega
            rw [this]; split <;> rfl
        · rw [show min f c = c by omega]
          first
          | rw [if_neg (by rw [nI_leI (by omega) (by omega)]; omega)]
          | rw [if_pos (by rw [Int32.lt_iff_toInt_lt, nI_toInt (by omega), nI_toInt (by omega)]; omega)]
      refine ⟨(nI (c + 1), zsI T2 15 0 (knc A H c) (nI (min f c))), ?_, rfl, c2.fr (Or.inl rfl) FR.sI, fun k hk2 => ?_⟩
      · refine (o_b hd).trans ?_
        rw [g3, if_neg (show ¬ (1 : Int32) = 0 by decide)]
        refine (o_b ek).trans ?_
        refine (o_b (c2.1.ref 1 2 rfl)).trans ?_
        refine (o_b (zld_at (c2.1.len 15 25 rfl) hk (by decide))).trans ?_
        rw [a1]
        refine (o_b emin).trans ?_
        refine (o_b (c2.1.ref 1 2 rfl)).trans ?_
        rw [zst_b (by exact c2.1.len 15 25 rfl) hk (by decide), nI_1]
      · by_cases e : k = knc A H c
        · refine ⟨min f c, ?_, ?_, fun c' hc' hv he => ?_⟩
          · show zI (zsI T2 15 0 (knc A H c) (nI (min f c))) 15 0 k = _
            rw [zI_sI, if_pos ⟨rfl, e⟩]
          · by_cases z : f ≤ c
            · rw [show min f c = f by omega]
              rcases a2 with a2 | ⟨a2, a4, a5⟩
              · left; exact a2
              · right; exact ⟨by omega, a4, a5.trans e.symm⟩
            · rw [show min f c = c by omega]
              right; exact ⟨by omega, g4, e.symm⟩
          · by_cases y : c' = c
            · omega
            · have := a3 c' (by omega) hv (he.trans e)
              omega
        · obtain ⟨f', b1, b2, b3⟩ := fw2 k hk2
          refine ⟨f', ?_, ?_, fun c' hc' hv he => ?_⟩
          · show zI (zsI T2 15 0 (knc A H c) (nI (min f c))) 15 0 k = _
            rw [zI_sI, if_neg (fun z => e z.2)]; exact b1
          · rcases b2 with b2 | ⟨b2, b4⟩
            · left; exact b2
            · right; exact ⟨by omega, b4⟩
          · by_cases y : c' = c
            · rw [y] at he; exact absurd he.symm e
            · exact b3 c' (by omega) hv he
    · refine ⟨(nI (c + 1), T2), ?_, rfl, c2, fun k hk => ?_⟩
      · refine (o_b hd).trans ?_
        rw [g3, if_pos rfl, nI_1]
      · obtain ⟨f, a1, a2, a3⟩ := fw2 k hk
        refine ⟨f, a1, ?_, fun c' hc' hv he => ?_⟩
        · rcases a2 with a2 | ⟨a2, a4⟩
          · left; exact a2
          · right; exact ⟨by omega, a4⟩
        · by_cases e : c' = c
          · rw [e] at hv; exact absurd hv g4
          · exact a3 c' (by omega) hv he
  · obtain ⟨v1, T⟩ := v
    obtain ⟨i1, i2, i3⟩ := hI
    replace i1 : v1 = nI ((aN A 1) ^ H) := i1
    refine ⟨T, ?_, i2, i3⟩
    unfold b_X1_findFirstWalks_37
    dsimp only
    rw [i1, if_pos (nI_le (Nat.le_refl _) (by omega))]
