/-! ===== met and laid ===== -/
theorem least_p {P : Nat → Prop} : ∀ n, (∃ i, i < n ∧ P i) → ∃ i, i < n ∧ P i ∧ ∀ j, j < i → ¬ P j
  | 0, ⟨i, h, _⟩ => absurd h (Nat.not_lt_zero _)
  | n + 1, ⟨i, h, e⟩ => by
    by_cases q : ∃ i, i < n ∧ P i
    · obtain ⟨a, b, c, d⟩ := least_p n q
      exact ⟨a, by omega, c, d⟩
    · exact ⟨i, h, e, fun j hj hp => q ⟨j, by omega, hp⟩⟩
theorem kd_congr {th w w' : Nat → Nat} : ∀ h, (∀ t, t < h → w t = w' t) → kd th w h = kd th w' h
  | 0, _ => rfl
  | h + 1, e => by
    show kup th (kd th w h) h (w h) = kup th (kd th w' h) h (w' h)
    rw [kd_congr h (fun t ht => e t (by omega)), e h (by omega)]
/-- the reference's number of all walks, and the walks' own -/
def cA (A : ZA) (g h C : Nat) : Nat := if g = 1 then C else C / (aN A 1) ^ h
def cB (A : ZA) (g h C : Nat) : Nat := if g = 1 then 0 else C % (aN A 1) ^ h
theorem wk_0 {A : ZA} {g h C k : Nat} (hg : g = 1 ∨ g = 2) (hk : k < h) : wk (aN A 1) g h C k = dg (aN A 1) h (cA A g h C) k := by
  unfold wk dg cA
  rcases hg with rfl | rfl
  · rw [if_pos rfl, Nat.one_mul]
  · rw [if_neg (by omega), Nat.div_div_eq_div_mul, ← Nat.pow_add, show h + (h - 1 - k) = 2 * h - 1 - k by omega]
theorem wk_1 {A : ZA} {h C k : Nat} (hk : k < h) : wk (aN A 1) 2 h C (h + k) = dg (aN A 1) h (cB A 2 h C) k := by
  unfold wk dg cB
  rw [if_neg (by omega), show 2 * h - 1 - (h + k) = h - 1 - k by omega]
  have e1 : (aN A 1) ^ h = (aN A 1) ^ (h - 1 - k) * (aN A 1) ^ (k + 1) := by rw [← Nat.pow_add, show h - 1 - k + (k + 1) = h by omega]
  rw [e1, Nat.mod_mul_right_div_self, Nat.mod_mod_of_dvd _ ⟨(aN A 1) ^ k, by rw [Nat.pow_succ, Nat.mul_comm]⟩]
theorem vW_iff {A : ZA} {g h C : Nat} (hg : g = 1 ∨ g = 2) (h1 : 1 ≤ h) : vW A g h C ↔ (vld A h (cA A g h C) ∧ (g = 2 → vld A h (cB A g h C))) := by
  constructor
  · intro hv
    refine ⟨fun k hk => ?_, fun e k hk => ?_⟩
    · have := hv (k + 1) (by rcases hg with rfl | rfl <;> omega)
      rw [Nat.mod_eq_of_lt hk] at this
      rcases this with z | z
      · omega
      · rw [Nat.add_sub_cancel, wk_0 hg (by omega), wk_0 hg hk] at z; exact z
    · subst e
      have := hv (h + (k + 1)) (by omega)
      rw [Nat.add_mod_left, Nat.mod_eq_of_lt hk] at this
      rcases this with z | z
      · omega
      · rw [show h + (k + 1) - 1 = h + k by omega, wk_1 (by omega), wk_1 hk] at z; exact z
  · rintro ⟨a, b⟩ k hk
    by_cases q : k < h
    · by_cases z : k = 0
      · left; rw [z]; exact Nat.zero_mod h
      · right
        rw [wk_0 hg (by omega), wk_0 hg q]
        have := a (k - 1) (by omega)
        rw [show k - 1 + 1 = k by omega] at this
        exact this
    · have e : g = 2 := by
        rcases hg with rfl | rfl
        · omega
        · rfl
      subst e
      obtain ⟨k', rfl⟩ : ∃ k', k = h + k' := ⟨k - h, by omega⟩
      by_cases z : k' = 0
      · left; rw [z, Nat.add_zero]; exact Nat.mod_self h
      · right
        have := b rfl (k' - 1) (by omega)
        rw [show k' - 1 + 1 = k' by omega] at this
        rw [show h + k' - 1 = h + (k' - 1) by omega, wk_1 (by omega), wk_1 (by omega)]
        exact this
theorem LO_lv {A : ZA} {g h C : Nat} (hg : g = 1 ∨ g = 2) : lval (thA A) (LO A g h C h) = lv A (kdc A h (cA A g h C)) (if g = 1 then none else kdc A h (cB A g h C)) := by
  unfold LO lv
  have e0 : kd (thA A) (w0 A g h C) h = kdc A h (cA A g h C) := kd_congr h (fun t ht => wk_0 hg ht)
  rw [e0]
  rcases hg with rfl | rfl
  · rw [if_pos rfl, if_pos rfl]
  · rw [if_neg (by omega), if_neg (by omega)]
    rw [show kd (thA A) (w1 A 2 h C) h = kdc A h (cB A 2 h C) from kd_congr h (fun t ht => wk_1 ht)]
def OKC (A : ZA) (g h C : Nat) : Prop := vW A g h C ∧ lval (thA A) (LO A g h C h) = MOA A g
theorem LO_le {A : ZA} (hA : AIn A) {g h C : Nat} (hg : g = 1 ∨ g = 2) (hh : h ≤ 3) : lval (thA A) (LO A g h C h) ≤ MOA A g := by
  rw [LO_lv hg]
  have k0 := kdc_ok hA (c := cA A g h C) hh
  rcases hg with rfl | rfl
  · rw [if_pos rfl]; exact lval1_le (fun p hp => (k0 p hp).2)
  · rw [if_neg (by omega)]
    have k1 := kdc_ok hA (c := cB A 2 h C) hh
    exact lval2_le (fun p hp => (k0 p hp).2) (fun p hp => (k1 p hp).2)
theorem OKC_P {A : ZA} (hA : AIn A) {g h C : Nat} (hg : g = 1 ∨ g = 2) (h1 : 1 ≤ h) (hC : C < (aN A 1) ^ (g * h)) (ho : OKC A g h C) : OKP A h g (cA A g h C) (cB A g h C) := by
  have hn1 := hA.c1p
  obtain ⟨a, b⟩ := ho
  rw [vW_iff hg h1] at a
  rw [LO_lv hg] at b
  have hpos : 0 < (aN A 1) ^ h := Nat.pow_pos (by omega)
  rcases hg with rfl | rfl
  · refine ⟨?_, a.1, ?_⟩
    · show cA A 1 h C < _
      unfold cA
      rw [if_pos rfl]
      rw [Nat.one_mul] at hC
      exact hC
    · rw [if_pos rfl]
      rw [if_pos rfl] at b
      exact ⟨by unfold cB; rw [if_pos rfl], b⟩
  · refine ⟨?_, a.1, ?_⟩
    · unfold cA
      rw [if_neg (by omega)]
      rw [Nat.two_mul, Nat.pow_add] at hC
      exact Nat.div_lt_of_lt_mul hC
    · rw [if_neg (by omega)]
      rw [if_neg (by omega)] at b
      refine ⟨?_, a.2 rfl, b⟩
      unfold cB
      rw [if_neg (by omega)]
      exact Nat.mod_lt _ hpos
/-- the number of two walks -/
def cOf (A : ZA) (g h c0 c1 : Nat) : Nat := if g = 1 then c0 else c0 * (aN A 1) ^ h + c1
theorem OKP_C {A : ZA} (hA : AIn A) {g h c0 c1 : Nat} (hg : g = 1 ∨ g = 2) (h1 : 1 ≤ h) (hp : OKP A h g c0 c1) : cOf A g h c0 c1 < (aN A 1) ^ (g * h) ∧ OKC A g h (cOf A g h c0 c1) ∧ cA A g h (cOf A g h c0 c1) = c0 ∧ cB A g h (cOf A g h c0 c1) = c1 := by
  have hn1 := hA.c1p
  have hpos : 0 < (aN A 1) ^ h := Nat.pow_pos (by omega)
  obtain ⟨a, b, c⟩ := hp
  rcases hg with rfl | rfl
  · rw [if_pos rfl] at c
    have e0 : cA A 1 h (cOf A 1 h c0 c1) = c0 := rfl
    have e1 : cB A 1 h (cOf A 1 h c0 c1) = c1 := c.1.symm
    refine ⟨by rw [Nat.one_mul]; exact a, ⟨?_, ?_⟩, e0, e1⟩
    · rw [vW_iff (Or.inl rfl) h1, e0]; exact ⟨b, fun z => by omega⟩
    · rw [LO_lv (Or.inl rfl), e0, if_pos rfl]; exact c.2
  · rw [if_neg (by omega)] at c
    have eo : cOf A 2 h c0 c1 = c0 * (aN A 1) ^ h + c1 := rfl
    have e0 : cA A 2 h (cOf A 2 h c0 c1) = c0 := by
      show (c0 * (aN A 1) ^ h + c1) / (aN A 1) ^ h = c0
      rw [Nat.mul_comm, Nat.mul_add_div hpos, Nat.div_eq_of_lt c.1, Nat.add_zero]
    have e1 : cB A 2 h (cOf A 2 h c0 c1) = c1 := by
      show (c0 * (aN A 1) ^ h + c1) % (aN A 1) ^ h = c1
      rw [Nat.mul_comm, Nat.mul_add_mod, Nat.mod_eq_of_lt c.1]
    refine ⟨?_, ⟨?_, ?_⟩, e0, e1⟩
    · rw [eo, Nat.two_mul, Nat.pow_add]
      have : (c0 + 1) * (aN A 1) ^ h ≤ (aN A 1) ^ h * (aN A 1) ^ h := Nat.mul_le_mul_right _ a
      rw [Nat.add_mul, Nat.one_mul] at this
      have := c.1
      omega
    · rw [vW_iff (Or.inr rfl) h1, e0, e1]; exact ⟨b, fun _ => c.2.1⟩
    · rw [LO_lv (Or.inr rfl), e0, e1, if_neg (by omega)]; exact c.2.2
theorem OKP_ex {A : ZA} (hA : AIn A) {g h : Nat} (hg : g = 1 ∨ g = 2) (h1 : 1 ≤ h) : ∃ c0 c1, OKP A h g c0 c1 := by
  have hn1 := hA.c1p
  have hT := aD_TRI A
  have cst : ∀ s, s < aN A 1 → ∃ c, c < (aN A 1) ^ h ∧ vld A h c ∧ kdc A h c = kd (thA A) (fun _ => s) h := by
    intro s hs
    have ed := enc_dg (n := aN A 1) (w := fun _ => s) (fun _ => hs) h
    refine ⟨enc (aN A 1) (fun _ => s) h, enc_lt (fun _ => hs) h, fun k hk => ?_, kd_congr h (fun t ht => ed t ht)⟩
    rw [ed k (by omega), ed (k + 1) hk, hT.self]
    omega
  rcases hg with rfl | rfl
  · obtain ⟨s, hs, e⟩ := MO_at1 (th := thA A) (D := aD A) (n := aN A 1) (h := h) hn1 h1
    obtain ⟨c, a, b, d⟩ := cst s hs
    refine ⟨c, 0, a, b, ?_⟩
    rw [if_pos rfl, d]
    exact ⟨rfl, e⟩
  · obtain ⟨s, s', hs, hs', e⟩ := MO_at2 (th := thA A) (D := aD A) (n := aN A 1) (h := h) hn1 h1
    obtain ⟨c, a, b, d⟩ := cst s hs
    obtain ⟨c', a', b', d'⟩ := cst s' hs'
    refine ⟨c, c', a, b, ?_⟩
    rw [if_neg (by omega), d, d']
    exact ⟨a', b', e⟩
/-- the first of all -/
theorem best_ex {A : ZA} (hA : AIn A) {g h : Nat} (hg : g = 1 ∨ g = 2) (h1 : 1 ≤ h) : ∃ C, C < (aN A 1) ^ (g * h) ∧ OKC A g h C ∧ (∀ C', C' < C → ¬ OKC A g h C') ∧ OKP A h g (cA A g h C) (cB A g h C) ∧ ∀ c0 c1, OKP A h g c0 c1 → cA A g h C ≤ c0 ∧ (c0 = cA A g h C → cB A g h C ≤ c1) := by
  obtain ⟨c0, c1, hp⟩ := OKP_ex hA hg h1
  have q := OKP_C hA hg h1 hp
  obtain ⟨C, hC, ho, hl⟩ := least_p (P := fun C => OKC A g h C) _ ⟨_, q.1, q.2.1⟩
  refine ⟨C, hC, ho, hl, OKC_P hA hg h1 hC ho, fun c0 c1 hp => ?_⟩
  obtain ⟨a, b, e0, e1⟩ := OKP_C hA hg h1 hp
  have hle : C ≤ cOf A g h c0 c1 := by
    by_cases z : C ≤ cOf A g h c0 c1
    · exact z
    · exact absurd b (hl _ (by omega))
  have hn1 := hA.c1p
  have hpos : 0 < (aN A 1) ^ h := Nat.pow_pos (by omega)
  rcases hg with rfl | rfl
  · refine ⟨hle, fun _ => Nat.zero_le _⟩
  · have d1 : cA A 2 h C ≤ cA A 2 h (cOf A 2 h c0 c1) := Nat.div_le_div_right hle
    rw [e0] at d1
    refine ⟨d1, fun e => ?_⟩
    have f1 : C = (aN A 1) ^ h * cA A 2 h C + cB A 2 h C := (Nat.div_add_mod C ((aN A 1) ^ h)).symm
    have f2 : cOf A 2 h c0 c1 = (aN A 1) ^ h * c0 + c1 := by
      show c0 * (aN A 1) ^ h + c1 = _
      rw [Nat.mul_comm]
    rw [f2, e] at hle
    omega
