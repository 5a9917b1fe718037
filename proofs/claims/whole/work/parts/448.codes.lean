/-! ===== walks as numbers; the class's gangs ===== -/
theorem gw_pos {w : Nat → Int32} {I : Nat} (hI : 1 ≤ I) : ∀ (c a b : Nat), a ≠ b → gwN w I c a b ≠ 0
  | 0, a, b, h => by
    show gw0 w I a b ≠ 0
    unfold gw0
    rw [if_neg h]
    split <;> omega
  | c + 1, a, b, h => by
    show fwS (gwN w I c) c a b ≠ 0
    rw [fwS_at]
    have i0 := gw_pos hI c a b h (w := w)
    by_cases e : gwN w I c a c + gwN w I c c b < gwN w I c a b
    · rw [if_pos e]
      by_cases q : a = c
      · have := gw_pos hI c c b (fun z => h (q.trans z)) (w := w)
        omega
      · have := gw_pos hI c a c q (w := w)
        omega
    · rw [if_neg e]; exact i0
theorem aD_gw {A : ZA} {n : Nat} (h8 : n = 8) (a b : Nat) : aD A a b = gwN (A.2 29) 100 n a b := by
  subst h8
  show fwN (A.2 29) 8 a b = _
  rw [gw_100]
theorem aD_TRI (A : ZA) : TRI (aD A) := by
  obtain ⟨n, h8⟩ : ∃ n, n = 8 := ⟨_, rfl⟩
  refine ⟨fun a => ?_, fun a b h => ?_, fun a b c hb => ?_⟩
  · rw [aD_gw h8]; exact gw_self n
  · rw [aD_gw h8]; exact gw_pos (by omega) n a b h
  · rw [aD_gw h8, aD_gw h8, aD_gw h8]; exact gw_tri n b a c (by omega)
theorem wk1 {w : Nat → Int32} {a b : Nat} : ∀ {d : Nat}, d ≤ 1 → Wk w d a b → a = b ∨ w (8 * a + b) ≠ 0
  | 0, _, h => Or.inl h
  | 1, _, h => by
    obtain ⟨c, h1, h2, h3, h4⟩ := h
    have e : a = c := h2
    rw [← e] at h4
    exact Or.inr h4
  | d + 2, h, _ => by omega
theorem aD_le1 {A : ZA} {a b : Nat} (ha : a < 8) : aD A a b ≤ 1 ↔ (a = b ∨ A.2 29 (8 * a + b) ≠ 0) := by
  obtain ⟨n, h8⟩ : ∃ n, n = 8 := ⟨_, rfl⟩
  rw [aD_gw h8]
  constructor
  · intro h
    have hm := gw_min (w := A.2 29) n a b
    have h2 : gwN (A.2 29) 999 n a b ≤ 1 := by omega
    have := gw_wk n a b (by omega) ha (show gwN (A.2 29) 999 n a b < 999 by omega)
    exact wk1 h2 this
  · intro h
    refine gw_edge (fun hne => ?_) n
    rcases h with e | e
    · exact absurd e hne
    · exact e
/-- a walk's street at a step, out of its number -/
def dg (n h c k : Nat) : Nat := c / n ^ (h - 1 - k) % n
theorem dg_lt {n h c k : Nat} (hn : 1 ≤ n) : dg n h c k < n := Nat.mod_lt _ (by omega)
def enc (n : Nat) (w : Nat → Nat) : Nat → Nat
  | 0 => 0
  | h + 1 => enc n w h * n + w h
theorem enc_lt {n : Nat} {w : Nat → Nat} (hw : ∀ k, w k < n) : ∀ h, enc n w h < n ^ h
  | 0 => by show 0 < n ^ 0; simp
  | h + 1 => by
    have ih := enc_lt hw h
    have h1 := hw h
    show enc n w h * n + w h < n ^ (h + 1)
    rw [Nat.pow_succ]
    have : (enc n w h + 1) * n ≤ n ^ h * n := Nat.mul_le_mul_right n ih
    rw [Nat.add_mul, Nat.one_mul] at this
    omega
theorem enc_dg {n : Nat} {w : Nat → Nat} (hw : ∀ k, w k < n) : ∀ h k, k < h → dg n h (enc n w h) k = w k
  | 0, k, h => by omega
  | h + 1, k, hk => by
    have h1 := hw h
    show (enc n w h * n + w h) / n ^ (h + 1 - 1 - k) % n = w k
    by_cases e : k = h
    · subst e
      rw [show k + 1 - 1 - k = 0 by omega, Nat.pow_zero, Nat.div_one, Nat.mul_comm, Nat.mul_add_mod, Nat.mod_eq_of_lt h1]
    · have ih := enc_dg hw h k (by omega)
      rw [show h + 1 - 1 - k = 1 + (h - 1 - k) by omega, Nat.pow_add, Nat.pow_one, ← Nat.div_div_eq_div_mul]
      have e2 : (enc n w h * n + w h) / n = enc n w h := by
        rw [Nat.mul_comm, Nat.mul_add_div (by omega), Nat.div_eq_of_lt h1, Nat.add_zero]
      rw [e2]
      exact ih
/-- there are ways for it -/
def vld (A : ZA) (h c : Nat) : Prop := ∀ k, k + 1 < h → aD A (dg (aN A 1) h c k) (dg (aN A 1) h c (k + 1)) ≤ 1
/-- men who may truly be taken, in a street -/
def thJ (A : ZA) (j s : Nat) : Nat := cntN (fun i => decide (aP A i = nI s) && decide (mB A i (pC (cvT A i (aN A 15))) = 1)) j
def thA (A : ZA) (s : Nat) : Nat := thJ A (aN A 5) s
theorem thA_le {A : ZA} (hA : AIn A) (s : Nat) : thA A s ≤ 40 := Nat.le_trans (cntN_le _ _) hA.c5.2
def kdc (A : ZA) (h c : Nat) : Option NN := kd (thA A) (dg (aN A 1) h c) h
/-! the class: only one row changes -/
theorem kG_RC {A : ZA} {S S' : ZH} {k0 : Nat} (hk : k0 = 14 ∨ k0 = 15 ∨ k0 = 16) (h : RC A S) (f : FR k0 S S') : RC A S' ∧ frM S S' := by
  obtain ⟨eN, eL, eR⟩ := f.all
  have kl : ∀ (l : List Nat), l.contains k0 = false → ∀ k, kIn l k = true → eqK S S' k := fun l a k hk => f.1 k (kNe a k hk)
  refine ⟨⟨⟨fun q hq => by rw [eR]; exact h.sc.1 q hq, fun q hq => by rw [eL]; exact h.sc.2 q hq⟩, ?_, ?_, ?_, ?_, ?_, ?_, ?_, ?_, ?_⟩, fun k hk' => f.1 k (fun e => ?_)⟩
  · rcases hk with rfl | rfl | rfl <;> exact h.town.k (kl _ rfl)
  · rcases hk with rfl | rfl | rfl <;> exact h.men.k (kl _ rfl)
  · rcases hk with rfl | rfl | rfl <;> exact h.paps.k (kl _ rfl)
  · rcases hk with rfl | rfl | rfl <;> exact h.acts.k (kl _ rfl)
  · rcases hk with rfl | rfl | rfl <;> exact h.tks.k (kl _ rfl)
  · rcases hk with rfl | rfl | rfl <;> exact h.shps.k (kl _ rfl)
  · rcases hk with rfl | rfl | rfl <;> exact h.tix.k (kl _ rfl)
  · rcases hk with rfl | rfl | rfl <;> exact h.misc.k (kl _ rfl)
  · rcases hk with rfl | rfl | rfl <;> exact h.bud.k (f.1 3 (by decide)) (f.1 17 (by decide)) f.2.2.2.2.1 f.2.2.2.2.2
  · rcases hk with rfl | rfl | rfl
    · exact nM 14 rfl (e ▸ hk')
    · exact nM 15 rfl (e ▸ hk')
    · exact nM 16 rfl (e ▸ hk')
theorem RC.nT {A : ZA} {S : ZH} (hA : AIn A) (h : RC A S) : zI S 10 0 0 = nI (aN A 1) := h.town.1.trans hA.c1.1
theorem isStep_eq {A : ZA} {S : ZH} (hA : AIn A) (h : RC A S) {a b : Nat} (ha : a < aN A 1) (hb : b < aN A 1) : (aD A a b ≤ 1 ∧ f_X10_isStep 0 (nI a) (nI b) S = some 1) ∨ (¬ aD A a b ≤ 1 ∧ f_X10_isStep 0 (nI a) (nI b) S = some 0) := by
  have hn := hA.c1.2
  rw [aD_le1 (show a < 8 by omega)]
  unfold f_X10_isStep
  by_cases e : a = b
  · left
    exact ⟨Or.inl e, by rw [e, if_pos rfl]⟩
  · rw [if_neg (fun z => e (nI_inj (by omega) (by omega) z)), cellE]
    have ez : zld S 20 0 (nI (8 * a + b)) = some (A.2 29 (8 * a + b)) := by rw [zld_at (h.len 20 64 rfl) (by omega) (by decide), h.town.2.1 _ (by omega)]
    by_cases q : A.2 29 (8 * a + b) = 0
    · right
      refine ⟨fun z => by rcases z with z | z; exact e z; exact z q, ?_⟩
      refine (o_b (a := nI (8 * a + b)) rfl).trans ?_
      refine (o_b (h.ref 10 1 rfl)).trans ?_
      refine (o_b ez).trans ?_
      rw [if_pos q]
    · left
      refine ⟨Or.inr q, ?_⟩
      refine (o_b (a := nI (8 * a + b)) rfl).trans ?_
      refine (o_b (h.ref 10 1 rfl)).trans ?_
      refine (o_b ez).trans ?_
      rw [if_neg q]
