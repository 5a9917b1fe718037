/-! ===== a row from the kit's texts to paste: drawers ===== -/
/-! ===== drawers: more things than places ===== -/
theorem fb_holes : ∀ (m n : Nat) (f : Nat → Nat), (∀ i, i < n → f i < m) → (∀ i j, i < j → j < n → f i ≠ f j) → n ≤ m := by
  intro m
  induction m with
  | zero =>
    intro n f h1 _
    rcases Nat.eq_zero_or_pos n with h | h
    · omega
    · exact absurd (h1 0 h) (Nat.not_lt_zero _)
  | succ m ih =>
    intro n f h1 h2
    by_cases hx : ∃ i, i < n ∧ f i = m
    · obtain ⟨a, ha, hfa⟩ := hx
      have hg := ih (n - 1) (fun i => if i < a then f i else f (i + 1)) (by
        intro i hi
        by_cases q : i < a
        · simp only [if_pos q]
          have b1 := h1 i (by omega)
          have b2 := h2 i a q ha
          omega
        · simp only [if_neg q]
          have b1 := h1 (i + 1) (by omega)
          have b2 := h2 a (i + 1) (by omega) (by omega)
          omega) (by
        intro i j hij hj
        by_cases q : i < a
        · by_cases r : j < a
          · simp only [if_pos q, if_pos r]
            exact h2 i j hij (by omega)
          · simp only [if_pos q, if_neg r]
            exact h2 i (j + 1) (by omega) (by omega)
        · have r : ¬ j < a := by omega
          simp only [if_neg q, if_neg r]
          exact h2 (i + 1) (j + 1) (by omega) (by omega))
      omega
    · have hg := ih n f (fun i hi => by
        have b1 := h1 i hi
        have b2 : f i ≠ m := fun e => hx ⟨i, hi, e⟩
        omega) h2
      omega
/-! ===== FAR: what both reckon ===== -/
def gw0 (w : Nat → Int32) (I a b : Nat) : Nat := if a = b then 0 else if w (8 * a + b) = 0 then I else 1
def gwN (w : Nat → Int32) (I : Nat) : Nat → Nat → Nat → Nat
  | 0 => gw0 w I
  | c + 1 => fwS (gwN w I c) c
theorem fwS_at (M : Nat → Nat → Nat) (c a b : Nat) : fwS M c a b = if M a c + M c b < M a b then M a c + M c b else M a b := rfl
theorem gw_100 {w : Nat → Int32} : ∀ c, fwN w c = gwN w 100 c
  | 0 => rfl
  | c + 1 => by
    show fwS (fwN w c) c = fwS (gwN w 100 c) c
    rw [gw_100 c]
theorem gw_le {w : Nat → Int32} {I : Nat} (c a b : Nat) : gwN w I (c + 1) a b ≤ gwN w I c a b := by
  show fwS (gwN w I c) c a b ≤ _
  rw [fwS_at]
  split <;> omega
theorem gw_le0 {w : Nat → Int32} {I a b : Nat} (hI : 1 ≤ I) : ∀ c, gwN w I c a b ≤ I
  | 0 => by
    show gw0 w I a b ≤ I
    unfold gw0
    split
    · omega
    · split <;> omega
  | c + 1 => Nat.le_trans (gw_le c a b) (gw_le0 hI c)
theorem gw_self {w : Nat → Int32} {I a : Nat} : ∀ c, gwN w I c a a = 0
  | 0 => by
    show gw0 w I a a = 0
    unfold gw0
    rw [if_pos rfl]
  | c + 1 => by
    have := gw_le (w := w) (I := I) c a a
    rw [gw_self c] at this
    omega
theorem gw_col {w : Nat → Int32} {I c a : Nat} : gwN w I (c + 1) a c = gwN w I c a c ∧ gwN w I (c + 1) c a = gwN w I c c a := by
  have h := gw_self (w := w) (I := I) (a := c) c
  refine ⟨?_, ?_⟩
  · show fwS (gwN w I c) c a c = _
    rw [fwS_at, h]
    split <;> omega
  · show fwS (gwN w I c) c c a = _
    rw [fwS_at, h]
    split <;> omega
theorem gw_tri {w : Nat → Int32} {I : Nat} : ∀ (c j a b : Nat), j < c → gwN w I c a b ≤ gwN w I c a j + gwN w I c j b
  | 0, _, _, _, h => by omega
  | c + 1, j, a, b, h => by
    by_cases e : j = c
    · subst e
      rw [gw_col.1, gw_col.2]
      show fwS (gwN w I j) j a b ≤ _
      rw [fwS_at]
      split <;> omega
    · have hj : j < c := by omega
      have t1 := gw_tri c j a b hj (w := w) (I := I)
      have t2 := gw_tri c j c b hj (w := w) (I := I)
      have t3 := gw_tri c j a c hj (w := w) (I := I)
      have e1 : gwN w I (c + 1) a b = fwS (gwN w I c) c a b := rfl
      have e2 : gwN w I (c + 1) a j = fwS (gwN w I c) c a j := rfl
      have e3 : gwN w I (c + 1) j b = fwS (gwN w I c) c j b := rfl
      rw [e1, e2, e3, fwS_at, fwS_at, fwS_at]
      split <;> split <;> split <;> omega
theorem gw_min {w : Nat → Int32} : ∀ (c a b : Nat), gwN w 100 c a b = min (gwN w 999 c a b) 100
  | 0, a, b => by
    show gw0 w 100 a b = min (gw0 w 999 a b) 100
    unfold gw0
    split
    · omega
    · split <;> omega
  | c + 1, a, b => by
    show fwS (gwN w 100 c) c a b = min (fwS (gwN w 999 c) c a b) 100
    rw [fwS_at, fwS_at, gw_min c, gw_min c, gw_min c]
    split <;> split <;> omega
/-- a walk of so many ways -/
def Wk (w : Nat → Int32) : Nat → Nat → Nat → Prop
  | 0, a, b => a = b
  | d + 1, a, b => ∃ c, c < 8 ∧ Wk w d a c ∧ c ≠ b ∧ w (8 * c + b) ≠ 0
theorem Wk.tr {w : Nat → Int32} {d a c : Nat} (h : Wk w d a c) : ∀ {e b : Nat}, Wk w e c b → Wk w (d + e) a b
  | 0, b, h2 => by
    have e : c = b := h2
    rw [← e]; exact h
  | e + 1, b, h2 => by
    obtain ⟨q, h3, h4, h5, h6⟩ := h2
    exact ⟨q, h3, h.tr h4, h5, h6⟩
theorem gw_wk {w : Nat → Int32} : ∀ (c a b : Nat), c ≤ 8 → a < 8 → gwN w 999 c a b < 999 → Wk w (gwN w 999 c a b) a b
  | 0, a, b, _, ha, h => by
    have h' : gw0 w 999 a b < 999 := h
    show Wk w (gw0 w 999 a b) a b
    unfold gw0 at h' ⊢
    by_cases e : a = b
    · rw [if_pos e]; exact e
    · rw [if_neg e] at h' ⊢
      by_cases e2 : w (8 * a + b) = 0
      · rw [if_pos e2] at h'; omega
      · rw [if_neg e2]; exact ⟨a, ha, rfl, e, e2⟩
  | c + 1, a, b, hc, ha, h => by
    have h' : fwS (gwN w 999 c) c a b < 999 := h
    show Wk w (fwS (gwN w 999 c) c a b) a b
    rw [fwS_at] at h' ⊢
    by_cases e : gwN w 999 c a c + gwN w 999 c c b < gwN w 999 c a b
    · rw [if_pos e] at h' ⊢
      exact (gw_wk c a c (by omega) ha (by omega)).tr (gw_wk c c b (by omega) (by omega) (by omega))
    · rw [if_neg e] at h' ⊢
      exact gw_wk c a b (by omega) ha h'
theorem gw_edge {w : Nat → Int32} {I c b : Nat} (h : c ≠ b → w (8 * c + b) ≠ 0) : ∀ k, gwN w I k c b ≤ 1
  | 0 => by
    show gw0 w I c b ≤ 1
    unfold gw0
    by_cases e : c = b
    · rw [if_pos e]; omega
    · rw [if_neg e, if_neg (h e)]; omega
  | k + 1 => Nat.le_trans (gw_le k c b) (gw_edge h k)
theorem wk_gw {w : Nat → Int32} {I a : Nat} : ∀ {d b : Nat}, Wk w d a b → gwN w I 8 a b ≤ d
  | 0, b, h => by
    have e : a = b := h
    rw [← e, gw_self]; omega
  | d + 1, b, h => by
    obtain ⟨c, h1, h2, h3, h4⟩ := h
    have := wk_gw (I := I) h2
    have t := gw_tri (w := w) (I := I) 8 c a b h1
    have e := gw_edge (I := I) (fun _ => h4) 8
    omega
theorem wk_all {w : Nat → Int32} {a : Nat} {D : Nat → Nat} (hle : ∀ d b, Wk w d a b → D b ≤ d) (hst : ∀ c b, c < 8 → w (8 * c + b) ≠ 0 → D b ≤ D c + 1) : ∀ {d b : Nat}, Wk w d a b → b < 8 → D b = d → ∀ j, j ≤ d → ∃ v, v < 8 ∧ D v = j
  | 0, b, h, hb, e, j, hj => ⟨b, hb, by omega⟩
  | d + 1, b, h, hb, e, j, hj => by
    by_cases q : j = d + 1
    · exact ⟨b, hb, by omega⟩
    · obtain ⟨c, h1, h2, h3, h4⟩ := h
      have l := hle d c h2
      have t := hst c b h1 h4
      exact wk_all hle hst h2 h1 (by omega) j (by omega)
theorem wk_7 {D : Nat → Nat} {d : Nat} (hw : ∀ j, j ≤ d → ∃ v, v < 8 ∧ D v = j) : d ≤ 7 := by
  have hw2 : ∀ j, ∃ v, j ≤ d → v < 8 ∧ D v = j := fun j => by
    by_cases q : j ≤ d
    · obtain ⟨v, h1, h2⟩ := hw j q
      exact ⟨v, fun _ => ⟨h1, h2⟩⟩
    · exact ⟨0, fun z => absurd z q⟩
  obtain ⟨f, hf⟩ := Classical.skolem.mp hw2
  have := fb_holes 8 (d + 1) f (fun i hi => (hf i (by omega)).1) (fun i j hij hj e => by
    have e1 := (hf i (by omega)).2
    have e2 := (hf j (by omega)).2
    rw [e] at e1
    omega)
  omega
theorem gw_7 {w : Nat → Int32} {n : Nat} (h8 : n = 8) {a b : Nat} (ha : a < 8) (hb : b < 8) (h : gwN w 999 n a b < 999) : gwN w 999 n a b ≤ 7 := by
  have h1 := gw_wk n a b (by omega) ha h
  refine wk_7 (D := fun v => gwN w 999 n a v) (wk_all (w := w) (a := a) (fun d b hw => ?_) (fun c b hc he => ?_) h1 hb rfl)
  · subst h8; exact wk_gw hw
  · have t := gw_tri (w := w) (I := 999) n c a b (by omega)
    have e1 := gw_edge (w := w) (I := 999) (c := c) (b := b) (fun _ => he) n
    show gwN w 999 n a b ≤ gwN w 999 n a c + 1
    omega
theorem gw_cDn {w : Nat → Int32} {n : Nat} (h8 : n = 8) {a b : Nat} (ha : a < 8) (hb : b < 8) : cD (fwN w n a b) = nI (gwN w 999 n a b) := by
  rw [gw_100, gw_min]
  have h1 := gw_le0 (w := w) (I := 999) (a := a) (b := b) (by omega) n
  have h7 := gw_7 (w := w) h8 ha hb
  generalize gwN w 999 n a b = D at *
  unfold cD
  by_cases e : D < 999
  · have := h7 e
    rw [if_pos (by omega), show min D 100 = D by omega]
  · rw [if_neg (by omega), show D = 999 by omega]
theorem gw_cD {w : Nat → Int32} {a b : Nat} (ha : a < 8) (hb : b < 8) : cD (fwN w 8 a b) = nI (gwN w 999 8 a b) := gw_cDn rfl ha hb
theorem aD_le {A : ZA} (a b : Nat) : aD A a b ≤ 100 := by
  unfold aD
  rw [gw_100]
  exact gw_le0 (by omega) 8
theorem gw_iso {w : Nat → Int32} {n a c : Nat} (hw : ∀ a b, a < 8 → b < 8 → (n ≤ a ∨ n ≤ b ∨ a = b) → w (8 * a + b) = 0) (ha : a < 8) (hc : c < 8) (hn : n ≤ c) (hac : a ≠ c) : ∀ k, k ≤ 8 → gwN w 999 k a c = 999 ∧ gwN w 999 k c a = 999
  | 0, _ => by
    show gw0 w 999 a c = 999 ∧ gw0 w 999 c a = 999
    unfold gw0
    rw [if_neg hac, if_neg (show ¬ c = a from fun z => hac z.symm), if_pos (hw a c ha hc (by omega)), if_pos (hw c a hc ha (by omega))]
    exact ⟨rfl, rfl⟩
  | k + 1, hk => by
    obtain ⟨i1, i2⟩ := gw_iso hw ha hc hn hac k (by omega)
    show fwS (gwN w 999 k) k a c = 999 ∧ fwS (gwN w 999 k) k c a = 999
    rw [fwS_at, fwS_at, i1, i2]
    by_cases e : k = c
    · subst e
      rw [i1, i2]
      refine ⟨?_, ?_⟩ <;> split <;> omega
    · obtain ⟨j1, j2⟩ := gw_iso hw (show k < 8 by omega) hc hn e k (by omega)
      rw [j1, j2]
      refine ⟨?_, ?_⟩ <;> split <;> omega
theorem gw_n {w : Nat → Int32} {n a b : Nat} (hw : ∀ a b, a < 8 → b < 8 → (n ≤ a ∨ n ≤ b ∨ a = b) → w (8 * a + b) = 0) (ha : a < n) (hb : b < n) (hn : n ≤ 8) : ∀ d, n + d ≤ 8 → gwN w 999 (n + d) a b = gwN w 999 n a b
  | 0, _ => rfl
  | d + 1, h => by
    rw [← gw_n hw ha hb hn d (by omega)]
    show fwS (gwN w 999 (n + d)) (n + d) a b = _
    have i := gw_iso hw (a := a) (c := n + d) (by omega) (by omega) (by omega) (by omega) (n + d) (by omega)
    have l := gw_le0 (w := w) (I := 999) (a := a) (b := b) (by omega) (n + d)
    rw [fwS_at, i.1]
    split <;> omega
/-! matrices in a row -/
def MX (k0 : Nat) (S : ZH) (f : Nat → Nat → Nat) (n : Nat) : Prop := ∀ a b, a < n → b < n → zI S k0 0 (8 * a + b) = nI (f a b)
theorem MX.put {k0 : Nat} {S : ZH} {f g : Nat → Nat → Nat} {n a b x : Nat} (h : MX k0 S f n) (hn : n ≤ 8) (ha : a < n) (hb : b < n) (hg : ∀ a' b', a' < n → b' < n → g a' b' = if a' = a ∧ b' = b then x else f a' b') : MX k0 (zsI S k0 0 (8 * a + b) (nI x)) g n := by
  intro a' b' ha' hb'
  rw [zI_sI, hg a' b' ha' hb']
  by_cases e : a' = a ∧ b' = b
  · rw [if_pos ⟨rfl, by rw [e.1, e.2]⟩, if_pos e]
  · rw [if_neg (fun z => e (by omega)), if_neg e]; exact h a' b' ha' hb'
theorem MX.cg {k0 : Nat} {S : ZH} {f g : Nat → Nat → Nat} {n : Nat} (h : MX k0 S f n) (hg : ∀ a b, a < n → b < n → g a b = f a b) : MX k0 S g n := fun a b ha hb => by rw [h a b ha hb, hg a b ha hb]
def mxG (F F' : Nat → Nat → Nat) (a b : Nat) : Nat → Nat → Nat := fun a' b' => if a' < a ∨ (a' = a ∧ b' < b) then F' a' b' else F a' b'
theorem mxG_step {F F' : Nat → Nat → Nat} {a b a' b' : Nat} : mxG F F' a (b + 1) a' b' = if a' = a ∧ b' = b then F' a b else mxG F F' a b a' b' := by
  unfold mxG
  by_cases e : a' = a ∧ b' = b
  · rw [if_pos e, if_pos (by omega), e.1, e.2]
  · rw [if_neg e]
    by_cases e2 : a' < a ∨ (a' = a ∧ b' < b)
    · rw [if_pos e2, if_pos (by omega)]
    · rw [if_neg e2, if_neg (by omega)]
theorem mxG_row {F F' : Nat → Nat → Nat} {a n a' b' : Nat} (hb : b' < n) : mxG F F' (a + 1) 0 a' b' = mxG F F' a n a' b' := by
  unfold mxG
  by_cases e2 : a' < a ∨ (a' = a ∧ b' < n)
  · rw [if_pos e2, if_pos (by omega)]
  · rw [if_neg e2, if_neg (by omega)]
theorem nI_div {a b : Nat} (ha : a < 2 ^ 31) (hb : b < 2 ^ 31) : nI a / nI b = nI (a / b) := by
  have h1 : a / b ≤ a := Nat.div_le_self _ _
  rw [i_eq, Int32.toInt_div, nI_toInt ha, nI_toInt hb, nI_toInt (by omega), ← Int.ofNat_tdiv]
  generalize a / b = q at h1 ⊢
  exact Int.bmod_eq_of_le (by omega) (by omega)
theorem nI_mod {a b : Nat} (ha : a < 2 ^ 31) (hb : b < 2 ^ 31) : nI a - nI a / nI b * nI b = nI (a % b) := by
  rw [nI_div ha hb, nI_mul, nI_sub (Nat.div_mul_le_self _ _)]
  congr 1
  rw [Nat.mul_comm]
  have := Nat.div_add_mod a b
  omega
