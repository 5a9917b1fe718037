/-! ===== gangs: where a walk first comes to men, and what two of them meet ===== -/
abbrev NN := Nat × Nat
/-- news of the first keeps a gang from meeting at the second -/
abbrev blk (D : Nat → Nat → Nat) (p q : NN) : Prop := p.2 = q.2 ∨ (p.1 ≠ q.1 ∧ D p.2 q.2 ≤ q.1 - p.1)
def FL (D : Nat → Nat → Nat) (k0 k1 : Option NN) : List NN :=
  match k0, k1 with
  | none, none => []
  | some p, none => [p]
  | none, some q => [q]
  | some p, some q => if p.1 ≤ q.1 then (if blk D p q then [p] else [p, q]) else (if blk D q p then [q] else [q, p])
theorem FL_ss {D : Nat → Nat → Nat} {p q : NN} : FL D (some p) (some q) = if p.1 ≤ q.1 then (if blk D p q then [p] else [p, q]) else (if blk D q p then [q] else [q, p]) := rfl
def evt (th : Nat → Nat) (D : Nat → Nat → Nat) (t s : Nat) (L : List NN) : List NN := if 0 < th s ∧ ∀ p, p ∈ L → ¬ blk D p (t, s) then L ++ [(t, s)] else L
def kup (th : Nat → Nat) (k : Option NN) (t s : Nat) : Option NN :=
  match k with
  | some p => some p
  | none => if 0 < th s then some (t, s) else none
def lval (th : Nat → Nat) : List NN → Nat
  | [] => 0
  | p :: l => th p.2 + lval th l
def TRI (D : Nat → Nat → Nat) : Prop := (∀ a, D a a = 0) ∧ (∀ a b, a ≠ b → D a b ≠ 0) ∧ (∀ a b c, b < 8 → D a c ≤ D a b + D b c)
theorem TRI.self {D : Nat → Nat → Nat} (h : TRI D) : ∀ a, D a a = 0 := h.1
theorem TRI.pos {D : Nat → Nat → Nat} (h : TRI D) : ∀ a b, a ≠ b → D a b ≠ 0 := h.2.1
theorem TRI.tri {D : Nat → Nat → Nat} (h : TRI D) : ∀ a b c, b < 8 → D a c ≤ D a b + D b c := h.2.2
theorem evt_skip {th : Nat → Nat} {D : Nat → Nat → Nat} {t s : Nat} {L : List NN} (p : NN) (hp : p ∈ L) (hb : blk D p (t, s)) : evt th D t s L = L := by
  unfold evt
  rw [if_neg]
  rintro ⟨-, h⟩
  exact h p hp hb
theorem evt_none {th : Nat → Nat} {D : Nat → Nat → Nat} {t s : Nat} {L : List NN} (h : ¬ 0 < th s) : evt th D t s L = L := by
  unfold evt
  rw [if_neg (fun q => h q.1)]
/-- a gang that came to men before meets none any more -/
theorem evt_late {th : Nat → Nat} {D : Nat → Nat → Nat} (hD : TRI D) {t s : Nat} {p : NN} {L : List NN} (h8 : p.2 < 8) (h1 : p.1 < t) (h2 : D p.2 s ≤ t - p.1) (hL : p ∈ L ∨ ∃ q, q ∈ L ∧ q.1 ≤ p.1 ∧ blk D q p) : evt th D t s L = L := by
  rcases hL with hL | ⟨q, hq, hle, hb⟩
  · exact evt_skip p hL (Or.inr ⟨by show p.1 ≠ t; omega, h2⟩)
  · refine evt_skip q hq (Or.inr ⟨by show q.1 ≠ t; omega, ?_⟩)
    show D q.2 s ≤ t - q.1
    rcases hb with e | ⟨-, e⟩
    · rw [e]; omega
    · have := hD.tri q.2 p.2 s h8
      omega
theorem FL_mem0 {D : Nat → Nat → Nat} {p : NN} (k1 : Option NN) : p ∈ FL D (some p) k1 ∨ ∃ q, q ∈ FL D (some p) k1 ∧ q.1 ≤ p.1 ∧ blk D q p := by
  cases k1 with
  | none => left; show p ∈ [p]; simp
  | some q =>
    unfold FL
    dsimp only
    by_cases a : p.1 ≤ q.1
    · rw [if_pos a]
      by_cases b : blk D p q
      · rw [if_pos b]; left; simp
      · rw [if_neg b]; left; simp
    · rw [if_neg a]
      by_cases b : blk D q p
      · rw [if_pos b]; right; exact ⟨q, by simp, by omega, b⟩
      · rw [if_neg b]; left; simp
theorem FL_mem1 {D : Nat → Nat → Nat} {q : NN} (k0 : Option NN) : q ∈ FL D k0 (some q) ∨ ∃ p, p ∈ FL D k0 (some q) ∧ p.1 ≤ q.1 ∧ blk D p q := by
  cases k0 with
  | none => left; show q ∈ [q]; simp
  | some p =>
    unfold FL
    dsimp only
    by_cases a : p.1 ≤ q.1
    · rw [if_pos a]
      by_cases b : blk D p q
      · rw [if_pos b]; right; exact ⟨p, by simp, a, b⟩
      · rw [if_neg b]; left; simp
    · rw [if_neg a]
      by_cases b : blk D q p
      · rw [if_pos b]; left; simp
      · rw [if_neg b]; left; simp
theorem evt0 {th : Nat → Nat} {D : Nat → Nat → Nat} (hD : TRI D) {t s : Nat} {k0 k1 : Option NN} (h0 : ∀ p, k0 = some p → p.2 < 8 ∧ p.1 < t ∧ D p.2 s ≤ t - p.1) (h1 : ∀ q, k1 = some q → q.1 < t) : evt th D t s (FL D k0 k1) = FL D (kup th k0 t s) k1 := by
  cases k0 with
  | some p =>
    obtain ⟨a, b, c⟩ := h0 p rfl
    exact evt_late hD a b c (FL_mem0 k1)
  | none =>
    by_cases q : 0 < th s
    · have e : kup th none t s = some (t, s) := by unfold kup; rw [if_pos q]
      rw [e]
      cases k1 with
      | none =>
        show evt th D t s [] = [(t, s)]
        unfold evt
        rw [if_pos ⟨q, fun p hp => by cases hp⟩]; rfl
      | some r =>
        have hr := h1 r rfl
        show evt th D t s [r] = if t ≤ r.1 then (if blk D (t, s) r then [(t, s)] else [(t, s), r]) else (if blk D r (t, s) then [r] else [r, (t, s)])
        rw [if_neg (by omega)]
        by_cases b : blk D r (t, s)
        · rw [if_pos b]; exact evt_skip r (by simp) b
        · rw [if_neg b]
          unfold evt
          rw [if_pos ⟨q, fun p hp => by
            have : p = r := by simpa using hp
            rw [this]; exact b⟩]; rfl
    · have e : kup th none t s = none := by unfold kup; rw [if_neg q]
      rw [e]
      exact evt_none q
theorem evt1 {th : Nat → Nat} {D : Nat → Nat → Nat} (hD : TRI D) {t s : Nat} {k0 k1 : Option NN} (h0 : ∀ p, k0 = some p → p.1 ≤ t) (h1 : ∀ q, k1 = some q → q.2 < 8 ∧ q.1 < t ∧ D q.2 s ≤ t - q.1) : evt th D t s (FL D k0 k1) = FL D k0 (kup th k1 t s) := by
  cases k1 with
  | some p =>
    obtain ⟨a, b, c⟩ := h1 p rfl
    exact evt_late hD a b c (FL_mem1 k0)
  | none =>
    by_cases q : 0 < th s
    · have e : kup th none t s = some (t, s) := by unfold kup; rw [if_pos q]
      rw [e]
      cases k0 with
      | none =>
        show evt th D t s [] = [(t, s)]
        unfold evt
        rw [if_pos ⟨q, fun p hp => by cases hp⟩]; rfl
      | some r =>
        have hr := h0 r rfl
        show evt th D t s [r] = if r.1 ≤ t then (if blk D r (t, s) then [r] else [r, (t, s)]) else (if blk D (t, s) r then [(t, s)] else [(t, s), r])
        rw [if_pos hr]
        by_cases b : blk D r (t, s)
        · rw [if_pos b]; exact evt_skip r (by simp) b
        · rw [if_neg b]
          unfold evt
          rw [if_pos ⟨q, fun p hp => by
            have : p = r := by simpa using hp
            rw [this]; exact b⟩]; rfl
    · have e : kup th none t s = none := by unfold kup; rw [if_neg q]
      rw [e]
      cases k0 <;> exact evt_none q
/-- where a walk first comes to men, in its first t steps -/
def kd (th : Nat → Nat) (w : Nat → Nat) : Nat → Option NN
  | 0 => none
  | t + 1 => kup th (kd th w t) t (w t)
theorem kd_in {th w : Nat → Nat} : ∀ {t : Nat} {p : NN}, kd th w t = some p → p.1 < t ∧ p.2 = w p.1 ∧ 0 < th p.2
  | 0, p, h => by cases h
  | t + 1, p, h => by
    have h' : kup th (kd th w t) t (w t) = some p := h
    cases q : kd th w t with
    | some r =>
      rw [q] at h'
      have e : r = p := by simpa [kup] using h'
      have := kd_in q
      rw [← e]
      exact ⟨by omega, this.2⟩
    | none =>
      rw [q] at h'
      unfold kup at h'
      by_cases z : 0 < th (w t)
      · rw [if_pos z] at h'
        have e : (t, w t) = p := by simpa using h'
        rw [← e]
        exact ⟨by show t < t + 1; omega, rfl, z⟩
      · rw [if_neg z] at h'; cases h'
theorem walk_far {D : Nat → Nat → Nat} (hD : TRI D) {w : Nat → Nat} {h a : Nat} (h8 : ∀ k, k < h → w k < 8) (hv : ∀ k, k + 1 < h → D (w k) (w (k + 1)) ≤ 1) : ∀ d, a + d < h → D (w a) (w (a + d)) ≤ d
  | 0, _ => by show D (w a) (w a) ≤ 0; rw [hD.self]; omega
  | d + 1, hh => by
    have ih := walk_far hD h8 hv d (by omega) (a := a)
    have h1 := hv (a + d) (by omega)
    have t := hD.tri (w a) (w (a + d)) (w (a + d + 1)) (h8 _ (by omega))
    show D (w a) (w (a + d + 1)) ≤ d + 1
    omega
/-- the two walks, step by step -/
theorem meet_step {th : Nat → Nat} {D : Nat → Nat → Nat} (hD : TRI D) {w0 w1 : Nat → Nat} {h t : Nat} (ht : t < h) (a8 : ∀ k, k < h → w0 k < 8) (b8 : ∀ k, k < h → w1 k < 8) (av : ∀ k, k + 1 < h → D (w0 k) (w0 (k + 1)) ≤ 1) (bv : ∀ k, k + 1 < h → D (w1 k) (w1 (k + 1)) ≤ 1) : evt th D t (w0 t) (FL D (kd th w0 t) (kd th w1 t)) = FL D (kd th w0 (t + 1)) (kd th w1 t) ∧ evt th D t (w1 t) (FL D (kd th w0 (t + 1)) (kd th w1 t)) = FL D (kd th w0 (t + 1)) (kd th w1 (t + 1)) ∧ evt th D t (w0 t) (FL D (kd th w0 t) none) = FL D (kd th w0 (t + 1)) none := by
  have A : ∀ p, kd th w0 t = some p → p.2 < 8 ∧ p.1 < t ∧ D p.2 (w0 t) ≤ t - p.1 := by
    intro p hp
    obtain ⟨e1, e2, -⟩ := kd_in hp
    have := walk_far hD a8 av (t - p.1) (a := p.1) (by omega)
    rw [show p.1 + (t - p.1) = t by omega] at this
    rw [e2]
    exact ⟨a8 _ (by omega), e1, this⟩
  have B : ∀ p, kd th w1 t = some p → p.2 < 8 ∧ p.1 < t ∧ D p.2 (w1 t) ≤ t - p.1 := by
    intro p hp
    obtain ⟨e1, e2, -⟩ := kd_in hp
    have := walk_far hD b8 bv (t - p.1) (a := p.1) (by omega)
    rw [show p.1 + (t - p.1) = t by omega] at this
    rw [e2]
    exact ⟨b8 _ (by omega), e1, this⟩
  refine ⟨evt0 hD A (fun q hq => (B q hq).2.1), evt1 hD (fun p hp => ?_) B, evt0 hD A (fun q hq => by cases hq)⟩
  have := (kd_in hp).1
  omega
/-! the most that one gang, or two, can meet -/
def BS (th : Nat → Nat) : Nat → NN
  | 0 => (0, 0)
  | s + 1 => if (BS th s).1 < th s then (th s, (BS th s).1) else if (BS th s).2 < th s then ((BS th s).1, th s) else BS th s
theorem BS_ok (th : Nat → Nat) : ∀ n, (∀ s, s < n → th s ≤ (BS th n).1) ∧ (BS th n).2 ≤ (BS th n).1 ∧ (∀ s s', s < n → s' < n → s ≠ s' → th s + th s' ≤ (BS th n).1 + (BS th n).2) ∧ ((BS th n).1 = 0 ∨ ∃ s, s < n ∧ th s = (BS th n).1 ∧ ((BS th n).2 = 0 ∨ ∃ s', s' < n ∧ s' ≠ s ∧ th s' = (BS th n).2))
  | 0 => ⟨fun s h => by omega, Nat.le_refl _, fun s s' h => by omega, Or.inl rfl⟩
  | n + 1 => by
    obtain ⟨i1, i2, i3, i4⟩ := BS_ok th n
    have e : BS th (n + 1) = if (BS th n).1 < th n then (th n, (BS th n).1) else if (BS th n).2 < th n then ((BS th n).1, th n) else BS th n := rfl
    rw [e]
    generalize BS th n = v at i1 i2 i3 i4
    have cs : ∀ s, s < n + 1 → s < n ∨ s = n := fun s h => by omega
    by_cases a : v.1 < th n
    · rw [if_pos a]
      dsimp only
      refine ⟨fun s h => ?_, by omega, fun s s' h h' hne => ?_, Or.inr ⟨n, by omega, rfl, ?_⟩⟩
      · rcases cs s h with z | z
        · have := i1 s z; omega
        · rw [z]; exact Nat.le_refl _
      · rcases cs s h with z | z <;> rcases cs s' h' with z' | z'
        · have := i3 s s' z z' hne; omega
        · have := i1 s z; rw [z']; omega
        · have := i1 s' z'; rw [z]; omega
        · omega
      · rcases i4 with z | ⟨s, z1, z2, -⟩
        · left; exact z
        · right; exact ⟨s, by omega, by omega, z2⟩
    · rw [if_neg a]
      by_cases b : v.2 < th n
      · rw [if_pos b]
        dsimp only
        refine ⟨fun s h => ?_, by omega, fun s s' h h' hne => ?_, ?_⟩
        · rcases cs s h with z | z
          · exact i1 s z
          · rw [z]; omega
        · rcases cs s h with z | z <;> rcases cs s' h' with z' | z'
          · have := i3 s s' z z' hne; omega
          · have := i1 s z; rw [z']; omega
          · have := i1 s' z'; rw [z]; omega
          · omega
        · rcases i4 with z | ⟨s, z1, z2, -⟩
          · omega
          · right; exact ⟨s, by omega, z2, Or.inr ⟨n, by omega, by omega, rfl⟩⟩
      · rw [if_neg b]
        refine ⟨fun s h => ?_, i2, fun s s' h h' hne => ?_, ?_⟩
        · rcases cs s h with z | z
          · exact i1 s z
          · rw [z]; omega
        · rcases cs s h with z | z <;> rcases cs s' h' with z' | z'
          · exact i3 s s' z z' hne
          · have := i1 s z; rw [z']; omega
          · have := i1 s' z'; rw [z]; omega
          · omega
        · rcases i4 with z | ⟨s, z1, z2, z3⟩
          · left; exact z
          · right
            refine ⟨s, by omega, z2, ?_⟩
            rcases z3 with y | ⟨s', y1, y2, y3⟩
            · left; exact y
            · right; exact ⟨s', by omega, y2, y3⟩
/-- the most: one gang, or two -/
def MO (th : Nat → Nat) (n g : Nat) : Nat := if g = 1 then (BS th n).1 else (BS th n).1 + (BS th n).2
theorem lval1_le {th : Nat → Nat} {D : Nat → Nat → Nat} {n : Nat} {k0 : Option NN} (h0 : ∀ p, k0 = some p → p.2 < n) : lval th (FL D k0 none) ≤ MO th n 1 := by
  obtain ⟨i1, i2, i3, i4⟩ := BS_ok th n
  unfold MO
  rw [if_pos rfl]
  cases k0 with
  | none => exact Nat.zero_le _
  | some p =>
    have := i1 p.2 (h0 p rfl)
    show th p.2 + 0 ≤ _
    omega
theorem lval2_le {th : Nat → Nat} {D : Nat → Nat → Nat} {n : Nat} {k0 k1 : Option NN} (h0 : ∀ p, k0 = some p → p.2 < n) (h1 : ∀ p, k1 = some p → p.2 < n) : lval th (FL D k0 k1) ≤ MO th n 2 := by
  obtain ⟨i1, i2, i3, i4⟩ := BS_ok th n
  unfold MO
  rw [if_neg (by omega)]
  have one : ∀ p : NN, p.2 < n → lval th [p] ≤ (BS th n).1 + (BS th n).2 := by
    intro p hp
    have := i1 p.2 hp
    show th p.2 + 0 ≤ _
    omega
  have two : ∀ p q : NN, p.2 < n → q.2 < n → p.2 ≠ q.2 → lval th [p, q] ≤ (BS th n).1 + (BS th n).2 := by
    intro p q hp hq hne
    have := i3 p.2 q.2 hp hq hne
    show th p.2 + (th q.2 + 0) ≤ _
    omega
  cases k0 with
  | none =>
    cases k1 with
    | none => exact Nat.zero_le _
    | some q => exact one q (h1 q rfl)
  | some p =>
    cases k1 with
    | none => exact one p (h0 p rfl)
    | some q =>
      have a0 := h0 p rfl
      have a1 := h1 q rfl
      unfold FL
      dsimp only
      by_cases a : p.1 ≤ q.1
      · rw [if_pos a]
        by_cases b : blk D p q
        · rw [if_pos b]; exact one p a0
        · rw [if_neg b]; exact two p q a0 a1 (fun e => b (Or.inl e))
      · rw [if_neg a]
        by_cases b : blk D q p
        · rw [if_pos b]; exact one q a1
        · rw [if_neg b]; exact two q p a1 a0 (fun e => b (Or.inl e))
/-- standing still in a street -/
theorem kd_const {th : Nat → Nat} {s : Nat} (hs : 0 < th s) : ∀ t, kd th (fun _ => s) (t + 1) = some (0, s)
  | 0 => by show kup th none 0 s = _; unfold kup; rw [if_pos hs]
  | t + 1 => by show kup th (kd th (fun _ => s) (t + 1)) (t + 1) s = _; rw [kd_const hs t]; rfl
theorem kd_const0 {th : Nat → Nat} {s : Nat} (hs : ¬ 0 < th s) : ∀ t, kd th (fun _ => s) t = none
  | 0 => rfl
  | t + 1 => by show kup th (kd th (fun _ => s) t) t s = _; rw [kd_const0 hs t]; unfold kup; rw [if_neg hs]
theorem MO_at1 {th : Nat → Nat} {D : Nat → Nat → Nat} {n h : Nat} (hn : 1 ≤ n) (hh : 1 ≤ h) : ∃ s, s < n ∧ lval th (FL D (kd th (fun _ => s) h) none) = MO th n 1 := by
  obtain ⟨i1, i2, i3, i4⟩ := BS_ok th n
  obtain ⟨t, rfl⟩ : ∃ t, h = t + 1 := ⟨h - 1, by omega⟩
  unfold MO
  rw [if_pos rfl]
  by_cases z : (BS th n).1 = 0
  · have := i1 0 (by omega)
    refine ⟨0, by omega, ?_⟩
    rw [kd_const0 (by omega), z]; rfl
  · rcases i4 with y | ⟨s, y1, y2, -⟩
    · exact absurd y z
    · refine ⟨s, y1, ?_⟩
      rw [kd_const (by omega)]
      show th s + 0 = _
      omega
theorem MO_at2 {th : Nat → Nat} {D : Nat → Nat → Nat} {n h : Nat} (hn : 1 ≤ n) (hh : 1 ≤ h) : ∃ s s', s < n ∧ s' < n ∧ lval th (FL D (kd th (fun _ => s) h) (kd th (fun _ => s') h)) = MO th n 2 := by
  obtain ⟨i1, i2, i3, i4⟩ := BS_ok th n
  obtain ⟨t, rfl⟩ : ∃ t, h = t + 1 := ⟨h - 1, by omega⟩
  unfold MO
  rw [if_neg (by omega)]
  by_cases z : (BS th n).1 = 0
  · have := i1 0 (by omega)
    refine ⟨0, 0, by omega, by omega, ?_⟩
    rw [kd_const0 (by omega), z, show (BS th n).2 = 0 by omega]; rfl
  · rcases i4 with y | ⟨s, y1, y2, y3⟩
    · exact absurd y z
    · by_cases x : (BS th n).2 = 0
      · refine ⟨s, s, y1, y1, ?_⟩
        rw [kd_const (by omega), x, FL_ss, if_pos (Nat.le_refl _), if_pos (show blk D (0, s) (0, s) from Or.inl rfl)]
        show th s + 0 = _
        omega
      · rcases y3 with y3 | ⟨s', x1, x2, x3⟩
        · exact absurd y3 x
        · refine ⟨s, s', y1, x1, ?_⟩
          rw [kd_const (by omega), kd_const (by omega), FL_ss, if_pos (Nat.le_refl _), if_neg (show ¬ blk D (0, s) (0, s') by rintro (e | ⟨e, -⟩); exact x2 e.symm; exact e rfl)]
          show th s + (th s' + 0) = _
          omega
