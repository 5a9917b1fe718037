/-! ===== goTo, evaluated ===== -/
theorem nI_inj {a b : Nat} (ha : a < 2 ^ 31) (hb : b < 2 ^ 31) (e : nI a = nI b) : a = b := by rw [← nI_clamp ha, e, nI_clamp hb]
theorem zL_nw (S : ZH) (k n i : Nat) : zL (zNew S k n) k i = if i = zN S k then n else zL S k i := by
  show (if k = k ∧ i = zN S k then n else zL S k i) = _
  simp
theorem nI_lt_iff {a b : Nat} (ha : a < 2 ^ 31) (hb : b < 2 ^ 31) : (nI a < nI b) ↔ a < b := by
  rw [Int32.lt_iff_toInt_lt, nI_toInt ha, nI_toInt hb]; omega
theorem room_no {S : ZH} {i t m c : Nat} (h13 : zI S 3 i 13 = nI m) (h11 : zR S 3 i 11 = some t) (hl : zL S 17 t = c) (hm : m < c) (hc : c < 2 ^ 31) : f_X3_makeRoom i S = some S := by
  unfold f_X3_makeRoom
  rw [h11]
  show (if zI S 3 i 13 < nI (zL S 17 t) then some S else _) = _
  rw [h13, hl, if_pos ((nI_lt_iff (by omega) hc).mpr hm)]
theorem copyOf17 {S : ZH} {t c : Nat} (hl : zL S 17 t = c) (ht : t < zN S 17) (hc : 4 ≤ c ∧ c ≤ 900) (hr : zc S + 1 ≤ 600000 ∧ zs S + 2 * c ≤ 7302250) : f_J7_copyOf_59c91_17 (some t) (nI (2 * c)) S = some (some (zN S 17), zcpy (zNew S 17 (2 * c)) 17 t (zN S 17) 0 0 c) := by
  unfold f_J7_copyOf_59c91_17
  show (if ¬ nI (2 * c) = nI (zL S 17 t) then _ else none) = _
  rw [hl, if_pos (fun e => by have := nI_inj (a := 2 * c) (b := c) (by omega) (by omega) e; omega)]
  have h1 : znw S 17 (nI (2 * c)) = some (zNew S 17 (2 * c)) := by
    unfold znw zal
    rw [if_neg (by rw [Int32.lt_iff_toInt_lt, nI_toInt (by omega)]; show ¬ ((2 * c : Nat) : Int) < 0; omega), nI_clamp (by omega), if_pos (show zc S + 1 ≤ zC ∧ zs S + 2 * c ≤ zZ from hr)]
  rw [h1]
  show ((f_J9_min_7cf53 (nI (zL (zNew S 17 (2 * c)) 17 t)) (nI (2 * c)) _).bind _) = _
  have hl2 : zL (zNew S 17 (2 * c)) 17 t = c := by
    rw [zL_nw, if_neg (by omega)]; exact hl
  have hl3 : zL (zNew S 17 (2 * c)) 17 (zN S 17) = 2 * c := by
    rw [zL_nw, if_pos rfl]
  rw [hl2]
  have h2 : f_J9_min_7cf53 (nI c) (nI (2 * c)) (zNew S 17 (2 * c)) = some (nI c) := by
    unfold f_J9_min_7cf53
    rw [if_neg (by rw [nI_lt_iff (by omega) (by omega)]; omega)]
  rw [h2]
  show ((zacp _ 17 t 0 (zN S 17) 0 (nI c)).bind _) = _
  have h3 : zacp (zNew S 17 (2 * c)) 17 t 0 (zN S 17) 0 (nI c) = some (zcpy (zNew S 17 (2 * c)) 17 t (zN S 17) 0 0 c) := by
    unfold zacp
    rw [hl2, hl3, nI_clamp (by omega)]
    show (if ((0 : Int32) < 0 ∨ (0 : Int32) < 0 ∨ nI c < 0 ∨ c < 0 + c ∨ 2 * c < 0 + c) then none else some (zcpy (zNew S 17 (2 * c)) 17 t (zN S 17) 0 0 c)) = _
    rw [if_neg]
    rintro (e | e | e | e | e)
    · exact absurd e (by decide)
    · exact absurd e (by decide)
    · rw [Int32.lt_iff_toInt_lt, nI_toInt (by omega)] at e
      have : ((c : Nat) : Int) < 0 := e
      omega
    · omega
    · omega
  rw [h3]
  rfl
theorem copyOf18 {S : ZH} {t c : Nat} (hl : zL S 18 t = c) (ht : t < zN S 18) (hc : 4 ≤ c ∧ c ≤ 900) (hr : zc S + 1 ≤ 600000 ∧ zs S + 2 * c ≤ 7302250) : f_J7_copyOf_59c91_18 (some t) (nI (2 * c)) S = some (some (zN S 18), zcpy (zNew S 18 (2 * c)) 18 t (zN S 18) 0 0 c) := by
  unfold f_J7_copyOf_59c91_18
  show (if ¬ nI (2 * c) = nI (zL S 18 t) then _ else none) = _
  rw [hl, if_pos (fun e => by have := nI_inj (a := 2 * c) (b := c) (by omega) (by omega) e; omega)]
  have h1 : znw S 18 (nI (2 * c)) = some (zNew S 18 (2 * c)) := by
    unfold znw zal
    rw [if_neg (by rw [Int32.lt_iff_toInt_lt, nI_toInt (by omega)]; show ¬ ((2 * c : Nat) : Int) < 0; omega), nI_clamp (by omega), if_pos (show zc S + 1 ≤ zC ∧ zs S + 2 * c ≤ zZ from hr)]
  rw [h1]
  show ((f_J9_min_7cf53 (nI (zL (zNew S 18 (2 * c)) 18 t)) (nI (2 * c)) _).bind _) = _
  have hl2 : zL (zNew S 18 (2 * c)) 18 t = c := by
    rw [zL_nw, if_neg (by omega)]; exact hl
  have hl3 : zL (zNew S 18 (2 * c)) 18 (zN S 18) = 2 * c := by
    rw [zL_nw, if_pos rfl]
  rw [hl2]
  have h2 : f_J9_min_7cf53 (nI c) (nI (2 * c)) (zNew S 18 (2 * c)) = some (nI c) := by
    unfold f_J9_min_7cf53
    rw [if_neg (by rw [nI_lt_iff (by omega) (by omega)]; omega)]
  rw [h2]
  show ((zacp _ 18 t 0 (zN S 18) 0 (nI c)).bind _) = _
  have h3 : zacp (zNew S 18 (2 * c)) 18 t 0 (zN S 18) 0 (nI c) = some (zcpy (zNew S 18 (2 * c)) 18 t (zN S 18) 0 0 c) := by
    unfold zacp
    rw [hl2, hl3, nI_clamp (by omega)]
    show (if ((0 : Int32) < 0 ∨ (0 : Int32) < 0 ∨ nI c < 0 ∨ c < 0 + c ∨ 2 * c < 0 + c) then none else some (zcpy (zNew S 18 (2 * c)) 18 t (zN S 18) 0 0 c)) = _
    rw [if_neg]
    rintro (e | e | e | e | e)
    · exact absurd e (by decide)
    · exact absurd e (by decide)
    · rw [Int32.lt_iff_toInt_lt, nI_toInt (by omega)] at e
      have : ((c : Nat) : Int) < 0 := e
      omega
    · omega
    · omega
  rw [h3]
  rfl
def S_room (S : ZH) (i t c : Nat) : ZH := zsR (zcpy (zNew (zsR (zcpy (zNew S 17 (2 * c)) 17 t (zN S 17) 0 0 c) 3 i 11 (some (zN S 17))) 18 (2 * c)) 18 t (zN S 18) 0 0 c) 3 i 12 (some (zN S 18))
theorem eqK_cpy {S : ZH} {k k' a b sp dp n : Nat} (h : k' ≠ k) : eqK S (zcpy S k a b sp dp n) k' := ⟨rfl, rfl, funext fun i => funext fun j => by show (if k' = k ∧ i = b then _ else zI S k' i j) = _; rw [if_neg (fun e => h e.1)], rfl⟩
theorem room_k {S : ZH} {i t c : Nat} {k : Nat} (a : k ≠ 3) (b : k ≠ 17) (d : k ≠ 18) : eqK S (S_room S i t c) k := (((((eqK_new b).tr (eqK_cpy b)).tr (eqK_sR a)).tr (eqK_new d)).tr (eqK_cpy d)).tr (eqK_sR a)
theorem room_R {S : ZH} {i t c : Nat} (i' j : Nat) (hn : zN S 17 = zN S 18) : zR (S_room S i t c) 3 i' j = if i' = i ∧ (j = 11 ∨ j = 12) then some (zN S 17) else zR S 3 i' j := by
  have h1 : zR (S_room S i t c) 3 i' j = if i' = i ∧ j = 12 then some (zN S 18) else if i' = i ∧ j = 11 then some (zN S 17) else zR S 3 i' j := by
    unfold S_room
    rw [zR_sR]
    show (if _ then _ else zR (zsR (zcpy (zNew S 17 (2 * c)) 17 t (zN S 17) 0 0 c) 3 i 11 (some (zN S 17))) 3 i' j) = _
    rw [zR_sR]
    rfl
  rw [h1, hn]
  grind
theorem room_I17 {S : ZH} {i t c : Nat} (q j : Nat) (ht : t ≠ zN S 17) : zI (S_room S i t c) 17 q j = if q = zN S 17 then (if j < c then zI S 17 t j else 0) else zI S 17 q j := by
  have h1 : zI (S_room S i t c) 17 q j = if q = zN S 17 then (if 0 ≤ j ∧ j < 0 + c then (if t = zN S 17 then 0 else zI S 17 t (0 + (j - 0))) else (if zN S 17 = zN S 17 then 0 else zI S 17 q j)) else (if q = zN S 17 then 0 else zI S 17 q j) := by
    show (if 17 = 17 ∧ q = zN S 17 then (if 0 ≤ j ∧ j < 0 + c then zI (zNew S 17 (2 * c)) 17 t (0 + (j - 0)) else zI (zNew S 17 (2 * c)) 17 (zN S 17) j) else zI (zNew S 17 (2 * c)) 17 q j) = _
    rw [zI_nw, zI_nw, zI_nw]
    simp
  rw [h1]
  simp [ht]
  grind
theorem room_I18 {S : ZH} {i t c : Nat} (q j : Nat) (ht : t ≠ zN S 18) : zI (S_room S i t c) 18 q j = if q = zN S 18 then (if j < c then zI S 18 t j else 0) else zI S 18 q j := by
  have h1 : zI (S_room S i t c) 18 q j = if q = zN S 18 then (if 0 ≤ j ∧ j < 0 + c then (if t = zN S 18 then 0 else zI S 18 t (0 + (j - 0))) else (if zN S 18 = zN S 18 then 0 else zI S 18 q j)) else (if q = zN S 18 then 0 else zI S 18 q j) := by
    show (if 18 = 18 ∧ q = zN S 18 then (if 0 ≤ j ∧ j < 0 + c then zI (zNew S 18 (2 * c)) 18 t (0 + (j - 0)) else zI (zNew S 18 (2 * c)) 18 (zN S 18) j) else zI (zNew S 18 (2 * c)) 18 q j) = _
    rw [zI_nw, zI_nw, zI_nw]
    simp
  rw [h1]
  simp [ht]
  grind
theorem room_L17 {S : ZH} {i t c : Nat} (q : Nat) : zL (S_room S i t c) 17 q = if q = zN S 17 then 2 * c else zL S 17 q := by
  show zL (zNew S 17 (2 * c)) 17 q = _
  rw [zL_nw]
theorem room_L18 {S : ZH} {i t c : Nat} (q : Nat) : zL (S_room S i t c) 18 q = if q = zN S 18 then 2 * c else zL S 18 q := by
  show zL (zNew S 18 (2 * c)) 18 q = _
  rw [zL_nw]
theorem room_yes {S : ZH} {i t c : Nat} (h13 : zI S 3 i 13 = nI c) (h11 : zR S 3 i 11 = some t) (h12 : zR S 3 i 12 = some t) (hl : zL S 17 t = c) (hl' : zL S 18 t = c) (ht : t < zN S 17) (ht' : t < zN S 18) (hc : 4 ≤ c ∧ c ≤ 900) (hr : zc S + 2 ≤ 600000 ∧ zs S + 4 * c ≤ 7302250) : f_X3_makeRoom i S = some (S_room S i t c) := by
  unfold f_X3_makeRoom
  rw [h11]
  show (if zI S 3 i 13 < nI (zL S 17 t) then some S else _) = _
  rw [h13, hl, if_neg (by rw [nI_lt_iff (by omega) (by omega)]; omega)]
  have e2 : nI c * (2 : Int32) = nI (2 * c) := by
    have := nI_mul c 2
    rw [Nat.mul_comm] at this
    exact this
  rw [e2]
  refine (o_b (copyOf17 hl ht hc ⟨by omega, by omega⟩)).trans ?_
  dsimp only
  have h12' : zR (zsR (zcpy (zNew S 17 (2 * c)) 17 t (zN S 17) 0 0 c) 3 i 11 (some (zN S 17))) 3 i 12 = some t := by
    rw [zR_sR, if_neg (fun e => by omega)]
    exact h12
  have h13' : zI (zsR (zcpy (zNew S 17 (2 * c)) 17 t (zN S 17) 0 0 c) 3 i 11 (some (zN S 17))) 3 i 13 = nI c := h13
  rw [h12', h13', e2]
  refine (o_b (copyOf18 (S := zsR (zcpy (zNew S 17 (2 * c)) 17 t (zN S 17) 0 0 c) 3 i 11 (some (zN S 17))) (t := t) (c := c) hl' ht' hc ⟨?_, ?_⟩)).trans ?_
  · show zc S + 1 + 1 ≤ _; omega
  · show zs S + 2 * c + 2 * c ≤ _; omega
  · rfl
theorem goTo56 {S : ZH} {i t m c : Nat} {p v : Int32} (h12 : zR S 3 i 12 = some t) (h13 : zI S 3 i 13 = nI (m + 1)) (hl : zL S 18 t = c) (hm : m < c) (hc : c < 2 ^ 31) : j_X3_goTo_56 i p v S = some (v, zsI S 18 t m p) := by
  unfold j_X3_goTo_56
  rw [h12, h13]
  have e : nI (m + 1) - (1 : Int32) = nI m := by
    exact nI_sub (a := m + 1) (b := 1) (by omega)
  rw [e]
  exact zst_b hl hm hc
theorem goTo32 {S S1 : ZH} {i t m c : Nat} {p v x : Int32} (hr : f_X3_makeRoom i S = some S1) (h11 : zR S1 3 i 11 = some t) (h12 : zR S1 3 i 12 = some t) (h13 : zI S1 3 i 13 = nI m) (hl : zL S1 17 t = c) (hl' : zL S1 18 t = c) (hm : m < c) (hc : c < 2 ^ 31) : j_X3_goTo_32 i p x v S = some (v, zsI (zsI (zsI S1 17 t m x) 3 i 13 (nI (m + 1))) 18 t m p) := by
  unfold j_X3_goTo_32
  rw [hr]
  show ((zR S1 3 i 11).bind _) = _
  rw [h11, h13]
  refine (zst_b hl hm hc).trans ?_
  have e : (nI m + (1 : Int32)) = nI (m + 1) := nI_p m 1
  have h13' : zI (zsI S1 17 t m x) 3 i 13 = nI m := h13
  rw [h13', e]
  refine goTo56 (m := m) (c := c) h12 ?_ hl' hm hc
  rw [zI_sI, if_pos ⟨rfl, rfl⟩]

theorem goTo_A {S : ZH} {i t m c : Nat} {p x : Int32} (h11 : zR S 3 i 11 = some t) (h12 : zR S 3 i 12 = some t) (h13 : zI S 3 i 13 = nI (m + 1)) (hl : zL S 17 t = c) (hl' : zL S 18 t = c) (hm : m < c) (hc : c < 2 ^ 30) (hx : zI S 17 t m = x) : f_X3_goTo i p x S = some (zI S 3 i 8, zsI (zsI S 3 i 8 p) 18 t m p) := by
  unfold f_X3_goTo
  have h13' : zI (zsI S 3 i 8 p) 3 i 13 = nI (m + 1) := by rw [zI_sI, if_neg (by omega)]; exact h13
  have h11' : zR (zsI S 3 i 8 p) 3 i 11 = some t := h11
  rw [h13', if_neg (fun e => by have := nI_inj (a := m + 1) (b := 0) (by omega) (by omega) e; omega), h11']
  have e : nI (m + 1) - (1 : Int32) = nI m := nI_sub (a := m + 1) (b := 1) (by omega)
  rw [e]
  refine (zld_b (S := zsI S 3 i 8 p) hl hm (by omega)).trans ?_
  rw [if_pos (show zI (zsI S 3 i 8 p) 17 t m = x from hx)]
  exact goTo56 h12 h13' hl' hm (by omega)
theorem goTo_B {S : ZH} {i t m c : Nat} {p x : Int32} (h11 : zR S 3 i 11 = some t) (h13 : zI S 3 i 13 = nI m) (hl : zL S 17 t = c) (hm : m ≤ c) (hc : c < 2 ^ 30) (hx : m = 0 ∨ zI S 17 t (m - 1) ≠ x) : f_X3_goTo i p x S = j_X3_goTo_32 i p x (zI S 3 i 8) (zsI S 3 i 8 p) := by
  unfold f_X3_goTo
  have h13' : zI (zsI S 3 i 8 p) 3 i 13 = nI m := by rw [zI_sI, if_neg (by omega)]; exact h13
  have h11' : zR (zsI S 3 i 8 p) 3 i 11 = some t := h11
  rw [h13']
  by_cases e0 : m = 0
  · subst e0
    rw [if_pos (show nI 0 = 0 from rfl)]
  · rw [if_neg (fun e => by have := nI_inj (a := m) (b := 0) (by omega) (by omega) e; omega), h11']
    have e : nI m - (1 : Int32) = nI (m - 1) := nI_sub (a := m) (b := 1) (by omega)
    rw [e]
    refine (zld_b (S := zsI S 3 i 8 p) hl (show m - 1 < c by omega) (by omega)).trans ?_
    rw [if_neg (show ¬ zI (zsI S 3 i 8 p) 17 t (m - 1) = x from (by rcases hx with h | h; exact absurd h e0; exact h))]
/-- what goTo leaves -/
def GD (A : ZA) (S S1 : ZH) (i : Nat) (p : Int32) : Prop := ∃ m' c', GT A S S1 i p m' c' ∧ (4 ≤ c' ∧ c' ≤ 1800) ∧ (m' ≤ c' ∧ m' ≤ 900) ∧ (∀ j, j < m' → isIx (aN A 4 + 1) (zI S1 17 (tt S1 i) j)) ∧ (∀ j k, j < k → k < m' → (zI S1 17 (tt S1 i) j).toInt < (zI S1 17 (tt S1 i) k).toInt) ∧ (∀ t, t ≤ aN A 4 → (if t = aN A 4 then p else aPl A t i) = plAt (A.2 31 (8 * i + 6)) (zI S1 17 (tt S1 i)) (zI S1 18 (tt S1 i)) m' t) ∧ 1 ≤ m' ∧ zI S1 17 (tt S1 i) (m' - 1) = nI (aN A 4)
theorem GD.rc {A : ZA} {S S1 : ZH} {i : Nat} {p : Int32} (hA : AIn A) (h : RC A S) (hi : i < aN A 5) (g : GD A S S1 i p) (hp : p ≠ 21) : RC (A_go A i p) S1 := by
  obtain ⟨m', c', g, h1, h2, h3, h4, h5, h6, h7⟩ := g
  refine g.rc hA h hi rfl (fun k a b => ?_) rfl (fun j hj => ?_) h1 h2 h3 h4 h5 (fun e => absurd e hp)
  · funext q; show (if k = 33 ∧ _ then _ else _) = _; rw [if_neg (fun e => a e.1)]
  · rfl
theorem GD.rcS {A : ZA} {S S1 : ZH} {i : Nat} {p : Int32} (hA : AIn A) (h : RC A S) (hi : i < aN A 5) (g : GD A S S1 i p) : RC (aR (A_go A i p) 32 i (nI (aN A 4))) S1 := by
  obtain ⟨m', c', g, h1, h2, h3, h4, h5, h6, h7⟩ := g
  refine g.rc hA h hi rfl (fun k a b => ?_) ?_ (fun j hj => ?_) h1 h2 h3 h4 h5 (fun e => ⟨h6, ?_⟩)
  · funext q; show (if k = 32 ∧ _ then _ else if k = 33 ∧ _ then _ else _) = _; rw [if_neg (fun e => b e.1), if_neg (fun e => a e.1)]
  · rfl
  · show (if 32 = 32 ∧ j = i then nI (aN A 4) else A.2 32 j) = _; rw [if_neg (fun e => hj e.2)]
  · rw [h7]; show _ = (if 32 = 32 ∧ i = i then _ else _); rw [if_pos ⟨rfl, rfl⟩]
theorem GD.fr {A : ZA} {S S1 : ZH} {i : Nat} {p : Int32} (g : GD A S S1 i p) : frM S S1 := by
  obtain ⟨m', c', g, -⟩ := g
  intro k hk
  exact g.1 k (by rcases hk with h | h <;> omega) (by rcases hk with h | h <;> omega) (by rcases hk with h | h <;> omega)

theorem goTo_eq {A : ZA} {S : ZH} {i : Nat} {p : Int32} (hA : AIn A) (h : RC A S) (hi : i < aN A 5) : ∃ S1, f_X3_goTo i p (nI (aN A 4)) S = some (aP A i, S1) ∧ GD A S S1 i p := by
  obtain ⟨b1, b2, b3, b4, ⟨b11, b12, bl, bc1, bc2⟩, ⟨b13, bm1, bm2⟩, ⟨bT, bT2⟩, bP, bs⟩ := h.man hi
  have h4 := hA.c4.2
  have htt := h.men.2.2.2.2.1 i hi
  have hnn := h.men.2.2.2.2.2
  have hrm := h.rm hA
  have hbt := fun j hj => (isIx_iff (by omega)).mp (bT j hj)
  generalize hm : mvs S i = m at *
  generalize hc : capOf S i = c at *
  generalize ht : tt S i = t at *
  have hl : zL S 17 t = c := by rw [← hc, capOf, ht]
  have hdist : ∀ i', i' < aN A 5 → i' ≠ i → tt S i' ≠ t := fun i' h1 h2 e => h2 (h.men.2.2.2.1 i' i h1 hi (by rw [e, ht]))
  have hge := mono_ge (T := zI S 17 t) (m := m) (fun j hj => (hbt j hj).1) bT2
  have hold : ∀ (T P : Nat → Int32) (n : Nat), n ≤ m → (∀ j, j < n → T j = zI S 17 t j ∧ P j = zI S 18 t j) → (∀ q, q < aN A 4 → n < m → ∀ j, n ≤ j → j < m → (q : Int) < (zI S 17 t j).toInt) → ∀ q, q < aN A 4 → plAt (A.2 31 (8 * i + 6)) T P n q = aPl A q i := by
    intro T P n hn e1 e2 q hq
    rw [bP q (by omega), plAt_congr (T := zI S 17 t) (P := zI S 18 t) e1]
    have : ∀ d, n + d ≤ m → plAt (A.2 31 (8 * i + 6)) (zI S 17 t) (zI S 18 t) (n + d) q = plAt (A.2 31 (8 * i + 6)) (zI S 17 t) (zI S 18 t) n q := by
      intro d
      induction d with
      | zero => intro _; rfl
      | succ d ih =>
        intro hd
        show (if (zI S 17 t (n + d)).toInt ≤ (q : Int) then _ else _) = _
        rw [if_neg (by have := e2 q hq (by omega) (n + d) (by omega) (by omega); omega)]
        exact ih (by omega)
    have h9 := this (m - n) (by omega)
    rw [show n + (m - n) = m by omega] at h9
    exact h9.symm
  by_cases hx : m ≠ 0 ∧ zI S 17 t (m - 1) = nI (aN A 4)
  · obtain ⟨hm0, hx⟩ := hx
    obtain ⟨n, rfl⟩ : ∃ n, m = n + 1 := ⟨m - 1, by omega⟩
    rw [show n + 1 - 1 = n by omega] at hx
    have ht1 : tt (zsI (zsI S 3 i 8 p) 18 t n p) i = t := ht
    refine ⟨zsI (zsI S 3 i 8 p) 18 t n p, (goTo_A b11 b12 b13 hl bl (by omega) (by omega) hx).trans (by rw [b2]), n + 1, c, ⟨fun k a b d => (eqK_sI a).tr (eqK_sI d), rfl, fun i' hne => ⟨funext fun j => ?_, rfl⟩, ⟨fun j h8 h13 => ?_, ?_, ?_, rfl⟩, fun i' h1 h2 => ⟨rfl, rfl, rfl, funext fun j => ?_⟩, ?_, ⟨hnn, Nat.le_refl _, ?_, fun i' h1 h2 => ?_⟩, ?_⟩, ⟨bc1, bc2⟩, ⟨bm1, bm2⟩, ?_, ?_, fun q hq => ?_, by omega, ?_⟩
    · show zI (zsI S 3 i 8 p) 3 i' j = _
      rw [zI_sI, if_neg (fun e => hne e.1)]
    · show zI (zsI S 3 i 8 p) 3 i j = _
      rw [zI_sI, if_neg (fun e => h8 e.2)]
    · show zI (zsI S 3 i 8 p) 3 i 8 = _
      rw [zI_sI, if_pos ⟨rfl, rfl⟩]
    · show zI (zsI S 3 i 8 p) 3 i 13 = _
      rw [zI_sI, if_neg (by omega)]; exact b13
    · rw [zI_sI, if_neg (fun e => hdist i' h1 h2 e.1)]; rfl
    · rw [ht1]; exact ⟨b11, b12, hl, bl⟩
    · rw [ht1]; exact htt
    · rw [ht1]; exact (hdist i' h1 h2).symm
    · rw [hc]; exact ⟨Nat.le_refl _, Nat.le_refl _⟩
    · rw [ht1]; exact bT
    · rw [ht1]; exact bT2
    · rw [ht1]
      have hP : zI (zsI (zsI S 3 i 8 p) 18 t n p) 18 t n = p := by rw [zI_sI, if_pos ⟨rfl, rfl⟩]
      have hT : zI (zsI (zsI S 3 i 8 p) 18 t n p) 17 t = zI S 17 t := rfl
      show _ = if (zI (zsI (zsI S 3 i 8 p) 18 t n p) 17 t n).toInt ≤ (q : Int) then zI (zsI (zsI S 3 i 8 p) 18 t n p) 18 t n else _
      rw [hP, hT, hx, nI_toInt (by omega)]
      by_cases e : q = aN A 4
      · rw [if_pos e, if_pos (by omega)]
      · rw [if_neg e, if_neg (by omega)]
        refine (hold _ _ n (by omega) (fun j hj => ⟨rfl, ?_⟩) (fun q hq _ j h1 h2 => ?_) q (by omega)).symm
        · rw [zI_sI, if_neg (by omega)]; rfl
        · have : j = n := by omega
          rw [this, hx, nI_toInt (by omega)]; omega
    · rw [ht1]; exact hx
  · have hlt : ∀ j, j < m → (zI S 17 t j).toInt < aN A 4 := by
      intro j hj
      have h1 := (hbt j hj).2
      by_cases e : j = m - 1
      · subst e
        have h2 : (zI S 17 t (m - 1)).toInt ≠ (aN A 4 : Int) := fun e => hx ⟨by omega, i_eq.mpr (by rw [e, nI_toInt (by omega)])⟩
        omega
      · have h2 := bT2 j (m - 1) (by omega) (by omega)
        have h3 := (hbt (m - 1) (by omega)).2
        omega
    have hm9 : m + 1 ≤ 900 := by
      by_cases e : m = 0
      · omega
      · have h1 := hge (m - 1) (by omega)
        have h2 := hlt (m - 1) (by omega)
        omega
    have hB := goTo_B (p := p) (x := nI (aN A 4)) b11 b13 hl bm1 (by omega) (by
      by_cases e : m = 0
      · exact Or.inl e
      · exact Or.inr (fun e2 => hx ⟨e, e2⟩))
    -- the common end: S2 after makeRoom
    have fin : ∀ (S2 : ZH) (t' c' : Nat), f_X3_makeRoom i (zsI S 3 i 8 p) = some S2 → (∀ k, k ≠ 3 → k ≠ 17 → k ≠ 18 → eqK S S2 k) → zN S2 3 = zN S 3 → zI S2 3 = zI (zsI S 3 i 8 p) 3 → (∀ i' j, zR S2 3 i' j = if i' = i ∧ (j = 11 ∨ j = 12) then some t' else zR S 3 i' j) → (∀ q, q ≠ t' → zL S2 17 q = zL S 17 q ∧ zL S2 18 q = zL S 18 q ∧ zI S2 17 q = zI S 17 q ∧ zI S2 18 q = zI S 18 q) → (zL S2 17 t' = c' ∧ zL S2 18 t' = c') → (∀ j, j < m → zI S2 17 t' j = zI S 17 t j ∧ zI S2 18 t' j = zI S 18 t j) → (zN S2 17 = zN S2 18 ∧ zN S 17 ≤ zN S2 17 ∧ t' < zN S2 17 ∧ ∀ i', i' < aN A 5 → i' ≠ i → t' ≠ tt S i') → (zc S2 + c ≤ zc S + c' ∧ zs S2 + 4 * c ≤ zs S + 4 * c') → (m < c' ∧ 4 ≤ c' ∧ c' ≤ 1800) → ∃ S1, f_X3_goTo i p (nI (aN A 4)) S = some (aP A i, S1) ∧ GD A S S1 i p := by
      intro S2 t' c' f1 f2 f3 f4 f5 f6 f7 f8 f9 f10 f11
      have r11 : zR S2 3 i 11 = some t' := by rw [f5, if_pos ⟨rfl, Or.inl rfl⟩]
      have r12 : zR S2 3 i 12 = some t' := by rw [f5, if_pos ⟨rfl, Or.inr rfl⟩]
      have r13 : zI S2 3 i 13 = nI m := by rw [f4, zI_sI, if_neg (by omega)]; exact b13
      have hg := goTo32 (p := p) (v := aP A i) (x := nI (aN A 4)) f1 r11 r12 r13 f7.1 f7.2 f11.1 (by omega)
      generalize hS1 : zsI (zsI (zsI S2 17 t' m (nI (aN A 4))) 3 i 13 (nI (m + 1))) 18 t' m p = S1 at hg
      have g3 : ∀ i' j, zI S1 3 i' j = if i' = i ∧ j = 13 then nI (m + 1) else if i' = i ∧ j = 8 then p else zI S 3 i' j := by
        intro i' j
        subst hS1
        show zI (zsI (zsI S2 17 t' m (nI (aN A 4))) 3 i 13 (nI (m + 1))) 3 i' j = _
        rw [zI_sI]
        show (if _ then _ else zI S2 3 i' j) = _
        rw [f4, zI_sI]
      have gR : zR S1 = zR S2 := by subst hS1; rfl
      have gL : zL S1 = zL S2 := by subst hS1; rfl
      have gN : zN S1 = zN S2 := by subst hS1; rfl
      have g17 : ∀ q j, zI S1 17 q j = if q = t' ∧ j = m then nI (aN A 4) else zI S2 17 q j := by
        intro q j
        subst hS1
        show zI (zsI S2 17 t' m (nI (aN A 4))) 17 q j = _
        rw [zI_sI]
      have g18 : ∀ q j, zI S1 18 q j = if q = t' ∧ j = m then p else zI S2 18 q j := by
        intro q j
        subst hS1
        rw [zI_sI]; rfl
      have gk : ∀ k, k ≠ 3 → k ≠ 17 → k ≠ 18 → eqK S2 S1 k := by
        intro k a b d
        subst hS1
        exact ((eqK_sI b).tr (eqK_sI a)).tr (eqK_sI d)
      have gc : zc S1 = zc S2 := by subst hS1; rfl
      have gs : zs S1 = zs S2 := by subst hS1; rfl
      have ht1 : tt S1 i = t' := by unfold tt; rw [gR, r11]; rfl
      refine ⟨S1, hB.trans (by rw [b2]; exact hg), m + 1, c', ⟨fun k a b d => (f2 k a b d).tr (gk k a b d), by rw [gN, f3], fun i' hne => ⟨funext fun j => ?_, funext fun j => ?_⟩, ⟨fun j h8 h13 => ?_, ?_, ?_, ?_⟩, fun i' h1 h2 => ?_, ?_, ?_, ?_⟩, ⟨f11.2.1, f11.2.2⟩, ⟨by omega, hm9⟩, fun j hj => ?_, fun j k hjk hk => ?_, fun q hq => ?_, by omega, ?_⟩
      · rw [g3, if_neg (fun e => hne e.1), if_neg (fun e => hne e.1)]
      · rw [gR, f5, if_neg (fun e => hne e.1)]
      · rw [g3, if_neg (fun e => h13 e.2), if_neg (fun e => h8 e.2)]
      · rw [g3, if_neg (by omega), if_pos ⟨rfl, rfl⟩]
      · rw [g3, if_pos ⟨rfl, rfl⟩]
      · rw [gR, f5, if_neg (by omega)]
      · have hne := (f9.2.2.2 i' h1 h2).symm
        obtain ⟨a1, a2, a3, a4⟩ := f6 _ hne
        refine ⟨by rw [gL, a1], by rw [gL, a2], funext fun j => ?_, funext fun j => ?_⟩
        · rw [g17, if_neg (fun e => hne e.1), a3]
        · rw [g18, if_neg (fun e => hne e.1), a4]
      · rw [ht1, gR, gL]; exact ⟨r11, r12, f7.1, f7.2⟩
      · rw [ht1, gN]; exact f9
      · rw [hc, gc, gs]; exact f10
      · rw [ht1, g17]
        by_cases e : j = m
        · rw [if_pos ⟨rfl, e⟩]; exact ⟨aN A 4, by omega, rfl⟩
        · rw [if_neg (fun z => e z.2), (f8 j (by omega)).1]; exact bT j (by omega)
      · rw [ht1, g17, g17, if_neg (by omega), (f8 j (by omega)).1]
        by_cases e : k = m
        · rw [if_pos ⟨rfl, e⟩, nI_toInt (by omega)]; exact hlt j (by omega)
        · rw [if_neg (fun z => e z.2), (f8 k (by omega)).1]; exact bT2 j k hjk (by omega)
      · rw [ht1]
        show _ = if (zI S1 17 t' m).toInt ≤ (q : Int) then zI S1 18 t' m else _
        rw [g17, g18, if_pos (show t' = t' ∧ m = m from ⟨rfl, rfl⟩), if_pos (show t' = t' ∧ m = m from ⟨rfl, rfl⟩), nI_toInt (by omega)]
        by_cases e : q = aN A 4
        · rw [if_pos e, if_pos (by omega)]
        · rw [if_neg e, if_neg (by omega)]
          refine (hold _ _ m (Nat.le_refl _) (fun j hj => ?_) (fun q hq h1 => absurd h1 (Nat.lt_irrefl _)) q (by omega)).symm
          rw [g17, g18, if_neg (by omega), if_neg (by omega)]
          exact f8 j hj
      · rw [ht1, Nat.add_sub_cancel, g17, if_pos ⟨rfl, rfl⟩]
    by_cases hr : m < c
    · refine fin (zsI S 3 i 8 p) t c (room_no (m := m) (by rw [zI_sI, if_neg (by omega)]; exact b13) b11 hl hr (by omega)) (fun k a _ _ => eqK_sI a) rfl rfl (fun i' j => ?_) (fun q _ => ⟨rfl, rfl, rfl, rfl⟩) ⟨hl, bl⟩ (fun j _ => ⟨rfl, rfl⟩) ⟨hnn, Nat.le_refl _, htt, fun i' h1 h2 => (hdist i' h1 h2).symm⟩ ⟨Nat.le_refl _, Nat.le_refl _⟩ ⟨hr, bc1, bc2⟩
      show zR S 3 i' j = _
      by_cases e : i' = i ∧ (j = 11 ∨ j = 12)
      · rw [if_pos e, e.1]
        rcases e.2 with e | e <;> rw [e]
        · exact b11
        · exact b12
      · rw [if_neg e]
    · have hmc : m = c := by omega
      subst hmc
      refine fin (S_room (zsI S 3 i 8 p) i t m) (zN S 17) (2 * m) (room_yes (by rw [zI_sI, if_neg (by omega)]; exact b13) b11 b12 hl bl htt (by rw [hnn] at htt; exact htt) ⟨bc1, bm2⟩ ⟨?_, ?_⟩) (fun k a b d => ?_) rfl rfl (fun i' j => ?_) (fun q hq => ?_) ⟨?_, ?_⟩ (fun j hj => ?_) ⟨?_, ?_, ?_, fun i' h1 h2 => ?_⟩ ⟨?_, ?_⟩ ⟨by omega, by omega, by omega⟩
      all_goals try rw [hnn] at htt
      · show zc S + 2 ≤ _; omega
      · show zs S + 4 * m ≤ _; omega
      · exact (eqK_sI a).tr (room_k a b d)
      · exact room_R i' j hnn
      · refine ⟨?_, ?_, funext fun j => ?_, funext fun j => ?_⟩
        · rw [room_L17]; exact if_neg hq
        · rw [room_L18]; exact if_neg (fun e => hq (e.trans hnn.symm))
        · rw [room_I17 (S := zsI S 3 i 8 p) q j (show t ≠ zN S 17 by omega)]; exact if_neg hq
        · rw [room_I18 (S := zsI S 3 i 8 p) q j (show t ≠ zN S 18 by omega)]; exact if_neg (fun e => hq (e.trans hnn.symm))
      · rw [room_L17]; exact if_pos rfl
      · rw [room_L18]; exact if_pos hnn
      · constructor
        · rw [room_I17 (S := zsI S 3 i 8 p) _ j (show t ≠ zN S 17 by omega)]
          exact (if_pos rfl).trans (if_pos hj)
        · rw [room_I18 (S := zsI S 3 i 8 p) _ j (show t ≠ zN S 18 by omega)]
          exact (if_pos hnn).trans (if_pos hj)
      · show zN S 17 + 1 = zN S 18 + 1
        omega
      · show zN S 17 ≤ zN S 17 + 1
        omega
      · show zN S 17 < zN S 17 + 1
        omega
      · have := h.men.2.2.2.2.1 i' h1
        omega
      · show zc S + 2 + m ≤ zc S + 2 * m
        omega
      · show zs S + 2 * m + 2 * m + 4 * m ≤ zs S + 4 * (2 * m)
        omega
