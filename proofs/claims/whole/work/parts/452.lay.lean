/-! ===== the class lays its gangs ===== -/
theorem jmin {a b : Nat} (ha : a < 2 ^ 31) (hb : b < 2 ^ 31) (S : ZH) : f_J9_min_7cf53 (nI a) (nI b) S = some (nI (min a b)) := by
  unfold f_J9_min_7cf53
  simp only [Int32.lt_iff_toInt_lt, Int32.le_iff_toInt_le, nI_toInt ha, nI_toInt hb]
  split
  · rw [show min a b = b by omega]
  · rw [show min a b = a by omega]
theorem jmax {a b : Nat} (ha : a < 2 ^ 31) (hb : b < 2 ^ 31) (S : ZH) : f_J9_max_7cf53 (nI a) (nI b) S = some (nI (max a b)) := by
  unfold f_J9_max_7cf53
  simp only [Int32.lt_iff_toInt_lt, Int32.le_iff_toInt_le, nI_toInt ha, nI_toInt hb]
  split
  · rw [show max a b = b by omega]
  · rw [show max a b = a by omega]
def kOk (A : ZA) (k : Option NN) : Prop := ∀ p, k = some p → p.1 < 3 ∧ p.2 < aN A 1
theorem kdc_ok {A : ZA} (hA : AIn A) {h c : Nat} (hh : h ≤ 3) : kOk A (kdc A h c) := by
  intro p hp
  obtain ⟨a, b, -⟩ := kd_in hp
  exact ⟨by omega, by rw [b]; exact dg_lt hA.c1p⟩
def lv (A : ZA) (k0 k1 : Option NN) : Nat := lval (thA A) (FL (aD A) k0 k1)
def mm (A : ZA) : Option NN → Nat
  | none => 0
  | some p => thA A p.2
theorem lv_0 {A : ZA} (k : Option NN) : lv A k none = mm A k ∧ lv A none k = mm A k := by
  cases k with
  | none => exact ⟨rfl, rfl⟩
  | some p => exact ⟨rfl, rfl⟩
theorem kn_inj {A : ZA} (hA : AIn A) {k0 k1 : Option NN} (h0 : kOk A k0) (h1 : kOk A k1) (e : kn k0 = kn k1) : k0 = k1 := by
  have hn := hA.c1.2
  cases k0 with
  | none =>
    cases k1 with
    | none => rfl
    | some q =>
      have := h1 q rfl
      have e' : 24 = 8 * q.1 + q.2 := e
      omega
  | some p =>
    have hp := h0 p rfl
    cases k1 with
    | none =>
      have e' : 8 * p.1 + p.2 = 24 := e
      omega
    | some q =>
      have hq := h1 q rfl
      have e' : 8 * p.1 + p.2 = 8 * q.1 + q.2 := e
      rw [show p = q from Prod.ext (by omega) (by omega)]
theorem menMet_eq {A : ZA} {S : ZH} (hA : AIn A) (hR : RC A S) (h14 : T14 A S) {k : Option NN} (hk : kOk A k) : f_X1_menMet 0 (nI (kn k)) S = some (nI (mm A k)) := by
  have hn := hA.c1.2
  unfold f_X1_menMet
  cases k with
  | none => exact if_neg (fun z => z rfl)
  | some p =>
    have hp := hk p rfl
    show (if ¬ nI (8 * p.1 + p.2) = 24 then _ else _) = some (nI (thA A p.2))
    rw [if_pos (fun z => by have := nI_inj (a := 8 * p.1 + p.2) (b := 24) (by omega) (by decide) z; omega)]
    refine (o_b (hR.ref 1 1 rfl)).trans ?_
    rw [show (8 : Int32) = nI 8 from rfl, show kn (some p) = 8 * p.1 + p.2 from rfl, nI_mod (by omega) (by decide), show (8 * p.1 + p.2) % 8 = p.2 by omega]
    refine (o_b (zld_at (hR.len 14 8 rfl) (by omega) (by decide))).trans ?_
    rw [h14 _ (by omega)]
theorem early_eq {A : ZA} {S : ZH} (hA : AIn A) (hR : RC A S) (h14 : T14 A S) {e l : NN} (he : e.1 < 3 ∧ e.2 < aN A 1) (hl : l.1 < 3 ∧ l.2 < aN A 1) (hle : e.1 ≤ l.1) : ∃ S1, (((zR S 1 0 0)).bind fun a5 => (f_X10_hops a5 (nI (8 * e.1 + e.2) - nI (8 * e.1 + e.2) / (8 : Int32) * (8 : Int32)) (nI (8 * l.1 + l.2) - nI (8 * l.1 + l.2) / (8 : Int32) * (8 : Int32)) S).bind fun q6 => if q6.1 = 0 then j_X1_menMetByBoth_84 0 (nI (8 * e.1 + e.2)) (nI (8 * l.1 + l.2)) q6.2 else if ((nI (8 * l.1 + l.2) / (8 : Int32)) - (nI (8 * e.1 + e.2) / (8 : Int32))) ≤ 0 then j_X1_menMetByBoth_88 0 (nI (8 * e.1 + e.2)) (nI (8 * l.1 + l.2)) q6.2 else if ((nI (8 * l.1 + l.2) / (8 : Int32)) - (nI (8 * e.1 + e.2) / (8 : Int32))) < q6.1 then j_X1_menMetByBoth_88 0 (nI (8 * e.1 + e.2)) (nI (8 * l.1 + l.2)) q6.2 else j_X1_menMetByBoth_84 0 (nI (8 * e.1 + e.2)) (nI (8 * l.1 + l.2)) q6.2) = some (nI (if blk (aD A) e l then thA A e.2 else thA A e.2 + thA A l.2), S1) ∧ RC A S1 ∧ H21 S S1 := by
  have hn := hA.c1.2
  obtain ⟨S1, e1, r1, f1⟩ := hops_eq hA hR he.2 hl.2
  have h14' : T14 A S1 := fun s hs => by rw [(f1 14 (by omega) (by omega)).2.2.1]; exact h14 s hs
  refine ⟨S1, ?_, r1, f1⟩
  have m1 : f_X1_menMet 0 (nI (8 * e.1 + e.2)) S1 = some (nI (thA A e.2)) := menMet_eq hA r1 h14' (k := some e) (fun p hp => by cases hp; exact he)
  have m2 : f_X1_menMet 0 (nI (8 * l.1 + l.2)) S1 = some (nI (thA A l.2)) := menMet_eq hA r1 h14' (k := some l) (fun p hp => by cases hp; exact hl)
  have c84 : j_X1_menMetByBoth_84 0 (nI (8 * e.1 + e.2)) (nI (8 * l.1 + l.2)) S1 = some (nI (thA A e.2), S1) := by
    unfold j_X1_menMetByBoth_84 j_X1_menMetByBoth_89
    rw [if_neg (by decide)]
    exact (o_b m1).trans rfl
  have c88 : j_X1_menMetByBoth_88 0 (nI (8 * e.1 + e.2)) (nI (8 * l.1 + l.2)) S1 = some (nI (thA A e.2 + thA A l.2), S1) := by
    unfold j_X1_menMetByBoth_88 j_X1_menMetByBoth_89
    rw [if_pos rfl]
    refine (o_b m1).trans ?_
    refine (o_b m2).trans ?_
    rw [nI_add]
  refine (o_b (hR.ref 1 0 rfl)).trans ?_
  rw [show (8 : Int32) = nI 8 from rfl, nI_mod (by omega) (by decide), nI_mod (by omega) (by decide), show (8 * e.1 + e.2) % 8 = e.2 by omega, show (8 * l.1 + l.2) % 8 = l.2 by omega, nI_div (by omega) (by decide), nI_div (by omega) (by decide), show (8 * e.1 + e.2) / 8 = e.1 by omega, show (8 * l.1 + l.2) / 8 = l.1 by omega, nI_sub hle]
  refine (o_b e1).trans ?_
  dsimp only
  have hT := aD_TRI A
  by_cases q : e.2 = l.2
  · have hz : aD A e.2 l.2 = 0 := by rw [q]; exact hT.self _
    rw [if_pos (show cD (aD A e.2 l.2) = 0 by rw [hz]; decide), c84, if_pos (show blk (aD A) e l from Or.inl q)]
  · have hz := hT.pos _ _ q
    have hc0 : ¬ cD (aD A e.2 l.2) = 0 := by
      unfold cD
      split
      · exact (nI_pz (by omega) (by omega)).2.1
      · decide
    rw [if_neg hc0]
    by_cases q2 : e.1 = l.1
    · rw [if_pos (show nI (l.1 - e.1) ≤ 0 by rw [q2, Nat.sub_self]; decide), c88, if_neg (show ¬ blk (aD A) e l from fun z => by rcases z with z | z; exact q z; exact z.1 q2)]
    · rw [if_neg (nI_pz (by omega) (by omega)).1]
      by_cases q3 : aD A e.2 l.2 ≤ l.1 - e.1
      · have e4 : cD (aD A e.2 l.2) = nI (aD A e.2 l.2) := by unfold cD; rw [if_pos (by omega)]
        rw [e4, if_neg (by rw [Int32.lt_iff_toInt_lt, nI_toInt (by omega), nI_toInt (by omega)]; omega), c84, if_pos (show blk (aD A) e l from Or.inr ⟨q2, q3⟩)]
      · have e4 : nI (l.1 - e.1) < cD (aD A e.2 l.2) := by
          unfold cD
          rw [Int32.lt_iff_toInt_lt, nI_toInt (by omega), nI_toInt (by split <;> omega)]
          split <;> omega
        rw [if_pos e4, c88, if_neg (show ¬ blk (aD A) e l from fun z => by rcases z with z | z; exact q z; exact q3 z.2)]
theorem menBoth_eq {A : ZA} {S : ZH} (hA : AIn A) (hR : RC A S) (h14 : T14 A S) {k0 k1 : Option NN} (h0 : kOk A k0) (h1 : kOk A k1) : ∃ S1, f_X1_menMetByBoth 0 (nI (kn k0)) (nI (kn k1)) S = some (nI (lv A k0 k1), S1) ∧ RC A S1 ∧ H21 S S1 := by
  have hn := hA.c1.2
  have n24 : ∀ p : NN, p.1 < 3 ∧ p.2 < aN A 1 → ¬ nI (8 * p.1 + p.2) = 24 := fun p hp z => by
    have := nI_inj (a := 8 * p.1 + p.2) (b := 24) (by omega) (by decide) z
    omega
  have c12 : mm A k0 + mm A k1 = lv A k0 k1 → j_X1_menMetByBoth_12 0 (nI (kn k0)) (nI (kn k1)) S = some (nI (lv A k0 k1), S) := by
    intro e
    unfold j_X1_menMetByBoth_12
    refine (o_b (menMet_eq hA hR h14 h0)).trans ?_
    refine (o_b (menMet_eq hA hR h14 h1)).trans ?_
    rw [nI_add, e]
  unfold f_X1_menMetByBoth
  cases k0 with
  | none =>
    refine ⟨S, ?_, hR, H21.rf⟩
    rw [if_pos (show nI (kn none) = 24 from rfl), c12 (by rw [(lv_0 k1).2]; show 0 + _ = _; omega)]
  | some p =>
    have hp := h0 p rfl
    rw [if_neg (show ¬ nI (kn (some p)) = 24 from n24 p hp)]
    cases k1 with
    | none =>
      refine ⟨S, ?_, hR, H21.rf⟩
      rw [if_neg (show ¬ ¬ nI (kn none) = 24 from fun z => z rfl), c12 (by rw [(lv_0 (some p)).1]; show _ + 0 = _; omega)]
    | some q =>
      have hq := h1 q rfl
      rw [if_pos (show ¬ nI (kn (some q)) = 24 from n24 q hq)]
      show ∃ S1, (((f_J9_min_7cf53 (nI (8 * p.1 + p.2)) (nI (8 * q.1 + q.2)) S).bind _) = _) ∧ _
      rw [jmin (by omega) (by omega), Option.bind_some, show kn (some p) = 8 * p.1 + p.2 from rfl, show kn (some q) = 8 * q.1 + q.2 from rfl, jmax (by omega) (by omega), Option.bind_some]
      have ev : lv A (some p) (some q) = lval (thA A) (if p.1 ≤ q.1 then (if blk (aD A) p q then [p] else [p, q]) else (if blk (aD A) q p then [q] else [q, p])) := rfl
      by_cases o : 8 * p.1 + p.2 ≤ 8 * q.1 + q.2
      · have ov : lv A (some p) (some q) = if blk (aD A) p q then thA A p.2 else thA A p.2 + thA A q.2 := by
          rw [ev, if_pos (show p.1 ≤ q.1 by omega)]
          by_cases b : blk (aD A) p q
          · rw [if_pos b, if_pos b]; rfl
          · rw [if_neg b, if_neg b]; rfl
        rw [show min (8 * p.1 + p.2) (8 * q.1 + q.2) = 8 * p.1 + p.2 by omega, show max (8 * p.1 + p.2) (8 * q.1 + q.2) = 8 * q.1 + q.2 by omega, ov]
        exact early_eq hA hR h14 hp hq (by omega)
      · have ov : lv A (some p) (some q) = if blk (aD A) q p then thA A q.2 else thA A q.2 + thA A p.2 := by
          rw [ev]
          by_cases c : p.1 ≤ q.1
          · have c1 : ¬ blk (aD A) p q := fun z => by rcases z with z | z; omega; omega
            have c2 : ¬ blk (aD A) q p := fun z => by rcases z with z | z; omega; omega
            rw [if_pos c, if_neg c1, if_neg c2]
            show thA A p.2 + (thA A q.2 + 0) = _
            omega
          · rw [if_neg c]
            by_cases b : blk (aD A) q p
            · rw [if_pos b, if_pos b]; rfl
            · rw [if_neg b, if_neg b]; rfl
        rw [show min (8 * p.1 + p.2) (8 * q.1 + q.2) = 8 * q.1 + q.2 by omega, show max (8 * p.1 + p.2) (8 * q.1 + q.2) = 8 * p.1 + p.2 by omega, ov]
        exact early_eq hA hR h14 hq hp (by omega)
