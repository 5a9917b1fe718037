/-! ===== wronged, wrongedMan ===== -/
theorem lastT_lt {tk : Nat → Int32} {i : Nat} : ∀ {n k : Nat}, lastT tk i n = some k → k < n ∧ tk (6 * k + 1) = nI i
  | 0, _, h => by cases h
  | n + 1, k, h => by
    have h' : (if tk (6 * n + 1) = nI i then some n else lastT tk i n) = some k := h
    by_cases e : tk (6 * n + 1) = nI i
    · rw [if_pos e] at h'
      cases h'
      exact ⟨Nat.lt_succ_self _, e⟩
    · rw [if_neg e] at h'
      obtain ⟨a, b⟩ := lastT_lt h'
      exact ⟨Nat.lt_succ_of_lt a, b⟩
def shipKB (A : ZA) (x p : Int32) : Bool := decide (rg p 10 19 ∧ A.2 34 (p.toInt - 10).toNat = x)
theorem shipKB_ship {A : ZA} {s : Nat} {x : Int32} (hs : s < 10) : shipKB A x (nI (10 + s)) = decide (A.2 34 s = x) := by
  have e1 : (nI (10 + s)).toInt = ((10 + s : Nat) : Int) := nI_toInt (by omega)
  have e : ((nI (10 + s)).toInt - 10).toNat = s := by omega
  have hr : rg (nI (10 + s)) 10 19 := by constructor <;> omega
  unfold shipKB
  rw [e]
  exact decide_eq_decide.mpr ⟨And.right, fun q => ⟨hr, q⟩⟩
theorem inShipOf_eq {A : ZA} {S : ZH} (hA : AIn A) (h : RC A S) {x p : Int32} (hp : isPl A p) : f_X11_isInShipOf 0 x p S = some (if shipKB A x p = true then 1 else 0) := by
  have c9 := hA.c9.2
  unfold f_X11_isInShipOf
  refine (o_b (isShipC p S)).trans ?_
  by_cases hr : rg p 10 19
  · obtain ⟨s, hs, rfl⟩ := isPl_ship hA hp hr
    rw [if_pos hr, if_neg (by decide), ship_sub (by omega)]
    refine (o_b (findShip_ix hA h hs)).trans ?_
    unfold j_X11_isInShipOf_19
    rw [if_neg (by simp)]
    refine (o_b (a := s) rfl).trans ?_
    rw [(h.shps.2.2 s hs).2.1, shipKB_ship (by omega)]
    by_cases e : A.2 34 s = x
    · rw [if_neg (fun z => z e), if_pos (by simpa using e)]
    · rw [if_pos e, if_neg (by simpa using e)]
  · rw [if_neg hr, if_pos rfl]
    unfold j_X11_isInShipOf_19
    rw [if_pos rfl]
    have e : shipKB A x p = false := by unfold shipKB; simp only [decide_eq_false_iff_not]; exact fun e => hr e.1
    rw [e]; rfl
def keptB (A : ZA) (i : Nat) : Bool := decide (aP A i = 20) || decide (aP A i = 21) || shipKB A 0 (aP A i)
def wrV (A : ZA) (i : Nat) : Bool := match lastT (A.2 44) i (aN A 22) with
  | none => false
  | some k => decide (A.2 44 (6 * k + 5) = 0) && keptB A i
theorem isWronged_C {A : ZA} {S : ZH} (hA : AIn A) (h : RC A S) {i : Nat} (hi : i < aN A 5) : f_X11_isWronged 0 (some i) S = some (pC (wrV A i)) := by
  unfold f_X11_isWronged
  refine (o_b (a := i) rfl).trans ?_
  rw [(h.man hi).2.2.2.1]
  unfold wrV
  cases hq : lastT (A.2 44) i (aN A 22) with
  | none => rw [if_pos rfl]; rfl
  | some k =>
    rw [if_neg (by simp)]
    refine (o_b (a := k) rfl).trans ?_
    rw [h.tkF (lastT_lt hq).1 (by omega), h.pl hi]
    by_cases e0 : A.2 44 (6 * k + 5) = 0
    · rw [if_pos e0]
      unfold keptB
      by_cases e1 : aP A i = 20
      · rw [if_pos e1]; simp [e0, e1, pC]
      · rw [if_neg e1]
        by_cases e2 : aP A i = 21
        · rw [if_pos e2]; simp [e0, e2, pC]
        · rw [if_neg e2]
          refine (o_b (inShipOf_eq hA h (hA.aP hi))).trans ?_
          cases e3 : shipKB A 0 (aP A i) <;> simp [e0, e1, e2, pC]
    · rw [if_neg e0]; simp [e0, pC]
theorem isWronged_M {A : ZA} {S : ZH} (hA : AIn A) (h : MV A S) {i : Nat} (hi : i < aN A 5) : f_X12_isWronged 0 (nI i) S = some (pC (wrV A i)) := by
  have c22 := hA.c22.2
  have c9 := hA.c9.2
  unfold f_X12_isWronged
  have el : z_iter zFU (b_X12_isWronged_5 0 (nI i) S) ((-9 : Int32), (0 : Int32)) = some (oN (lastT (A.2 44) i (aN A 22))) := by
    refine z_for0 (fun j => (oN (lastT (A.2 44) i j), nI j)) (aN A 22) rfl (by omega) (fun j hj => ?_) ?_
    · unfold b_X12_isWronged_5
      dsimp only
      rw [h.nTk hA, if_neg (by rw [nI_leI (by omega) (by omega)]; omega), nI_1, show (1 : Int32) = nI 1 from rfl, ix6]
      refine (o_b (h.ref 23 rfl)).trans ?_
      refine (o_b (h.ld 360 rfl rfl (by omega) (by decide))).trans ?_
      show _ = some (Sum.inl (oN (if A.2 44 (6 * j + 1) = nI i then some j else lastT (A.2 44) i j), nI (j + 1)))
      by_cases e : A.2 44 (6 * j + 1) = nI i
      · rw [if_neg (fun z => z e), if_pos e]; rfl
      · rw [if_pos e, if_neg e]
    · unfold b_X12_isWronged_5
      dsimp only
      rw [h.nTk hA, if_pos (nI_le (Nat.le_refl _) (by omega))]
  refine (o_b el).trans ?_
  refine (o_b (placeOf_eq hA h hi)).trans ?_
  have e82 : ∀ s0 : Int32, j_X12_isWronged_82 0 (oN (lastT (A.2 44) i (aN A 22))) s0 S = some (if s0 = 0 then 0 else match lastT (A.2 44) i (aN A 22) with | none => 0 | some k => if A.2 44 (6 * k + 5) = 0 then 1 else 0) := by
    intro s0
    unfold j_X12_isWronged_82
    cases hq : lastT (A.2 44) i (aN A 22) with
    | none =>
      rw [if_pos (show oN none = -9 from rfl)]
      split <;> rfl
    | some k =>
      have hk := (lastT_lt hq).1
      rw [if_neg (show ¬ oN (some k) = -9 from nI_n9 (by omega)), show oN (some k) = nI k from rfl, show (5 : Int32) = nI 5 from rfl, ix6]
      refine (o_b (h.ref 23 rfl)).trans ?_
      refine (o_b (h.ld 360 rfl rfl (by omega) (by decide))).trans ?_
      by_cases e0 : A.2 44 (6 * k + 5) = 0
      · rw [if_neg (fun z => z e0)]
        by_cases e1 : s0 = 0
        · rw [if_pos e1, if_pos e1]
        · rw [if_neg e1, if_neg e1]
          show some 1 = some (if A.2 44 (6 * k + 5) = 0 then (1 : Int32) else 0)
          rw [if_pos e0]
      · rw [if_pos e0]
        by_cases e1 : s0 = 0
        · rw [if_pos e1]
        · rw [if_neg e1]
          show some 0 = some (if A.2 44 (6 * k + 5) = 0 then (1 : Int32) else 0)
          rw [if_neg e0]
  have e77 : ∀ S, j_X12_isWronged_77 0 (oN (lastT (A.2 44) i (aN A 22))) S = j_X12_isWronged_82 0 (oN (lastT (A.2 44) i (aN A 22))) 1 S := fun _ => rfl
  have e81 : ∀ S, j_X12_isWronged_81 0 (oN (lastT (A.2 44) i (aN A 22))) S = j_X12_isWronged_82 0 (oN (lastT (A.2 44) i (aN A 22))) 0 S := fun _ => rfl
  rw [e77, e81, e82, e82, if_neg (show ¬ (1 : Int32) = 0 by decide), if_pos (show (0 : Int32) = 0 from rfl)]
  have fin : ∀ b : Bool, keptB A i = b → (if b = true then (match lastT (A.2 44) i (aN A 22) with | none => (0 : Int32) | some k => if A.2 44 (6 * k + 5) = 0 then 1 else 0) else 0) = pC (wrV A i) := by
    intro b hb
    unfold wrV
    cases hq : lastT (A.2 44) i (aN A 22) with
    | none => cases b <;> rfl
    | some k =>
      show (if b = true then (if A.2 44 (6 * k + 5) = 0 then (1 : Int32) else 0) else 0) = pC (decide (A.2 44 (6 * k + 5) = 0) && keptB A i)
      rw [hb]
      by_cases e0 : A.2 44 (6 * k + 5) = 0
      · rw [if_pos e0]; cases b <;> simp [e0, pC]
      · rw [if_neg e0]; cases b <;> simp [e0, pC]
  by_cases e1 : aP A i = 20
  · rw [if_pos e1, ← fin true (by unfold keptB; simp [e1])]; rfl
  · rw [if_neg e1]
    by_cases e2 : aP A i = 21
    · rw [if_pos e2, ← fin true (by unfold keptB; simp [e2])]; rfl
    · rw [if_neg e2]
      refine (o_b (isAboardM _ S)).trans ?_
      have hk : keptB A i = shipKB A 0 (aP A i) := by unfold keptB; simp [e1, e2]
      by_cases hr : rg (aP A i) 10 19
      · obtain ⟨s, hs, e⟩ := isPl_ship hA (hA.aP hi) hr
        rw [if_pos hr, if_neg (by decide), e, ship_sub (by omega)]
        rw [e, shipKB_ship (by omega)] at hk
        refine (o_b (h.ref 10 rfl)).trans ?_
        refine (o_b (h.ld 10 rfl rfl (by omega) (by decide))).trans ?_
        by_cases e3 : A.2 34 s = 0
        · rw [if_neg (fun z => z e3), ← fin true (by rw [hk]; simpa using e3)]; rfl
        · rw [if_pos e3, ← fin false (by rw [hk]; simpa using e3)]; rfl
      · rw [if_neg hr, if_pos rfl, ← fin false (by rw [hk]; unfold shipKB; simp only [decide_eq_false_iff_not]; exact fun z => hr z.1)]; rfl
theorem op_wronged {A : ZA} (hA : AIn A) : OpP A (f_X11_wronged 0) (f_X12_wronged 0) := by
  have c5 := hA.c5.2
  refine .ro (nI (cntN (wrV A) (aN A 5))) (fun S h => ?_) (fun S h => ?_)
  · unfold f_X11_wronged
    rw [z_cnt (wrV A) (n := aN A 5) (by omega) (fun j c hj => ?_) (fun c => ?_)]
    · rfl
    · unfold b_X11_wronged_4
      dsimp only
      rw [h.nMen hA, if_neg (by rw [nI_leI (by omega) (by omega)]; omega), nI_1, nI_1]
      refine (o_b (h.ref 11 1 rfl)).trans ?_
      refine (o_b (h.manAt hA hj)).trans ?_
      refine (o_b (isWronged_C hA h hj)).trans ?_
      cases wrV A j <;> rfl
    · unfold b_X11_wronged_4
      dsimp only
      rw [h.nMen hA, if_pos (nI_le (Nat.le_refl _) (by omega))]
  · unfold f_X12_wronged
    rw [z_cnt (wrV A) (n := aN A 5) (by omega) (fun j c hj => ?_) (fun c => ?_)]
    · rfl
    · unfold b_X12_wronged_9
      dsimp only
      rw [h.t.nMen hA, if_neg (by rw [nI_leI (by omega) (by omega)]; omega), nI_1, show nI c + (1 : Int32) = nI (c + 1) from nI_p c 1, show nI c + (0 : Int32) = nI (c + 0) from nI_p c 0]
      refine (o_b (isWronged_M hA h.t hj)).trans ?_
      cases wrV A j <;> rfl
    · unfold b_X12_wronged_9
      dsimp only
      rw [h.t.nMen hA, if_pos (nI_le (Nat.le_refl _) (by omega))]
def wmS (wr : Nat → Bool) (x : Int32) : Nat → Nat → Nat → Option Nat
  | 0, _, _ => none
  | d + 1, j, c => if wr j = true then (if nI c = x then some j else wmS wr x d (j + 1) (c + 1)) else wmS wr x d (j + 1) c
theorem z_find {ρ : Type} {b : Int32 × Int32 → Option ((Int32 × Int32) ⊕ (Unit ⊕ ρ))} {R : Nat → ρ} {n : Nat} (wr : Nat → Bool) (x : Int32) (hs : ∀ j c, j < n → b (nI c, nI j) = some (if wr j = true then (if nI c = x then .inr (.inr (R j)) else .inl (nI (c + 1), nI (j + 1))) else .inl (nI c, nI (j + 1)))) (hx : ∀ c, b (nI c, nI n) = some (.inr (.inl ()))) : ∀ (d j c fuel : Nat), j + d = n → d < fuel → z_iter fuel b (nI c, nI j) = some (match wmS wr x d j c with | none => .inl () | some i => .inr (R i)) := by
  intro d
  induction d with
  | zero =>
    intro j c fuel hj hf
    have e : j = n := by omega
    subst e
    cases fuel with
    | zero => omega
    | succ f =>
      show (b (nI c, nI j)).bind _ = _
      rw [hx]
      rfl
  | succ d ih =>
    intro j c fuel hj hf
    cases fuel with
    | zero => omega
    | succ f =>
      show (b (nI c, nI j)).bind _ = _
      rw [hs j c (by omega)]
      unfold wmS
      by_cases e : wr j = true
      · rw [if_pos e, if_pos e]
        by_cases e2 : nI c = x
        · rw [if_pos e2, if_pos e2]; rfl
        · rw [if_neg e2, if_neg e2]; exact ih (j + 1) (c + 1) f (by omega) (by omega)
      · rw [if_neg e, if_neg e]; exact ih (j + 1) c f (by omega) (by omega)
theorem op_wrongedMan {A : ZA} (hA : AIn A) (x : Int32) : OpP A (f_X11_wrongedMan 0 x) (f_X12_wrongedMan 0 x) := by
  have c5 := hA.c5.2
  refine .ro (oN (wmS (wrV A) x (aN A 5) 0 0)) (fun S h => ?_) (fun S h => ?_)
  · unfold f_X11_wrongedMan
    have e := z_find (b := b_X11_wrongedMan_4 0 x S) (R := fun j => nI j) (n := aN A 5) (wrV A) x (fun j c hj => ?_) (fun c => ?_) (aN A 5) 0 0 zFU (by omega) (by show _ < 1000000; omega)
    · refine (o_b e).trans ?_
      cases wmS (wrV A) x (aN A 5) 0 0 <;> rfl
    · unfold b_X11_wrongedMan_4
      dsimp only
      rw [h.nMen hA, if_neg (by rw [nI_leI (by omega) (by omega)]; omega), nI_1, nI_1]
      refine (o_b (h.ref 11 1 rfl)).trans ?_
      refine (o_b (h.manAt hA hj)).trans ?_
      refine (o_b (isWronged_C hA h hj)).trans ?_
      cases wrV A j with
      | false => rfl
      | true =>
        rw [if_neg (by decide), if_pos rfl]
        by_cases e2 : nI c = x
        · rw [if_neg (fun z => z e2), if_pos e2]
        · rw [if_pos e2, if_neg e2]
    · unfold b_X11_wrongedMan_4
      dsimp only
      rw [h.nMen hA, if_pos (nI_le (Nat.le_refl _) (by omega))]
  · unfold f_X12_wrongedMan
    have e := z_find (b := b_X12_wrongedMan_9 0 x (tS S)) (R := fun j => (nI j, tS S)) (n := aN A 5) (wrV A) x (fun j c hj => ?_) (fun c => ?_) (aN A 5) 0 0 zFU (by omega) (by show _ < 1000000; omega)
    · refine (o_b e).trans ?_
      cases wmS (wrV A) x (aN A 5) 0 0 <;> rfl
    · unfold b_X12_wrongedMan_9
      dsimp only
      rw [h.t.nMen hA, if_neg (by rw [nI_leI (by omega) (by omega)]; omega), nI_1, nI_1]
      refine (o_b (isWronged_M hA h.t hj)).trans ?_
      cases wrV A j with
      | false => rfl
      | true =>
        rw [if_neg (by decide), if_pos rfl]
        by_cases e2 : nI c = x
        · rw [if_neg (fun z => z e2), if_pos e2]
        · rw [if_pos e2, if_neg e2]
    · unfold b_X12_wrongedMan_9
      dsimp only
      rw [h.t.nMen hA, if_pos (nI_le (Nat.le_refl _) (by omega))]
