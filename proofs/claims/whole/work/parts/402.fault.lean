/-! ===== fault, force ===== -/
def fV (A : ZA) (a : Nat) : Int32 := match prs (aSg A a) (aSn A a) with
  | .inl f => nI f
  | .inr q => if q.1 = 0 ∧ q.2 = 0 then -9 else nI (aSn A a)
theorem faultAt_eq {A : ZA} {S : ZH} (hA : AIn A) (h : RC A S) {a : Nat} (ha : a < aN A 17) : f_X0_faultAt a S = some (fV A a) := by
  have c17 := hA.c17.2
  obtain ⟨r24, r2, l13, z0, z1, zs13, hp⟩ := h.acts.2.2.2 a ha
  have hsg := hA.sg (show a < 8 by omega)
  unfold f_X0_faultAt fV
  cases hq : prs (aSg A a) (aSn A a) with
  | inl f =>
    rw [hq] at hp
    have hf := prs_lt hq
    have hp' : zI S 0 a 5 = nI f := hp
    rw [hp', if_neg (nI_n9 (by omega))]
  | inr q =>
    rw [hq] at hp
    obtain ⟨t, d⟩ := q
    have hb := prs_bd hq
    obtain ⟨p5, p4, p3⟩ := hp
    simp only at hb p3
    rw [p5, if_pos rfl, p3, z1, hsg.1]
    dsimp only
    by_cases e : t = 0 ∧ d = 0
    · rw [if_pos e, if_pos ((nI_le0 (by split <;> omega)).mpr (by rw [if_neg (by omega)]; exact e.1))]
    · rw [if_neg e, if_neg (fun z => e (by have := (nI_le0 (by split <;> omega)).mp z; split at this <;> omega))]
theorem hasDigitsM (v : Int32) (S : ZH) : f_X12_hasDigits v S = some (if v = 97 ∨ v = 65 ∨ v = 121 ∨ v = 89 ∨ v = 116 then 1 else 0) := by
  unfold f_X12_hasDigits
  grind
theorem nI_m1 {t : Nat} (h : 0 < t) : nI t + (-1) = nI (t - 1) := by
  have := nI_sub (a := t) (b := 1) h
  rw [← this]
  exact (Int32.sub_eq_add_neg _ _).symm
theorem ix60 (i j : Nat) : (60 : Int32) * nI i + nI j = nI (60 * i + j) := by
  rw [show (60 : Int32) = nI 60 from rfl, nI_mul, nI_add]
theorem faultOf_step {A : ZA} {S : ZH} (hA : AIn A) (h : MV A S) {a k t d : Nat} (ha : a < aN A 17) (hk : k < aSn A a) (ht : t ≤ 100) (hd : d ≤ 2) : b_X12_faultOf_7 0 (nI a) S (nI t, nI d, nI k) = some (match stp k (aSg A a k) (t, d) with | .inl f => .inr (.inr (nI f)) | .inr q => .inl (nI q.1, nI q.2, nI (k + 1))) := by
  have c17 := hA.c17.2
  have hsg := hA.sg (show a < 8 by omega)
  unfold b_X12_faultOf_7
  rw [h.ref 19 rfl, h.ref 20 rfl]
  simp only [Option.bind_some]
  rw [h.ld 8 rfl rfl (by omega) (by decide), hsg.1]
  simp only [Option.bind_some]
  rw [if_neg (by rw [nI_leI (by omega) (by omega)]; omega), ix60, h.ld 480 rfl rfl (by omega) (by decide)]
  simp only [Option.bind_some]
  show _ = some (match stp k (A.2 42 (60 * a + k)) (t, d) with | .inl f => _ | .inr q => _)
  generalize A.2 42 (60 * a + k) = v
  by_cases d0 : d = 0
  · subst d0
    rw [if_pos (show nI 0 ≤ 0 by decide)]
    by_cases t0 : t = 0
    · subst t0
      rw [if_neg (fun z => z rfl)]
      simp [stp]
    · have ht0 : ¬ nI t = 0 := fun z => t0 ((nI_z (by omega)).mp z)
      have ht1 : nI t + (-1) = nI (t - 1) := nI_m1 (by omega)
      rw [if_pos ht0, hasDigitsM, nI_1, nI_1]
      simp only [Option.bind_some, stp, ht1]
      by_cases e1 : v = 38
      · simp [e1, t0]
      · by_cases e2 : v = 124
        · simp [e2, t0]
        · by_cases e3 : v = 97 ∨ v = 65 ∨ v = 121 ∨ v = 89 ∨ v = 116
          · simp [e1, e2, e3, t0]; rfl
          · by_cases e4 : v = 112
            · simp [e4, t0]
            · by_cases e5 : v = 115
              · simp [e5, t0]
              · by_cases e6 : v = 104
                · simp [e6, t0]
                · by_cases e7 : v = 33
                  · simp [e7, t0]
                  · simp [e1, e2, e3, e4, e5, e6, e7, t0]
  · have hpos : 0 < d := by omega
    rw [if_neg (fun z => d0 ((nI_le0 (by omega)).mp z)), nI_m1 hpos, nI_1]
    by_cases hv : rg v 48 57
    · have hv' : 48 ≤ v.toInt ∧ v.toInt ≤ 57 := hv
      rw [in_rg (p := 48) (q := 57) rfl rfl hv]
      simp [stp, hpos, hv']
    · have hv' : ¬ (48 ≤ v.toInt ∧ v.toInt ≤ 57) := hv
      rw [in_nr (p := 48) (q := 57) rfl rfl hv]
      simp only [Option.bind_some, stp, if_pos hpos, if_neg hv']
      rfl
theorem faultOf_loop {A : ZA} {S : ZH} (hA : AIn A) (h : MV A S) {a : Nat} (ha : a < aN A 17) : ∀ (m k t d fuel : Nat), k + m = aSn A a → m < fuel → prs (aSg A a) k = .inr (t, d) → z_iter fuel (b_X12_faultOf_7 0 (nI a) S) (nI t, nI d, nI k) = some (match prs (aSg A a) (aSn A a) with | .inl f => .inr (nI f) | .inr q => .inl (nI q.1, nI q.2)) := by
  have c17 := hA.c17.2
  have hsg := hA.sg (show a < 8 by omega)
  intro m
  induction m with
  | zero =>
    intro k t d fuel hk hf hp
    have e : k = aSn A a := by omega
    subst e
    cases fuel with
    | zero => omega
    | succ f =>
      rw [hp]
      show (b_X12_faultOf_7 0 (nI a) S (nI t, nI d, nI (aSn A a))).bind _ = _
      unfold b_X12_faultOf_7
      rw [h.ref 19 rfl]
      simp only [Option.bind_some]
      rw [h.ld 8 rfl rfl (by omega) (by decide), hsg.1]
      simp only [Option.bind_some]
      rw [if_pos (nI_le (Nat.le_refl _) (by omega))]
      rfl
  | succ m ih =>
    intro k t d fuel hk hf hp
    have hb := prs_bd hp
    simp only at hb
    cases fuel with
    | zero => omega
    | succ f =>
      have hs : prs (aSg A a) (k + 1) = stp k (aSg A a k) (t, d) := by
        show (match prs (aSg A a) k with | .inl f => Sum.inl f | .inr q => stp k (aSg A a k) q) = _
        rw [hp]
      show (b_X12_faultOf_7 0 (nI a) S (nI t, nI d, nI k)).bind _ = _
      rw [faultOf_step hA h ha (by omega) (by omega) hb.2]
      cases hq : stp k (aSg A a k) (t, d) with
      | inl g =>
        rw [hq] at hs
        have := prs_inl hs m
        rw [show k + 1 + m = aSn A a by omega] at this
        rw [this]
        rfl
      | inr q =>
        rw [hq] at hs
        exact ih (k + 1) q.1 q.2 f (by omega) (by omega) hs
theorem faultOf_eq {A : ZA} {S : ZH} (hA : AIn A) (h : MV A S) {a : Nat} (ha : a < aN A 17) : f_X12_faultOf 0 (nI a) S = some (fV A a) := by
  have c17 := hA.c17.2
  have hsg := hA.sg (show a < 8 by omega)
  have e := faultOf_loop hA h ha (aSn A a) 0 1 0 zFU (by omega) (by show _ < 1000000; omega) rfl
  unfold f_X12_faultOf fV
  rw [show ((1 : Int32), (0 : Int32), (0 : Int32)) = (nI 1, nI 0, nI 0) from rfl, e]
  cases hq : prs (aSg A a) (aSn A a) with
  | inl f => rfl
  | inr q =>
    obtain ⟨t, d⟩ := q
    have hb := prs_bd hq
    simp only at hb
    simp only [Option.bind_some, Sum.elim_inl]
    rw [h.ref 19 rfl]
    simp only [Option.bind_some]
    rw [h.ld 8 rfl rfl (by omega) (by decide), hsg.1]
    simp only [Option.bind_some]
    have k1 : nI t = 0 ↔ t = 0 := nI_z (by omega)
    have k2 : nI d = 0 ↔ d = 0 := nI_z (by omega)
    by_cases e1 : t = 0 <;> by_cases e2 : d = 0 <;> simp [k1, k2, e1, e2] <;> rfl
theorem op_fault {A : ZA} (hA : AIn A) (x : Int32) : OpP A (f_X11_fault 0 x) (f_X12_fault 0 x) := by
  have c := hA.c17
  have c2 := c.2
  by_cases hx : isIx (aN A 17) x
  · obtain ⟨a, ha, rfl⟩ := hx
    refine .ro (fV A a) (fun S h => ?_) (fun S h => ?_)
    · unfold f_X11_fault
      rw [findAct_ix hA h ha]
      simp only [Option.bind_some]
      rw [faultAt_eq hA h ha]; rfl
    · unfold f_X12_fault
      rw [in_ix ((h.t.f 17 rfl).trans c.1) (by omega) ⟨a, ha, rfl⟩, faultOf_eq hA h.t ha]; rfl
  · refine .ro (-1) (fun S h => ?_) (fun S h => ?_)
    · unfold f_X11_fault; rw [findAct_no hA h hx]; rfl
    · unfold f_X12_fault; rw [in_no ((h.t.f 17 rfl).trans c.1) (by omega) hx]; rfl
/-! force -/
def frc (A : ZA) (t : Int32) : Nat → Option Nat
  | 0 => none
  | a + 1 => if t < A.2 40 a then frc A t a else if fV A a = -9 then (match frc A t a with | none => some a | some b => if A.2 40 a < A.2 40 b then some b else some a) else frc A t a
theorem frc_lt {A : ZA} {t : Int32} : ∀ {n b : Nat}, frc A t n = some b → b < n ∧ fV A b = -9
  | 0, b, h => by cases h
  | n + 1, b, h => by
    unfold frc at h
    have ih := fun b h => frc_lt (A := A) (t := t) (n := n) (b := b) h
    grind
def oN : Option Nat → Int32
  | none => -9
  | some b => nI b
def oT (A : ZA) : Option Nat → Int32
  | none => 0
  | some b => A.2 40 b
theorem actInForce_eq {A : ZA} {S : ZH} (hA : AIn A) (h : RC A S) (t : Int32) : f_X11_actInForce 0 t S = some (oN (frc A t (aN A 17))) := by
  have c17 := hA.c17.2
  have e6 : zI S 11 0 6 = nI (aN A 17) := h.acts.1.trans hA.c17.1
  unfold f_X11_actInForce
  rw [z_for0 (v := ((-9 : Int32), (0 : Int32), (0 : Int32))) (x := oN (frc A t (aN A 17))) (fun j => (oN (frc A t j), oT A (frc A t j), nI j)) (aN A 17) rfl (by omega) ?s ?l]
  · rfl
  case s =>
    intro j hj
    have ht := hA.2.2.2.2.2.1.2.2.1 j hj
    obtain ⟨r24, r2, l13, z0, z1, zs13, hp⟩ := h.acts.2.2.2 j hj
    unfold b_X11_actInForce_8
    dsimp only
    rw [e6, if_neg (by rw [nI_leI (by omega) (by omega)]; omega), h.ref 11 5 rfl]
    simp only [Option.bind_some]
    rw [zldR_at (h.len 24 8 rfl) (by omega) (by decide), r24]
    simp only [Option.bind_some]
    rw [faultAt_eq hA h hj, z0, nI_1]
    simp only [Option.bind_some]
    have hz : ¬ A.2 40 j < 0 := by
      rw [Int32.lt_iff_toInt_lt, i0]
      have := ht.1
      omega
    have hu : frc A t (j + 1) = if t < A.2 40 j then frc A t j else if fV A j = -9 then (match frc A t j with | none => some j | some b => if A.2 40 j < A.2 40 b then some b else some j) else frc A t j := rfl
    rw [hu]
    cases hq : frc A t j with
    | none =>
      have e0 : oT A none = 0 := rfl
      rw [e0, if_neg hz]
      by_cases e1 : t < A.2 40 j
      · simp [e1, e0]
      · by_cases e2 : fV A j = -9
        · simp [e1, e2, oT, oN]
        · simp [e1, e2, oT, oN]
    | some b =>
      have e0 : oT A (some b) = A.2 40 b := rfl
      rw [e0]
      by_cases e1 : t < A.2 40 j
      · simp [e1, e0]
      · by_cases e2 : fV A j = -9
        · by_cases e3 : A.2 40 j < A.2 40 b
          · simp [e1, e2, e3, oT, oN]
          · simp [e1, e2, e3, oT, oN]
        · simp [e1, e2, oT, oN]
  case l =>
    unfold b_X11_actInForce_8
    dsimp only
    rw [e6, if_pos (nI_le (Nat.le_refl _) (by omega))]
theorem forceOf_eq {A : ZA} {S : ZH} (hA : AIn A) (h : MV A S) (t : Int32) : f_X12_forceOf 0 t S = some (oN (frc A t (aN A 17))) := by
  have c17 := hA.c17.2
  have e6 : zI S 12 0 17 = nI (aN A 17) := (h.f 17 rfl).trans hA.c17.1
  unfold f_X12_forceOf
  rw [z_for0 (v := ((-9 : Int32), (0 : Int32))) (x := oN (frc A t (aN A 17))) (fun j => (oN (frc A t j), nI j)) (aN A 17) rfl (by omega) ?s ?l]
  · rfl
  case s =>
    intro j hj
    unfold b_X12_forceOf_5 j_X12_forceOf_37
    dsimp only
    rw [e6, if_neg (by rw [nI_leI (by omega) (by omega)]; omega), h.ref 18 rfl]
    simp only [Option.bind_some]
    rw [h.ld 8 rfl rfl (by omega) (by decide), faultOf_eq hA h hj]
    simp only [Option.bind_some]
    have e38 : ∀ (s0 : Int32), j_X12_forceOf_38 0 t (oN (frc A t j)) (nI j) s0 S = some (.inl (if s0 = 0 then oN (frc A t j) else oN (match frc A t j with | none => some j | some b => if A.2 40 j < A.2 40 b then some b else some j), nI (j + 1))) := by
      intro s0
      unfold j_X12_forceOf_38
      rw [h.ref 18 rfl, nI_1]
      simp only [Option.bind_some]
      by_cases e0 : s0 = 0
      · rw [if_pos e0, if_pos e0]
      · rw [if_neg e0, if_neg e0]
        cases hq : frc A t j with
        | none => rfl
        | some b =>
          have hb := (frc_lt hq).1
          show (if nI b = -9 then _ else _) = _
          rw [if_neg (nI_n9 (by omega)), h.ld 8 rfl rfl (by omega) (by decide)]
          simp only [Option.bind_some]
          rw [show oN (some b) = nI b from rfl, h.ld 8 rfl rfl (by omega) (by decide)]
          simp only [Option.bind_some]
          by_cases e3 : A.2 40 j < A.2 40 b
          · simp [e3]; rfl
          · simp [e3]; rfl
    rw [e38, e38]
    have hu : frc A t (j + 1) = if t < A.2 40 j then frc A t j else if fV A j = -9 then (match frc A t j with | none => some j | some b => if A.2 40 j < A.2 40 b then some b else some j) else frc A t j := rfl
    rw [hu]
    by_cases e1 : t < A.2 40 j
    · simp [e1]
    · by_cases e2 : fV A j = -9
      · simp [e1, e2]
      · simp [e1, e2]
  case l =>
    unfold b_X12_forceOf_5
    dsimp only
    rw [e6, if_pos (nI_le (Nat.le_refl _) (by omega))]
theorem op_force {A : ZA} (hA : AIn A) (t : Int32) : OpP A (f_X11_force 0 t) (f_X12_force 0 t) := by
  by_cases ht : rg t 0 899
  · refine .ro (oN (frc A t (aN A 17))) (fun S h => ?_) (fun S h => ?_)
    · unfold f_X11_force
      rw [isTideC, if_pos ht, actInForce_eq hA h]; rfl
    · unfold f_X12_force
      rw [noTideM, if_pos ht, forceOf_eq hA h.t]; rfl
  · refine .ro (-2) (fun S h => ?_) (fun S h => ?_)
    · unfold f_X11_force
      rw [isTideC, if_neg ht]; rfl
    · unfold f_X12_force
      rw [noTideM, if_neg ht]; rfl
