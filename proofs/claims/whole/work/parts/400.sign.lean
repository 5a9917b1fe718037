/-! ===== sign, fault, force ===== -/
theorem zsI_id {S : ZH} {k i j : Nat} {v : Int32} (h : zI S k i j = v) : zsI S k i j v = S := by
  obtain ⟨a, b, c, d⟩ := S
  show (a, b, z_up c k i j v, d) = (a, b, c, d)
  have e : z_up c k i j v = c := by
    funext k' i' j'
    show (if k' = k ∧ i' = i ∧ j' = j then v else c k' i' j') = c k' i' j'
    by_cases q : k' = k ∧ i' = i ∧ j' = j
    · rw [if_pos q, q.1, q.2.1, q.2.2]; exact h.symm
    · rw [if_neg q]
  rw [e]
theorem prs_bd {sg : Nat → Int32} : ∀ {n : Nat} {q : Nat × Nat}, prs sg n = .inr q → q.1 ≤ n + 1 ∧ q.2 ≤ 2
  | 0, q, h => by cases h; exact ⟨Nat.le_refl _, by decide⟩
  | n + 1, q, h => by
    have h' : (match prs sg n with | .inl f => Sum.inl f | .inr q => stp n (sg n) q) = .inr q := h
    cases hp : prs sg n with
    | inl f => rw [hp] at h'; cases h'
    | inr p =>
      rw [hp] at h'
      have ih := prs_bd hp
      obtain ⟨p1, p2⟩ := p
      obtain ⟨q1, q2⟩ := q
      simp only [stp] at h' ih
      show q1 ≤ n + 2 ∧ q2 ≤ 2
      grind
theorem prs_inl {sg : Nat → Int32} {n f : Nat} (h : prs sg n = .inl f) : ∀ d, prs sg (n + d) = .inl f
  | 0 => h
  | d + 1 => by
    show (match prs sg (n + d) with | .inl f => Sum.inl f | .inr q => stp (n + d) (sg (n + d)) q) = _
    rw [prs_inl h d]
theorem prs_lt {sg : Nat → Int32} : ∀ {n f : Nat}, prs sg n = .inl f → f < n
  | 0, f, h => by cases h
  | n + 1, f, h => by
    have h' : (match prs sg n with | .inl f => Sum.inl f | .inr q => stp n (sg n) q) = .inl f := h
    cases hp : prs sg n with
    | inl g => rw [hp] at h'; cases h'; exact Nat.lt_succ_of_lt (prs_lt hp)
    | inr p =>
      rw [hp] at h'
      simp only [stp] at h'
      grind
theorem prs_congr {sg sg' : Nat → Int32} : ∀ {n : Nat}, (∀ k, k < n → sg' k = sg k) → prs sg' n = prs sg n
  | 0, _ => rfl
  | n + 1, h => by
    show (match prs sg' n with | .inl f => Sum.inl f | .inr q => stp n (sg' n) q) = (match prs sg n with | .inl f => Sum.inl f | .inr q => stp n (sg n) q)
    rw [prs_congr (fun k hk => h k (by omega)), h n (by omega)]
theorem isDigitC (x : Int32) (S : ZH) : f_X0_isDigit x S = some (if rg x 48 57 then 1 else 0) := by
  unfold f_X0_isDigit
  by_cases h : rg x 48 57
  · rw [within_rg (p := 48) (q := 57) rfl rfl h, if_pos h]; rfl
  · rw [within_nr (p := 48) (q := 57) rfl rfl h, if_neg h]; rfl
theorem nI_z {t : Nat} (ht : t < 2 ^ 31) : nI t = 0 ↔ t = 0 := by
  constructor
  · intro e
    exact nI_inj (b := 0) ht (by decide) e
  · rintro rfl; rfl
theorem nI_le0 {t : Nat} (ht : t < 2 ^ 31) : nI t ≤ 0 ↔ t = 0 := by
  rw [Int32.le_iff_toInt_le, nI_toInt ht, i0]
  omega
abbrev lck (q : Nat × Nat) : Nat := if 0 < q.2 then q.1 + 1 else q.1
theorem lck0 (t : Nat) : lck (t, 0) = t := rfl
theorem lck1 (t : Nat) : lck (t, 1) = t + 1 := rfl
theorem lck2 (t : Nat) : lck (t, 2) = t + 1 := rfl
theorem goes_eq {S : ZH} {a n t d : Nat} {v : Int32} (h4 : zI S 0 a 4 = nI d) (h3 : zI S 0 a 3 = nI (lck (t, d))) (ht : t ≤ 100) (hd : d ≤ 2) : f_X0_goesOnWith a v S = some (match stp n v (t, d) with | .inl _ => (0, S) | .inr q => (1, zsI (zsI S 0 a 4 (nI q.2)) 0 a 3 (nI (lck q)))) := by
  unfold f_X0_goesOnWith
  rw [h4]
  by_cases d0 : d = 0
  · subst d0
    have h3' : zI S 0 a 3 = nI t := h3
    have k4 : zsI S 0 a 4 (nI 0) = S := zsI_id h4
    rw [if_pos (by decide), h3']
    by_cases t0 : t = 0
    · subst t0
      rw [if_neg (fun z => z rfl)]
      simp [stp]
    · have ht0 : ¬ nI t = 0 := fun z => t0 ((nI_z (by omega)).mp z)
      rw [if_pos ht0]
      have ht1 : nI t - 1 = nI (t - 1) := by
        have := nI_sub (a := t) (b := 1) (by omega)
        exact this
      have hk : ∀ x, zsI S 0 a 4 x = zsI (zsI S 0 a 4 x) 0 a 3 (nI t) := fun x => (zsI_id (by rw [zI_sI, if_neg (by omega)]; exact h3')).symm
      have hk0 : zsI S 0 a 3 (nI t) = S := zsI_id h3'
      have ht2 : t - 1 + 1 = t := by omega
      by_cases e : v = 33
      · subst e; simp [stp, t0, k4, hk0, lck0]
      · by_cases e1 : v = 38
        · subst e1; simp [stp, t0, k4, nI_1, lck0]
        · by_cases e2 : v = 65
          · subst e2
            simp [stp, t0]
            rw [lck2, ht2]
            exact hk 2
          · by_cases e3 : v = 89
            · subst e3
              simp [stp, t0]
              rw [lck2, ht2]
              exact hk 2
            · by_cases e4 : v = 97
              · subst e4
                simp [stp, t0]
                rw [lck2, ht2]
                exact hk 2
              · by_cases e5 : v = 104
                · subst e5; simp [stp, t0, k4, ht1, lck0]
                · by_cases e6 : v = 112
                  · subst e6; simp [stp, t0, k4, ht1, lck0]
                  · by_cases e7 : v = 115
                    · subst e7; simp [stp, t0, k4, ht1, lck0]
                    · by_cases e8 : v = 116
                      · subst e8
                        simp [stp, t0]
                        rw [lck2, ht2]
                        exact hk 2
                      · by_cases e9 : v = 121
                        · subst e9
                          simp [stp, t0]
                          rw [lck2, ht2]
                          exact hk 2
                        · by_cases e10 : v = 124
                          · subst e10; simp [stp, t0, k4, nI_1, lck0]
                          · simp [stp, t0, e, e1, e2, e3, e4, e5, e6, e7, e8, e9, e10]
  · have hpos : 0 < d := by omega
    have h3' : zI S 0 a 3 = nI (t + 1) := by rw [h3]; unfold lck; rw [if_pos hpos]
    rw [if_neg (fun z => d0 ((nI_le0 (by omega)).mp z))]
    unfold f_X0_takesDigit
    rw [isDigitC]
    by_cases hv : rg v 48 57
    · have hv' : 48 ≤ v.toInt ∧ v.toInt ≤ 57 := hv
      rw [if_pos hv]
      simp only [Option.bind_some, stp, if_pos hpos, if_pos hv', if_pos (show ¬ (1 : Int32) = 0 by decide), zI_sI, h4]
      have ed : nI d - 1 = nI (d - 1) := nI_sub (a := d) (b := 1) (by omega)
      rcases (show d = 1 ∨ d = 2 by omega) with rfl | rfl
      · have e3 : zI (zsI S 0 a 4 (nI 0)) 0 a 3 = nI (t + 1) := by rw [zI_sI, if_neg (by omega)]; exact h3'
        simp [h3', nI_pred, lck0, ed]
        rw [if_pos (show nI 0 = 0 from rfl)]
        simp only [Option.bind_some]
        rw [if_pos (show z_b (1 : Int32) = 1 by decide)]
      · have e3 : zI (zsI S 0 a 4 (nI 1)) 0 a 3 = nI (t + 1) := by rw [zI_sI, if_neg (by omega)]; exact h3'
        simp [lck1, ed]
        rw [if_neg (show ¬ nI 1 = 0 by decide), zsI_id e3]
        simp only [Option.bind_some]
        rw [if_pos (show z_b (1 : Int32) = 1 by decide)]
    · have hv' : ¬ (48 ≤ v.toInt ∧ v.toInt ≤ 57) := hv
      rw [if_neg hv]
      simp only [Option.bind_some, stp, if_pos hpos, if_neg hv', not_true_eq_false, if_false]
      rw [if_pos (show z_b (0 : Int32) = 0 by decide)]
theorem byte_id {v : Int32} (h : rg v 33 126) : z_y v.toInt8.toInt32 = v := by
  obtain ⟨m, hm, rfl⟩ := rg_cases (n := 126) (by omega) ⟨by have := h.1; omega, h.2⟩
  have : ∀ m, m < 127 → z_y (nI m).toInt8.toInt32 = nI m := by decide +kernel
  exact this m (by omega)
theorem AIn.sg {A : ZA} (hA : AIn A) {a : Nat} (ha : a < 8) : A.2 41 a = nI (aSn A a) ∧ aSn A a ≤ 60 := hA.2.2.2.2.2.1.1 a ha
def A_sgn (A : ZA) (a : Nat) (v : Int32) : ZA := aR (aR A 42 (60 * a + aSn A a) v) 41 a (nI (aSn A a + 1))
theorem sgn_n {A : ZA} {a : Nat} {v : Int32} (hn : aSn A a ≤ 60) (b : Nat) : aSn (A_sgn A a v) b = if b = a then aSn A a + 1 else aSn A b := by
  show ((if 41 = 41 ∧ b = a then nI (aSn A a + 1) else A.2 41 b)).toNatClampNeg = _
  by_cases e : b = a
  · rw [if_pos ⟨rfl, e⟩, if_pos e, nI_clamp (by omega)]
  · rw [if_neg (fun z => e z.2), if_neg e]; rfl
theorem sgn_s {A : ZA} {a : Nat} {v : Int32} (b k : Nat) (hk : k < 60) (hn : aSn A a < 60) : (A_sgn A a v).2 42 (60 * b + k) = if b = a ∧ k = aSn A a then v else A.2 42 (60 * b + k) := by
  show (if 42 = 42 ∧ 60 * b + k = 60 * a + aSn A a then v else A.2 42 (60 * b + k)) = _
  by_cases e : b = a ∧ k = aSn A a
  · rw [if_pos e, if_pos ⟨rfl, by rw [e.1, e.2]⟩]
  · rw [if_neg e, if_neg (fun z => e (by omega))]
theorem sgn_AIn {A : ZA} (hA : AIn A) {a : Nat} {v : Int32} (ha : a < aN A 17) (hn : aSn A a < 60) (hv : rg v 33 126) : AIn (A_sgn A a v) := by
  have c17 := hA.c17.2
  obtain ⟨q1, q2, q3, q4⟩ := hA.2.2.2.2.2.1
  refine ⟨hA.1, hA.2.1, hA.2.2.1, hA.2.2.2.1, hA.2.2.2.2.1, ⟨fun b hb => ?_, fun b h1 h2 => ?_, q3, fun b k hb hk => ?_⟩, hA.2.2.2.2.2.2⟩
  · show (A_sgn A a v).2 41 b = nI (aSn (A_sgn A a v) b) ∧ aSn (A_sgn A a v) b ≤ 60
    rw [sgn_n (by omega)]
    by_cases e : b = a
    · rw [if_pos e, e]; exact ⟨aR_eq, by omega⟩
    · rw [if_neg e]
      have e2 : (A_sgn A a v).2 41 b = A.2 41 b := aR_ne (by omega)
      rw [e2]; exact hA.sg hb
  · have h1' : aN A 17 ≤ b := h1
    have e2 : (A_sgn A a v).2 41 b = A.2 41 b := aR_ne (by omega)
    rw [e2]; exact q2 b h1 h2
  · have hb' : b < aN A 17 := hb
    have hk' : k < aSn (A_sgn A a v) b := hk
    rw [sgn_n (by omega)] at hk'
    have hb60 := (hA.sg (show b < 8 by omega)).2
    rw [sgn_s b k (by split at hk' <;> omega) hn]
    by_cases e : b = a ∧ k = aSn A a
    · rw [if_pos e]; exact hv
    · rw [if_neg e]
      refine q4 b k hb' ?_
      show k < aSn A b
      by_cases e2 : b = a
      · rw [if_pos e2] at hk'; rw [e2]; omega
      · rw [if_neg e2] at hk'; exact hk'
/-- what the reading of a sign leaves -/
def TF (S T : ZH) (a : Nat) : Prop := (∀ k, k ≠ 0 → eqK S T k) ∧ zN T 0 = zN S 0 ∧ zR T 0 = zR S 0 ∧ zc T = zc S ∧ zs T = zs S ∧ (∀ i, i ≠ a → zI T 0 i = zI S 0 i) ∧ zI T 0 a 0 = zI S 0 a 0 ∧ zI T 0 a 1 = zI S 0 a 1
theorem TF.rf {S : ZH} {a : Nat} : TF S S a := ⟨fun _ _ => eqK.rf, rfl, rfl, rfl, rfl, fun _ _ => rfl, rfl, rfl⟩
theorem TF.sI {S T : ZH} {a j : Nat} {v : Int32} (h : TF S T a) (hj : 2 ≤ j) : TF S (zsI T 0 a j v) a := by
  obtain ⟨h1, h2, h3, h4, h5, h6, h7, h8⟩ := h
  refine ⟨fun k hk => (h1 k hk).tr (eqK_sI hk), h2, h3, h4, h5, fun i hi => ?_, ?_, ?_⟩
  · rw [← h6 i hi]; funext q; rw [zI_sI, if_neg (fun z => hi z.1)]
  · rw [zI_sI, if_neg (by omega)]; exact h7
  · rw [zI_sI, if_neg (by omega)]; exact h8
def pOK (T : ZH) (a : Nat) (r : Nat ⊕ (Nat × Nat)) : Prop := match r with
  | .inl f => zI T 0 a 5 = nI f
  | .inr q => zI T 0 a 5 = -9 ∧ zI T 0 a 4 = nI q.2 ∧ zI T 0 a 3 = nI (if 0 < q.2 then q.1 + 1 else q.1)
theorem add_eq {A : ZA} {S : ZH} (hA : AIn A) (h : RC A S) {a : Nat} {v : Int32} (ha : a < aN A 17) (hn : aSn A a < 60) (hv : rg v 33 126) : ∃ T, f_X0_add a v S = some (zsI (zsI T 13 a (aSn A a) v) 0 a 1 (nI (aSn A a + 1))) ∧ TF S T a ∧ pOK T a (prs (aSg (A_sgn A a v) a) (aSn A a + 1)) := by
  have c17 := hA.c17.2
  obtain ⟨r24, r2, l13, z0, z1, zs13, hp⟩ := h.acts.2.2.2 a ha
  have hsg := hA.sg (show a < 8 by omega)
  have hpr : prs (aSg (A_sgn A a v) a) (aSn A a + 1) = match prs (aSg A a) (aSn A a) with | .inl f => Sum.inl f | .inr q => stp (aSn A a) v q := by
    show (match prs (aSg (A_sgn A a v) a) (aSn A a) with | .inl f => Sum.inl f | .inr q => stp (aSn A a) (aSg (A_sgn A a v) a (aSn A a)) q) = _
    have e1 : aSg (A_sgn A a v) a (aSn A a) = v := by
      unfold aSg
      rw [sgn_s a _ hn hn, if_pos ⟨rfl, rfl⟩]
    have e2 : prs (aSg (A_sgn A a v) a) (aSn A a) = prs (aSg A a) (aSn A a) := prs_congr (fun k hk => by
      unfold aSg
      rw [sgn_s a k (by omega) hn, if_neg (by omega)])
    rw [e1, e2]
  have e38 : ∀ T, TF S T a → j_X0_add_38 a v T = some (zsI (zsI T 13 a (aSn A a) v) 0 a 1 (nI (aSn A a + 1))) := by
    intro T hT
    obtain ⟨t1, t2, t3, t4, t5, t6, t7, t8⟩ := hT
    have e1 : zI T 0 a 1 = nI (aSn A a) := by rw [t8, z1, hsg.1]
    unfold j_X0_add_38
    rw [t3, r2, e1, byte_id hv]
    simp only [Option.bind_some]
    rw [zst_at (m := 60) (by rw [(t1 13 (by decide)).2.1]; exact l13) hn (by decide)]
    simp only [Option.bind_some]
    rw [show zI (zsI T 13 a (aSn A a) v) 0 a 1 = nI (aSn A a) from e1, nI_1]
  unfold f_X0_add
  rw [r2, z1, hsg.1]
  simp only [Option.bind_some]
  rw [l13, if_pos (by rw [nI_lt_iff (by omega) (by decide)]; exact hn), hpr]
  cases hq : prs (aSg A a) (aSn A a) with
  | inl f =>
    rw [hq] at hp
    have hf := prs_lt hq
    have hp' : zI S 0 a 5 = nI f := hp
    refine ⟨S, ?_, TF.rf, hp'⟩
    rw [hp', if_pos (nI_n9 (by omega))]
    exact e38 S TF.rf
  | inr q =>
    rw [hq] at hp
    obtain ⟨t, d⟩ := q
    obtain ⟨p5, p4, p3⟩ := hp
    have hb := prs_bd hq
    rw [p5, if_neg (fun z => z rfl), goes_eq (n := aSn A a) p4 p3 (by have := hb.1; simp only at this; omega) hb.2]
    dsimp only
    cases hs : stp (aSn A a) v (t, d) with
    | inl f =>
      have hfn : f = aSn A a := by
        simp only [stp] at hs
        grind
      refine ⟨zsI S 0 a 5 (nI (aSn A a)), ?_, TF.rf.sI (by omega), ?_⟩
      · simp only [Option.bind_some, if_neg (show ¬ ¬ (0 : Int32) = 0 by decide)]
        rw [z1, hsg.1]
        exact e38 _ (TF.rf.sI (by omega))
      · show zI (zsI S 0 a 5 (nI (aSn A a))) 0 a 5 = nI f
        rw [zI_sI, if_pos ⟨rfl, rfl⟩, hfn]
    | inr q =>
      refine ⟨zsI (zsI S 0 a 4 (nI q.2)) 0 a 3 (nI (lck q)), ?_, (TF.rf.sI (by omega)).sI (by omega), ?_, ?_, ?_⟩
      · simp only [Option.bind_some, if_pos (show ¬ (1 : Int32) = 0 by decide)]
        exact e38 _ ((TF.rf.sI (by omega)).sI (by omega))
      · rw [zI_sI, if_neg (by omega), zI_sI, if_neg (by omega)]; exact p5
      · rw [zI_sI, if_neg (by omega), zI_sI, if_pos ⟨rfl, rfl⟩]
      · rw [zI_sI, if_pos ⟨rfl, rfl⟩]
theorem sgn_RC {A : ZA} {S T : ZH} (hA : AIn A) (h : RC A S) {a : Nat} {v : Int32} (ha : a < aN A 17) (hn : aSn A a < 60) (hT : TF S T a) (hp : pOK T a (prs (aSg (A_sgn A a v) a) (aSn A a + 1))) : RC (A_sgn A a v) (zsI (zsI T 13 a (aSn A a) v) 0 a 1 (nI (aSn A a + 1))) := by
  have c17 := hA.c17.2
  obtain ⟨t1, t2, t3, t4, t5, t6, t7, t8⟩ := hT
  generalize hS1 : zsI (zsI T 13 a (aSn A a) v) 0 a 1 (nI (aSn A a + 1)) = S1
  have k1 : ∀ k, k ≠ 0 → k ≠ 13 → eqK S S1 k := fun k h0 h13 => by
    subst hS1
    exact ((t1 k h0).tr (eqK_sI h13)).tr (eqK_sI h0)
  have kl : ∀ (l : List Nat), l.contains 0 = false → l.contains 13 = false → ∀ k, kIn l k = true → eqK S S1 k := fun l a b k hk => k1 k (kNe a k hk) (kNe b k hk)
  refine ⟨h.sc.k (kl _ rfl rfl), h.town.k (kl _ rfl rfl), h.men.k (kl _ rfl rfl), h.paps.k (kl _ rfl rfl), ?_, h.tks.k (kl _ rfl rfl), h.shps.k (kl _ rfl rfl), h.tix.k (kl _ rfl rfl), h.misc.k (kl _ rfl rfl), ?_⟩
  · have z1a : zI S1 0 a 1 = nI (aSn A a + 1) := by subst hS1; rw [zI_sI, if_pos ⟨rfl, rfl⟩]
    have z0 : ∀ i j, ¬ (i = a ∧ j = 1) → zI S1 0 i j = zI T 0 i j := by
      intro i j e
      subst hS1
      rw [zI_sI, if_neg e]; rfl
    have z13 : ∀ i j, zI S1 13 i j = if i = a ∧ j = aSn A a then v else zI S 13 i j := by
      intro i j
      subst hS1
      show zI (zsI T 13 a (aSn A a) v) 13 i j = _
      rw [zI_sI, (t1 13 (by decide)).2.2.1]
    have l13 : zL S1 13 = zL S 13 := by
      subst hS1
      exact (t1 13 (by decide)).2.1
    have r0 : zR S1 0 = zR S 0 := by subst hS1; exact t3
    refine ⟨?_, ?_, ?_, fun b hb => ?_⟩
    · rw [(k1 11 (by decide) (by decide)).2.2.1]; exact h.acts.1
    · subst hS1; exact t2.trans h.acts.2.1
    · subst hS1
      show zN T 13 = _
      rw [(t1 13 (by decide)).1]; exact h.acts.2.2.1
    · have hb' : b < aN A 17 := hb
      have h0 := h.acts.2.2.2 b hb'
      obtain ⟨g24, g2, g13, g0, g1, gs, gp⟩ := h0
      have hb60 := (hA.sg (show b < 8 by omega)).2
      by_cases e : b = a
      · subst e
        refine ⟨by rw [(k1 24 (by decide) (by decide)).2.2.2]; exact g24, by rw [r0]; exact g2, by rw [l13]; exact g13, by rw [z0 _ _ (by omega), t7]; exact g0, ?_, fun k hk => ?_, ?_⟩
        · rw [z1a]; exact aR_eq.symm
        · rw [sgn_n (by omega), if_pos rfl] at hk
          rw [z13, sgn_s b k (by omega) hn]
          by_cases e2 : k = aSn A b
          · rw [if_pos ⟨rfl, e2⟩, if_pos ⟨rfl, e2⟩]
          · rw [if_neg (fun z => e2 z.2), if_neg (fun z => e2 z.2)]; exact gs k (by omega)
        · rw [sgn_n (by omega), if_pos rfl]
          cases hq : prs (aSg (A_sgn A b v) b) (aSn A b + 1) with
          | inl f =>
            rw [hq] at hp
            show zI S1 0 b 5 = nI f
            rw [z0 _ _ (by omega)]; exact hp
          | inr q =>
            rw [hq] at hp
            show zI S1 0 b 5 = -9 ∧ zI S1 0 b 4 = _ ∧ zI S1 0 b 3 = _
            rw [z0 _ _ (by omega), z0 _ _ (by omega), z0 _ _ (by omega)]; exact hp
      · have zb : ∀ j, zI S1 0 b j = zI S 0 b j := fun j => by rw [z0 _ _ (fun z => e z.1), t6 b e]
        have e41 : (A_sgn A a v).2 41 b = A.2 41 b := aR_ne (by omega)
        have en : aSn (A_sgn A a v) b = aSn A b := by rw [sgn_n (by omega), if_neg e]
        have es : ∀ k, k < aSn A b → (A_sgn A a v).2 42 (60 * b + k) = A.2 42 (60 * b + k) := fun k hk => by rw [sgn_s b k (by omega) hn, if_neg (fun z => e z.1)]
        refine ⟨by rw [(k1 24 (by decide) (by decide)).2.2.2]; exact g24, by rw [r0]; exact g2, by rw [l13]; exact g13, by rw [zb]; exact g0, by rw [zb, e41]; exact g1, fun k hk => ?_, ?_⟩
        · rw [en] at hk
          rw [z13, if_neg (fun z => e z.1), es k hk]; exact gs k hk
        · rw [en, prs_congr (sg := aSg A b) (sg' := aSg (A_sgn A a v) b) (fun k hk => es k hk)]
          cases hq : prs (aSg A b) (aSn A b) with
          | inl f =>
            rw [hq] at gp
            show zI S1 0 b 5 = nI f
            rw [zb]; exact gp
          | inr q =>
            rw [hq] at gp
            show zI S1 0 b 5 = -9 ∧ zI S1 0 b 4 = _ ∧ zI S1 0 b 3 = _
            rw [zb, zb, zb]; exact gp
  · refine h.bud.k (k1 3 (by decide) (by decide)) (k1 17 (by decide) (by decide)) ?_ ?_
    · subst hS1; exact t4
    · subst hS1; exact t5
theorem op_sign {A : ZA} (hA : AIn A) (x v : Int32) : OpE A (f_X11_sign 0 x v) (f_X12_sign 0 x v) := by
  have c := hA.c17
  have c2 := c.2
  by_cases hx : isIx (aN A 17) x
  · obtain ⟨a, ha, rfl⟩ := hx
    have hsg := hA.sg (show a < 8 by omega)
    by_cases hv : rg v 33 126
    · by_cases hn : aSn A a < 60
      · refine ⟨nI (aSn A a + 1), A_sgn A a v, sgn_AIn hA ha hn hv, fun S h => ?_, fun S h => ⟨zsI (zsI (tS S) 42 0 (60 * a + aSn A a) v) 41 0 a (nI (aSn A a + 1)), ?_, (h.t.R 42 _ v (by decide)).R 41 a _ (by decide), frC_t.tr ((frC_R (by decide) (by decide)).tr (frC_R (by decide) (by decide)))⟩⟩
        · obtain ⟨T, e1, hT, hp⟩ := add_eq hA h ha hn hv
          have z1 : zI S 0 a 1 = nI (aSn A a) := by rw [(h.acts.2.2.2 a ha).2.2.2.2.1, hsg.1]
          refine ⟨_, ?_, sgn_RC hA h ha hn hT hp, fun k hk => ?_⟩
          · unfold f_X11_sign
            rw [findAct_ix hA h ha, within_rg (a := 33) (b := 126) (p := 33) (q := 126) rfl rfl hv]
            simp only [Option.bind_some, reduceCtorEq, if_false, if_pos (show ¬ (1 : Int32) = 0 by decide)]
            rw [z1, if_pos (by rw [show (60 : Int32) = nI 60 from rfl, nI_lt_iff (by omega) (by decide)]; exact hn), e1]
            simp only [Option.bind_some]
            rw [zI_sI, if_pos ⟨rfl, rfl⟩]
          · have k0 : k ≠ 0 := fun e => nM 0 rfl (e ▸ hk)
            have k13 : k ≠ 13 := fun e => nM 13 rfl (e ▸ hk)
            exact ((hT.1 k k0).tr (eqK_sI k13)).tr (eqK_sI k0)
        · have e60 : (60 : Int32) * nI a = nI (60 * a) := by rw [show (60 : Int32) = nI 60 from rfl, nI_mul]
          unfold f_X12_sign
          rw [in_ix ((h.t.f 17 rfl).trans c.1) (by omega) ⟨a, ha, rfl⟩, in_rg (a := 33) (b := 126) (p := 33) (q := 126) rfl rfl hv, h.t.ref 19 rfl, h.t.ref 20 rfl]
          simp only [Option.bind_some, if_pos (show ¬ (1 : Int32) = 0 by decide)]
          rw [h.t.ld 8 rfl rfl (by omega) (by decide), hsg.1, e60]
          simp only [Option.bind_some]
          rw [nI_p]
          rw [if_pos (show ¬ nI (aSn A a) = 60 by rw [show (60 : Int32) = nI 60 from rfl, nI_eq (by omega) (by omega)]; omega), h.t.st 480 rfl (by omega) (by decide)]
          have hM := h.t.R 42 (60 * a + aSn A a) v (by decide)
          rw [hM.ref 19 rfl]
          simp only [Option.bind_some]
          rw [hM.ld 8 rfl rfl (by omega) (by decide)]
          simp only [Option.bind_some]
          rw [show (aR A 42 (60 * a + aSn A a) v).2 41 a = nI (aSn A a) from hsg.1, nI_1, hM.st 8 rfl (by omega) (by decide)]
          have hM2 := hM.R 41 a (nI (aSn A a + 1)) (by decide)
          rw [hM2.ref 19 rfl]
          simp only [Option.bind_some]
          rw [hM2.ld 8 rfl rfl (by omega) (by decide), aR_eq]
          rfl
      · have e60 : aSn A a = 60 := by omega
        refine .same hA (-4) (fun S h => ?_) (fun S h => ?_)
        · have z1 : zI S 0 a 1 = nI 60 := by rw [(h.acts.2.2.2 a ha).2.2.2.2.1, hsg.1, e60]
          unfold f_X11_sign
          rw [findAct_ix hA h ha, within_rg (a := 33) (b := 126) (p := 33) (q := 126) rfl rfl hv]
          simp only [Option.bind_some]
          rw [z1]; rfl
        · unfold f_X12_sign
          rw [in_ix ((h.t.f 17 rfl).trans c.1) (by omega) ⟨a, ha, rfl⟩, in_rg (a := 33) (b := 126) (p := 33) (q := 126) rfl rfl hv, h.t.ref 19 rfl]
          simp only [Option.bind_some, if_pos (show ¬ (1 : Int32) = 0 by decide)]
          rw [h.t.ld 8 rfl rfl (by omega) (by decide), hsg.1, e60]; rfl
    · refine .same hA (-2) (fun S h => ?_) (fun S h => ?_)
      · unfold f_X11_sign
        rw [findAct_ix hA h ha, within_nr (a := 33) (b := 126) (p := 33) (q := 126) rfl rfl hv]; rfl
      · unfold f_X12_sign
        rw [in_ix ((h.t.f 17 rfl).trans c.1) (by omega) ⟨a, ha, rfl⟩, in_nr (a := 33) (b := 126) (p := 33) (q := 126) rfl rfl hv]; rfl
  · refine .same hA (-1) (fun S h => ?_) (fun S h => ?_)
    · unfold f_X11_sign; rw [findAct_no hA h hx]; rfl
    · unfold f_X12_sign; rw [in_no ((h.t.f 17 rfl).trans c.1) (by omega) hx]; rfl
