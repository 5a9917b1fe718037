/-! ===== sell, pay, wages, notAshore ===== -/
theorem isHolderC (x : Int32) (S : ZH) : f_X11_isHolder x S = some (if rg x 0 9 then 1 else 0) := by
  unfold f_X11_isHolder
  by_cases h : rg x 0 9
  · rw [within_rg (p := 0) (q := 9) rfl rfl h, if_pos h]; rfl
  · rw [within_nr (p := 0) (q := 9) rfl rfl h, if_neg h]; rfl
theorem noHolderM (x : Int32) (S : ZH) : f_X12_noHolder x S = some (if rg x 0 9 then 0 else 1) := by
  unfold f_X12_noHolder
  by_cases h : rg x 0 9
  · rw [in_rg (p := 0) (q := 9) rfl rfl h, if_pos h]; rfl
  · rw [in_nr (p := 0) (q := 9) rfl rfl h, if_neg h]; rfl
def tMan (A : ZA) (t : Nat) : Nat := (A.2 48 t).toNatClampNeg
def A_give (A : ZA) (t : Nat) (h v : Int32) : ZA := if h = -9 then aR A 54 (tMan A t) (A.2 54 (tMan A t) + v) else aR A 53 h.toNatClampNeg (A.2 53 h.toNatClampNeg + v)
theorem AIn.tkm {A : ZA} (hA : AIn A) {t : Nat} (ht : t < aN A 31) : A.2 48 t = nI (tMan A t) ∧ tMan A t < aN A 5 := by
  obtain ⟨m, hm, e⟩ := (hA.tx ht).1
  have h5 := hA.c5.2
  have : tMan A t = m := by unfold tMan; rw [e, nI_clamp (by omega)]
  rw [this]; exact ⟨e, hm⟩
theorem give_k {A : ZA} {t : Nat} {h v : Int32} {k : Nat} (h1 : k ≠ 53) (h2 : k ≠ 54) : (A_give A t h v).2 k = A.2 k := by
  unfold A_give
  split
  · funext i; exact aR_ne (fun z => h2 z.1)
  · funext i; exact aR_ne (fun z => h1 z.1)
theorem give_1 {A : ZA} {t : Nat} {h v : Int32} : (A_give A t h v).1 = A.1 := by unfold A_give; split <;> rfl
theorem give_AIn {A : ZA} (hA : AIn A) {t : Nat} {h v : Int32} (ht : t < aN A 31) : AIn (A_give A t h v) := by
  unfold A_give
  split
  · refine ⟨hA.1, hA.2.1, hA.2.2.1, hA.2.2.2.1, hA.2.2.2.2.1, hA.2.2.2.2.2.1, hA.2.2.2.2.2.2.1, hA.2.2.2.2.2.2.2.1, fun m h1 h2 => ?_⟩
    have h1' : aN A 5 ≤ m := h1
    have := (hA.tkm ht).2
    rw [aR_ne (by omega)]
    exact hA.2.2.2.2.2.2.2.2 m h1 h2
  · exact ⟨hA.1, hA.2.1, hA.2.2.1, hA.2.2.2.1, hA.2.2.2.2.1, hA.2.2.2.2.2.1, hA.2.2.2.2.2.2.1, hA.2.2.2.2.2.2.2.1, hA.2.2.2.2.2.2.2.2⟩
theorem i32_rc (a b c : Int32) : a + b + c = a + c + b := by
  rw [Int32.add_assoc, Int32.add_comm b c, ← Int32.add_assoc]
theorem purse_RC {A : ZA} {S : ZH} (h : RC A S) {j : Nat} {v : Int32} (hj : j < 10) : RC (aR A 53 j (A.2 53 j + v)) (zsI S 27 0 j (zI S 27 0 j + v)) := by
  refine ⟨h.sc, h.town, h.men, h.paps, h.acts, h.tks, h.shps, h.tix, ⟨h.misc.1, h.misc.2.1, h.misc.2.2.1, fun q hq => ?_⟩, h.bud⟩
  rw [zI_sI]
  by_cases e : q = j
  · subst e; rw [if_pos ⟨rfl, rfl⟩, aR_eq, h.misc.2.2.2 q hq, i32_rc]
  · rw [if_neg (fun z => e z.2), aR_ne (by omega)]; exact h.misc.2.2.2 q hq
theorem got_RC {A : ZA} {S : ZH} (h : RC A S) {m : Nat} {v : Int32} (hm : m < aN A 5) : RC (aR A 54 m (A.2 54 m + v)) (zsI S 3 m 9 (zI S 3 m 9 + v)) := by
  have hman : ∀ j, j < aN A 5 → RMan (aR A 54 m (A.2 54 m + v)) (zsI S 3 m 9 (zI S 3 m 9 + v)) j := by
    intro j hj
    have h0 := h.man hj
    have ez : ∀ q, q ≠ 9 → zI (zsI S 3 m 9 (zI S 3 m 9 + v)) 3 j q = zI S 3 j q := fun q hq => by rw [zI_sI, if_neg (fun z => hq z.2)]
    refine h0.cg rfl rfl (ez 13 (by omega)) rfl rfl rfl rfl rfl rfl rfl rfl (fun q hq => (ez q (by omega)).trans (h0.1 q hq)) (ez 8 (by omega)) ?_ h0.2.2.2.1
    rw [zI_sI]
    by_cases e : j = m
    · subst e; rw [if_pos ⟨rfl, rfl⟩, aR_eq, h0.2.2.1]
    · rw [if_neg (fun z => e z.1), aR_ne (by omega)]; exact h0.2.2.1
  exact ⟨h.sc, h.town, ⟨h.men.1, h.men.2.1, fun j hj => ⟨(h.men.2.2.1 j hj).1, hman j hj⟩, h.men.2.2.2⟩, h.paps, h.acts, h.tks, h.shps, h.tix, h.misc, h.bud⟩
theorem ten_ix {x : Int32} (h : rg x 0 9) : ∃ j, j < 10 ∧ x = nI j := by
  obtain ⟨j, hj, e⟩ := rg_cases (n := 9) (by omega) h
  exact ⟨j, by omega, e⟩
theorem nI_n9 {j : Nat} (hj : j < 2 ^ 31) : ¬ nI j = -9 := fun e => by
  have h1 := congrArg Int32.toInt e
  rw [nI_toInt hj] at h1
  have h2 : (-9 : Int32).toInt = -9 := rfl
  omega
theorem give_C {A : ZA} {S : ZH} (hA : AIn A) (h : RC A S) {t : Nat} (ht : t < aN A 31) {x : Int32} (hx : x = -9 ∨ rg x 0 9) (v : Int32) : ∃ S1, f_X11_give 0 (some t) x v S = some S1 ∧ RC (A_give A t x v) S1 ∧ frM S S1 ∧ zI S1 9 = zI S 9 := by
  unfold f_X11_give
  by_cases h9 : x = -9
  · subst h9
    obtain ⟨e1, e2⟩ := hA.tkm ht
    refine ⟨zsI S 3 (tMan A t) 9 (zI S 3 (tMan A t) 9 + v), ?_, ?_, frM_sI (nM 3 rfl), rfl⟩
    · rw [isHolderC, if_neg (by decide)]
      simp only [Option.bind_some, if_true]
      rw [(h.tix.2.2 t ht).2.1, e1, findMan_ix hA h e2]
      rfl
    · unfold A_give
      rw [if_pos rfl]
      exact got_RC h e2
  · have hr : rg x 0 9 := by rcases hx with e | e; exact absurd e h9; exact e
    obtain ⟨j, hj, rfl⟩ := ten_ix hr
    refine ⟨zsI S 27 0 j (zI S 27 0 j + v), ?_, ?_, frM_sI (nM 27 rfl), rfl⟩
    · rw [isHolderC, if_pos hr, h.ref 11 12 rfl]
      simp only [Option.bind_some]
      rw [zld_at (h.len 27 10 rfl) hj (by decide)]
      simp only [Option.bind_some]
      rw [zst_at (h.len 27 10 rfl) hj (by decide)]
      rfl
    · unfold A_give
      rw [if_neg h9, nI_clamp (by omega)]
      exact purse_RC h hj
theorem give_M {A : ZA} {S : ZH} (hA : AIn A) (h : MV A S) {t : Nat} (ht : t < aN A 31) {x : Int32} (hx : x = -9 ∨ rg x 0 9) (v : Int32) : ∃ S1, f_X12_give 0 (nI t) x v S = some S1 ∧ MV (A_give A t x v) S1 ∧ frC S S1 := by
  have c31 := hA.c31.2
  have c5 := hA.c5.2
  unfold f_X12_give
  by_cases h9 : x = -9
  · subst h9
    obtain ⟨e1, e2⟩ := hA.tkm ht
    refine ⟨zsI S 54 0 (tMan A t) (A.2 54 (tMan A t) + v), ?_, ?_, frC_R (by decide) (by decide)⟩
    · rw [if_neg (by decide), h.ref 32 rfl, h.ref 38 rfl]
      simp only [Option.bind_some]
      rw [h.ld 40 rfl rfl (by omega) (by decide), e1]
      simp only [Option.bind_some]
      rw [h.ld 40 rfl rfl (by omega) (by decide)]
      simp only [Option.bind_some]
      rw [h.st 40 rfl (by omega) (by decide)]
    · unfold A_give
      rw [if_pos rfl]
      exact h.R 54 _ _ (by decide)
  · have hr : rg x 0 9 := by rcases hx with e | e; exact absurd e h9; exact e
    obtain ⟨j, hj, rfl⟩ := ten_ix hr
    refine ⟨zsI S 53 0 j (A.2 53 j + v), ?_, ?_, frC_R (by decide) (by decide)⟩
    · rw [if_pos h9, h.ref 37 rfl]
      simp only [Option.bind_some]
      rw [h.ld 10 rfl rfl hj (by decide)]
      simp only [Option.bind_some]
      rw [h.st 10 rfl hj (by decide)]
    · unfold A_give
      rw [if_neg h9, nI_clamp (by omega)]
      exact h.R 53 _ _ (by decide)
theorem tixRC {A : ZA} {S : ZH} (h : RC A S) {t : Nat} {v : Int32} : RC (aR A 50 t v) (zsI S 9 t 2 v) ∧ RC (aR A 51 t v) (zsI S 9 t 3 v) ∧ RC (aR A 52 t v) (zsI S 9 t 4 v) := by
  refine ⟨?_, ?_, ?_⟩
  all_goals refine ⟨h.sc, h.town, h.men, h.paps, h.acts, h.tks, h.shps, ⟨h.tix.1, h.tix.2.1, fun q hq => ?_⟩, h.misc, h.bud⟩
  all_goals obtain ⟨r, a0, a1, a2, a3, a4⟩ := h.tix.2.2 q hq
  all_goals refine ⟨r, ?_, ?_, ?_, ?_, ?_⟩
  all_goals simp [aR, zI_sI, a0, a1, a2, a3, a4]
theorem tixA {A : ZA} (hA : AIn A) {t : Nat} {v : Int32} (ht : t < aN A 31) : ((v = -9 ∨ isIx 10 v) → AIn (aR A 50 t v)) ∧ (b01 v → AIn (aR A 51 t v)) ∧ AIn (aR A 52 t v) := by
  refine ⟨fun hv => ?_, fun hv => ?_, ?_⟩
  all_goals refine ⟨hA.1, hA.2.1, hA.2.2.1, hA.2.2.2.1, hA.2.2.2.2.1, hA.2.2.2.2.2.1, hA.2.2.2.2.2.2.1, fun q hq => ⟨fun h1 => ?_, fun h1 => ?_⟩, hA.2.2.2.2.2.2.2.2⟩
  · have h0 := hA.tx (t := q) h1
    refine ⟨h0.1, h0.2.1, ?_, h0.2.2.2⟩
    by_cases e : q = t
    · subst e; rw [aR_eq]; exact hv
    · rw [aR_ne (by omega)]; exact h0.2.2.1
  · exact hA.tx0 h1 hq
  · have h0 := hA.tx (t := q) h1
    refine ⟨h0.1, h0.2.1, h0.2.2.1, ?_⟩
    by_cases e : q = t
    · subst e; rw [aR_eq]; exact hv
    · rw [aR_ne (by omega)]; exact h0.2.2.2
  · have h1' : aN A 31 ≤ q := h1
    rw [aR_ne (by omega)]; exact hA.tx0 h1 hq
  · exact hA.tx (t := q) h1
  · have h1' : aN A 31 ≤ q := h1
    refine ⟨(hA.tx0 h1 hq).1, ?_⟩
    rw [aR_ne (by omega)]; exact (hA.tx0 h1 hq).2
theorem give_N {A : ZA} {t : Nat} {h v : Int32} (j : Nat) : aN (A_give A t h v) j = aN A j := by unfold aN; rw [give_1]
theorem ix10 {x : Int32} (h : x = -9 ∨ isIx 10 x) : x = -9 ∨ rg x 0 9 := by
  rcases h with h | ⟨j, hj, rfl⟩
  · exact Or.inl h
  · refine Or.inr ⟨?_, ?_⟩ <;> rw [nI_toInt (by omega)] <;> omega
theorem op_sell {A : ZA} (hA : AIn A) (x y z : Int32) : OpE A (f_X11_sell 0 x y z) (f_X12_sell 0 x y z) := by
  have c31 := hA.c31.2
  by_cases hx : isIx (aN A 31) x
  · obtain ⟨t, ht, rfl⟩ := hx
    have hT := hA.tx ht
    by_cases hy : rg y 0 9
    · by_cases hz : rg z 1 100
      · by_cases hp : A.2 51 t = 0
        · by_cases hh : A.2 50 t = y
          · refine .same hA (-3) (fun S h => ?_) (fun S h => ?_)
            · obtain ⟨r, a0, a1, a2, a3, a4⟩ := h.tix.2.2 t ht
              unfold f_X11_sell
              rw [findTicket_ix hA h ht, isHolderC, if_pos hy, within_rg (a := 1) (b := 100) (p := 1) (q := 100) rfl rfl hz]
              simp only [Option.bind_some]
              rw [a3, hp, a2, hh]; simp
            · unfold f_X12_sell
              rw [noTicket_ix hA h.t ht, noHolderM, if_pos hy, in_rg (a := 1) (b := 100) (p := 1) (q := 100) rfl rfl hz, h.t.ref 35 rfl, h.t.ref 34 rfl]
              simp only [Option.bind_some]
              rw [h.t.ld (k := 51) 40 rfl rfl (by omega) (by decide), h.t.ld (k := 50) 40 rfl rfl (by omega) (by decide), hp, hh]; simp
          · generalize hn : A.2 49 t * z / 100 = n
            obtain ⟨j, hj, rfl⟩ := ten_ix hy
            have hA1 := give_AIn (h := A.2 50 t) (v := n) hA ht
            have ht1 : t < aN (A_give A t (A.2 50 t) n) 31 := by rw [give_N]; exact ht
            have hA2 := give_AIn (h := nI j) (v := -n) hA1 ht1
            have ht2 : t < aN (A_give (A_give A t (A.2 50 t) n) t (nI j) (-n)) 31 := by rw [give_N]; exact ht1
            refine ⟨n, aR (A_give (A_give A t (A.2 50 t) n) t (nI j) (-n)) 50 t (nI j), (tixA hA2 ht2).1 (Or.inr ⟨j, hj, rfl⟩), fun S h => ?_, fun S h => ?_⟩
            · obtain ⟨r, a0, a1, a2, a3, a4⟩ := h.tix.2.2 t ht
              obtain ⟨S1, e1, h1, fr1, z9⟩ := give_C hA h ht (ix10 hT.2.2.1) n
              have h2 : RC (A_give (A_give A t (A.2 50 t) n) t (nI j) (-n)) (zsI S1 27 0 j (zI S1 27 0 j + -n)) := by
                unfold A_give
                rw [if_neg (c := nI j = -9) (nI_n9 (by omega)), nI_clamp (by omega)]
                exact purse_RC h1 hj
              refine ⟨zsI (zsI S1 27 0 j (zI S1 27 0 j + -n)) 9 t 2 (nI j), ?_, (tixRC h2).1, fr1.tr ((frM_sI (nM 27 rfl)).tr (frM_sI (nM 9 rfl)))⟩
              unfold f_X11_sell
              rw [findTicket_ix hA h ht, isHolderC, if_pos hy, within_rg (a := 1) (b := 100) (p := 1) (q := 100) rfl rfl hz]
              simp only [Option.bind_some]
              rw [a3, hp, a2, a1, hn, if_pos hh, e1]
              simp only [Option.bind_some]
              rw [h1.ref 11 12 rfl]
              simp only [Option.bind_some]
              rw [zld_at (h1.len 27 10 rfl) hj (by decide)]
              simp only [Option.bind_some]
              rw [zst_at (h1.len 27 10 rfl) hj (by decide), Int32.sub_eq_add_neg]
              rfl
            · obtain ⟨S1, e1, h1, fr1⟩ := give_M hA h.t ht (ix10 hT.2.2.1) n
              obtain ⟨S2, e2, h2, fr2⟩ := give_M hA1 h1 ht1 (Or.inr hy) (-n)
              refine ⟨zsI S2 50 0 t (nI j), ?_, h2.R 50 _ _ (by decide), frC_t.tr (fr1.tr (fr2.tr (frC_R (by decide) (by decide))))⟩
              unfold f_X12_sell
              rw [noTicket_ix hA h.t ht, noHolderM, if_pos hy, in_rg (a := 1) (b := 100) (p := 1) (q := 100) rfl rfl hz, h.t.ref 35 rfl, h.t.ref 34 rfl, h.t.ref 33 rfl]
              simp only [Option.bind_some]
              rw [h.t.ld (k := 51) 40 rfl rfl (by omega) (by decide), h.t.ld (k := 50) 40 rfl rfl (by omega) (by decide), h.t.ld (k := 49) 40 rfl rfl (by omega) (by decide)]
              simp only [Option.bind_some]
              rw [hp, hn, e1, if_pos hh]
              simp only [Option.bind_some]
              rw [e2]
              simp only [Option.bind_some]
              rw [h2.ref 34 rfl]
              simp only [Option.bind_some]
              rw [h2.st 40 rfl (by omega) (by decide)]
              simp
        · refine .same hA (-3) (fun S h => ?_) (fun S h => ?_)
          · obtain ⟨r, a0, a1, a2, a3, a4⟩ := h.tix.2.2 t ht
            unfold f_X11_sell
            rw [findTicket_ix hA h ht, isHolderC, if_pos hy, within_rg (a := 1) (b := 100) (p := 1) (q := 100) rfl rfl hz]
            simp only [Option.bind_some]
            rw [a3, if_pos hp]; rfl
          · unfold f_X12_sell
            rw [noTicket_ix hA h.t ht, noHolderM, if_pos hy, in_rg (a := 1) (b := 100) (p := 1) (q := 100) rfl rfl hz, h.t.ref 35 rfl]
            simp only [Option.bind_some]
            rw [h.t.ld (k := 51) 40 rfl rfl (by omega) (by decide)]
            simp only [Option.bind_some]
            rw [if_pos hp]; rfl
      · refine .same hA (-2) (fun S h => ?_) (fun S h => ?_)
        · unfold f_X11_sell
          rw [findTicket_ix hA h ht, isHolderC, if_pos hy, within_nr (a := 1) (b := 100) (p := 1) (q := 100) rfl rfl hz]; rfl
        · unfold f_X12_sell
          rw [noTicket_ix hA h.t ht, noHolderM, if_pos hy, in_nr (a := 1) (b := 100) (p := 1) (q := 100) rfl rfl hz]; rfl
    · refine .same hA (-1) (fun S h => ?_) (fun S h => ?_)
      · unfold f_X11_sell
        rw [findTicket_ix hA h ht, isHolderC, if_neg hy]; rfl
      · unfold f_X12_sell
        rw [noTicket_ix hA h.t ht, noHolderM, if_neg hy]; rfl
  · refine .same hA (-1) (fun S h => ?_) (fun S h => ?_)
    · unfold f_X11_sell; rw [findTicket_no hA h hx]; rfl
    · unfold f_X12_sell; rw [noTicket_no hA h.t hx]; rfl
theorem op_pay {A : ZA} (hA : AIn A) (x y : Int32) : OpE A (f_X11_pay 0 x y) (f_X12_pay 0 x y) := by
  have c31 := hA.c31.2
  by_cases hx : isIx (aN A 31) x
  · obtain ⟨t, ht, rfl⟩ := hx
    have hT := hA.tx ht
    by_cases hy : y = -9 ∨ rg y 0 9
    · have eX : ∀ S, RC A S → f_X11_pay 0 (nI t) y S = j_X11_pay_25 0 y (some t) S := by
        intro S h
        unfold f_X11_pay
        rw [findTicket_ix hA h ht, isHolderC]
        by_cases h9 : y = -9
        · simp [h9]
        · rcases hy with e | e
          · exact absurd e h9
          · simp [h9, e]
      have eM : ∀ S, MV A S → f_X12_pay 0 (nI t) y S = j_X12_pay_28 0 (nI t) y (tS S) := by
        intro S h
        unfold f_X12_pay
        rw [noTicket_ix hA h.t ht, noHolderM]
        by_cases h9 : y = -9
        · simp [h9]
        · rcases hy with e | e
          · exact absurd e h9
          · simp [h9, e]
      have fin58 : ∀ (A1 : ZA) (S : ZH), AIn A1 → aN A1 31 = aN A 31 → A1.2 49 = A.2 49 → RC A1 S → ∃ S1, j_X11_pay_58 0 y t S = some (A.2 49 t, S1) ∧ RC (A_give A1 t y (A.2 49 t)) S1 ∧ frM S S1 := by
        intro A1 S hA1 en e49 h
        have ht1 : t < aN A1 31 := by rw [en]; exact ht
        obtain ⟨r, a0, a1, a2, a3, a4⟩ := h.tix.2.2 t ht1
        rw [e49] at a1
        obtain ⟨S1, e1, h1, fr1, z9⟩ := give_C hA1 h ht1 hy (A.2 49 t)
        refine ⟨S1, ?_, h1, fr1⟩
        unfold j_X11_pay_58
        rw [a1, e1]
        simp only [Option.bind_some]
        rw [z9, a1]
      have fin67 : ∀ (A1 : ZA) (S : ZH), AIn A1 → aN A1 31 = aN A 31 → A1.2 49 = A.2 49 → MV A1 S → ∃ S1, j_X12_pay_67 0 (nI t) y S = some (A.2 49 t, S1) ∧ MV (A_give A1 t y (A.2 49 t)) S1 ∧ frC S S1 := by
        intro A1 S hA1 en e49 h
        have ht1 : t < aN A1 31 := by rw [en]; exact ht
        obtain ⟨S1, e1, h1, fr1⟩ := give_M hA1 h ht1 hy (A.2 49 t)
        refine ⟨S1, ?_, h1, fr1⟩
        unfold j_X12_pay_67
        rw [h.ref 33 rfl]
        simp only [Option.bind_some]
        rw [h.ld 40 rfl rfl (by omega) (by decide), e49]
        simp only [Option.bind_some]
        rw [e1]
        simp only [Option.bind_some]
        rw [h1.ref 33 rfl]
        simp only [Option.bind_some]
        rw [h1.ld 40 rfl rfl (by omega) (by decide), give_k (by decide) (by decide), e49]
        rfl
      by_cases hg : A.2 51 t = 0 ∧ A.2 50 t = y
      · have hA1 : AIn (aR A 51 t 1) := (tixA hA ht).2.1 (Or.inr rfl)
        refine ⟨A.2 49 t, A_give (aR A 51 t 1) t y (A.2 49 t), give_AIn hA1 ht, fun S h => ?_, fun S h => ?_⟩
        · obtain ⟨r, a0, a1, a2, a3, a4⟩ := h.tix.2.2 t ht
          obtain ⟨S1, e1, h1, fr1⟩ := fin58 _ _ hA1 rfl rfl (tixRC h (t := t) (v := 1)).2.1
          refine ⟨S1, ?_, h1, (frM_sI (nM 9 rfl)).tr fr1⟩
          rw [eX S h]
          unfold j_X11_pay_25
          simp only [Option.bind_some]
          rw [a3, a2, hg.1, if_pos hg.2, e1]; rfl
        · obtain ⟨S1, e1, h1, fr1⟩ := fin67 _ _ hA1 rfl rfl (h.t.R 51 t 1 (by decide))
          refine ⟨S1, ?_, h1, frC_t.tr ((frC_R (by decide) (by decide)).tr fr1)⟩
          rw [eM S h]
          unfold j_X12_pay_28
          rw [h.t.ref 35 rfl, h.t.ref 34 rfl, show z_b (1 : Int32) = 1 from rfl]
          simp only [Option.bind_some]
          rw [h.t.ld (k := 51) 40 rfl rfl (by omega) (by decide), h.t.ld (k := 50) 40 rfl rfl (by omega) (by decide), h.t.st 40 rfl (by omega) (by decide), e1]
          simp only [Option.bind_some]
          rw [hg.1, if_pos hg.2]; rfl
      · have hA1 : AIn (aR A 52 t (A.2 52 t + 1)) := (tixA hA ht).2.2
        refine ⟨A.2 49 t, A_give (aR A 52 t (A.2 52 t + 1)) t y (A.2 49 t), give_AIn hA1 ht, fun S h => ?_, fun S h => ?_⟩
        · obtain ⟨r, a0, a1, a2, a3, a4⟩ := h.tix.2.2 t ht
          obtain ⟨S1, e1, h1, fr1⟩ := fin58 _ _ hA1 rfl rfl (tixRC h (t := t) (v := A.2 52 t + 1)).2.2
          refine ⟨S1, ?_, h1, (frM_sI (nM 9 rfl)).tr fr1⟩
          rw [eX S h]
          unfold j_X11_pay_25 j_X11_pay_40
          simp only [Option.bind_some]
          rw [a3, a2, a4, e1]
          by_cases q1 : A.2 51 t = 0
          · rw [if_neg (fun z => z q1), if_neg (fun z => hg ⟨q1, z⟩)]
          · rw [if_pos q1]
        · obtain ⟨S1, e1, h1, fr1⟩ := fin67 _ _ hA1 rfl rfl (h.t.R 52 t (A.2 52 t + 1) (by decide))
          refine ⟨S1, ?_, h1, frC_t.tr ((frC_R (by decide) (by decide)).tr fr1)⟩
          have e47 : j_X12_pay_47 0 (nI t) y (tS S) = some (A.2 49 t, S1) := by
            unfold j_X12_pay_47
            rw [h.t.ref 36 rfl]
            simp only [Option.bind_some]
            rw [h.t.ld (k := 52) 40 rfl rfl (by omega) (by decide)]
            simp only [Option.bind_some]
            rw [h.t.st 40 rfl (by omega) (by decide), e1]
          rw [eM S h]
          unfold j_X12_pay_28
          rw [h.t.ref 35 rfl, h.t.ref 34 rfl, e47]
          simp only [Option.bind_some]
          rw [h.t.ld (k := 51) 40 rfl rfl (by omega) (by decide), h.t.ld (k := 50) 40 rfl rfl (by omega) (by decide)]
          simp only [Option.bind_some]
          by_cases q1 : A.2 51 t = 0
          · rw [if_neg (fun z => z q1), if_neg (fun z => hg ⟨q1, z⟩)]
          · rw [if_pos q1]
    · refine .same hA (-1) (fun S h => ?_) (fun S h => ?_)
      · unfold f_X11_pay
        rw [findTicket_ix hA h ht, isHolderC]
        simp only [Option.bind_some]
        rw [if_neg (show ¬ y = -9 from fun e => hy (Or.inl e)), if_neg (show ¬ rg y 0 9 from fun e => hy (Or.inr e))]; rfl
      · unfold f_X12_pay
        rw [noTicket_ix hA h.t ht, noHolderM]
        simp only [Option.bind_some]
        rw [if_neg (show ¬ y = -9 from fun e => hy (Or.inl e)), if_neg (show ¬ rg y 0 9 from fun e => hy (Or.inr e))]; rfl
  · refine .same hA (-1) (fun S h => ?_) (fun S h => ?_)
    · unfold f_X11_pay; rw [findTicket_no hA h hx]; rfl
    · unfold f_X12_pay; rw [noTicket_no hA h.t hx]; rfl
def owN (A : ZA) (i : Nat) : Nat → Int32
  | 0 => 0
  | j + 1 => if A.2 48 j = nI i ∧ A.2 50 j = -9 ∧ A.2 51 j = 0 then owN A i j + A.2 49 j else owN A i j
theorem op_wages {A : ZA} (hA : AIn A) (x y : Int32) : OpP A (f_X11_wages 0 x y) (f_X12_wages 0 x y) := by
  have c5 := hA.c5.2
  have c31 := hA.c31
  have c312 := c31.2
  by_cases hx : isIx (aN A 5) x
  · obtain ⟨i, hi, rfl⟩ := hx
    by_cases hy : y = 0
    · subst hy
      refine .ro (A.2 54 i) (fun S h => ?_) (fun S h => ?_)
      · unfold f_X11_wages
        rw [findMan_ix hA h hi]
        simp only [Option.bind_some]
        rw [(h.man hi).2.2.1]; rfl
      · unfold f_X12_wages j_X12_wages_29
        rw [noMan_ix hA h.t hi, h.t.ref 38 rfl]
        simp only [Option.bind_some]
        rw [h.t.ld 40 rfl rfl (by omega) (by decide)]
        simp only [Option.bind_some, if_true]
        rw [z_for0 (x := A.2 54 i) (fun j => (A.2 54 i, (0 : Int32))) 0 rfl (by omega) (fun j hj => by omega) ?_]
        · rfl
        · unfold b_X12_wages_33
          dsimp only
          by_cases e : zI (tS S) 12 0 31 ≤ 0
          · rw [if_pos e]
          · rw [if_neg e, if_pos rfl]
    · refine .ro (owN A i (aN A 31)) (fun S h => ?_) (fun S h => ?_)
      · have e11 : zI S 11 0 11 = nI (aN A 31) := h.tix.1.trans c31.1
        unfold f_X11_wages f_X11_owedTo
        rw [findMan_ix hA h hi]
        simp only [Option.bind_some]
        rw [if_neg hy, z_for0 (v := ((0 : Int32), (0 : Int32))) (x := owN A i (aN A 31)) (fun j => (owN A i j, nI j)) (aN A 31) rfl (by omega) (fun j hj => ?_) ?_]
        · rfl
        · unfold b_X11_owedTo_4
          dsimp only
          rw [e11, if_pos (nI_le (Nat.le_refl _) (by omega))]
        · obtain ⟨r, a0, a1, a2, a3, a4⟩ := h.tix.2.2 j hj
          unfold b_X11_owedTo_4
          dsimp only
          rw [e11, if_neg (by rw [nI_leI (by omega) (by omega)]; omega), h.ref 11 10 rfl]
          simp only [Option.bind_some]
          rw [zldR_at (h.len 26 40 rfl) (by omega) (by decide), r]
          simp only [Option.bind_some]
          rw [a0, a1, a2, a3, nI_1]
          show _ = some (Sum.inl (if A.2 48 j = nI i ∧ A.2 50 j = -9 ∧ A.2 51 j = 0 then owN A i j + A.2 49 j else owN A i j, nI (j + 1)))
          by_cases q1 : A.2 48 j = nI i <;> by_cases q2 : A.2 50 j = -9 <;> by_cases q3 : A.2 51 j = 0 <;> simp [q1, q2, q3]
      · have e11 : zI (tS S) 12 0 31 = nI (aN A 31) := (h.t.f 31 rfl).trans c31.1
        unfold f_X12_wages j_X12_wages_29
        rw [noMan_ix hA h.t hi]
        simp only [Option.bind_some, if_true]
        rw [if_neg hy, z_for0 (v := ((0 : Int32), (0 : Int32))) (x := owN A i (aN A 31)) (fun j => (owN A i j, nI j)) (aN A 31) rfl (by omega) (fun j hj => ?_) ?_]
        · rfl
        · unfold b_X12_wages_33
          dsimp only
          rw [e11, if_pos (nI_le (Nat.le_refl _) (by omega))]
        · unfold b_X12_wages_33
          dsimp only
          rw [e11, if_neg (by rw [nI_leI (by omega) (by omega)]; omega), if_neg hy, h.t.ref 32 rfl, h.t.ref 33 rfl, h.t.ref 34 rfl, h.t.ref 35 rfl]
          simp only [Option.bind_some]
          rw [h.t.ld (k := 48) 40 rfl rfl (by omega) (by decide), h.t.ld (k := 49) 40 rfl rfl (by omega) (by decide), h.t.ld (k := 50) 40 rfl rfl (by omega) (by decide), h.t.ld (k := 51) 40 rfl rfl (by omega) (by decide), nI_1]
          show _ = some (Sum.inl (if A.2 48 j = nI i ∧ A.2 50 j = -9 ∧ A.2 51 j = 0 then owN A i j + A.2 49 j else owN A i j, nI (j + 1)))
          by_cases q1 : A.2 48 j = nI i <;> by_cases q2 : A.2 50 j = -9 <;> by_cases q3 : A.2 51 j = 0 <;> simp [q1, q2, q3]
  · refine .ro (-1) (fun S h => ?_) (fun S h => ?_)
    · unfold f_X11_wages; rw [findMan_no hA h hx]; rfl
    · unfold f_X12_wages; rw [noMan_no hA h.t hx]; rfl
