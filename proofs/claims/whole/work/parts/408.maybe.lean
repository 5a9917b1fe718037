def mbB (n0 : Nat) (x1 x2 x3 : Int32) (hi num kk v5 : Int32) (S : ZH) : Option ((Int32 × Int32 × Int32 × ZH) ⊕ (ZH)) :=
  (f_X12_in v5.toInt64 (48 : Int64) (57 : Int64) S).bind fun q6 =>
    if q6 = 0 then (
      if ¬ v5 = (33 : Int32) then (
        if ¬ v5 = (38 : Int32) then (
          if ¬ v5 = (124 : Int32) then (
            (f_X12_test n0 v5 num x1 x2 S).bind fun q7 =>
            ((zR S 12 n0 21)).bind fun a8 =>
            (zst S 43 a8 hi (z_b q7)).bind fun S9 =>
            j_X12_mayBe_277 n0 x1 x2 x3 (hi + 1) num kk S9
          ) else (
            ((zR S 12 n0 21)).bind fun a10 =>
            (zld S 43 a10 (hi + (-1))).bind fun v11 =>
            if ¬ v11 = 0 then (
              j_X12_mayBe_248 n0 x1 x2 x3 (hi + (-1)) num kk (zR S 12 n0 21) ((hi + (-1)) - (1 : Int32)) S
            ) else (
              ((zR S 12 n0 21)).bind fun a14 =>
              (zld S 43 a14 ((hi + (-1)) - (1 : Int32))).bind fun v15 =>
              if v15 = 0 then (
                j_X12_mayBe_253 n0 x1 x2 x3 (hi + (-1)) num kk (zR S 12 n0 21) ((hi + (-1)) - (1 : Int32)) (0 : Int32) S
              ) else (
                j_X12_mayBe_248 n0 x1 x2 x3 (hi + (-1)) num kk (zR S 12 n0 21) ((hi + (-1)) - (1 : Int32)) S
              )
            )
          )
        ) else (
          ((zR S 12 n0 21)).bind fun a16 =>
          (zld S 43 a16 (hi + (-1))).bind fun v17 =>
          if v17 = 0 then (
            j_X12_mayBe_203 n0 x1 x2 x3 (hi + (-1)) num kk (zR S 12 n0 21) ((hi + (-1)) - (1 : Int32)) S
          ) else (
            ((zR S 12 n0 21)).bind fun a20 =>
            (zld S 43 a20 ((hi + (-1)) - (1 : Int32))).bind fun v21 =>
            if v21 = 0 then (
              j_X12_mayBe_203 n0 x1 x2 x3 (hi + (-1)) num kk (zR S 12 n0 21) ((hi + (-1)) - (1 : Int32)) S
            ) else (
              j_X12_mayBe_204 n0 x1 x2 x3 (hi + (-1)) num kk (zR S 12 n0 21) ((hi + (-1)) - (1 : Int32)) (1 : Int32) S
            )
          )
        )
      ) else (
        ((zR S 12 n0 21)).bind fun a22 =>
        (zld S 43 a22 (hi - (1 : Int32))).bind fun v23 =>
        if ¬ v23 = 0 then (
          j_X12_mayBe_155 n0 x1 x2 x3 hi num kk (zR S 12 n0 21) (hi - (1 : Int32)) (0 : Int32) S
        ) else (
          j_X12_mayBe_155 n0 x1 x2 x3 hi num kk (zR S 12 n0 21) (hi - (1 : Int32)) (1 : Int32) S
        )
      )
    ) else (
      if kk ≤ 0 then (
        j_X12_mayBe_107 n0 x1 x2 x3 hi num kk v5 S
      ) else (
        ((zR S 12 n0 20)).bind fun a26 =>
        (zld S 42 a26 ((((60 : Int32) * x3) + kk) - (1 : Int32))).bind fun v27 =>
        (f_X12_in v27.toInt64 (48 : Int64) (57 : Int64) S).bind fun q28 =>
        if q28 = 0 then (
          j_X12_mayBe_107 n0 x1 x2 x3 hi num kk v5 S
        ) else (
          j_X12_mayBe_118 n0 x1 x2 x3 hi kk (v5 - (48 : Int32)) S
        )
      )
    )
theorem mb_body {n0 : Nat} {x1 x2 x3 hi num kk : Int32} {S : ZH} : b_X12_mayBe_33 n0 x1 x2 x3 (hi, num, kk, S) = if kk < 0 then some (.inr S) else ((zR S 12 n0 20)).bind fun a4 => (zld S 42 a4 (((60 : Int32) * x3) + kk)).bind fun v5 => mbB n0 x1 x2 x3 hi num kk v5 S := rfl
theorem zbT (b : Bool) : z_b (if b = true then (1 : Int32) else 0) = if b = true then 1 else 0 := by cases b <;> decide
theorem mb_dig1 {A : ZA} {S : ZH} (hM : MV A S) {a j : Nat} {x1 x2 hi num v : Int32} (lj : zld S 42 0 (nI (60 * a + j)) = some v) (hv : rg v 48 57) (hj : j < 1000) {u : Int32} (hu : rg u 48 57) : mbB 0 x1 x2 (nI a) hi num (nI (j + 1)) u S = some (.inl (hi, u - 48, nI (j + 1) - 1, S)) := by
  unfold mbB j_X12_mayBe_118 j_X12_mayBe_277
  rw [in_rg (p := 48) (q := 57) rfl rfl hu, hM.ref 20 rfl, ix60]
  simp only [Option.bind_some]
  rw [if_neg (show ¬ (1 : Int32) = 0 by decide), if_neg (by rw [nI_le0 (by omega)]; omega), show (nI (60 * a + (j + 1)) - 1 : Int32) = nI (60 * a + j) from nI_pred _, lj]
  simp only [Option.bind_some]
  rw [in_rg (p := 48) (q := 57) rfl rfl hv]
  simp only [Option.bind_some]
  rw [if_neg (show ¬ (1 : Int32) = 0 by decide), nI_pm]
theorem mb_dig2 {A : ZA} {S : ZH} (hM : MV A S) {a j : Nat} {x1 x2 hi num v : Int32} (lj : zld S 42 0 (nI (60 * a + j)) = some v) (hv : ¬ rg v 48 57) (hj : j < 1000) {u : Int32} (hu : rg u 48 57) : mbB 0 x1 x2 (nI a) hi num (nI (j + 1)) u S = some (.inl (hi, num + 10 * (u - 48), nI (j + 1) - 1, S)) := by
  unfold mbB j_X12_mayBe_107 j_X12_mayBe_118 j_X12_mayBe_277
  rw [in_rg (p := 48) (q := 57) rfl rfl hu, hM.ref 20 rfl, ix60]
  simp only [Option.bind_some]
  rw [if_neg (show ¬ (1 : Int32) = 0 by decide), if_neg (by rw [nI_le0 (by omega)]; omega), show (nI (60 * a + (j + 1)) - 1 : Int32) = nI (60 * a + j) from nI_pred _, lj]
  simp only [Option.bind_some]
  rw [in_nr (p := 48) (q := 57) rfl rfl hv]
  simp only [Option.bind_some, if_true]
  rw [nI_pm]
theorem st43 {α : Type} {A : ZA} {S : ZH} (hM : MV A S) (j : Nat) (x : Int32) (g : ZH → Option α) (hj : j < 64) : (zst S 43 0 (nI j) x).bind g = g (zsI S 43 0 j x) := zst_b (hM.len 43 64 rfl) hj (by decide)
theorem mb_and {A : ZA} {S : ZH} (hM : MV A S) {t : Nat} {x1 x2 x3 num kk : Int32} {p q : Bool} (l1 : zld S 43 0 (nI (t + 1)) = some (if p = true then 1 else 0)) (l2 : zld S 43 0 (nI t) = some (if q = true then 1 else 0)) (ht : t < 62) : mbB 0 x1 x2 x3 (nI (t + 2)) num kk 38 S = some (.inl (nI (t + 1), num, kk - 1, zsI S 43 0 t (if (p && q) = true then 1 else 0))) := by
  have i1 : nI (t + 2) + (-1) = nI (t + 1) := nI_m1 (by omega)
  have i2 : nI (t + 1) - 1 = nI t := nI_pred t
  have z0 : z_b (0 : Int32) = 0 := by decide
  have z1 : z_b (1 : Int32) = 1 := by decide
  have hk : kk + (-1) = kk - 1 := (Int32.sub_eq_add_neg _ _).symm
  unfold mbB j_X12_mayBe_203 j_X12_mayBe_204 j_X12_mayBe_277
  rw [in_nr (p := 48) (q := 57) rfl rfl (show ¬ rg (38 : Int32) 48 57 by decide), i1, i2, hM.ref 21 rfl, hk]
  simp only [Option.bind_some, if_true, not_true_eq_false, if_false]
  rw [if_pos (show ¬ (38 : Int32) = 33 by decide), l1, l2]
  simp only [Option.bind_some]
  rw [st43 hM t _ _ (by omega), st43 hM t _ _ (by omega), z0, z1]
  cases p <;> cases q <;> simp
theorem mb_or {A : ZA} {S : ZH} (hM : MV A S) {t : Nat} {x1 x2 x3 num kk : Int32} {p q : Bool} (l1 : zld S 43 0 (nI (t + 1)) = some (if p = true then 1 else 0)) (l2 : zld S 43 0 (nI t) = some (if q = true then 1 else 0)) (ht : t < 62) : mbB 0 x1 x2 x3 (nI (t + 2)) num kk 124 S = some (.inl (nI (t + 1), num, kk - 1, zsI S 43 0 t (if (p || q) = true then 1 else 0))) := by
  have i1 : nI (t + 2) + (-1) = nI (t + 1) := nI_m1 (by omega)
  have i2 : nI (t + 1) - 1 = nI t := nI_pred t
  have z0 : z_b (0 : Int32) = 0 := by decide
  have z1 : z_b (1 : Int32) = 1 := by decide
  have hk : kk + (-1) = kk - 1 := (Int32.sub_eq_add_neg _ _).symm
  unfold mbB j_X12_mayBe_248 j_X12_mayBe_253 j_X12_mayBe_277
  rw [in_nr (p := 48) (q := 57) rfl rfl (show ¬ rg (124 : Int32) 48 57 by decide), i1, i2, hM.ref 21 rfl, hk]
  simp only [Option.bind_some, if_true, not_true_eq_false, if_false]
  rw [if_pos (show ¬ (124 : Int32) = 33 by decide), if_pos (show ¬ (124 : Int32) = 38 by decide), l1, l2]
  simp only [Option.bind_some]
  rw [st43 hM t _ _ (by omega), st43 hM t _ _ (by omega), z0, z1]
  cases p <;> cases q <;> simp
theorem mb_not {A : ZA} {S : ZH} (hM : MV A S) {t : Nat} {x1 x2 x3 num kk : Int32} {p : Bool} (l1 : zld S 43 0 (nI t) = some (if p = true then 1 else 0)) (ht : t < 62) : mbB 0 x1 x2 x3 (nI (t + 1)) num kk 33 S = some (.inl (nI (t + 1), num, kk - 1, zsI S 43 0 t (if (!p) = true then 1 else 0))) := by
  have i2 : nI (t + 1) - 1 = nI t := nI_pred t
  have z0 : z_b (0 : Int32) = 0 := by decide
  have z1 : z_b (1 : Int32) = 1 := by decide
  have hk : kk + (-1) = kk - 1 := (Int32.sub_eq_add_neg _ _).symm
  unfold mbB
  refine (o_b (in_nr (p := 48) (q := 57) rfl rfl (show ¬ rg (33 : Int32) 48 57 by decide))).trans ?_
  rw [if_pos (show (0 : Int32) = 0 from rfl), if_neg (show ¬ ¬ (33 : Int32) = 33 from fun z => z rfl), i2]
  refine (o_b (hM.ref 21 rfl)).trans ?_
  refine (o_b l1).trans ?_
  have e155 : ∀ x : Int32, j_X12_mayBe_155 0 x1 x2 x3 (nI (t + 1)) num kk (zR S 12 0 21) (nI t) x S = some (.inl (nI (t + 1), num, kk - 1, zsI S 43 0 t (z_b x))) := by
    intro x
    unfold j_X12_mayBe_155 j_X12_mayBe_277
    refine (o_b (hM.ref 21 rfl)).trans ?_
    refine (st43 hM t _ _ (by omega)).trans ?_
    rw [hk]
  rw [e155, e155, z0, z1]
  cases p
  · rw [if_neg (by decide), if_pos (by decide)]
  · rw [if_pos (by decide), if_neg (by decide)]
theorem mb_tst {A : ZA} {S : ZH} (hA : AIn A) (hM : MV A S) {t m : Nat} {cov x3 num kk v : Int32} (hm : m < aN A 5) (hc : b01 cov) (hv : isTst v ∨ isFlg v) (ht : t < 62) : mbB 0 (nI m) cov x3 (nI t) num kk v S = some (.inl (nI (t + 1), num, kk - 1, zsI S 43 0 t (tV A m cov v num))) := by
  obtain ⟨u1, u2, u3, u4⟩ := tst_nd hv
  have hb := tV_b (A := A) (m := m) (v := v) (num := num) hc
  have hk : kk + (-1) = kk - 1 := (Int32.sub_eq_add_neg _ _).symm
  unfold mbB
  refine (o_b (in_nr (p := 48) (q := 57) rfl rfl u1)).trans ?_
  rw [if_pos (show (0 : Int32) = 0 from rfl), if_pos u2, if_pos u3, if_pos u4]
  refine (o_b (test_M hA hM hm hc)).trans ?_
  refine (o_b (hM.ref 21 rfl)).trans ?_
  rw [zb1 hb]
  refine (st43 hM t _ _ (by omega)).trans ?_
  unfold j_X12_mayBe_277
  rw [hk, nI_1]
theorem mayBe_loop {A : ZA} (hA : AIn A) {a m : Nat} {cov : Int32} (ha : a < aN A 17) (hm : m < aN A 5) (hc : b01 cov) (W : WF (aSg A a) (aSn A a)) : ∀ (k fuel : Nat) (num : Int32) (S : ZH), k < fuel → k ≤ aSn A a → MV A S → SK S (tc (aSg A a) k) (ST A a m cov (aSn A a) (aSn A a - k)) → (dc (aSg A a) k = 1 → num = aSg A a k - 48) → (dc (aSg A a) k = 2 → num = (aSg A a k - 48) * 10 + aSg A a (k + 1) - 48) → ∃ S1, z_iter fuel (b_X12_mayBe_33 0 (nI m) cov (nI a)) (nI (tc (aSg A a) k), num, nI k - 1, S) = some S1 ∧ FR 43 S S1 ∧ SK S1 (tc (aSg A a) 0) (ST A a m cov (aSn A a) (aSn A a)) := by
  have c17 := hA.c17.2
  have hsg := hA.sg (show a < 8 by omega)
  intro k
  induction k with
  | zero =>
    intro fuel num S hf _ hM hB _ _
    cases fuel with
    | zero => omega
    | succ f =>
      refine ⟨S, ?_, FR.rf, hB⟩
      show (b_X12_mayBe_33 0 (nI m) cov (nI a) (_, num, nI 0 - 1, S)).bind _ = _
      rw [mb_body, if_pos (show (nI 0 - 1 : Int32) < 0 by decide)]
      rfl
  | succ k ih =>
    intro fuel num S hf hk hM hB hn1 hn2
    cases fuel with
    | zero => omega
    | succ f =>
      have hst := ST_at (A := A) (a := a) (m := m) (cov := cov) (show k < aSn A a by omega)
      have hb1 := W.bd (show k ≤ aSn A a by omega)
      have hb2 := W.bd hk
      have lsg : ∀ q, q < aSn A a → zld S 42 0 (nI (60 * a + q)) = some (aSg A a q) := fun q hq => hM.ld 480 rfl rfl (by omega) (by decide)
      have hl : zL S 43 0 = 64 := hM.len 43 64 rfl
      have ldt : ∀ j, j < tc (aSg A a) (k + 1) → zld S 43 0 (nI j) = some (if ST A a m cov (aSn A a) (aSn A a - (k + 1)) j = true then 1 else 0) := fun j hj => by
        rw [zld_at hl (by omega) (by decide), hB j hj]
      have hgo : ∀ num' S', mbB 0 (nI m) cov (nI a) (nI (tc (aSg A a) (k + 1))) num (nI k) (aSg A a k) S = some (.inl (nI (tc (aSg A a) k), num', nI k - 1, S')) → FR 43 S S' → SK S' (tc (aSg A a) k) (ST A a m cov (aSn A a) (aSn A a - k)) → (dc (aSg A a) k = 1 → num' = aSg A a k - 48) → (dc (aSg A a) k = 2 → num' = (aSg A a k - 48) * 10 + aSg A a (k + 1) - 48) → ∃ S1, z_iter (f + 1) (b_X12_mayBe_33 0 (nI m) cov (nI a)) (nI (tc (aSg A a) (k + 1)), num, nI (k + 1) - 1, S) = some S1 ∧ FR 43 S S1 ∧ SK S1 (tc (aSg A a) 0) (ST A a m cov (aSn A a) (aSn A a)) := by
        intro num' S' e1 e2 e3 e4 e5
        obtain ⟨S1, f1, f2, f3⟩ := ih f num' S' (by omega) (by omega) (hM.FR (by omega) e2) e3 e4 e5
        refine ⟨S1, ?_, e2.tr f2, f3⟩
        show (b_X12_mayBe_33 0 (nI m) cov (nI a) (nI (tc (aSg A a) (k + 1)), num, nI (k + 1) - 1, S)).bind _ = _
        rw [mb_body, nI_pred, if_neg (nI_pos (by omega)), hM.ref 20 rfl, ix60]
        simp only [Option.bind_some]
        rw [lsg k (by omega)]
        simp only [Option.bind_some]
        rw [e1]
        exact f1
      generalize ST A a m cov (aSn A a) (aSn A a - (k + 1)) = st at hB hst ldt
      rcases W.step (show k < aSn A a by omega) with ⟨s1, s2, s3, s4⟩ | ⟨s1, s2, s3, s4, s5⟩ | ⟨s1, s2, s3, s4, s5⟩ | ⟨s1, s2, s3, s4, s5⟩ | ⟨s1, s2, s3, s4, s5⟩
      · have hB' : SK S (tc (aSg A a) k) (ST A a m cov (aSn A a) (aSn A a - k)) := by
          rw [hst]
          unfold stp2
          rw [if_pos s2, ← s3]
          exact hB
        rcases (show dc (aSg A a) k = 1 ∨ dc (aSg A a) k = 2 by omega) with d1 | d2
        · obtain ⟨j, rfl, jd, jr⟩ := W.d1 (by omega) d1
          refine hgo (aSg A a (j + 1) - 48) S ?_ FR.rf hB' (fun _ => rfl) (fun z => by omega)
          rw [mb_dig1 hM (lsg j (by omega)) jr (by omega) s2, s3]
        · obtain ⟨j, rfl, jt⟩ := W.d2 (by omega) d2
          have jn := (tst_nd (Or.inl jt)).1
          have e1 : num = aSg A a (j + 1 + 1) - 48 := hn1 (by omega)
          refine hgo (num + 10 * (aSg A a (j + 1) - 48)) S ?_ FR.rf hB' (fun z => by omega) (fun _ => by rw [e1]; exact i32_num _ _)
          rw [mb_dig2 hM (lsg j (by omega)) jn (by omega) s2, s3]
      · obtain ⟨t, ht⟩ : ∃ t, tc (aSg A a) k = t + 1 := ⟨tc (aSg A a) k - 1, by omega⟩
        have s4' : tc (aSg A a) (k + 1) = t + 2 := by omega
        rw [ht] at hb1 hgo
        rw [s4'] at hB hst ldt hgo ⊢
        have nd : ¬ rg (aSg A a k) 48 57 := by rcases s3 with e | e <;> rw [e] <;> decide
        rcases s3 with e | e
        · refine hgo num (zsI S 43 0 t (if (st (t + 1) && st t) = true then 1 else 0)) ?_ FR.sI ?_ (fun z => by omega) (fun z => by omega)
          · rw [e, mb_and hM (ldt (t + 1) (by omega)) (ldt t (by omega)) (by omega)]
          · rw [hst]
            unfold stp2
            rw [if_neg nd, e, if_neg (show ¬ (38 : Int32) = 33 by decide), if_pos rfl, show t + 2 - 2 = t by omega, show t + 2 - 1 = t + 1 by omega]
            exact hB.upd rfl (fun i h1 h2 => by omega)
        · refine hgo num (zsI S 43 0 t (if (st (t + 1) || st t) = true then 1 else 0)) ?_ FR.sI ?_ (fun z => by omega) (fun z => by omega)
          · rw [e, mb_or hM (ldt (t + 1) (by omega)) (ldt t (by omega)) (by omega)]
          · rw [hst]
            unfold stp2
            rw [if_neg nd, e, if_neg (show ¬ (124 : Int32) = 33 by decide), if_neg (show ¬ (124 : Int32) = 38 by decide), if_pos rfl, show t + 2 - 2 = t by omega, show t + 2 - 1 = t + 1 by omega]
            exact hB.upd rfl (fun i h1 h2 => by omega)
      · obtain ⟨u1, u2, u3, u4⟩ := tst_nd (Or.inl s3)
        obtain ⟨t, ht⟩ : ∃ t, tc (aSg A a) k = t + 1 := ⟨tc (aSg A a) k - 1, by omega⟩
        have s4' : tc (aSg A a) (k + 1) = t := by omega
        rw [ht] at hb1 hgo
        rw [s4'] at hB hst ldt hgo ⊢
        obtain ⟨w1, w2, w3⟩ := W.tst2 (show k < aSn A a by omega) s3 s1
        have hnum : num = nmB (aSg A a) k := hn2 w1
        have hv := tV_b (A := A) (m := m) (v := aSg A a k) (num := nmB (aSg A a) k) hc
        refine hgo num (zsI S 43 0 t (tV A m cov (aSg A a k) (nmB (aSg A a) k))) ?_ FR.sI ?_ (fun z => by omega) (fun z => by omega)
        · rw [mb_tst hA hM hm hc (Or.inl s3) (by omega), hnum]
        · rw [hst]
          unfold stp2
          rw [if_neg u1, if_neg u2, if_neg u3, if_neg u4]
          exact hB.upd (by rcases hv with e | e <;> rw [e] <;> decide) (fun i h1 h2 => by omega)
      · obtain ⟨u1, u2, u3, u4⟩ := tst_nd (Or.inr s3)
        obtain ⟨t, ht⟩ : ∃ t, tc (aSg A a) k = t + 1 := ⟨tc (aSg A a) k - 1, by omega⟩
        have s4' : tc (aSg A a) (k + 1) = t := by omega
        rw [ht] at hb1 hgo
        rw [s4'] at hB hst ldt hgo ⊢
        have hv := tV_b (A := A) (m := m) (v := aSg A a k) (num := nmB (aSg A a) k) hc
        refine hgo num (zsI S 43 0 t (tV A m cov (aSg A a k) (nmB (aSg A a) k))) ?_ FR.sI ?_ (fun z => by omega) (fun z => by omega)
        · rw [mb_tst hA hM hm hc (Or.inr s3) (by omega), tV_flg s3 num (nmB (aSg A a) k)]
        · rw [hst]
          unfold stp2
          rw [if_neg u1, if_neg u2, if_neg u3, if_neg u4]
          exact hB.upd (by rcases hv with e | e <;> rw [e] <;> decide) (fun i h1 h2 => by omega)
      · obtain ⟨t, ht⟩ : ∃ t, tc (aSg A a) k = t + 1 := ⟨tc (aSg A a) k - 1, by omega⟩
        have s4' : tc (aSg A a) (k + 1) = t + 1 := by omega
        rw [ht] at hb1 hgo
        rw [s4'] at hB hst ldt hgo ⊢
        have nd : ¬ rg (aSg A a k) 48 57 := by rw [s3]; decide
        refine hgo num (zsI S 43 0 t (if (!st t) = true then 1 else 0)) ?_ FR.sI ?_ (fun z => by omega) (fun z => by omega)
        · rw [s3, mb_not hM (ldt t (by omega)) (by omega)]
        · rw [hst]
          unfold stp2
          rw [if_neg nd, if_pos s3, show t + 1 - 1 = t by omega]
          exact hB.upd rfl (fun i h1 h2 => by omega)
