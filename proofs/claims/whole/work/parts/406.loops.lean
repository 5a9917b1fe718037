/-! ===== the two readings of a text, from its end ===== -/
theorem ST_at {A : ZA} {a m : Nat} {cov : Int32} {n k : Nat} (hk : k < n) : ST A a m cov n (n - k) = stp2 (aSg A a k) (tc (aSg A a) (k + 1)) (ST A a m cov n (n - (k + 1))) (tV A m cov (aSg A a k) (nmB (aSg A a) k)) := by
  rw [show n - k = (n - (k + 1)) + 1 by omega]
  show stp2 (aSg A a (n - (n - (k + 1) + 1))) (tc (aSg A a) (n - (n - (k + 1)))) _ (tV A m cov (aSg A a (n - (n - (k + 1) + 1))) (nmB (aSg A a) (n - (n - (k + 1) + 1)))) = _
  rw [show n - (n - (k + 1) + 1) = k by omega, show n - (n - (k + 1)) = k + 1 by omega]
theorem dig_ne {v : Int32} (h : rg v 48 57) : ¬ v = 38 ∧ ¬ v = 124 ∧ ¬ v = 33 := by
  refine ⟨?_, ?_, ?_⟩ <;> rintro rfl <;> exact absurd h (by decide)
theorem nI_pm (k : Nat) : nI k + (-1) = nI k - 1 := (Int32.sub_eq_add_neg _ _).symm
theorem WF.tst2 {sg : Nat → Int32} {n : Nat} (h : WF sg n) {k : Nat} (hk : k < n) (ht : isTst (sg k)) (hd : dc sg k = 0) : dc sg (k + 1) = 2 ∧ k + 2 < n ∧ dc sg (k + 2) = 1 := by
  have hn := h.end
  have h1 : dc sg (k + 1) = 2 := by
    rcases h.step hk with ⟨a, b, c, d⟩ | ⟨a, b, c, d, e⟩ | ⟨a, b, c, d, e⟩ | ⟨a, b, c, d, e⟩ | ⟨a, b, c, d, e⟩
    · omega
    · have := tst_nd (Or.inl ht)
      rcases c with c | c
      · exact absurd c this.2.2.1
      · exact absurd c this.2.2.2
    · exact e
    · exfalso
      revert ht c
      unfold isTst isFlg
      generalize sg k = v
      rintro (e | e | e | e | e) <;> subst e <;> decide
    · have := tst_nd (Or.inl ht)
      exact absurd c this.2.1
  have k1 : k + 1 < n := by
    rcases Nat.lt_or_ge (k + 1) n with q | q
    · exact q
    · have : k + 1 = n := by omega
      rw [this] at h1; omega
  have h2 : dc sg (k + 2) = 1 := by
    rcases h.step k1 with ⟨a, b, c, d⟩ | ⟨a, b, c, d, e⟩ | ⟨a, b, c, d, e⟩ | ⟨a, b, c, d, e⟩ | ⟨a, b, c, d, e⟩
    · show dc sg (k + 1 + 1) = 1
      omega
    all_goals omega
  refine ⟨h1, ?_, h2⟩
  rcases Nat.lt_or_ge (k + 2) n with q | q
  · exact q
  · have : k + 2 = n := by omega
    rw [this] at h2; omega
theorem holds_loop {A : ZA} {S : ZH} (hA : AIn A) (h : RC A S) {a m : Nat} {cov : Int32} (ha : a < aN A 17) (hm : m < aN A 5) (hc : b01 cov) (W : WF (aSg A a) (aSn A a)) : ∀ (k fuel : Nat) (w : Int64), k < fuel → k ≤ aSn A a → BT w (tc (aSg A a) k) (ST A a m cov (aSn A a) (aSn A a - k)) → ∃ w', z_iter fuel (b_X0_holds_10 a (some m) cov S) (w, nI k - 1) = some w' ∧ BT w' (tc (aSg A a) 0) (ST A a m cov (aSn A a) (aSn A a)) := by
  have c17 := hA.c17.2
  have hsg := hA.sg (show a < 8 by omega)
  obtain ⟨r24, r2, l13, z0, z1, zs13, hp⟩ := h.acts.2.2.2 a ha
  intro k
  induction k with
  | zero =>
    intro fuel w hf _ hB
    cases fuel with
    | zero => omega
    | succ f =>
      refine ⟨w, ?_, hB⟩
      show (b_X0_holds_10 a (some m) cov S (w, nI 0 - 1)).bind _ = _
      unfold b_X0_holds_10
      rw [if_pos (show (w, nI 0 - 1).2 < 0 by show (nI 0 - 1 : Int32) < 0; decide)]
      rfl
  | succ k ih =>
    intro fuel w hf hk hB
    cases fuel with
    | zero => omega
    | succ f =>
      have hst := ST_at (A := A) (a := a) (m := m) (cov := cov) (show k < aSn A a by omega)
      have hb1 := W.bd (show k ≤ aSn A a by omega)
      generalize hst0 : ST A a m cov (aSn A a) (aSn A a - (k + 1)) = st at *
      have hgo : ∀ w', b_X0_holds_10 a (some m) cov S (w, nI (k + 1) - 1) = some (.inl (w', nI k - 1)) → BT w' (tc (aSg A a) k) (ST A a m cov (aSn A a) (aSn A a - k)) → ∃ w', z_iter (f + 1) (b_X0_holds_10 a (some m) cov S) (w, nI (k + 1) - 1) = some w' ∧ BT w' (tc (aSg A a) 0) (ST A a m cov (aSn A a) (aSn A a)) := by
        intro w' e1 e2
        obtain ⟨w2, e3, e4⟩ := ih f w' (by omega) (by omega) e2
        refine ⟨w2, ?_, e4⟩
        show (b_X0_holds_10 a (some m) cov S (w, nI (k + 1) - 1)).bind _ = _
        rw [e1]
        exact e3
      have hbody : b_X0_holds_10 a (some m) cov S (w, nI (k + 1) - 1) = if ¬ aSg A a k = 38 then if ¬ aSg A a k = 124 then if ¬ aSg A a k = 33 then (f_X0_isDigit (aSg A a k) S).bind fun q3 => if ¬ q3 = 0 then some (.inl (w, nI k - 1)) else (f_X0_testHolds a (nI k) (some m) cov S).bind fun q4 => (f_X11_asNumber q4 S).bind fun q5 => some (.inl ((w <<< (((1 : Int32)).toInt64 &&& 63)) ||| q5.toInt64, nI k - 1)) else some (.inl (w ^^^ 1, nI k - 1)) else some (.inl (((w.toUInt64 >>> (((1 : Int32)).toInt64.toUInt64 &&& Int64.toUInt64 63)).toInt64 ||| (w &&& (1 : Int64))), nI k - 1)) else some (.inl (((w.toUInt64 >>> (((1 : Int32)).toInt64.toUInt64 &&& Int64.toUInt64 63)).toInt64 &&& ((w &&& (1 : Int64)) ||| (-2 : Int64))), nI k - 1)) := by
        unfold b_X0_holds_10
        dsimp only
        rw [nI_pred, if_neg (nI_pos (by omega)), r2, nI_pm]
        simp only [Option.bind_some]
        rw [h.sign hA ha (by omega)]
        rfl
      rcases W.step (show k < aSn A a by omega) with ⟨s1, s2, s3, s4⟩ | ⟨s1, s2, s3, s4, s5⟩ | ⟨s1, s2, s3, s4, s5⟩ | ⟨s1, s2, s3, s4, s5⟩ | ⟨s1, s2, s3, s4, s5⟩
      · obtain ⟨n1, n2, n3⟩ := dig_ne s2
        refine hgo w ?_ ?_
        · rw [hbody, if_pos n1, if_pos n2, if_pos n3, isDigitC, if_pos s2]
          rfl
        · rw [hst]
          unfold stp2
          rw [if_pos s2, ← s3]
          exact hB
      · obtain ⟨t, ht⟩ : ∃ t, tc (aSg A a) k = t + 1 := ⟨tc (aSg A a) k - 1, by omega⟩
        rw [ht] at hb1 s4 s2
        rw [s4] at hB hst
        rcases s3 with e | e
        · refine hgo _ (by rw [hbody, if_neg (fun z => z e)]) ?_
          rw [hst, ht, e]
          exact hB.and (by omega)
        · refine hgo _ (by rw [hbody, if_pos (by rw [e]; decide), if_neg (fun z => z e)]) ?_
          rw [hst, ht, e]
          exact hB.or (by omega)
      · obtain ⟨u1, u2, u3, u4⟩ := tst_nd (Or.inl s3)
        obtain ⟨t, ht⟩ : ∃ t, tc (aSg A a) k = t + 1 := ⟨tc (aSg A a) k - 1, by omega⟩
        rw [ht] at hb1 s4 s2
        rw [s4] at hB hst
        have hv := tV_b (A := A) (m := m) (v := aSg A a k) (num := nmB (aSg A a) k) hc
        refine hgo _ (by rw [hbody, if_pos u3, if_pos u4, if_pos u2, isDigitC, if_neg u1, test_C hA h ha hm (by omega) hc (Or.inl s3) (fun q => (W.tst2 (by omega) q s1).2.1)]; simp only [Option.bind_some]; rw [asNumber_b hv]; rfl) ?_
        rw [hst, ht]
        unfold stp2
        rw [if_neg u1, if_neg u2, if_neg u3, if_neg u4]
        exact hB.push (by omega) hv
      · obtain ⟨u1, u2, u3, u4⟩ := tst_nd (Or.inr s3)
        obtain ⟨t, ht⟩ : ∃ t, tc (aSg A a) k = t + 1 := ⟨tc (aSg A a) k - 1, by omega⟩
        rw [ht] at hb1 s4 s2
        rw [s4] at hB hst
        have hv := tV_b (A := A) (m := m) (v := aSg A a k) (num := nmB (aSg A a) k) hc
        refine hgo _ (by rw [hbody, if_pos u3, if_pos u4, if_pos u2, isDigitC, if_neg u1, test_C hA h ha hm (by omega) hc (Or.inr s3) (fun q => (W.tst2 (by omega) q s1).2.1)]; simp only [Option.bind_some]; rw [asNumber_b hv]; rfl) ?_
        rw [hst, ht]
        unfold stp2
        rw [if_neg u1, if_neg u2, if_neg u3, if_neg u4]
        exact hB.push (by omega) hv
      · obtain ⟨t, ht⟩ : ∃ t, tc (aSg A a) k = t + 1 := ⟨tc (aSg A a) k - 1, by omega⟩
        rw [ht] at hb1 s4 s2
        rw [s4] at hB hst
        refine hgo _ (by rw [hbody, if_pos (by rw [s3]; decide), if_pos (by rw [s3]; decide), if_neg (fun z => z s3)]) ?_
        rw [hst, ht, s3]
        exact hB.not (by omega)
theorem holds_eq {A : ZA} {S : ZH} (hA : AIn A) (h : RC A S) {a m : Nat} {cov : Int32} (ha : a < aN A 17) (hm : m < aN A 5) (hc : b01 cov) (W : WF (aSg A a) (aSn A a)) : f_X0_holds a (some m) cov S = some (if ST A a m cov (aSn A a) (aSn A a) 0 = true then 1 else 0) := by
  have c17 := hA.c17.2
  have hsg := hA.sg (show a < 8 by omega)
  obtain ⟨r24, r2, l13, z0, z1, zs13, hp⟩ := h.acts.2.2.2 a ha
  obtain ⟨w', e1, e2⟩ := holds_loop hA h ha hm hc W (aSn A a) zFU 0 (by show _ < 1000000; omega) (Nat.le_refl _) (fun i hi => by rw [W.end.1] at hi; omega)
  unfold f_X0_holds
  rw [z1, hsg.1, e1]
  simp only [Option.bind_some, lg_cmp_eq]
  have e3 := e2 0 (show 0 < 1 by omega)
  have e4 : tc (aSg A a) 0 = 1 := rfl
  rw [e4, show 1 - 1 - 0 = 0 by omega] at e3
  rw [← e3]
  have e5 : (w' &&& 1 = 1) ↔ gb w' 0 = true := by
    have : (w' &&& 1).toBitVec = BitVec.setWidth 64 (BitVec.ofBool (w'.toBitVec.getLsbD 0)) := by
      rw [Int64.toBitVec_and]; exact BitVec.and_one_eq_setWidth_ofBool_getLsbD
    unfold gb
    cases hh : w'.toBitVec.getLsbD 0
    · rw [hh] at this
      constructor
      · intro e; rw [e] at this; exact absurd this (by decide)
      · intro e; cases e
    · rw [hh] at this
      constructor
      · intro _; rfl
      · intro _; apply Int64.toBitVec_inj.mp; rw [this]; rfl
  by_cases e6 : gb w' 0 = true
  · rw [if_neg (fun z => z (e5.mpr e6)), if_pos e6]
  · rw [if_pos (fun z => e6 (e5.mp z)), if_neg e6]
/-! the reference's reading: a scratch row changes -/
def FR (k0 : Nat) (S S' : ZH) : Prop := (∀ k, k ≠ k0 → eqK S S' k) ∧ zN S' k0 = zN S k0 ∧ zL S' k0 = zL S k0 ∧ zR S' k0 = zR S k0 ∧ zc S' = zc S ∧ zs S' = zs S
theorem FR.rf {k0 : Nat} {S : ZH} : FR k0 S S := ⟨fun _ _ => eqK.rf, rfl, rfl, rfl, rfl, rfl⟩
theorem FR.tr {k0 : Nat} {S S1 S2 : ZH} (h : FR k0 S S1) (h' : FR k0 S1 S2) : FR k0 S S2 := ⟨fun k hk => (h.1 k hk).tr (h'.1 k hk), h'.2.1.trans h.2.1, h'.2.2.1.trans h.2.2.1, h'.2.2.2.1.trans h.2.2.2.1, h'.2.2.2.2.1.trans h.2.2.2.2.1, h'.2.2.2.2.2.trans h.2.2.2.2.2⟩
theorem FR.sI {k0 : Nat} {S : ZH} {i j : Nat} {v : Int32} : FR k0 S (zsI S k0 i j v) := ⟨fun k hk => eqK_sI hk, rfl, rfl, rfl, rfl, rfl⟩
theorem FR.frC {k0 : Nat} {S S' : ZH} (h : FR k0 S S') (hk : isM k0) : frC S S' := ⟨fun k hk' => h.1 k (fun e => hk' (e ▸ hk)), h.2.2.2.2.1, h.2.2.2.2.2⟩
theorem MV.FR {A : ZA} {S S' : ZH} {k0 : Nat} (h : MV A S) (hk : k0 = 30 ∨ k0 = 43 ∨ k0 = 45 ∨ k0 = 46 ∨ k0 = 47) (f : FR k0 S S') : MV A S' := by
  refine ⟨⟨fun j hj => ?_, fun q hq => ?_⟩, h.2.tr ⟨fun j _ _ => ?_, fun k a b c d e g => ?_⟩⟩
  · rw [(f.1 12 (by omega)).2.2.2]; exact h.1.1 j hj
  · by_cases e : q.1 = k0
    · rw [e, f.2.2.1, ← e]; exact h.1.2 q hq
    · rw [(f.1 q.1 e).2.1]; exact h.1.2 q hq
  · show zI S' 12 0 j = zI S 12 0 j
    rw [(f.1 12 (by omega)).2.2.1]
  · show zI S' k 0 = zI S k 0
    rw [(f.1 k (by omega)).2.2.1]
def SK (S : ZH) (t : Nat) (st : Nat → Bool) : Prop := ∀ j, j < t → zI S 43 0 j = if st j = true then 1 else 0
theorem SK.upd {S : ZH} {t t' j : Nat} {st : Nat → Bool} {b : Bool} {x : Int32} (h : SK S t st) (hx : x = if b = true then 1 else 0) (ht : ∀ i, i < t' → i ≠ j → i < t) : SK (zsI S 43 0 j x) t' (updB st j b) := by
  intro i hi
  rw [zI_sI]
  unfold updB
  by_cases e : i = j
  · rw [if_pos ⟨rfl, e⟩, if_pos e]; exact hx
  · rw [if_neg (fun z => e z.2), if_neg e]; exact h i (ht i hi e)
theorem i32_num (x y : Int32) : (y - 48) + 10 * (x - 48) = (x - 48) * 10 + y - 48 := by
  rw [Int32.mul_comm (x - 48) 10, Int32.add_comm, Int32.sub_eq_add_neg y, Int32.sub_eq_add_neg (10 * (x - 48) + y), Int32.add_assoc]
theorem tV_flg {A : ZA} {m : Nat} {cov v : Int32} (h : isFlg v) (n1 n2 : Int32) : tV A m cov v n1 = tV A m cov v n2 := by
  unfold isFlg at h
  rcases h with e | e | e <;> subst e <;> simp [tV]
