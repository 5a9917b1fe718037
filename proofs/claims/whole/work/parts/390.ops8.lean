/-! ===== act, ticket, paper, man ===== -/
theorem znw_al {S : ZH} {k n : Nat} (hn : n < 2 ^ 31) : znw S k (nI n) = zal S k n := by
  unfold znw
  rw [if_neg (by rw [Int32.lt_iff_toInt_lt, nI_toInt hn]; show ¬ ((n : Nat) : Int) < 0; omega), nI_clamp hn]
theorem zal_ok {S : ZH} {k n : Nat} (h : zc S + 1 ≤ 600000 ∧ zs S + n ≤ 7302250) : zal S k n = some (zNew S k n) := if_pos h
theorem zR_nw (S : ZH) (k n i j : Nat) : zR (zNew S k n) k i j = if i = zN S k then none else zR S k i j := by
  show (if k = k ∧ i = zN S k then none else zR S k i j) = _
  simp
theorem SC.new {S : ZH} {k n : Nat} (h : SC S) (hk : (SCr.all (fun q => q.1 != k) && SCl.all (fun q => q.1 != k)) = true) : SC (zNew S k n) := by
  simp only [Bool.and_eq_true, List.all_eq_true, bne_iff_ne] at hk
  refine ⟨fun q hq => ?_, fun q hq => ?_⟩
  · rw [(eqK_new (S := S) (n := n) (hk.1 q hq)).2.2.2]; exact h.1 q hq
  · rw [(eqK_new (S := S) (n := n) (hk.2 q hq)).2.1]; exact h.2 q hq
theorem SC.sR {S : ZH} {k i j : Nat} {v : Option Nat} (h : SC S) (hk : SCr.all (fun q => q.1 != k) = true) : SC (zsR S k i j v) := by
  simp only [List.all_eq_true, bne_iff_ne] at hk
  exact ⟨fun q hq => by rw [zR_ne (hk q hq)]; exact h.1 q hq, h.2⟩
theorem SC.sI {S : ZH} {k i j : Nat} {v : Int32} (h : SC S) : SC (zsI S k i j v) := h
/-! act -/
def A_act (A : ZA) (t : Int32) : ZA := aF (aR A 40 (aN A 17) t) 17 (nI (aN A 17 + 1))
def S_act (S : ZH) (a : Nat) (t : Int32) : ZH := zsI (zsR (zsI (zsI (zsI (zsR (zNew (zNew S 0 6) 13 60) 0 a 2 (some a)) 0 a 3 1) 0 a 5 (-9)) 0 a 0 t) 24 0 a (some a)) 11 0 6 (nI (a + 1))
theorem act_AIn {A : ZA} (hA : AIn A) {t : Int32} (ht : rg t 0 899) (h8 : aN A 17 < 8) : AIn (A_act A t) := by
  have en : aN (A_act A t) 17 = aN A 17 + 1 := aN_F _ 17 _ (by omega)
  obtain ⟨q1, q2, q3, q4⟩ := hA.2.2.2.2.2.1
  refine ⟨⟨hA.c1, hA.c1p, hA.c4, hA.c5, hA.c9, hA.c15, ⟨by rw [en]; rfl, by rw [en]; omega⟩, hA.c22, hA.c24, hA.c24l, hA.c31, hA.room, hA.rate⟩, hA.2.1, hA.2.2.1, hA.2.2.2.1, hA.2.2.2.2.1, ⟨q1, fun a h1 h2 => ?_, fun a ha => ?_, fun a k ha hk => ?_⟩, hA.2.2.2.2.2.2⟩
  · rw [en] at h1; exact q2 a (by omega) h2
  · rw [en] at ha
    show rg (if 40 = 40 ∧ a = aN A 17 then t else A.2 40 a) 0 899
    by_cases e : a = aN A 17
    · rw [if_pos ⟨rfl, e⟩]; exact ht
    · rw [if_neg (fun z => e z.2)]; exact q3 a (by omega)
  · rw [en] at ha
    have hk' : k < (A.2 41 a).toNatClampNeg := hk
    by_cases e : a = aN A 17
    · rw [q2 a (by omega) (by omega)] at hk'
      exact absurd hk' (Nat.not_lt_zero _)
    · exact q4 a k (by omega) hk'
theorem act_RC {A : ZA} {S : ZH} (hA : AIn A) (h : RC A S) {t : Int32} (h8 : aN A 17 < 8) : RC (A_act A t) (S_act S (aN A 17) t) := by
  have en : aN (A_act A t) 17 = aN A 17 + 1 := aN_F _ 17 _ (by omega)
  have ez : zN S 0 = aN A 17 := h.acts.2.1
  have ez13 : zN S 13 = aN A 17 := h.acts.2.2.1
  have z0 : ∀ q j, zI (S_act S (aN A 17) t) 0 q j = if q = aN A 17 ∧ j = 0 then t else if q = aN A 17 ∧ j = 5 then -9 else if q = aN A 17 ∧ j = 3 then 1 else if q = aN A 17 then 0 else zI S 0 q j := by
    intro q j
    show zI (zsI (zsI (zsI (zNew (zNew S 0 6) 13 60) 0 (aN A 17) 3 1) 0 (aN A 17) 5 (-9)) 0 (aN A 17) 0 t) 0 q j = _
    rw [zI_sI, zI_sI, zI_sI, show zI (zNew (zNew S 0 6) 13 60) 0 q j = zI (zNew S 0 6) 0 q j from rfl, zI_nw, ez]
  have r24 : ∀ q, zR (S_act S (aN A 17) t) 24 0 q = if q = aN A 17 then some (aN A 17) else zR S 24 0 q := by
    intro q
    show zR (zsR _ 24 0 _ _) 24 0 q = _
    rw [zR_sR]
    simp only [true_and]
    rfl
  have r0 : ∀ q, q < aN A 17 + 1 → zR (S_act S (aN A 17) t) 0 q 2 = if q = aN A 17 then some (aN A 17) else zR S 0 q 2 := by
    intro q hq
    show zR (zsR (zNew (zNew S 0 6) 13 60) 0 (aN A 17) 2 (some (aN A 17))) 0 q 2 = _
    rw [zR_sR]
    simp only [and_true]
    by_cases e : q = aN A 17
    · rw [if_pos e, if_pos e]
    · rw [if_neg e, if_neg e]
      show zR (zNew S 0 6) 0 q 2 = _
      rw [zR_nw, ez, if_neg e]
  have l13 : ∀ q, zL (S_act S (aN A 17) t) 13 q = if q = aN A 17 then 60 else zL S 13 q := by
    intro q
    show zL (zNew (zNew S 0 6) 13 60) 13 q = _
    rw [zL_nw, show zN (zNew S 0 6) 13 = zN S 13 from rfl, ez13]; rfl
  have i13 : ∀ q j, q ≠ aN A 17 → zI (S_act S (aN A 17) t) 13 q j = zI S 13 q j := by
    intro q j e
    show zI (zNew (zNew S 0 6) 13 60) 13 q j = _
    rw [zI_nw, show zN (zNew S 0 6) 13 = zN S 13 from rfl, ez13, if_neg e]; rfl
  refine ⟨(((h.sc.new (k := 0) (n := 6) rfl).new (k := 13) (n := 60) rfl).sR (k := 0) (i := aN A 17) (j := 2) (v := some (aN A 17)) rfl).sR (k := 24) (i := 0) (j := aN A 17) (v := some (aN A 17)) rfl, h.town, h.men, h.paps, ⟨rfl, ?_, ?_, fun q hq => ?_⟩, h.tks, h.shps, h.tix, h.misc, ?_⟩
  · rw [en]
    show zN S 0 + 1 = _
    rw [ez]
  · rw [en]
    show zN S 13 + 1 = _
    rw [ez13]
  · rw [en] at hq
    by_cases e : q = aN A 17
    · have h41 : A.2 41 (aN A 17) = 0 := hA.2.2.2.2.2.1.2.1 _ (Nat.le_refl _) h8
      have hsn : aSn (A_act A t) q = 0 := by
        show (A.2 41 q).toNatClampNeg = 0
        rw [e, h41]; rfl
      refine ⟨by rw [r24, if_pos e, e], by rw [r0 q hq, if_pos e, e], by rw [l13, if_pos e], ?_, ?_, fun k hk => ?_, ?_⟩
      · rw [z0, if_pos ⟨e, rfl⟩]
        show t = if 40 = 40 ∧ q = aN A 17 then t else A.2 40 q
        rw [if_pos ⟨rfl, e⟩]
      · rw [z0, if_neg (by omega), if_neg (by omega), if_neg (by omega), if_pos e]
        show _ = A.2 41 q
        rw [e, h41]
      · rw [hsn] at hk; exact absurd hk (Nat.not_lt_zero _)
      · rw [hsn]
        show zI _ 0 q 5 = -9 ∧ zI _ 0 q 4 = nI 0 ∧ zI _ 0 q 3 = nI 1
        rw [z0, z0, z0, if_neg (by omega), if_pos ⟨e, rfl⟩, if_neg (by omega), if_neg (by omega), if_neg (by omega), if_pos e, if_neg (by omega), if_neg (by omega), if_pos ⟨e, rfl⟩]
        exact ⟨rfl, rfl, rfl⟩
    · have h0 := h.acts.2.2.2 q (by omega)
      have ez0 : ∀ j, zI (S_act S (aN A 17) t) 0 q j = zI S 0 q j := fun j => by rw [z0, if_neg (fun z => e z.1), if_neg (fun z => e z.1), if_neg (fun z => e z.1), if_neg e]
      have e40 : (A_act A t).2 40 q = A.2 40 q := aR_ne (fun z => e z.2)
      unfold RAct at h0 ⊢
      rw [r24, if_neg e, r0 q hq, if_neg e, l13, if_neg e, ez0, ez0, ez0, ez0, ez0, e40]
      refine ⟨h0.1, h0.2.1, h0.2.2.1, h0.2.2.2.1, h0.2.2.2.2.1, fun k hk => ?_, h0.2.2.2.2.2.2⟩
      rw [i13 q k e]; exact h0.2.2.2.2.2.1 k hk
  · have hb := h.bud
    unfold RCb at hb ⊢
    rw [en]
    have e1 : zc (S_act S (aN A 17) t) = zc S + 1 + 1 := rfl
    have e2 : zs (S_act S (aN A 17) t) = zs S + 6 + 60 := rfl
    have e3 : capOf (S_act S (aN A 17) t) = capOf S := rfl
    have e4 : aN (A_act A t) 5 = aN A 5 := rfl
    have e5 : aN (A_act A t) 15 = aN A 15 := rfl
    have e6 : aN (A_act A t) 9 = aN A 9 := rfl
    have e7 : aN (A_act A t) 22 = aN A 22 := rfl
    have e8 : aN (A_act A t) 31 = aN A 31 := rfl
    rw [e1, e2, e3, e4, e5, e6, e7, e8]
    omega
theorem act_fr {S : ZH} {a : Nat} {t : Int32} : frM S (S_act S a t) := by
  unfold S_act
  exact (frM_new (nM 0 rfl)).tr ((frM_new (nM 13 rfl)).tr ((frM_sR (nM 0 rfl)).tr ((frM_sI (nM 0 rfl)).tr ((frM_sI (nM 0 rfl)).tr ((frM_sI (nM 0 rfl)).tr ((frM_sR (nM 24 rfl)).tr (frM_sI (nM 11 rfl))))))))
theorem op_act {A : ZA} (hA : AIn A) (t : Int32) : OpE A (f_X11_act 0 t) (f_X12_act 0 t) := by
  have c := hA.c17
  have c2 := c.2
  by_cases ht : rg t 0 899
  · by_cases h8 : aN A 17 < 8
    · refine ⟨nI (aN A 17), A_act A t, act_AIn hA ht h8, fun S h => ⟨S_act S (aN A 17) t, ?_, act_RC hA h h8, act_fr⟩, fun S h => ⟨zsI (zsI (tS S) 40 0 (aN A 17) t) 12 0 17 (nI (aN A 17 + 1)), ?_, (h.t.R 40 (aN A 17) t (by omega)).F 17 (nI (aN A 17 + 1)), frC_t.tr ((frC_R (by omega) (by omega)).tr frC_F)⟩⟩
      · have ez : zN S 0 = aN A 17 := h.acts.2.1
        have ez13 : zN S 13 = aN A 17 := h.acts.2.2.1
        have e6 : zI S 11 0 6 = nI (aN A 17) := h.acts.1.trans c.1
        have hr := h.rm hA
        unfold f_X11_act
        rw [isTideC, if_pos ht, e6, h.al hA (by omega), ez, h.ref 11 5 rfl]
        simp only [Option.bind_some, if_pos (show ¬ (1 : Int32) = 0 by decide)]
        rw [if_pos (by rw [show (8 : Int32) = nI 8 from rfl, nI_ltI (by omega) (by omega)]; exact h8)]
        have e13 : zN (zNew S 0 6) 13 = aN A 17 := ez13
        have hin : f_X0_init (aN A 17) t (zNew S 0 6) = some (zsI (zsI (zsI (zsR (zNew (zNew S 0 6) 13 60) 0 (aN A 17) 2 (some (aN A 17))) 0 (aN A 17) 3 1) 0 (aN A 17) 5 (-9)) 0 (aN A 17) 0 t) := by
          unfold f_X0_init
          rw [show (60 : Int32) = nI 60 from rfl, znw_al (by decide), zal_ok ⟨by show zc S + 1 + 1 ≤ _; omega, by show zs S + 6 + 60 ≤ _; omega⟩, e13]
          rfl
        rw [hin]
        simp only [Option.bind_some]
        rw [zstR_b (m := 8) (by exact h.len 24 8 rfl) h8 (by decide)]
        rw [show zI (zsR (zsI (zsI (zsI (zsR (zNew (zNew S 0 6) 13 60) 0 (aN A 17) 2 (some (aN A 17))) 0 (aN A 17) 3 1) 0 (aN A 17) 5 (-9)) 0 (aN A 17) 0 t) 24 0 (aN A 17) (some (aN A 17))) 11 0 6 = nI (aN A 17) from e6, nI_1, zI_sI, if_pos ⟨rfl, rfl⟩, nI_pred]
        rfl
      · have e17 : zI (tS S) 12 0 17 = nI (aN A 17) := (h.t.f 17 rfl).trans c.1
        unfold f_X12_act
        rw [noTideM, if_pos ht, e17, h.t.ref 18 rfl]
        simp only [Option.bind_some, if_true]
        rw [if_pos (by rw [show (8 : Int32) = nI 8 from rfl, nI_eq (by omega) (by omega)]; omega), h.t.st 8 rfl h8 (by decide), show zI (zsI (tS S) 40 0 (aN A 17) t) 12 0 17 = nI (aN A 17) from e17, nI_1, zI_sI, if_pos ⟨rfl, rfl⟩, nI_pred]
    · have e8 : aN A 17 = 8 := by omega
      refine .same hA (-4) (fun S h => ?_) (fun S h => ?_)
      · have e6 : zI S 11 0 6 = nI 8 := by rw [← e8]; exact h.acts.1.trans c.1
        unfold f_X11_act
        rw [isTideC, if_pos ht, e6]; rfl
      · have e17 : zI (tS S) 12 0 17 = nI 8 := by rw [← e8]; exact (h.t.f 17 rfl).trans c.1
        unfold f_X12_act
        rw [noTideM, if_pos ht, e17]; rfl
  · refine .same hA (-2) (fun S h => ?_) (fun S h => ?_)
    · unfold f_X11_act; rw [isTideC, if_neg ht]; rfl
    · unfold f_X12_act; rw [noTideM, if_neg ht]; rfl
/-! ticket -/
def A_tic (A : ZA) (m w : Int32) : ZA := aF (aR (aR (aR A 48 (aN A 31) m) 49 (aN A 31) w) 50 (aN A 31) (-9)) 31 (nI (aN A 31 + 1))
def S_tic (S : ZH) (a : Nat) (m w : Int32) : ZH := zsI (zsR (zsI (zsI (zsI (zNew S 9 5) 9 a 2 (-9)) 9 a 0 m) 9 a 1 w) 26 0 a (some a)) 11 0 11 (nI (a + 1))
theorem AIn.tx0 {A : ZA} (h : AIn A) {t : Nat} (h1 : aN A 31 ≤ t) (h2 : t < 40) : A.2 51 t = 0 ∧ A.2 52 t = 0 := (h.2.2.2.2.2.2.2.1 t h2).2 h1
theorem tic_AIn {A : ZA} (hA : AIn A) {m w : Int32} (hm : isIx (aN A 5) m) (hw : rg w 1 4950) (h8 : aN A 31 < 40) : AIn (A_tic A m w) := by
  have en : aN (A_tic A m w) 31 = aN A 31 + 1 := aN_F _ 31 _ (by omega)
  refine ⟨⟨hA.c1, hA.c1p, hA.c4, hA.c5, hA.c9, hA.c15, hA.c17, hA.c22, hA.c24, hA.c24l, ⟨by rw [en]; rfl, by rw [en]; omega⟩, hA.room, hA.rate⟩, hA.2.1, hA.2.2.1, hA.2.2.2.1, hA.2.2.2.2.1, hA.2.2.2.2.2.1, hA.2.2.2.2.2.2.1, fun t ht => ⟨fun h1 => ?_, fun h1 => ?_⟩, hA.2.2.2.2.2.2.2.2⟩
  · rw [en] at h1
    by_cases e : t = aN A 31
    · have h0 := hA.tx0 (Nat.le_refl _) h8
      simp only [A_tic, aF, aR]
      simp [e, h0.1]
      exact ⟨hm, hw, Or.inl rfl⟩
    · have h0 := hA.tx (show t < aN A 31 by omega)
      simp only [A_tic, aF, aR]
      simp [e]
      exact h0
  · rw [en] at h1
    exact hA.tx0 (by omega) ht
theorem tic_RC {A : ZA} {S : ZH} (hA : AIn A) (h : RC A S) {m w : Int32} (h8 : aN A 31 < 40) : RC (A_tic A m w) (S_tic S (aN A 31) m w) := by
  have en : aN (A_tic A m w) 31 = aN A 31 + 1 := aN_F _ 31 _ (by omega)
  have ez : zN S 9 = aN A 31 := h.tix.2.1
  refine ⟨(h.sc.new (k := 9) (n := 5) rfl).sR (k := 26) (i := 0) (j := aN A 31) (v := some (aN A 31)) rfl, h.town, h.men, h.paps, h.acts, h.tks, h.shps, ⟨rfl, ?_, fun q hq => ?_⟩, h.misc, ?_⟩
  · rw [en]
    show zN S 9 + 1 = _
    rw [ez]
  · rw [en] at hq
    have hz : ∀ j, zI (S_tic S (aN A 31) m w) 9 q j = zI (zsI (zsI (zsI (zNew S 9 5) 9 (aN A 31) 2 (-9)) 9 (aN A 31) 0 m) 9 (aN A 31) 1 w) 9 q j := fun j => rfl
    have hr : zR (S_tic S (aN A 31) m w) 26 0 q = if q = aN A 31 then some (aN A 31) else zR S 26 0 q := by
      show zR (zsR _ 26 0 _ _) 26 0 q = _
      rw [zR_sR]
      simp only [true_and]
      rfl
    rw [hr]
    simp only [hz, zI_sI, zI_nw, ez]
    by_cases e : q = aN A 31
    · subst e
      have h0 := hA.tx0 (Nat.le_refl _) h8
      simp only [A_tic, aF, aR]
      simp [h0.1, h0.2]
    · have h0 := h.tix.2.2 q (by omega)
      simp only [A_tic, aF, aR]
      simpa [e] using h0
  · have hb := h.bud
    unfold RCb at hb ⊢
    rw [en]
    have e1 : zc (S_tic S (aN A 31) m w) = zc S + 1 := rfl
    have e2 : zs (S_tic S (aN A 31) m w) = zs S + 5 := rfl
    have e3 : capOf (S_tic S (aN A 31) m w) = capOf S := rfl
    have e4 : aN (A_tic A m w) 5 = aN A 5 := rfl
    have e5 : aN (A_tic A m w) 15 = aN A 15 := rfl
    have e6 : aN (A_tic A m w) 9 = aN A 9 := rfl
    have e7 : aN (A_tic A m w) 22 = aN A 22 := rfl
    have e8 : aN (A_tic A m w) 17 = aN A 17 := rfl
    rw [e1, e2, e3, e4, e5, e6, e7, e8]
    omega
theorem tic_fr {S : ZH} {a : Nat} {m w : Int32} : frM S (S_tic S a m w) := by
  unfold S_tic
  exact (frM_new (nM 9 rfl)).tr ((frM_sI (nM 9 rfl)).tr ((frM_sI (nM 9 rfl)).tr ((frM_sI (nM 9 rfl)).tr ((frM_sR (nM 26 rfl)).tr (frM_sI (nM 11 rfl))))))
theorem op_ticket {A : ZA} (hA : AIn A) (x y z : Int32) : OpE A (f_X11_ticket 0 x y z) (f_X12_ticket 0 x y z) := by
  have c := hA.c31
  have c2 := c.2
  by_cases hx : isIx (aN A 5) x
  · obtain ⟨i, hi, rfl⟩ := hx
    by_cases hy : rg y 1 99
    · by_cases hz : rg z 1 50
      · by_cases h8 : aN A 31 < 40
        · have hw : rg (y * z) 1 4950 := by
            obtain ⟨a, ha, rfl⟩ := rg_cases (n := 99) (by omega) ⟨by have := hy.1; omega, hy.2⟩
            obtain ⟨b, hb, rfl⟩ := rg_cases (n := 50) (by omega) ⟨by have := hz.1; omega, hz.2⟩
            have h1 := hy.1
            have h2 := hz.1
            rw [nI_toInt (by omega)] at h1 h2
            have h3 : a * b ≤ 99 * 50 := Nat.mul_le_mul ha hb
            have h4 : 0 < a * b := Nat.mul_pos (by omega) (by omega)
            rw [nI_mul]
            unfold rg
            rw [nI_toInt (by omega)]
            omega
          refine ⟨nI (aN A 31), A_tic A (nI i) (y * z), tic_AIn hA ⟨i, hi, rfl⟩ hw h8, fun S h => ⟨S_tic S (aN A 31) (nI i) (y * z), ?_, tic_RC hA h h8, tic_fr⟩, fun S h => ?_⟩
          · have ez : zN S 9 = aN A 31 := h.tix.2.1
            have e9 : zI S 11 0 11 = nI (aN A 31) := h.tix.1.trans c.1
            unfold f_X11_ticket f_X9_init
            rw [findMan_ix hA h hi, within_rg (a := 1) (b := 99) (p := 1) (q := 99) rfl rfl hy, within_rg (a := 1) (b := 50) (p := 1) (q := 50) rfl rfl hz, e9, h.al hA (by omega), ez, h.ref 11 10 rfl]
            simp only [Option.bind_some, reduceCtorEq, if_false, if_neg (show ¬ (1 : Int32) = 0 by decide), if_pos (show ¬ (1 : Int32) = 0 by decide)]
            rw [if_pos (show nI (aN A 31) < 40 by rw [show (40 : Int32) = nI 40 from rfl, nI_ltI (by omega) (by omega)]; exact h8), zstR_b (m := 40) (by exact h.len 26 40 rfl) h8 (by decide), show zI (zsR (zsI (zsI (zsI (zNew S 9 5) 9 (aN A 31) 2 (-9)) 9 (aN A 31) 0 (nI i)) 9 (aN A 31) 1 (y * z)) 26 0 (aN A 31) (some (aN A 31))) 11 0 11 = nI (aN A 31) from e9, nI_1, zI_sI, if_pos ⟨rfl, rfl⟩, nI_pred]
            rfl
          · have e9t : zI (tS S) 12 0 31 = nI (aN A 31) := (h.t.f 31 rfl).trans c.1
            refine ⟨zsI (zsI (zsI (zsI (tS S) 48 0 (aN A 31) (nI i)) 49 0 (aN A 31) (y * z)) 50 0 (aN A 31) (-9)) 12 0 31 (nI (aN A 31 + 1)), ?_, (((h.t.R 48 (aN A 31) (nI i) (by omega)).R 49 (aN A 31) (y * z) (by omega)).R 50 (aN A 31) (-9) (by omega)).F 31 (nI (aN A 31 + 1)), frC_t.tr ((frC_R (by omega) (by omega)).tr ((frC_R (by omega) (by omega)).tr ((frC_R (by omega) (by omega)).tr frC_F)))⟩
            unfold f_X12_ticket
            rw [noMan_ix hA h.t hi, in_rg (a := 1) (b := 99) (p := 1) (q := 99) rfl rfl hy, in_rg (a := 1) (b := 50) (p := 1) (q := 50) rfl rfl hz, e9t, h.t.ref 32 rfl]
            simp only [Option.bind_some, if_neg (show ¬ (1 : Int32) = 0 by decide), if_pos (show ¬ (1 : Int32) = 0 by decide), if_true]
            rw [if_pos (show ¬ nI (aN A 31) = 40 by rw [show (40 : Int32) = nI 40 from rfl, nI_eq (by omega) (by omega)]; omega)]
            rw [h.t.st 40 rfl h8 (by decide), show zR (zsI (tS S) 48 0 (aN A 31) (nI i)) 12 0 33 = some 0 from h.t.ref 33 rfl, show zI (zsI (tS S) 48 0 (aN A 31) (nI i)) 12 0 31 = nI (aN A 31) from e9t]
            simp only [Option.bind_some]
            rw [zst_b (m := 40) (by exact h.t.len 49 40 rfl) h8 (by decide), show zR (zsI (zsI (tS S) 48 0 (aN A 31) (nI i)) 49 0 (aN A 31) (y * z)) 12 0 34 = some 0 from h.t.ref 34 rfl, show zI (zsI (zsI (tS S) 48 0 (aN A 31) (nI i)) 49 0 (aN A 31) (y * z)) 12 0 31 = nI (aN A 31) from e9t]
            simp only [Option.bind_some]
            rw [zst_b (m := 40) (by exact h.t.len 50 40 rfl) h8 (by decide), show zI (zsI (zsI (zsI (tS S) 48 0 (aN A 31) (nI i)) 49 0 (aN A 31) (y * z)) 50 0 (aN A 31) (-9)) 12 0 31 = nI (aN A 31) from e9t, nI_1, zI_sI, if_pos ⟨rfl, rfl⟩, nI_pred]
        · have e8 : aN A 31 = 40 := by omega
          refine .same hA (-4) (fun S h => ?_) (fun S h => ?_)
          · have e6 : zI S 11 0 11 = nI 40 := by rw [← e8]; exact h.tix.1.trans c.1
            unfold f_X11_ticket
            rw [findMan_ix hA h hi, within_rg (a := 1) (b := 99) (p := 1) (q := 99) rfl rfl hy, within_rg (a := 1) (b := 50) (p := 1) (q := 50) rfl rfl hz, e6]; rfl
          · have e17 : zI (tS S) 12 0 31 = nI 40 := by rw [← e8]; exact (h.t.f 31 rfl).trans c.1
            unfold f_X12_ticket
            rw [noMan_ix hA h.t hi, in_rg (a := 1) (b := 99) (p := 1) (q := 99) rfl rfl hy, in_rg (a := 1) (b := 50) (p := 1) (q := 50) rfl rfl hz, e17]; rfl
      · refine .same hA (-2) (fun S h => ?_) (fun S h => ?_)
        · unfold f_X11_ticket
          rw [findMan_ix hA h hi, within_rg (a := 1) (b := 99) (p := 1) (q := 99) rfl rfl hy, within_nr (a := 1) (b := 50) (p := 1) (q := 50) rfl rfl hz]; rfl
        · unfold f_X12_ticket
          rw [noMan_ix hA h.t hi, in_rg (a := 1) (b := 99) (p := 1) (q := 99) rfl rfl hy, in_nr (a := 1) (b := 50) (p := 1) (q := 50) rfl rfl hz]; rfl
    · refine .same hA (-2) (fun S h => ?_) (fun S h => ?_)
      · unfold f_X11_ticket
        rw [findMan_ix hA h hi, within_nr (a := 1) (b := 99) (p := 1) (q := 99) rfl rfl hy]; rfl
      · unfold f_X12_ticket
        rw [noMan_ix hA h.t hi, in_nr (a := 1) (b := 99) (p := 1) (q := 99) rfl rfl hy]; rfl
  · refine .same hA (-1) (fun S h => ?_) (fun S h => ?_)
    · unfold f_X11_ticket; rw [findMan_no hA h hx]; rfl
    · unfold f_X12_ticket; rw [noMan_no hA h.t hx]; rfl
