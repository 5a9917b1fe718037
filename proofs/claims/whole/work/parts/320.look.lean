/-! ===== looking things up ===== -/
theorem i0 : (0 : Int32).toInt = 0 := rfl
theorem i1 : (1 : Int32).toInt = 1 := rfl
theorem l0 : (0 : Int64).toInt = 0 := rfl
theorem rngT {n : Nat} {c x : Int32} (hc : c = nI n) (hn : n ≤ 100000) : (0 ≤ x.toInt ∧ x.toInt ≤ (c - 1).toInt) ↔ isIx n x := by
  have e : (c - 1).toInt = (n : Int) - 1 := by
    have e1 : c.toInt = n := by rw [hc, nI_toInt (by omega)]
    rw [i_sub (by rw [e1, i1]; omega) (by rw [e1, i1]; omega), e1, i1]
  rw [isIx_iff (by omega), e]
  omega
theorem within_ix {n : Nat} {c x : Int32} {S : ZH} (hc : c = nI n) (hn : n ≤ 100000) (h : isIx n x) : f_X11_within x 0 (c - 1) S = some 1 := by
  rw [within_eq, if_pos (by rw [i0]; exact (rngT hc hn).mpr h)]
theorem within_no {n : Nat} {c x : Int32} {S : ZH} (hc : c = nI n) (hn : n ≤ 100000) (h : ¬ isIx n x) : f_X11_within x 0 (c - 1) S = some 0 := by
  rw [within_eq, if_neg (by rw [i0]; exact fun q => h ((rngT hc hn).mp q))]
theorem in_ix {n : Nat} {c x : Int32} {S : ZH} (hc : c = nI n) (hn : n ≤ 100000) (h : isIx n x) : f_X12_in x.toInt64 0 (c - 1).toInt64 S = some 1 := by
  rw [in_eq, l_toInt, l_toInt, if_pos (by rw [l0]; exact (rngT hc hn).mpr h)]
theorem in_no {n : Nat} {c x : Int32} {S : ZH} (hc : c = nI n) (hn : n ≤ 100000) (h : ¬ isIx n x) : f_X12_in x.toInt64 0 (c - 1).toInt64 S = some 0 := by
  rw [in_eq, l_toInt, l_toInt, if_neg (by rw [l0]; exact fun q => h ((rngT hc hn).mp q))]
/-- the two tests of a number between two written ones -/
theorem within_rg {x a b : Int32} {p q : Int} {S : ZH} (ha : a.toInt = p) (hb : b.toInt = q) (h : rg x p q) : f_X11_within x a b S = some 1 := by
  unfold rg at h; rw [within_eq, ha, hb, if_pos h]
theorem within_nr {x a b : Int32} {p q : Int} {S : ZH} (ha : a.toInt = p) (hb : b.toInt = q) (h : ¬ rg x p q) : f_X11_within x a b S = some 0 := by
  unfold rg at h; rw [within_eq, ha, hb, if_neg h]
theorem in_rg {x : Int32} {a b : Int64} {p q : Int} {S : ZH} (ha : a.toInt = p) (hb : b.toInt = q) (h : rg x p q) : f_X12_in x.toInt64 a b S = some 1 := by
  unfold rg at h; rw [in_eq, l_toInt, ha, hb, if_pos h]
theorem in_nr {x : Int32} {a b : Int64} {p q : Int} {S : ZH} (ha : a.toInt = p) (hb : b.toInt = q) (h : ¬ rg x p q) : f_X12_in x.toInt64 a b S = some 0 := by
  unfold rg at h; rw [in_eq, l_toInt, ha, hb, if_neg h]
abbrev tS (S : ZH) : ZH := zsI S 12 0 0 0
def MV (A : ZA) (S : ZH) : Prop := SM S ∧ eqA A (zV S)
def okK (k : Nat) : Bool := Nat.ble 29 k && k != 30 && k != 43 && k != 45 && k != 46 && k != 47
theorem MV.t {A : ZA} {S : ZH} (h : MV A S) : MV A (tS S) := ⟨h.1, h.2.tr (zV_sF (Or.inl rfl))⟩
theorem MV.f {A : ZA} {S : ZH} (h : MV A S) (j : Nat) (hj : (j != 0 && j != 30) = true) : zI S 12 0 j = A.1 j := by
  simp only [Bool.and_eq_true, bne_iff_ne, ne_eq] at hj
  exact h.2.1 j hj.1 hj.2
theorem MV.r {A : ZA} {S : ZH} (h : MV A S) (k : Nat) (hk : okK k = true) : zI S k 0 = A.2 k := by
  simp only [okK, Bool.and_eq_true, bne_iff_ne, ne_eq, Nat.ble_eq] at hk
  exact h.2.2 k hk.1.1.1.1.1 hk.1.1.1.1.2 hk.1.1.1.2 hk.1.1.2 hk.1.2 hk.2
theorem MV.ref {A : ZA} {S : ZH} (h : MV A S) (j : Nat) (hj : SMr.contains j = true) : zR S 12 0 j = some 0 := h.1.1 j (by simpa using hj)
theorem MV.len {A : ZA} {S : ZH} (h : MV A S) (k m : Nat) (hj : SMl.contains (k, m) = true) : zL S k 0 = m := h.1.2 (k, m) (by simpa using hj)
theorem MV.ld {A : ZA} {S : ZH} (h : MV A S) {k n : Nat} (m : Nat) (hj : SMl.contains (k, m) = true) (hk : okK k = true) (hn : n < m) (hm : m < 2 ^ 31) : zld S k 0 (nI n) = some (A.2 k n) := by
  rw [zld_at (h.len k m hj) hn hm, h.r k hk]
theorem frC_t {S : ZH} : frC S (tS S) := frC_sI (Or.inl rfl)
theorem RC.ref {A : ZA} {S : ZH} (h : RC A S) (k j : Nat) (hj : SCr.contains (k, j) = true) : zR S k 0 j = some 0 := h.1.1 (k, j) (by simpa using hj)
theorem RC.len {A : ZA} {S : ZH} (h : RC A S) (k m : Nat) (hj : SCl.contains (k, m) = true) : zL S k 0 = m := h.1.2 (k, m) (by simpa using hj)
theorem AIn.c1 {A : ZA} (h : AIn A) : ctr A 1 8 := h.1.1
theorem AIn.c1p {A : ZA} (h : AIn A) : 1 ≤ aN A 1 := h.1.2.1
theorem AIn.c4 {A : ZA} (h : AIn A) : ctr A 4 899 := h.1.2.2.1
theorem AIn.c5 {A : ZA} (h : AIn A) : ctr A 5 40 := h.1.2.2.2.1
theorem AIn.c9 {A : ZA} (h : AIn A) : ctr A 9 10 := h.1.2.2.2.2.1
theorem AIn.c15 {A : ZA} (h : AIn A) : ctr A 15 60 := h.1.2.2.2.2.2.1
theorem AIn.c17 {A : ZA} (h : AIn A) : ctr A 17 8 := h.1.2.2.2.2.2.2.1
theorem AIn.c22 {A : ZA} (h : AIn A) : ctr A 22 60 := h.1.2.2.2.2.2.2.2.1
theorem AIn.c24 {A : ZA} (h : AIn A) : ctr A 24 60 := h.1.2.2.2.2.2.2.2.2.1
theorem AIn.c24l {A : ZA} (h : AIn A) : aN A 24 ≤ aN A 22 := h.1.2.2.2.2.2.2.2.2.2.1
theorem AIn.c31 {A : ZA} (h : AIn A) : ctr A 31 40 := h.1.2.2.2.2.2.2.2.2.2.2.1
theorem AIn.room {A : ZA} (h : AIn A) : rg (A.1 25) 0 40 := h.1.2.2.2.2.2.2.2.2.2.2.2.1
theorem AIn.rate {A : ZA} (h : AIn A) : rg (A.1 26) 0 100 := h.1.2.2.2.2.2.2.2.2.2.2.2.2
theorem RC.sc {A : ZA} {S : ZH} (h : RC A S) : SC S := h.1
theorem RC.town {A : ZA} {S : ZH} (h : RC A S) : RCt A S := h.2.1
theorem RC.men {A : ZA} {S : ZH} (h : RC A S) : RCm A S := h.2.2.1
theorem RC.paps {A : ZA} {S : ZH} (h : RC A S) : RCp A S := h.2.2.2.1
theorem RC.acts {A : ZA} {S : ZH} (h : RC A S) : RCa A S := h.2.2.2.2.1
theorem RC.tks {A : ZA} {S : ZH} (h : RC A S) : RCk A S := h.2.2.2.2.2.1
theorem RC.shps {A : ZA} {S : ZH} (h : RC A S) : RCs A S := h.2.2.2.2.2.2.1
theorem RC.tix {A : ZA} {S : ZH} (h : RC A S) : RCc A S := h.2.2.2.2.2.2.2.1
theorem RC.misc {A : ZA} {S : ZH} (h : RC A S) : RCx A S := h.2.2.2.2.2.2.2.2.1
theorem RC.bud {A : ZA} {S : ZH} (h : RC A S) : RCb A S := h.2.2.2.2.2.2.2.2.2
theorem findMan_ix {A : ZA} {S : ZH} (hA : AIn A) (h : RC A S) {i : Nat} (hi : i < aN A 5) : f_X11_findMan 0 (nI i) S = some (some i) := by
  have hc := hA.c5
  have hb := hc.2
  unfold f_X11_findMan
  rw [within_ix (h.men.1.trans hc.1) (by omega) ⟨i, hi, rfl⟩, h.ref 11 1 rfl]
  simp only [Option.bind_some]
  rw [zldR_at (h.len 22 40 rfl) (by omega) (by decide), (h.men.2.2.1 i hi).1]
  rfl
theorem findMan_no {A : ZA} {S : ZH} (hA : AIn A) (h : RC A S) {x : Int32} (hx : ¬ isIx (aN A 5) x) : f_X11_findMan 0 x S = some none := by
  have hc := hA.c5
  have hb := hc.2
  unfold f_X11_findMan
  rw [within_no (h.men.1.trans hc.1) (by omega) hx]
  rfl
theorem findPaper_ix {A : ZA} {S : ZH} (hA : AIn A) (h : RC A S) {i : Nat} (hi : i < aN A 15) : f_X11_findPaper 0 (nI i) S = some (some i) := by
  have hc := hA.c15
  have hb := hc.2
  unfold f_X11_findPaper
  rw [within_ix (h.paps.1.trans hc.1) (by omega) ⟨i, hi, rfl⟩, h.ref 11 3 rfl]
  simp only [Option.bind_some]
  rw [zldR_at (h.len 23 60 rfl) (by omega) (by decide), (h.paps.2.2.2 i hi).1]
  rfl
theorem findPaper_no {A : ZA} {S : ZH} (hA : AIn A) (h : RC A S) {x : Int32} (hx : ¬ isIx (aN A 15) x) : f_X11_findPaper 0 x S = some none := by
  have hc := hA.c15
  have hb := hc.2
  unfold f_X11_findPaper
  rw [within_no (h.paps.1.trans hc.1) (by omega) hx]
  rfl
theorem findAct_ix {A : ZA} {S : ZH} (hA : AIn A) (h : RC A S) {i : Nat} (hi : i < aN A 17) : f_X11_findAct 0 (nI i) S = some (some i) := by
  have hc := hA.c17
  have hb := hc.2
  unfold f_X11_findAct
  rw [within_ix (h.acts.1.trans hc.1) (by omega) ⟨i, hi, rfl⟩, h.ref 11 5 rfl]
  simp only [Option.bind_some]
  rw [zldR_at (h.len 24 8 rfl) (by omega) (by decide), (h.acts.2.2.2 i hi).1]
  rfl
theorem findAct_no {A : ZA} {S : ZH} (hA : AIn A) (h : RC A S) {x : Int32} (hx : ¬ isIx (aN A 17) x) : f_X11_findAct 0 x S = some none := by
  have hc := hA.c17
  have hb := hc.2
  unfold f_X11_findAct
  rw [within_no (h.acts.1.trans hc.1) (by omega) hx]
  rfl
theorem findShip_ix {A : ZA} {S : ZH} (hA : AIn A) (h : RC A S) {i : Nat} (hi : i < aN A 9) : f_X11_findShip 0 (nI i) S = some (some i) := by
  have hc := hA.c9
  have hb := hc.2
  unfold f_X11_findShip
  rw [within_ix (h.shps.1.trans hc.1) (by omega) ⟨i, hi, rfl⟩, h.ref 11 8 rfl]
  simp only [Option.bind_some]
  rw [zldR_at (h.len 25 10 rfl) (by omega) (by decide), (h.shps.2.2 i hi).1]
  rfl
theorem findShip_no {A : ZA} {S : ZH} (hA : AIn A) (h : RC A S) {x : Int32} (hx : ¬ isIx (aN A 9) x) : f_X11_findShip 0 x S = some none := by
  have hc := hA.c9
  have hb := hc.2
  unfold f_X11_findShip
  rw [within_no (h.shps.1.trans hc.1) (by omega) hx]
  rfl
theorem findTicket_ix {A : ZA} {S : ZH} (hA : AIn A) (h : RC A S) {i : Nat} (hi : i < aN A 31) : f_X11_findTicket 0 (nI i) S = some (some i) := by
  have hc := hA.c31
  have hb := hc.2
  unfold f_X11_findTicket
  rw [within_ix (h.tix.1.trans hc.1) (by omega) ⟨i, hi, rfl⟩, h.ref 11 10 rfl]
  simp only [Option.bind_some]
  rw [zldR_at (h.len 26 40 rfl) (by omega) (by decide), (h.tix.2.2 i hi).1]
  rfl
theorem findTicket_no {A : ZA} {S : ZH} (hA : AIn A) (h : RC A S) {x : Int32} (hx : ¬ isIx (aN A 31) x) : f_X11_findTicket 0 x S = some none := by
  have hc := hA.c31
  have hb := hc.2
  unfold f_X11_findTicket
  rw [within_no (h.tix.1.trans hc.1) (by omega) hx]
  rfl
theorem noStreet_ix {A : ZA} {S : ZH} (hA : AIn A) (h : MV A S) {i : Nat} (hi : i < aN A 1) : f_X12_noStreet 0 (nI i) S = some 0 := by
  have hc := hA.c1
  have hb := hc.2
  unfold f_X12_noStreet
  rw [in_ix ((h.f 1 rfl).trans hc.1) (by omega) ⟨i, hi, rfl⟩]
  rfl
theorem noStreet_no {A : ZA} {S : ZH} (hA : AIn A) (h : MV A S) {x : Int32} (hx : ¬ isIx (aN A 1) x) : f_X12_noStreet 0 x S = some 1 := by
  have hc := hA.c1
  have hb := hc.2
  unfold f_X12_noStreet
  rw [in_no ((h.f 1 rfl).trans hc.1) (by omega) hx]
  rfl
theorem noMan_ix {A : ZA} {S : ZH} (hA : AIn A) (h : MV A S) {i : Nat} (hi : i < aN A 5) : f_X12_noMan 0 (nI i) S = some 0 := by
  have hc := hA.c5
  have hb := hc.2
  unfold f_X12_noMan
  rw [in_ix ((h.f 5 rfl).trans hc.1) (by omega) ⟨i, hi, rfl⟩]
  rfl
theorem noMan_no {A : ZA} {S : ZH} (hA : AIn A) (h : MV A S) {x : Int32} (hx : ¬ isIx (aN A 5) x) : f_X12_noMan 0 x S = some 1 := by
  have hc := hA.c5
  have hb := hc.2
  unfold f_X12_noMan
  rw [in_no ((h.f 5 rfl).trans hc.1) (by omega) hx]
  rfl
theorem noShip_ix {A : ZA} {S : ZH} (hA : AIn A) (h : MV A S) {i : Nat} (hi : i < aN A 9) : f_X12_noShip 0 (nI i) S = some 0 := by
  have hc := hA.c9
  have hb := hc.2
  unfold f_X12_noShip
  rw [in_ix ((h.f 9 rfl).trans hc.1) (by omega) ⟨i, hi, rfl⟩]
  rfl
theorem noShip_no {A : ZA} {S : ZH} (hA : AIn A) (h : MV A S) {x : Int32} (hx : ¬ isIx (aN A 9) x) : f_X12_noShip 0 x S = some 1 := by
  have hc := hA.c9
  have hb := hc.2
  unfold f_X12_noShip
  rw [in_no ((h.f 9 rfl).trans hc.1) (by omega) hx]
  rfl
theorem noPaper_ix {A : ZA} {S : ZH} (hA : AIn A) (h : MV A S) {i : Nat} (hi : i < aN A 15) : f_X12_noPaper 0 (nI i) S = some 0 := by
  have hc := hA.c15
  have hb := hc.2
  unfold f_X12_noPaper
  rw [in_ix ((h.f 15 rfl).trans hc.1) (by omega) ⟨i, hi, rfl⟩]
  rfl
theorem noPaper_no {A : ZA} {S : ZH} (hA : AIn A) (h : MV A S) {x : Int32} (hx : ¬ isIx (aN A 15) x) : f_X12_noPaper 0 x S = some 1 := by
  have hc := hA.c15
  have hb := hc.2
  unfold f_X12_noPaper
  rw [in_no ((h.f 15 rfl).trans hc.1) (by omega) hx]
  rfl
theorem noTicket_ix {A : ZA} {S : ZH} (hA : AIn A) (h : MV A S) {i : Nat} (hi : i < aN A 31) : f_X12_noTicket 0 (nI i) S = some 0 := by
  have hc := hA.c31
  have hb := hc.2
  unfold f_X12_noTicket
  rw [in_ix ((h.f 31 rfl).trans hc.1) (by omega) ⟨i, hi, rfl⟩]
  rfl
theorem noTicket_no {A : ZA} {S : ZH} (hA : AIn A) (h : MV A S) {x : Int32} (hx : ¬ isIx (aN A 31) x) : f_X12_noTicket 0 x S = some 1 := by
  have hc := hA.c31
  have hb := hc.2
  unfold f_X12_noTicket
  rw [in_no ((h.f 31 rfl).trans hc.1) (by omega) hx]
  rfl
theorem has_ix {A : ZA} {S : ZH} (hA : AIn A) (h : RC A S) {i : Nat} (hi : i < aN A 1) : f_X10_has 0 (nI i) S = some 1 := by
  have hc := hA.c1
  have hb := hc.2
  unfold f_X10_has
  rw [within_ix (h.town.1.trans hc.1) (by omega) ⟨i, hi, rfl⟩]
  rfl
theorem has_no {A : ZA} {S : ZH} (hA : AIn A) (h : RC A S) {x : Int32} (hx : ¬ isIx (aN A 1) x) : f_X10_has 0 x S = some 0 := by
  have hc := hA.c1
  have hb := hc.2
  unfold f_X10_has
  rw [within_no (h.town.1.trans hc.1) (by omega) hx]
  rfl
