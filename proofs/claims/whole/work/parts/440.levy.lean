/-! ===== sets of ships as bits ===== -/
theorem nx_or (a b : Nat) : nI a ||| nI b = nI (a ||| b) := by
  apply Int32.toBitVec_inj.1
  show BitVec.ofNat 32 a ||| BitVec.ofNat 32 b = BitVec.ofNat 32 (a ||| b)
  apply BitVec.eq_of_getLsbD_eq
  intro i hi
  simp [hi]
theorem sh1 : ∀ s, s < 11 → ((1 : Int32) <<< (nI s &&& 31)) = nI (2 ^ s) := by decide +kernel
def bt (x : Int32) (i : Nat) : Bool := x.toBitVec.getLsbD i
theorem bt_nI {m : Nat} (hm : m < 2 ^ 32) {i : Nat} (hi : i < 32) : bt (nI m) i = m.testBit i := by
  show (BitVec.ofNat 32 m).getLsbD i = _
  rw [BitVec.getLsbD_ofNat]
  simp [hi]
theorem smod10 : ∀ n, n < 32 → ((nI n &&& 31).toBitVec.smod 32).toNat = n := by decide +kernel
theorem and1 (y : Int32) : (y &&& 1 = 1) ↔ bt y 0 = true := by
  have e : (y &&& 1).toBitVec = BitVec.setWidth 32 (BitVec.ofBool (y.toBitVec.getLsbD 0)) := by
    rw [Int32.toBitVec_and]; exact BitVec.and_one_eq_setWidth_ofBool_getLsbD
  unfold bt
  cases hh : y.toBitVec.getLsbD 0
  · rw [hh] at e
    constructor
    · intro z; rw [z] at e; exact absurd e (by decide)
    · intro z; cases z
  · rw [hh] at e
    constructor
    · intro _; rfl
    · intro _; apply Int32.toBitVec_inj.mp; rw [e]; rfl
theorem bitAt (x : Int32) {s : Nat} (hs : s < 31) : ((x >>> (nI s &&& 31)) &&& 1 = 1) ↔ bt x s = true := by
  rw [and1]
  have e : bt (x >>> (nI s &&& 31)) 0 = bt x s := by
    unfold bt
    rw [Int32.toBitVec_shiftRight, BitVec.sshiftRight_eq', smod10 s (by omega), BitVec.getLsbD_sshiftRight]
    simp
    omega
  rw [e]
theorem sub_bits {m K : Nat} (hm : m < 2 ^ 32) (hK : K < 2 ^ 32) : (nI m &&& (nI K ^^^ (-1 : Int32)) = 0) ↔ ∀ i, i < 32 → m.testBit i = true → K.testBit i = true := by
  constructor
  · intro h i hi hb
    have h1 : bt (nI m &&& (nI K ^^^ (-1 : Int32))) i = false := by rw [h]; unfold bt; exact BitVec.getLsbD_zero
    unfold bt at h1
    rw [Int32.toBitVec_and, BitVec.getLsbD_and, Int32.toBitVec_xor, BitVec.getLsbD_xor] at h1
    have h2 : (nI m).toBitVec.getLsbD i = m.testBit i := bt_nI hm hi
    have h3 : (nI K).toBitVec.getLsbD i = K.testBit i := bt_nI hK hi
    have h4 : (-1 : Int32).toBitVec.getLsbD i = true := by
      have : ∀ i, i < 32 → (-1 : Int32).toBitVec.getLsbD i = true := by decide
      exact this i hi
    rw [h2, h3, h4, hb] at h1
    simpa using h1
  · intro h
    apply Int32.toBitVec_inj.mp
    apply BitVec.eq_of_getLsbD_eq
    intro i hi
    rw [Int32.toBitVec_and, BitVec.getLsbD_and, Int32.toBitVec_xor, BitVec.getLsbD_xor]
    have h2 : (nI m).toBitVec.getLsbD i = m.testBit i := bt_nI hm hi
    have h3 : (nI K).toBitVec.getLsbD i = K.testBit i := bt_nI hK hi
    have h4 : (-1 : Int32).toBitVec.getLsbD i = true := by
      have : ∀ i, i < 32 → (-1 : Int32).toBitVec.getLsbD i = true := by decide
      exact this i hi
    have h5 : (0 : Int32).toBitVec.getLsbD i = false := BitVec.getLsbD_zero
    rw [h2, h3, h4, h5]
    cases q : m.testBit i with
    | false => rfl
    | true => rw [h i hi q]; rfl
theorem i_nat (x : Int32) : ∃ m, m < 2 ^ 32 ∧ x = nI m := ⟨x.toBitVec.toNat, x.toBitVec.isLt, Int32.toBitVec_inj.mp (by show _ = BitVec.ofNat 32 _; simp)⟩
/-- the king's ships at home -/
def kgB (A : ZA) (s : Nat) : Bool := decide (A.2 34 s = 0) && decide (A.2 38 s = 0)
def kgN (A : ZA) : Nat → Nat
  | 0 => 0
  | s + 1 => if kgB A s = true then kgN A s ||| 2 ^ s else kgN A s
theorem kgN_lt {A : ZA} : ∀ s, kgN A s < 2 ^ s
  | 0 => Nat.zero_lt_one
  | s + 1 => by
    have ih := kgN_lt (A := A) s
    have h1 : 2 ^ s < 2 ^ (s + 1) := Nat.pow_lt_pow_right (by decide) (by omega)
    unfold kgN
    split
    · exact Nat.or_lt_two_pow (Nat.lt_trans ih h1) h1
    · exact Nat.lt_trans ih h1
theorem kgN_bit {A : ZA} {i : Nat} : ∀ s, (kgN A s).testBit i = (decide (i < s) && kgB A i)
  | 0 => by
    show Nat.testBit 0 i = _
    rw [Nat.zero_testBit]
    simp
  | s + 1 => by
    have ih := kgN_bit (A := A) (i := i) s
    unfold kgN
    by_cases q : kgB A s = true
    · rw [if_pos q, Nat.testBit_or, ih, Nat.testBit_two_pow]
      by_cases e : s = i
      · subst e; simp [q]
      · simp only [e, decide_false, Bool.or_false]
        congr 1
        exact decide_eq_decide.mpr (by omega)
    · rw [if_neg q, ih]
      by_cases e : s = i
      · subst e
        rw [show kgB A s = false by simpa using q]
        simp
      · congr 1
        exact decide_eq_decide.mpr (by omega)
theorem RC.shAt {A : ZA} {S : ZH} (hA : AIn A) (h : RC A S) {s : Nat} (hs : s < aN A 9) : zldR S 25 0 (nI s) = some (some s) := by
  have := hA.c9.2
  rw [zldR_at (h.len 25 10 rfl) (by omega) (by decide), (h.shps.2.2 s hs).1]
theorem RC.nSh {A : ZA} {S : ZH} (hA : AIn A) (h : RC A S) : zI S 11 0 9 = nI (aN A 9) := h.shps.1.trans hA.c9.1
theorem MV.nSh {A : ZA} {S : ZH} (hA : AIn A) (h : MV A S) : zI S 12 0 9 = nI (aN A 9) := (h.f 9 rfl).trans hA.c9.1
theorem kings_eq {A : ZA} {S : ZH} (hA : AIn A) (h : RC A S) : f_X11_kingsAtHome 0 S = some (nI (kgN A (aN A 9))) := by
  have c9 := hA.c9.2
  unfold f_X11_kingsAtHome
  refine (o_b (a := nI (kgN A (aN A 9))) ?_).trans rfl
  refine z_for0 (fun j => (nI (kgN A j), nI j)) (aN A 9) rfl (by omega) (fun j hj => ?_) ?_
  · obtain ⟨r, a0, a1, a2, a3, a4⟩ := h.shps.2.2 j hj
    unfold b_X11_kingsAtHome_4
    dsimp only
    rw [h.nSh hA, if_neg (by rw [nI_leI (by omega) (by omega)]; omega), nI_1]
    refine (o_b (h.ref 11 8 rfl)).trans ?_
    refine (o_b (h.shAt hA hj)).trans ?_
    refine (o_b (a := j) rfl).trans ?_
    rw [a0]
    show _ = some (Sum.inl (nI (if kgB A j = true then kgN A j ||| 2 ^ j else kgN A j), nI (j + 1)))
    unfold kgB
    by_cases q1 : A.2 34 j = 0
    · rw [if_neg (fun z => z q1)]
      refine (o_b (h.ref 11 8 rfl)).trans ?_
      refine (o_b (h.shAt hA hj)).trans ?_
      refine (o_b (a := j) rfl).trans ?_
      rw [a4]
      by_cases q2 : A.2 38 j = 0
      · rw [if_pos q2, if_neg (by decide), sh1 j (by omega), nx_or, if_pos (by simp [q1, q2])]
      · rw [if_neg q2, if_pos rfl, if_neg (by simp [q2])]
    · rw [if_pos q1, if_neg (by simp [q1])]
  · unfold b_X11_kingsAtHome_4
    dsimp only
    rw [h.nSh hA, if_pos (nI_le (Nat.le_refl _) (by omega))]
theorem mayGo_eq {A : ZA} {S : ZH} (hA : AIn A) (h : MV A S) {s : Nat} (hs : s < aN A 9) : f_X12_mayGo 0 (nI s) S = some (pC (kgB A s)) := by
  have c9 := hA.c9.2
  unfold f_X12_mayGo kgB
  refine (o_b (h.ref 10 rfl)).trans ?_
  refine (o_b (h.ld 10 rfl rfl (by omega) (by decide))).trans ?_
  by_cases q1 : A.2 34 s = 0
  · rw [if_neg (fun z => z q1)]
    refine (o_b (h.ref 14 rfl)).trans ?_
    refine (o_b (h.ld 10 rfl rfl (by omega) (by decide))).trans ?_
    by_cases q2 : A.2 38 s = 0
    · rw [if_neg (fun z => z q2)]; simp [q1, q2, pC]
    · rw [if_pos q2]; simp [q2, pC]
  · rw [if_pos q1]; simp [q1, pC]
/-! the levy -/
def trB (A : ZA) (s : Nat) : Bool := decide (A.2 34 s = 1) && decide (A.2 38 s = 0)
def HS (A : ZA) : Nat → Int32
  | 0 => mAt A 20
  | s + 1 => if kgB A s = true then HS A s + mAt A (nI (10 + s)) else HS A s
def KS (A : ZA) : Nat → Int32
  | 0 => kAtS A 20
  | s + 1 => if kgB A s = true then KS A s + kAtS A (nI (10 + s)) else KS A s
def minI (x y : Int32) : Int32 := if y < x then y else x
def SP (A : ZA) (w : Int32) : Nat → Int32
  | 0 => 0
  | s + 1 => if trB A s = true then SP A w s + sprV A s w else SP A w s
def SQ (A : ZA) (w : Int32) : Nat → Int32
  | 0 => 0
  | s + 1 => if trB A s = true then SQ A w s + minI (sprV A s w) (kAtS A (nI (10 + s))) else SQ A w s
theorem mAt_bd {A : ZA} (hA : AIn A) (p : Int32) : 0 ≤ (mAt A p).toInt ∧ (mAt A p).toInt ≤ 40 ∧ 0 ≤ (kAtS A p).toInt ∧ (kAtS A p).toInt ≤ 40 := by
  have c5 := hA.c5.2
  have h1 := cntN_le (fun i => decide (aP A i = p)) (aN A 5)
  have h2 := cntN_le (fun i => decide (aP A i = p) && isSea A i) (aN A 5)
  unfold mAt kAtS
  rw [nI_toInt (by omega), nI_toInt (by omega)]
  omega
theorem spr_bd {A : ZA} (hA : AIn A) {s : Nat} (hs : s < aN A 9) {w : Int32} (hw : rg w 0 3) : 0 ≤ (sprV A s w).toInt ∧ (sprV A s w).toInt ≤ 40 := by
  have h1 := mAt_bd hA (nI (10 + s))
  have h2 := (hA.sh hs).2.2.2.1
  have h3 := hw.1
  have h4 := hw.2
  have h5 := h2.1
  have h6 := h2.2
  unfold sprV pos0
  have e1 : (mAt A (nI (10 + s)) - A.2 37 s).toInt = (mAt A (nI (10 + s))).toInt - (A.2 37 s).toInt := i_sub (by omega) (by omega)
  have e2 : (mAt A (nI (10 + s)) - A.2 37 s - w).toInt = (mAt A (nI (10 + s))).toInt - (A.2 37 s).toInt - w.toInt := by
    rw [i_sub (by rw [e1]; omega) (by rw [e1]; omega), e1]
  split
  · exact ⟨Int.le_refl _, by decide⟩
  · rename_i q
    rw [Int32.le_iff_toInt_le, i0, e2] at q
    rw [e2]
    omega
theorem SQ_bd {A : ZA} (hA : AIn A) {w : Int32} (hw : rg w 0 3) : ∀ s, s ≤ aN A 9 → 0 ≤ (SQ A w s).toInt ∧ (SQ A w s).toInt ≤ 40 * s
  | 0, _ => ⟨Int.le_refl _, by show (0 : Int32).toInt ≤ 40 * ((0 : Nat) : Int); decide⟩
  | s + 1, h => by
    have c9 := hA.c9.2
    have ih := SQ_bd hA hw s (by omega)
    have h1 := spr_bd hA (show s < aN A 9 by omega) hw
    have h2 := mAt_bd hA (nI (10 + s))
    unfold SQ
    split
    · have h3 : 0 ≤ (minI (sprV A s w) (kAtS A (nI (10 + s)))).toInt ∧ (minI (sprV A s w) (kAtS A (nI (10 + s)))).toInt ≤ 40 := by
        unfold minI
        split <;> omega
      rw [i_add (by omega) (by omega)]
      omega
    · omega
def lfV (n k h q sp sq : Int32) : Int32 := if sq < k - q ∨ sp < pos0 (if n - h ≤ k - q then k - q else n - h) then -9 else pos0 (if n - h ≤ k - q then k - q else n - h)
