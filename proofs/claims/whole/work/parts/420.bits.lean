/-! ===== rows from the kit's texts to paste: numbers as bits ===== -/
theorem nx_and (a b : Nat) : nI a &&& nI b = nI (a &&& b) := by
  apply Int32.toBitVec_inj.1
  show BitVec.ofNat 32 a &&& BitVec.ofNat 32 b = BitVec.ofNat 32 (a &&& b)
  apply BitVec.eq_of_getLsbD_eq
  intro i hi
  simp [hi]
theorem wb_tb (n : Nat) : (lN n).toBitVec = BitVec.ofNat 64 n := rfl
theorem wb_inj {a b : Int64} (h : a.toBitVec = b.toBitVec) : a = b := Int64.toBitVec_inj.mp h
theorem wb_tn {n : Nat} (h : n < 2 ^ 64) : (lN n).toBitVec.toNat = n := by rw [wb_tb, BitVec.toNat_ofNat, Nat.mod_eq_of_lt h]
theorem wb_of (x : Int64) : ∃ n, n < 2 ^ 64 ∧ x = lN n := ⟨x.toBitVec.toNat, x.toBitVec.isLt, wb_inj (by rw [wb_tb]; simp)⟩
theorem wb_of32 (x : Int32) : ∃ n, n < 2 ^ 32 ∧ x = nI n := ⟨x.toBitVec.toNat, x.toBitVec.isLt, Int32.toBitVec_inj.mp (by show _ = BitVec.ofNat 32 _; simp)⟩
theorem wb_c : ∀ k, k < 64 → ((nI k).toInt64 &&& 63) = lN k := by decide +kernel
theorem wb_cu : ∀ k, k < 64 → ((nI k).toInt64.toUInt64 &&& Int64.toUInt64 63) = UInt64.ofNat k := by decide +kernel
theorem wb_sm : ∀ k, k < 64 → (BitVec.ofNat 64 k).smod 64 = BitVec.ofNat 64 k := by decide +kernel
theorem wb_pw {a b : Nat} (h : a ≤ b) : 2 ^ b = 2 ^ a * 2 ^ (b - a) := by rw [← Nat.pow_add]; congr 1; omega
theorem wb_lt2 {a b : Nat} (h : a < b) : 2 ^ a < 2 ^ b := Nat.pow_lt_pow_right (by decide) h
theorem wb_mod (n : Nat) : lN n = lN (n % 2 ^ 64) := wb_inj (by rw [wb_tb, wb_tb]; apply BitVec.eq_of_toNat_eq; rw [BitVec.toNat_ofNat, BitVec.toNat_ofNat, Nat.mod_mod])
theorem wb_shr {n k : Nat} (hn : n < 2 ^ 64) (hk : k < 64) : ((lN n).toUInt64 >>> ((nI k).toInt64.toUInt64 &&& Int64.toUInt64 63)).toInt64 = lN (n / 2 ^ k) := by
  rw [wb_cu k hk]
  apply wb_inj
  apply BitVec.eq_of_toNat_eq
  show ((lN n).toUInt64 >>> UInt64.ofNat k).toNat = (BitVec.ofNat 64 _).toNat
  have h1 : (UInt64.ofNat k).toNat = k := by
    show (BitVec.ofNat 64 k).toNat = k
    rw [BitVec.toNat_ofNat, Nat.mod_eq_of_lt (by omega)]
  have h2 : (lN n).toUInt64.toNat = n := wb_tn hn
  rw [UInt64.toNat_shiftRight, h1, h2, Nat.mod_eq_of_lt hk, Nat.shiftRight_eq_div_pow, BitVec.toNat_ofNat, Nat.mod_eq_of_lt (Nat.lt_of_le_of_lt (Nat.div_le_self _ _) hn)]
theorem wb_shl (n : Nat) {k : Nat} (hk : k < 64) : lN n <<< ((nI k).toInt64 &&& 63) = lN (n * 2 ^ k) := by
  rw [wb_c k hk]
  apply wb_inj
  rw [Int64.toBitVec_shiftLeft, wb_tb, wb_tb, wb_tb, wb_sm k hk]
  apply BitVec.eq_of_toNat_eq
  rw [BitVec.shiftLeft_eq', BitVec.toNat_shiftLeft, BitVec.toNat_ofNat, BitVec.toNat_ofNat, BitVec.toNat_ofNat, Nat.mod_eq_of_lt (show k < 2 ^ 64 by omega), Nat.shiftLeft_eq, Nat.mul_mod, Nat.mod_mod, ← Nat.mul_mod]
theorem wb_and {a b : Nat} (ha : a < 2 ^ 64) (hb : b < 2 ^ 64) : lN a &&& lN b = lN (a &&& b) := by
  apply wb_inj
  rw [Int64.toBitVec_and, wb_tb, wb_tb, wb_tb]
  apply BitVec.eq_of_toNat_eq
  rw [BitVec.toNat_and, BitVec.toNat_ofNat, BitVec.toNat_ofNat, BitVec.toNat_ofNat, Nat.mod_eq_of_lt ha, Nat.mod_eq_of_lt hb, Nat.mod_eq_of_lt (Nat.and_lt_two_pow _ hb)]
theorem wb_or {a b : Nat} (ha : a < 2 ^ 64) (hb : b < 2 ^ 64) : lN a ||| lN b = lN (a ||| b) := by
  apply wb_inj
  rw [Int64.toBitVec_or, wb_tb, wb_tb, wb_tb]
  apply BitVec.eq_of_toNat_eq
  rw [BitVec.toNat_or, BitVec.toNat_ofNat, BitVec.toNat_ofNat, BitVec.toNat_ofNat, Nat.mod_eq_of_lt ha, Nat.mod_eq_of_lt hb, Nat.mod_eq_of_lt (Nat.or_lt_two_pow ha hb)]
/-! ===== how many bits a long has (its own way of reckoning), below 2^40 ===== -/
theorem an_split {a m : Nat} (y M : Nat) (ha : a < 256) (hm : m < 256) : (a + 256 * y) &&& (m + 256 * M) = (a &&& m) + 256 * (y &&& M) := by
  have h1 : a &&& m < 2 ^ 8 := Nat.and_lt_two_pow _ hm
  rw [show a + 256 * y = 2 ^ 8 * y + a by omega, show m + 256 * M = 2 ^ 8 * M + m by omega, show (a &&& m) + 256 * (y &&& M) = 2 ^ 8 * (y &&& M) + (a &&& m) by omega]
  apply Nat.eq_of_testBit_eq
  intro j
  rw [Nat.testBit_and, Nat.testBit_two_pow_mul_add y ha, Nat.testBit_two_pow_mul_add M hm, Nat.testBit_two_pow_mul_add (y &&& M) h1]
  by_cases e : j < 8
  · rw [if_pos e, if_pos e, if_pos e, Nat.testBit_and]
  · rw [if_neg e, if_neg e, if_neg e, Nat.testBit_and]
def q1 (M n : Nat) : Nat := n - ((n / 2) &&& M)
def q2 (M n : Nat) : Nat := (n &&& M) + ((n / 4) &&& M)
def q3 (M n : Nat) : Nat := (n + n / 16) &&& M
theorem q1_s {a : Nat} (y M : Nat) (ha : a < 256) : q1 (85 + 256 * M) (a + 256 * y) = q1 85 a + 256 * q1 M y ∧ q1 85 a < 256 := by
  have d1 : ∀ a, a < 256 → ∀ z, z < 2 → (a / 2 + 128 * z) &&& 85 = (a / 2) &&& 85 := by decide +kernel
  have e : (a + 256 * y) / 2 = (a / 2 + 128 * (y % 2)) + 256 * (y / 2) := by omega
  have l1 : (a / 2) &&& 85 ≤ a / 2 := Nat.and_le_left
  have l2 : (y / 2) &&& M ≤ y / 2 := Nat.and_le_left
  unfold q1
  rw [e, an_split _ _ (by omega) (by decide), d1 a ha (y % 2) (by omega)]
  omega
theorem q2_s {a : Nat} (y M : Nat) (ha : a < 256) : q2 (51 + 256 * M) (a + 256 * y) = q2 51 a + 256 * q2 M y := by
  have d1 : ∀ a, a < 256 → ∀ z, z < 4 → (a / 4 + 64 * z) &&& 51 = (a / 4) &&& 51 := by decide +kernel
  have e : (a + 256 * y) / 4 = (a / 4 + 64 * (y % 4)) + 256 * (y / 4) := by omega
  unfold q2
  rw [e, an_split _ _ ha (by decide), an_split _ _ (by omega) (by decide), d1 a ha (y % 4) (by omega)]
  omega
theorem q3_s {a : Nat} (y M : Nat) (ha : a ≤ 68) (hy : y % 16 ≤ 4) : q3 (15 + 256 * M) (a + 256 * y) = q3 15 a + 256 * q3 M y := by
  have d1 : ∀ a, a < 69 → ∀ z, z < 5 → (a + a / 16 + 16 * z) &&& 15 = (a + a / 16) &&& 15 := by decide +kernel
  have e : (a + 256 * y) + (a + 256 * y) / 16 = (a + a / 16 + 16 * (y % 16)) + 256 * (y + y / 16) := by omega
  unfold q3
  rw [e, an_split _ _ (by omega) (by decide), d1 a (by omega) (y % 16) (by omega)]
def qb (a : Nat) : Nat := q2 51 (q1 85 a)
def qc (a : Nat) : Nat := q3 15 (qb a)
theorem q_byte : ∀ a, a < 256 → q1 85 a < 256 ∧ qb a ≤ 68 ∧ qb a % 16 ≤ 4 ∧ qc a = cntN (fun i => Nat.testBit a i) 8 := by decide +kernel
theorem q_five {a b c d e : Nat} (ha : a < 256) (hb : b < 256) (hc : c < 256) (hd : d < 256) (he : e < 256) : q3 1085102592571150095 (q2 3689348814741910323 (q1 6148914691236517205 (a + 256 * (b + 256 * (c + 256 * (d + 256 * e)))))) = qc a + 256 * (qc b + 256 * (qc c + 256 * (qc d + 256 * qc e))) := by
  obtain ⟨a1, a2, a3, a4⟩ := q_byte a ha
  obtain ⟨b1, b2, b3, b4⟩ := q_byte b hb
  obtain ⟨c1, c2, c3, c4⟩ := q_byte c hc
  obtain ⟨d1, d2, d3, d4⟩ := q_byte d hd
  obtain ⟨e1, e2, e3, e4⟩ := q_byte e he
  have z1 : ∀ M, q1 M 0 = 0 := fun M => by show 0 - _ = 0; omega
  have z2 : ∀ M, q2 M 0 = 0 := fun M => by
    unfold q2
    rw [Nat.zero_and]
  have z3 : ∀ M, q3 M 0 = 0 := fun M => by
    unfold q3
    rw [Nat.zero_div, Nat.zero_and]
  have hE : e = e + 256 * 0 := by omega
  have f1 : q1 6148914691236517205 (a + 256 * (b + 256 * (c + 256 * (d + 256 * e)))) = q1 85 a + 256 * (q1 85 b + 256 * (q1 85 c + 256 * (q1 85 d + 256 * q1 85 e))) := by
    rw [show (6148914691236517205 : Nat) = 85 + 256 * (85 + 256 * (85 + 256 * (85 + 256 * (85 + 256 * 5592405)))) from rfl, (q1_s _ _ ha).1, (q1_s _ _ hb).1, (q1_s _ _ hc).1, (q1_s _ _ hd).1]
    have := (q1_s 0 5592405 he).1
    rw [← hE, z1] at this
    rw [this]
    omega
  have f2 : q2 3689348814741910323 (q1 85 a + 256 * (q1 85 b + 256 * (q1 85 c + 256 * (q1 85 d + 256 * q1 85 e)))) = qb a + 256 * (qb b + 256 * (qb c + 256 * (qb d + 256 * qb e))) := by
    rw [show (3689348814741910323 : Nat) = 51 + 256 * (51 + 256 * (51 + 256 * (51 + 256 * (51 + 256 * 3355443)))) from rfl, q2_s _ _ a1, q2_s _ _ b1, q2_s _ _ c1, q2_s _ _ d1]
    have := q2_s 0 3355443 e1
    rw [z2, show q1 85 e + 256 * 0 = q1 85 e by omega] at this
    rw [this]
    show _ = q2 51 (q1 85 a) + 256 * (q2 51 (q1 85 b) + 256 * (q2 51 (q1 85 c) + 256 * (q2 51 (q1 85 d) + 256 * q2 51 (q1 85 e))))
    omega
  rw [f1, f2, show (1085102592571150095 : Nat) = 15 + 256 * (15 + 256 * (15 + 256 * (15 + 256 * (15 + 256 * 986895)))) from rfl, q3_s _ _ a2 (by omega), q3_s _ _ b2 (by omega), q3_s _ _ c2 (by omega), q3_s _ _ d2 (by omega)]
  have := q3_s 0 986895 e2 (by omega)
  rw [z3, show qb e + 256 * 0 = qb e by omega] at this
  rw [this]
  show _ = q3 15 (qb a) + 256 * (q3 15 (qb b) + 256 * (q3 15 (qb c) + 256 * (q3 15 (qb d) + 256 * q3 15 (qb e))))
  omega
theorem q_le {M n : Nat} : q1 M n ≤ n ∧ q2 M n ≤ 2 * n ∧ q3 M n ≤ 2 * n := by
  have l1 : n &&& M ≤ n := Nat.and_le_left
  have l2 : (n / 4) &&& M ≤ n / 4 := Nat.and_le_left
  have l3 : (n + n / 16) &&& M ≤ n + n / 16 := Nat.and_le_left
  unfold q1 q2 q3
  omega
theorem cntN_split (f : Nat → Bool) (a : Nat) : ∀ b, cntN f (a + b) = cntN f a + cntN (fun k => f (a + k)) b
  | 0 => rfl
  | b + 1 => by
    show cntN f (a + b) + (if f (a + b) = true then 1 else 0) = cntN f a + (cntN (fun k => f (a + k)) b + (if f (a + b) = true then 1 else 0))
    rw [cntN_split f a b]
    omega
theorem bitCount40 {n : Nat} (hn : n < 2 ^ 40) (S : ZH) : f_J13_bitCount_95d88 (lN n) S = some (nI (cntN (fun i => Nat.testBit n i) 40)) := by
  have c1 : (1 : Int32) = nI 1 := rfl
  have c2 : (2 : Int32) = nI 2 := rfl
  have c4 : (4 : Int32) = nI 4 := rfl
  have c8 : (8 : Int32) = nI 8 := rfl
  have c16 : (16 : Int32) = nI 16 := rfl
  have c32 : (32 : Int32) = nI 32 := rfl
  have s1 : lN n - (((lN n).toUInt64 >>> (((1 : Int32)).toInt64.toUInt64 &&& Int64.toUInt64 63)).toInt64 &&& (6148914691236517205 : Int64)) = lN (q1 6148914691236517205 n) := by
    rw [c1, wb_shr (by omega) (by decide), show (6148914691236517205 : Int64) = lN 6148914691236517205 from rfl, wb_and (by omega) (by decide), lN_sub (Nat.le_trans Nat.and_le_left (Nat.div_le_self _ _))]
    rfl
  have l1 := (q_le (M := 6148914691236517205) (n := n)).1
  generalize hn1 : q1 6148914691236517205 n = n1 at *
  have s2 : (lN n1 &&& (3689348814741910323 : Int64)) + (((lN n1).toUInt64 >>> (((2 : Int32)).toInt64.toUInt64 &&& Int64.toUInt64 63)).toInt64 &&& (3689348814741910323 : Int64)) = lN (q2 3689348814741910323 n1) := by
    rw [c2, wb_shr (by omega) (by decide), show (3689348814741910323 : Int64) = lN 3689348814741910323 from rfl, wb_and (by omega) (by decide), wb_and (by omega) (by decide), lN_add]
    rfl
  have l2 := (q_le (M := 3689348814741910323) (n := n1)).2.1
  generalize hn2 : q2 3689348814741910323 n1 = n2 at *
  have s3 : (lN n2 + ((lN n2).toUInt64 >>> (((4 : Int32)).toInt64.toUInt64 &&& Int64.toUInt64 63)).toInt64) &&& (1085102592571150095 : Int64) = lN (q3 1085102592571150095 n2) := by
    rw [c4, wb_shr (by omega) (by decide), lN_add, show (1085102592571150095 : Int64) = lN 1085102592571150095 from rfl, wb_and (by omega) (by decide)]
    rfl
  have l3 := (q_le (M := 1085102592571150095) (n := n2)).2.2
  generalize hn3 : q3 1085102592571150095 n2 = n3 at *
  have s4 : lN n3 + ((lN n3).toUInt64 >>> (((8 : Int32)).toInt64.toUInt64 &&& Int64.toUInt64 63)).toInt64 = lN (n3 + n3 / 256) := by
    rw [c8, wb_shr (by omega) (by decide), lN_add]
  generalize hn4 : n3 + n3 / 256 = n4 at *
  have s5 : lN n4 + ((lN n4).toUInt64 >>> (((16 : Int32)).toInt64.toUInt64 &&& Int64.toUInt64 63)).toInt64 = lN (n4 + n4 / 65536) := by
    rw [c16, wb_shr (by omega) (by decide), lN_add]
  generalize hn5 : n4 + n4 / 65536 = n5 at *
  have s6 : lN n5 + ((lN n5).toUInt64 >>> (((32 : Int32)).toInt64.toUInt64 &&& Int64.toUInt64 63)).toInt64 = lN (n5 + n5 / 4294967296) := by
    rw [c32, wb_shr (by omega) (by decide), lN_add]
  generalize hn6 : n5 + n5 / 4294967296 = n6 at *
  have s7 : (lN n6).toInt32 &&& (127 : Int32) = nI (n6 % 128) := by
    rw [show (lN n6).toInt32 = nI n6 from Int64.toInt32_ofNat', show (127 : Int32) = nI 127 from rfl, nx_and, show (127 : Nat) = 2 ^ 7 - 1 from rfl, Nat.and_two_pow_sub_one_eq_mod]
  unfold f_J13_bitCount_95d88
  rw [s1, s2, s3, s4, s5, s6, s7]
  have hsplit : n = n % 256 + 256 * (n / 256 % 256 + 256 * (n / 65536 % 256 + 256 * (n / 16777216 % 256 + 256 * (n / 4294967296 % 256)))) := by omega
  have hq := q_five (a := n % 256) (b := n / 256 % 256) (c := n / 65536 % 256) (d := n / 16777216 % 256) (e := n / 4294967296 % 256) (by omega) (by omega) (by omega) (by omega) (by omega)
  rw [← hsplit, hn1, hn2, hn3] at hq
  have p0 := (q_byte (n % 256) (by omega)).2.2.2
  have p1 := (q_byte (n / 256 % 256) (by omega)).2.2.2
  have p2 := (q_byte (n / 65536 % 256) (by omega)).2.2.2
  have p3 := (q_byte (n / 16777216 % 256) (by omega)).2.2.2
  have p4 := (q_byte (n / 4294967296 % 256) (by omega)).2.2.2
  have w0 := cntN_le (fun i => Nat.testBit (n % 256) i) 8
  have w1 := cntN_le (fun i => Nat.testBit (n / 256 % 256) i) 8
  have w2 := cntN_le (fun i => Nat.testBit (n / 65536 % 256) i) 8
  have w3 := cntN_le (fun i => Nat.testBit (n / 16777216 % 256) i) 8
  have w4 := cntN_le (fun i => Nat.testBit (n / 4294967296 % 256) i) 8
  have tb : ∀ k i, i < 8 → Nat.testBit (n / 2 ^ k % 256) i = Nat.testBit n (k + i) := by
    intro k i hi
    rw [show (256 : Nat) = 2 ^ 8 from rfl, Nat.testBit_mod_two_pow, Nat.testBit_div_two_pow, Nat.add_comm i k]
    simp [hi]
  have t0 : cntN (fun i => Nat.testBit (n % 256) i) 8 = cntN (fun i => Nat.testBit n i) 8 := cntN_congr (fun i hi => by
    rw [show (256 : Nat) = 2 ^ 8 from rfl, Nat.testBit_mod_two_pow]
    simp [hi])
  have t1 : cntN (fun i => Nat.testBit (n / 256 % 256) i) 8 = cntN (fun i => Nat.testBit n (8 + i)) 8 := cntN_congr (fun i hi => tb 8 i hi)
  have t2 : cntN (fun i => Nat.testBit (n / 65536 % 256) i) 8 = cntN (fun i => Nat.testBit n (16 + i)) 8 := cntN_congr (fun i hi => tb 16 i hi)
  have t3 : cntN (fun i => Nat.testBit (n / 16777216 % 256) i) 8 = cntN (fun i => Nat.testBit n (24 + i)) 8 := cntN_congr (fun i hi => tb 24 i hi)
  have t4 : cntN (fun i => Nat.testBit (n / 4294967296 % 256) i) 8 = cntN (fun i => Nat.testBit n (32 + i)) 8 := cntN_congr (fun i hi => tb 32 i hi)
  have u : cntN (fun i => Nat.testBit n i) 40 = cntN (fun i => Nat.testBit n i) 8 + cntN (fun i => Nat.testBit n (8 + i)) 8 + cntN (fun i => Nat.testBit n (16 + i)) 8 + cntN (fun i => Nat.testBit n (24 + i)) 8 + cntN (fun i => Nat.testBit n (32 + i)) 8 := by
    rw [show (40 : Nat) = 32 + 8 from rfl, cntN_split, show (32 : Nat) = 24 + 8 from rfl, cntN_split, show (24 : Nat) = 16 + 8 from rfl, cntN_split, show (16 : Nat) = 8 + 8 from rfl, cntN_split]
  rw [t0] at p0 w0
  rw [t1] at p1 w1
  rw [t2] at p2 w2
  rw [t3] at p3 w3
  rw [t4] at p4 w4
  rw [u]
  congr 2
  rw [p0, p1, p2, p3, p4] at hq
  generalize cntN (fun i => Nat.testBit n i) 8 = k0 at *
  generalize cntN (fun i => Nat.testBit n (8 + i)) 8 = k1 at *
  generalize cntN (fun i => Nat.testBit n (16 + i)) 8 = k2 at *
  generalize cntN (fun i => Nat.testBit n (24 + i)) 8 = k3 at *
  generalize cntN (fun i => Nat.testBit n (32 + i)) 8 = k4 at *
  clear t0 t1 t2 t3 t4 u tb p0 p1 p2 p3 p4 hsplit s1 s2 s3 s4 s5 s6 s7 l1 l2 l3 hn1 hn2 hn3
  have d1 : n3 / 256 = k1 + 256 * (k2 + 256 * (k3 + 256 * k4)) := by omega
  have d2 : n4 = (k0 + k1) + 256 * (k1 + k2) + 65536 * ((k2 + k3) + 256 * (k3 + k4) + 65536 * k4) := by omega
  have d3 : n4 / 65536 = (k2 + k3) + 256 * (k3 + k4) + 65536 * k4 := by omega
  have d4 : n5 = ((k0 + k1 + k2 + k3) + 256 * (k1 + k2 + k3 + k4) + 65536 * (k2 + k3 + k4) + 16777216 * (k3 + k4)) + 4294967296 * k4 := by omega
  have d5 : n5 / 4294967296 = k4 := by omega
  have d6 : n6 = (k0 + k1 + k2 + k3 + k4) + 256 * ((k1 + k2 + k3 + k4) + 256 * (k2 + k3 + k4) + 65536 * (k3 + k4) + 16777216 * k4) := by omega
  rw [d6]
  omega
