/-! ===== the law: every turn, and the whole ===== -/
theorem t_267 {L : Nat} {xs w : Nat → Int32} {x : Int32} {S : ZH} (h : GoodA S) (hw : Wd L xs x w) : Turn x (j_L_law_267 L xs 0 0 x S) := by
  obtain ⟨w1, w2, w3, w4, w5, w6, w7, w8, w9⟩ := hw
  unfold j_L_law_267
  simp only [w1, w2, w3, Option.bind_some]
  unfold j_L_law_291
  simp only [w1, w2, w3, Option.bind_some]
  unfold j_L_law_318
  simp only [Option.bind_some]
  by_cases z : w 3 = 0
  · simp only [if_pos z]
    exact turnE (fun A hA => op_way hA _ _ _ (Or.inl rfl)) h
  · simp only [if_neg z]
    exact turnE (fun A hA => op_way hA _ _ _ (Or.inr rfl)) h
theorem t_479 {L : Nat} {xs w : Nat → Int32} {x : Int32} {S : ZH} (h : GoodA S) (hw : Wd L xs x w) : Turn x (j_L_law_479 L xs 0 0 x S) := by
  obtain ⟨w1, w2, w3, w4, w5, w6, w7, w8, w9⟩ := hw
  unfold j_L_law_479
  simp only [w1, w2, Option.bind_some]
  unfold j_L_law_498
  simp only [w1, w2, Option.bind_some]
  unfold j_L_law_520
  simp only [Option.bind_some]
  by_cases z : w 2 = 0
  · simp only [if_pos z]
    exact turnE (fun A hA => op_shy hA _ _ (Or.inl rfl)) h
  · simp only [if_neg z]
    exact turnE (fun A hA => op_shy hA _ _ (Or.inr rfl)) h
theorem t_1829 {L : Nat} {xs w : Nat → Int32} {x : Int32} {S : ZH} (h : GoodA S) (hw : Wd L xs x w) : Turn x (j_L_law_1829 L xs 0 0 x S) := by
  obtain ⟨w1, w2, w3, w4, w5, w6, w7, w8, w9⟩ := hw
  unfold j_L_law_1829
  simp only [w1, w2, Option.bind_some]
  unfold j_L_law_1848
  simp only [w1, w2, Option.bind_some]
  unfold j_L_law_1870
  simp only [Option.bind_some]
  by_cases z : w 2 = 0
  · simp only [if_pos z]
    exact turnP (fun A hA => op_wages hA _ _) h
  · simp only [if_neg z]
    exact turnP (fun A hA => op_wages hA _ _) h
theorem zldX_0 {L : Nat} {xs : Nat → Int32} {j : Nat} (hj : 10 * j + 10 ≤ L) (hL : L ≤ 5120) : zldX L xs (nI (10 * j)) = some (xs (10 * j)) := zldX_at (by omega) hL
theorem law_turn {L : Nat} {xs w : Nat → Int32} {x y : Int32} {S : ZH} (h : GoodA S) (hw : Wd L xs x w) (h0 : zldX L xs x = some y) (hlt : ¬ (nI L) - (10 : Int32) < x) : Turn x (b_L_law_18 L xs 0 0 (x, S)) := by
  unfold b_L_law_18
  dsimp only
  rw [if_neg hlt]
  refine (show ∀ o o', o = o' → Turn x o' → Turn x o from fun o o' e t => e ▸ t) _ _ (o_b h0) ?_
  by_cases c0 : y &&& (63 : Int32) = (0 : Int32)
  · rw [if_pos c0]; exact t_244 h hw
  rw [if_neg c0]
  by_cases c1 : y &&& (63 : Int32) = (1 : Int32)
  · rw [if_pos c1]; exact t_267 h hw
  rw [if_neg c1]
  by_cases c2 : y &&& (63 : Int32) = (2 : Int32)
  · rw [if_pos c2]; exact t_326 h hw
  rw [if_neg c2]
  by_cases c3 : y &&& (63 : Int32) = (3 : Int32)
  · rw [if_pos c3]; exact t_359 h hw
  rw [if_neg c3]
  by_cases c4 : y &&& (63 : Int32) = (4 : Int32)
  · rw [if_pos c4]; exact t_446 h hw
  rw [if_neg c4]
  by_cases c5 : y &&& (63 : Int32) = (5 : Int32)
  · rw [if_pos c5]; exact t_479 h hw
  rw [if_neg c5]
  by_cases c6 : y &&& (63 : Int32) = (6 : Int32)
  · rw [if_pos c6]; exact t_528 h hw
  rw [if_neg c6]
  by_cases c7 : y &&& (63 : Int32) = (7 : Int32)
  · rw [if_pos c7]; exact t_561 h hw
  rw [if_neg c7]
  by_cases c8 : y &&& (63 : Int32) = (8 : Int32)
  · rw [if_pos c8]; exact t_584 h hw
  rw [if_neg c8]
  by_cases c9 : y &&& (63 : Int32) = (9 : Int32)
  · rw [if_pos c9]; exact t_597 h hw
  rw [if_neg c9]
  by_cases c10 : y &&& (63 : Int32) = (10 : Int32)
  · rw [if_pos c10]; exact t_620 h hw
  rw [if_neg c10]
  by_cases c11 : y &&& (63 : Int32) = (11 : Int32)
  · rw [if_pos c11]; exact t_653 h hw
  rw [if_neg c11]
  by_cases c12 : y &&& (63 : Int32) = (12 : Int32)
  · rw [if_pos c12]; exact t_676 h hw
  rw [if_neg c12]
  by_cases c13 : y &&& (63 : Int32) = (13 : Int32)
  · rw [if_pos c13]; exact t_787 h hw
  rw [if_neg c13]
  by_cases c14 : y &&& (63 : Int32) = (14 : Int32)
  · rw [if_pos c14]; exact t_830 h hw
  rw [if_neg c14]
  by_cases c15 : y &&& (63 : Int32) = (15 : Int32)
  · rw [if_pos c15]; exact t_863 h hw
  rw [if_neg c15]
  by_cases c16 : y &&& (63 : Int32) = (16 : Int32)
  · rw [if_pos c16]; exact t_896 h hw
  rw [if_neg c16]
  by_cases c17 : y &&& (63 : Int32) = (17 : Int32)
  · rw [if_pos c17]; exact t_919 h hw
  rw [if_neg c17]
  by_cases c18 : y &&& (63 : Int32) = (18 : Int32)
  · rw [if_pos c18]; exact t_952 h hw
  rw [if_neg c18]
  by_cases c19 : y &&& (63 : Int32) = (19 : Int32)
  · rw [if_pos c19]; exact t_975 h hw
  rw [if_neg c19]
  by_cases c20 : y &&& (63 : Int32) = (20 : Int32)
  · rw [if_pos c20]; exact t_998 h hw
  rw [if_neg c20]
  by_cases c21 : y &&& (63 : Int32) = (21 : Int32)
  · rw [if_pos c21]; exact t_1031 h hw
  rw [if_neg c21]
  by_cases c22 : y &&& (63 : Int32) = (22 : Int32)
  · rw [if_pos c22]; exact t_1054 h hw
  rw [if_neg c22]
  by_cases c23 : y &&& (63 : Int32) = (23 : Int32)
  · rw [if_pos c23]; exact t_1087 h hw
  rw [if_neg c23]
  by_cases c24 : y &&& (63 : Int32) = (24 : Int32)
  · rw [if_pos c24]; exact t_1120 h hw
  rw [if_neg c24]
  by_cases c25 : y &&& (63 : Int32) = (25 : Int32)
  · rw [if_pos c25]; exact t_1133 h hw
  rw [if_neg c25]
  by_cases c26 : y &&& (63 : Int32) = (26 : Int32)
  · rw [if_pos c26]; exact t_1156 h hw
  rw [if_neg c26]
  by_cases c27 : y &&& (63 : Int32) = (27 : Int32)
  · rw [if_pos c27]; exact t_1179 h hw
  rw [if_neg c27]
  by_cases c28 : y &&& (63 : Int32) = (28 : Int32)
  · rw [if_pos c28]; exact t_1192 h hw
  rw [if_neg c28]
  by_cases c29 : y &&& (63 : Int32) = (29 : Int32)
  · rw [if_pos c29]; exact t_1215 h hw
  rw [if_neg c29]
  by_cases c30 : y &&& (63 : Int32) = (30 : Int32)
  · rw [if_pos c30]; exact t_1248 h hw
  rw [if_neg c30]
  by_cases c31 : y &&& (63 : Int32) = (31 : Int32)
  · rw [if_pos c31]; exact t_1281 h hw
  rw [if_neg c31]
  by_cases c32 : y &&& (63 : Int32) = (32 : Int32)
  · rw [if_pos c32]; exact t_1334 h hw
  rw [if_neg c32]
  by_cases c33 : y &&& (63 : Int32) = (33 : Int32)
  · rw [if_pos c33]; exact t_1387 h hw
  rw [if_neg c33]
  by_cases c34 : y &&& (63 : Int32) = (34 : Int32)
  · rw [if_pos c34]; exact t_1420 h hw
  rw [if_neg c34]
  by_cases c35 : y &&& (63 : Int32) = (35 : Int32)
  · rw [if_pos c35]; exact t_1453 h hw
  rw [if_neg c35]
  by_cases c36 : y &&& (63 : Int32) = (36 : Int32)
  · rw [if_pos c36]; exact t_1486 h hw
  rw [if_neg c36]
  by_cases c37 : y &&& (63 : Int32) = (37 : Int32)
  · rw [if_pos c37]; exact t_1519 h hw
  rw [if_neg c37]
  by_cases c38 : y &&& (63 : Int32) = (38 : Int32)
  · rw [if_pos c38]; exact t_1552 h hw
  rw [if_neg c38]
  by_cases c39 : y &&& (63 : Int32) = (39 : Int32)
  · rw [if_pos c39]; exact t_1585 h hw
  rw [if_neg c39]
  by_cases c40 : y &&& (63 : Int32) = (40 : Int32)
  · rw [if_pos c40]; exact t_1608 h hw
  rw [if_neg c40]
  by_cases c41 : y &&& (63 : Int32) = (41 : Int32)
  · rw [if_pos c41]; exact t_1631 h hw
  rw [if_neg c41]
  by_cases c42 : y &&& (63 : Int32) = (42 : Int32)
  · rw [if_pos c42]; exact t_1654 h hw
  rw [if_neg c42]
  by_cases c43 : y &&& (63 : Int32) = (43 : Int32)
  · rw [if_pos c43]; exact t_1697 h hw
  rw [if_neg c43]
  by_cases c44 : y &&& (63 : Int32) = (44 : Int32)
  · rw [if_pos c44]; exact t_1740 h hw
  rw [if_neg c44]
  by_cases c45 : y &&& (63 : Int32) = (45 : Int32)
  · rw [if_pos c45]; exact t_1773 h hw
  rw [if_neg c45]
  by_cases c46 : y &&& (63 : Int32) = (46 : Int32)
  · rw [if_pos c46]; exact t_1806 h hw
  rw [if_neg c46]
  by_cases c47 : y &&& (63 : Int32) = (47 : Int32)
  · rw [if_pos c47]; exact t_1829 h hw
  rw [if_neg c47]
  by_cases c48 : y &&& (63 : Int32) = (48 : Int32)
  · rw [if_pos c48]; exact t_1878 h hw
  rw [if_neg c48]
  exact ⟨S, rfl, h⟩
theorem z_main {L : Nat} {xs : Nat → Int32} (hL : L ≤ 5120) : ∃ S', f_L_law L xs zE = some S' := by
  have e10 : ((nI L) - (10 : Int32)).toInt = (L : Int) - 10 := by
    have e1 : (nI L).toInt = L := nI_toInt (by omega)
    have e2 : (10 : Int32).toInt = 10 := rfl
    rw [i_sub (by rw [e1, e2]; omega) (by rw [e1, e2]; omega), e1, e2]
  have key := z_inv0 (b := b_L_law_18 L xs 0 0) (X := fun _ => True) (fun j v => v.1 = nI (10 * j) ∧ GoodA v.2) (L / 10) (v := ((0 : Int32), q4s)) (by omega) ⟨rfl, q4_Good⟩ (fun j v hj hI => ?_) (fun v hI => ?_)
  · obtain ⟨S', e, -⟩ := key
    exact ⟨S', law_open e⟩
  · obtain ⟨v1, S⟩ := v
    obtain ⟨i1, i2⟩ := hI
    replace i1 : v1 = nI (10 * j) := i1
    subst i1
    obtain ⟨S', e, g⟩ := law_turn i2 (wd_at (show 10 * j + 10 ≤ L by omega) hL) (zldX_0 (show 10 * j + 10 ≤ L by omega) hL) (by rw [Int32.lt_iff_toInt_lt, e10, nI_toInt (by omega)]; omega)
    exact ⟨_, e, by show nI (10 * j) + 10 = _; rw [show (10 : Int32) = nI 10 from rfl, nI_add, show 10 * j + 10 = 10 * (j + 1) by omega], g⟩
  · obtain ⟨v1, S⟩ := v
    obtain ⟨i1, i2⟩ := hI
    replace i1 : v1 = nI (10 * (L / 10)) := i1
    refine ⟨S, ?_, trivial⟩
    unfold b_L_law_18
    dsimp only
    rw [i1, if_pos (by rw [Int32.lt_iff_toInt_lt, e10, nI_toInt (by omega)]; omega)]
