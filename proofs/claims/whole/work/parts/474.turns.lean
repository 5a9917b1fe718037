/-! ===== the law, turn by turn (written by gt.py) ===== -/
theorem t_244 {L : Nat} {xs w : Nat → Int32} {x : Int32} {S : ZH} (h : GoodA S) (hw : Wd L xs x w) : Turn x (j_L_law_244 L xs 0 0 x S) := by
  obtain ⟨w1, w2, w3, w4, w5, w6, w7, w8, w9⟩ := hw
  unfold j_L_law_244
  simp only [w1, Option.bind_some]
  exact turnE (fun A hA => op_streets hA _) h
theorem t_326 {L : Nat} {xs w : Nat → Int32} {x : Int32} {S : ZH} (h : GoodA S) (hw : Wd L xs x w) : Turn x (j_L_law_326 L xs 0 0 x S) := by
  obtain ⟨w1, w2, w3, w4, w5, w6, w7, w8, w9⟩ := hw
  unfold j_L_law_326
  simp only [w1, w2, Option.bind_some]
  exact turnE (fun A hA => op_far hA _ _) h
theorem t_359 {L : Nat} {xs w : Nat → Int32} {x : Int32} {S : ZH} (h : GoodA S) (hw : Wd L xs x w) : Turn x (j_L_law_359 L xs 0 0 x S) := by
  obtain ⟨w1, w2, w3, w4, w5, w6, w7, w8, w9⟩ := hw
  unfold j_L_law_359
  simp only [w1, w2, w3, w4, w5, w6, w7, Option.bind_some]
  exact turnE (fun A hA => op_man hA _ _ _ _ _ _ _) h
theorem t_446 {L : Nat} {xs w : Nat → Int32} {x : Int32} {S : ZH} (h : GoodA S) (hw : Wd L xs x w) : Turn x (j_L_law_446 L xs 0 0 x S) := by
  obtain ⟨w1, w2, w3, w4, w5, w6, w7, w8, w9⟩ := hw
  unfold j_L_law_446
  simp only [w1, w2, Option.bind_some]
  exact turnP (fun A hA => op_about hA _ _) h
theorem t_528 {L : Nat} {xs w : Nat → Int32} {x : Int32} {S : ZH} (h : GoodA S) (hw : Wd L xs x w) : Turn x (j_L_law_528 L xs 0 0 x S) := by
  obtain ⟨w1, w2, w3, w4, w5, w6, w7, w8, w9⟩ := hw
  unfold j_L_law_528
  simp only [w1, w2, Option.bind_some]
  exact turnP (fun A hA => op_where hA _ _) h
theorem t_561 {L : Nat} {xs w : Nat → Int32} {x : Int32} {S : ZH} (h : GoodA S) (hw : Wd L xs x w) : Turn x (j_L_law_561 L xs 0 0 x S) := by
  obtain ⟨w1, w2, w3, w4, w5, w6, w7, w8, w9⟩ := hw
  unfold j_L_law_561
  simp only [w1, Option.bind_some]
  exact turnP (fun A hA => op_at hA _) h
theorem t_584 {L : Nat} {xs w : Nat → Int32} {x : Int32} {S : ZH} (h : GoodA S) (hw : Wd L xs x w) : Turn x (j_L_law_584 L xs 0 0 x S) := by
  obtain ⟨w1, w2, w3, w4, w5, w6, w7, w8, w9⟩ := hw
  unfold j_L_law_584
  exact turnP (fun A hA => op_tide  ) h
theorem t_597 {L : Nat} {xs w : Nat → Int32} {x : Int32} {S : ZH} (h : GoodA S) (hw : Wd L xs x w) : Turn x (j_L_law_597 L xs 0 0 x S) := by
  obtain ⟨w1, w2, w3, w4, w5, w6, w7, w8, w9⟩ := hw
  unfold j_L_law_597
  simp only [w1, Option.bind_some]
  exact turnE (fun A hA => op_pass hA _) h
theorem t_620 {L : Nat} {xs w : Nat → Int32} {x : Int32} {S : ZH} (h : GoodA S) (hw : Wd L xs x w) : Turn x (j_L_law_620 L xs 0 0 x S) := by
  obtain ⟨w1, w2, w3, w4, w5, w6, w7, w8, w9⟩ := hw
  unfold j_L_law_620
  simp only [w1, w2, Option.bind_some]
  exact turnE (fun A hA => op_walk hA _ _) h
theorem t_653 {L : Nat} {xs w : Nat → Int32} {x : Int32} {S : ZH} (h : GoodA S) (hw : Wd L xs x w) : Turn x (j_L_law_653 L xs 0 0 x S) := by
  obtain ⟨w1, w2, w3, w4, w5, w6, w7, w8, w9⟩ := hw
  unfold j_L_law_653
  simp only [w1, Option.bind_some]
  exact turnE (fun A hA => op_run hA _) h
theorem t_676 {L : Nat} {xs w : Nat → Int32} {x : Int32} {S : ZH} (h : GoodA S) (hw : Wd L xs x w) : Turn x (j_L_law_676 L xs 0 0 x S) := by
  obtain ⟨w1, w2, w3, w4, w5, w6, w7, w8, w9⟩ := hw
  unfold j_L_law_676
  simp only [w1, w2, w3, w4, w5, w6, w7, w8, w9, Option.bind_some]
  exact turnE (fun A hA => op_paper hA _ _ _ _ _ _ _ _ _) h
theorem t_787 {L : Nat} {xs w : Nat → Int32} {x : Int32} {S : ZH} (h : GoodA S) (hw : Wd L xs x w) : Turn x (j_L_law_787 L xs 0 0 x S) := by
  obtain ⟨w1, w2, w3, w4, w5, w6, w7, w8, w9⟩ := hw
  unfold j_L_law_787
  simp only [w1, w2, w3, Option.bind_some]
  exact turnP (fun A hA => op_cover hA _ _ _) h
theorem t_830 {L : Nat} {xs w : Nat → Int32} {x : Int32} {S : ZH} (h : GoodA S) (hw : Wd L xs x w) : Turn x (j_L_law_830 L xs 0 0 x S) := by
  obtain ⟨w1, w2, w3, w4, w5, w6, w7, w8, w9⟩ := hw
  unfold j_L_law_830
  simp only [w1, w2, Option.bind_some]
  exact turnP (fun A hA => op_same hA _ _) h
theorem t_863 {L : Nat} {xs w : Nat → Int32} {x : Int32} {S : ZH} (h : GoodA S) (hw : Wd L xs x w) : Turn x (j_L_law_863 L xs 0 0 x S) := by
  obtain ⟨w1, w2, w3, w4, w5, w6, w7, w8, w9⟩ := hw
  unfold j_L_law_863
  simp only [w1, w2, Option.bind_some]
  exact turnP (fun A hA => op_shown hA _ _) h
theorem t_896 {L : Nat} {xs w : Nat → Int32} {x : Int32} {S : ZH} (h : GoodA S) (hw : Wd L xs x w) : Turn x (j_L_law_896 L xs 0 0 x S) := by
  obtain ⟨w1, w2, w3, w4, w5, w6, w7, w8, w9⟩ := hw
  unfold j_L_law_896
  simp only [w1, Option.bind_some]
  exact turnE (fun A hA => op_act hA _) h
theorem t_919 {L : Nat} {xs w : Nat → Int32} {x : Int32} {S : ZH} (h : GoodA S) (hw : Wd L xs x w) : Turn x (j_L_law_919 L xs 0 0 x S) := by
  obtain ⟨w1, w2, w3, w4, w5, w6, w7, w8, w9⟩ := hw
  unfold j_L_law_919
  simp only [w1, w2, Option.bind_some]
  exact turnE (fun A hA => op_sign hA _ _) h
theorem t_952 {L : Nat} {xs w : Nat → Int32} {x : Int32} {S : ZH} (h : GoodA S) (hw : Wd L xs x w) : Turn x (j_L_law_952 L xs 0 0 x S) := by
  obtain ⟨w1, w2, w3, w4, w5, w6, w7, w8, w9⟩ := hw
  unfold j_L_law_952
  simp only [w1, Option.bind_some]
  exact turnP (fun A hA => op_fault hA _) h
theorem t_975 {L : Nat} {xs w : Nat → Int32} {x : Int32} {S : ZH} (h : GoodA S) (hw : Wd L xs x w) : Turn x (j_L_law_975 L xs 0 0 x S) := by
  obtain ⟨w1, w2, w3, w4, w5, w6, w7, w8, w9⟩ := hw
  unfold j_L_law_975
  simp only [w1, Option.bind_some]
  exact turnP (fun A hA => op_force hA _) h
theorem t_998 {L : Nat} {xs w : Nat → Int32} {x : Int32} {S : ZH} (h : GoodA S) (hw : Wd L xs x w) : Turn x (j_L_law_998 L xs 0 0 x S) := by
  obtain ⟨w1, w2, w3, w4, w5, w6, w7, w8, w9⟩ := hw
  unfold j_L_law_998
  simp only [w1, w2, Option.bind_some]
  exact turnP (fun A hA => op_may hA _ _) h
theorem t_1031 {L : Nat} {xs w : Nat → Int32} {x : Int32} {S : ZH} (h : GoodA S) (hw : Wd L xs x w) : Turn x (j_L_law_1031 L xs 0 0 x S) := by
  obtain ⟨w1, w2, w3, w4, w5, w6, w7, w8, w9⟩ := hw
  unfold j_L_law_1031
  simp only [w1, Option.bind_some]
  exact turnP (fun A hA => op_mayTruly hA _) h
theorem t_1054 {L : Nat} {xs w : Nat → Int32} {x : Int32} {S : ZH} (h : GoodA S) (hw : Wd L xs x w) : Turn x (j_L_law_1054 L xs 0 0 x S) := by
  obtain ⟨w1, w2, w3, w4, w5, w6, w7, w8, w9⟩ := hw
  unfold j_L_law_1054
  simp only [w1, w2, Option.bind_some]
  exact turnE (fun A hA => op_take hA _ _) h
theorem t_1087 {L : Nat} {xs w : Nat → Int32} {x : Int32} {S : ZH} (h : GoodA S) (hw : Wd L xs x w) : Turn x (j_L_law_1087 L xs 0 0 x S) := by
  obtain ⟨w1, w2, w3, w4, w5, w6, w7, w8, w9⟩ := hw
  unfold j_L_law_1087
  simp only [w1, w2, Option.bind_some]
  exact turnP (fun A hA => op_taking hA _ _) h
theorem t_1120 {L : Nat} {xs w : Nat → Int32} {x : Int32} {S : ZH} (h : GoodA S) (hw : Wd L xs x w) : Turn x (j_L_law_1120 L xs 0 0 x S) := by
  obtain ⟨w1, w2, w3, w4, w5, w6, w7, w8, w9⟩ := hw
  unfold j_L_law_1120
  exact turnP (fun A hA => op_wronged hA ) h
theorem t_1133 {L : Nat} {xs w : Nat → Int32} {x : Int32} {S : ZH} (h : GoodA S) (hw : Wd L xs x w) : Turn x (j_L_law_1133 L xs 0 0 x S) := by
  obtain ⟨w1, w2, w3, w4, w5, w6, w7, w8, w9⟩ := hw
  unfold j_L_law_1133
  simp only [w1, Option.bind_some]
  exact turnP (fun A hA => op_wrongedMan hA _) h
theorem t_1156 {L : Nat} {xs w : Nat → Int32} {x : Int32} {S : ZH} (h : GoodA S) (hw : Wd L xs x w) : Turn x (j_L_law_1156 L xs 0 0 x S) := by
  obtain ⟨w1, w2, w3, w4, w5, w6, w7, w8, w9⟩ := hw
  unfold j_L_law_1156
  simp only [w1, Option.bind_some]
  exact turnE (fun A hA => op_letGo hA _) h
theorem t_1179 {L : Nat} {xs w : Nat → Int32} {x : Int32} {S : ZH} (h : GoodA S) (hw : Wd L xs x w) : Turn x (j_L_law_1179 L xs 0 0 x S) := by
  obtain ⟨w1, w2, w3, w4, w5, w6, w7, w8, w9⟩ := hw
  unfold j_L_law_1179
  exact turnE (fun A hA => op_quiet hA ) h
theorem t_1192 {L : Nat} {xs w : Nat → Int32} {x : Int32} {S : ZH} (h : GoodA S) (hw : Wd L xs x w) : Turn x (j_L_law_1192 L xs 0 0 x S) := by
  obtain ⟨w1, w2, w3, w4, w5, w6, w7, w8, w9⟩ := hw
  unfold j_L_law_1192
  simp only [w1, Option.bind_some]
  exact turnE (fun A hA => op_heard hA _) h
theorem t_1215 {L : Nat} {xs w : Nat → Int32} {x : Int32} {S : ZH} (h : GoodA S) (hw : Wd L xs x w) : Turn x (j_L_law_1215 L xs 0 0 x S) := by
  obtain ⟨w1, w2, w3, w4, w5, w6, w7, w8, w9⟩ := hw
  unfold j_L_law_1215
  simp only [w1, w2, Option.bind_some]
  exact turnE (fun A hA => op_tender hA _ _) h
theorem t_1248 {L : Nat} {xs w : Nat → Int32} {x : Int32} {S : ZH} (h : GoodA S) (hw : Wd L xs x w) : Turn x (j_L_law_1248 L xs 0 0 x S) := by
  obtain ⟨w1, w2, w3, w4, w5, w6, w7, w8, w9⟩ := hw
  unfold j_L_law_1248
  simp only [w1, w2, Option.bind_some]
  exact turnE (fun A hA => op_met hA _ _) h
theorem t_1281 {L : Nat} {xs w : Nat → Int32} {x : Int32} {S : ZH} (h : GoodA S) (hw : Wd L xs x w) : Turn x (j_L_law_1281 L xs 0 0 x S) := by
  obtain ⟨w1, w2, w3, w4, w5, w6, w7, w8, w9⟩ := hw
  unfold j_L_law_1281
  simp only [w1, w2, w3, w4, Option.bind_some]
  exact turnE (fun A hA => op_laid hA _ _ _ _) h
theorem t_1334 {L : Nat} {xs w : Nat → Int32} {x : Int32} {S : ZH} (h : GoodA S) (hw : Wd L xs x w) : Turn x (j_L_law_1334 L xs 0 0 x S) := by
  obtain ⟨w1, w2, w3, w4, w5, w6, w7, w8, w9⟩ := hw
  unfold j_L_law_1334
  simp only [w1, w2, w3, w4, Option.bind_some]
  exact turnE (fun A hA => op_ship hA _ _ _ _) h
theorem t_1387 {L : Nat} {xs w : Nat → Int32} {x : Int32} {S : ZH} (h : GoodA S) (hw : Wd L xs x w) : Turn x (j_L_law_1387 L xs 0 0 x S) := by
  obtain ⟨w1, w2, w3, w4, w5, w6, w7, w8, w9⟩ := hw
  unfold j_L_law_1387
  simp only [w1, w2, Option.bind_some]
  exact turnP (fun A hA => op_of hA _ _) h
theorem t_1420 {L : Nat} {xs w : Nat → Int32} {x : Int32} {S : ZH} (h : GoodA S) (hw : Wd L xs x w) : Turn x (j_L_law_1420 L xs 0 0 x S) := by
  obtain ⟨w1, w2, w3, w4, w5, w6, w7, w8, w9⟩ := hw
  unfold j_L_law_1420
  simp only [w1, w2, Option.bind_some]
  exact turnP (fun A hA => op_spare hA _ _) h
theorem t_1453 {L : Nat} {xs w : Nat → Int32} {x : Int32} {S : ZH} (h : GoodA S) (hw : Wd L xs x w) : Turn x (j_L_law_1453 L xs 0 0 x S) := by
  obtain ⟨w1, w2, w3, w4, w5, w6, w7, w8, w9⟩ := hw
  unfold j_L_law_1453
  simp only [w1, w2, Option.bind_some]
  exact turnE (fun A hA => op_board hA _ _) h
theorem t_1486 {L : Nat} {xs w : Nat → Int32} {x : Int32} {S : ZH} (h : GoodA S) (hw : Wd L xs x w) : Turn x (j_L_law_1486 L xs 0 0 x S) := by
  obtain ⟨w1, w2, w3, w4, w5, w6, w7, w8, w9⟩ := hw
  unfold j_L_law_1486
  simp only [w1, w2, Option.bind_some]
  exact turnE (fun A hA => op_turn hA _ _) h
theorem t_1519 {L : Nat} {xs w : Nat → Int32} {x : Int32} {S : ZH} (h : GoodA S) (hw : Wd L xs x w) : Turn x (j_L_law_1519 L xs 0 0 x S) := by
  obtain ⟨w1, w2, w3, w4, w5, w6, w7, w8, w9⟩ := hw
  unfold j_L_law_1519
  simp only [w1, w2, Option.bind_some]
  exact turnP (fun A hA => op_notAshore hA _ _) h
theorem t_1552 {L : Nat} {xs w : Nat → Int32} {x : Int32} {S : ZH} (h : GoodA S) (hw : Wd L xs x w) : Turn x (j_L_law_1552 L xs 0 0 x S) := by
  obtain ⟨w1, w2, w3, w4, w5, w6, w7, w8, w9⟩ := hw
  unfold j_L_law_1552
  simp only [w1, w2, Option.bind_some]
  exact turnE (fun A hA => op_taken hA _ _) h
theorem t_1585 {L : Nat} {xs w : Nat → Int32} {x : Int32} {S : ZH} (h : GoodA S) (hw : Wd L xs x w) : Turn x (j_L_law_1585 L xs 0 0 x S) := by
  obtain ⟨w1, w2, w3, w4, w5, w6, w7, w8, w9⟩ := hw
  unfold j_L_law_1585
  simp only [w1, Option.bind_some]
  exact turnE (fun A hA => op_fleet hA _) h
theorem t_1608 {L : Nat} {xs w : Nat → Int32} {x : Int32} {S : ZH} (h : GoodA S) (hw : Wd L xs x w) : Turn x (j_L_law_1608 L xs 0 0 x S) := by
  obtain ⟨w1, w2, w3, w4, w5, w6, w7, w8, w9⟩ := hw
  unfold j_L_law_1608
  simp only [w1, Option.bind_some]
  exact turnE (fun A hA => op_sail hA _) h
theorem t_1631 {L : Nat} {xs w : Nat → Int32} {x : Int32} {S : ZH} (h : GoodA S) (hw : Wd L xs x w) : Turn x (j_L_law_1631 L xs 0 0 x S) := by
  obtain ⟨w1, w2, w3, w4, w5, w6, w7, w8, w9⟩ := hw
  unfold j_L_law_1631
  simp only [w1, Option.bind_some]
  exact turnE (fun A hA => op_comeHome hA _) h
theorem t_1654 {L : Nat} {xs w : Nat → Int32} {x : Int32} {S : ZH} (h : GoodA S) (hw : Wd L xs x w) : Turn x (j_L_law_1654 L xs 0 0 x S) := by
  obtain ⟨w1, w2, w3, w4, w5, w6, w7, w8, w9⟩ := hw
  unfold j_L_law_1654
  simp only [w1, w2, w3, Option.bind_some]
  exact turnE (fun A hA => op_ticket hA _ _ _) h
theorem t_1697 {L : Nat} {xs w : Nat → Int32} {x : Int32} {S : ZH} (h : GoodA S) (hw : Wd L xs x w) : Turn x (j_L_law_1697 L xs 0 0 x S) := by
  obtain ⟨w1, w2, w3, w4, w5, w6, w7, w8, w9⟩ := hw
  unfold j_L_law_1697
  simp only [w1, w2, w3, Option.bind_some]
  exact turnE (fun A hA => op_sell hA _ _ _) h
theorem t_1740 {L : Nat} {xs w : Nat → Int32} {x : Int32} {S : ZH} (h : GoodA S) (hw : Wd L xs x w) : Turn x (j_L_law_1740 L xs 0 0 x S) := by
  obtain ⟨w1, w2, w3, w4, w5, w6, w7, w8, w9⟩ := hw
  unfold j_L_law_1740
  simp only [w1, w2, Option.bind_some]
  exact turnE (fun A hA => op_pay hA _ _) h
theorem t_1773 {L : Nat} {xs w : Nat → Int32} {x : Int32} {S : ZH} (h : GoodA S) (hw : Wd L xs x w) : Turn x (j_L_law_1773 L xs 0 0 x S) := by
  obtain ⟨w1, w2, w3, w4, w5, w6, w7, w8, w9⟩ := hw
  unfold j_L_law_1773
  simp only [w1, w2, Option.bind_some]
  exact turnP (fun A hA => op_ticketOf hA _ _) h
theorem t_1806 {L : Nat} {xs w : Nat → Int32} {x : Int32} {S : ZH} (h : GoodA S) (hw : Wd L xs x w) : Turn x (j_L_law_1806 L xs 0 0 x S) := by
  obtain ⟨w1, w2, w3, w4, w5, w6, w7, w8, w9⟩ := hw
  unfold j_L_law_1806
  simp only [w1, Option.bind_some]
  exact turnP (fun A hA => op_purse  _) h
theorem t_1878 {L : Nat} {xs w : Nat → Int32} {x : Int32} {S : ZH} (h : GoodA S) (hw : Wd L xs x w) : Turn x (j_L_law_1878 L xs 0 0 x S) := by
  obtain ⟨w1, w2, w3, w4, w5, w6, w7, w8, w9⟩ := hw
  unfold j_L_law_1878
  simp only [w1, Option.bind_some]
  exact turnP (fun A hA => op_count hA _) h
