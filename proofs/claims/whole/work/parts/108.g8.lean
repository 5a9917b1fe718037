-- PressedMenModel badGangs (II)Z
abbrev Y_X12_badGangs : ZM := (yX12_badGangs, cX12_badGangs, 2, (some .boolean), 1, 25)
theorem cw_X12_badGangs : z_CS Y_X12_badGangs 2 := ⟨q_1403, q_1404, q_76, ⟨by decide, by decide⟩, rfl⟩
def f_X12_badGangs (x0 : Int32) (x1 : Int32) (S : ZH) : Option (Int32) :=
  (f_X12_in x0.toInt64 (1 : Int64) (2 : Int64) S).bind fun q1 =>
  if q1 = 0 then (
    some (1 : Int32)
  ) else (
    (f_X12_in x1.toInt64 (1 : Int64) (3 : Int64) S).bind fun q2 =>
    if ¬ q2 = 0 then (
      some (0 : Int32)
    ) else (
      some (1 : Int32)
    )
  )
set_option maxRecDepth 20000 in
set_option maxHeartbeats 1000000 in
theorem w_X12_badGangs {x0 : Int32} {x1 : Int32} {S : ZH} {q : Int32} (h : f_X12_badGangs x0 x1 S = some q) : MetX Y_X12_badGangs S [z_i x0, z_i x1] (some (z_i q)) S := by
  refine MetX.of (lo := [(0, z_i x0), (1, z_i x1)]) rfl (by decide) (Nat.le_of_ble_eq_true rfl) ?_
  unfold f_X12_badGangs at h
  refine x_iload_n 0 dX12_badGangs_0 rfl rfl ?_
  refine x_i2l dX12_badGangs_1 ?_
  refine x_lconst (v := (1 : Int64)) dX12_badGangs_2 (by decide) ?_
  refine x_ldc2 dX12_badGangs_3 q_1405.1 ?_
  refine z_bnd h (fun q1 hq1 h => ?_)
  refine x_callS1 (w_X12_in hq1) cw_X12_in q_1172 ⟨by decide, by decide⟩ (Nat.le_of_ble_eq_true rfl) dX12_badGangs_6 rfl ?_
  refine x_if_eq (tgt := 24) dX12_badGangs_9 (by decide) h (fun h => ?_) (fun h => ?_)
  · refine x_iconst (v := (1 : Int32)) dX12_badGangs_24 (by decide) ?_
    refine x_goto (tgt := 29) dX12_badGangs_25 (by decide) ?_
    exact x_zretC rfl (by decide) dX12_badGangs_29 h
  · refine x_iload_n 1 dX12_badGangs_12 rfl rfl ?_
    refine x_i2l dX12_badGangs_13 ?_
    refine x_lconst (v := (1 : Int64)) dX12_badGangs_14 (by decide) ?_
    refine x_ldc2 dX12_badGangs_15 q_1197.1 ?_
    refine z_bnd h (fun q2 hq2 h => ?_)
    refine x_callS1 (w_X12_in hq2) cw_X12_in q_1172 ⟨by decide, by decide⟩ (Nat.le_of_ble_eq_true rfl) dX12_badGangs_18 rfl ?_
    refine x_if_ne (tgt := 28) dX12_badGangs_21 (by decide) h (fun h => ?_) (fun h => ?_)
    · refine x_iconst (v := (0 : Int32)) dX12_badGangs_28 (by decide) ?_
      exact x_zretC rfl (by decide) dX12_badGangs_29 h
    · refine x_iconst (v := (1 : Int32)) dX12_badGangs_24 (by decide) ?_
      refine x_goto (tgt := 29) dX12_badGangs_25 (by decide) ?_
      exact x_zretC rfl (by decide) dX12_badGangs_29 h
-- PressedMenModel met (II)I
abbrev Y_X12_met : ZM := (yX12_met, cX12_met, 3, (some .int), 6, 150)
theorem cw_X12_met : z_CV Y_X12_met 12 2 := ⟨⟨_, _, rfl⟩, by decide, q_1399, q_1400, q_1401, q_76, ⟨by decide, by decide⟩, rfl⟩
def f_X12_met (n0 : Nat) (x1 : Int32) (x2 : Int32) (S : ZH) : Option (Int32 × ZH) :=
  (f_X12_badGangs x1 x2 (zsI S 12 n0 0 (0 : Int32))).bind fun q1 =>
  if q1 = 0 then (
    (f_X12_look n0 x1 x2 (zsI S 12 n0 0 (0 : Int32))).bind fun q2 =>
    some (q2.1, q2.2)
  ) else (
    some ((-2 : Int32), (zsI S 12 n0 0 (0 : Int32)))
  )
set_option maxRecDepth 20000 in
set_option maxHeartbeats 1000000 in
theorem w_X12_met {n0 : Nat} {x1 : Int32} {x2 : Int32} {S : ZH} {q : Int32 × ZH} (h : f_X12_met n0 x1 x2 S = some q) : MetX Y_X12_met S [z_r 12 (some n0), z_i x1, z_i x2] (some (z_i q.1)) q.2 := by
  refine MetX.of (lo := [(0, z_r 12 (some n0)), (1, z_i x1), (2, z_i x2)]) rfl (by decide) (Nat.le_of_ble_eq_true rfl) ?_
  unfold f_X12_met at h
  refine x_aload_n 0 dX12_met_0 rfl rfl ?_
  refine x_iconst (v := (0 : Int32)) dX12_met_1 (by decide) ?_
  refine x_putI rfl ck_12 0 (by decide) rfl (Or.inl rfl) (by rfl) rfl q_1049 dX12_met_2 ?_
  refine x_iload_n 1 dX12_met_5 rfl rfl ?_
  refine x_iload_n 2 dX12_met_6 rfl rfl ?_
  refine z_bnd h (fun q1 hq1 h => ?_)
  refine x_callS1 (w_X12_badGangs hq1) cw_X12_badGangs q_1402 ⟨by decide, by decide⟩ (Nat.le_of_ble_eq_true rfl) dX12_met_7 rfl ?_
  refine x_if_eq (tgt := 18) dX12_met_10 (by decide) h (fun h => ?_) (fun h => ?_)
  · refine x_aload_n 0 dX12_met_18 rfl rfl ?_
    refine x_iload_n 1 dX12_met_19 rfl rfl ?_
    refine x_iload_n 2 dX12_met_20 rfl rfl ?_
    refine z_bnd h (fun q2 hq2 h => ?_)
    refine x_callV1 rfl (w_X12_look hq2) cw_X12_look q_1406 ⟨by decide, by decide⟩ (Nat.le_of_ble_eq_true rfl) dX12_met_21 rfl ?_
    exact x_iretE rfl dX12_met_24 h
  · refine x_bipush (v := (-2 : Int32)) dX12_met_13 (by decide) ?_
    refine x_goto (tgt := 24) dX12_met_15 (by decide) ?_
    exact x_iretE rfl dX12_met_24 h
-- PressedMenModel laid (IIII)I
abbrev Y_X12_laid : ZM := (yX12_laid, cX12_laid, 5, (some .int), 6, 150)
theorem cw_X12_laid : z_CV Y_X12_laid 12 4 := ⟨⟨_, _, rfl⟩, by decide, q_1415, q_1416, q_1417, q_76, ⟨by decide, by decide⟩, rfl⟩
def f_X12_laid (n0 : Nat) (x1 : Int32) (x2 : Int32) (x3 : Int32) (x4 : Int32) (S : ZH) : Option (Int32 × ZH) :=
  (f_X12_badGangs x1 x2 (zsI S 12 n0 0 (0 : Int32))).bind fun q1 =>
  if ¬ q1 = 0 then (
    some ((-2 : Int32), (zsI S 12 n0 0 (0 : Int32)))
  ) else (
    (f_X12_in x3.toInt64 (0 : Int64) ((x1 - (1 : Int32)).toInt64) (zsI S 12 n0 0 (0 : Int32))).bind fun q2 =>
    if q2 = 0 then (
      some ((-2 : Int32), (zsI S 12 n0 0 (0 : Int32)))
    ) else (
      (f_X12_in x4.toInt64 (0 : Int64) ((x2 - (1 : Int32)).toInt64) (zsI S 12 n0 0 (0 : Int32))).bind fun q3 =>
      if ¬ q3 = 0 then (
        (f_X12_look n0 x1 x2 (zsI S 12 n0 0 (0 : Int32))).bind fun q4 =>
        (f_X12_meet n0 (zI q4.2 12 n0 30) x1 x2 q4.2).bind fun q5 =>
        ((zR q5.2 12 n0 28)).bind fun a6 =>
        (zld q5.2 46 a6 ((x3 * x2) + x4)).bind fun v7 =>
        some (v7, q5.2)
      ) else (
        some ((-2 : Int32), (zsI S 12 n0 0 (0 : Int32)))
      )
    )
  )
set_option maxRecDepth 20000 in
set_option maxHeartbeats 1000000 in
theorem w_X12_laid {n0 : Nat} {x1 : Int32} {x2 : Int32} {x3 : Int32} {x4 : Int32} {S : ZH} {q : Int32 × ZH} (h : f_X12_laid n0 x1 x2 x3 x4 S = some q) : MetX Y_X12_laid S [z_r 12 (some n0), z_i x1, z_i x2, z_i x3, z_i x4] (some (z_i q.1)) q.2 := by
  refine MetX.of (lo := [(0, z_r 12 (some n0)), (1, z_i x1), (2, z_i x2), (3, z_i x3), (4, z_i x4)]) rfl (by decide) (Nat.le_of_ble_eq_true rfl) ?_
  unfold f_X12_laid at h
  refine x_aload_n 0 dX12_laid_0 rfl rfl ?_
  refine x_iconst (v := (0 : Int32)) dX12_laid_1 (by decide) ?_
  refine x_putI rfl ck_12 0 (by decide) rfl (Or.inl rfl) (by rfl) rfl q_1049 dX12_laid_2 ?_
  refine x_iload_n 1 dX12_laid_5 rfl rfl ?_
  refine x_iload_n 2 dX12_laid_6 rfl rfl ?_
  refine z_bnd h (fun q1 hq1 h => ?_)
  refine x_callS1 (w_X12_badGangs hq1) cw_X12_badGangs q_1402 ⟨by decide, by decide⟩ (Nat.le_of_ble_eq_true rfl) dX12_laid_7 rfl ?_
  refine x_if_ne (tgt := 40) dX12_laid_10 (by decide) h (fun h => ?_) (fun h => ?_)
  · refine x_bipush (v := (-2 : Int32)) dX12_laid_40 (by decide) ?_
    exact x_iretE rfl dX12_laid_42 h
  · refine x_iload_n 3 dX12_laid_13 rfl rfl ?_
    refine x_i2l dX12_laid_14 ?_
    refine x_lconst (v := (0 : Int64)) dX12_laid_15 (by decide) ?_
    refine x_iload_n 1 dX12_laid_16 rfl rfl ?_
    refine x_iconst (v := (1 : Int32)) dX12_laid_17 (by decide) ?_
    refine x_isub dX12_laid_18 ?_
    refine x_i2l dX12_laid_19 ?_
    refine z_bnd h (fun q2 hq2 h => ?_)
    refine x_callS1 (w_X12_in hq2) cw_X12_in q_1172 ⟨by decide, by decide⟩ (Nat.le_of_ble_eq_true rfl) dX12_laid_20 rfl ?_
    refine x_if_eq (tgt := 40) dX12_laid_23 (by decide) h (fun h => ?_) (fun h => ?_)
    · refine x_bipush (v := (-2 : Int32)) dX12_laid_40 (by decide) ?_
      exact x_iretE rfl dX12_laid_42 h
    · refine x_iload 4 dX12_laid_26 rfl ?_
      refine x_i2l dX12_laid_28 ?_
      refine x_lconst (v := (0 : Int64)) dX12_laid_29 (by decide) ?_
      refine x_iload_n 2 dX12_laid_30 rfl rfl ?_
      refine x_iconst (v := (1 : Int32)) dX12_laid_31 (by decide) ?_
      refine x_isub dX12_laid_32 ?_
      refine x_i2l dX12_laid_33 ?_
      refine z_bnd h (fun q3 hq3 h => ?_)
      refine x_callS1 (w_X12_in hq3) cw_X12_in q_1172 ⟨by decide, by decide⟩ (Nat.le_of_ble_eq_true rfl) dX12_laid_34 rfl ?_
      refine x_if_ne (tgt := 43) dX12_laid_37 (by decide) h (fun h => ?_) (fun h => ?_)
      · refine x_aload_n 0 dX12_laid_43 rfl rfl ?_
        refine x_iload_n 1 dX12_laid_44 rfl rfl ?_
        refine x_iload_n 2 dX12_laid_45 rfl rfl ?_
        refine z_bnd h (fun q4 hq4 h => ?_)
        refine x_callV1 rfl (w_X12_look hq4) cw_X12_look q_1406 ⟨by decide, by decide⟩ (Nat.le_of_ble_eq_true rfl) dX12_laid_46 rfl ?_
        refine x_pop dX12_laid_49 rfl ?_
        refine x_aload_n 0 dX12_laid_50 rfl rfl ?_
        refine x_aload_n 0 dX12_laid_51 rfl rfl ?_
        refine x_getI rfl ck_12 30 (by decide) rfl q_1079 dX12_laid_52 ?_
        refine x_iload_n 1 dX12_laid_55 rfl rfl ?_
        refine x_iload_n 2 dX12_laid_56 rfl rfl ?_
        refine z_bnd h (fun q5 hq5 h => ?_)
        refine x_callV1 rfl (w_X12_meet hq5) cw_X12_meet q_1410 ⟨by decide, by decide⟩ (Nat.le_of_ble_eq_true rfl) dX12_laid_57 rfl ?_
        refine x_pop dX12_laid_60 rfl ?_
        refine x_aload_n 0 dX12_laid_61 rfl rfl ?_
        refine x_getR rfl ck_12 28 (by decide) rfl q_1077 dX12_laid_62 ?_
        refine x_iload_n 3 dX12_laid_65 rfl rfl ?_
        refine x_iload_n 2 dX12_laid_66 rfl rfl ?_
        refine x_imul dX12_laid_67 ?_
        refine x_iload 4 dX12_laid_68 rfl ?_
        refine x_iadd dX12_laid_70 ?_
        refine z_bnd h (fun a6 ha6 h => ?_)
        refine x_iaload ha6 ak_46 dX12_laid_71 h (fun v7 hv7 h => ?_)
        exact x_iretE rfl dX12_laid_72 h
      · refine x_bipush (v := (-2 : Int32)) dX12_laid_40 (by decide) ?_
        exact x_iretE rfl dX12_laid_42 h
-- PressedMenModel ship (IIII)I
abbrev Y_X12_ship : ZM := (yX12_ship, cX12_ship, 5, (some .int), 1, 25)
theorem cw_X12_ship : z_CV Y_X12_ship 12 4 := ⟨⟨_, _, rfl⟩, by decide, q_1419, q_1420, q_1421, q_76, ⟨by decide, by decide⟩, rfl⟩
def f_X12_ship (n0 : Nat) (x1 : Int32) (x2 : Int32) (x3 : Int32) (x4 : Int32) (S : ZH) : Option (Int32 × ZH) :=
  (f_X12_in x1.toInt64 (0 : Int64) (1 : Int64) (zsI S 12 n0 0 (0 : Int32))).bind fun q1 =>
  if q1 = 0 then (
    some ((-2 : Int32), (zsI S 12 n0 0 (0 : Int32)))
  ) else (
    (f_X12_in x2.toInt64 (1 : Int64) (20 : Int64) (zsI S 12 n0 0 (0 : Int32))).bind fun q2 =>
    if q2 = 0 then (
      some ((-2 : Int32), (zsI S 12 n0 0 (0 : Int32)))
    ) else (
      (f_X12_in x3.toInt64 (0 : Int64) x2.toInt64 (zsI S 12 n0 0 (0 : Int32))).bind fun q3 =>
      if q3 = 0 then (
        some ((-2 : Int32), (zsI S 12 n0 0 (0 : Int32)))
      ) else (
        (f_X12_in x4.toInt64 (0 : Int64) (20 : Int64) (zsI S 12 n0 0 (0 : Int32))).bind fun q4 =>
        if ¬ q4 = 0 then (
          if ¬ (zI (zsI S 12 n0 0 (0 : Int32)) 12 n0 9) = (10 : Int32) then (
            ((zR (zsI S 12 n0 0 (0 : Int32)) 12 n0 10)).bind fun a5 =>
            (zst (zsI S 12 n0 0 (0 : Int32)) 34 a5 (zI (zsI S 12 n0 0 (0 : Int32)) 12 n0 9) x1).bind fun S6 =>
            ((zR S6 12 n0 11)).bind fun a7 =>
            (zst S6 35 a7 (zI S6 12 n0 9) x2).bind fun S8 =>
            ((zR S8 12 n0 12)).bind fun a9 =>
            (zst S8 36 a9 (zI S8 12 n0 9) x3).bind fun S10 =>
            ((zR S10 12 n0 13)).bind fun a11 =>
            (zst S10 37 a11 (zI S10 12 n0 9) x4).bind fun S12 =>
            some (((zI (zsI S12 12 n0 9 ((zI S12 12 n0 9) + (1 : Int32))) 12 n0 9) - (1 : Int32)), (zsI S12 12 n0 9 ((zI S12 12 n0 9) + (1 : Int32))))
          ) else (
            some ((-4 : Int32), (zsI S 12 n0 0 (0 : Int32)))
          )
        ) else (
          some ((-2 : Int32), (zsI S 12 n0 0 (0 : Int32)))
        )
      )
    )
  )
set_option maxRecDepth 20000 in
set_option maxHeartbeats 1000000 in
theorem w_X12_ship {n0 : Nat} {x1 : Int32} {x2 : Int32} {x3 : Int32} {x4 : Int32} {S : ZH} {q : Int32 × ZH} (h : f_X12_ship n0 x1 x2 x3 x4 S = some q) : MetX Y_X12_ship S [z_r 12 (some n0), z_i x1, z_i x2, z_i x3, z_i x4] (some (z_i q.1)) q.2 := by
  refine MetX.of (lo := [(0, z_r 12 (some n0)), (1, z_i x1), (2, z_i x2), (3, z_i x3), (4, z_i x4)]) rfl (by decide) (Nat.le_of_ble_eq_true rfl) ?_
  unfold f_X12_ship at h
  refine x_aload_n 0 dX12_ship_0 rfl rfl ?_
  refine x_iconst (v := (0 : Int32)) dX12_ship_1 (by decide) ?_
  refine x_putI rfl ck_12 0 (by decide) rfl (Or.inl rfl) (by rfl) rfl q_1049 dX12_ship_2 ?_
  refine x_iload_n 1 dX12_ship_5 rfl rfl ?_
  refine x_i2l dX12_ship_6 ?_
  refine x_lconst (v := (0 : Int64)) dX12_ship_7 (by decide) ?_
  refine x_lconst (v := (1 : Int64)) dX12_ship_8 (by decide) ?_
  refine z_bnd h (fun q1 hq1 h => ?_)
  refine x_callS1 (w_X12_in hq1) cw_X12_in q_1172 ⟨by decide, by decide⟩ (Nat.le_of_ble_eq_true rfl) dX12_ship_9 rfl ?_
  refine x_if_eq (tgt := 51) dX12_ship_12 (by decide) h (fun h => ?_) (fun h => ?_)
  · refine x_bipush (v := (-2 : Int32)) dX12_ship_51 (by decide) ?_
    exact x_iretE rfl dX12_ship_53 h
  · refine x_iload_n 2 dX12_ship_15 rfl rfl ?_
    refine x_i2l dX12_ship_16 ?_
    refine x_lconst (v := (1 : Int64)) dX12_ship_17 (by decide) ?_
    refine x_ldc2 dX12_ship_18 q_1223.1 ?_
    refine z_bnd h (fun q2 hq2 h => ?_)
    refine x_callS1 (w_X12_in hq2) cw_X12_in q_1172 ⟨by decide, by decide⟩ (Nat.le_of_ble_eq_true rfl) dX12_ship_21 rfl ?_
    refine x_if_eq (tgt := 51) dX12_ship_24 (by decide) h (fun h => ?_) (fun h => ?_)
    · refine x_bipush (v := (-2 : Int32)) dX12_ship_51 (by decide) ?_
      exact x_iretE rfl dX12_ship_53 h
    · refine x_iload_n 3 dX12_ship_27 rfl rfl ?_
      refine x_i2l dX12_ship_28 ?_
      refine x_lconst (v := (0 : Int64)) dX12_ship_29 (by decide) ?_
      refine x_iload_n 2 dX12_ship_30 rfl rfl ?_
      refine x_i2l dX12_ship_31 ?_
      refine z_bnd h (fun q3 hq3 h => ?_)
      refine x_callS1 (w_X12_in hq3) cw_X12_in q_1172 ⟨by decide, by decide⟩ (Nat.le_of_ble_eq_true rfl) dX12_ship_32 rfl ?_
      refine x_if_eq (tgt := 51) dX12_ship_35 (by decide) h (fun h => ?_) (fun h => ?_)
      · refine x_bipush (v := (-2 : Int32)) dX12_ship_51 (by decide) ?_
        exact x_iretE rfl dX12_ship_53 h
      · refine x_iload 4 dX12_ship_38 rfl ?_
        refine x_i2l dX12_ship_40 ?_
        refine x_lconst (v := (0 : Int64)) dX12_ship_41 (by decide) ?_
        refine x_ldc2 dX12_ship_42 q_1223.1 ?_
        refine z_bnd h (fun q4 hq4 h => ?_)
        refine x_callS1 (w_X12_in hq4) cw_X12_in q_1172 ⟨by decide, by decide⟩ (Nat.le_of_ble_eq_true rfl) dX12_ship_45 rfl ?_
        refine x_if_ne (tgt := 54) dX12_ship_48 (by decide) h (fun h => ?_) (fun h => ?_)
        · refine x_aload_n 0 dX12_ship_54 rfl rfl ?_
          refine x_getI rfl ck_12 9 (by decide) rfl q_1058 dX12_ship_55 ?_
          refine x_bipush (v := (10 : Int32)) dX12_ship_58 (by decide) ?_
          refine x_ic_ne (tgt := 66) dX12_ship_60 (by decide) h (fun h => ?_) (fun h => ?_)
          · refine x_aload_n 0 dX12_ship_66 rfl rfl ?_
            refine x_getR rfl ck_12 10 (by decide) rfl q_1059 dX12_ship_67 ?_
            refine x_aload_n 0 dX12_ship_70 rfl rfl ?_
            refine x_getI rfl ck_12 9 (by decide) rfl q_1058 dX12_ship_71 ?_
            refine x_iload_n 1 dX12_ship_74 rfl rfl ?_
            refine z_bnd h (fun a5 ha5 h => ?_)
            refine x_iastore ha5 ak_34 dX12_ship_75 h (fun S6 hS6 h => ?_)
            refine x_aload_n 0 dX12_ship_76 rfl rfl ?_
            refine x_getR rfl ck_12 11 (by decide) rfl q_1060 dX12_ship_77 ?_
            refine x_aload_n 0 dX12_ship_80 rfl rfl ?_
            refine x_getI rfl ck_12 9 (by decide) rfl q_1058 dX12_ship_81 ?_
            refine x_iload_n 2 dX12_ship_84 rfl rfl ?_
            refine z_bnd h (fun a7 ha7 h => ?_)
            refine x_iastore ha7 ak_35 dX12_ship_85 h (fun S8 hS8 h => ?_)
            refine x_aload_n 0 dX12_ship_86 rfl rfl ?_
            refine x_getR rfl ck_12 12 (by decide) rfl q_1061 dX12_ship_87 ?_
            refine x_aload_n 0 dX12_ship_90 rfl rfl ?_
            refine x_getI rfl ck_12 9 (by decide) rfl q_1058 dX12_ship_91 ?_
            refine x_iload_n 3 dX12_ship_94 rfl rfl ?_
            refine z_bnd h (fun a9 ha9 h => ?_)
            refine x_iastore ha9 ak_36 dX12_ship_95 h (fun S10 hS10 h => ?_)
            refine x_aload_n 0 dX12_ship_96 rfl rfl ?_
            refine x_getR rfl ck_12 13 (by decide) rfl q_1062 dX12_ship_97 ?_
            refine x_aload_n 0 dX12_ship_100 rfl rfl ?_
            refine x_getI rfl ck_12 9 (by decide) rfl q_1058 dX12_ship_101 ?_
            refine x_iload 4 dX12_ship_104 rfl ?_
            refine z_bnd h (fun a11 ha11 h => ?_)
            refine x_iastore ha11 ak_37 dX12_ship_106 h (fun S12 hS12 h => ?_)
            refine x_aload_n 0 dX12_ship_107 rfl rfl ?_
            refine x_dup dX12_ship_108 rfl ?_
            refine x_getI rfl ck_12 9 (by decide) rfl q_1058 dX12_ship_109 ?_
            refine x_iconst (v := (1 : Int32)) dX12_ship_112 (by decide) ?_
            refine x_iadd dX12_ship_113 ?_
            refine x_putI rfl ck_12 9 (by decide) rfl (Or.inl rfl) (by rfl) rfl q_1058 dX12_ship_114 ?_
            refine x_aload_n 0 dX12_ship_117 rfl rfl ?_
            refine x_getI rfl ck_12 9 (by decide) rfl q_1058 dX12_ship_118 ?_
            refine x_iconst (v := (1 : Int32)) dX12_ship_121 (by decide) ?_
            refine x_isub dX12_ship_122 ?_
            exact x_iretE rfl dX12_ship_123 h
          · refine x_bipush (v := (-4 : Int32)) dX12_ship_63 (by decide) ?_
            exact x_iretE rfl dX12_ship_65 h
        · refine x_bipush (v := (-2 : Int32)) dX12_ship_51 (by decide) ?_
          exact x_iretE rfl dX12_ship_53 h
-- PressedMenModel of (II)I
abbrev Y_X12_of : ZM := (yX12_of, cX12_of, 3, (some .int), 2, 46)
theorem cw_X12_of : z_CV Y_X12_of 12 2 := ⟨⟨_, _, rfl⟩, by decide, q_1423, q_1424, q_1425, q_76, ⟨by decide, by decide⟩, rfl⟩
def f_X12_of (n0 : Nat) (x1 : Int32) (x2 : Int32) (S : ZH) : Option (Int32 × ZH) :=
  (f_X12_noShip n0 x1 (zsI S 12 n0 0 (0 : Int32))).bind fun q1 =>
  if q1 = 0 then (
    if x2 = (0 : Int32) then (
      ((zR (zsI S 12 n0 0 (0 : Int32)) 12 n0 10)).bind fun a2 =>
      (zld (zsI S 12 n0 0 (0 : Int32)) 34 a2 x1).bind fun v3 =>
      some (v3, (zsI S 12 n0 0 (0 : Int32)))
    ) else (
      if x2 = (1 : Int32) then (
        ((zR (zsI S 12 n0 0 (0 : Int32)) 12 n0 11)).bind fun a5 =>
        (zld (zsI S 12 n0 0 (0 : Int32)) 35 a5 x1).bind fun v6 =>
        some (v6, (zsI S 12 n0 0 (0 : Int32)))
      ) else (
        if x2 = (2 : Int32) then (
          ((zR (zsI S 12 n0 0 (0 : Int32)) 12 n0 12)).bind fun a8 =>
          (zld (zsI S 12 n0 0 (0 : Int32)) 36 a8 x1).bind fun v9 =>
          some (v9, (zsI S 12 n0 0 (0 : Int32)))
        ) else (
          if x2 = (3 : Int32) then (
            ((zR (zsI S 12 n0 0 (0 : Int32)) 12 n0 13)).bind fun a11 =>
            (zld (zsI S 12 n0 0 (0 : Int32)) 37 a11 x1).bind fun v12 =>
            some (v12, (zsI S 12 n0 0 (0 : Int32)))
          ) else (
            if x2 = (4 : Int32) then (
              ((zR (zsI S 12 n0 0 (0 : Int32)) 12 n0 14)).bind fun a14 =>
              (zld (zsI S 12 n0 0 (0 : Int32)) 38 a14 x1).bind fun v15 =>
              if v15 = 0 then (
                some ((1 : Int32), (zsI S 12 n0 0 (0 : Int32)))
              ) else (
                some ((0 : Int32), (zsI S 12 n0 0 (0 : Int32)))
              )
            ) else (
              if x2 = (5 : Int32) then (
                (f_X12_many n0 ((10 : Int32) + x1) (zsI S 12 n0 0 (0 : Int32))).bind fun q17 =>
                some (q17, (zsI S 12 n0 0 (0 : Int32)))
              ) else (
                if x2 = (6 : Int32) then (
                  (f_X12_skilled n0 ((10 : Int32) + x1) (zsI S 12 n0 0 (0 : Int32))).bind fun q19 =>
                  some (q19, (zsI S 12 n0 0 (0 : Int32)))
                ) else (
                  some ((-2 : Int32), (zsI S 12 n0 0 (0 : Int32)))
                )
              )
            )
          )
        )
      )
    )
  ) else (
    some ((-1 : Int32), (zsI S 12 n0 0 (0 : Int32)))
  )
set_option maxRecDepth 20000 in
set_option maxHeartbeats 1000000 in
theorem w_X12_of {n0 : Nat} {x1 : Int32} {x2 : Int32} {S : ZH} {q : Int32 × ZH} (h : f_X12_of n0 x1 x2 S = some q) : MetX Y_X12_of S [z_r 12 (some n0), z_i x1, z_i x2] (some (z_i q.1)) q.2 := by
  refine MetX.of (lo := [(0, z_r 12 (some n0)), (1, z_i x1), (2, z_i x2)]) rfl (by decide) (Nat.le_of_ble_eq_true rfl) ?_
  unfold f_X12_of at h
  refine x_aload_n 0 dX12_of_0 rfl rfl ?_
  refine x_iconst (v := (0 : Int32)) dX12_of_1 (by decide) ?_
  refine x_putI rfl ck_12 0 (by decide) rfl (Or.inl rfl) (by rfl) rfl q_1049 dX12_of_2 ?_
  refine x_aload_n 0 dX12_of_5 rfl rfl ?_
  refine x_iload_n 1 dX12_of_6 rfl rfl ?_
  refine z_bnd h (fun q1 hq1 h => ?_)
  refine x_callV1 rfl (w_X12_noShip hq1) cw_X12_noShip q_1426 ⟨by decide, by decide⟩ (Nat.le_of_ble_eq_true rfl) dX12_of_7 rfl ?_
  refine x_if_eq (tgt := 15) dX12_of_10 (by decide) h (fun h => ?_) (fun h => ?_)
  · refine x_iload_n 2 dX12_of_15 rfl rfl ?_
    refine z_ite h (fun hx4 h => ?_) (fun hx4 h => ?_)
    · refine x_tabIn (tgt := 60) dX12_of_16 hx4 (by decide) (by decide) rfl (by decide) ?_
      refine x_aload_n 0 dX12_of_60 rfl rfl ?_
      refine x_getR rfl ck_12 10 (by decide) rfl q_1059 dX12_of_61 ?_
      refine x_iload_n 1 dX12_of_64 rfl rfl ?_
      refine z_bnd h (fun a2 ha2 h => ?_)
      refine x_iaload ha2 ak_34 dX12_of_65 h (fun v3 hv3 h => ?_)
      exact x_iretE rfl dX12_of_66 h
    · refine z_ite h (fun hx7 h => ?_) (fun hx7 h => ?_)
      · refine x_tabIn (tgt := 67) dX12_of_16 hx7 (by decide) (by decide) rfl (by decide) ?_
        refine x_aload_n 0 dX12_of_67 rfl rfl ?_
        refine x_getR rfl ck_12 11 (by decide) rfl q_1060 dX12_of_68 ?_
        refine x_iload_n 1 dX12_of_71 rfl rfl ?_
        refine z_bnd h (fun a5 ha5 h => ?_)
        refine x_iaload ha5 ak_35 dX12_of_72 h (fun v6 hv6 h => ?_)
        exact x_iretE rfl dX12_of_73 h
      · refine z_ite h (fun hx10 h => ?_) (fun hx10 h => ?_)
        · refine x_tabIn (tgt := 74) dX12_of_16 hx10 (by decide) (by decide) rfl (by decide) ?_
          refine x_aload_n 0 dX12_of_74 rfl rfl ?_
          refine x_getR rfl ck_12 12 (by decide) rfl q_1061 dX12_of_75 ?_
          refine x_iload_n 1 dX12_of_78 rfl rfl ?_
          refine z_bnd h (fun a8 ha8 h => ?_)
          refine x_iaload ha8 ak_36 dX12_of_79 h (fun v9 hv9 h => ?_)
          exact x_iretE rfl dX12_of_80 h
        · refine z_ite h (fun hx13 h => ?_) (fun hx13 h => ?_)
          · refine x_tabIn (tgt := 81) dX12_of_16 hx13 (by decide) (by decide) rfl (by decide) ?_
            refine x_aload_n 0 dX12_of_81 rfl rfl ?_
            refine x_getR rfl ck_12 13 (by decide) rfl q_1062 dX12_of_82 ?_
            refine x_iload_n 1 dX12_of_85 rfl rfl ?_
            refine z_bnd h (fun a11 ha11 h => ?_)
            refine x_iaload ha11 ak_37 dX12_of_86 h (fun v12 hv12 h => ?_)
            exact x_iretE rfl dX12_of_87 h
          · refine z_ite h (fun hx16 h => ?_) (fun hx16 h => ?_)
            · refine x_tabIn (tgt := 88) dX12_of_16 hx16 (by decide) (by decide) rfl (by decide) ?_
              refine x_aload_n 0 dX12_of_88 rfl rfl ?_
              refine x_getR rfl ck_12 14 (by decide) rfl q_1063 dX12_of_89 ?_
              refine x_iload_n 1 dX12_of_92 rfl rfl ?_
              refine z_bnd h (fun a14 ha14 h => ?_)
              refine x_zaload ha14 ak_38 dX12_of_93 h (fun v15 hv15 h => ?_)
              refine x_if_eq (tgt := 101) dX12_of_94 (by decide) h (fun h => ?_) (fun h => ?_)
              · refine x_iconst (v := (1 : Int32)) dX12_of_101 (by decide) ?_
                exact x_iretE rfl dX12_of_102 h
              · refine x_iconst (v := (0 : Int32)) dX12_of_97 (by decide) ?_
                refine x_goto (tgt := 102) dX12_of_98 (by decide) ?_
                exact x_iretE rfl dX12_of_102 h
            · refine z_ite h (fun hx18 h => ?_) (fun hx18 h => ?_)
              · refine x_tabIn (tgt := 103) dX12_of_16 hx18 (by decide) (by decide) rfl (by decide) ?_
                refine x_aload_n 0 dX12_of_103 rfl rfl ?_
                refine x_bipush (v := (10 : Int32)) dX12_of_104 (by decide) ?_
                refine x_iload_n 1 dX12_of_106 rfl rfl ?_
                refine x_iadd dX12_of_107 ?_
                refine z_bnd h (fun q17 hq17 h => ?_)
                refine x_callV1 rfl (w_X12_many hq17) cw_X12_many q_1225 ⟨by decide, by decide⟩ (Nat.le_of_ble_eq_true rfl) dX12_of_108 rfl ?_
                exact x_iretE rfl dX12_of_111 h
              · refine z_ite h (fun hx20 h => ?_) (fun hx20 h => ?_)
                · refine x_tabIn (tgt := 112) dX12_of_16 hx20 (by decide) (by decide) rfl (by decide) ?_
                  refine x_aload_n 0 dX12_of_112 rfl rfl ?_
                  refine x_bipush (v := (10 : Int32)) dX12_of_113 (by decide) ?_
                  refine x_iload_n 1 dX12_of_115 rfl rfl ?_
                  refine x_iadd dX12_of_116 ?_
                  refine z_bnd h (fun q19 hq19 h => ?_)
                  refine x_callV1 rfl (w_X12_skilled hq19) cw_X12_skilled q_1430 ⟨by decide, by decide⟩ (Nat.le_of_ble_eq_true rfl) dX12_of_117 rfl ?_
                  exact x_iretE rfl dX12_of_120 h
                · refine x_tabOut (tgt := 121) dX12_of_16 (by
                      have hx4 := z_neI hx4 (n := 0) (by decide)
                      have hx7 := z_neI hx7 (n := 1) (by decide)
                      have hx10 := z_neI hx10 (n := 2) (by decide)
                      have hx13 := z_neI hx13 (n := 3) (by decide)
                      have hx16 := z_neI hx16 (n := 4) (by decide)
                      have hx18 := z_neI hx18 (n := 5) (by decide)
                      have hx20 := z_neI hx20 (n := 6) (by decide)
                      omega) (by decide) ?_
                  refine x_bipush (v := (-2 : Int32)) dX12_of_121 (by decide) ?_
                  exact x_iretE rfl dX12_of_123 h
  · refine x_iconst (v := (-1 : Int32)) dX12_of_13 (by decide) ?_
    exact x_iretE rfl dX12_of_14 h
-- PressedMenModel spared (II)I
abbrev Y_X12_spared : ZM := (yX12_spared, cX12_spared, 4, (some .int), 2, 44)
theorem cw_X12_spared : z_CV Y_X12_spared 12 2 := ⟨⟨_, _, rfl⟩, by decide, q_1443, q_64, q_1444, q_76, ⟨by decide, by decide⟩, rfl⟩
def f_X12_spared (n0 : Nat) (x1 : Int32) (x2 : Int32) (S : ZH) : Option (Int32) :=
  (f_X12_many n0 ((10 : Int32) + x1) S).bind fun q1 =>
  ((zR S 12 n0 13)).bind fun a2 =>
  (zld S 37 a2 x1).bind fun v3 =>
  if ((q1 - v3) - x2) ≤ 0 then (
    some (0 : Int32)
  ) else (
    some ((q1 - v3) - x2)
  )
set_option maxRecDepth 20000 in
set_option maxHeartbeats 1000000 in
theorem w_X12_spared {n0 : Nat} {x1 : Int32} {x2 : Int32} {S : ZH} {q : Int32} (h : f_X12_spared n0 x1 x2 S = some q) : MetX Y_X12_spared S [z_r 12 (some n0), z_i x1, z_i x2] (some (z_i q)) S := by
  refine MetX.of (lo := [(0, z_r 12 (some n0)), (1, z_i x1), (2, z_i x2)]) rfl (by decide) (Nat.le_of_ble_eq_true rfl) ?_
  unfold f_X12_spared at h
  refine x_aload_n 0 dX12_spared_0 rfl rfl ?_
  refine x_bipush (v := (10 : Int32)) dX12_spared_1 (by decide) ?_
  refine x_iload_n 1 dX12_spared_3 rfl rfl ?_
  refine x_iadd dX12_spared_4 ?_
  refine z_bnd h (fun q1 hq1 h => ?_)
  refine x_callV1 rfl (w_X12_many hq1) cw_X12_many q_1225 ⟨by decide, by decide⟩ (Nat.le_of_ble_eq_true rfl) dX12_spared_5 rfl ?_
  refine x_aload_n 0 dX12_spared_8 rfl rfl ?_
  refine x_getR rfl ck_12 13 (by decide) rfl q_1062 dX12_spared_9 ?_
  refine x_iload_n 1 dX12_spared_12 rfl rfl ?_
  refine z_bnd h (fun a2 ha2 h => ?_)
  refine x_iaload ha2 ak_37 dX12_spared_13 h (fun v3 hv3 h => ?_)
  refine x_isub dX12_spared_14 ?_
  refine x_iload_n 2 dX12_spared_15 rfl rfl ?_
  refine x_isub dX12_spared_16 ?_
  refine x_istore_n (lo' := [(3, z_i ((q1 - v3) - x2)), (0, z_r 12 (some n0)), (1, z_i x1), (2, z_i x2)]) dX12_spared_17 rfl (by decide) rfl ?_
  refine x_iload_n 0 dX12_spared_18 rfl rfl ?_
  refine x_if_le (tgt := 26) dX12_spared_19 (by decide) h (fun h => ?_) (fun h => ?_)
  · refine x_iconst (v := (0 : Int32)) dX12_spared_26 (by decide) ?_
    exact x_iret rfl dX12_spared_27 h
  · refine x_iload_n 0 dX12_spared_22 rfl rfl ?_
    refine x_goto (tgt := 27) dX12_spared_23 (by decide) ?_
    exact x_iret rfl dX12_spared_27 h
-- PressedMenModel badWeather (I)Z
abbrev Y_X12_badWeather : ZM := (yX12_badWeather, cX12_badWeather, 1, (some .boolean), 1, 25)
theorem cw_X12_badWeather : z_CS Y_X12_badWeather 1 := ⟨q_1439, q_1440, q_76, ⟨by decide, by decide⟩, rfl⟩
def f_X12_badWeather (x0 : Int32) (S : ZH) : Option (Int32) :=
  (f_X12_in x0.toInt64 (0 : Int64) (3 : Int64) S).bind fun q1 =>
  if ¬ q1 = 0 then (
    some (0 : Int32)
  ) else (
    some (1 : Int32)
  )
set_option maxRecDepth 20000 in
set_option maxHeartbeats 1000000 in
theorem w_X12_badWeather {x0 : Int32} {S : ZH} {q : Int32} (h : f_X12_badWeather x0 S = some q) : MetX Y_X12_badWeather S [z_i x0] (some (z_i q)) S := by
  refine MetX.of (lo := [(0, z_i x0)]) rfl (by decide) (Nat.le_of_ble_eq_true rfl) ?_
  unfold f_X12_badWeather at h
  refine x_iload_n 0 dX12_badWeather_0 rfl rfl ?_
  refine x_i2l dX12_badWeather_1 ?_
  refine x_lconst (v := (0 : Int64)) dX12_badWeather_2 (by decide) ?_
  refine x_ldc2 dX12_badWeather_3 q_1197.1 ?_
  refine z_bnd h (fun q1 hq1 h => ?_)
  refine x_callS1 (w_X12_in hq1) cw_X12_in q_1172 ⟨by decide, by decide⟩ (Nat.le_of_ble_eq_true rfl) dX12_badWeather_6 rfl ?_
  refine x_if_ne (tgt := 16) dX12_badWeather_9 (by decide) h (fun h => ?_) (fun h => ?_)
  · refine x_iconst (v := (0 : Int32)) dX12_badWeather_16 (by decide) ?_
    exact x_zretC rfl (by decide) dX12_badWeather_17 h
  · refine x_iconst (v := (1 : Int32)) dX12_badWeather_12 (by decide) ?_
    refine x_goto (tgt := 17) dX12_badWeather_13 (by decide) ?_
    exact x_zretC rfl (by decide) dX12_badWeather_17 h
-- PressedMenModel spare (II)I
abbrev Y_X12_spare : ZM := (yX12_spare, cX12_spare, 3, (some .int), 3, 67)
theorem cw_X12_spare : z_CV Y_X12_spare 12 2 := ⟨⟨_, _, rfl⟩, by decide, q_1435, q_1436, q_1437, q_76, ⟨by decide, by decide⟩, rfl⟩
def f_X12_spare (n0 : Nat) (x1 : Int32) (x2 : Int32) (S : ZH) : Option (Int32 × ZH) :=
  (f_X12_noShip n0 x1 (zsI S 12 n0 0 (0 : Int32))).bind fun q1 =>
  if q1 = 0 then (
    (f_X12_badWeather x2 (zsI S 12 n0 0 (0 : Int32))).bind fun q2 =>
    if q2 = 0 then (
      ((zR (zsI S 12 n0 0 (0 : Int32)) 12 n0 10)).bind fun a3 =>
      (zld (zsI S 12 n0 0 (0 : Int32)) 34 a3 x1).bind fun v4 =>
      if ¬ v4 = 0 then (
        (f_X12_spared n0 x1 x2 (zsI S 12 n0 0 (0 : Int32))).bind fun q5 =>
        some (q5, (zsI S 12 n0 0 (0 : Int32)))
      ) else (
        some ((-3 : Int32), (zsI S 12 n0 0 (0 : Int32)))
      )
    ) else (
      some ((-2 : Int32), (zsI S 12 n0 0 (0 : Int32)))
    )
  ) else (
    some ((-1 : Int32), (zsI S 12 n0 0 (0 : Int32)))
  )
set_option maxRecDepth 20000 in
set_option maxHeartbeats 1000000 in
theorem w_X12_spare {n0 : Nat} {x1 : Int32} {x2 : Int32} {S : ZH} {q : Int32 × ZH} (h : f_X12_spare n0 x1 x2 S = some q) : MetX Y_X12_spare S [z_r 12 (some n0), z_i x1, z_i x2] (some (z_i q.1)) q.2 := by
  refine MetX.of (lo := [(0, z_r 12 (some n0)), (1, z_i x1), (2, z_i x2)]) rfl (by decide) (Nat.le_of_ble_eq_true rfl) ?_
  unfold f_X12_spare at h
  refine x_aload_n 0 dX12_spare_0 rfl rfl ?_
  refine x_iconst (v := (0 : Int32)) dX12_spare_1 (by decide) ?_
  refine x_putI rfl ck_12 0 (by decide) rfl (Or.inl rfl) (by rfl) rfl q_1049 dX12_spare_2 ?_
  refine x_aload_n 0 dX12_spare_5 rfl rfl ?_
  refine x_iload_n 1 dX12_spare_6 rfl rfl ?_
  refine z_bnd h (fun q1 hq1 h => ?_)
  refine x_callV1 rfl (w_X12_noShip hq1) cw_X12_noShip q_1426 ⟨by decide, by decide⟩ (Nat.le_of_ble_eq_true rfl) dX12_spare_7 rfl ?_
  refine x_if_eq (tgt := 15) dX12_spare_10 (by decide) h (fun h => ?_) (fun h => ?_)
  · refine x_iload_n 2 dX12_spare_15 rfl rfl ?_
    refine z_bnd h (fun q2 hq2 h => ?_)
    refine x_callS1 (w_X12_badWeather hq2) cw_X12_badWeather q_1438 ⟨by decide, by decide⟩ (Nat.le_of_ble_eq_true rfl) dX12_spare_16 rfl ?_
    refine x_if_eq (tgt := 25) dX12_spare_19 (by decide) h (fun h => ?_) (fun h => ?_)
    · refine x_aload_n 0 dX12_spare_25 rfl rfl ?_
      refine x_getR rfl ck_12 10 (by decide) rfl q_1059 dX12_spare_26 ?_
      refine x_iload_n 1 dX12_spare_29 rfl rfl ?_
      refine z_bnd h (fun a3 ha3 h => ?_)
      refine x_iaload ha3 ak_34 dX12_spare_30 h (fun v4 hv4 h => ?_)
      refine x_if_ne (tgt := 39) dX12_spare_31 (by decide) h (fun h => ?_) (fun h => ?_)
      · refine x_aload_n 0 dX12_spare_39 rfl rfl ?_
        refine x_iload_n 1 dX12_spare_40 rfl rfl ?_
        refine x_iload_n 2 dX12_spare_41 rfl rfl ?_
        refine z_bnd h (fun q5 hq5 h => ?_)
        refine x_callV1 rfl (w_X12_spared hq5) cw_X12_spared q_1441 ⟨by decide, by decide⟩ (Nat.le_of_ble_eq_true rfl) dX12_spare_42 rfl ?_
        exact x_iretE rfl dX12_spare_45 h
      · refine x_bipush (v := (-3 : Int32)) dX12_spare_34 (by decide) ?_
        refine x_goto (tgt := 45) dX12_spare_36 (by decide) ?_
        exact x_iretE rfl dX12_spare_45 h
    · refine x_bipush (v := (-2 : Int32)) dX12_spare_22 (by decide) ?_
      exact x_iretE rfl dX12_spare_24 h
  · refine x_iconst (v := (-1 : Int32)) dX12_spare_13 (by decide) ?_
    exact x_iretE rfl dX12_spare_14 h
-- PressedMenModel board (II)I
abbrev Y_X12_board : ZM := (yX12_board, cX12_board, 3, (some .int), 2, 46)
theorem cw_X12_board : z_CV Y_X12_board 12 2 := ⟨⟨_, _, rfl⟩, by decide, q_1446, q_1447, q_1448, q_76, ⟨by decide, by decide⟩, rfl⟩
def f_X12_board (n0 : Nat) (x1 : Int32) (x2 : Int32) (S : ZH) : Option (Int32 × ZH) :=
  (f_X12_noMan n0 x1 (zsI S 12 n0 0 (0 : Int32))).bind fun q1 =>
  if ¬ q1 = 0 then (
    some ((-1 : Int32), (zsI S 12 n0 0 (0 : Int32)))
  ) else (
    (f_X12_noShip n0 x2 (zsI S 12 n0 0 (0 : Int32))).bind fun q2 =>
    if q2 = 0 then (
      (f_X12_placeOf n0 x1 (zsI S 12 n0 0 (0 : Int32))).bind fun q3 =>
      (f_X12_isStreet q3 (zsI S 12 n0 0 (0 : Int32))).bind fun q4 =>
      if q4 = 0 then (
        some ((-3 : Int32), (zsI S 12 n0 0 (0 : Int32)))
      ) else (
        ((zR (zsI S 12 n0 0 (0 : Int32)) 12 n0 14)).bind fun a5 =>
        (zld (zsI S 12 n0 0 (0 : Int32)) 38 a5 x2).bind fun v6 =>
        if v6 = 0 then (
          (f_X12_many n0 ((10 : Int32) + x2) (zsI S 12 n0 0 (0 : Int32))).bind fun q7 =>
          ((zR (zsI S 12 n0 0 (0 : Int32)) 12 n0 11)).bind fun a8 =>
          (zld (zsI S 12 n0 0 (0 : Int32)) 35 a8 x2).bind fun v9 =>
          if q7 < ((2 : Int32) * v9) then (
            (f_X12_go n0 x1 ((10 : Int32) + x2) (zsI S 12 n0 0 (0 : Int32))).bind fun q10 =>
            (f_X12_many n0 ((10 : Int32) + x2) q10).bind fun q11 =>
            some (q11, q10)
          ) else (
            some ((-4 : Int32), (zsI S 12 n0 0 (0 : Int32)))
          )
        ) else (
          some ((-3 : Int32), (zsI S 12 n0 0 (0 : Int32)))
        )
      )
    ) else (
      some ((-1 : Int32), (zsI S 12 n0 0 (0 : Int32)))
    )
  )
set_option maxRecDepth 20000 in
set_option maxHeartbeats 1000000 in
theorem w_X12_board {n0 : Nat} {x1 : Int32} {x2 : Int32} {S : ZH} {q : Int32 × ZH} (h : f_X12_board n0 x1 x2 S = some q) : MetX Y_X12_board S [z_r 12 (some n0), z_i x1, z_i x2] (some (z_i q.1)) q.2 := by
  refine MetX.of (lo := [(0, z_r 12 (some n0)), (1, z_i x1), (2, z_i x2)]) rfl (by decide) (Nat.le_of_ble_eq_true rfl) ?_
  unfold f_X12_board at h
  refine x_aload_n 0 dX12_board_0 rfl rfl ?_
  refine x_iconst (v := (0 : Int32)) dX12_board_1 (by decide) ?_
  refine x_putI rfl ck_12 0 (by decide) rfl (Or.inl rfl) (by rfl) rfl q_1049 dX12_board_2 ?_
  refine x_aload_n 0 dX12_board_5 rfl rfl ?_
  refine x_iload_n 1 dX12_board_6 rfl rfl ?_
  refine z_bnd h (fun q1 hq1 h => ?_)
  refine x_callV1 rfl (w_X12_noMan hq1) cw_X12_noMan q_1206 ⟨by decide, by decide⟩ (Nat.le_of_ble_eq_true rfl) dX12_board_7 rfl ?_
  refine x_if_ne (tgt := 21) dX12_board_10 (by decide) h (fun h => ?_) (fun h => ?_)
  · refine x_iconst (v := (-1 : Int32)) dX12_board_21 (by decide) ?_
    exact x_iretE rfl dX12_board_22 h
  · refine x_aload_n 0 dX12_board_13 rfl rfl ?_
    refine x_iload_n 2 dX12_board_14 rfl rfl ?_
    refine z_bnd h (fun q2 hq2 h => ?_)
    refine x_callV1 rfl (w_X12_noShip hq2) cw_X12_noShip q_1426 ⟨by decide, by decide⟩ (Nat.le_of_ble_eq_true rfl) dX12_board_15 rfl ?_
    refine x_if_eq (tgt := 23) dX12_board_18 (by decide) h (fun h => ?_) (fun h => ?_)
    · refine x_aload_n 0 dX12_board_23 rfl rfl ?_
      refine x_iload_n 1 dX12_board_24 rfl rfl ?_
      refine z_bnd h (fun q3 hq3 h => ?_)
      refine x_callV1 rfl (w_X12_placeOf hq3) cw_X12_placeOf q_1229 ⟨by decide, by decide⟩ (Nat.le_of_ble_eq_true rfl) dX12_board_25 rfl ?_
      refine z_bnd h (fun q4 hq4 h => ?_)
      refine x_callS1 (w_X12_isStreet hq4) cw_X12_isStreet q_1245 ⟨by decide, by decide⟩ (Nat.le_of_ble_eq_true rfl) dX12_board_28 rfl ?_
      refine x_if_eq (tgt := 43) dX12_board_31 (by decide) h (fun h => ?_) (fun h => ?_)
      · refine x_bipush (v := (-3 : Int32)) dX12_board_43 (by decide) ?_
        exact x_iretE rfl dX12_board_45 h
      · refine x_aload_n 0 dX12_board_34 rfl rfl ?_
        refine x_getR rfl ck_12 14 (by decide) rfl q_1063 dX12_board_35 ?_
        refine x_iload_n 2 dX12_board_38 rfl rfl ?_
        refine z_bnd h (fun a5 ha5 h => ?_)
        refine x_zaload ha5 ak_38 dX12_board_39 h (fun v6 hv6 h => ?_)
        refine x_if_eq (tgt := 46) dX12_board_40 (by decide) h (fun h => ?_) (fun h => ?_)
        · refine x_aload_n 0 dX12_board_46 rfl rfl ?_
          refine x_bipush (v := (10 : Int32)) dX12_board_47 (by decide) ?_
          refine x_iload_n 2 dX12_board_49 rfl rfl ?_
          refine x_iadd dX12_board_50 ?_
          refine z_bnd h (fun q7 hq7 h => ?_)
          refine x_callV1 rfl (w_X12_many hq7) cw_X12_many q_1225 ⟨by decide, by decide⟩ (Nat.le_of_ble_eq_true rfl) dX12_board_51 rfl ?_
          refine x_iconst (v := (2 : Int32)) dX12_board_54 (by decide) ?_
          refine x_aload_n 0 dX12_board_55 rfl rfl ?_
          refine x_getR rfl ck_12 11 (by decide) rfl q_1060 dX12_board_56 ?_
          refine x_iload_n 2 dX12_board_59 rfl rfl ?_
          refine z_bnd h (fun a8 ha8 h => ?_)
          refine x_iaload ha8 ak_35 dX12_board_60 h (fun v9 hv9 h => ?_)
          refine x_imul dX12_board_61 ?_
          refine x_ic_lt (tgt := 68) dX12_board_62 (by decide) h (fun h => ?_) (fun h => ?_)
          · refine x_aload_n 0 dX12_board_68 rfl rfl ?_
            refine x_iload_n 1 dX12_board_69 rfl rfl ?_
            refine x_bipush (v := (10 : Int32)) dX12_board_70 (by decide) ?_
            refine x_iload_n 2 dX12_board_72 rfl rfl ?_
            refine x_iadd dX12_board_73 ?_
            refine z_bnd h (fun q10 hq10 h => ?_)
            refine x_callVv rfl (w_X12_go hq10) cw_X12_go q_1252 ⟨by decide, by decide⟩ (Nat.le_of_ble_eq_true rfl) dX12_board_74 rfl ?_
            refine x_aload_n 0 dX12_board_77 rfl rfl ?_
            refine x_bipush (v := (10 : Int32)) dX12_board_78 (by decide) ?_
            refine x_iload_n 2 dX12_board_80 rfl rfl ?_
            refine x_iadd dX12_board_81 ?_
            refine z_bnd h (fun q11 hq11 h => ?_)
            refine x_callV1 rfl (w_X12_many hq11) cw_X12_many q_1225 ⟨by decide, by decide⟩ (Nat.le_of_ble_eq_true rfl) dX12_board_82 rfl ?_
            exact x_iretE rfl dX12_board_85 h
          · refine x_bipush (v := (-4 : Int32)) dX12_board_65 (by decide) ?_
            exact x_iretE rfl dX12_board_67 h
        · refine x_bipush (v := (-3 : Int32)) dX12_board_43 (by decide) ?_
          exact x_iretE rfl dX12_board_45 h
    · refine x_iconst (v := (-1 : Int32)) dX12_board_21 (by decide) ?_
      exact x_iretE rfl dX12_board_22 h
-- PressedMenModel turn (II)I
abbrev Y_X12_turn : ZM := (yX12_turn, cX12_turn, 4, (some .int), 3, 66)
theorem cw_X12_turn : z_CV Y_X12_turn 12 2 := ⟨⟨_, _, rfl⟩, by decide, q_1450, q_1451, q_1452, q_76, ⟨by decide, by decide⟩, rfl⟩
def j_X12_turn_43 (n0 : Nat) (x1 : Int32) (x2 : Int32) (x3 : Int32)  (S : ZH) : Option (Int32 × ZH) :=
  if x3 = ((10 : Int32) + x2) then (
    some ((-3 : Int32), S)
  ) else (
    ((zR S 12 n0 14)).bind fun a4 =>
    (zld S 38 a4 x2).bind fun v5 =>
    if v5 = 0 then (
      (f_X12_many n0 ((10 : Int32) + x2) S).bind fun q6 =>
      ((zR S 12 n0 11)).bind fun a7 =>
      (zld S 35 a7 x2).bind fun v8 =>
      if q6 < ((2 : Int32) * v8) then (
        (f_X12_go n0 x1 ((10 : Int32) + x2) S).bind fun q9 =>
        some (x3, q9)
      ) else (
        some ((-4 : Int32), S)
      )
    ) else (
      some ((-3 : Int32), S)
    )
  )
def f_X12_turn (n0 : Nat) (x1 : Int32) (x2 : Int32) (S : ZH) : Option (Int32 × ZH) :=
  (f_X12_noMan n0 x1 (zsI S 12 n0 0 (0 : Int32))).bind fun q1 =>
  if ¬ q1 = 0 then (
    some ((-1 : Int32), (zsI S 12 n0 0 (0 : Int32)))
  ) else (
    (f_X12_noShip n0 x2 (zsI S 12 n0 0 (0 : Int32))).bind fun q2 =>
    if q2 = 0 then (
      (f_X12_placeOf n0 x1 (zsI S 12 n0 0 (0 : Int32))).bind fun q3 =>
      if q3 = (20 : Int32) then (
        j_X12_turn_43 n0 x1 x2 q3 (zsI S 12 n0 0 (0 : Int32))
      ) else (
        (f_X12_isHere n0 q3 (zsI S 12 n0 0 (0 : Int32))).bind fun q10 =>
        if q10 = 0 then (
          some ((-3 : Int32), (zsI S 12 n0 0 (0 : Int32)))
        ) else (
          j_X12_turn_43 n0 x1 x2 q3 (zsI S 12 n0 0 (0 : Int32))
        )
      )
    ) else (
      some ((-1 : Int32), (zsI S 12 n0 0 (0 : Int32)))
    )
  )
set_option maxRecDepth 20000 in
theorem k_X12_turn_43 {S0 : ZH} {n0 : Nat} {x1 : Int32} {x2 : Int32} {x3 : Int32}  {S : ZH} {z : Int32 × ZH} (h : j_X12_turn_43 n0 x1 x2 x3 S = some z) : Wp Y_X12_turn S0 (zF S0 (some (z_i z.1)) z.2) 43 [(0, z_r 12 (some n0)), (1, z_i x1), (2, z_i x2), (3, z_i x3)] [] S := by
  unfold j_X12_turn_43 at h
  refine x_iload_n 3 dX12_turn_43 rfl rfl ?_
  refine x_bipush (v := (10 : Int32)) dX12_turn_44 (by decide) ?_
  refine x_iload_n 2 dX12_turn_46 rfl rfl ?_
  refine x_iadd dX12_turn_47 ?_
  refine x_ic_eq (tgt := 60) dX12_turn_48 (by decide) h (fun h => ?_) (fun h => ?_)
  · refine x_bipush (v := (-3 : Int32)) dX12_turn_60 (by decide) ?_
    exact x_iretE rfl dX12_turn_62 h
  · refine x_aload_n 0 dX12_turn_51 rfl rfl ?_
    refine x_getR rfl ck_12 14 (by decide) rfl q_1063 dX12_turn_52 ?_
    refine x_iload_n 2 dX12_turn_55 rfl rfl ?_
    refine z_bnd h (fun a4 ha4 h => ?_)
    refine x_zaload ha4 ak_38 dX12_turn_56 h (fun v5 hv5 h => ?_)
    refine x_if_eq (tgt := 63) dX12_turn_57 (by decide) h (fun h => ?_) (fun h => ?_)
    · refine x_aload_n 0 dX12_turn_63 rfl rfl ?_
      refine x_bipush (v := (10 : Int32)) dX12_turn_64 (by decide) ?_
      refine x_iload_n 2 dX12_turn_66 rfl rfl ?_
      refine x_iadd dX12_turn_67 ?_
      refine z_bnd h (fun q6 hq6 h => ?_)
      refine x_callV1 rfl (w_X12_many hq6) cw_X12_many q_1225 ⟨by decide, by decide⟩ (Nat.le_of_ble_eq_true rfl) dX12_turn_68 rfl ?_
      refine x_iconst (v := (2 : Int32)) dX12_turn_71 (by decide) ?_
      refine x_aload_n 0 dX12_turn_72 rfl rfl ?_
      refine x_getR rfl ck_12 11 (by decide) rfl q_1060 dX12_turn_73 ?_
      refine x_iload_n 2 dX12_turn_76 rfl rfl ?_
      refine z_bnd h (fun a7 ha7 h => ?_)
      refine x_iaload ha7 ak_35 dX12_turn_77 h (fun v8 hv8 h => ?_)
      refine x_imul dX12_turn_78 ?_
      refine x_ic_lt (tgt := 85) dX12_turn_79 (by decide) h (fun h => ?_) (fun h => ?_)
      · refine x_aload_n 0 dX12_turn_85 rfl rfl ?_
        refine x_iload_n 1 dX12_turn_86 rfl rfl ?_
        refine x_bipush (v := (10 : Int32)) dX12_turn_87 (by decide) ?_
        refine x_iload_n 2 dX12_turn_89 rfl rfl ?_
        refine x_iadd dX12_turn_90 ?_
        refine z_bnd h (fun q9 hq9 h => ?_)
        refine x_callVv rfl (w_X12_go hq9) cw_X12_go q_1252 ⟨by decide, by decide⟩ (Nat.le_of_ble_eq_true rfl) dX12_turn_91 rfl ?_
        refine x_iload_n 3 dX12_turn_94 rfl rfl ?_
        exact x_iretE rfl dX12_turn_95 h
      · refine x_bipush (v := (-4 : Int32)) dX12_turn_82 (by decide) ?_
        exact x_iretE rfl dX12_turn_84 h
    · refine x_bipush (v := (-3 : Int32)) dX12_turn_60 (by decide) ?_
      exact x_iretE rfl dX12_turn_62 h
set_option maxRecDepth 20000 in
set_option maxHeartbeats 1000000 in
theorem w_X12_turn {n0 : Nat} {x1 : Int32} {x2 : Int32} {S : ZH} {q : Int32 × ZH} (h : f_X12_turn n0 x1 x2 S = some q) : MetX Y_X12_turn S [z_r 12 (some n0), z_i x1, z_i x2] (some (z_i q.1)) q.2 := by
  refine MetX.of (lo := [(0, z_r 12 (some n0)), (1, z_i x1), (2, z_i x2)]) rfl (by decide) (Nat.le_of_ble_eq_true rfl) ?_
  unfold f_X12_turn at h
  refine x_aload_n 0 dX12_turn_0 rfl rfl ?_
  refine x_iconst (v := (0 : Int32)) dX12_turn_1 (by decide) ?_
  refine x_putI rfl ck_12 0 (by decide) rfl (Or.inl rfl) (by rfl) rfl q_1049 dX12_turn_2 ?_
  refine x_aload_n 0 dX12_turn_5 rfl rfl ?_
  refine x_iload_n 1 dX12_turn_6 rfl rfl ?_
  refine z_bnd h (fun q1 hq1 h => ?_)
  refine x_callV1 rfl (w_X12_noMan hq1) cw_X12_noMan q_1206 ⟨by decide, by decide⟩ (Nat.le_of_ble_eq_true rfl) dX12_turn_7 rfl ?_
  refine x_if_ne (tgt := 21) dX12_turn_10 (by decide) h (fun h => ?_) (fun h => ?_)
  · refine x_iconst (v := (-1 : Int32)) dX12_turn_21 (by decide) ?_
    exact x_iretE rfl dX12_turn_22 h
  · refine x_aload_n 0 dX12_turn_13 rfl rfl ?_
    refine x_iload_n 2 dX12_turn_14 rfl rfl ?_
    refine z_bnd h (fun q2 hq2 h => ?_)
    refine x_callV1 rfl (w_X12_noShip hq2) cw_X12_noShip q_1426 ⟨by decide, by decide⟩ (Nat.le_of_ble_eq_true rfl) dX12_turn_15 rfl ?_
    refine x_if_eq (tgt := 23) dX12_turn_18 (by decide) h (fun h => ?_) (fun h => ?_)
    · refine x_aload_n 0 dX12_turn_23 rfl rfl ?_
      refine x_iload_n 1 dX12_turn_24 rfl rfl ?_
      refine z_bnd h (fun q3 hq3 h => ?_)
      refine x_callV1 rfl (w_X12_placeOf hq3) cw_X12_placeOf q_1229 ⟨by decide, by decide⟩ (Nat.le_of_ble_eq_true rfl) dX12_turn_25 rfl ?_
      refine x_istore_n (lo' := [(3, z_i q3), (0, z_r 12 (some n0)), (1, z_i x1), (2, z_i x2)]) dX12_turn_28 rfl (by decide) rfl ?_
      refine x_iload_n 0 dX12_turn_29 rfl rfl ?_
      refine x_bipush (v := (20 : Int32)) dX12_turn_30 (by decide) ?_
      refine x_ic_eq (tgt := 43) dX12_turn_32 (by decide) h (fun h => ?_) (fun h => ?_)
      · exact x_lo [1, 2, 3, 0] rfl (k_X12_turn_43 h)
      · refine x_aload_n 1 dX12_turn_35 rfl rfl ?_
        refine x_iload_n 0 dX12_turn_36 rfl rfl ?_
        refine z_bnd h (fun q10 hq10 h => ?_)
        refine x_callV1 rfl (w_X12_isHere hq10) cw_X12_isHere q_1361 ⟨by decide, by decide⟩ (Nat.le_of_ble_eq_true rfl) dX12_turn_37 rfl ?_
        refine x_if_eq (tgt := 60) dX12_turn_40 (by decide) h (fun h => ?_) (fun h => ?_)
        · refine x_bipush (v := (-3 : Int32)) dX12_turn_60 (by decide) ?_
          exact x_iretE rfl dX12_turn_62 h
        · exact x_lo [1, 2, 3, 0] rfl (k_X12_turn_43 h)
    · refine x_iconst (v := (-1 : Int32)) dX12_turn_21 (by decide) ?_
      exact x_iretE rfl dX12_turn_22 h
-- PressedMenModel notAshore (II)I
abbrev Y_X12_notAshore : ZM := (yX12_notAshore, cX12_notAshore, 4, (some .int), 2, 46)
theorem cw_X12_notAshore : z_CV Y_X12_notAshore 12 2 := ⟨⟨_, _, rfl⟩, by decide, q_1454, q_1455, q_1456, q_76, ⟨by decide, by decide⟩, rfl⟩
def b_X12_notAshore_34 (n0 : Nat) (x1 : Int32) (x2 : Int32) (S : ZH) (v : Int32) : Option ((Int32) ⊕ (Int32)) :=
  if v < 0 then (
    some (Sum.inr v)
  ) else (
    ((zR S 12 n0 8)).bind fun a3 =>
    (zld S 33 a3 (((40 : Int32) * v) + x1)).bind fun v4 =>
    (f_X12_isStreet v4 S).bind fun q5 =>
    if ¬ q5 = 0 then (
      some (Sum.inr v)
    ) else (
      ((zR S 12 n0 8)).bind fun a6 =>
      (zld S 33 a6 (((40 : Int32) * v) + x1)).bind fun v7 =>
      if v7 = (22 : Int32) then (
        some (Sum.inr v)
      ) else (
        some (Sum.inl ((v + (-1))))
      )
    )
  )
def f_X12_notAshore (n0 : Nat) (x1 : Int32) (x2 : Int32) (S : ZH) : Option (Int32 × ZH) :=
  (f_X12_noMan n0 x1 (zsI S 12 n0 0 (0 : Int32))).bind fun q1 =>
  if q1 = 0 then (
    (f_X12_in x2.toInt64 (0 : Int64) ((zI (zsI S 12 n0 0 (0 : Int32)) 12 n0 4).toInt64) (zsI S 12 n0 0 (0 : Int32))).bind fun q2 =>
    if ¬ q2 = 0 then (
      (z_iter zFU (b_X12_notAshore_34 n0 x1 x2 (zsI S 12 n0 0 (0 : Int32))) x2).bind fun t8 =>
      some ((x2 - t8), (zsI S 12 n0 0 (0 : Int32)))
    ) else (
      some ((-2 : Int32), (zsI S 12 n0 0 (0 : Int32)))
    )
  ) else (
    some ((-1 : Int32), (zsI S 12 n0 0 (0 : Int32)))
  )
set_option maxRecDepth 20000 in
theorem l_X12_notAshore_34 {S0 : ZH} {F : ZP} {n0 : Nat} {x1 : Int32} {x2 : Int32} {S : ZH} {v : Int32} {t : Int32} (h : z_iter zFU (b_X12_notAshore_34 n0 x1 x2 S) v = some t) (k : (fun t => Wp Y_X12_notAshore S0 F 77 [(2, z_i x2), (3, z_i t)] [] S) t) : Wp Y_X12_notAshore S0 F 34 [(0, z_r 12 (some n0)), (1, z_i x1), (2, z_i x2), (3, z_i v)] [] S := by
  refine z_iter_P (P := fun v : Int32 => Wp Y_X12_notAshore S0 F 34 [(0, z_r 12 (some n0)), (1, z_i x1), (2, z_i x2), (3, z_i v)] [] S) (X := (fun t => Wp Y_X12_notAshore S0 F 77 [(2, z_i x2), (3, z_i t)] [] S)) ?_ _ _ _ h k
  clear h k v t
  intro v r h k
  unfold b_X12_notAshore_34 at h
  refine x_iload_n 3 dX12_notAshore_34 rfl rfl ?_
  refine x_if_lt (tgt := 77) dX12_notAshore_35 (by decide) h (fun h => ?_) (fun h => ?_)
  · cases h
    exact x_lo [2, 3] rfl k
  · refine x_aload_n 0 dX12_notAshore_38 rfl rfl ?_
    refine x_getR rfl ck_12 8 (by decide) rfl q_1057 dX12_notAshore_39 ?_
    refine x_bipush (v := (40 : Int32)) dX12_notAshore_42 (by decide) ?_
    refine x_iload_n 3 dX12_notAshore_44 rfl rfl ?_
    refine x_imul dX12_notAshore_45 ?_
    refine x_iload_n 1 dX12_notAshore_46 rfl rfl ?_
    refine x_iadd dX12_notAshore_47 ?_
    refine z_bnd h (fun a3 ha3 h => ?_)
    refine x_iaload ha3 ak_33 dX12_notAshore_48 h (fun v4 hv4 h => ?_)
    refine z_bnd h (fun q5 hq5 h => ?_)
    refine x_callS1 (w_X12_isStreet hq5) cw_X12_isStreet q_1245 ⟨by decide, by decide⟩ (Nat.le_of_ble_eq_true rfl) dX12_notAshore_49 rfl ?_
    refine x_if_ne (tgt := 77) dX12_notAshore_52 (by decide) h (fun h => ?_) (fun h => ?_)
    · cases h
      exact x_lo [2, 3] rfl k
    · refine x_aload_n 0 dX12_notAshore_55 rfl rfl ?_
      refine x_getR rfl ck_12 8 (by decide) rfl q_1057 dX12_notAshore_56 ?_
      refine x_bipush (v := (40 : Int32)) dX12_notAshore_59 (by decide) ?_
      refine x_iload_n 3 dX12_notAshore_61 rfl rfl ?_
      refine x_imul dX12_notAshore_62 ?_
      refine x_iload_n 1 dX12_notAshore_63 rfl rfl ?_
      refine x_iadd dX12_notAshore_64 ?_
      refine z_bnd h (fun a6 ha6 h => ?_)
      refine x_iaload ha6 ak_33 dX12_notAshore_65 h (fun v7 hv7 h => ?_)
      refine x_bipush (v := (22 : Int32)) dX12_notAshore_66 (by decide) ?_
      refine x_ic_eq (tgt := 77) dX12_notAshore_68 (by decide) h (fun h => ?_) (fun h => ?_)
      · cases h
        exact x_lo [2, 3] rfl k
      · refine x_iinc (v := (v + (-1))) (lo' := [(3, z_i (v + (-1))), (0, z_r 12 (some n0)), (1, z_i x1), (2, z_i x2)]) 3 dX12_notAshore_71 rfl (congrArg (HAdd.hAdd v) (by decide)) (by decide) rfl ?_
        refine x_goto (tgt := 34) dX12_notAshore_74 (by decide) ?_
        cases h
        exact x_lo [1, 2, 3, 0] rfl k
set_option maxRecDepth 20000 in
set_option maxHeartbeats 1000000 in
theorem w_X12_notAshore {n0 : Nat} {x1 : Int32} {x2 : Int32} {S : ZH} {q : Int32 × ZH} (h : f_X12_notAshore n0 x1 x2 S = some q) : MetX Y_X12_notAshore S [z_r 12 (some n0), z_i x1, z_i x2] (some (z_i q.1)) q.2 := by
  refine MetX.of (lo := [(0, z_r 12 (some n0)), (1, z_i x1), (2, z_i x2)]) rfl (by decide) (Nat.le_of_ble_eq_true rfl) ?_
  unfold f_X12_notAshore at h
  refine x_aload_n 0 dX12_notAshore_0 rfl rfl ?_
  refine x_iconst (v := (0 : Int32)) dX12_notAshore_1 (by decide) ?_
  refine x_putI rfl ck_12 0 (by decide) rfl (Or.inl rfl) (by rfl) rfl q_1049 dX12_notAshore_2 ?_
  refine x_aload_n 0 dX12_notAshore_5 rfl rfl ?_
  refine x_iload_n 1 dX12_notAshore_6 rfl rfl ?_
  refine z_bnd h (fun q1 hq1 h => ?_)
  refine x_callV1 rfl (w_X12_noMan hq1) cw_X12_noMan q_1206 ⟨by decide, by decide⟩ (Nat.le_of_ble_eq_true rfl) dX12_notAshore_7 rfl ?_
  refine x_if_eq (tgt := 15) dX12_notAshore_10 (by decide) h (fun h => ?_) (fun h => ?_)
  · refine x_iload_n 2 dX12_notAshore_15 rfl rfl ?_
    refine x_i2l dX12_notAshore_16 ?_
    refine x_lconst (v := (0 : Int64)) dX12_notAshore_17 (by decide) ?_
    refine x_aload_n 0 dX12_notAshore_18 rfl rfl ?_
    refine x_getI rfl ck_12 4 (by decide) rfl q_1053 dX12_notAshore_19 ?_
    refine x_i2l dX12_notAshore_22 ?_
    refine z_bnd h (fun q2 hq2 h => ?_)
    refine x_callS1 (w_X12_in hq2) cw_X12_in q_1172 ⟨by decide, by decide⟩ (Nat.le_of_ble_eq_true rfl) dX12_notAshore_23 rfl ?_
    refine x_if_ne (tgt := 32) dX12_notAshore_26 (by decide) h (fun h => ?_) (fun h => ?_)
    · refine x_iload_n 2 dX12_notAshore_32 rfl rfl ?_
      refine x_istore_n (lo' := [(3, z_i x2), (0, z_r 12 (some n0)), (1, z_i x1), (2, z_i x2)]) dX12_notAshore_33 rfl (by decide) rfl ?_
      refine z_bnd h (fun t8 ht8 h => ?_)
      refine x_lo [1, 2, 3, 0] rfl ?_
      refine l_X12_notAshore_34 ht8 ?_
      refine x_iload_n 0 dX12_notAshore_77 rfl rfl ?_
      refine x_iload_n 1 dX12_notAshore_78 rfl rfl ?_
      refine x_isub dX12_notAshore_79 ?_
      exact x_iretE rfl dX12_notAshore_80 h
    · refine x_bipush (v := (-2 : Int32)) dX12_notAshore_29 (by decide) ?_
      exact x_iretE rfl dX12_notAshore_31 h
  · refine x_iconst (v := (-1 : Int32)) dX12_notAshore_13 (by decide) ?_
    exact x_iretE rfl dX12_notAshore_14 h
-- PressedMenModel mayGo (I)Z
abbrev Y_X12_mayGo : ZM := (yX12_mayGo, cX12_mayGo, 2, (some .boolean), 0, 0)
theorem cw_X12_mayGo : z_CV Y_X12_mayGo 12 1 := ⟨⟨_, _, rfl⟩, by decide, q_1463, q_65, q_1464, q_76, ⟨by decide, by decide⟩, rfl⟩
def f_X12_mayGo (n0 : Nat) (x1 : Int32) (S : ZH) : Option (Int32) :=
  ((zR S 12 n0 10)).bind fun a1 =>
  (zld S 34 a1 x1).bind fun v2 =>
  if ¬ v2 = 0 then (
    some (0 : Int32)
  ) else (
    ((zR S 12 n0 14)).bind fun a3 =>
    (zld S 38 a3 x1).bind fun v4 =>
    if ¬ v4 = 0 then (
      some (0 : Int32)
    ) else (
      some (1 : Int32)
    )
  )
set_option maxRecDepth 20000 in
set_option maxHeartbeats 1000000 in
theorem w_X12_mayGo {n0 : Nat} {x1 : Int32} {S : ZH} {q : Int32} (h : f_X12_mayGo n0 x1 S = some q) : MetX Y_X12_mayGo S [z_r 12 (some n0), z_i x1] (some (z_i q)) S := by
  refine MetX.of (lo := [(0, z_r 12 (some n0)), (1, z_i x1)]) rfl (by decide) (Nat.le_of_ble_eq_true rfl) ?_
  unfold f_X12_mayGo at h
  refine x_aload_n 0 dX12_mayGo_0 rfl rfl ?_
  refine x_getR rfl ck_12 10 (by decide) rfl q_1059 dX12_mayGo_1 ?_
  refine x_iload_n 1 dX12_mayGo_4 rfl rfl ?_
  refine z_bnd h (fun a1 ha1 h => ?_)
  refine x_iaload ha1 ak_34 dX12_mayGo_5 h (fun v2 hv2 h => ?_)
  refine x_if_ne (tgt := 22) dX12_mayGo_6 (by decide) h (fun h => ?_) (fun h => ?_)
  · refine x_iconst (v := (0 : Int32)) dX12_mayGo_22 (by decide) ?_
    exact x_zretC rfl (by decide) dX12_mayGo_23 h
  · refine x_aload_n 0 dX12_mayGo_9 rfl rfl ?_
    refine x_getR rfl ck_12 14 (by decide) rfl q_1063 dX12_mayGo_10 ?_
    refine x_iload_n 1 dX12_mayGo_13 rfl rfl ?_
    refine z_bnd h (fun a3 ha3 h => ?_)
    refine x_zaload ha3 ak_38 dX12_mayGo_14 h (fun v4 hv4 h => ?_)
    refine x_if_ne (tgt := 22) dX12_mayGo_15 (by decide) h (fun h => ?_) (fun h => ?_)
    · refine x_iconst (v := (0 : Int32)) dX12_mayGo_22 (by decide) ?_
      exact x_zretC rfl (by decide) dX12_mayGo_23 h
    · refine x_iconst (v := (1 : Int32)) dX12_mayGo_18 (by decide) ?_
      refine x_goto (tgt := 23) dX12_mayGo_19 (by decide) ?_
      exact x_zretC rfl (by decide) dX12_mayGo_23 h
-- PressedMenModel fewest (II)I
abbrev Y_X12_fewest : ZM := (yX12_fewest, cX12_fewest, 10, (some .int), 3, 67)
theorem cw_X12_fewest : z_CV Y_X12_fewest 12 2 := ⟨⟨_, _, rfl⟩, by decide, q_1467, q_66, q_1468, q_76, ⟨by decide, by decide⟩, rfl⟩
def j_X12_fewest_92 (n0 : Nat) (x1 : Int32) (x2 : Int32) (x4 : Int32) (x5 : Int32) (x6 : Int32) (x7 : Int32) (s0 : Int32) (s1 : Int32) (S : ZH) : Option ((Int32 × Int32 × Int32 × Int32 × Int32) ⊕ (Int32 × Int32 × Int32 × Int32)) :=
  if ¬ ((x1 >>> (x7 &&& 31)) &&& (1 : Int32)) = (1 : Int32) then (
    some (Sum.inl ((s0 + s1), (x4 + (0 : Int32)), x5, x6, (x7 + 1)))
  ) else (
    ((zR S 12 n0 12)).bind fun a12 =>
    (zld S 36 a12 x7).bind fun v13 =>
    some (Sum.inl ((s0 + s1), (x4 + v13), x5, x6, (x7 + 1)))
  )
def b_X12_fewest_26 (n0 : Nat) (x1 : Int32) (x2 : Int32) (S : ZH) (v : Int32 × Int32 × Int32 × Int32 × Int32) : Option ((Int32 × Int32 × Int32 × Int32 × Int32) ⊕ (Int32 × Int32 × Int32 × Int32)) :=
  if (zI S 12 n0 9) ≤ v.2.2.2.2 then (
    some (Sum.inr (v.1, v.2.1, v.2.2.1, v.2.2.2.1))
  ) else (
    (f_X12_mayGo n0 v.2.2.2.2 S).bind fun q3 =>
    if q3 = 0 then (
      ((zR S 12 n0 10)).bind fun a4 =>
      (zld S 34 a4 v.2.2.2.2).bind fun v5 =>
      if ¬ v5 = (1 : Int32) then (
        some (Sum.inl (v.1, v.2.1, v.2.2.1, v.2.2.2.1, (v.2.2.2.2 + 1)))
      ) else (
        ((zR S 12 n0 14)).bind fun a6 =>
        (zld S 38 a6 v.2.2.2.2).bind fun v7 =>
        if ¬ v7 = 0 then (
          some (Sum.inl (v.1, v.2.1, v.2.2.1, v.2.2.2.1, (v.2.2.2.2 + 1)))
        ) else (
          (f_X12_spared n0 v.2.2.2.2 x2 S).bind fun q8 =>
          (f_X12_skilled n0 ((10 : Int32) + v.2.2.2.2) S).bind fun q9 =>
          if q9 ≤ q8 then (
            some (Sum.inl (v.1, v.2.1, (v.2.2.1 + q8), (v.2.2.2.1 + q9), (v.2.2.2.2 + 1)))
          ) else (
            some (Sum.inl (v.1, v.2.1, (v.2.2.1 + q8), (v.2.2.2.1 + q8), (v.2.2.2.2 + 1)))
          )
        )
      )
    ) else (
      (f_X12_many n0 ((10 : Int32) + v.2.2.2.2) S).bind fun q10 =>
      (f_X12_skilled n0 ((10 : Int32) + v.2.2.2.2) S).bind fun q11 =>
      if ¬ ((x1 >>> (v.2.2.2.2 &&& 31)) &&& (1 : Int32)) = (1 : Int32) then (
        j_X12_fewest_92 n0 x1 x2 (v.2.1 - q11) v.2.2.1 v.2.2.2.1 v.2.2.2.2 (v.1 - q10) (0 : Int32) S
      ) else (
        ((zR S 12 n0 11)).bind fun a14 =>
        (zld S 35 a14 v.2.2.2.2).bind fun v15 =>
        j_X12_fewest_92 n0 x1 x2 (v.2.1 - q11) v.2.2.1 v.2.2.2.1 v.2.2.2.2 (v.1 - q10) v15 S
      )
    )
  )
def j_X12_fewest_221 (x4 : Int32) (x5 : Int32) (x6 : Int32) (s0 : Int32) (S : ZH) : Option (Int32) :=
  if x5 < s0 then (
    some (-9 : Int32)
  ) else (
    if x6 < x4 then (
      some (-9 : Int32)
    ) else (
      some s0
    )
  )
def j_X12_fewest_208 (x4 : Int32) (x5 : Int32) (x6 : Int32) (s0 : Int32) (S : ZH) : Option (Int32) :=
  if s0 ≤ 0 then (
    j_X12_fewest_221 x4 x5 x6 (0 : Int32) S
  ) else (
    j_X12_fewest_221 x4 x5 x6 s0 S
  )
def f_X12_fewest (n0 : Nat) (x1 : Int32) (x2 : Int32) (S : ZH) : Option (Int32) :=
  (f_X12_many n0 (20 : Int32) S).bind fun q1 =>
  (f_X12_skilled n0 (20 : Int32) S).bind fun q2 =>
  (z_iter zFU (b_X12_fewest_26 n0 x1 x2 S) ((-q1), (-q2), (0 : Int32), (0 : Int32), (0 : Int32))).bind fun t16 =>
  if t16.1 ≤ t16.2.1 then (
    j_X12_fewest_208 t16.2.1 t16.2.2.1 t16.2.2.2 t16.2.1 S
  ) else (
    j_X12_fewest_208 t16.2.1 t16.2.2.1 t16.2.2.2 t16.1 S
  )
set_option maxRecDepth 20000 in
theorem k_X12_fewest_92 {S0 : ZH} {F : ZP} {n0 : Nat} {x1 : Int32} {x2 : Int32} {x4 : Int32} {x5 : Int32} {x6 : Int32} {x7 : Int32} {s0 : Int32} {s1 : Int32}  {S : ZH} {z : (Int32 × Int32 × Int32 × Int32 × Int32) ⊕ (Int32 × Int32 × Int32 × Int32)} (h : j_X12_fewest_92 n0 x1 x2 x4 x5 x6 x7 s0 s1 S = some z) (k : Sum.elim (fun v : Int32 × Int32 × Int32 × Int32 × Int32 => Wp Y_X12_fewest S0 F 26 [(0, z_r 12 (some n0)), (1, z_i x1), (2, z_i x2), (3, z_i v.1), (4, z_i v.2.1), (5, z_i v.2.2.1), (6, z_i v.2.2.2.1), (7, z_i v.2.2.2.2)] [] S) (fun t => Wp Y_X12_fewest S0 F 196 [(3, z_i t.1), (4, z_i t.2.1), (5, z_i t.2.2.1), (6, z_i t.2.2.2)] [] S) z) : Wp Y_X12_fewest S0 (F) 92 [(0, z_r 12 (some n0)), (1, z_i x1), (2, z_i x2), (4, z_i x4), (5, z_i x5), (6, z_i x6), (7, z_i x7)] [z_i s1, z_i s0] S := by
  unfold j_X12_fewest_92 at h
  refine x_iadd dX12_fewest_92 ?_
  refine x_istore_n (lo' := [(3, z_i (s0 + s1)), (0, z_r 12 (some n0)), (1, z_i x1), (2, z_i x2), (4, z_i x4), (5, z_i x5), (6, z_i x6), (7, z_i x7)]) dX12_fewest_93 rfl (by decide) rfl ?_
  refine x_iload 4 dX12_fewest_94 rfl ?_
  refine x_iload_n 2 dX12_fewest_96 rfl rfl ?_
  refine x_iload 7 dX12_fewest_97 rfl ?_
  refine x_ishr dX12_fewest_99 ?_
  refine x_iconst (v := (1 : Int32)) dX12_fewest_100 (by decide) ?_
  refine x_iand dX12_fewest_101 ?_
  refine x_iconst (v := (1 : Int32)) dX12_fewest_102 (by decide) ?_
  refine x_ic_ne (tgt := 116) dX12_fewest_103 (by decide) h (fun h => ?_) (fun h => ?_)
  · refine x_iconst (v := (0 : Int32)) dX12_fewest_116 (by decide) ?_
    refine x_iadd dX12_fewest_117 ?_
    refine x_istore (lo' := [(4, z_i (x4 + (0 : Int32))), (3, z_i (s0 + s1)), (0, z_r 12 (some n0)), (1, z_i x1), (2, z_i x2), (5, z_i x5), (6, z_i x6), (7, z_i x7)]) dX12_fewest_118 (by decide) rfl ?_
    refine x_goto (tgt := 190) dX12_fewest_120 (by decide) ?_
    refine x_iinc (v := (x7 + 1)) (lo' := [(7, z_i (x7 + 1)), (4, z_i (x4 + (0 : Int32))), (3, z_i (s0 + s1)), (0, z_r 12 (some n0)), (1, z_i x1), (2, z_i x2), (5, z_i x5), (6, z_i x6)]) 7 dX12_fewest_190 rfl (congrArg (HAdd.hAdd x7) (by decide)) (by decide) rfl ?_
    refine x_goto (tgt := 26) dX12_fewest_193 (by decide) ?_
    cases h
    exact x_lo [3, 4, 5, 2, 1, 6, 7, 0] rfl k
  · refine x_aload_n 1 dX12_fewest_106 rfl rfl ?_
    refine x_getR rfl ck_12 12 (by decide) rfl q_1061 dX12_fewest_107 ?_
    refine x_iload 7 dX12_fewest_110 rfl ?_
    refine z_bnd h (fun a12 ha12 h => ?_)
    refine x_iaload ha12 ak_36 dX12_fewest_112 h (fun v13 hv13 h => ?_)
    refine x_goto (tgt := 117) dX12_fewest_113 (by decide) ?_
    refine x_iadd dX12_fewest_117 ?_
    refine x_istore (lo' := [(4, z_i (x4 + v13)), (3, z_i (s0 + s1)), (0, z_r 12 (some n0)), (1, z_i x1), (2, z_i x2), (5, z_i x5), (6, z_i x6), (7, z_i x7)]) dX12_fewest_118 (by decide) rfl ?_
    refine x_goto (tgt := 190) dX12_fewest_120 (by decide) ?_
    refine x_iinc (v := (x7 + 1)) (lo' := [(7, z_i (x7 + 1)), (4, z_i (x4 + v13)), (3, z_i (s0 + s1)), (0, z_r 12 (some n0)), (1, z_i x1), (2, z_i x2), (5, z_i x5), (6, z_i x6)]) 7 dX12_fewest_190 rfl (congrArg (HAdd.hAdd x7) (by decide)) (by decide) rfl ?_
    refine x_goto (tgt := 26) dX12_fewest_193 (by decide) ?_
    cases h
    exact x_lo [3, 4, 5, 2, 1, 6, 7, 0] rfl k
set_option maxRecDepth 20000 in
theorem l_X12_fewest_26 {S0 : ZH} {F : ZP} {n0 : Nat} {x1 : Int32} {x2 : Int32} {S : ZH} {v : Int32 × Int32 × Int32 × Int32 × Int32} {t : Int32 × Int32 × Int32 × Int32} (h : z_iter zFU (b_X12_fewest_26 n0 x1 x2 S) v = some t) (k : (fun t => Wp Y_X12_fewest S0 F 196 [(3, z_i t.1), (4, z_i t.2.1), (5, z_i t.2.2.1), (6, z_i t.2.2.2)] [] S) t) : Wp Y_X12_fewest S0 F 26 [(0, z_r 12 (some n0)), (1, z_i x1), (2, z_i x2), (3, z_i v.1), (4, z_i v.2.1), (5, z_i v.2.2.1), (6, z_i v.2.2.2.1), (7, z_i v.2.2.2.2)] [] S := by
  refine z_iter_P (P := fun v : Int32 × Int32 × Int32 × Int32 × Int32 => Wp Y_X12_fewest S0 F 26 [(0, z_r 12 (some n0)), (1, z_i x1), (2, z_i x2), (3, z_i v.1), (4, z_i v.2.1), (5, z_i v.2.2.1), (6, z_i v.2.2.2.1), (7, z_i v.2.2.2.2)] [] S) (X := (fun t => Wp Y_X12_fewest S0 F 196 [(3, z_i t.1), (4, z_i t.2.1), (5, z_i t.2.2.1), (6, z_i t.2.2.2)] [] S)) ?_ _ _ _ h k
  clear h k v t
  intro v r h k
  unfold b_X12_fewest_26 at h
  refine x_iload 7 dX12_fewest_26 rfl ?_
  refine x_aload_n 0 dX12_fewest_28 rfl rfl ?_
  refine x_getI rfl ck_12 9 (by decide) rfl q_1058 dX12_fewest_29 ?_
  refine x_ic_ge (tgt := 196) dX12_fewest_32 (by decide) h (fun h => ?_) (fun h => ?_)
  · cases h
    exact x_lo [3, 4, 5, 6] rfl k
  · refine x_aload_n 0 dX12_fewest_35 rfl rfl ?_
    refine x_iload 7 dX12_fewest_36 rfl ?_
    refine z_bnd h (fun q3 hq3 h => ?_)
    refine x_callV1 rfl (w_X12_mayGo hq3) cw_X12_mayGo q_1461 ⟨by decide, by decide⟩ (Nat.le_of_ble_eq_true rfl) dX12_fewest_38 rfl ?_
    refine x_if_eq (tgt := 123) dX12_fewest_41 (by decide) h (fun h => ?_) (fun h => ?_)
    · refine x_aload_n 0 dX12_fewest_123 rfl rfl ?_
      refine x_getR rfl ck_12 10 (by decide) rfl q_1059 dX12_fewest_124 ?_
      refine x_iload 7 dX12_fewest_127 rfl ?_
      refine z_bnd h (fun a4 ha4 h => ?_)
      refine x_iaload ha4 ak_34 dX12_fewest_129 h (fun v5 hv5 h => ?_)
      refine x_iconst (v := (1 : Int32)) dX12_fewest_130 (by decide) ?_
      refine x_ic_ne (tgt := 190) dX12_fewest_131 (by decide) h (fun h => ?_) (fun h => ?_)
      · refine x_iinc (v := (v.2.2.2.2 + 1)) (lo' := [(7, z_i (v.2.2.2.2 + 1)), (0, z_r 12 (some n0)), (1, z_i x1), (2, z_i x2), (3, z_i v.1), (4, z_i v.2.1), (5, z_i v.2.2.1), (6, z_i v.2.2.2.1)]) 7 dX12_fewest_190 rfl (congrArg (HAdd.hAdd v.2.2.2.2) (by decide)) (by decide) rfl ?_
        refine x_goto (tgt := 26) dX12_fewest_193 (by decide) ?_
        cases h
        exact x_lo [1, 2, 3, 4, 5, 6, 7, 0] rfl k
      · refine x_aload_n 0 dX12_fewest_134 rfl rfl ?_
        refine x_getR rfl ck_12 14 (by decide) rfl q_1063 dX12_fewest_135 ?_
        refine x_iload 7 dX12_fewest_138 rfl ?_
        refine z_bnd h (fun a6 ha6 h => ?_)
        refine x_zaload ha6 ak_38 dX12_fewest_140 h (fun v7 hv7 h => ?_)
        refine x_if_ne (tgt := 190) dX12_fewest_141 (by decide) h (fun h => ?_) (fun h => ?_)
        · refine x_iinc (v := (v.2.2.2.2 + 1)) (lo' := [(7, z_i (v.2.2.2.2 + 1)), (0, z_r 12 (some n0)), (1, z_i x1), (2, z_i x2), (3, z_i v.1), (4, z_i v.2.1), (5, z_i v.2.2.1), (6, z_i v.2.2.2.1)]) 7 dX12_fewest_190 rfl (congrArg (HAdd.hAdd v.2.2.2.2) (by decide)) (by decide) rfl ?_
          refine x_goto (tgt := 26) dX12_fewest_193 (by decide) ?_
          cases h
          exact x_lo [1, 2, 3, 4, 5, 6, 7, 0] rfl k
        · refine x_aload_n 0 dX12_fewest_144 rfl rfl ?_
          refine x_iload 7 dX12_fewest_145 rfl ?_
          refine x_iload_n 2 dX12_fewest_147 rfl rfl ?_
          refine z_bnd h (fun q8 hq8 h => ?_)
          refine x_callV1 rfl (w_X12_spared hq8) cw_X12_spared q_1441 ⟨by decide, by decide⟩ (Nat.le_of_ble_eq_true rfl) dX12_fewest_148 rfl ?_
          refine x_istore (lo' := [(8, z_i q8), (0, z_r 12 (some n0)), (1, z_i x1), (2, z_i x2), (3, z_i v.1), (4, z_i v.2.1), (5, z_i v.2.2.1), (6, z_i v.2.2.2.1), (7, z_i v.2.2.2.2)]) dX12_fewest_151 (by decide) rfl ?_
          refine x_aload_n 1 dX12_fewest_153 rfl rfl ?_
          refine x_bipush (v := (10 : Int32)) dX12_fewest_154 (by decide) ?_
          refine x_iload 8 dX12_fewest_156 rfl ?_
          refine x_iadd dX12_fewest_158 ?_
          refine z_bnd h (fun q9 hq9 h => ?_)
          refine x_callV1 rfl (w_X12_skilled hq9) cw_X12_skilled q_1430 ⟨by decide, by decide⟩ (Nat.le_of_ble_eq_true rfl) dX12_fewest_159 rfl ?_
          refine x_istore (lo' := [(9, z_i q9), (8, z_i q8), (0, z_r 12 (some n0)), (1, z_i x1), (2, z_i x2), (3, z_i v.1), (4, z_i v.2.1), (5, z_i v.2.2.1), (6, z_i v.2.2.2.1), (7, z_i v.2.2.2.2)]) dX12_fewest_162 (by decide) rfl ?_
          refine x_iload 7 dX12_fewest_164 rfl ?_
          refine x_iload 1 dX12_fewest_166 rfl ?_
          refine x_iadd dX12_fewest_168 ?_
          refine x_istore (lo' := [(5, z_i (v.2.2.1 + q8)), (9, z_i q9), (8, z_i q8), (0, z_r 12 (some n0)), (1, z_i x1), (2, z_i x2), (3, z_i v.1), (4, z_i v.2.1), (6, z_i v.2.2.2.1), (7, z_i v.2.2.2.2)]) dX12_fewest_169 (by decide) rfl ?_
          refine x_iload 8 dX12_fewest_171 rfl ?_
          refine x_iload 2 dX12_fewest_173 rfl ?_
          refine x_iload 1 dX12_fewest_175 rfl ?_
          refine x_ic_ge (tgt := 185) dX12_fewest_177 (by decide) h (fun h => ?_) (fun h => ?_)
          · refine x_iload 1 dX12_fewest_185 rfl ?_
            refine x_iadd dX12_fewest_187 ?_
            refine x_istore (lo' := [(6, z_i (v.2.2.2.1 + q9)), (5, z_i (v.2.2.1 + q8)), (9, z_i q9), (8, z_i q8), (0, z_r 12 (some n0)), (1, z_i x1), (2, z_i x2), (3, z_i v.1), (4, z_i v.2.1), (7, z_i v.2.2.2.2)]) dX12_fewest_188 (by decide) rfl ?_
            refine x_iinc (v := (v.2.2.2.2 + 1)) (lo' := [(7, z_i (v.2.2.2.2 + 1)), (6, z_i (v.2.2.2.1 + q9)), (5, z_i (v.2.2.1 + q8)), (9, z_i q9), (8, z_i q8), (0, z_r 12 (some n0)), (1, z_i x1), (2, z_i x2), (3, z_i v.1), (4, z_i v.2.1)]) 9 dX12_fewest_190 rfl (congrArg (HAdd.hAdd v.2.2.2.2) (by decide)) (by decide) rfl ?_
            refine x_goto (tgt := 26) dX12_fewest_193 (by decide) ?_
            cases h
            exact x_lo [5, 6, 7, 8, 9, 2, 1, 0] rfl k
          · refine x_iload 2 dX12_fewest_180 rfl ?_
            refine x_goto (tgt := 187) dX12_fewest_182 (by decide) ?_
            refine x_iadd dX12_fewest_187 ?_
            refine x_istore (lo' := [(6, z_i (v.2.2.2.1 + q8)), (5, z_i (v.2.2.1 + q8)), (9, z_i q9), (8, z_i q8), (0, z_r 12 (some n0)), (1, z_i x1), (2, z_i x2), (3, z_i v.1), (4, z_i v.2.1), (7, z_i v.2.2.2.2)]) dX12_fewest_188 (by decide) rfl ?_
            refine x_iinc (v := (v.2.2.2.2 + 1)) (lo' := [(7, z_i (v.2.2.2.2 + 1)), (6, z_i (v.2.2.2.1 + q8)), (5, z_i (v.2.2.1 + q8)), (9, z_i q9), (8, z_i q8), (0, z_r 12 (some n0)), (1, z_i x1), (2, z_i x2), (3, z_i v.1), (4, z_i v.2.1)]) 9 dX12_fewest_190 rfl (congrArg (HAdd.hAdd v.2.2.2.2) (by decide)) (by decide) rfl ?_
            refine x_goto (tgt := 26) dX12_fewest_193 (by decide) ?_
            cases h
            exact x_lo [5, 6, 7, 8, 9, 2, 1, 0] rfl k
    · refine x_iload_n 3 dX12_fewest_44 rfl rfl ?_
      refine x_aload_n 0 dX12_fewest_45 rfl rfl ?_
      refine x_bipush (v := (10 : Int32)) dX12_fewest_46 (by decide) ?_
      refine x_iload 7 dX12_fewest_48 rfl ?_
      refine x_iadd dX12_fewest_50 ?_
      refine z_bnd h (fun q10 hq10 h => ?_)
      refine x_callV1 rfl (w_X12_many hq10) cw_X12_many q_1225 ⟨by decide, by decide⟩ (Nat.le_of_ble_eq_true rfl) dX12_fewest_51 rfl ?_
      refine x_isub dX12_fewest_54 ?_
      refine x_istore_n (lo' := [(3, z_i (v.1 - q10)), (0, z_r 12 (some n0)), (1, z_i x1), (2, z_i x2), (4, z_i v.2.1), (5, z_i v.2.2.1), (6, z_i v.2.2.2.1), (7, z_i v.2.2.2.2)]) dX12_fewest_55 rfl (by decide) rfl ?_
      refine x_iload 4 dX12_fewest_56 rfl ?_
      refine x_aload_n 1 dX12_fewest_58 rfl rfl ?_
      refine x_bipush (v := (10 : Int32)) dX12_fewest_59 (by decide) ?_
      refine x_iload 7 dX12_fewest_61 rfl ?_
      refine x_iadd dX12_fewest_63 ?_
      refine z_bnd h (fun q11 hq11 h => ?_)
      refine x_callV1 rfl (w_X12_skilled hq11) cw_X12_skilled q_1430 ⟨by decide, by decide⟩ (Nat.le_of_ble_eq_true rfl) dX12_fewest_64 rfl ?_
      refine x_isub dX12_fewest_67 ?_
      refine x_istore (lo' := [(4, z_i (v.2.1 - q11)), (3, z_i (v.1 - q10)), (0, z_r 12 (some n0)), (1, z_i x1), (2, z_i x2), (5, z_i v.2.2.1), (6, z_i v.2.2.2.1), (7, z_i v.2.2.2.2)]) dX12_fewest_68 (by decide) rfl ?_
      refine x_iload_n 1 dX12_fewest_70 rfl rfl ?_
      refine x_iload_n 3 dX12_fewest_71 rfl rfl ?_
      refine x_iload 7 dX12_fewest_72 rfl ?_
      refine x_ishr dX12_fewest_74 ?_
      refine x_iconst (v := (1 : Int32)) dX12_fewest_75 (by decide) ?_
      refine x_iand dX12_fewest_76 ?_
      refine x_iconst (v := (1 : Int32)) dX12_fewest_77 (by decide) ?_
      refine x_ic_ne (tgt := 91) dX12_fewest_78 (by decide) h (fun h => ?_) (fun h => ?_)
      · refine x_iconst (v := (0 : Int32)) dX12_fewest_91 (by decide) ?_
        exact x_lo [2, 3, 4, 0, 5, 6, 7] rfl (k_X12_fewest_92 h k)
      · refine x_aload_n 2 dX12_fewest_81 rfl rfl ?_
        refine x_getR rfl ck_12 11 (by decide) rfl q_1060 dX12_fewest_82 ?_
        refine x_iload 7 dX12_fewest_85 rfl ?_
        refine z_bnd h (fun a14 ha14 h => ?_)
        refine x_iaload ha14 ak_35 dX12_fewest_87 h (fun v15 hv15 h => ?_)
        refine x_goto (tgt := 92) dX12_fewest_88 (by decide) ?_
        exact x_lo [2, 3, 4, 0, 5, 6, 7] rfl (k_X12_fewest_92 h k)
set_option maxRecDepth 20000 in
theorem k_X12_fewest_221 {S0 : ZH} {x4 : Int32} {x5 : Int32} {x6 : Int32} {s0 : Int32} {S : ZH} {z : Int32} (h : j_X12_fewest_221 x4 x5 x6 s0 S = some z) : Wp Y_X12_fewest S0 (zF S0 (some (z_i z)) S) 221 [(4, z_i x4), (5, z_i x5), (6, z_i x6)] [z_i s0] S := by
  unfold j_X12_fewest_221 at h
  refine x_istore (lo' := [(7, z_i s0), (4, z_i x4), (5, z_i x5), (6, z_i x6)]) dX12_fewest_221 (by decide) rfl ?_
  refine x_iload 0 dX12_fewest_223 rfl ?_
  refine x_iload 2 dX12_fewest_225 rfl ?_
  refine x_ic_gt (tgt := 242) dX12_fewest_227 (by decide) h (fun h => ?_) (fun h => ?_)
  · refine x_bipush (v := (-9 : Int32)) dX12_fewest_242 (by decide) ?_
    exact x_iret rfl dX12_fewest_244 h
  · refine x_iload 1 dX12_fewest_230 rfl ?_
    refine x_iload 3 dX12_fewest_232 rfl ?_
    refine x_ic_gt (tgt := 242) dX12_fewest_234 (by decide) h (fun h => ?_) (fun h => ?_)
    · refine x_bipush (v := (-9 : Int32)) dX12_fewest_242 (by decide) ?_
      exact x_iret rfl dX12_fewest_244 h
    · refine x_iload 0 dX12_fewest_237 rfl ?_
      refine x_goto (tgt := 244) dX12_fewest_239 (by decide) ?_
      exact x_iret rfl dX12_fewest_244 h
set_option maxRecDepth 20000 in
theorem k_X12_fewest_208 {S0 : ZH} {x4 : Int32} {x5 : Int32} {x6 : Int32} {s0 : Int32} {S : ZH} {z : Int32} (h : j_X12_fewest_208 x4 x5 x6 s0 S = some z) : Wp Y_X12_fewest S0 (zF S0 (some (z_i z)) S) 208 [(4, z_i x4), (5, z_i x5), (6, z_i x6)] [z_i s0] S := by
  unfold j_X12_fewest_208 at h
  refine x_istore (lo' := [(7, z_i s0), (4, z_i x4), (5, z_i x5), (6, z_i x6)]) dX12_fewest_208 (by decide) rfl ?_
  refine x_iload 0 dX12_fewest_210 rfl ?_
  refine x_if_le (tgt := 220) dX12_fewest_212 (by decide) h (fun h => ?_) (fun h => ?_)
  · refine x_iconst (v := (0 : Int32)) dX12_fewest_220 (by decide) ?_
    exact x_lo [1, 2, 3] rfl (k_X12_fewest_221 h)
  · refine x_iload 0 dX12_fewest_215 rfl ?_
    refine x_goto (tgt := 221) dX12_fewest_217 (by decide) ?_
    exact x_lo [1, 2, 3] rfl (k_X12_fewest_221 h)
set_option maxRecDepth 20000 in
set_option maxHeartbeats 1000000 in
theorem w_X12_fewest {n0 : Nat} {x1 : Int32} {x2 : Int32} {S : ZH} {q : Int32} (h : f_X12_fewest n0 x1 x2 S = some q) : MetX Y_X12_fewest S [z_r 12 (some n0), z_i x1, z_i x2] (some (z_i q)) S := by
  refine MetX.of (lo := [(0, z_r 12 (some n0)), (1, z_i x1), (2, z_i x2)]) rfl (by decide) (Nat.le_of_ble_eq_true rfl) ?_
  unfold f_X12_fewest at h
  refine x_aload_n 0 dX12_fewest_0 rfl rfl ?_
  refine x_bipush (v := (20 : Int32)) dX12_fewest_1 (by decide) ?_
  refine z_bnd h (fun q1 hq1 h => ?_)
  refine x_callV1 rfl (w_X12_many hq1) cw_X12_many q_1225 ⟨by decide, by decide⟩ (Nat.le_of_ble_eq_true rfl) dX12_fewest_3 rfl ?_
  refine x_ineg dX12_fewest_6 ?_
  refine x_istore_n (lo' := [(3, z_i (-q1)), (0, z_r 12 (some n0)), (1, z_i x1), (2, z_i x2)]) dX12_fewest_7 rfl (by decide) rfl ?_
  refine x_aload_n 1 dX12_fewest_8 rfl rfl ?_
  refine x_bipush (v := (20 : Int32)) dX12_fewest_9 (by decide) ?_
  refine z_bnd h (fun q2 hq2 h => ?_)
  refine x_callV1 rfl (w_X12_skilled hq2) cw_X12_skilled q_1430 ⟨by decide, by decide⟩ (Nat.le_of_ble_eq_true rfl) dX12_fewest_11 rfl ?_
  refine x_ineg dX12_fewest_14 ?_
  refine x_istore (lo' := [(4, z_i (-q2)), (3, z_i (-q1)), (0, z_r 12 (some n0)), (1, z_i x1), (2, z_i x2)]) dX12_fewest_15 (by decide) rfl ?_
  refine x_iconst (v := (0 : Int32)) dX12_fewest_17 (by decide) ?_
  refine x_istore (lo' := [(5, z_i (0 : Int32)), (4, z_i (-q2)), (3, z_i (-q1)), (0, z_r 12 (some n0)), (1, z_i x1), (2, z_i x2)]) dX12_fewest_18 (by decide) rfl ?_
  refine x_iconst (v := (0 : Int32)) dX12_fewest_20 (by decide) ?_
  refine x_istore (lo' := [(6, z_i (0 : Int32)), (5, z_i (0 : Int32)), (4, z_i (-q2)), (3, z_i (-q1)), (0, z_r 12 (some n0)), (1, z_i x1), (2, z_i x2)]) dX12_fewest_21 (by decide) rfl ?_
  refine x_iconst (v := (0 : Int32)) dX12_fewest_23 (by decide) ?_
  refine x_istore (lo' := [(7, z_i (0 : Int32)), (6, z_i (0 : Int32)), (5, z_i (0 : Int32)), (4, z_i (-q2)), (3, z_i (-q1)), (0, z_r 12 (some n0)), (1, z_i x1), (2, z_i x2)]) dX12_fewest_24 (by decide) rfl ?_
  refine z_bnd h (fun t16 ht16 h => ?_)
  refine x_lo [5, 6, 7, 4, 3, 2, 1, 0] rfl ?_
  refine l_X12_fewest_26 ht16 ?_
  refine x_iload_n 0 dX12_fewest_196 rfl rfl ?_
  refine x_iload 1 dX12_fewest_197 rfl ?_
  refine x_ic_le (tgt := 206) dX12_fewest_199 (by decide) h (fun h => ?_) (fun h => ?_)
  · refine x_iload 1 dX12_fewest_206 rfl ?_
    exact x_lo [1, 2, 3] rfl (k_X12_fewest_208 h)
  · refine x_iload_n 0 dX12_fewest_202 rfl rfl ?_
    refine x_goto (tgt := 208) dX12_fewest_203 (by decide) ?_
    exact x_lo [1, 2, 3] rfl (k_X12_fewest_208 h)
-- PressedMenModel taken (II)I
abbrev Y_X12_taken : ZM := (yX12_taken, cX12_taken, 4, (some .int), 4, 96)
theorem cw_X12_taken : z_CV Y_X12_taken 12 2 := ⟨⟨_, _, rfl⟩, by decide, q_1458, q_1459, q_1460, q_76, ⟨by decide, by decide⟩, rfl⟩
def b_X12_taken_35 (n0 : Nat) (x1 : Int32) (x2 : Int32) (S : ZH) (v : Int32) : Option ((Int32) ⊕ ((Unit) ⊕ (Int32 × ZH))) :=
  if (zI S 12 n0 9) ≤ v then (
    some (Sum.inr (Sum.inl ()))
  ) else (
    if ¬ ((x1 >>> (v &&& 31)) &&& (1 : Int32)) = (1 : Int32) then (
      some (Sum.inl ((v + 1)))
    ) else (
      (f_X12_mayGo n0 v S).bind fun q3 =>
      if ¬ q3 = 0 then (
        some (Sum.inl ((v + 1)))
      ) else (
        some (Sum.inr (Sum.inr ((-2 : Int32), S)))
      )
    )
  )
def f_X12_taken (n0 : Nat) (x1 : Int32) (x2 : Int32) (S : ZH) : Option (Int32 × ZH) :=
  (f_X12_badWeather x2 (zsI S 12 n0 0 (0 : Int32))).bind fun q1 =>
  if ¬ q1 = 0 then (
    some ((-2 : Int32), (zsI S 12 n0 0 (0 : Int32)))
  ) else (
    (f_X12_in x1.toInt64 (0 : Int64) ((((1 : Int32) <<< ((zI (zsI S 12 n0 0 (0 : Int32)) 12 n0 9) &&& 31)) - (1 : Int32)).toInt64) (zsI S 12 n0 0 (0 : Int32))).bind fun q2 =>
    if ¬ q2 = 0 then (
      (z_iter zFU (b_X12_taken_35 n0 x1 x2 (zsI S 12 n0 0 (0 : Int32))) ((0 : Int32))).bind fun t4 =>
      Sum.elim (fun t =>
        (f_X12_fewest n0 x1 x2 (zsI S 12 n0 0 (0 : Int32))).bind fun q5 =>
        some (q5, (zsI S 12 n0 0 (0 : Int32)))
      ) (fun q => some q) t4
    ) else (
      some ((-2 : Int32), (zsI S 12 n0 0 (0 : Int32)))
    )
  )
set_option maxRecDepth 20000 in
theorem l_X12_taken_35 {S0 : ZH} {F : ZP} {n0 : Nat} {x1 : Int32} {x2 : Int32} {S : ZH} {v : Int32} {t : (Unit) ⊕ (Int32 × ZH)} (h : z_iter zFU (b_X12_taken_35 n0 x1 x2 S) v = some t) (k : (Sum.elim (fun t => Wp Y_X12_taken S0 F 69 [(0, z_r 12 (some n0)), (1, z_i x1), (2, z_i x2)] [] S) (fun q => F = zF S0 (some (z_i q.1)) q.2)) t) : Wp Y_X12_taken S0 F 35 [(0, z_r 12 (some n0)), (1, z_i x1), (2, z_i x2), (3, z_i v)] [] S := by
  refine z_iter_P (P := fun v : Int32 => Wp Y_X12_taken S0 F 35 [(0, z_r 12 (some n0)), (1, z_i x1), (2, z_i x2), (3, z_i v)] [] S) (X := (Sum.elim (fun t => Wp Y_X12_taken S0 F 69 [(0, z_r 12 (some n0)), (1, z_i x1), (2, z_i x2)] [] S) (fun q => F = zF S0 (some (z_i q.1)) q.2))) ?_ _ _ _ h k
  clear h k v t
  intro v r h k
  unfold b_X12_taken_35 at h
  refine x_iload_n 3 dX12_taken_35 rfl rfl ?_
  refine x_aload_n 0 dX12_taken_36 rfl rfl ?_
  refine x_getI rfl ck_12 9 (by decide) rfl q_1058 dX12_taken_37 ?_
  refine x_ic_ge (tgt := 69) dX12_taken_40 (by decide) h (fun h => ?_) (fun h => ?_)
  · cases h
    exact x_lo [0, 1, 2] rfl k
  · refine x_iload_n 1 dX12_taken_43 rfl rfl ?_
    refine x_iload_n 3 dX12_taken_44 rfl rfl ?_
    refine x_ishr dX12_taken_45 ?_
    refine x_iconst (v := (1 : Int32)) dX12_taken_46 (by decide) ?_
    refine x_iand dX12_taken_47 ?_
    refine x_iconst (v := (1 : Int32)) dX12_taken_48 (by decide) ?_
    refine x_ic_ne (tgt := 63) dX12_taken_49 (by decide) h (fun h => ?_) (fun h => ?_)
    · refine x_iinc (v := (v + 1)) (lo' := [(3, z_i (v + 1)), (0, z_r 12 (some n0)), (1, z_i x1), (2, z_i x2)]) 3 dX12_taken_63 rfl (congrArg (HAdd.hAdd v) (by decide)) (by decide) rfl ?_
      refine x_goto (tgt := 35) dX12_taken_66 (by decide) ?_
      cases h
      exact x_lo [1, 2, 3, 0] rfl k
    · refine x_aload_n 0 dX12_taken_52 rfl rfl ?_
      refine x_iload_n 3 dX12_taken_53 rfl rfl ?_
      refine z_bnd h (fun q3 hq3 h => ?_)
      refine x_callV1 rfl (w_X12_mayGo hq3) cw_X12_mayGo q_1461 ⟨by decide, by decide⟩ (Nat.le_of_ble_eq_true rfl) dX12_taken_54 rfl ?_
      refine x_if_ne (tgt := 63) dX12_taken_57 (by decide) h (fun h => ?_) (fun h => ?_)
      · refine x_iinc (v := (v + 1)) (lo' := [(3, z_i (v + 1)), (0, z_r 12 (some n0)), (1, z_i x1), (2, z_i x2)]) 3 dX12_taken_63 rfl (congrArg (HAdd.hAdd v) (by decide)) (by decide) rfl ?_
        refine x_goto (tgt := 35) dX12_taken_66 (by decide) ?_
        cases h
        exact x_lo [1, 2, 3, 0] rfl k
      · refine x_bipush (v := (-2 : Int32)) dX12_taken_60 (by decide) ?_
        cases h
        have k : F = zF S0 (some (z_i (-2 : Int32))) S := k
        subst k
        exact x_iret0 rfl dX12_taken_62
set_option maxRecDepth 20000 in
set_option maxHeartbeats 1000000 in
theorem w_X12_taken {n0 : Nat} {x1 : Int32} {x2 : Int32} {S : ZH} {q : Int32 × ZH} (h : f_X12_taken n0 x1 x2 S = some q) : MetX Y_X12_taken S [z_r 12 (some n0), z_i x1, z_i x2] (some (z_i q.1)) q.2 := by
  refine MetX.of (lo := [(0, z_r 12 (some n0)), (1, z_i x1), (2, z_i x2)]) rfl (by decide) (Nat.le_of_ble_eq_true rfl) ?_
  unfold f_X12_taken at h
  refine x_aload_n 0 dX12_taken_0 rfl rfl ?_
  refine x_iconst (v := (0 : Int32)) dX12_taken_1 (by decide) ?_
  refine x_putI rfl ck_12 0 (by decide) rfl (Or.inl rfl) (by rfl) rfl q_1049 dX12_taken_2 ?_
  refine x_iload_n 2 dX12_taken_5 rfl rfl ?_
  refine z_bnd h (fun q1 hq1 h => ?_)
  refine x_callS1 (w_X12_badWeather hq1) cw_X12_badWeather q_1438 ⟨by decide, by decide⟩ (Nat.le_of_ble_eq_true rfl) dX12_taken_6 rfl ?_
  refine x_if_ne (tgt := 30) dX12_taken_9 (by decide) h (fun h => ?_) (fun h => ?_)
  · refine x_bipush (v := (-2 : Int32)) dX12_taken_30 (by decide) ?_
    exact x_iretE rfl dX12_taken_32 h
  · refine x_iload_n 1 dX12_taken_12 rfl rfl ?_
    refine x_i2l dX12_taken_13 ?_
    refine x_lconst (v := (0 : Int64)) dX12_taken_14 (by decide) ?_
    refine x_iconst (v := (1 : Int32)) dX12_taken_15 (by decide) ?_
    refine x_aload_n 0 dX12_taken_16 rfl rfl ?_
    refine x_getI rfl ck_12 9 (by decide) rfl q_1058 dX12_taken_17 ?_
    refine x_ishl dX12_taken_20 ?_
    refine x_iconst (v := (1 : Int32)) dX12_taken_21 (by decide) ?_
    refine x_isub dX12_taken_22 ?_
    refine x_i2l dX12_taken_23 ?_
    refine z_bnd h (fun q2 hq2 h => ?_)
    refine x_callS1 (w_X12_in hq2) cw_X12_in q_1172 ⟨by decide, by decide⟩ (Nat.le_of_ble_eq_true rfl) dX12_taken_24 rfl ?_
    refine x_if_ne (tgt := 33) dX12_taken_27 (by decide) h (fun h => ?_) (fun h => ?_)
    · refine x_iconst (v := (0 : Int32)) dX12_taken_33 (by decide) ?_
      refine x_istore_n (lo' := [(3, z_i (0 : Int32)), (0, z_r 12 (some n0)), (1, z_i x1), (2, z_i x2)]) dX12_taken_34 rfl (by decide) rfl ?_
      refine z_bnd h (fun t4 ht4 h => ?_)
      refine x_lo [1, 2, 3, 0] rfl ?_
      refine l_X12_taken_35 ht4 ?_
      rcases t4 with t | q
      · have h := (show _ = some _ from h)
        simp only [Sum.elim_inl] at h ⊢
        refine x_aload_n 0 dX12_taken_69 rfl rfl ?_
        refine x_iload_n 1 dX12_taken_70 rfl rfl ?_
        refine x_iload_n 2 dX12_taken_71 rfl rfl ?_
        refine z_bnd h (fun q5 hq5 h => ?_)
        refine x_callV1 rfl (w_X12_fewest hq5) cw_X12_fewest q_1465 ⟨by decide, by decide⟩ (Nat.le_of_ble_eq_true rfl) dX12_taken_72 rfl ?_
        exact x_iretE rfl dX12_taken_75 h
      · simp only [Sum.elim_inr] at h ⊢
        cases h
        rfl
    · refine x_bipush (v := (-2 : Int32)) dX12_taken_30 (by decide) ?_
      exact x_iretE rfl dX12_taken_32 h
-- PressedMenModel fleet (I)I
abbrev Y_X12_fleet : ZM := (yX12_fleet, cX12_fleet, 9, (some .int), 4, 96)
theorem cw_X12_fleet : z_CV Y_X12_fleet 12 1 := ⟨⟨_, _, rfl⟩, by decide, q_1470, q_1471, q_1472, q_76, ⟨by decide, by decide⟩, rfl⟩
def b_X12_fleet_19 (n0 : Nat) (x1 : Int32) (S : ZH) (v : Int32 × Int32) : Option ((Int32 × Int32) ⊕ (Int32)) :=
  if (zI S 12 n0 9) ≤ v.2 then (
    some (Sum.inr v.1)
  ) else (
    (f_X12_mayGo n0 v.2 S).bind fun q2 =>
    if q2 = 0 then (
      some (Sum.inl ((v.1 ||| (0 : Int32)), (v.2 + 1)))
    ) else (
      some (Sum.inl ((v.1 ||| ((1 : Int32) <<< (v.2 &&& 31))), (v.2 + 1)))
    )
  )
def b_X12_fleet_79 (n0 : Nat) (x1 : Int32) (x2 : Int32) (x3 : Int32) (x4 : Int32) (x5 : Int32) (x6 : Int32) (S : ZH) (v : Int32 × Int32) : Option ((Int32 × Int32) ⊕ (Int32)) :=
  if (zI S 12 n0 9) ≤ v.2 then (
    some (Sum.inr v.1)
  ) else (
    some (Sum.inl ((v.1 + ((x6 >>> (v.2 &&& 31)) &&& (1 : Int32))), (v.2 + 1)))
  )
def j_X12_fleet_157 (n0 : Nat) (x1 : Int32) (x2 : Int32) (x6 : Int32) (x7 : Int32) (x8 : Int32)  (S : ZH) : Option ((Int32 × Int32 × Int32 × Int32) ⊕ (Int32)) :=
  some (Sum.inl (x6, x7, x8, (x6 + 1)))
def j_X12_fleet_134 (n0 : Nat) (x1 : Int32) (x2 : Int32) (x3 : Int32) (x4 : Int32) (x5 : Int32) (x6 : Int32) (x7 : Int32) (s0 : Int32) (S : ZH) : Option ((Int32 × Int32 × Int32 × Int32) ⊕ (Int32)) :=
  if s0 = (-9 : Int32) then (
    some (Sum.inl (x3, x4, x5, (x6 + 1)))
  ) else (
    if x4 < x7 then (
      j_X12_fleet_157 n0 x1 x2 x6 x7 s0 S
    ) else (
      if x5 ≤ s0 then (
        some (Sum.inl (x3, x4, x5, (x6 + 1)))
      ) else (
        j_X12_fleet_157 n0 x1 x2 x6 x7 s0 S
      )
    )
  )
def j_X12_fleet_132 (n0 : Nat) (x1 : Int32) (x2 : Int32) (x3 : Int32) (x4 : Int32) (x5 : Int32) (x6 : Int32) (x7 : Int32)  (S : ZH) : Option ((Int32 × Int32 × Int32 × Int32) ⊕ (Int32)) :=
  j_X12_fleet_134 n0 x1 x2 x3 x4 x5 x6 x7 (-9 : Int32) S
def b_X12_fleet_62 (n0 : Nat) (x1 : Int32) (x2 : Int32) (S : ZH) (v : Int32 × Int32 × Int32 × Int32) : Option ((Int32 × Int32 × Int32 × Int32) ⊕ (Int32)) :=
  if ((1 : Int32) <<< ((zI S 12 n0 9) &&& 31)) ≤ v.2.2.2 then (
    some (Sum.inr v.1)
  ) else (
    (z_iter zFU (b_X12_fleet_79 n0 x1 x2 v.1 v.2.1 v.2.2.1 v.2.2.2 S) ((0 : Int32), (0 : Int32))).bind fun t4 =>
    if ¬ (v.2.2.2 &&& (x2 ^^^ (-1 : Int32))) = 0 then (
      j_X12_fleet_132 n0 x1 x2 v.1 v.2.1 v.2.2.1 v.2.2.2 t4 S
    ) else (
      if t4 < v.2.1 then (
        j_X12_fleet_132 n0 x1 x2 v.1 v.2.1 v.2.2.1 v.2.2.2 t4 S
      ) else (
        (f_X12_fewest n0 v.2.2.2 x1 S).bind fun q5 =>
        j_X12_fleet_134 n0 x1 x2 v.1 v.2.1 v.2.2.1 v.2.2.2 t4 q5 S
      )
    )
  )
def f_X12_fleet (n0 : Nat) (x1 : Int32) (S : ZH) : Option (Int32 × ZH) :=
  (f_X12_badWeather x1 (zsI S 12 n0 0 (0 : Int32))).bind fun q1 =>
  if q1 = 0 then (
    (z_iter zFU (b_X12_fleet_19 n0 x1 (zsI S 12 n0 0 (0 : Int32))) ((0 : Int32), (0 : Int32))).bind fun t3 =>
    (z_iter zFU (b_X12_fleet_62 n0 x1 t3 (zsI S 12 n0 0 (0 : Int32))) ((0 : Int32), (0 : Int32), (0 : Int32), (1 : Int32))).bind fun t6 =>
    some (t6, (zsI S 12 n0 0 (0 : Int32)))
  ) else (
    some ((-2 : Int32), (zsI S 12 n0 0 (0 : Int32)))
  )
set_option maxRecDepth 20000 in
theorem l_X12_fleet_19 {S0 : ZH} {F : ZP} {n0 : Nat} {x1 : Int32} {S : ZH} {v : Int32 × Int32} {t : Int32} (h : z_iter zFU (b_X12_fleet_19 n0 x1 S) v = some t) (k : (fun t => Wp Y_X12_fleet S0 F 51 [(0, z_r 12 (some n0)), (1, z_i x1), (2, z_i t)] [] S) t) : Wp Y_X12_fleet S0 F 19 [(0, z_r 12 (some n0)), (1, z_i x1), (2, z_i v.1), (3, z_i v.2)] [] S := by
  refine z_iter_P (P := fun v : Int32 × Int32 => Wp Y_X12_fleet S0 F 19 [(0, z_r 12 (some n0)), (1, z_i x1), (2, z_i v.1), (3, z_i v.2)] [] S) (X := (fun t => Wp Y_X12_fleet S0 F 51 [(0, z_r 12 (some n0)), (1, z_i x1), (2, z_i t)] [] S)) ?_ _ _ _ h k
  clear h k v t
  intro v r h k
  unfold b_X12_fleet_19 at h
  refine x_iload_n 3 dX12_fleet_19 rfl rfl ?_
  refine x_aload_n 0 dX12_fleet_20 rfl rfl ?_
  refine x_getI rfl ck_12 9 (by decide) rfl q_1058 dX12_fleet_21 ?_
  refine x_ic_ge (tgt := 51) dX12_fleet_24 (by decide) h (fun h => ?_) (fun h => ?_)
  · cases h
    exact x_lo [0, 1, 2] rfl k
  · refine x_iload_n 2 dX12_fleet_27 rfl rfl ?_
    refine x_aload_n 0 dX12_fleet_28 rfl rfl ?_
    refine x_iload_n 3 dX12_fleet_29 rfl rfl ?_
    refine z_bnd h (fun q2 hq2 h => ?_)
    refine x_callV1 rfl (w_X12_mayGo hq2) cw_X12_mayGo q_1461 ⟨by decide, by decide⟩ (Nat.le_of_ble_eq_true rfl) dX12_fleet_30 rfl ?_
    refine x_if_eq (tgt := 42) dX12_fleet_33 (by decide) h (fun h => ?_) (fun h => ?_)
    · refine x_iconst (v := (0 : Int32)) dX12_fleet_42 (by decide) ?_
      refine x_ior dX12_fleet_43 ?_
      refine x_istore_n (lo' := [(2, z_i (v.1 ||| (0 : Int32))), (0, z_r 12 (some n0)), (1, z_i x1), (3, z_i v.2)]) dX12_fleet_44 rfl (by decide) rfl ?_
      refine x_iinc (v := (v.2 + 1)) (lo' := [(3, z_i (v.2 + 1)), (2, z_i (v.1 ||| (0 : Int32))), (0, z_r 12 (some n0)), (1, z_i x1)]) 3 dX12_fleet_45 rfl (congrArg (HAdd.hAdd v.2) (by decide)) (by decide) rfl ?_
      refine x_goto (tgt := 19) dX12_fleet_48 (by decide) ?_
      cases h
      exact x_lo [2, 3, 1, 0] rfl k
    · refine x_iconst (v := (1 : Int32)) dX12_fleet_36 (by decide) ?_
      refine x_iload_n 3 dX12_fleet_37 rfl rfl ?_
      refine x_ishl dX12_fleet_38 ?_
      refine x_goto (tgt := 43) dX12_fleet_39 (by decide) ?_
      refine x_ior dX12_fleet_43 ?_
      refine x_istore_n (lo' := [(2, z_i (v.1 ||| ((1 : Int32) <<< (v.2 &&& 31)))), (0, z_r 12 (some n0)), (1, z_i x1), (3, z_i v.2)]) dX12_fleet_44 rfl (by decide) rfl ?_
      refine x_iinc (v := (v.2 + 1)) (lo' := [(3, z_i (v.2 + 1)), (2, z_i (v.1 ||| ((1 : Int32) <<< (v.2 &&& 31)))), (0, z_r 12 (some n0)), (1, z_i x1)]) 3 dX12_fleet_45 rfl (congrArg (HAdd.hAdd v.2) (by decide)) (by decide) rfl ?_
      refine x_goto (tgt := 19) dX12_fleet_48 (by decide) ?_
      cases h
      exact x_lo [2, 3, 1, 0] rfl k
set_option maxRecDepth 20000 in
theorem l_X12_fleet_79 {S0 : ZH} {F : ZP} {n0 : Nat} {x1 : Int32} {x2 : Int32} {x3 : Int32} {x4 : Int32} {x5 : Int32} {x6 : Int32} {S : ZH} {v : Int32 × Int32} {t : Int32} (h : z_iter zFU (b_X12_fleet_79 n0 x1 x2 x3 x4 x5 x6 S) v = some t) (k : (fun t => Wp Y_X12_fleet S0 F 106 [(0, z_r 12 (some n0)), (1, z_i x1), (2, z_i x2), (3, z_i x3), (4, z_i x4), (5, z_i x5), (6, z_i x6), (7, z_i t)] [] S) t) : Wp Y_X12_fleet S0 F 79 [(0, z_r 12 (some n0)), (1, z_i x1), (2, z_i x2), (3, z_i x3), (4, z_i x4), (5, z_i x5), (6, z_i x6), (7, z_i v.1), (8, z_i v.2)] [] S := by
  refine z_iter_P (P := fun v : Int32 × Int32 => Wp Y_X12_fleet S0 F 79 [(0, z_r 12 (some n0)), (1, z_i x1), (2, z_i x2), (3, z_i x3), (4, z_i x4), (5, z_i x5), (6, z_i x6), (7, z_i v.1), (8, z_i v.2)] [] S) (X := (fun t => Wp Y_X12_fleet S0 F 106 [(0, z_r 12 (some n0)), (1, z_i x1), (2, z_i x2), (3, z_i x3), (4, z_i x4), (5, z_i x5), (6, z_i x6), (7, z_i t)] [] S)) ?_ _ _ _ h k
  clear h k v t
  intro v r h k
  unfold b_X12_fleet_79 at h
  refine x_iload 8 dX12_fleet_79 rfl ?_
  refine x_aload_n 0 dX12_fleet_81 rfl rfl ?_
  refine x_getI rfl ck_12 9 (by decide) rfl q_1058 dX12_fleet_82 ?_
  refine x_ic_ge (tgt := 106) dX12_fleet_85 (by decide) h (fun h => ?_) (fun h => ?_)
  · cases h
    exact x_lo [0, 1, 2, 3, 4, 5, 6, 7] rfl k
  · refine x_iload 7 dX12_fleet_88 rfl ?_
    refine x_iload 6 dX12_fleet_90 rfl ?_
    refine x_iload 8 dX12_fleet_92 rfl ?_
    refine x_ishr dX12_fleet_94 ?_
    refine x_iconst (v := (1 : Int32)) dX12_fleet_95 (by decide) ?_
    refine x_iand dX12_fleet_96 ?_
    refine x_iadd dX12_fleet_97 ?_
    refine x_istore (lo' := [(7, z_i (v.1 + ((x6 >>> (v.2 &&& 31)) &&& (1 : Int32)))), (0, z_r 12 (some n0)), (1, z_i x1), (2, z_i x2), (3, z_i x3), (4, z_i x4), (5, z_i x5), (6, z_i x6), (8, z_i v.2)]) dX12_fleet_98 (by decide) rfl ?_
    refine x_iinc (v := (v.2 + 1)) (lo' := [(8, z_i (v.2 + 1)), (7, z_i (v.1 + ((x6 >>> (v.2 &&& 31)) &&& (1 : Int32)))), (0, z_r 12 (some n0)), (1, z_i x1), (2, z_i x2), (3, z_i x3), (4, z_i x4), (5, z_i x5), (6, z_i x6)]) 8 dX12_fleet_100 rfl (congrArg (HAdd.hAdd v.2) (by decide)) (by decide) rfl ?_
    refine x_goto (tgt := 79) dX12_fleet_103 (by decide) ?_
    cases h
    exact x_lo [2, 3, 4, 5, 6, 7, 8, 1, 0] rfl k
set_option maxRecDepth 20000 in
theorem k_X12_fleet_157 {S0 : ZH} {F : ZP} {n0 : Nat} {x1 : Int32} {x2 : Int32} {x6 : Int32} {x7 : Int32} {x8 : Int32}   {S : ZH} {z : (Int32 × Int32 × Int32 × Int32) ⊕ (Int32)} (h : j_X12_fleet_157 n0 x1 x2 x6 x7 x8 S = some z) (k : Sum.elim (fun v : Int32 × Int32 × Int32 × Int32 => Wp Y_X12_fleet S0 F 62 [(0, z_r 12 (some n0)), (1, z_i x1), (2, z_i x2), (3, z_i v.1), (4, z_i v.2.1), (5, z_i v.2.2.1), (6, z_i v.2.2.2)] [] S) (fun t => Wp Y_X12_fleet S0 F 174 [(3, z_i t)] [] S) z) : Wp Y_X12_fleet S0 (F) 157 [(0, z_r 12 (some n0)), (1, z_i x1), (2, z_i x2), (6, z_i x6), (7, z_i x7), (8, z_i x8)] [] S := by
  unfold j_X12_fleet_157 at h
  refine x_iload 3 dX12_fleet_157 rfl ?_
  refine x_istore_n (lo' := [(3, z_i x6), (0, z_r 12 (some n0)), (1, z_i x1), (2, z_i x2), (6, z_i x6), (7, z_i x7), (8, z_i x8)]) dX12_fleet_159 rfl (by decide) rfl ?_
  refine x_iload 5 dX12_fleet_160 rfl ?_
  refine x_istore (lo' := [(4, z_i x7), (3, z_i x6), (0, z_r 12 (some n0)), (1, z_i x1), (2, z_i x2), (6, z_i x6), (7, z_i x7), (8, z_i x8)]) dX12_fleet_162 (by decide) rfl ?_
  refine x_iload 7 dX12_fleet_164 rfl ?_
  refine x_istore (lo' := [(5, z_i x8), (4, z_i x7), (3, z_i x6), (0, z_r 12 (some n0)), (1, z_i x1), (2, z_i x2), (6, z_i x6), (7, z_i x7), (8, z_i x8)]) dX12_fleet_166 (by decide) rfl ?_
  refine x_iinc (v := (x6 + 1)) (lo' := [(6, z_i (x6 + 1)), (5, z_i x8), (4, z_i x7), (3, z_i x6), (0, z_r 12 (some n0)), (1, z_i x1), (2, z_i x2), (7, z_i x7), (8, z_i x8)]) 6 dX12_fleet_168 rfl (congrArg (HAdd.hAdd x6) (by decide)) (by decide) rfl ?_
  refine x_goto (tgt := 62) dX12_fleet_171 (by decide) ?_
  cases h
  exact x_lo [4, 5, 6, 3, 2, 1, 0] rfl k
set_option maxRecDepth 20000 in
theorem k_X12_fleet_134 {S0 : ZH} {F : ZP} {n0 : Nat} {x1 : Int32} {x2 : Int32} {x3 : Int32} {x4 : Int32} {x5 : Int32} {x6 : Int32} {x7 : Int32} {s0 : Int32}  {S : ZH} {z : (Int32 × Int32 × Int32 × Int32) ⊕ (Int32)} (h : j_X12_fleet_134 n0 x1 x2 x3 x4 x5 x6 x7 s0 S = some z) (k : Sum.elim (fun v : Int32 × Int32 × Int32 × Int32 => Wp Y_X12_fleet S0 F 62 [(0, z_r 12 (some n0)), (1, z_i x1), (2, z_i x2), (3, z_i v.1), (4, z_i v.2.1), (5, z_i v.2.2.1), (6, z_i v.2.2.2)] [] S) (fun t => Wp Y_X12_fleet S0 F 174 [(3, z_i t)] [] S) z) : Wp Y_X12_fleet S0 (F) 134 [(0, z_r 12 (some n0)), (1, z_i x1), (2, z_i x2), (3, z_i x3), (4, z_i x4), (5, z_i x5), (6, z_i x6), (7, z_i x7)] [z_i s0] S := by
  unfold j_X12_fleet_134 at h
  refine x_istore (lo' := [(8, z_i s0), (0, z_r 12 (some n0)), (1, z_i x1), (2, z_i x2), (3, z_i x3), (4, z_i x4), (5, z_i x5), (6, z_i x6), (7, z_i x7)]) dX12_fleet_134 (by decide) rfl ?_
  refine x_iload 0 dX12_fleet_136 rfl ?_
  refine x_bipush (v := (-9 : Int32)) dX12_fleet_138 (by decide) ?_
  refine x_ic_eq (tgt := 168) dX12_fleet_140 (by decide) h (fun h => ?_) (fun h => ?_)
  · refine x_iinc (v := (x6 + 1)) (lo' := [(6, z_i (x6 + 1)), (8, z_i s0), (0, z_r 12 (some n0)), (1, z_i x1), (2, z_i x2), (3, z_i x3), (4, z_i x4), (5, z_i x5), (7, z_i x7)]) 7 dX12_fleet_168 rfl (congrArg (HAdd.hAdd x6) (by decide)) (by decide) rfl ?_
    refine x_goto (tgt := 62) dX12_fleet_171 (by decide) ?_
    cases h
    exact x_lo [2, 3, 4, 5, 6, 7, 0] rfl k
  · refine x_iload 8 dX12_fleet_143 rfl ?_
    refine x_iload 5 dX12_fleet_145 rfl ?_
    refine x_ic_gt (tgt := 157) dX12_fleet_147 (by decide) h (fun h => ?_) (fun h => ?_)
    · exact x_lo [1, 2, 3, 7, 8, 0] rfl (k_X12_fleet_157 h k)
    · refine x_iload 0 dX12_fleet_150 rfl ?_
      refine x_iload 6 dX12_fleet_152 rfl ?_
      refine x_ic_ge (tgt := 168) dX12_fleet_154 (by decide) h (fun h => ?_) (fun h => ?_)
      · refine x_iinc (v := (x6 + 1)) (lo' := [(6, z_i (x6 + 1)), (8, z_i s0), (0, z_r 12 (some n0)), (1, z_i x1), (2, z_i x2), (3, z_i x3), (4, z_i x4), (5, z_i x5), (7, z_i x7)]) 7 dX12_fleet_168 rfl (congrArg (HAdd.hAdd x6) (by decide)) (by decide) rfl ?_
        refine x_goto (tgt := 62) dX12_fleet_171 (by decide) ?_
        cases h
        exact x_lo [2, 3, 4, 5, 6, 7, 0] rfl k
      · exact x_lo [1, 2, 3, 7, 8, 0] rfl (k_X12_fleet_157 h k)
set_option maxRecDepth 20000 in
theorem k_X12_fleet_132 {S0 : ZH} {F : ZP} {n0 : Nat} {x1 : Int32} {x2 : Int32} {x3 : Int32} {x4 : Int32} {x5 : Int32} {x6 : Int32} {x7 : Int32}   {S : ZH} {z : (Int32 × Int32 × Int32 × Int32) ⊕ (Int32)} (h : j_X12_fleet_132 n0 x1 x2 x3 x4 x5 x6 x7 S = some z) (k : Sum.elim (fun v : Int32 × Int32 × Int32 × Int32 => Wp Y_X12_fleet S0 F 62 [(0, z_r 12 (some n0)), (1, z_i x1), (2, z_i x2), (3, z_i v.1), (4, z_i v.2.1), (5, z_i v.2.2.1), (6, z_i v.2.2.2)] [] S) (fun t => Wp Y_X12_fleet S0 F 174 [(3, z_i t)] [] S) z) : Wp Y_X12_fleet S0 (F) 132 [(0, z_r 12 (some n0)), (1, z_i x1), (2, z_i x2), (3, z_i x3), (4, z_i x4), (5, z_i x5), (6, z_i x6), (7, z_i x7)] [] S := by
  unfold j_X12_fleet_132 at h
  refine x_bipush (v := (-9 : Int32)) dX12_fleet_132 (by decide) ?_
  exact x_lo [0, 1, 2, 3, 4, 5, 6, 7] rfl (k_X12_fleet_134 h k)
set_option maxRecDepth 20000 in
theorem l_X12_fleet_62 {S0 : ZH} {F : ZP} {n0 : Nat} {x1 : Int32} {x2 : Int32} {S : ZH} {v : Int32 × Int32 × Int32 × Int32} {t : Int32} (h : z_iter zFU (b_X12_fleet_62 n0 x1 x2 S) v = some t) (k : (fun t => Wp Y_X12_fleet S0 F 174 [(3, z_i t)] [] S) t) : Wp Y_X12_fleet S0 F 62 [(0, z_r 12 (some n0)), (1, z_i x1), (2, z_i x2), (3, z_i v.1), (4, z_i v.2.1), (5, z_i v.2.2.1), (6, z_i v.2.2.2)] [] S := by
  refine z_iter_P (P := fun v : Int32 × Int32 × Int32 × Int32 => Wp Y_X12_fleet S0 F 62 [(0, z_r 12 (some n0)), (1, z_i x1), (2, z_i x2), (3, z_i v.1), (4, z_i v.2.1), (5, z_i v.2.2.1), (6, z_i v.2.2.2)] [] S) (X := (fun t => Wp Y_X12_fleet S0 F 174 [(3, z_i t)] [] S)) ?_ _ _ _ h k
  clear h k v t
  intro v r h k
  unfold b_X12_fleet_62 at h
  refine x_iload 6 dX12_fleet_62 rfl ?_
  refine x_iconst (v := (1 : Int32)) dX12_fleet_64 (by decide) ?_
  refine x_aload_n 0 dX12_fleet_65 rfl rfl ?_
  refine x_getI rfl ck_12 9 (by decide) rfl q_1058 dX12_fleet_66 ?_
  refine x_ishl dX12_fleet_69 ?_
  refine x_ic_ge (tgt := 174) dX12_fleet_70 (by decide) h (fun h => ?_) (fun h => ?_)
  · cases h
    exact x_lo [3] rfl k
  · refine x_iconst (v := (0 : Int32)) dX12_fleet_73 (by decide) ?_
    refine x_istore (lo' := [(7, z_i (0 : Int32)), (0, z_r 12 (some n0)), (1, z_i x1), (2, z_i x2), (3, z_i v.1), (4, z_i v.2.1), (5, z_i v.2.2.1), (6, z_i v.2.2.2)]) dX12_fleet_74 (by decide) rfl ?_
    refine x_iconst (v := (0 : Int32)) dX12_fleet_76 (by decide) ?_
    refine x_istore (lo' := [(8, z_i (0 : Int32)), (7, z_i (0 : Int32)), (0, z_r 12 (some n0)), (1, z_i x1), (2, z_i x2), (3, z_i v.1), (4, z_i v.2.1), (5, z_i v.2.2.1), (6, z_i v.2.2.2)]) dX12_fleet_77 (by decide) rfl ?_
    refine z_bnd h (fun t4 ht4 h => ?_)
    refine x_lo [2, 3, 4, 5, 6, 7, 8, 1, 0] rfl ?_
    refine l_X12_fleet_79 ht4 ?_
    refine x_iload 6 dX12_fleet_106 rfl ?_
    refine x_iload_n 2 dX12_fleet_108 rfl rfl ?_
    refine x_iconst (v := (-1 : Int32)) dX12_fleet_109 (by decide) ?_
    refine x_ixor dX12_fleet_110 ?_
    refine x_iand dX12_fleet_111 ?_
    refine x_if_ne (tgt := 132) dX12_fleet_112 (by decide) h (fun h => ?_) (fun h => ?_)
    · exact x_lo [0, 1, 2, 3, 4, 5, 6, 7] rfl (k_X12_fleet_132 h k)
    · refine x_iload 7 dX12_fleet_115 rfl ?_
      refine x_iload 4 dX12_fleet_117 rfl ?_
      refine x_ic_lt (tgt := 132) dX12_fleet_119 (by decide) h (fun h => ?_) (fun h => ?_)
      · exact x_lo [0, 1, 2, 3, 4, 5, 6, 7] rfl (k_X12_fleet_132 h k)
      · refine x_aload_n 0 dX12_fleet_122 rfl rfl ?_
        refine x_iload 6 dX12_fleet_123 rfl ?_
        refine x_iload_n 1 dX12_fleet_125 rfl rfl ?_
        refine z_bnd h (fun q5 hq5 h => ?_)
        refine x_callV1 rfl (w_X12_fewest hq5) cw_X12_fewest q_1465 ⟨by decide, by decide⟩ (Nat.le_of_ble_eq_true rfl) dX12_fleet_126 rfl ?_
        refine x_goto (tgt := 134) dX12_fleet_129 (by decide) ?_
        exact x_lo [0, 1, 2, 3, 4, 5, 6, 7] rfl (k_X12_fleet_134 h k)
set_option maxRecDepth 20000 in
set_option maxHeartbeats 1000000 in
theorem w_X12_fleet {n0 : Nat} {x1 : Int32} {S : ZH} {q : Int32 × ZH} (h : f_X12_fleet n0 x1 S = some q) : MetX Y_X12_fleet S [z_r 12 (some n0), z_i x1] (some (z_i q.1)) q.2 := by
  refine MetX.of (lo := [(0, z_r 12 (some n0)), (1, z_i x1)]) rfl (by decide) (Nat.le_of_ble_eq_true rfl) ?_
  unfold f_X12_fleet at h
  refine x_aload_n 0 dX12_fleet_0 rfl rfl ?_
  refine x_iconst (v := (0 : Int32)) dX12_fleet_1 (by decide) ?_
  refine x_putI rfl ck_12 0 (by decide) rfl (Or.inl rfl) (by rfl) rfl q_1049 dX12_fleet_2 ?_
  refine x_iload_n 1 dX12_fleet_5 rfl rfl ?_
  refine z_bnd h (fun q1 hq1 h => ?_)
  refine x_callS1 (w_X12_badWeather hq1) cw_X12_badWeather q_1438 ⟨by decide, by decide⟩ (Nat.le_of_ble_eq_true rfl) dX12_fleet_6 rfl ?_
  refine x_if_eq (tgt := 15) dX12_fleet_9 (by decide) h (fun h => ?_) (fun h => ?_)
  · refine x_iconst (v := (0 : Int32)) dX12_fleet_15 (by decide) ?_
    refine x_istore_n (lo' := [(2, z_i (0 : Int32)), (0, z_r 12 (some n0)), (1, z_i x1)]) dX12_fleet_16 rfl (by decide) rfl ?_
    refine x_iconst (v := (0 : Int32)) dX12_fleet_17 (by decide) ?_
    refine x_istore_n (lo' := [(3, z_i (0 : Int32)), (2, z_i (0 : Int32)), (0, z_r 12 (some n0)), (1, z_i x1)]) dX12_fleet_18 rfl (by decide) rfl ?_
    refine z_bnd h (fun t3 ht3 h => ?_)
    refine x_lo [2, 3, 1, 0] rfl ?_
    refine l_X12_fleet_19 ht3 ?_
    refine x_iconst (v := (0 : Int32)) dX12_fleet_51 (by decide) ?_
    refine x_istore_n (lo' := [(3, z_i (0 : Int32)), (0, z_r 12 (some n0)), (1, z_i x1), (2, z_i t3)]) dX12_fleet_52 rfl (by decide) rfl ?_
    refine x_iconst (v := (0 : Int32)) dX12_fleet_53 (by decide) ?_
    refine x_istore (lo' := [(4, z_i (0 : Int32)), (3, z_i (0 : Int32)), (0, z_r 12 (some n0)), (1, z_i x1), (2, z_i t3)]) dX12_fleet_54 (by decide) rfl ?_
    refine x_iconst (v := (0 : Int32)) dX12_fleet_56 (by decide) ?_
    refine x_istore (lo' := [(5, z_i (0 : Int32)), (4, z_i (0 : Int32)), (3, z_i (0 : Int32)), (0, z_r 12 (some n0)), (1, z_i x1), (2, z_i t3)]) dX12_fleet_57 (by decide) rfl ?_
    refine x_iconst (v := (1 : Int32)) dX12_fleet_59 (by decide) ?_
    refine x_istore (lo' := [(6, z_i (1 : Int32)), (5, z_i (0 : Int32)), (4, z_i (0 : Int32)), (3, z_i (0 : Int32)), (0, z_r 12 (some n0)), (1, z_i x1), (2, z_i t3)]) dX12_fleet_60 (by decide) rfl ?_
    refine z_bnd h (fun t6 ht6 h => ?_)
    refine x_lo [4, 5, 6, 3, 2, 1, 0] rfl ?_
    refine l_X12_fleet_62 ht6 ?_
    refine x_iload_n 0 dX12_fleet_174 rfl rfl ?_
    exact x_iretE rfl dX12_fleet_175 h
  · refine x_bipush (v := (-2 : Int32)) dX12_fleet_12 (by decide) ?_
    exact x_iretE rfl dX12_fleet_14 h
-- PressedMenModel sail (I)I
abbrev Y_X12_sail : ZM := (yX12_sail, cX12_sail, 2, (some .int), 2, 46)
theorem cw_X12_sail : z_CV Y_X12_sail 12 1 := ⟨⟨_, _, rfl⟩, by decide, q_1474, q_1475, q_1476, q_76, ⟨by decide, by decide⟩, rfl⟩
def f_X12_sail (n0 : Nat) (x1 : Int32) (S : ZH) : Option (Int32 × ZH) :=
  (f_X12_noShip n0 x1 (zsI S 12 n0 0 (0 : Int32))).bind fun q1 =>
  if q1 = 0 then (
    ((zR (zsI S 12 n0 0 (0 : Int32)) 12 n0 14)).bind fun a2 =>
    (zld (zsI S 12 n0 0 (0 : Int32)) 38 a2 x1).bind fun v3 =>
    if ¬ v3 = 0 then (
      some ((-3 : Int32), (zsI S 12 n0 0 (0 : Int32)))
    ) else (
      (f_X12_many n0 ((10 : Int32) + x1) (zsI S 12 n0 0 (0 : Int32))).bind fun q4 =>
      ((zR (zsI S 12 n0 0 (0 : Int32)) 12 n0 11)).bind fun a5 =>
      (zld (zsI S 12 n0 0 (0 : Int32)) 35 a5 x1).bind fun v6 =>
      if q4 < v6 then (
        some ((-3 : Int32), (zsI S 12 n0 0 (0 : Int32)))
      ) else (
        (f_X12_skilled n0 ((10 : Int32) + x1) (zsI S 12 n0 0 (0 : Int32))).bind fun q7 =>
        ((zR (zsI S 12 n0 0 (0 : Int32)) 12 n0 12)).bind fun a8 =>
        (zld (zsI S 12 n0 0 (0 : Int32)) 36 a8 x1).bind fun v9 =>
        if v9 ≤ q7 then (
          ((zR (zsI S 12 n0 0 (0 : Int32)) 12 n0 14)).bind fun a10 =>
          (zst (zsI S 12 n0 0 (0 : Int32)) 38 a10 x1 (z_b (1 : Int32))).bind fun S11 =>
          (f_X12_many n0 ((10 : Int32) + x1) S11).bind fun q12 =>
          some (q12, S11)
        ) else (
          some ((-3 : Int32), (zsI S 12 n0 0 (0 : Int32)))
        )
      )
    )
  ) else (
    some ((-1 : Int32), (zsI S 12 n0 0 (0 : Int32)))
  )
set_option maxRecDepth 20000 in
set_option maxHeartbeats 1000000 in
theorem w_X12_sail {n0 : Nat} {x1 : Int32} {S : ZH} {q : Int32 × ZH} (h : f_X12_sail n0 x1 S = some q) : MetX Y_X12_sail S [z_r 12 (some n0), z_i x1] (some (z_i q.1)) q.2 := by
  refine MetX.of (lo := [(0, z_r 12 (some n0)), (1, z_i x1)]) rfl (by decide) (Nat.le_of_ble_eq_true rfl) ?_
  unfold f_X12_sail at h
  refine x_aload_n 0 dX12_sail_0 rfl rfl ?_
  refine x_iconst (v := (0 : Int32)) dX12_sail_1 (by decide) ?_
  refine x_putI rfl ck_12 0 (by decide) rfl (Or.inl rfl) (by rfl) rfl q_1049 dX12_sail_2 ?_
  refine x_aload_n 0 dX12_sail_5 rfl rfl ?_
  refine x_iload_n 1 dX12_sail_6 rfl rfl ?_
  refine z_bnd h (fun q1 hq1 h => ?_)
  refine x_callV1 rfl (w_X12_noShip hq1) cw_X12_noShip q_1426 ⟨by decide, by decide⟩ (Nat.le_of_ble_eq_true rfl) dX12_sail_7 rfl ?_
  refine x_if_eq (tgt := 15) dX12_sail_10 (by decide) h (fun h => ?_) (fun h => ?_)
  · refine x_aload_n 0 dX12_sail_15 rfl rfl ?_
    refine x_getR rfl ck_12 14 (by decide) rfl q_1063 dX12_sail_16 ?_
    refine x_iload_n 1 dX12_sail_19 rfl rfl ?_
    refine z_bnd h (fun a2 ha2 h => ?_)
    refine x_zaload ha2 ak_38 dX12_sail_20 h (fun v3 hv3 h => ?_)
    refine x_if_ne (tgt := 58) dX12_sail_21 (by decide) h (fun h => ?_) (fun h => ?_)
    · refine x_bipush (v := (-3 : Int32)) dX12_sail_58 (by decide) ?_
      exact x_iretE rfl dX12_sail_60 h
    · refine x_aload_n 0 dX12_sail_24 rfl rfl ?_
      refine x_bipush (v := (10 : Int32)) dX12_sail_25 (by decide) ?_
      refine x_iload_n 1 dX12_sail_27 rfl rfl ?_
      refine x_iadd dX12_sail_28 ?_
      refine z_bnd h (fun q4 hq4 h => ?_)
      refine x_callV1 rfl (w_X12_many hq4) cw_X12_many q_1225 ⟨by decide, by decide⟩ (Nat.le_of_ble_eq_true rfl) dX12_sail_29 rfl ?_
      refine x_aload_n 0 dX12_sail_32 rfl rfl ?_
      refine x_getR rfl ck_12 11 (by decide) rfl q_1060 dX12_sail_33 ?_
      refine x_iload_n 1 dX12_sail_36 rfl rfl ?_
      refine z_bnd h (fun a5 ha5 h => ?_)
      refine x_iaload ha5 ak_35 dX12_sail_37 h (fun v6 hv6 h => ?_)
      refine x_ic_lt (tgt := 58) dX12_sail_38 (by decide) h (fun h => ?_) (fun h => ?_)
      · refine x_bipush (v := (-3 : Int32)) dX12_sail_58 (by decide) ?_
        exact x_iretE rfl dX12_sail_60 h
      · refine x_aload_n 0 dX12_sail_41 rfl rfl ?_
        refine x_bipush (v := (10 : Int32)) dX12_sail_42 (by decide) ?_
        refine x_iload_n 1 dX12_sail_44 rfl rfl ?_
        refine x_iadd dX12_sail_45 ?_
        refine z_bnd h (fun q7 hq7 h => ?_)
        refine x_callV1 rfl (w_X12_skilled hq7) cw_X12_skilled q_1430 ⟨by decide, by decide⟩ (Nat.le_of_ble_eq_true rfl) dX12_sail_46 rfl ?_
        refine x_aload_n 0 dX12_sail_49 rfl rfl ?_
        refine x_getR rfl ck_12 12 (by decide) rfl q_1061 dX12_sail_50 ?_
        refine x_iload_n 1 dX12_sail_53 rfl rfl ?_
        refine z_bnd h (fun a8 ha8 h => ?_)
        refine x_iaload ha8 ak_36 dX12_sail_54 h (fun v9 hv9 h => ?_)
        refine x_ic_ge (tgt := 61) dX12_sail_55 (by decide) h (fun h => ?_) (fun h => ?_)
        · refine x_aload_n 0 dX12_sail_61 rfl rfl ?_
          refine x_getR rfl ck_12 14 (by decide) rfl q_1063 dX12_sail_62 ?_
          refine x_iload_n 1 dX12_sail_65 rfl rfl ?_
          refine x_iconst (v := (1 : Int32)) dX12_sail_66 (by decide) ?_
          refine z_bnd h (fun a10 ha10 h => ?_)
          refine x_zastore ha10 ak_38 dX12_sail_67 h (fun S11 hS11 h => ?_)
          refine x_aload_n 0 dX12_sail_68 rfl rfl ?_
          refine x_bipush (v := (10 : Int32)) dX12_sail_69 (by decide) ?_
          refine x_iload_n 1 dX12_sail_71 rfl rfl ?_
          refine x_iadd dX12_sail_72 ?_
          refine z_bnd h (fun q12 hq12 h => ?_)
          refine x_callV1 rfl (w_X12_many hq12) cw_X12_many q_1225 ⟨by decide, by decide⟩ (Nat.le_of_ble_eq_true rfl) dX12_sail_73 rfl ?_
          exact x_iretE rfl dX12_sail_76 h
        · refine x_bipush (v := (-3 : Int32)) dX12_sail_58 (by decide) ?_
          exact x_iretE rfl dX12_sail_60 h
  · refine x_iconst (v := (-1 : Int32)) dX12_sail_13 (by decide) ?_
    exact x_iretE rfl dX12_sail_14 h
-- PressedMenModel comeHome (I)I
abbrev Y_X12_comeHome : ZM := (yX12_comeHome, cX12_comeHome, 2, (some .int), 2, 46)
theorem cw_X12_comeHome : z_CV Y_X12_comeHome 12 1 := ⟨⟨_, _, rfl⟩, by decide, q_1478, q_1479, q_1480, q_76, ⟨by decide, by decide⟩, rfl⟩
def f_X12_comeHome (n0 : Nat) (x1 : Int32) (S : ZH) : Option (Int32 × ZH) :=
  (f_X12_noShip n0 x1 (zsI S 12 n0 0 (0 : Int32))).bind fun q1 =>
  if q1 = 0 then (
    ((zR (zsI S 12 n0 0 (0 : Int32)) 12 n0 14)).bind fun a2 =>
    (zld (zsI S 12 n0 0 (0 : Int32)) 38 a2 x1).bind fun v3 =>
    if ¬ v3 = 0 then (
      ((zR (zsI S 12 n0 0 (0 : Int32)) 12 n0 14)).bind fun a4 =>
      (zst (zsI S 12 n0 0 (0 : Int32)) 38 a4 x1 (z_b (0 : Int32))).bind fun S5 =>
      (f_X12_many n0 ((10 : Int32) + x1) S5).bind fun q6 =>
      some (q6, S5)
    ) else (
      some ((-3 : Int32), (zsI S 12 n0 0 (0 : Int32)))
    )
  ) else (
    some ((-1 : Int32), (zsI S 12 n0 0 (0 : Int32)))
  )
set_option maxRecDepth 20000 in
set_option maxHeartbeats 1000000 in
theorem w_X12_comeHome {n0 : Nat} {x1 : Int32} {S : ZH} {q : Int32 × ZH} (h : f_X12_comeHome n0 x1 S = some q) : MetX Y_X12_comeHome S [z_r 12 (some n0), z_i x1] (some (z_i q.1)) q.2 := by
  refine MetX.of (lo := [(0, z_r 12 (some n0)), (1, z_i x1)]) rfl (by decide) (Nat.le_of_ble_eq_true rfl) ?_
  unfold f_X12_comeHome at h
  refine x_aload_n 0 dX12_comeHome_0 rfl rfl ?_
  refine x_iconst (v := (0 : Int32)) dX12_comeHome_1 (by decide) ?_
  refine x_putI rfl ck_12 0 (by decide) rfl (Or.inl rfl) (by rfl) rfl q_1049 dX12_comeHome_2 ?_
  refine x_aload_n 0 dX12_comeHome_5 rfl rfl ?_
  refine x_iload_n 1 dX12_comeHome_6 rfl rfl ?_
  refine z_bnd h (fun q1 hq1 h => ?_)
  refine x_callV1 rfl (w_X12_noShip hq1) cw_X12_noShip q_1426 ⟨by decide, by decide⟩ (Nat.le_of_ble_eq_true rfl) dX12_comeHome_7 rfl ?_
  refine x_if_eq (tgt := 15) dX12_comeHome_10 (by decide) h (fun h => ?_) (fun h => ?_)
  · refine x_aload_n 0 dX12_comeHome_15 rfl rfl ?_
    refine x_getR rfl ck_12 14 (by decide) rfl q_1063 dX12_comeHome_16 ?_
    refine x_iload_n 1 dX12_comeHome_19 rfl rfl ?_
    refine z_bnd h (fun a2 ha2 h => ?_)
    refine x_zaload ha2 ak_38 dX12_comeHome_20 h (fun v3 hv3 h => ?_)
    refine x_if_ne (tgt := 27) dX12_comeHome_21 (by decide) h (fun h => ?_) (fun h => ?_)
    · refine x_aload_n 0 dX12_comeHome_27 rfl rfl ?_
      refine x_getR rfl ck_12 14 (by decide) rfl q_1063 dX12_comeHome_28 ?_
      refine x_iload_n 1 dX12_comeHome_31 rfl rfl ?_
      refine x_iconst (v := (0 : Int32)) dX12_comeHome_32 (by decide) ?_
      refine z_bnd h (fun a4 ha4 h => ?_)
      refine x_zastore ha4 ak_38 dX12_comeHome_33 h (fun S5 hS5 h => ?_)
      refine x_aload_n 0 dX12_comeHome_34 rfl rfl ?_
      refine x_bipush (v := (10 : Int32)) dX12_comeHome_35 (by decide) ?_
      refine x_iload_n 1 dX12_comeHome_37 rfl rfl ?_
      refine x_iadd dX12_comeHome_38 ?_
      refine z_bnd h (fun q6 hq6 h => ?_)
      refine x_callV1 rfl (w_X12_many hq6) cw_X12_many q_1225 ⟨by decide, by decide⟩ (Nat.le_of_ble_eq_true rfl) dX12_comeHome_39 rfl ?_
      exact x_iretE rfl dX12_comeHome_42 h
    · refine x_bipush (v := (-3 : Int32)) dX12_comeHome_24 (by decide) ?_
      exact x_iretE rfl dX12_comeHome_26 h
  · refine x_iconst (v := (-1 : Int32)) dX12_comeHome_13 (by decide) ?_
    exact x_iretE rfl dX12_comeHome_14 h
-- PressedMenModel noTicket (I)Z
abbrev Y_X12_noTicket : ZM := (yX12_noTicket, cX12_noTicket, 2, (some .boolean), 1, 25)
theorem cw_X12_noTicket : z_CV Y_X12_noTicket 12 1 := ⟨⟨_, _, rfl⟩, by decide, q_1492, q_67, q_1493, q_76, ⟨by decide, by decide⟩, rfl⟩
def f_X12_noTicket (n0 : Nat) (x1 : Int32) (S : ZH) : Option (Int32) :=
  (f_X12_in x1.toInt64 (0 : Int64) (((zI S 12 n0 31) - (1 : Int32)).toInt64) S).bind fun q1 =>
  if ¬ q1 = 0 then (
    some (0 : Int32)
  ) else (
    some (1 : Int32)
  )
set_option maxRecDepth 20000 in
set_option maxHeartbeats 1000000 in
theorem w_X12_noTicket {n0 : Nat} {x1 : Int32} {S : ZH} {q : Int32} (h : f_X12_noTicket n0 x1 S = some q) : MetX Y_X12_noTicket S [z_r 12 (some n0), z_i x1] (some (z_i q)) S := by
  refine MetX.of (lo := [(0, z_r 12 (some n0)), (1, z_i x1)]) rfl (by decide) (Nat.le_of_ble_eq_true rfl) ?_
  unfold f_X12_noTicket at h
  refine x_iload_n 1 dX12_noTicket_0 rfl rfl ?_
  refine x_i2l dX12_noTicket_1 ?_
  refine x_lconst (v := (0 : Int64)) dX12_noTicket_2 (by decide) ?_
  refine x_aload_n 0 dX12_noTicket_3 rfl rfl ?_
  refine x_getI rfl ck_12 31 (by decide) rfl q_1080 dX12_noTicket_4 ?_
  refine x_iconst (v := (1 : Int32)) dX12_noTicket_7 (by decide) ?_
  refine x_isub dX12_noTicket_8 ?_
  refine x_i2l dX12_noTicket_9 ?_
  refine z_bnd h (fun q1 hq1 h => ?_)
  refine x_callS1 (w_X12_in hq1) cw_X12_in q_1172 ⟨by decide, by decide⟩ (Nat.le_of_ble_eq_true rfl) dX12_noTicket_10 rfl ?_
  refine x_if_ne (tgt := 20) dX12_noTicket_13 (by decide) h (fun h => ?_) (fun h => ?_)
  · refine x_iconst (v := (0 : Int32)) dX12_noTicket_20 (by decide) ?_
    exact x_zretC rfl (by decide) dX12_noTicket_21 h
  · refine x_iconst (v := (1 : Int32)) dX12_noTicket_16 (by decide) ?_
    refine x_goto (tgt := 21) dX12_noTicket_17 (by decide) ?_
    exact x_zretC rfl (by decide) dX12_noTicket_21 h
-- PressedMenModel noHolder (I)Z
abbrev Y_X12_noHolder : ZM := (yX12_noHolder, cX12_noHolder, 1, (some .boolean), 1, 25)
theorem cw_X12_noHolder : z_CS Y_X12_noHolder 1 := ⟨q_1495, q_1496, q_76, ⟨by decide, by decide⟩, rfl⟩
def f_X12_noHolder (x0 : Int32) (S : ZH) : Option (Int32) :=
  (f_X12_in x0.toInt64 (0 : Int64) (9 : Int64) S).bind fun q1 =>
  if ¬ q1 = 0 then (
    some (0 : Int32)
  ) else (
    some (1 : Int32)
  )
set_option maxRecDepth 20000 in
set_option maxHeartbeats 1000000 in
theorem w_X12_noHolder {x0 : Int32} {S : ZH} {q : Int32} (h : f_X12_noHolder x0 S = some q) : MetX Y_X12_noHolder S [z_i x0] (some (z_i q)) S := by
  refine MetX.of (lo := [(0, z_i x0)]) rfl (by decide) (Nat.le_of_ble_eq_true rfl) ?_
  unfold f_X12_noHolder at h
  refine x_iload_n 0 dX12_noHolder_0 rfl rfl ?_
  refine x_i2l dX12_noHolder_1 ?_
  refine x_lconst (v := (0 : Int64)) dX12_noHolder_2 (by decide) ?_
  refine x_ldc2 dX12_noHolder_3 q_1497.1 ?_
  refine z_bnd h (fun q1 hq1 h => ?_)
  refine x_callS1 (w_X12_in hq1) cw_X12_in q_1172 ⟨by decide, by decide⟩ (Nat.le_of_ble_eq_true rfl) dX12_noHolder_6 rfl ?_
  refine x_if_ne (tgt := 16) dX12_noHolder_9 (by decide) h (fun h => ?_) (fun h => ?_)
  · refine x_iconst (v := (0 : Int32)) dX12_noHolder_16 (by decide) ?_
    exact x_zretC rfl (by decide) dX12_noHolder_17 h
  · refine x_iconst (v := (1 : Int32)) dX12_noHolder_12 (by decide) ?_
    refine x_goto (tgt := 17) dX12_noHolder_13 (by decide) ?_
    exact x_zretC rfl (by decide) dX12_noHolder_17 h
-- PressedMenModel ticket (III)I
abbrev Y_X12_ticket : ZM := (yX12_ticket, cX12_ticket, 4, (some .int), 2, 46)
theorem cw_X12_ticket : z_CV Y_X12_ticket 12 3 := ⟨⟨_, _, rfl⟩, by decide, q_1482, q_1483, q_1484, q_76, ⟨by decide, by decide⟩, rfl⟩
def f_X12_ticket (n0 : Nat) (x1 : Int32) (x2 : Int32) (x3 : Int32) (S : ZH) : Option (Int32 × ZH) :=
  (f_X12_noMan n0 x1 (zsI S 12 n0 0 (0 : Int32))).bind fun q1 =>
  if q1 = 0 then (
    (f_X12_in x2.toInt64 (1 : Int64) (99 : Int64) (zsI S 12 n0 0 (0 : Int32))).bind fun q2 =>
    if q2 = 0 then (
      some ((-2 : Int32), (zsI S 12 n0 0 (0 : Int32)))
    ) else (
      (f_X12_in x3.toInt64 (1 : Int64) (50 : Int64) (zsI S 12 n0 0 (0 : Int32))).bind fun q3 =>
      if ¬ q3 = 0 then (
        if ¬ (zI (zsI S 12 n0 0 (0 : Int32)) 12 n0 31) = (40 : Int32) then (
          ((zR (zsI S 12 n0 0 (0 : Int32)) 12 n0 32)).bind fun a4 =>
          (zst (zsI S 12 n0 0 (0 : Int32)) 48 a4 (zI (zsI S 12 n0 0 (0 : Int32)) 12 n0 31) x1).bind fun S5 =>
          ((zR S5 12 n0 33)).bind fun a6 =>
          (zst S5 49 a6 (zI S5 12 n0 31) (x2 * x3)).bind fun S7 =>
          ((zR S7 12 n0 34)).bind fun a8 =>
          (zst S7 50 a8 (zI S7 12 n0 31) (-9 : Int32)).bind fun S9 =>
          some (((zI (zsI S9 12 n0 31 ((zI S9 12 n0 31) + (1 : Int32))) 12 n0 31) - (1 : Int32)), (zsI S9 12 n0 31 ((zI S9 12 n0 31) + (1 : Int32))))
        ) else (
          some ((-4 : Int32), (zsI S 12 n0 0 (0 : Int32)))
        )
      ) else (
        some ((-2 : Int32), (zsI S 12 n0 0 (0 : Int32)))
      )
    )
  ) else (
    some ((-1 : Int32), (zsI S 12 n0 0 (0 : Int32)))
  )
set_option maxRecDepth 20000 in
set_option maxHeartbeats 1000000 in
theorem w_X12_ticket {n0 : Nat} {x1 : Int32} {x2 : Int32} {x3 : Int32} {S : ZH} {q : Int32 × ZH} (h : f_X12_ticket n0 x1 x2 x3 S = some q) : MetX Y_X12_ticket S [z_r 12 (some n0), z_i x1, z_i x2, z_i x3] (some (z_i q.1)) q.2 := by
  refine MetX.of (lo := [(0, z_r 12 (some n0)), (1, z_i x1), (2, z_i x2), (3, z_i x3)]) rfl (by decide) (Nat.le_of_ble_eq_true rfl) ?_
  unfold f_X12_ticket at h
  refine x_aload_n 0 dX12_ticket_0 rfl rfl ?_
  refine x_iconst (v := (0 : Int32)) dX12_ticket_1 (by decide) ?_
  refine x_putI rfl ck_12 0 (by decide) rfl (Or.inl rfl) (by rfl) rfl q_1049 dX12_ticket_2 ?_
  refine x_aload_n 0 dX12_ticket_5 rfl rfl ?_
  refine x_iload_n 1 dX12_ticket_6 rfl rfl ?_
  refine z_bnd h (fun q1 hq1 h => ?_)
  refine x_callV1 rfl (w_X12_noMan hq1) cw_X12_noMan q_1206 ⟨by decide, by decide⟩ (Nat.le_of_ble_eq_true rfl) dX12_ticket_7 rfl ?_
  refine x_if_eq (tgt := 15) dX12_ticket_10 (by decide) h (fun h => ?_) (fun h => ?_)
  · refine x_iload_n 2 dX12_ticket_15 rfl rfl ?_
    refine x_i2l dX12_ticket_16 ?_
    refine x_lconst (v := (1 : Int64)) dX12_ticket_17 (by decide) ?_
    refine x_ldc2 dX12_ticket_18 q_1485.1 ?_
    refine z_bnd h (fun q2 hq2 h => ?_)
    refine x_callS1 (w_X12_in hq2) cw_X12_in q_1172 ⟨by decide, by decide⟩ (Nat.le_of_ble_eq_true rfl) dX12_ticket_21 rfl ?_
    refine x_if_eq (tgt := 39) dX12_ticket_24 (by decide) h (fun h => ?_) (fun h => ?_)
    · refine x_bipush (v := (-2 : Int32)) dX12_ticket_39 (by decide) ?_
      exact x_iretE rfl dX12_ticket_41 h
    · refine x_iload_n 3 dX12_ticket_27 rfl rfl ?_
      refine x_i2l dX12_ticket_28 ?_
      refine x_lconst (v := (1 : Int64)) dX12_ticket_29 (by decide) ?_
      refine x_ldc2 dX12_ticket_30 q_1198.1 ?_
      refine z_bnd h (fun q3 hq3 h => ?_)
      refine x_callS1 (w_X12_in hq3) cw_X12_in q_1172 ⟨by decide, by decide⟩ (Nat.le_of_ble_eq_true rfl) dX12_ticket_33 rfl ?_
      refine x_if_ne (tgt := 42) dX12_ticket_36 (by decide) h (fun h => ?_) (fun h => ?_)
      · refine x_aload_n 0 dX12_ticket_42 rfl rfl ?_
        refine x_getI rfl ck_12 31 (by decide) rfl q_1080 dX12_ticket_43 ?_
        refine x_bipush (v := (40 : Int32)) dX12_ticket_46 (by decide) ?_
        refine x_ic_ne (tgt := 54) dX12_ticket_48 (by decide) h (fun h => ?_) (fun h => ?_)
        · refine x_aload_n 0 dX12_ticket_54 rfl rfl ?_
          refine x_getR rfl ck_12 32 (by decide) rfl q_1081 dX12_ticket_55 ?_
          refine x_aload_n 0 dX12_ticket_58 rfl rfl ?_
          refine x_getI rfl ck_12 31 (by decide) rfl q_1080 dX12_ticket_59 ?_
          refine x_iload_n 1 dX12_ticket_62 rfl rfl ?_
          refine z_bnd h (fun a4 ha4 h => ?_)
          refine x_iastore ha4 ak_48 dX12_ticket_63 h (fun S5 hS5 h => ?_)
          refine x_aload_n 0 dX12_ticket_64 rfl rfl ?_
          refine x_getR rfl ck_12 33 (by decide) rfl q_1082 dX12_ticket_65 ?_
          refine x_aload_n 0 dX12_ticket_68 rfl rfl ?_
          refine x_getI rfl ck_12 31 (by decide) rfl q_1080 dX12_ticket_69 ?_
          refine x_iload_n 2 dX12_ticket_72 rfl rfl ?_
          refine x_iload_n 3 dX12_ticket_73 rfl rfl ?_
          refine x_imul dX12_ticket_74 ?_
          refine z_bnd h (fun a6 ha6 h => ?_)
          refine x_iastore ha6 ak_49 dX12_ticket_75 h (fun S7 hS7 h => ?_)
          refine x_aload_n 0 dX12_ticket_76 rfl rfl ?_
          refine x_getR rfl ck_12 34 (by decide) rfl q_1083 dX12_ticket_77 ?_
          refine x_aload_n 0 dX12_ticket_80 rfl rfl ?_
          refine x_getI rfl ck_12 31 (by decide) rfl q_1080 dX12_ticket_81 ?_
          refine x_bipush (v := (-9 : Int32)) dX12_ticket_84 (by decide) ?_
          refine z_bnd h (fun a8 ha8 h => ?_)
          refine x_iastore ha8 ak_50 dX12_ticket_86 h (fun S9 hS9 h => ?_)
          refine x_aload_n 0 dX12_ticket_87 rfl rfl ?_
          refine x_dup dX12_ticket_88 rfl ?_
          refine x_getI rfl ck_12 31 (by decide) rfl q_1080 dX12_ticket_89 ?_
          refine x_iconst (v := (1 : Int32)) dX12_ticket_92 (by decide) ?_
          refine x_iadd dX12_ticket_93 ?_
          refine x_putI rfl ck_12 31 (by decide) rfl (Or.inl rfl) (by rfl) rfl q_1080 dX12_ticket_94 ?_
          refine x_aload_n 0 dX12_ticket_97 rfl rfl ?_
          refine x_getI rfl ck_12 31 (by decide) rfl q_1080 dX12_ticket_98 ?_
          refine x_iconst (v := (1 : Int32)) dX12_ticket_101 (by decide) ?_
          refine x_isub dX12_ticket_102 ?_
          exact x_iretE rfl dX12_ticket_103 h
        · refine x_bipush (v := (-4 : Int32)) dX12_ticket_51 (by decide) ?_
          exact x_iretE rfl dX12_ticket_53 h
      · refine x_bipush (v := (-2 : Int32)) dX12_ticket_39 (by decide) ?_
        exact x_iretE rfl dX12_ticket_41 h
  · refine x_iconst (v := (-1 : Int32)) dX12_ticket_13 (by decide) ?_
    exact x_iretE rfl dX12_ticket_14 h
-- PressedMenModel give (III)V
abbrev Y_X12_give : ZM := (yX12_give, cX12_give, 4, none, 0, 0)
theorem cw_X12_give : z_CV Y_X12_give 12 3 := ⟨⟨_, _, rfl⟩, by decide, q_1500, q_68, q_1501, q_76, ⟨by decide, by decide⟩, rfl⟩
def f_X12_give (n0 : Nat) (x1 : Int32) (x2 : Int32) (x3 : Int32) (S : ZH) : Option (ZH) :=
  if ¬ x2 = (-9 : Int32) then (
    ((zR S 12 n0 37)).bind fun a1 =>
    (zld S 53 a1 x2).bind fun v2 =>
    ((zR S 12 n0 37)).bind fun a3 =>
    (zst S 53 a3 x2 (v2 + x3)).bind fun S4 =>
    some S4
  ) else (
    ((zR S 12 n0 32)).bind fun a5 =>
    (zld S 48 a5 x1).bind fun v6 =>
    ((zR S 12 n0 38)).bind fun a7 =>
    (zld S 54 a7 v6).bind fun v8 =>
    ((zR S 12 n0 38)).bind fun a9 =>
    (zst S 54 a9 v6 (v8 + x3)).bind fun S10 =>
    some S10
  )
set_option maxRecDepth 20000 in
set_option maxHeartbeats 1000000 in
theorem w_X12_give {n0 : Nat} {x1 : Int32} {x2 : Int32} {x3 : Int32} {S : ZH} {q : ZH} (h : f_X12_give n0 x1 x2 x3 S = some q) : MetX Y_X12_give S [z_r 12 (some n0), z_i x1, z_i x2, z_i x3] none q := by
  refine MetX.of (lo := [(0, z_r 12 (some n0)), (1, z_i x1), (2, z_i x2), (3, z_i x3)]) rfl (by decide) (Nat.le_of_ble_eq_true rfl) ?_
  unfold f_X12_give at h
  refine x_iload_n 2 dX12_give_0 rfl rfl ?_
  refine x_bipush (v := (-9 : Int32)) dX12_give_1 (by decide) ?_
  refine x_ic_ne (tgt := 24) dX12_give_3 (by decide) h (fun h => ?_) (fun h => ?_)
  · refine x_aload_n 0 dX12_give_24 rfl rfl ?_
    refine x_getR rfl ck_12 37 (by decide) rfl q_1086 dX12_give_25 ?_
    refine x_iload_n 2 dX12_give_28 rfl rfl ?_
    refine x_dup2 dX12_give_29 rfl rfl ?_
    refine z_bnd h (fun a1 ha1 h => ?_)
    refine x_iaload ha1 ak_53 dX12_give_30 h (fun v2 hv2 h => ?_)
    refine x_iload_n 3 dX12_give_31 rfl rfl ?_
    refine x_iadd dX12_give_32 ?_
    refine z_bnd h (fun a3 ha3 h => ?_)
    refine x_iastore ha3 ak_53 dX12_give_33 h (fun S4 hS4 h => ?_)
    exact x_vretE rfl dX12_give_34 h
  · refine x_aload_n 0 dX12_give_6 rfl rfl ?_
    refine x_getR rfl ck_12 38 (by decide) rfl q_1087 dX12_give_7 ?_
    refine x_aload_n 0 dX12_give_10 rfl rfl ?_
    refine x_getR rfl ck_12 32 (by decide) rfl q_1081 dX12_give_11 ?_
    refine x_iload_n 1 dX12_give_14 rfl rfl ?_
    refine z_bnd h (fun a5 ha5 h => ?_)
    refine x_iaload ha5 ak_48 dX12_give_15 h (fun v6 hv6 h => ?_)
    refine x_dup2 dX12_give_16 rfl rfl ?_
    refine z_bnd h (fun a7 ha7 h => ?_)
    refine x_iaload ha7 ak_54 dX12_give_17 h (fun v8 hv8 h => ?_)
    refine x_iload_n 3 dX12_give_18 rfl rfl ?_
    refine x_iadd dX12_give_19 ?_
    refine z_bnd h (fun a9 ha9 h => ?_)
    refine x_iastore ha9 ak_54 dX12_give_20 h (fun S10 hS10 h => ?_)
    refine x_goto (tgt := 34) dX12_give_21 (by decide) ?_
    exact x_vretE rfl dX12_give_34 h
