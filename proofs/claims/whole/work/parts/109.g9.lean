-- PressedMenModel sell (III)I
abbrev Y_X12_sell : ZM := (yX12_sell, cX12_sell, 5, (some .int), 2, 46)
theorem cw_X12_sell : z_CV Y_X12_sell 12 3 := ⟨⟨_, _, rfl⟩, by decide, q_1487, q_1488, q_1489, q_76, ⟨by decide, by decide⟩, rfl⟩
def f_X12_sell (n0 : Nat) (x1 : Int32) (x2 : Int32) (x3 : Int32) (S : ZH) : Option (Int32 × ZH) :=
  (f_X12_noTicket n0 x1 (zsI S 12 n0 0 (0 : Int32))).bind fun q1 =>
  if ¬ q1 = 0 then (
    some ((-1 : Int32), (zsI S 12 n0 0 (0 : Int32)))
  ) else (
    (f_X12_noHolder x2 (zsI S 12 n0 0 (0 : Int32))).bind fun q2 =>
    if q2 = 0 then (
      (f_X12_in x3.toInt64 (1 : Int64) (100 : Int64) (zsI S 12 n0 0 (0 : Int32))).bind fun q3 =>
      if ¬ q3 = 0 then (
        ((zR (zsI S 12 n0 0 (0 : Int32)) 12 n0 35)).bind fun a4 =>
        (zld (zsI S 12 n0 0 (0 : Int32)) 51 a4 x1).bind fun v5 =>
        if ¬ v5 = 0 then (
          some ((-3 : Int32), (zsI S 12 n0 0 (0 : Int32)))
        ) else (
          ((zR (zsI S 12 n0 0 (0 : Int32)) 12 n0 34)).bind fun a6 =>
          (zld (zsI S 12 n0 0 (0 : Int32)) 50 a6 x1).bind fun v7 =>
          if ¬ v7 = x2 then (
            ((zR (zsI S 12 n0 0 (0 : Int32)) 12 n0 33)).bind fun a8 =>
            (zld (zsI S 12 n0 0 (0 : Int32)) 49 a8 x1).bind fun v9 =>
            ((zR (zsI S 12 n0 0 (0 : Int32)) 12 n0 34)).bind fun a10 =>
            (zld (zsI S 12 n0 0 (0 : Int32)) 50 a10 x1).bind fun v11 =>
            (f_X12_give n0 x1 v11 ((v9 * x3) / (100 : Int32)) (zsI S 12 n0 0 (0 : Int32))).bind fun q12 =>
            (f_X12_give n0 x1 x2 (-((v9 * x3) / (100 : Int32))) q12).bind fun q13 =>
            ((zR q13 12 n0 34)).bind fun a14 =>
            (zst q13 50 a14 x1 x2).bind fun S15 =>
            some (((v9 * x3) / (100 : Int32)), S15)
          ) else (
            some ((-3 : Int32), (zsI S 12 n0 0 (0 : Int32)))
          )
        )
      ) else (
        some ((-2 : Int32), (zsI S 12 n0 0 (0 : Int32)))
      )
    ) else (
      some ((-1 : Int32), (zsI S 12 n0 0 (0 : Int32)))
    )
  )
set_option maxRecDepth 20000 in
set_option maxHeartbeats 1000000 in
theorem w_X12_sell {n0 : Nat} {x1 : Int32} {x2 : Int32} {x3 : Int32} {S : ZH} {q : Int32 × ZH} (h : f_X12_sell n0 x1 x2 x3 S = some q) : MetX Y_X12_sell S [z_r 12 (some n0), z_i x1, z_i x2, z_i x3] (some (z_i q.1)) q.2 := by
  refine MetX.of (lo := [(0, z_r 12 (some n0)), (1, z_i x1), (2, z_i x2), (3, z_i x3)]) rfl (by decide) (Nat.le_of_ble_eq_true rfl) ?_
  unfold f_X12_sell at h
  refine x_aload_n 0 dX12_sell_0 rfl rfl ?_
  refine x_iconst (v := (0 : Int32)) dX12_sell_1 (by decide) ?_
  refine x_putI rfl ck_12 0 (by decide) rfl (Or.inl rfl) (by rfl) rfl q_1049 dX12_sell_2 ?_
  refine x_aload_n 0 dX12_sell_5 rfl rfl ?_
  refine x_iload_n 1 dX12_sell_6 rfl rfl ?_
  refine z_bnd h (fun q1 hq1 h => ?_)
  refine x_callV1 rfl (w_X12_noTicket hq1) cw_X12_noTicket q_1490 ⟨by decide, by decide⟩ (Nat.le_of_ble_eq_true rfl) dX12_sell_7 rfl ?_
  refine x_if_ne (tgt := 20) dX12_sell_10 (by decide) h (fun h => ?_) (fun h => ?_)
  · refine x_iconst (v := (-1 : Int32)) dX12_sell_20 (by decide) ?_
    exact x_iretE rfl dX12_sell_21 h
  · refine x_iload_n 2 dX12_sell_13 rfl rfl ?_
    refine z_bnd h (fun q2 hq2 h => ?_)
    refine x_callS1 (w_X12_noHolder hq2) cw_X12_noHolder q_1494 ⟨by decide, by decide⟩ (Nat.le_of_ble_eq_true rfl) dX12_sell_14 rfl ?_
    refine x_if_eq (tgt := 22) dX12_sell_17 (by decide) h (fun h => ?_) (fun h => ?_)
    · refine x_iload_n 3 dX12_sell_22 rfl rfl ?_
      refine x_i2l dX12_sell_23 ?_
      refine x_lconst (v := (1 : Int64)) dX12_sell_24 (by decide) ?_
      refine x_ldc2 dX12_sell_25 q_1397.1 ?_
      refine z_bnd h (fun q3 hq3 h => ?_)
      refine x_callS1 (w_X12_in hq3) cw_X12_in q_1172 ⟨by decide, by decide⟩ (Nat.le_of_ble_eq_true rfl) dX12_sell_28 rfl ?_
      refine x_if_ne (tgt := 37) dX12_sell_31 (by decide) h (fun h => ?_) (fun h => ?_)
      · refine x_aload_n 0 dX12_sell_37 rfl rfl ?_
        refine x_getR rfl ck_12 35 (by decide) rfl q_1084 dX12_sell_38 ?_
        refine x_iload_n 1 dX12_sell_41 rfl rfl ?_
        refine z_bnd h (fun a4 ha4 h => ?_)
        refine x_zaload ha4 ak_51 dX12_sell_42 h (fun v5 hv5 h => ?_)
        refine x_if_ne (tgt := 56) dX12_sell_43 (by decide) h (fun h => ?_) (fun h => ?_)
        · refine x_bipush (v := (-3 : Int32)) dX12_sell_56 (by decide) ?_
          exact x_iretE rfl dX12_sell_58 h
        · refine x_aload_n 0 dX12_sell_46 rfl rfl ?_
          refine x_getR rfl ck_12 34 (by decide) rfl q_1083 dX12_sell_47 ?_
          refine x_iload_n 1 dX12_sell_50 rfl rfl ?_
          refine z_bnd h (fun a6 ha6 h => ?_)
          refine x_iaload ha6 ak_50 dX12_sell_51 h (fun v7 hv7 h => ?_)
          refine x_iload_n 2 dX12_sell_52 rfl rfl ?_
          refine x_ic_ne (tgt := 59) dX12_sell_53 (by decide) h (fun h => ?_) (fun h => ?_)
          · refine x_aload_n 0 dX12_sell_59 rfl rfl ?_
            refine x_getR rfl ck_12 33 (by decide) rfl q_1082 dX12_sell_60 ?_
            refine x_iload_n 1 dX12_sell_63 rfl rfl ?_
            refine z_bnd h (fun a8 ha8 h => ?_)
            refine x_iaload ha8 ak_49 dX12_sell_64 h (fun v9 hv9 h => ?_)
            refine x_iload_n 3 dX12_sell_65 rfl rfl ?_
            refine x_imul dX12_sell_66 ?_
            refine x_bipush (v := (100 : Int32)) dX12_sell_67 (by decide) ?_
            refine x_idiv dX12_sell_69 (by decide) ?_
            refine x_istore (lo' := [(4, z_i ((v9 * x3) / (100 : Int32))), (0, z_r 12 (some n0)), (1, z_i x1), (2, z_i x2), (3, z_i x3)]) dX12_sell_70 (by decide) rfl ?_
            refine x_aload_n 1 dX12_sell_72 rfl rfl ?_
            refine x_iload_n 2 dX12_sell_73 rfl rfl ?_
            refine x_aload_n 1 dX12_sell_74 rfl rfl ?_
            refine x_getR rfl ck_12 34 (by decide) rfl q_1083 dX12_sell_75 ?_
            refine x_iload_n 2 dX12_sell_78 rfl rfl ?_
            refine z_bnd h (fun a10 ha10 h => ?_)
            refine x_iaload ha10 ak_50 dX12_sell_79 h (fun v11 hv11 h => ?_)
            refine x_iload 0 dX12_sell_80 rfl ?_
            refine z_bnd h (fun q12 hq12 h => ?_)
            refine x_callVv rfl (w_X12_give hq12) cw_X12_give q_1498 ⟨by decide, by decide⟩ (Nat.le_of_ble_eq_true rfl) dX12_sell_82 rfl ?_
            refine x_aload_n 1 dX12_sell_85 rfl rfl ?_
            refine x_iload_n 2 dX12_sell_86 rfl rfl ?_
            refine x_iload_n 3 dX12_sell_87 rfl rfl ?_
            refine x_iload 0 dX12_sell_88 rfl ?_
            refine x_ineg dX12_sell_90 ?_
            refine z_bnd h (fun q13 hq13 h => ?_)
            refine x_callVv rfl (w_X12_give hq13) cw_X12_give q_1498 ⟨by decide, by decide⟩ (Nat.le_of_ble_eq_true rfl) dX12_sell_91 rfl ?_
            refine x_aload_n 1 dX12_sell_94 rfl rfl ?_
            refine x_getR rfl ck_12 34 (by decide) rfl q_1083 dX12_sell_95 ?_
            refine x_iload_n 2 dX12_sell_98 rfl rfl ?_
            refine x_iload_n 3 dX12_sell_99 rfl rfl ?_
            refine z_bnd h (fun a14 ha14 h => ?_)
            refine x_iastore ha14 ak_50 dX12_sell_100 h (fun S15 hS15 h => ?_)
            refine x_iload 0 dX12_sell_101 rfl ?_
            exact x_iretE rfl dX12_sell_103 h
          · refine x_bipush (v := (-3 : Int32)) dX12_sell_56 (by decide) ?_
            exact x_iretE rfl dX12_sell_58 h
      · refine x_bipush (v := (-2 : Int32)) dX12_sell_34 (by decide) ?_
        exact x_iretE rfl dX12_sell_36 h
    · refine x_iconst (v := (-1 : Int32)) dX12_sell_20 (by decide) ?_
      exact x_iretE rfl dX12_sell_21 h
-- PressedMenModel pay (II)I
abbrev Y_X12_pay : ZM := (yX12_pay, cX12_pay, 3, (some .int), 2, 46)
theorem cw_X12_pay : z_CV Y_X12_pay 12 2 := ⟨⟨_, _, rfl⟩, by decide, q_1503, q_1504, q_1505, q_76, ⟨by decide, by decide⟩, rfl⟩
def j_X12_pay_67 (n0 : Nat) (x1 : Int32) (x2 : Int32)  (S : ZH) : Option (Int32 × ZH) :=
  ((zR S 12 n0 33)).bind fun a8 =>
  (zld S 49 a8 x1).bind fun v9 =>
  (f_X12_give n0 x1 x2 v9 S).bind fun q10 =>
  ((zR q10 12 n0 33)).bind fun a11 =>
  (zld q10 49 a11 x1).bind fun v12 =>
  some (v12, q10)
def j_X12_pay_47 (n0 : Nat) (x1 : Int32) (x2 : Int32)  (S : ZH) : Option (Int32 × ZH) :=
  ((zR S 12 n0 36)).bind fun a4 =>
  (zld S 52 a4 x1).bind fun v5 =>
  ((zR S 12 n0 36)).bind fun a6 =>
  (zst S 52 a6 x1 (v5 + (1 : Int32))).bind fun S7 =>
  j_X12_pay_67 n0 x1 x2 S7
def j_X12_pay_28 (n0 : Nat) (x1 : Int32) (x2 : Int32)  (S : ZH) : Option (Int32 × ZH) :=
  ((zR S 12 n0 35)).bind fun a2 =>
  (zld S 51 a2 x1).bind fun v3 =>
  if ¬ v3 = 0 then (
    j_X12_pay_47 n0 x1 x2 S
  ) else (
    ((zR S 12 n0 34)).bind fun a13 =>
    (zld S 50 a13 x1).bind fun v14 =>
    if v14 = x2 then (
      ((zR S 12 n0 35)).bind fun a15 =>
      (zst S 51 a15 x1 (z_b (1 : Int32))).bind fun S16 =>
      j_X12_pay_67 n0 x1 x2 S16
    ) else (
      j_X12_pay_47 n0 x1 x2 S
    )
  )
def f_X12_pay (n0 : Nat) (x1 : Int32) (x2 : Int32) (S : ZH) : Option (Int32 × ZH) :=
  (f_X12_noTicket n0 x1 (zsI S 12 n0 0 (0 : Int32))).bind fun q1 =>
  if ¬ q1 = 0 then (
    some ((-1 : Int32), (zsI S 12 n0 0 (0 : Int32)))
  ) else (
    if x2 = (-9 : Int32) then (
      j_X12_pay_28 n0 x1 x2 (zsI S 12 n0 0 (0 : Int32))
    ) else (
      (f_X12_noHolder x2 (zsI S 12 n0 0 (0 : Int32))).bind fun q17 =>
      if q17 = 0 then (
        j_X12_pay_28 n0 x1 x2 (zsI S 12 n0 0 (0 : Int32))
      ) else (
        some ((-1 : Int32), (zsI S 12 n0 0 (0 : Int32)))
      )
    )
  )
set_option maxRecDepth 20000 in
theorem k_X12_pay_67 {S0 : ZH} {n0 : Nat} {x1 : Int32} {x2 : Int32}  {S : ZH} {z : Int32 × ZH} (h : j_X12_pay_67 n0 x1 x2 S = some z) : Wp Y_X12_pay S0 (zF S0 (some (z_i z.1)) z.2) 67 [(0, z_r 12 (some n0)), (1, z_i x1), (2, z_i x2)] [] S := by
  unfold j_X12_pay_67 at h
  refine x_aload_n 0 dX12_pay_67 rfl rfl ?_
  refine x_iload_n 1 dX12_pay_68 rfl rfl ?_
  refine x_iload_n 2 dX12_pay_69 rfl rfl ?_
  refine x_aload_n 0 dX12_pay_70 rfl rfl ?_
  refine x_getR rfl ck_12 33 (by decide) rfl q_1082 dX12_pay_71 ?_
  refine x_iload_n 1 dX12_pay_74 rfl rfl ?_
  refine z_bnd h (fun a8 ha8 h => ?_)
  refine x_iaload ha8 ak_49 dX12_pay_75 h (fun v9 hv9 h => ?_)
  refine z_bnd h (fun q10 hq10 h => ?_)
  refine x_callVv rfl (w_X12_give hq10) cw_X12_give q_1498 ⟨by decide, by decide⟩ (Nat.le_of_ble_eq_true rfl) dX12_pay_76 rfl ?_
  refine x_aload_n 0 dX12_pay_79 rfl rfl ?_
  refine x_getR rfl ck_12 33 (by decide) rfl q_1082 dX12_pay_80 ?_
  refine x_iload_n 1 dX12_pay_83 rfl rfl ?_
  refine z_bnd h (fun a11 ha11 h => ?_)
  refine x_iaload ha11 ak_49 dX12_pay_84 h (fun v12 hv12 h => ?_)
  exact x_iretE rfl dX12_pay_85 h
set_option maxRecDepth 20000 in
theorem k_X12_pay_47 {S0 : ZH} {n0 : Nat} {x1 : Int32} {x2 : Int32}  {S : ZH} {z : Int32 × ZH} (h : j_X12_pay_47 n0 x1 x2 S = some z) : Wp Y_X12_pay S0 (zF S0 (some (z_i z.1)) z.2) 47 [(0, z_r 12 (some n0)), (1, z_i x1), (2, z_i x2)] [] S := by
  unfold j_X12_pay_47 at h
  refine x_aload_n 0 dX12_pay_47 rfl rfl ?_
  refine x_getR rfl ck_12 36 (by decide) rfl q_1085 dX12_pay_48 ?_
  refine x_iload_n 1 dX12_pay_51 rfl rfl ?_
  refine x_dup2 dX12_pay_52 rfl rfl ?_
  refine z_bnd h (fun a4 ha4 h => ?_)
  refine x_iaload ha4 ak_52 dX12_pay_53 h (fun v5 hv5 h => ?_)
  refine x_iconst (v := (1 : Int32)) dX12_pay_54 (by decide) ?_
  refine x_iadd dX12_pay_55 ?_
  refine z_bnd h (fun a6 ha6 h => ?_)
  refine x_iastore ha6 ak_52 dX12_pay_56 h (fun S7 hS7 h => ?_)
  refine x_goto (tgt := 67) dX12_pay_57 (by decide) ?_
  exact x_lo [0, 1, 2] rfl (k_X12_pay_67 h)
set_option maxRecDepth 20000 in
theorem k_X12_pay_28 {S0 : ZH} {n0 : Nat} {x1 : Int32} {x2 : Int32}  {S : ZH} {z : Int32 × ZH} (h : j_X12_pay_28 n0 x1 x2 S = some z) : Wp Y_X12_pay S0 (zF S0 (some (z_i z.1)) z.2) 28 [(0, z_r 12 (some n0)), (1, z_i x1), (2, z_i x2)] [] S := by
  unfold j_X12_pay_28 at h
  refine x_aload_n 0 dX12_pay_28 rfl rfl ?_
  refine x_getR rfl ck_12 35 (by decide) rfl q_1084 dX12_pay_29 ?_
  refine x_iload_n 1 dX12_pay_32 rfl rfl ?_
  refine z_bnd h (fun a2 ha2 h => ?_)
  refine x_zaload ha2 ak_51 dX12_pay_33 h (fun v3 hv3 h => ?_)
  refine x_if_ne (tgt := 47) dX12_pay_34 (by decide) h (fun h => ?_) (fun h => ?_)
  · exact x_lo [0, 1, 2] rfl (k_X12_pay_47 h)
  · refine x_aload_n 0 dX12_pay_37 rfl rfl ?_
    refine x_getR rfl ck_12 34 (by decide) rfl q_1083 dX12_pay_38 ?_
    refine x_iload_n 1 dX12_pay_41 rfl rfl ?_
    refine z_bnd h (fun a13 ha13 h => ?_)
    refine x_iaload ha13 ak_50 dX12_pay_42 h (fun v14 hv14 h => ?_)
    refine x_iload_n 2 dX12_pay_43 rfl rfl ?_
    refine x_ic_eq (tgt := 60) dX12_pay_44 (by decide) h (fun h => ?_) (fun h => ?_)
    · refine x_aload_n 0 dX12_pay_60 rfl rfl ?_
      refine x_getR rfl ck_12 35 (by decide) rfl q_1084 dX12_pay_61 ?_
      refine x_iload_n 1 dX12_pay_64 rfl rfl ?_
      refine x_iconst (v := (1 : Int32)) dX12_pay_65 (by decide) ?_
      refine z_bnd h (fun a15 ha15 h => ?_)
      refine x_zastore ha15 ak_51 dX12_pay_66 h (fun S16 hS16 h => ?_)
      exact x_lo [0, 1, 2] rfl (k_X12_pay_67 h)
    · exact x_lo [0, 1, 2] rfl (k_X12_pay_47 h)
set_option maxRecDepth 20000 in
set_option maxHeartbeats 1000000 in
theorem w_X12_pay {n0 : Nat} {x1 : Int32} {x2 : Int32} {S : ZH} {q : Int32 × ZH} (h : f_X12_pay n0 x1 x2 S = some q) : MetX Y_X12_pay S [z_r 12 (some n0), z_i x1, z_i x2] (some (z_i q.1)) q.2 := by
  refine MetX.of (lo := [(0, z_r 12 (some n0)), (1, z_i x1), (2, z_i x2)]) rfl (by decide) (Nat.le_of_ble_eq_true rfl) ?_
  unfold f_X12_pay at h
  refine x_aload_n 0 dX12_pay_0 rfl rfl ?_
  refine x_iconst (v := (0 : Int32)) dX12_pay_1 (by decide) ?_
  refine x_putI rfl ck_12 0 (by decide) rfl (Or.inl rfl) (by rfl) rfl q_1049 dX12_pay_2 ?_
  refine x_aload_n 0 dX12_pay_5 rfl rfl ?_
  refine x_iload_n 1 dX12_pay_6 rfl rfl ?_
  refine z_bnd h (fun q1 hq1 h => ?_)
  refine x_callV1 rfl (w_X12_noTicket hq1) cw_X12_noTicket q_1490 ⟨by decide, by decide⟩ (Nat.le_of_ble_eq_true rfl) dX12_pay_7 rfl ?_
  refine x_if_ne (tgt := 26) dX12_pay_10 (by decide) h (fun h => ?_) (fun h => ?_)
  · refine x_iconst (v := (-1 : Int32)) dX12_pay_26 (by decide) ?_
    exact x_iretE rfl dX12_pay_27 h
  · refine x_iload_n 2 dX12_pay_13 rfl rfl ?_
    refine x_bipush (v := (-9 : Int32)) dX12_pay_14 (by decide) ?_
    refine x_ic_eq (tgt := 28) dX12_pay_16 (by decide) h (fun h => ?_) (fun h => ?_)
    · exact x_lo [0, 1, 2] rfl (k_X12_pay_28 h)
    · refine x_iload_n 2 dX12_pay_19 rfl rfl ?_
      refine z_bnd h (fun q17 hq17 h => ?_)
      refine x_callS1 (w_X12_noHolder hq17) cw_X12_noHolder q_1494 ⟨by decide, by decide⟩ (Nat.le_of_ble_eq_true rfl) dX12_pay_20 rfl ?_
      refine x_if_eq (tgt := 28) dX12_pay_23 (by decide) h (fun h => ?_) (fun h => ?_)
      · exact x_lo [0, 1, 2] rfl (k_X12_pay_28 h)
      · refine x_iconst (v := (-1 : Int32)) dX12_pay_26 (by decide) ?_
        exact x_iretE rfl dX12_pay_27 h
-- PressedMenModel ticketOf (II)I
abbrev Y_X12_ticketOf : ZM := (yX12_ticketOf, cX12_ticketOf, 3, (some .int), 2, 46)
theorem cw_X12_ticketOf : z_CV Y_X12_ticketOf 12 2 := ⟨⟨_, _, rfl⟩, by decide, q_1507, q_1508, q_1509, q_76, ⟨by decide, by decide⟩, rfl⟩
def f_X12_ticketOf (n0 : Nat) (x1 : Int32) (x2 : Int32) (S : ZH) : Option (Int32 × ZH) :=
  (f_X12_noTicket n0 x1 (zsI S 12 n0 0 (0 : Int32))).bind fun q1 =>
  if q1 = 0 then (
    if x2 = (0 : Int32) then (
      ((zR (zsI S 12 n0 0 (0 : Int32)) 12 n0 34)).bind fun a2 =>
      (zld (zsI S 12 n0 0 (0 : Int32)) 50 a2 x1).bind fun v3 =>
      some (v3, (zsI S 12 n0 0 (0 : Int32)))
    ) else (
      if x2 = (1 : Int32) then (
        ((zR (zsI S 12 n0 0 (0 : Int32)) 12 n0 35)).bind fun a5 =>
        (zld (zsI S 12 n0 0 (0 : Int32)) 51 a5 x1).bind fun v6 =>
        if v6 = 0 then (
          some ((0 : Int32), (zsI S 12 n0 0 (0 : Int32)))
        ) else (
          some ((1 : Int32), (zsI S 12 n0 0 (0 : Int32)))
        )
      ) else (
        if x2 = (2 : Int32) then (
          ((zR (zsI S 12 n0 0 (0 : Int32)) 12 n0 36)).bind fun a8 =>
          (zld (zsI S 12 n0 0 (0 : Int32)) 52 a8 x1).bind fun v9 =>
          some (v9, (zsI S 12 n0 0 (0 : Int32)))
        ) else (
          if x2 = (3 : Int32) then (
            ((zR (zsI S 12 n0 0 (0 : Int32)) 12 n0 33)).bind fun a11 =>
            (zld (zsI S 12 n0 0 (0 : Int32)) 49 a11 x1).bind fun v12 =>
            some (v12, (zsI S 12 n0 0 (0 : Int32)))
          ) else (
            some ((-2 : Int32), (zsI S 12 n0 0 (0 : Int32)))
          )
        )
      )
    )
  ) else (
    some ((-1 : Int32), (zsI S 12 n0 0 (0 : Int32)))
  )
set_option maxRecDepth 20000 in
set_option maxHeartbeats 1000000 in
theorem w_X12_ticketOf {n0 : Nat} {x1 : Int32} {x2 : Int32} {S : ZH} {q : Int32 × ZH} (h : f_X12_ticketOf n0 x1 x2 S = some q) : MetX Y_X12_ticketOf S [z_r 12 (some n0), z_i x1, z_i x2] (some (z_i q.1)) q.2 := by
  refine MetX.of (lo := [(0, z_r 12 (some n0)), (1, z_i x1), (2, z_i x2)]) rfl (by decide) (Nat.le_of_ble_eq_true rfl) ?_
  unfold f_X12_ticketOf at h
  refine x_aload_n 0 dX12_ticketOf_0 rfl rfl ?_
  refine x_iconst (v := (0 : Int32)) dX12_ticketOf_1 (by decide) ?_
  refine x_putI rfl ck_12 0 (by decide) rfl (Or.inl rfl) (by rfl) rfl q_1049 dX12_ticketOf_2 ?_
  refine x_aload_n 0 dX12_ticketOf_5 rfl rfl ?_
  refine x_iload_n 1 dX12_ticketOf_6 rfl rfl ?_
  refine z_bnd h (fun q1 hq1 h => ?_)
  refine x_callV1 rfl (w_X12_noTicket hq1) cw_X12_noTicket q_1490 ⟨by decide, by decide⟩ (Nat.le_of_ble_eq_true rfl) dX12_ticketOf_7 rfl ?_
  refine x_if_eq (tgt := 15) dX12_ticketOf_10 (by decide) h (fun h => ?_) (fun h => ?_)
  · refine x_iload_n 2 dX12_ticketOf_15 rfl rfl ?_
    refine z_ite h (fun hx4 h => ?_) (fun hx4 h => ?_)
    · refine x_tabIn (tgt := 48) dX12_ticketOf_16 hx4 (by decide) (by decide) rfl (by decide) ?_
      refine x_aload_n 0 dX12_ticketOf_48 rfl rfl ?_
      refine x_getR rfl ck_12 34 (by decide) rfl q_1083 dX12_ticketOf_49 ?_
      refine x_iload_n 1 dX12_ticketOf_52 rfl rfl ?_
      refine z_bnd h (fun a2 ha2 h => ?_)
      refine x_iaload ha2 ak_50 dX12_ticketOf_53 h (fun v3 hv3 h => ?_)
      exact x_iretE rfl dX12_ticketOf_54 h
    · refine z_ite h (fun hx7 h => ?_) (fun hx7 h => ?_)
      · refine x_tabIn (tgt := 55) dX12_ticketOf_16 hx7 (by decide) (by decide) rfl (by decide) ?_
        refine x_aload_n 0 dX12_ticketOf_55 rfl rfl ?_
        refine x_getR rfl ck_12 35 (by decide) rfl q_1084 dX12_ticketOf_56 ?_
        refine x_iload_n 1 dX12_ticketOf_59 rfl rfl ?_
        refine z_bnd h (fun a5 ha5 h => ?_)
        refine x_zaload ha5 ak_51 dX12_ticketOf_60 h (fun v6 hv6 h => ?_)
        refine x_if_eq (tgt := 68) dX12_ticketOf_61 (by decide) h (fun h => ?_) (fun h => ?_)
        · refine x_iconst (v := (0 : Int32)) dX12_ticketOf_68 (by decide) ?_
          exact x_iretE rfl dX12_ticketOf_69 h
        · refine x_iconst (v := (1 : Int32)) dX12_ticketOf_64 (by decide) ?_
          refine x_goto (tgt := 69) dX12_ticketOf_65 (by decide) ?_
          exact x_iretE rfl dX12_ticketOf_69 h
      · refine z_ite h (fun hx10 h => ?_) (fun hx10 h => ?_)
        · refine x_tabIn (tgt := 70) dX12_ticketOf_16 hx10 (by decide) (by decide) rfl (by decide) ?_
          refine x_aload_n 0 dX12_ticketOf_70 rfl rfl ?_
          refine x_getR rfl ck_12 36 (by decide) rfl q_1085 dX12_ticketOf_71 ?_
          refine x_iload_n 1 dX12_ticketOf_74 rfl rfl ?_
          refine z_bnd h (fun a8 ha8 h => ?_)
          refine x_iaload ha8 ak_52 dX12_ticketOf_75 h (fun v9 hv9 h => ?_)
          exact x_iretE rfl dX12_ticketOf_76 h
        · refine z_ite h (fun hx13 h => ?_) (fun hx13 h => ?_)
          · refine x_tabIn (tgt := 77) dX12_ticketOf_16 hx13 (by decide) (by decide) rfl (by decide) ?_
            refine x_aload_n 0 dX12_ticketOf_77 rfl rfl ?_
            refine x_getR rfl ck_12 33 (by decide) rfl q_1082 dX12_ticketOf_78 ?_
            refine x_iload_n 1 dX12_ticketOf_81 rfl rfl ?_
            refine z_bnd h (fun a11 ha11 h => ?_)
            refine x_iaload ha11 ak_49 dX12_ticketOf_82 h (fun v12 hv12 h => ?_)
            exact x_iretE rfl dX12_ticketOf_83 h
          · refine x_tabOut (tgt := 84) dX12_ticketOf_16 (by
                have hx4 := z_neI hx4 (n := 0) (by decide)
                have hx7 := z_neI hx7 (n := 1) (by decide)
                have hx10 := z_neI hx10 (n := 2) (by decide)
                have hx13 := z_neI hx13 (n := 3) (by decide)
                omega) (by decide) ?_
            refine x_bipush (v := (-2 : Int32)) dX12_ticketOf_84 (by decide) ?_
            exact x_iretE rfl dX12_ticketOf_86 h
  · refine x_iconst (v := (-1 : Int32)) dX12_ticketOf_13 (by decide) ?_
    exact x_iretE rfl dX12_ticketOf_14 h
-- PressedMenModel purse (I)I
abbrev Y_X12_purse : ZM := (yX12_purse, cX12_purse, 2, (some .int), 2, 45)
theorem cw_X12_purse : z_CV Y_X12_purse 12 1 := ⟨⟨_, _, rfl⟩, by decide, q_1511, q_1512, q_1513, q_76, ⟨by decide, by decide⟩, rfl⟩
def f_X12_purse (n0 : Nat) (x1 : Int32) (S : ZH) : Option (Int32 × ZH) :=
  (f_X12_noHolder x1 (zsI S 12 n0 0 (0 : Int32))).bind fun q1 =>
  if q1 = 0 then (
    ((zR (zsI S 12 n0 0 (0 : Int32)) 12 n0 37)).bind fun a2 =>
    (zld (zsI S 12 n0 0 (0 : Int32)) 53 a2 x1).bind fun v3 =>
    some ((v3 + (10000000 : Int32)), (zsI S 12 n0 0 (0 : Int32)))
  ) else (
    some ((-1 : Int32), (zsI S 12 n0 0 (0 : Int32)))
  )
set_option maxRecDepth 20000 in
set_option maxHeartbeats 1000000 in
theorem w_X12_purse {n0 : Nat} {x1 : Int32} {S : ZH} {q : Int32 × ZH} (h : f_X12_purse n0 x1 S = some q) : MetX Y_X12_purse S [z_r 12 (some n0), z_i x1] (some (z_i q.1)) q.2 := by
  refine MetX.of (lo := [(0, z_r 12 (some n0)), (1, z_i x1)]) rfl (by decide) (Nat.le_of_ble_eq_true rfl) ?_
  unfold f_X12_purse at h
  refine x_aload_n 0 dX12_purse_0 rfl rfl ?_
  refine x_iconst (v := (0 : Int32)) dX12_purse_1 (by decide) ?_
  refine x_putI rfl ck_12 0 (by decide) rfl (Or.inl rfl) (by rfl) rfl q_1049 dX12_purse_2 ?_
  refine x_iload_n 1 dX12_purse_5 rfl rfl ?_
  refine z_bnd h (fun q1 hq1 h => ?_)
  refine x_callS1 (w_X12_noHolder hq1) cw_X12_noHolder q_1494 ⟨by decide, by decide⟩ (Nat.le_of_ble_eq_true rfl) dX12_purse_6 rfl ?_
  refine x_if_eq (tgt := 16) dX12_purse_9 (by decide) h (fun h => ?_) (fun h => ?_)
  · refine x_aload_n 0 dX12_purse_16 rfl rfl ?_
    refine x_getR rfl ck_12 37 (by decide) rfl q_1086 dX12_purse_17 ?_
    refine x_iload_n 1 dX12_purse_20 rfl rfl ?_
    refine z_bnd h (fun a2 ha2 h => ?_)
    refine x_iaload ha2 ak_53 dX12_purse_21 h (fun v3 hv3 h => ?_)
    refine x_ldcw dX12_purse_22 q_1514.1 ?_
    refine x_iadd dX12_purse_25 ?_
    exact x_iretE rfl dX12_purse_26 h
  · refine x_iconst (v := (-1 : Int32)) dX12_purse_12 (by decide) ?_
    refine x_goto (tgt := 26) dX12_purse_13 (by decide) ?_
    exact x_iretE rfl dX12_purse_26 h
-- PressedMenModel wages (IZ)I
abbrev Y_X12_wages : ZM := (yX12_wages, cX12_wages, 5, (some .int), 2, 46)
theorem cw_X12_wages : z_CV Y_X12_wages 12 2 := ⟨⟨_, _, rfl⟩, by decide, q_1516, q_1517, q_1518, q_76, ⟨by decide, by decide⟩, rfl⟩
def b_X12_wages_33 (n0 : Nat) (x1 : Int32) (x2 : Int32) (S : ZH) (v : Int32 × Int32) : Option ((Int32 × Int32) ⊕ (Int32)) :=
  if (zI S 12 n0 31) ≤ v.2 then (
    some (Sum.inr v.1)
  ) else (
    if x2 = 0 then (
      some (Sum.inr v.1)
    ) else (
      ((zR S 12 n0 32)).bind fun a4 =>
      (zld S 48 a4 v.2).bind fun v5 =>
      if ¬ v5 = x1 then (
        some (Sum.inl ((v.1 + (0 : Int32)), (v.2 + 1)))
      ) else (
        ((zR S 12 n0 34)).bind fun a6 =>
        (zld S 50 a6 v.2).bind fun v7 =>
        if ¬ v7 = (-9 : Int32) then (
          some (Sum.inl ((v.1 + (0 : Int32)), (v.2 + 1)))
        ) else (
          ((zR S 12 n0 35)).bind fun a8 =>
          (zld S 51 a8 v.2).bind fun v9 =>
          if ¬ v9 = 0 then (
            some (Sum.inl ((v.1 + (0 : Int32)), (v.2 + 1)))
          ) else (
            ((zR S 12 n0 33)).bind fun a10 =>
            (zld S 49 a10 v.2).bind fun v11 =>
            some (Sum.inl ((v.1 + v11), (v.2 + 1)))
          )
        )
      )
    )
  )
def j_X12_wages_29 (n0 : Nat) (x1 : Int32) (x2 : Int32) (s0 : Int32) (S : ZH) : Option (Int32 × ZH) :=
  (z_iter zFU (b_X12_wages_33 n0 x1 x2 S) (s0, (0 : Int32))).bind fun t12 =>
  some (t12, S)
def f_X12_wages (n0 : Nat) (x1 : Int32) (x2 : Int32) (S : ZH) : Option (Int32 × ZH) :=
  (f_X12_noMan n0 x1 (zsI S 12 n0 0 (0 : Int32))).bind fun q1 =>
  if q1 = 0 then (
    if x2 = 0 then (
      ((zR (zsI S 12 n0 0 (0 : Int32)) 12 n0 38)).bind fun a2 =>
      (zld (zsI S 12 n0 0 (0 : Int32)) 54 a2 x1).bind fun v3 =>
      j_X12_wages_29 n0 x1 x2 v3 (zsI S 12 n0 0 (0 : Int32))
    ) else (
      j_X12_wages_29 n0 x1 x2 (0 : Int32) (zsI S 12 n0 0 (0 : Int32))
    )
  ) else (
    some ((-1 : Int32), (zsI S 12 n0 0 (0 : Int32)))
  )
set_option maxRecDepth 20000 in
theorem l_X12_wages_33 {S0 : ZH} {F : ZP} {n0 : Nat} {x1 : Int32} {x2 : Int32} {S : ZH} {v : Int32 × Int32} {t : Int32} (h : z_iter zFU (b_X12_wages_33 n0 x1 x2 S) v = some t) (k : (fun t => Wp Y_X12_wages S0 F 99 [(3, z_i t)] [] S) t) : Wp Y_X12_wages S0 F 33 [(0, z_r 12 (some n0)), (1, z_i x1), (2, z_i x2), (3, z_i v.1), (4, z_i v.2)] [] S := by
  refine z_iter_P (P := fun v : Int32 × Int32 => Wp Y_X12_wages S0 F 33 [(0, z_r 12 (some n0)), (1, z_i x1), (2, z_i x2), (3, z_i v.1), (4, z_i v.2)] [] S) (X := (fun t => Wp Y_X12_wages S0 F 99 [(3, z_i t)] [] S)) ?_ _ _ _ h k
  clear h k v t
  intro v r h k
  unfold b_X12_wages_33 at h
  refine x_iload 4 dX12_wages_33 rfl ?_
  refine x_aload_n 0 dX12_wages_35 rfl rfl ?_
  refine x_getI rfl ck_12 31 (by decide) rfl q_1080 dX12_wages_36 ?_
  refine x_ic_ge (tgt := 99) dX12_wages_39 (by decide) h (fun h => ?_) (fun h => ?_)
  · cases h
    exact x_lo [3] rfl k
  · refine x_iload_n 2 dX12_wages_42 rfl rfl ?_
    refine x_if_eq (tgt := 99) dX12_wages_43 (by decide) h (fun h => ?_) (fun h => ?_)
    · cases h
      exact x_lo [3] rfl k
    · refine x_iload_n 3 dX12_wages_46 rfl rfl ?_
      refine x_aload_n 0 dX12_wages_47 rfl rfl ?_
      refine x_getR rfl ck_12 32 (by decide) rfl q_1081 dX12_wages_48 ?_
      refine x_iload 4 dX12_wages_51 rfl ?_
      refine z_bnd h (fun a4 ha4 h => ?_)
      refine x_iaload ha4 ak_48 dX12_wages_53 h (fun v5 hv5 h => ?_)
      refine x_iload_n 1 dX12_wages_54 rfl rfl ?_
      refine x_ic_ne (tgt := 90) dX12_wages_55 (by decide) h (fun h => ?_) (fun h => ?_)
      · refine x_iconst (v := (0 : Int32)) dX12_wages_90 (by decide) ?_
        refine x_iadd dX12_wages_91 ?_
        refine x_istore_n (lo' := [(3, z_i (v.1 + (0 : Int32))), (0, z_r 12 (some n0)), (1, z_i x1), (2, z_i x2), (4, z_i v.2)]) dX12_wages_92 rfl (by decide) rfl ?_
        refine x_iinc (v := (v.2 + 1)) (lo' := [(4, z_i (v.2 + 1)), (3, z_i (v.1 + (0 : Int32))), (0, z_r 12 (some n0)), (1, z_i x1), (2, z_i x2)]) 4 dX12_wages_93 rfl (congrArg (HAdd.hAdd v.2) (by decide)) (by decide) rfl ?_
        refine x_goto (tgt := 33) dX12_wages_96 (by decide) ?_
        cases h
        exact x_lo [2, 3, 4, 1, 0] rfl k
      · refine x_aload_n 0 dX12_wages_58 rfl rfl ?_
        refine x_getR rfl ck_12 34 (by decide) rfl q_1083 dX12_wages_59 ?_
        refine x_iload 4 dX12_wages_62 rfl ?_
        refine z_bnd h (fun a6 ha6 h => ?_)
        refine x_iaload ha6 ak_50 dX12_wages_64 h (fun v7 hv7 h => ?_)
        refine x_bipush (v := (-9 : Int32)) dX12_wages_65 (by decide) ?_
        refine x_ic_ne (tgt := 90) dX12_wages_67 (by decide) h (fun h => ?_) (fun h => ?_)
        · refine x_iconst (v := (0 : Int32)) dX12_wages_90 (by decide) ?_
          refine x_iadd dX12_wages_91 ?_
          refine x_istore_n (lo' := [(3, z_i (v.1 + (0 : Int32))), (0, z_r 12 (some n0)), (1, z_i x1), (2, z_i x2), (4, z_i v.2)]) dX12_wages_92 rfl (by decide) rfl ?_
          refine x_iinc (v := (v.2 + 1)) (lo' := [(4, z_i (v.2 + 1)), (3, z_i (v.1 + (0 : Int32))), (0, z_r 12 (some n0)), (1, z_i x1), (2, z_i x2)]) 4 dX12_wages_93 rfl (congrArg (HAdd.hAdd v.2) (by decide)) (by decide) rfl ?_
          refine x_goto (tgt := 33) dX12_wages_96 (by decide) ?_
          cases h
          exact x_lo [2, 3, 4, 1, 0] rfl k
        · refine x_aload_n 0 dX12_wages_70 rfl rfl ?_
          refine x_getR rfl ck_12 35 (by decide) rfl q_1084 dX12_wages_71 ?_
          refine x_iload 4 dX12_wages_74 rfl ?_
          refine z_bnd h (fun a8 ha8 h => ?_)
          refine x_zaload ha8 ak_51 dX12_wages_76 h (fun v9 hv9 h => ?_)
          refine x_if_ne (tgt := 90) dX12_wages_77 (by decide) h (fun h => ?_) (fun h => ?_)
          · refine x_iconst (v := (0 : Int32)) dX12_wages_90 (by decide) ?_
            refine x_iadd dX12_wages_91 ?_
            refine x_istore_n (lo' := [(3, z_i (v.1 + (0 : Int32))), (0, z_r 12 (some n0)), (1, z_i x1), (2, z_i x2), (4, z_i v.2)]) dX12_wages_92 rfl (by decide) rfl ?_
            refine x_iinc (v := (v.2 + 1)) (lo' := [(4, z_i (v.2 + 1)), (3, z_i (v.1 + (0 : Int32))), (0, z_r 12 (some n0)), (1, z_i x1), (2, z_i x2)]) 4 dX12_wages_93 rfl (congrArg (HAdd.hAdd v.2) (by decide)) (by decide) rfl ?_
            refine x_goto (tgt := 33) dX12_wages_96 (by decide) ?_
            cases h
            exact x_lo [2, 3, 4, 1, 0] rfl k
          · refine x_aload_n 0 dX12_wages_80 rfl rfl ?_
            refine x_getR rfl ck_12 33 (by decide) rfl q_1082 dX12_wages_81 ?_
            refine x_iload 4 dX12_wages_84 rfl ?_
            refine z_bnd h (fun a10 ha10 h => ?_)
            refine x_iaload ha10 ak_49 dX12_wages_86 h (fun v11 hv11 h => ?_)
            refine x_goto (tgt := 91) dX12_wages_87 (by decide) ?_
            refine x_iadd dX12_wages_91 ?_
            refine x_istore_n (lo' := [(3, z_i (v.1 + v11)), (0, z_r 12 (some n0)), (1, z_i x1), (2, z_i x2), (4, z_i v.2)]) dX12_wages_92 rfl (by decide) rfl ?_
            refine x_iinc (v := (v.2 + 1)) (lo' := [(4, z_i (v.2 + 1)), (3, z_i (v.1 + v11)), (0, z_r 12 (some n0)), (1, z_i x1), (2, z_i x2)]) 4 dX12_wages_93 rfl (congrArg (HAdd.hAdd v.2) (by decide)) (by decide) rfl ?_
            refine x_goto (tgt := 33) dX12_wages_96 (by decide) ?_
            cases h
            exact x_lo [2, 3, 4, 1, 0] rfl k
set_option maxRecDepth 20000 in
theorem k_X12_wages_29 {S0 : ZH} {n0 : Nat} {x1 : Int32} {x2 : Int32} {s0 : Int32} {S : ZH} {z : Int32 × ZH} (h : j_X12_wages_29 n0 x1 x2 s0 S = some z) : Wp Y_X12_wages S0 (zF S0 (some (z_i z.1)) z.2) 29 [(0, z_r 12 (some n0)), (1, z_i x1), (2, z_i x2)] [z_i s0] S := by
  unfold j_X12_wages_29 at h
  refine x_istore_n (lo' := [(3, z_i s0), (0, z_r 12 (some n0)), (1, z_i x1), (2, z_i x2)]) dX12_wages_29 rfl (by decide) rfl ?_
  refine x_iconst (v := (0 : Int32)) dX12_wages_30 (by decide) ?_
  refine x_istore (lo' := [(4, z_i (0 : Int32)), (3, z_i s0), (0, z_r 12 (some n0)), (1, z_i x1), (2, z_i x2)]) dX12_wages_31 (by decide) rfl ?_
  refine z_bnd h (fun t12 ht12 h => ?_)
  refine x_lo [2, 3, 4, 1, 0] rfl ?_
  refine l_X12_wages_33 ht12 ?_
  refine x_iload_n 0 dX12_wages_99 rfl rfl ?_
  exact x_iretE rfl dX12_wages_100 h
set_option maxRecDepth 20000 in
set_option maxHeartbeats 1000000 in
theorem w_X12_wages {n0 : Nat} {x1 : Int32} {x2 : Int32} {S : ZH} {q : Int32 × ZH} (h : f_X12_wages n0 x1 x2 S = some q) : MetX Y_X12_wages S [z_r 12 (some n0), z_i x1, z_i x2] (some (z_i q.1)) q.2 := by
  refine MetX.of (lo := [(0, z_r 12 (some n0)), (1, z_i x1), (2, z_i x2)]) rfl (by decide) (Nat.le_of_ble_eq_true rfl) ?_
  unfold f_X12_wages at h
  refine x_aload_n 0 dX12_wages_0 rfl rfl ?_
  refine x_iconst (v := (0 : Int32)) dX12_wages_1 (by decide) ?_
  refine x_putI rfl ck_12 0 (by decide) rfl (Or.inl rfl) (by rfl) rfl q_1049 dX12_wages_2 ?_
  refine x_aload_n 0 dX12_wages_5 rfl rfl ?_
  refine x_iload_n 1 dX12_wages_6 rfl rfl ?_
  refine z_bnd h (fun q1 hq1 h => ?_)
  refine x_callV1 rfl (w_X12_noMan hq1) cw_X12_noMan q_1206 ⟨by decide, by decide⟩ (Nat.le_of_ble_eq_true rfl) dX12_wages_7 rfl ?_
  refine x_if_eq (tgt := 15) dX12_wages_10 (by decide) h (fun h => ?_) (fun h => ?_)
  · refine x_iload_n 2 dX12_wages_15 rfl rfl ?_
    refine x_if_eq (tgt := 23) dX12_wages_16 (by decide) h (fun h => ?_) (fun h => ?_)
    · refine x_aload_n 0 dX12_wages_23 rfl rfl ?_
      refine x_getR rfl ck_12 38 (by decide) rfl q_1087 dX12_wages_24 ?_
      refine x_iload_n 1 dX12_wages_27 rfl rfl ?_
      refine z_bnd h (fun a2 ha2 h => ?_)
      refine x_iaload ha2 ak_54 dX12_wages_28 h (fun v3 hv3 h => ?_)
      exact x_lo [0, 1, 2] rfl (k_X12_wages_29 h)
    · refine x_iconst (v := (0 : Int32)) dX12_wages_19 (by decide) ?_
      refine x_goto (tgt := 29) dX12_wages_20 (by decide) ?_
      exact x_lo [0, 1, 2] rfl (k_X12_wages_29 h)
  · refine x_iconst (v := (-1 : Int32)) dX12_wages_13 (by decide) ?_
    exact x_iretE rfl dX12_wages_14 h
-- PressedMenModel count (I)I
abbrev Y_X12_count : ZM := (yX12_count, cX12_count, 4, (some .int), 2, 45)
theorem cw_X12_count : z_CV Y_X12_count 12 1 := ⟨⟨_, _, rfl⟩, by decide, q_1520, q_1521, q_1522, q_76, ⟨by decide, by decide⟩, rfl⟩
def b_X12_count_9 (n0 : Nat) (x1 : Int32) (S : ZH) (v : Int32 × Int32) : Option ((Int32 × Int32) ⊕ (Int32)) :=
  if (zI S 12 n0 5) ≤ v.2 then (
    some (Sum.inr v.1)
  ) else (
    (f_X12_placeOf n0 v.2 S).bind fun q1 =>
    (f_X12_isStreet q1 S).bind fun q2 =>
    if q2 = 0 then (
      some (Sum.inl ((v.1 + (1 : Int32)), (v.2 + 1)))
    ) else (
      some (Sum.inl ((v.1 + (0 : Int32)), (v.2 + 1)))
    )
  )
def f_X12_count (n0 : Nat) (x1 : Int32) (S : ZH) : Option (Int32 × ZH) :=
  (z_iter zFU (b_X12_count_9 n0 x1 (zsI S 12 n0 0 (0 : Int32))) ((0 : Int32), (0 : Int32))).bind fun t3 =>
  if x1 = (0 : Int32) then (
    some ((zI (zsI S 12 n0 0 (0 : Int32)) 12 n0 5), (zsI S 12 n0 0 (0 : Int32)))
  ) else (
    if x1 = (1 : Int32) then (
      some ((zI (zsI S 12 n0 0 (0 : Int32)) 12 n0 9), (zsI S 12 n0 0 (0 : Int32)))
    ) else (
      if x1 = (2 : Int32) then (
        some ((zI (zsI S 12 n0 0 (0 : Int32)) 12 n0 15), (zsI S 12 n0 0 (0 : Int32)))
      ) else (
        if x1 = (3 : Int32) then (
          some ((zI (zsI S 12 n0 0 (0 : Int32)) 12 n0 17), (zsI S 12 n0 0 (0 : Int32)))
        ) else (
          if x1 = (4 : Int32) then (
            some ((zI (zsI S 12 n0 0 (0 : Int32)) 12 n0 22), (zsI S 12 n0 0 (0 : Int32)))
          ) else (
            if x1 = (5 : Int32) then (
              some ((zI (zsI S 12 n0 0 (0 : Int32)) 12 n0 31), (zsI S 12 n0 0 (0 : Int32)))
            ) else (
              if x1 = (6 : Int32) then (
                some (t3, (zsI S 12 n0 0 (0 : Int32)))
              ) else (
                if x1 = (7 : Int32) then (
                  some ((zI (zsI S 12 n0 0 (0 : Int32)) 12 n0 1), (zsI S 12 n0 0 (0 : Int32)))
                ) else (
                  some ((-2 : Int32), (zsI S 12 n0 0 (0 : Int32)))
                )
              )
            )
          )
        )
      )
    )
  )
set_option maxRecDepth 20000 in
theorem l_X12_count_9 {S0 : ZH} {F : ZP} {n0 : Nat} {x1 : Int32} {S : ZH} {v : Int32 × Int32} {t : Int32} (h : z_iter zFU (b_X12_count_9 n0 x1 S) v = some t) (k : (fun t => Wp Y_X12_count S0 F 42 [(0, z_r 12 (some n0)), (1, z_i x1), (2, z_i t)] [] S) t) : Wp Y_X12_count S0 F 9 [(0, z_r 12 (some n0)), (1, z_i x1), (2, z_i v.1), (3, z_i v.2)] [] S := by
  refine z_iter_P (P := fun v : Int32 × Int32 => Wp Y_X12_count S0 F 9 [(0, z_r 12 (some n0)), (1, z_i x1), (2, z_i v.1), (3, z_i v.2)] [] S) (X := (fun t => Wp Y_X12_count S0 F 42 [(0, z_r 12 (some n0)), (1, z_i x1), (2, z_i t)] [] S)) ?_ _ _ _ h k
  clear h k v t
  intro v r h k
  unfold b_X12_count_9 at h
  refine x_iload_n 3 dX12_count_9 rfl rfl ?_
  refine x_aload_n 0 dX12_count_10 rfl rfl ?_
  refine x_getI rfl ck_12 5 (by decide) rfl q_1054 dX12_count_11 ?_
  refine x_ic_ge (tgt := 42) dX12_count_14 (by decide) h (fun h => ?_) (fun h => ?_)
  · cases h
    exact x_lo [0, 1, 2] rfl k
  · refine x_iload_n 2 dX12_count_17 rfl rfl ?_
    refine x_aload_n 0 dX12_count_18 rfl rfl ?_
    refine x_iload_n 3 dX12_count_19 rfl rfl ?_
    refine z_bnd h (fun q1 hq1 h => ?_)
    refine x_callV1 rfl (w_X12_placeOf hq1) cw_X12_placeOf q_1229 ⟨by decide, by decide⟩ (Nat.le_of_ble_eq_true rfl) dX12_count_20 rfl ?_
    refine z_bnd h (fun q2 hq2 h => ?_)
    refine x_callS1 (w_X12_isStreet hq2) cw_X12_isStreet q_1245 ⟨by decide, by decide⟩ (Nat.le_of_ble_eq_true rfl) dX12_count_23 rfl ?_
    refine x_if_eq (tgt := 33) dX12_count_26 (by decide) h (fun h => ?_) (fun h => ?_)
    · refine x_iconst (v := (1 : Int32)) dX12_count_33 (by decide) ?_
      refine x_iadd dX12_count_34 ?_
      refine x_istore_n (lo' := [(2, z_i (v.1 + (1 : Int32))), (0, z_r 12 (some n0)), (1, z_i x1), (3, z_i v.2)]) dX12_count_35 rfl (by decide) rfl ?_
      refine x_iinc (v := (v.2 + 1)) (lo' := [(3, z_i (v.2 + 1)), (2, z_i (v.1 + (1 : Int32))), (0, z_r 12 (some n0)), (1, z_i x1)]) 3 dX12_count_36 rfl (congrArg (HAdd.hAdd v.2) (by decide)) (by decide) rfl ?_
      refine x_goto (tgt := 9) dX12_count_39 (by decide) ?_
      cases h
      exact x_lo [2, 3, 1, 0] rfl k
    · refine x_iconst (v := (0 : Int32)) dX12_count_29 (by decide) ?_
      refine x_goto (tgt := 34) dX12_count_30 (by decide) ?_
      refine x_iadd dX12_count_34 ?_
      refine x_istore_n (lo' := [(2, z_i (v.1 + (0 : Int32))), (0, z_r 12 (some n0)), (1, z_i x1), (3, z_i v.2)]) dX12_count_35 rfl (by decide) rfl ?_
      refine x_iinc (v := (v.2 + 1)) (lo' := [(3, z_i (v.2 + 1)), (2, z_i (v.1 + (0 : Int32))), (0, z_r 12 (some n0)), (1, z_i x1)]) 3 dX12_count_36 rfl (congrArg (HAdd.hAdd v.2) (by decide)) (by decide) rfl ?_
      refine x_goto (tgt := 9) dX12_count_39 (by decide) ?_
      cases h
      exact x_lo [2, 3, 1, 0] rfl k
set_option maxRecDepth 20000 in
set_option maxHeartbeats 1000000 in
theorem w_X12_count {n0 : Nat} {x1 : Int32} {S : ZH} {q : Int32 × ZH} (h : f_X12_count n0 x1 S = some q) : MetX Y_X12_count S [z_r 12 (some n0), z_i x1] (some (z_i q.1)) q.2 := by
  refine MetX.of (lo := [(0, z_r 12 (some n0)), (1, z_i x1)]) rfl (by decide) (Nat.le_of_ble_eq_true rfl) ?_
  unfold f_X12_count at h
  refine x_aload_n 0 dX12_count_0 rfl rfl ?_
  refine x_iconst (v := (0 : Int32)) dX12_count_1 (by decide) ?_
  refine x_putI rfl ck_12 0 (by decide) rfl (Or.inl rfl) (by rfl) rfl q_1049 dX12_count_2 ?_
  refine x_iconst (v := (0 : Int32)) dX12_count_5 (by decide) ?_
  refine x_istore_n (lo' := [(2, z_i (0 : Int32)), (0, z_r 12 (some n0)), (1, z_i x1)]) dX12_count_6 rfl (by decide) rfl ?_
  refine x_iconst (v := (0 : Int32)) dX12_count_7 (by decide) ?_
  refine x_istore_n (lo' := [(3, z_i (0 : Int32)), (2, z_i (0 : Int32)), (0, z_r 12 (some n0)), (1, z_i x1)]) dX12_count_8 rfl (by decide) rfl ?_
  refine z_bnd h (fun t3 ht3 h => ?_)
  refine x_lo [2, 3, 1, 0] rfl ?_
  refine l_X12_count_9 ht3 ?_
  refine x_iload_n 1 dX12_count_42 rfl rfl ?_
  refine z_ite h (fun hx4 h => ?_) (fun hx4 h => ?_)
  · refine x_tabIn (tgt := 88) dX12_count_43 hx4 (by decide) (by decide) rfl (by decide) ?_
    refine x_aload_n 0 dX12_count_88 rfl rfl ?_
    refine x_getI rfl ck_12 5 (by decide) rfl q_1054 dX12_count_89 ?_
    exact x_iretE rfl dX12_count_92 h
  · refine z_ite h (fun hx5 h => ?_) (fun hx5 h => ?_)
    · refine x_tabIn (tgt := 93) dX12_count_43 hx5 (by decide) (by decide) rfl (by decide) ?_
      refine x_aload_n 0 dX12_count_93 rfl rfl ?_
      refine x_getI rfl ck_12 9 (by decide) rfl q_1058 dX12_count_94 ?_
      exact x_iretE rfl dX12_count_97 h
    · refine z_ite h (fun hx6 h => ?_) (fun hx6 h => ?_)
      · refine x_tabIn (tgt := 98) dX12_count_43 hx6 (by decide) (by decide) rfl (by decide) ?_
        refine x_aload_n 0 dX12_count_98 rfl rfl ?_
        refine x_getI rfl ck_12 15 (by decide) rfl q_1064 dX12_count_99 ?_
        exact x_iretE rfl dX12_count_102 h
      · refine z_ite h (fun hx7 h => ?_) (fun hx7 h => ?_)
        · refine x_tabIn (tgt := 103) dX12_count_43 hx7 (by decide) (by decide) rfl (by decide) ?_
          refine x_aload_n 0 dX12_count_103 rfl rfl ?_
          refine x_getI rfl ck_12 17 (by decide) rfl q_1066 dX12_count_104 ?_
          exact x_iretE rfl dX12_count_107 h
        · refine z_ite h (fun hx8 h => ?_) (fun hx8 h => ?_)
          · refine x_tabIn (tgt := 108) dX12_count_43 hx8 (by decide) (by decide) rfl (by decide) ?_
            refine x_aload_n 0 dX12_count_108 rfl rfl ?_
            refine x_getI rfl ck_12 22 (by decide) rfl q_1071 dX12_count_109 ?_
            exact x_iretE rfl dX12_count_112 h
          · refine z_ite h (fun hx9 h => ?_) (fun hx9 h => ?_)
            · refine x_tabIn (tgt := 113) dX12_count_43 hx9 (by decide) (by decide) rfl (by decide) ?_
              refine x_aload_n 0 dX12_count_113 rfl rfl ?_
              refine x_getI rfl ck_12 31 (by decide) rfl q_1080 dX12_count_114 ?_
              exact x_iretE rfl dX12_count_117 h
            · refine z_ite h (fun hx10 h => ?_) (fun hx10 h => ?_)
              · refine x_tabIn (tgt := 118) dX12_count_43 hx10 (by decide) (by decide) rfl (by decide) ?_
                refine x_iload_n 2 dX12_count_118 rfl rfl ?_
                exact x_iretE rfl dX12_count_119 h
              · refine z_ite h (fun hx11 h => ?_) (fun hx11 h => ?_)
                · refine x_tabIn (tgt := 120) dX12_count_43 hx11 (by decide) (by decide) rfl (by decide) ?_
                  refine x_aload_n 0 dX12_count_120 rfl rfl ?_
                  refine x_getI rfl ck_12 1 (by decide) rfl q_1050 dX12_count_121 ?_
                  exact x_iretE rfl dX12_count_124 h
                · refine x_tabOut (tgt := 125) dX12_count_43 (by
                      have hx4 := z_neI hx4 (n := 0) (by decide)
                      have hx5 := z_neI hx5 (n := 1) (by decide)
                      have hx6 := z_neI hx6 (n := 2) (by decide)
                      have hx7 := z_neI hx7 (n := 3) (by decide)
                      have hx8 := z_neI hx8 (n := 4) (by decide)
                      have hx9 := z_neI hx9 (n := 5) (by decide)
                      have hx10 := z_neI hx10 (n := 6) (by decide)
                      have hx11 := z_neI hx11 (n := 7) (by decide)
                      omega) (by decide) ?_
                  refine x_bipush (v := (-2 : Int32)) dX12_count_125 (by decide) ?_
                  exact x_iretE rfl dX12_count_127 h
