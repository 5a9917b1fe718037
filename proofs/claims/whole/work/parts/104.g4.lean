-- PressedMen taken (II)I
abbrev Y_X11_taken : ZM := (yX11_taken, cX11_taken, 4, (some .int), 3, 69)
theorem cw_X11_taken : z_CV Y_X11_taken 11 2 := ⟨⟨_, _, rfl⟩, by decide, q_920, q_921, q_922, q_70, ⟨by decide, by decide⟩, rfl⟩
def f_X11_taken (n0 : Nat) (x1 : Int32) (x2 : Int32) (S : ZH) : Option (Int32 × ZH) :=
  (f_X11_kingsAtHome n0 S).bind fun q1 =>
  (f_X11_isWeather x2 S).bind fun q2 =>
  if q2 = 0 then (
    some ((-2 : Int32), S)
  ) else (
    if (x1 &&& (q1 ^^^ (-1 : Int32))) = 0 then (
      (f_X11_musterLevy n0 x2 S).bind fun q3 =>
      (f_X11_leastTaken n0 x1 q3).bind fun q4 =>
      some (q4, q3)
    ) else (
      some ((-2 : Int32), S)
    )
  )
set_option maxRecDepth 20000 in
set_option maxHeartbeats 1000000 in
theorem w_X11_taken {n0 : Nat} {x1 : Int32} {x2 : Int32} {S : ZH} {q : Int32 × ZH} (h : f_X11_taken n0 x1 x2 S = some q) : MetX Y_X11_taken S [z_r 11 (some n0), z_i x1, z_i x2] (some (z_i q.1)) q.2 := by
  refine MetX.of (lo := [(0, z_r 11 (some n0)), (1, z_i x1), (2, z_i x2)]) rfl (by decide) (Nat.le_of_ble_eq_true rfl) ?_
  unfold f_X11_taken at h
  refine x_aload_n 0 dX11_taken_0 rfl rfl ?_
  refine z_bnd h (fun q1 hq1 h => ?_)
  refine x_callV1 rfl (w_X11_kingsAtHome hq1) cw_X11_kingsAtHome q_923 ⟨by decide, by decide⟩ (Nat.le_of_ble_eq_true rfl) dX11_taken_1 rfl ?_
  refine x_istore_n (lo' := [(3, z_i q1), (0, z_r 11 (some n0)), (1, z_i x1), (2, z_i x2)]) dX11_taken_4 rfl (by decide) rfl ?_
  refine x_iload_n 3 dX11_taken_5 rfl rfl ?_
  refine z_bnd h (fun q2 hq2 h => ?_)
  refine x_callS1 (w_X11_isWeather hq2) cw_X11_isWeather q_896 ⟨by decide, by decide⟩ (Nat.le_of_ble_eq_true rfl) dX11_taken_6 rfl ?_
  refine x_if_eq (tgt := 20) dX11_taken_9 (by decide) h (fun h => ?_) (fun h => ?_)
  · refine x_bipush (v := (-2 : Int32)) dX11_taken_20 (by decide) ?_
    exact x_iretE rfl dX11_taken_22 h
  · refine x_iload_n 2 dX11_taken_12 rfl rfl ?_
    refine x_iload_n 0 dX11_taken_13 rfl rfl ?_
    refine x_iconst (v := (-1 : Int32)) dX11_taken_14 (by decide) ?_
    refine x_ixor dX11_taken_15 ?_
    refine x_iand dX11_taken_16 ?_
    refine x_if_eq (tgt := 23) dX11_taken_17 (by decide) h (fun h => ?_) (fun h => ?_)
    · refine x_aload_n 1 dX11_taken_23 rfl rfl ?_
      refine x_iload_n 3 dX11_taken_24 rfl rfl ?_
      refine z_bnd h (fun q3 hq3 h => ?_)
      refine x_callVv rfl (w_X11_musterLevy hq3) cw_X11_musterLevy q_927 ⟨by decide, by decide⟩ (Nat.le_of_ble_eq_true rfl) dX11_taken_25 rfl ?_
      refine x_aload_n 1 dX11_taken_28 rfl rfl ?_
      refine x_iload_n 2 dX11_taken_29 rfl rfl ?_
      refine z_bnd h (fun q4 hq4 h => ?_)
      refine x_callV1 rfl (w_X11_leastTaken hq4) cw_X11_leastTaken q_944 ⟨by decide, by decide⟩ (Nat.le_of_ble_eq_true rfl) dX11_taken_30 rfl ?_
      exact x_iretE rfl dX11_taken_33 h
    · refine x_bipush (v := (-2 : Int32)) dX11_taken_20 (by decide) ?_
      exact x_iretE rfl dX11_taken_22 h
-- java/lang/Integer bitCount (I)I
abbrev Y_J6_bitCount_0f7a4 : ZM := (yJ6_bitCount_0f7a4, cJ6_bitCount_0f7a4, 1, (some .int), 0, 0)
theorem cw_J6_bitCount_0f7a4 : z_CS Y_J6_bitCount_0f7a4 1 := ⟨q_958, q_959, q_86, ⟨by decide, by decide⟩, rfl⟩
def f_J6_bitCount_0f7a4 (x0 : Int32) (S : ZH) : Option (Int32) :=
  some ((((((((x0 - (((x0).toUInt32 >>> (((1 : Int32)).toUInt32 &&& Int32.toUInt32 31)).toInt32 &&& (1431655765 : Int32))) &&& (858993459 : Int32)) + ((((x0 - (((x0).toUInt32 >>> (((1 : Int32)).toUInt32 &&& Int32.toUInt32 31)).toInt32 &&& (1431655765 : Int32)))).toUInt32 >>> (((2 : Int32)).toUInt32 &&& Int32.toUInt32 31)).toInt32 &&& (858993459 : Int32))) + (((((x0 - (((x0).toUInt32 >>> (((1 : Int32)).toUInt32 &&& Int32.toUInt32 31)).toInt32 &&& (1431655765 : Int32))) &&& (858993459 : Int32)) + ((((x0 - (((x0).toUInt32 >>> (((1 : Int32)).toUInt32 &&& Int32.toUInt32 31)).toInt32 &&& (1431655765 : Int32)))).toUInt32 >>> (((2 : Int32)).toUInt32 &&& Int32.toUInt32 31)).toInt32 &&& (858993459 : Int32)))).toUInt32 >>> (((4 : Int32)).toUInt32 &&& Int32.toUInt32 31)).toInt32) &&& (252645135 : Int32)) + (((((((x0 - (((x0).toUInt32 >>> (((1 : Int32)).toUInt32 &&& Int32.toUInt32 31)).toInt32 &&& (1431655765 : Int32))) &&& (858993459 : Int32)) + ((((x0 - (((x0).toUInt32 >>> (((1 : Int32)).toUInt32 &&& Int32.toUInt32 31)).toInt32 &&& (1431655765 : Int32)))).toUInt32 >>> (((2 : Int32)).toUInt32 &&& Int32.toUInt32 31)).toInt32 &&& (858993459 : Int32))) + (((((x0 - (((x0).toUInt32 >>> (((1 : Int32)).toUInt32 &&& Int32.toUInt32 31)).toInt32 &&& (1431655765 : Int32))) &&& (858993459 : Int32)) + ((((x0 - (((x0).toUInt32 >>> (((1 : Int32)).toUInt32 &&& Int32.toUInt32 31)).toInt32 &&& (1431655765 : Int32)))).toUInt32 >>> (((2 : Int32)).toUInt32 &&& Int32.toUInt32 31)).toInt32 &&& (858993459 : Int32)))).toUInt32 >>> (((4 : Int32)).toUInt32 &&& Int32.toUInt32 31)).toInt32) &&& (252645135 : Int32))).toUInt32 >>> (((8 : Int32)).toUInt32 &&& Int32.toUInt32 31)).toInt32) + ((((((((x0 - (((x0).toUInt32 >>> (((1 : Int32)).toUInt32 &&& Int32.toUInt32 31)).toInt32 &&& (1431655765 : Int32))) &&& (858993459 : Int32)) + ((((x0 - (((x0).toUInt32 >>> (((1 : Int32)).toUInt32 &&& Int32.toUInt32 31)).toInt32 &&& (1431655765 : Int32)))).toUInt32 >>> (((2 : Int32)).toUInt32 &&& Int32.toUInt32 31)).toInt32 &&& (858993459 : Int32))) + (((((x0 - (((x0).toUInt32 >>> (((1 : Int32)).toUInt32 &&& Int32.toUInt32 31)).toInt32 &&& (1431655765 : Int32))) &&& (858993459 : Int32)) + ((((x0 - (((x0).toUInt32 >>> (((1 : Int32)).toUInt32 &&& Int32.toUInt32 31)).toInt32 &&& (1431655765 : Int32)))).toUInt32 >>> (((2 : Int32)).toUInt32 &&& Int32.toUInt32 31)).toInt32 &&& (858993459 : Int32)))).toUInt32 >>> (((4 : Int32)).toUInt32 &&& Int32.toUInt32 31)).toInt32) &&& (252645135 : Int32)) + (((((((x0 - (((x0).toUInt32 >>> (((1 : Int32)).toUInt32 &&& Int32.toUInt32 31)).toInt32 &&& (1431655765 : Int32))) &&& (858993459 : Int32)) + ((((x0 - (((x0).toUInt32 >>> (((1 : Int32)).toUInt32 &&& Int32.toUInt32 31)).toInt32 &&& (1431655765 : Int32)))).toUInt32 >>> (((2 : Int32)).toUInt32 &&& Int32.toUInt32 31)).toInt32 &&& (858993459 : Int32))) + (((((x0 - (((x0).toUInt32 >>> (((1 : Int32)).toUInt32 &&& Int32.toUInt32 31)).toInt32 &&& (1431655765 : Int32))) &&& (858993459 : Int32)) + ((((x0 - (((x0).toUInt32 >>> (((1 : Int32)).toUInt32 &&& Int32.toUInt32 31)).toInt32 &&& (1431655765 : Int32)))).toUInt32 >>> (((2 : Int32)).toUInt32 &&& Int32.toUInt32 31)).toInt32 &&& (858993459 : Int32)))).toUInt32 >>> (((4 : Int32)).toUInt32 &&& Int32.toUInt32 31)).toInt32) &&& (252645135 : Int32))).toUInt32 >>> (((8 : Int32)).toUInt32 &&& Int32.toUInt32 31)).toInt32)).toUInt32 >>> (((16 : Int32)).toUInt32 &&& Int32.toUInt32 31)).toInt32) &&& (63 : Int32))
set_option maxRecDepth 20000 in
set_option maxHeartbeats 1000000 in
theorem w_J6_bitCount_0f7a4 {x0 : Int32} {S : ZH} {q : Int32} (h : f_J6_bitCount_0f7a4 x0 S = some q) : MetX Y_J6_bitCount_0f7a4 S [z_i x0] (some (z_i q)) S := by
  refine MetX.ofF (lo := [(0, z_i x0)]) rfl (by decide +kernel) (Nat.le_of_ble_eq_true rfl) ?_
  unfold f_J6_bitCount_0f7a4 at h
  refine x_iload_n 0 dJ6_bitCount_0f7a4_0 rfl rfl ?_
  refine x_iload_n 0 dJ6_bitCount_0f7a4_1 rfl rfl ?_
  refine x_iconst (v := (1 : Int32)) dJ6_bitCount_0f7a4_2 (by decide) ?_
  refine x_iushr dJ6_bitCount_0f7a4_3 ?_
  refine x_ldcw dJ6_bitCount_0f7a4_4 q_960.1 ?_
  refine x_iand dJ6_bitCount_0f7a4_7 ?_
  refine x_isub dJ6_bitCount_0f7a4_8 ?_
  refine x_istore_n (lo' := [(0, z_i (x0 - (((x0).toUInt32 >>> (((1 : Int32)).toUInt32 &&& Int32.toUInt32 31)).toInt32 &&& (1431655765 : Int32))))]) dJ6_bitCount_0f7a4_9 rfl (by decide) rfl ?_
  refine x_iload_n 0 dJ6_bitCount_0f7a4_10 rfl rfl ?_
  refine x_ldcw dJ6_bitCount_0f7a4_11 q_961.1 ?_
  refine x_iand dJ6_bitCount_0f7a4_14 ?_
  refine x_iload_n 0 dJ6_bitCount_0f7a4_15 rfl rfl ?_
  refine x_iconst (v := (2 : Int32)) dJ6_bitCount_0f7a4_16 (by decide) ?_
  refine x_iushr dJ6_bitCount_0f7a4_17 ?_
  refine x_ldcw dJ6_bitCount_0f7a4_18 q_961.1 ?_
  refine x_iand dJ6_bitCount_0f7a4_21 ?_
  refine x_iadd dJ6_bitCount_0f7a4_22 ?_
  refine x_istore_n (lo' := [(0, z_i (((x0 - (((x0).toUInt32 >>> (((1 : Int32)).toUInt32 &&& Int32.toUInt32 31)).toInt32 &&& (1431655765 : Int32))) &&& (858993459 : Int32)) + ((((x0 - (((x0).toUInt32 >>> (((1 : Int32)).toUInt32 &&& Int32.toUInt32 31)).toInt32 &&& (1431655765 : Int32)))).toUInt32 >>> (((2 : Int32)).toUInt32 &&& Int32.toUInt32 31)).toInt32 &&& (858993459 : Int32))))]) dJ6_bitCount_0f7a4_23 rfl (by decide) rfl ?_
  refine x_iload_n 0 dJ6_bitCount_0f7a4_24 rfl rfl ?_
  refine x_iload_n 0 dJ6_bitCount_0f7a4_25 rfl rfl ?_
  refine x_iconst (v := (4 : Int32)) dJ6_bitCount_0f7a4_26 (by decide) ?_
  refine x_iushr dJ6_bitCount_0f7a4_27 ?_
  refine x_iadd dJ6_bitCount_0f7a4_28 ?_
  refine x_ldcw dJ6_bitCount_0f7a4_29 q_962.1 ?_
  refine x_iand dJ6_bitCount_0f7a4_32 ?_
  refine x_istore_n (lo' := [(0, z_i (((((x0 - (((x0).toUInt32 >>> (((1 : Int32)).toUInt32 &&& Int32.toUInt32 31)).toInt32 &&& (1431655765 : Int32))) &&& (858993459 : Int32)) + ((((x0 - (((x0).toUInt32 >>> (((1 : Int32)).toUInt32 &&& Int32.toUInt32 31)).toInt32 &&& (1431655765 : Int32)))).toUInt32 >>> (((2 : Int32)).toUInt32 &&& Int32.toUInt32 31)).toInt32 &&& (858993459 : Int32))) + (((((x0 - (((x0).toUInt32 >>> (((1 : Int32)).toUInt32 &&& Int32.toUInt32 31)).toInt32 &&& (1431655765 : Int32))) &&& (858993459 : Int32)) + ((((x0 - (((x0).toUInt32 >>> (((1 : Int32)).toUInt32 &&& Int32.toUInt32 31)).toInt32 &&& (1431655765 : Int32)))).toUInt32 >>> (((2 : Int32)).toUInt32 &&& Int32.toUInt32 31)).toInt32 &&& (858993459 : Int32)))).toUInt32 >>> (((4 : Int32)).toUInt32 &&& Int32.toUInt32 31)).toInt32) &&& (252645135 : Int32)))]) dJ6_bitCount_0f7a4_33 rfl (by decide) rfl ?_
  refine x_iload_n 0 dJ6_bitCount_0f7a4_34 rfl rfl ?_
  refine x_iload_n 0 dJ6_bitCount_0f7a4_35 rfl rfl ?_
  refine x_bipush (v := (8 : Int32)) dJ6_bitCount_0f7a4_36 (by decide) ?_
  refine x_iushr dJ6_bitCount_0f7a4_38 ?_
  refine x_iadd dJ6_bitCount_0f7a4_39 ?_
  refine x_istore_n (lo' := [(0, z_i ((((((x0 - (((x0).toUInt32 >>> (((1 : Int32)).toUInt32 &&& Int32.toUInt32 31)).toInt32 &&& (1431655765 : Int32))) &&& (858993459 : Int32)) + ((((x0 - (((x0).toUInt32 >>> (((1 : Int32)).toUInt32 &&& Int32.toUInt32 31)).toInt32 &&& (1431655765 : Int32)))).toUInt32 >>> (((2 : Int32)).toUInt32 &&& Int32.toUInt32 31)).toInt32 &&& (858993459 : Int32))) + (((((x0 - (((x0).toUInt32 >>> (((1 : Int32)).toUInt32 &&& Int32.toUInt32 31)).toInt32 &&& (1431655765 : Int32))) &&& (858993459 : Int32)) + ((((x0 - (((x0).toUInt32 >>> (((1 : Int32)).toUInt32 &&& Int32.toUInt32 31)).toInt32 &&& (1431655765 : Int32)))).toUInt32 >>> (((2 : Int32)).toUInt32 &&& Int32.toUInt32 31)).toInt32 &&& (858993459 : Int32)))).toUInt32 >>> (((4 : Int32)).toUInt32 &&& Int32.toUInt32 31)).toInt32) &&& (252645135 : Int32)) + (((((((x0 - (((x0).toUInt32 >>> (((1 : Int32)).toUInt32 &&& Int32.toUInt32 31)).toInt32 &&& (1431655765 : Int32))) &&& (858993459 : Int32)) + ((((x0 - (((x0).toUInt32 >>> (((1 : Int32)).toUInt32 &&& Int32.toUInt32 31)).toInt32 &&& (1431655765 : Int32)))).toUInt32 >>> (((2 : Int32)).toUInt32 &&& Int32.toUInt32 31)).toInt32 &&& (858993459 : Int32))) + (((((x0 - (((x0).toUInt32 >>> (((1 : Int32)).toUInt32 &&& Int32.toUInt32 31)).toInt32 &&& (1431655765 : Int32))) &&& (858993459 : Int32)) + ((((x0 - (((x0).toUInt32 >>> (((1 : Int32)).toUInt32 &&& Int32.toUInt32 31)).toInt32 &&& (1431655765 : Int32)))).toUInt32 >>> (((2 : Int32)).toUInt32 &&& Int32.toUInt32 31)).toInt32 &&& (858993459 : Int32)))).toUInt32 >>> (((4 : Int32)).toUInt32 &&& Int32.toUInt32 31)).toInt32) &&& (252645135 : Int32))).toUInt32 >>> (((8 : Int32)).toUInt32 &&& Int32.toUInt32 31)).toInt32))]) dJ6_bitCount_0f7a4_40 rfl (by decide) rfl ?_
  refine x_iload_n 0 dJ6_bitCount_0f7a4_41 rfl rfl ?_
  refine x_iload_n 0 dJ6_bitCount_0f7a4_42 rfl rfl ?_
  refine x_bipush (v := (16 : Int32)) dJ6_bitCount_0f7a4_43 (by decide) ?_
  refine x_iushr dJ6_bitCount_0f7a4_45 ?_
  refine x_iadd dJ6_bitCount_0f7a4_46 ?_
  refine x_istore_n (lo' := [(0, z_i (((((((x0 - (((x0).toUInt32 >>> (((1 : Int32)).toUInt32 &&& Int32.toUInt32 31)).toInt32 &&& (1431655765 : Int32))) &&& (858993459 : Int32)) + ((((x0 - (((x0).toUInt32 >>> (((1 : Int32)).toUInt32 &&& Int32.toUInt32 31)).toInt32 &&& (1431655765 : Int32)))).toUInt32 >>> (((2 : Int32)).toUInt32 &&& Int32.toUInt32 31)).toInt32 &&& (858993459 : Int32))) + (((((x0 - (((x0).toUInt32 >>> (((1 : Int32)).toUInt32 &&& Int32.toUInt32 31)).toInt32 &&& (1431655765 : Int32))) &&& (858993459 : Int32)) + ((((x0 - (((x0).toUInt32 >>> (((1 : Int32)).toUInt32 &&& Int32.toUInt32 31)).toInt32 &&& (1431655765 : Int32)))).toUInt32 >>> (((2 : Int32)).toUInt32 &&& Int32.toUInt32 31)).toInt32 &&& (858993459 : Int32)))).toUInt32 >>> (((4 : Int32)).toUInt32 &&& Int32.toUInt32 31)).toInt32) &&& (252645135 : Int32)) + (((((((x0 - (((x0).toUInt32 >>> (((1 : Int32)).toUInt32 &&& Int32.toUInt32 31)).toInt32 &&& (1431655765 : Int32))) &&& (858993459 : Int32)) + ((((x0 - (((x0).toUInt32 >>> (((1 : Int32)).toUInt32 &&& Int32.toUInt32 31)).toInt32 &&& (1431655765 : Int32)))).toUInt32 >>> (((2 : Int32)).toUInt32 &&& Int32.toUInt32 31)).toInt32 &&& (858993459 : Int32))) + (((((x0 - (((x0).toUInt32 >>> (((1 : Int32)).toUInt32 &&& Int32.toUInt32 31)).toInt32 &&& (1431655765 : Int32))) &&& (858993459 : Int32)) + ((((x0 - (((x0).toUInt32 >>> (((1 : Int32)).toUInt32 &&& Int32.toUInt32 31)).toInt32 &&& (1431655765 : Int32)))).toUInt32 >>> (((2 : Int32)).toUInt32 &&& Int32.toUInt32 31)).toInt32 &&& (858993459 : Int32)))).toUInt32 >>> (((4 : Int32)).toUInt32 &&& Int32.toUInt32 31)).toInt32) &&& (252645135 : Int32))).toUInt32 >>> (((8 : Int32)).toUInt32 &&& Int32.toUInt32 31)).toInt32) + ((((((((x0 - (((x0).toUInt32 >>> (((1 : Int32)).toUInt32 &&& Int32.toUInt32 31)).toInt32 &&& (1431655765 : Int32))) &&& (858993459 : Int32)) + ((((x0 - (((x0).toUInt32 >>> (((1 : Int32)).toUInt32 &&& Int32.toUInt32 31)).toInt32 &&& (1431655765 : Int32)))).toUInt32 >>> (((2 : Int32)).toUInt32 &&& Int32.toUInt32 31)).toInt32 &&& (858993459 : Int32))) + (((((x0 - (((x0).toUInt32 >>> (((1 : Int32)).toUInt32 &&& Int32.toUInt32 31)).toInt32 &&& (1431655765 : Int32))) &&& (858993459 : Int32)) + ((((x0 - (((x0).toUInt32 >>> (((1 : Int32)).toUInt32 &&& Int32.toUInt32 31)).toInt32 &&& (1431655765 : Int32)))).toUInt32 >>> (((2 : Int32)).toUInt32 &&& Int32.toUInt32 31)).toInt32 &&& (858993459 : Int32)))).toUInt32 >>> (((4 : Int32)).toUInt32 &&& Int32.toUInt32 31)).toInt32) &&& (252645135 : Int32)) + (((((((x0 - (((x0).toUInt32 >>> (((1 : Int32)).toUInt32 &&& Int32.toUInt32 31)).toInt32 &&& (1431655765 : Int32))) &&& (858993459 : Int32)) + ((((x0 - (((x0).toUInt32 >>> (((1 : Int32)).toUInt32 &&& Int32.toUInt32 31)).toInt32 &&& (1431655765 : Int32)))).toUInt32 >>> (((2 : Int32)).toUInt32 &&& Int32.toUInt32 31)).toInt32 &&& (858993459 : Int32))) + (((((x0 - (((x0).toUInt32 >>> (((1 : Int32)).toUInt32 &&& Int32.toUInt32 31)).toInt32 &&& (1431655765 : Int32))) &&& (858993459 : Int32)) + ((((x0 - (((x0).toUInt32 >>> (((1 : Int32)).toUInt32 &&& Int32.toUInt32 31)).toInt32 &&& (1431655765 : Int32)))).toUInt32 >>> (((2 : Int32)).toUInt32 &&& Int32.toUInt32 31)).toInt32 &&& (858993459 : Int32)))).toUInt32 >>> (((4 : Int32)).toUInt32 &&& Int32.toUInt32 31)).toInt32) &&& (252645135 : Int32))).toUInt32 >>> (((8 : Int32)).toUInt32 &&& Int32.toUInt32 31)).toInt32)).toUInt32 >>> (((16 : Int32)).toUInt32 &&& Int32.toUInt32 31)).toInt32))]) dJ6_bitCount_0f7a4_47 rfl (by decide) rfl ?_
  refine x_iload_n 0 dJ6_bitCount_0f7a4_48 rfl rfl ?_
  refine x_bipush (v := (63 : Int32)) dJ6_bitCount_0f7a4_49 (by decide) ?_
  refine x_iand dJ6_bitCount_0f7a4_51 ?_
  exact x_iret rfl dJ6_bitCount_0f7a4_52 h
-- PressedMen fleet (I)I
abbrev Y_X11_fleet : ZM := (yX11_fleet, cX11_fleet, 9, (some .int), 3, 69)
theorem cw_X11_fleet : z_CV Y_X11_fleet 11 1 := ⟨⟨_, _, rfl⟩, by decide, q_954, q_955, q_956, q_70, ⟨by decide, by decide⟩, rfl⟩
def j_X11_fleet_92 (n0 : Nat) (x2 : Int32) (x6 : Int32) (x7 : Int32) (x8 : Int32)  (S : ZH) : Option ((Int32 × Int32 × Int32 × Int32) ⊕ (Int32)) :=
  some (Sum.inl (x6, x7, x8, (x6 + 1)))
def b_X11_fleet_31 (n0 : Nat) (x2 : Int32) (S : ZH) (v : Int32 × Int32 × Int32 × Int32) : Option ((Int32 × Int32 × Int32 × Int32) ⊕ (Int32)) :=
  if x2 < v.2.2.2 then (
    some (Sum.inr v.1)
  ) else (
    (f_J6_bitCount_0f7a4 v.2.2.2 S).bind fun q4 =>
    if ¬ (v.2.2.2 &&& (x2 ^^^ (-1 : Int32))) = 0 then (
      some (Sum.inl (v.1, v.2.1, v.2.2.1, (v.2.2.2 + 1)))
    ) else (
      if v.2.1 ≤ q4 then (
        (f_X11_leastTaken n0 v.2.2.2 S).bind fun q5 =>
        if q5 = (-9 : Int32) then (
          some (Sum.inl (v.1, v.2.1, v.2.2.1, (v.2.2.2 + 1)))
        ) else (
          if v.2.1 < q4 then (
            j_X11_fleet_92 n0 x2 v.2.2.2 q4 q5 S
          ) else (
            if v.2.2.1 ≤ q5 then (
              some (Sum.inl (v.1, v.2.1, v.2.2.1, (v.2.2.2 + 1)))
            ) else (
              j_X11_fleet_92 n0 x2 v.2.2.2 q4 q5 S
            )
          )
        )
      ) else (
        some (Sum.inl (v.1, v.2.1, v.2.2.1, (v.2.2.2 + 1)))
      )
    )
  )
def f_X11_fleet (n0 : Nat) (x1 : Int32) (S : ZH) : Option (Int32 × ZH) :=
  (f_X11_isWeather x1 S).bind fun q1 =>
  if ¬ q1 = 0 then (
    (f_X11_musterLevy n0 x1 S).bind fun q2 =>
    (f_X11_kingsAtHome n0 q2).bind fun q3 =>
    (z_iter zFU (b_X11_fleet_31 n0 q3 q2) ((0 : Int32), (0 : Int32), (0 : Int32), (1 : Int32))).bind fun t6 =>
    some (t6, q2)
  ) else (
    some ((-2 : Int32), S)
  )
set_option maxRecDepth 20000 in
theorem k_X11_fleet_92 {S0 : ZH} {F : ZP} {n0 : Nat} {x2 : Int32} {x6 : Int32} {x7 : Int32} {x8 : Int32}   {S : ZH} {z : (Int32 × Int32 × Int32 × Int32) ⊕ (Int32)} (h : j_X11_fleet_92 n0 x2 x6 x7 x8 S = some z) (k : Sum.elim (fun v : Int32 × Int32 × Int32 × Int32 => Wp Y_X11_fleet S0 F 31 [(0, z_r 11 (some n0)), (2, z_i x2), (3, z_i v.1), (4, z_i v.2.1), (5, z_i v.2.2.1), (6, z_i v.2.2.2)] [] S) (fun t => Wp Y_X11_fleet S0 F 109 [(3, z_i t)] [] S) z) : Wp Y_X11_fleet S0 (F) 92 [(0, z_r 11 (some n0)), (2, z_i x2), (6, z_i x6), (7, z_i x7), (8, z_i x8)] [] S := by
  unfold j_X11_fleet_92 at h
  refine x_iload 2 dX11_fleet_92 rfl ?_
  refine x_istore_n (lo' := [(3, z_i x6), (0, z_r 11 (some n0)), (2, z_i x2), (6, z_i x6), (7, z_i x7), (8, z_i x8)]) dX11_fleet_94 rfl (by decide) rfl ?_
  refine x_iload 4 dX11_fleet_95 rfl ?_
  refine x_istore (lo' := [(4, z_i x7), (3, z_i x6), (0, z_r 11 (some n0)), (2, z_i x2), (6, z_i x6), (7, z_i x7), (8, z_i x8)]) dX11_fleet_97 (by decide) rfl ?_
  refine x_iload 6 dX11_fleet_99 rfl ?_
  refine x_istore (lo' := [(5, z_i x8), (4, z_i x7), (3, z_i x6), (0, z_r 11 (some n0)), (2, z_i x2), (6, z_i x6), (7, z_i x7), (8, z_i x8)]) dX11_fleet_101 (by decide) rfl ?_
  refine x_iinc (v := (x6 + 1)) (lo' := [(6, z_i (x6 + 1)), (5, z_i x8), (4, z_i x7), (3, z_i x6), (0, z_r 11 (some n0)), (2, z_i x2), (7, z_i x7), (8, z_i x8)]) 5 dX11_fleet_103 rfl (congrArg (HAdd.hAdd x6) (by decide)) (by decide) rfl ?_
  refine x_goto (tgt := 31) dX11_fleet_106 (by decide) ?_
  cases h
  exact x_lo [4, 5, 3, 2, 1, 0] rfl k
set_option maxRecDepth 20000 in
theorem l_X11_fleet_31 {S0 : ZH} {F : ZP} {n0 : Nat} {x2 : Int32} {S : ZH} {v : Int32 × Int32 × Int32 × Int32} {t : Int32} (h : z_iter zFU (b_X11_fleet_31 n0 x2 S) v = some t) (k : (fun t => Wp Y_X11_fleet S0 F 109 [(3, z_i t)] [] S) t) : Wp Y_X11_fleet S0 F 31 [(0, z_r 11 (some n0)), (2, z_i x2), (3, z_i v.1), (4, z_i v.2.1), (5, z_i v.2.2.1), (6, z_i v.2.2.2)] [] S := by
  refine z_iter_P (P := fun v : Int32 × Int32 × Int32 × Int32 => Wp Y_X11_fleet S0 F 31 [(0, z_r 11 (some n0)), (2, z_i x2), (3, z_i v.1), (4, z_i v.2.1), (5, z_i v.2.2.1), (6, z_i v.2.2.2)] [] S) (X := (fun t => Wp Y_X11_fleet S0 F 109 [(3, z_i t)] [] S)) ?_ _ _ _ h k
  clear h k v t
  intro v r h k
  unfold b_X11_fleet_31 at h
  refine x_iload 5 dX11_fleet_31 rfl ?_
  refine x_iload_n 1 dX11_fleet_33 rfl rfl ?_
  refine x_ic_gt (tgt := 109) dX11_fleet_34 (by decide) h (fun h => ?_) (fun h => ?_)
  · cases h
    exact x_lo [2] rfl k
  · refine x_iload 5 dX11_fleet_37 rfl ?_
    refine z_bnd h (fun q4 hq4 h => ?_)
    refine x_callS1 (w_J6_bitCount_0f7a4 hq4) cw_J6_bitCount_0f7a4 q_957 ⟨by decide, by decide⟩ (Nat.le_of_ble_eq_true rfl) dX11_fleet_39 rfl ?_
    refine x_istore (lo' := [(7, z_i q4), (0, z_r 11 (some n0)), (2, z_i x2), (3, z_i v.1), (4, z_i v.2.1), (5, z_i v.2.2.1), (6, z_i v.2.2.2)]) dX11_fleet_42 (by decide) rfl ?_
    refine x_iload 6 dX11_fleet_44 rfl ?_
    refine x_iload_n 2 dX11_fleet_46 rfl rfl ?_
    refine x_iconst (v := (-1 : Int32)) dX11_fleet_47 (by decide) ?_
    refine x_ixor dX11_fleet_48 ?_
    refine x_iand dX11_fleet_49 ?_
    refine x_if_ne (tgt := 103) dX11_fleet_50 (by decide) h (fun h => ?_) (fun h => ?_)
    · refine x_iinc (v := (v.2.2.2 + 1)) (lo' := [(6, z_i (v.2.2.2 + 1)), (7, z_i q4), (0, z_r 11 (some n0)), (2, z_i x2), (3, z_i v.1), (4, z_i v.2.1), (5, z_i v.2.2.1)]) 6 dX11_fleet_103 rfl (congrArg (HAdd.hAdd v.2.2.2) (by decide)) (by decide) rfl ?_
      refine x_goto (tgt := 31) dX11_fleet_106 (by decide) ?_
      cases h
      exact x_lo [2, 3, 4, 5, 6, 0] rfl k
    · refine x_iload 0 dX11_fleet_53 rfl ?_
      refine x_iload 4 dX11_fleet_55 rfl ?_
      refine x_ic_ge (tgt := 63) dX11_fleet_57 (by decide) h (fun h => ?_) (fun h => ?_)
      · refine x_aload_n 1 dX11_fleet_63 rfl rfl ?_
        refine x_iload 6 dX11_fleet_64 rfl ?_
        refine z_bnd h (fun q5 hq5 h => ?_)
        refine x_callV1 rfl (w_X11_leastTaken hq5) cw_X11_leastTaken q_944 ⟨by decide, by decide⟩ (Nat.le_of_ble_eq_true rfl) dX11_fleet_66 rfl ?_
        refine x_istore (lo' := [(8, z_i q5), (7, z_i q4), (0, z_r 11 (some n0)), (2, z_i x2), (3, z_i v.1), (4, z_i v.2.1), (5, z_i v.2.2.1), (6, z_i v.2.2.2)]) dX11_fleet_69 (by decide) rfl ?_
        refine x_iload 0 dX11_fleet_71 rfl ?_
        refine x_bipush (v := (-9 : Int32)) dX11_fleet_73 (by decide) ?_
        refine x_ic_eq (tgt := 103) dX11_fleet_75 (by decide) h (fun h => ?_) (fun h => ?_)
        · refine x_iinc (v := (v.2.2.2 + 1)) (lo' := [(6, z_i (v.2.2.2 + 1)), (8, z_i q5), (7, z_i q4), (0, z_r 11 (some n0)), (2, z_i x2), (3, z_i v.1), (4, z_i v.2.1), (5, z_i v.2.2.1)]) 7 dX11_fleet_103 rfl (congrArg (HAdd.hAdd v.2.2.2) (by decide)) (by decide) rfl ?_
          refine x_goto (tgt := 31) dX11_fleet_106 (by decide) ?_
          cases h
          exact x_lo [3, 4, 5, 6, 7, 0] rfl k
        · refine x_iload 1 dX11_fleet_78 rfl ?_
          refine x_iload 5 dX11_fleet_80 rfl ?_
          refine x_ic_gt (tgt := 92) dX11_fleet_82 (by decide) h (fun h => ?_) (fun h => ?_)
          · exact x_lo [2, 3, 7, 1, 0] rfl (k_X11_fleet_92 h k)
          · refine x_iload 0 dX11_fleet_85 rfl ?_
            refine x_iload 6 dX11_fleet_87 rfl ?_
            refine x_ic_ge (tgt := 103) dX11_fleet_89 (by decide) h (fun h => ?_) (fun h => ?_)
            · refine x_iinc (v := (v.2.2.2 + 1)) (lo' := [(6, z_i (v.2.2.2 + 1)), (8, z_i q5), (7, z_i q4), (0, z_r 11 (some n0)), (2, z_i x2), (3, z_i v.1), (4, z_i v.2.1), (5, z_i v.2.2.1)]) 7 dX11_fleet_103 rfl (congrArg (HAdd.hAdd v.2.2.2) (by decide)) (by decide) rfl ?_
              refine x_goto (tgt := 31) dX11_fleet_106 (by decide) ?_
              cases h
              exact x_lo [3, 4, 5, 6, 7, 0] rfl k
            · exact x_lo [2, 3, 7, 1, 0] rfl (k_X11_fleet_92 h k)
      · refine x_goto (tgt := 103) dX11_fleet_60 (by decide) ?_
        refine x_iinc (v := (v.2.2.2 + 1)) (lo' := [(6, z_i (v.2.2.2 + 1)), (7, z_i q4), (0, z_r 11 (some n0)), (2, z_i x2), (3, z_i v.1), (4, z_i v.2.1), (5, z_i v.2.2.1)]) 6 dX11_fleet_103 rfl (congrArg (HAdd.hAdd v.2.2.2) (by decide)) (by decide) rfl ?_
        refine x_goto (tgt := 31) dX11_fleet_106 (by decide) ?_
        cases h
        exact x_lo [2, 3, 4, 5, 6, 0] rfl k
set_option maxRecDepth 20000 in
set_option maxHeartbeats 1000000 in
theorem w_X11_fleet {n0 : Nat} {x1 : Int32} {S : ZH} {q : Int32 × ZH} (h : f_X11_fleet n0 x1 S = some q) : MetX Y_X11_fleet S [z_r 11 (some n0), z_i x1] (some (z_i q.1)) q.2 := by
  refine MetX.of (lo := [(0, z_r 11 (some n0)), (1, z_i x1)]) rfl (by decide) (Nat.le_of_ble_eq_true rfl) ?_
  unfold f_X11_fleet at h
  refine x_iload_n 1 dX11_fleet_0 rfl rfl ?_
  refine z_bnd h (fun q1 hq1 h => ?_)
  refine x_callS1 (w_X11_isWeather hq1) cw_X11_isWeather q_896 ⟨by decide, by decide⟩ (Nat.le_of_ble_eq_true rfl) dX11_fleet_1 rfl ?_
  refine x_if_ne (tgt := 10) dX11_fleet_4 (by decide) h (fun h => ?_) (fun h => ?_)
  · refine x_aload_n 0 dX11_fleet_10 rfl rfl ?_
    refine x_iload_n 1 dX11_fleet_11 rfl rfl ?_
    refine z_bnd h (fun q2 hq2 h => ?_)
    refine x_callVv rfl (w_X11_musterLevy hq2) cw_X11_musterLevy q_927 ⟨by decide, by decide⟩ (Nat.le_of_ble_eq_true rfl) dX11_fleet_12 rfl ?_
    refine x_aload_n 0 dX11_fleet_15 rfl rfl ?_
    refine z_bnd h (fun q3 hq3 h => ?_)
    refine x_callV1 rfl (w_X11_kingsAtHome hq3) cw_X11_kingsAtHome q_923 ⟨by decide, by decide⟩ (Nat.le_of_ble_eq_true rfl) dX11_fleet_16 rfl ?_
    refine x_istore_n (lo' := [(2, z_i q3), (0, z_r 11 (some n0)), (1, z_i x1)]) dX11_fleet_19 rfl (by decide) rfl ?_
    refine x_iconst (v := (0 : Int32)) dX11_fleet_20 (by decide) ?_
    refine x_istore_n (lo' := [(3, z_i (0 : Int32)), (2, z_i q3), (0, z_r 11 (some n0)), (1, z_i x1)]) dX11_fleet_21 rfl (by decide) rfl ?_
    refine x_iconst (v := (0 : Int32)) dX11_fleet_22 (by decide) ?_
    refine x_istore (lo' := [(4, z_i (0 : Int32)), (3, z_i (0 : Int32)), (2, z_i q3), (0, z_r 11 (some n0)), (1, z_i x1)]) dX11_fleet_23 (by decide) rfl ?_
    refine x_iconst (v := (0 : Int32)) dX11_fleet_25 (by decide) ?_
    refine x_istore (lo' := [(5, z_i (0 : Int32)), (4, z_i (0 : Int32)), (3, z_i (0 : Int32)), (2, z_i q3), (0, z_r 11 (some n0)), (1, z_i x1)]) dX11_fleet_26 (by decide) rfl ?_
    refine x_iconst (v := (1 : Int32)) dX11_fleet_28 (by decide) ?_
    refine x_istore (lo' := [(6, z_i (1 : Int32)), (5, z_i (0 : Int32)), (4, z_i (0 : Int32)), (3, z_i (0 : Int32)), (2, z_i q3), (0, z_r 11 (some n0)), (1, z_i x1)]) dX11_fleet_29 (by decide) rfl ?_
    refine z_bnd h (fun t6 ht6 h => ?_)
    refine x_lo [5, 4, 3, 2, 1, 0] rfl ?_
    refine l_X11_fleet_31 ht6 ?_
    refine x_iload_n 0 dX11_fleet_109 rfl rfl ?_
    exact x_iretE rfl dX11_fleet_110 h
  · refine x_bipush (v := (-2 : Int32)) dX11_fleet_7 (by decide) ?_
    exact x_iretE rfl dX11_fleet_9 h
-- PressedMen sail (I)I
abbrev Y_X11_sail : ZM := (yX11_sail, cX11_sail, 4, (some .int), 2, 43)
theorem cw_X11_sail : z_CV Y_X11_sail 11 1 := ⟨⟨_, _, rfl⟩, by decide, q_964, q_965, q_966, q_70, ⟨by decide, by decide⟩, rfl⟩
def f_X11_sail (n0 : Nat) (x1 : Int32) (S : ZH) : Option (Int32 × ZH) :=
  (f_X11_findShip n0 x1 S).bind fun q1 =>
  if q1 = none then (
    some ((-1 : Int32), S)
  ) else (
    (f_X11_menIn n0 ((10 : Int32) + x1) S).bind fun q2 =>
    (q1).bind fun a3 =>
    if (zI S 6 a3 4) = 0 then (
      some ((-3 : Int32), S)
    ) else (
      if q2 < (zI S 6 a3 1) then (
        some ((-3 : Int32), S)
      ) else (
        (f_X11_seamenIn n0 ((10 : Int32) + x1) S).bind fun q4 =>
        if (zI S 6 a3 2) ≤ q4 then (
          some (q2, (zsI S 6 a3 4 (0 : Int32)))
        ) else (
          some ((-3 : Int32), S)
        )
      )
    )
  )
set_option maxRecDepth 20000 in
set_option maxHeartbeats 1000000 in
theorem w_X11_sail {n0 : Nat} {x1 : Int32} {S : ZH} {q : Int32 × ZH} (h : f_X11_sail n0 x1 S = some q) : MetX Y_X11_sail S [z_r 11 (some n0), z_i x1] (some (z_i q.1)) q.2 := by
  refine MetX.of (lo := [(0, z_r 11 (some n0)), (1, z_i x1)]) rfl (by decide) (Nat.le_of_ble_eq_true rfl) ?_
  unfold f_X11_sail at h
  refine x_aload_n 0 dX11_sail_0 rfl rfl ?_
  refine x_iload_n 1 dX11_sail_1 rfl rfl ?_
  refine z_bnd h (fun q1 hq1 h => ?_)
  refine x_callV1 rfl (w_X11_findShip hq1) cw_X11_findShip q_394 ⟨by decide, by decide⟩ (Nat.le_of_ble_eq_true rfl) dX11_sail_2 rfl ?_
  refine x_astore_n (lo' := [(2, z_r 6 q1), (0, z_r 11 (some n0)), (1, z_i x1)]) dX11_sail_5 rfl (by decide) rfl ?_
  refine x_aload_n 0 dX11_sail_6 rfl rfl ?_
  refine x_ifnonnull (tgt := 12) dX11_sail_7 (by decide) h (fun h => ?_) (fun h => ?_)
  · refine x_aload_n 1 dX11_sail_12 rfl rfl ?_
    refine x_bipush (v := (10 : Int32)) dX11_sail_13 (by decide) ?_
    refine x_iload_n 2 dX11_sail_15 rfl rfl ?_
    refine x_iadd dX11_sail_16 ?_
    refine z_bnd h (fun q2 hq2 h => ?_)
    refine x_callV1 rfl (w_X11_menIn hq2) cw_X11_menIn q_398 ⟨by decide, by decide⟩ (Nat.le_of_ble_eq_true rfl) dX11_sail_17 rfl ?_
    refine x_istore_n (lo' := [(3, z_i q2), (2, z_r 6 q1), (0, z_r 11 (some n0)), (1, z_i x1)]) dX11_sail_20 rfl (by decide) rfl ?_
    refine x_aload_n 1 dX11_sail_21 rfl rfl ?_
    refine z_bnd h (fun a3 ha3 h => ?_)
    revert h
    subst ha3
    intro h
    refine x_getI rfl ck_6 4 (by decide) rfl q_868 dX11_sail_22 ?_
    refine x_if_eq (tgt := 51) dX11_sail_25 (by decide) h (fun h => ?_) (fun h => ?_)
    · refine x_bipush (v := (-3 : Int32)) dX11_sail_51 (by decide) ?_
      exact x_iretE rfl dX11_sail_53 h
    · refine x_iload_n 0 dX11_sail_28 rfl rfl ?_
      refine x_aload_n 1 dX11_sail_29 rfl rfl ?_
      refine x_getI rfl ck_6 1 (by decide) rfl q_862 dX11_sail_30 ?_
      refine x_ic_lt (tgt := 51) dX11_sail_33 (by decide) h (fun h => ?_) (fun h => ?_)
      · refine x_bipush (v := (-3 : Int32)) dX11_sail_51 (by decide) ?_
        exact x_iretE rfl dX11_sail_53 h
      · refine x_aload_n 2 dX11_sail_36 rfl rfl ?_
        refine x_bipush (v := (10 : Int32)) dX11_sail_37 (by decide) ?_
        refine x_iload_n 3 dX11_sail_39 rfl rfl ?_
        refine x_iadd dX11_sail_40 ?_
        refine z_bnd h (fun q4 hq4 h => ?_)
        refine x_callV1 rfl (w_X11_seamenIn hq4) cw_X11_seamenIn q_884 ⟨by decide, by decide⟩ (Nat.le_of_ble_eq_true rfl) dX11_sail_41 rfl ?_
        refine x_aload_n 1 dX11_sail_44 rfl rfl ?_
        refine x_getI rfl ck_6 2 (by decide) rfl q_864 dX11_sail_45 ?_
        refine x_ic_ge (tgt := 54) dX11_sail_48 (by decide) h (fun h => ?_) (fun h => ?_)
        · refine x_aload_n 1 dX11_sail_54 rfl rfl ?_
          refine x_iconst (v := (0 : Int32)) dX11_sail_55 (by decide) ?_
          refine x_putI rfl ck_6 4 (by decide) rfl (Or.inl rfl) (by decide) rfl q_868 dX11_sail_56 ?_
          refine x_iload_n 0 dX11_sail_59 rfl rfl ?_
          exact x_iretE rfl dX11_sail_60 h
        · refine x_bipush (v := (-3 : Int32)) dX11_sail_51 (by decide) ?_
          exact x_iretE rfl dX11_sail_53 h
  · refine x_iconst (v := (-1 : Int32)) dX11_sail_10 (by decide) ?_
    exact x_iretE rfl dX11_sail_11 h
-- PressedMen comeHome (I)I
abbrev Y_X11_comeHome : ZM := (yX11_comeHome, cX11_comeHome, 3, (some .int), 2, 43)
theorem cw_X11_comeHome : z_CV Y_X11_comeHome 11 1 := ⟨⟨_, _, rfl⟩, by decide, q_968, q_969, q_970, q_70, ⟨by decide, by decide⟩, rfl⟩
def f_X11_comeHome (n0 : Nat) (x1 : Int32) (S : ZH) : Option (Int32 × ZH) :=
  (f_X11_findShip n0 x1 S).bind fun q1 =>
  if q1 = none then (
    some ((-1 : Int32), S)
  ) else (
    (q1).bind fun a2 =>
    if (zI S 6 a2 4) = 0 then (
      (f_X11_menIn n0 ((10 : Int32) + x1) (zsI S 6 a2 4 (1 : Int32))).bind fun q3 =>
      some (q3, (zsI S 6 a2 4 (1 : Int32)))
    ) else (
      some ((-3 : Int32), S)
    )
  )
set_option maxRecDepth 20000 in
set_option maxHeartbeats 1000000 in
theorem w_X11_comeHome {n0 : Nat} {x1 : Int32} {S : ZH} {q : Int32 × ZH} (h : f_X11_comeHome n0 x1 S = some q) : MetX Y_X11_comeHome S [z_r 11 (some n0), z_i x1] (some (z_i q.1)) q.2 := by
  refine MetX.of (lo := [(0, z_r 11 (some n0)), (1, z_i x1)]) rfl (by decide) (Nat.le_of_ble_eq_true rfl) ?_
  unfold f_X11_comeHome at h
  refine x_aload_n 0 dX11_comeHome_0 rfl rfl ?_
  refine x_iload_n 1 dX11_comeHome_1 rfl rfl ?_
  refine z_bnd h (fun q1 hq1 h => ?_)
  refine x_callV1 rfl (w_X11_findShip hq1) cw_X11_findShip q_394 ⟨by decide, by decide⟩ (Nat.le_of_ble_eq_true rfl) dX11_comeHome_2 rfl ?_
  refine x_astore_n (lo' := [(2, z_r 6 q1), (0, z_r 11 (some n0)), (1, z_i x1)]) dX11_comeHome_5 rfl (by decide) rfl ?_
  refine x_aload_n 0 dX11_comeHome_6 rfl rfl ?_
  refine x_ifnonnull (tgt := 12) dX11_comeHome_7 (by decide) h (fun h => ?_) (fun h => ?_)
  · refine x_aload_n 0 dX11_comeHome_12 rfl rfl ?_
    refine z_bnd h (fun a2 ha2 h => ?_)
    revert h
    subst ha2
    intro h
    refine x_getI rfl ck_6 4 (by decide) rfl q_868 dX11_comeHome_13 ?_
    refine x_if_eq (tgt := 22) dX11_comeHome_16 (by decide) h (fun h => ?_) (fun h => ?_)
    · refine x_aload_n 0 dX11_comeHome_22 rfl rfl ?_
      refine x_iconst (v := (1 : Int32)) dX11_comeHome_23 (by decide) ?_
      refine x_putI rfl ck_6 4 (by decide) rfl (Or.inl rfl) (by decide) rfl q_868 dX11_comeHome_24 ?_
      refine x_aload_n 1 dX11_comeHome_27 rfl rfl ?_
      refine x_bipush (v := (10 : Int32)) dX11_comeHome_28 (by decide) ?_
      refine x_iload_n 2 dX11_comeHome_30 rfl rfl ?_
      refine x_iadd dX11_comeHome_31 ?_
      refine z_bnd h (fun q3 hq3 h => ?_)
      refine x_callV1 rfl (w_X11_menIn hq3) cw_X11_menIn q_398 ⟨by decide, by decide⟩ (Nat.le_of_ble_eq_true rfl) dX11_comeHome_32 rfl ?_
      exact x_iretE rfl dX11_comeHome_35 h
    · refine x_bipush (v := (-3 : Int32)) dX11_comeHome_19 (by decide) ?_
      exact x_iretE rfl dX11_comeHome_21 h
  · refine x_iconst (v := (-1 : Int32)) dX11_comeHome_10 (by decide) ?_
    exact x_iretE rfl dX11_comeHome_11 h
-- PressedMen$Ticket <init> (II)V
abbrev Y_X9_init : ZM := (yX9_init, cX9_init, 3, none, 1, 20)
theorem cw_X9_init : z_CI Y_X9_init 2 := ⟨rfl, rfl, q_977, q_978, q_87, ⟨by decide, by decide⟩, rfl⟩
def f_X9_init (n0 : Nat) (x1 : Int32) (x2 : Int32) (S : ZH) : Option (ZH) :=
  some (zsI (zsI (zsI S 9 n0 2 (-9 : Int32)) 9 n0 0 x1) 9 n0 1 x2)
set_option maxRecDepth 20000 in
set_option maxHeartbeats 1000000 in
theorem w_X9_init {n0 : Nat} {x1 : Int32} {x2 : Int32} {S : ZH} {q : ZH} (h : f_X9_init n0 x1 x2 S = some q) : MetX Y_X9_init S [z_r 9 (some n0), z_i x1, z_i x2] none q := by
  refine MetX.of (lo := [(0, z_r 9 (some n0)), (1, z_i x1), (2, z_i x2)]) rfl (by decide) (Nat.le_of_ble_eq_true rfl) ?_
  unfold f_X9_init at h
  refine x_aload_n 0 dX9_init_0 rfl rfl ?_
  refine x_objInit rfl q_979 q_94 q_95 ⟨by decide, by decide⟩ (Nat.le_of_ble_eq_true rfl) dX9_init_1 ?_
  refine x_aload_n 0 dX9_init_4 rfl rfl ?_
  refine x_bipush (v := (-9 : Int32)) dX9_init_5 (by decide) ?_
  refine x_putI rfl ck_9 2 (by decide) rfl (Or.inl rfl) (by rfl) rfl q_984 dX9_init_7 ?_
  refine x_aload_n 0 dX9_init_10 rfl rfl ?_
  refine x_iload_n 1 dX9_init_11 rfl rfl ?_
  refine x_putI rfl ck_9 0 (by decide) rfl (Or.inr ⟨rfl, rfl, rfl⟩) (by rfl) rfl q_980 dX9_init_12 ?_
  refine x_aload_n 0 dX9_init_15 rfl rfl ?_
  refine x_iload_n 2 dX9_init_16 rfl rfl ?_
  refine x_putI rfl ck_9 1 (by decide) rfl (Or.inr ⟨rfl, rfl, rfl⟩) (by rfl) rfl q_982 dX9_init_17 ?_
  exact x_vretE rfl dX9_init_20 h
-- PressedMen ticket (III)I
abbrev Y_X11_ticket : ZM := (yX11_ticket, cX11_ticket, 5, (some .int), 2, 43)
theorem cw_X11_ticket : z_CV Y_X11_ticket 11 3 := ⟨⟨_, _, rfl⟩, by decide, q_972, q_973, q_974, q_70, ⟨by decide, by decide⟩, rfl⟩
def f_X11_ticket (n0 : Nat) (x1 : Int32) (x2 : Int32) (x3 : Int32) (S : ZH) : Option (Int32 × ZH) :=
  (f_X11_findMan n0 x1 S).bind fun q1 =>
  if q1 = none then (
    some ((-1 : Int32), S)
  ) else (
    (f_X11_within x2 (1 : Int32) (99 : Int32) S).bind fun q2 =>
    if q2 = 0 then (
      some ((-2 : Int32), S)
    ) else (
      (f_X11_within x3 (1 : Int32) (50 : Int32) S).bind fun q3 =>
      if ¬ q3 = 0 then (
        if (zI S 11 n0 11) < (40 : Int32) then (
          (zal S 9 5).bind fun S4 =>
          (f_X9_init (zN S 9) x1 (x2 * x3) S4).bind fun q5 =>
          ((zR S 11 n0 10)).bind fun a6 =>
          (zstR q5 26 a6 (zI S 11 n0 11) (some (zN S 9))).bind fun S7 =>
          some (((zI (zsI S7 11 n0 11 ((zI S7 11 n0 11) + (1 : Int32))) 11 n0 11) - (1 : Int32)), (zsI S7 11 n0 11 ((zI S7 11 n0 11) + (1 : Int32))))
        ) else (
          some ((-4 : Int32), S)
        )
      ) else (
        some ((-2 : Int32), S)
      )
    )
  )
set_option maxRecDepth 20000 in
set_option maxHeartbeats 1000000 in
theorem w_X11_ticket {n0 : Nat} {x1 : Int32} {x2 : Int32} {x3 : Int32} {S : ZH} {q : Int32 × ZH} (h : f_X11_ticket n0 x1 x2 x3 S = some q) : MetX Y_X11_ticket S [z_r 11 (some n0), z_i x1, z_i x2, z_i x3] (some (z_i q.1)) q.2 := by
  refine MetX.of (lo := [(0, z_r 11 (some n0)), (1, z_i x1), (2, z_i x2), (3, z_i x3)]) rfl (by decide) (Nat.le_of_ble_eq_true rfl) ?_
  unfold f_X11_ticket at h
  refine x_aload_n 0 dX11_ticket_0 rfl rfl ?_
  refine x_iload_n 1 dX11_ticket_1 rfl rfl ?_
  refine z_bnd h (fun q1 hq1 h => ?_)
  refine x_callV1 rfl (w_X11_findMan hq1) cw_X11_findMan q_366 ⟨by decide, by decide⟩ (Nat.le_of_ble_eq_true rfl) dX11_ticket_2 rfl ?_
  refine x_astore (lo' := [(4, z_r 3 q1), (0, z_r 11 (some n0)), (1, z_i x1), (2, z_i x2), (3, z_i x3)]) dX11_ticket_5 (by decide) rfl ?_
  refine x_aload 0 dX11_ticket_7 rfl ?_
  refine x_ifnonnull (tgt := 14) dX11_ticket_9 (by decide) h (fun h => ?_) (fun h => ?_)
  · refine x_iload_n 3 dX11_ticket_14 rfl rfl ?_
    refine x_iconst (v := (1 : Int32)) dX11_ticket_15 (by decide) ?_
    refine x_bipush (v := (99 : Int32)) dX11_ticket_16 (by decide) ?_
    refine z_bnd h (fun q2 hq2 h => ?_)
    refine x_callS1 (w_X11_within hq2) cw_X11_within q_252 ⟨by decide, by decide⟩ (Nat.le_of_ble_eq_true rfl) dX11_ticket_18 rfl ?_
    refine x_if_eq (tgt := 34) dX11_ticket_21 (by decide) h (fun h => ?_) (fun h => ?_)
    · refine x_bipush (v := (-2 : Int32)) dX11_ticket_34 (by decide) ?_
      exact x_iretE rfl dX11_ticket_36 h
    · refine x_iload_n 4 dX11_ticket_24 rfl rfl ?_
      refine x_iconst (v := (1 : Int32)) dX11_ticket_25 (by decide) ?_
      refine x_bipush (v := (50 : Int32)) dX11_ticket_26 (by decide) ?_
      refine z_bnd h (fun q3 hq3 h => ?_)
      refine x_callS1 (w_X11_within hq3) cw_X11_within q_252 ⟨by decide, by decide⟩ (Nat.le_of_ble_eq_true rfl) dX11_ticket_28 rfl ?_
      refine x_if_ne (tgt := 37) dX11_ticket_31 (by decide) h (fun h => ?_) (fun h => ?_)
      · refine x_aload_n 1 dX11_ticket_37 rfl rfl ?_
        refine x_getI rfl ck_11 11 (by decide) rfl q_201 dX11_ticket_38 ?_
        refine x_bipush (v := (40 : Int32)) dX11_ticket_41 (by decide) ?_
        refine x_ic_lt (tgt := 49) dX11_ticket_43 (by decide) h (fun h => ?_) (fun h => ?_)
        · refine x_aload_n 1 dX11_ticket_49 rfl rfl ?_
          refine x_getR rfl ck_11 10 (by decide) rfl q_200 dX11_ticket_50 ?_
          refine x_aload_n 1 dX11_ticket_53 rfl rfl ?_
          refine x_getI rfl ck_11 11 (by decide) rfl q_201 dX11_ticket_54 ?_
          refine x_new ck_9 q_146 dX11_ticket_57 h (fun S4 hS4 h => ?_)
          refine x_dup dX11_ticket_60 rfl ?_
          refine x_iload_n 2 dX11_ticket_61 rfl rfl ?_
          refine x_iload_n 3 dX11_ticket_62 rfl rfl ?_
          refine x_iload_n 4 dX11_ticket_63 rfl rfl ?_
          refine x_imul dX11_ticket_64 ?_
          refine z_bnd h (fun q5 hq5 h => ?_)
          refine x_callIv rfl (w_X9_init hq5) cw_X9_init q_976 ⟨by decide, by decide⟩ (Nat.le_of_ble_eq_true rfl) dX11_ticket_65 rfl ?_
          refine z_bnd h (fun a6 ha6 h => ?_)
          refine x_aastore ha6 ak_26 dX11_ticket_68 h (fun S7 hS7 h => ?_)
          refine x_aload_n 1 dX11_ticket_69 rfl rfl ?_
          refine x_dup dX11_ticket_70 rfl ?_
          refine x_getI rfl ck_11 11 (by decide) rfl q_201 dX11_ticket_71 ?_
          refine x_iconst (v := (1 : Int32)) dX11_ticket_74 (by decide) ?_
          refine x_iadd dX11_ticket_75 ?_
          refine x_putI rfl ck_11 11 (by decide) rfl (Or.inl rfl) (by rfl) rfl q_201 dX11_ticket_76 ?_
          refine x_aload_n 1 dX11_ticket_79 rfl rfl ?_
          refine x_getI rfl ck_11 11 (by decide) rfl q_201 dX11_ticket_80 ?_
          refine x_iconst (v := (1 : Int32)) dX11_ticket_83 (by decide) ?_
          refine x_isub dX11_ticket_84 ?_
          exact x_iretE rfl dX11_ticket_85 h
        · refine x_bipush (v := (-4 : Int32)) dX11_ticket_46 (by decide) ?_
          exact x_iretE rfl dX11_ticket_48 h
      · refine x_bipush (v := (-2 : Int32)) dX11_ticket_34 (by decide) ?_
        exact x_iretE rfl dX11_ticket_36 h
  · refine x_iconst (v := (-1 : Int32)) dX11_ticket_12 (by decide) ?_
    exact x_iretE rfl dX11_ticket_13 h
-- PressedMen findTicket (I)LPressedMen$Ticket;
abbrev Y_X11_findTicket : ZM := (yX11_findTicket, cX11_findTicket, 2, (some (.object "PressedMen$Ticket")), 1, 22)
theorem cw_X11_findTicket : z_CV Y_X11_findTicket 11 1 := ⟨⟨_, _, rfl⟩, by decide, q_1005, q_38, q_1006, q_70, ⟨by decide, by decide⟩, rfl⟩
def f_X11_findTicket (n0 : Nat) (x1 : Int32) (S : ZH) : Option (Option Nat) :=
  (f_X11_within x1 (0 : Int32) ((zI S 11 n0 11) - (1 : Int32)) S).bind fun q1 =>
  if q1 = 0 then (
    some none
  ) else (
    ((zR S 11 n0 10)).bind fun a2 =>
    (zldR S 26 a2 x1).bind fun v3 =>
    some v3
  )
set_option maxRecDepth 20000 in
set_option maxHeartbeats 1000000 in
theorem w_X11_findTicket {n0 : Nat} {x1 : Int32} {S : ZH} {q : Option Nat} (h : f_X11_findTicket n0 x1 S = some q) : MetX Y_X11_findTicket S [z_r 11 (some n0), z_i x1] (some (z_r 9 q)) S := by
  refine MetX.of (lo := [(0, z_r 11 (some n0)), (1, z_i x1)]) rfl (by decide) (Nat.le_of_ble_eq_true rfl) ?_
  unfold f_X11_findTicket at h
  refine x_iload_n 1 dX11_findTicket_0 rfl rfl ?_
  refine x_iconst (v := (0 : Int32)) dX11_findTicket_1 (by decide) ?_
  refine x_aload_n 0 dX11_findTicket_2 rfl rfl ?_
  refine x_getI rfl ck_11 11 (by decide) rfl q_201 dX11_findTicket_3 ?_
  refine x_iconst (v := (1 : Int32)) dX11_findTicket_6 (by decide) ?_
  refine x_isub dX11_findTicket_7 ?_
  refine z_bnd h (fun q1 hq1 h => ?_)
  refine x_callS1 (w_X11_within hq1) cw_X11_within q_252 ⟨by decide, by decide⟩ (Nat.le_of_ble_eq_true rfl) dX11_findTicket_8 rfl ?_
  refine x_if_eq (tgt := 23) dX11_findTicket_11 (by decide) h (fun h => ?_) (fun h => ?_)
  · refine x_null 9 dX11_findTicket_23 ?_
    exact x_aret rfl (Or.inl ⟨_, rfl⟩) dX11_findTicket_24 h
  · refine x_aload_n 0 dX11_findTicket_14 rfl rfl ?_
    refine x_getR rfl ck_11 10 (by decide) rfl q_200 dX11_findTicket_15 ?_
    refine x_iload_n 1 dX11_findTicket_18 rfl rfl ?_
    refine z_bnd h (fun a2 ha2 h => ?_)
    refine x_aaload ha2 ak_26 dX11_findTicket_19 h (fun v3 hv3 h => ?_)
    refine x_goto (tgt := 24) dX11_findTicket_20 (by decide) ?_
    exact x_aret rfl (Or.inl ⟨_, rfl⟩) dX11_findTicket_24 h
-- PressedMen isHolder (I)Z
abbrev Y_X11_isHolder : ZM := (yX11_isHolder, cX11_isHolder, 1, (some .boolean), 1, 22)
theorem cw_X11_isHolder : z_CS Y_X11_isHolder 1 := ⟨q_1008, q_1009, q_70, ⟨by decide, by decide⟩, rfl⟩
def f_X11_isHolder (x0 : Int32) (S : ZH) : Option (Int32) :=
  (f_X11_within x0 (0 : Int32) (9 : Int32) S).bind fun q1 =>
  if z_b q1 = q1 then some q1 else none
set_option maxRecDepth 20000 in
set_option maxHeartbeats 1000000 in
theorem w_X11_isHolder {x0 : Int32} {S : ZH} {q : Int32} (h : f_X11_isHolder x0 S = some q) : MetX Y_X11_isHolder S [z_i x0] (some (z_i q)) S := by
  refine MetX.of (lo := [(0, z_i x0)]) rfl (by decide) (Nat.le_of_ble_eq_true rfl) ?_
  unfold f_X11_isHolder at h
  refine x_iload_n 0 dX11_isHolder_0 rfl rfl ?_
  refine x_iconst (v := (0 : Int32)) dX11_isHolder_1 (by decide) ?_
  refine x_bipush (v := (9 : Int32)) dX11_isHolder_2 (by decide) ?_
  refine z_bnd h (fun q1 hq1 h => ?_)
  refine x_callS1 (w_X11_within hq1) cw_X11_within q_252 ⟨by decide, by decide⟩ (Nat.le_of_ble_eq_true rfl) dX11_isHolder_4 rfl ?_
  exact x_zret rfl dX11_isHolder_7 h
-- PressedMen give (LPressedMen$Ticket;II)V
abbrev Y_X11_give : ZM := (yX11_give, cX11_give, 5, none, 2, 43)
theorem cw_X11_give : z_CV Y_X11_give 11 3 := ⟨⟨_, _, rfl⟩, by decide, q_1012, q_39, q_1013, q_70, ⟨by decide, by decide⟩, rfl⟩
def f_X11_give (n0 : Nat) (x1 : Option Nat) (x2 : Int32) (x3 : Int32) (S : ZH) : Option (ZH) :=
  (f_X11_isHolder x2 S).bind fun q1 =>
  if q1 = 0 then (
    (x1).bind fun a2 =>
    (f_X11_findMan n0 (zI S 9 a2 0) S).bind fun q3 =>
    if q3 = none then (
      some S
    ) else (
      (q3).bind fun a4 =>
      some (zsI S 3 a4 9 ((zI S 3 a4 9) + x3))
    )
  ) else (
    ((zR S 11 n0 12)).bind fun a5 =>
    (zld S 27 a5 x2).bind fun v6 =>
    ((zR S 11 n0 12)).bind fun a7 =>
    (zst S 27 a7 x2 (v6 + x3)).bind fun S8 =>
    some S8
  )
set_option maxRecDepth 20000 in
set_option maxHeartbeats 1000000 in
theorem w_X11_give {n0 : Nat} {x1 : Option Nat} {x2 : Int32} {x3 : Int32} {S : ZH} {q : ZH} (h : f_X11_give n0 x1 x2 x3 S = some q) : MetX Y_X11_give S [z_r 11 (some n0), z_r 9 x1, z_i x2, z_i x3] none q := by
  refine MetX.of (lo := [(0, z_r 11 (some n0)), (1, z_r 9 x1), (2, z_i x2), (3, z_i x3)]) rfl (by decide) (Nat.le_of_ble_eq_true rfl) ?_
  unfold f_X11_give at h
  refine x_iload_n 2 dX11_give_0 rfl rfl ?_
  refine z_bnd h (fun q1 hq1 h => ?_)
  refine x_callS1 (w_X11_isHolder hq1) cw_X11_isHolder q_1007 ⟨by decide, by decide⟩ (Nat.le_of_ble_eq_true rfl) dX11_give_1 rfl ?_
  refine x_if_eq (tgt := 18) dX11_give_4 (by decide) h (fun h => ?_) (fun h => ?_)
  · refine x_aload_n 0 dX11_give_18 rfl rfl ?_
    refine x_aload_n 1 dX11_give_19 rfl rfl ?_
    refine z_bnd h (fun a2 ha2 h => ?_)
    revert h
    subst ha2
    intro h
    refine x_getI rfl ck_9 0 (by decide) rfl q_981 dX11_give_20 ?_
    refine z_bnd h (fun q3 hq3 h => ?_)
    refine x_callV1 rfl (w_X11_findMan hq3) cw_X11_findMan q_366 ⟨by decide, by decide⟩ (Nat.le_of_ble_eq_true rfl) dX11_give_23 rfl ?_
    refine x_astore (lo' := [(4, z_r 3 q3), (0, z_r 11 (some n0)), (1, z_r 9 (some a2)), (2, z_i x2), (3, z_i x3)]) dX11_give_26 (by decide) rfl ?_
    refine x_aload 0 dX11_give_28 rfl ?_
    refine x_ifnull (tgt := 44) dX11_give_30 (by decide) h (fun h => ?_) (fun h => ?_)
    · exact x_vretE rfl dX11_give_44 h
    · refine x_aload 0 dX11_give_33 rfl ?_
      refine x_dup dX11_give_35 rfl ?_
      refine z_bnd h (fun a4 ha4 h => ?_)
      revert h
      subst ha4
      intro h
      refine x_getI rfl ck_3 9 (by decide) rfl q_328 dX11_give_36 ?_
      refine x_iload_n 4 dX11_give_39 rfl rfl ?_
      refine x_iadd dX11_give_40 ?_
      refine x_putI rfl ck_3 9 (by decide) rfl (Or.inl rfl) (by rfl) rfl q_328 dX11_give_41 ?_
      exact x_vretE rfl dX11_give_44 h
  · refine x_aload_n 0 dX11_give_7 rfl rfl ?_
    refine x_getR rfl ck_11 12 (by decide) rfl q_202 dX11_give_8 ?_
    refine x_iload_n 2 dX11_give_11 rfl rfl ?_
    refine x_dup2 dX11_give_12 rfl rfl ?_
    refine z_bnd h (fun a5 ha5 h => ?_)
    refine x_iaload ha5 ak_27 dX11_give_13 h (fun v6 hv6 h => ?_)
    refine x_iload_n 3 dX11_give_14 rfl rfl ?_
    refine x_iadd dX11_give_15 ?_
    refine z_bnd h (fun a7 ha7 h => ?_)
    refine x_iastore ha7 ak_27 dX11_give_16 h (fun S8 hS8 h => ?_)
    exact x_vretE rfl dX11_give_17 h
-- PressedMen sell (III)I
abbrev Y_X11_sell : ZM := (yX11_sell, cX11_sell, 6, (some .int), 3, 67)
theorem cw_X11_sell : z_CV Y_X11_sell 11 3 := ⟨⟨_, _, rfl⟩, by decide, q_1000, q_1001, q_1002, q_70, ⟨by decide, by decide⟩, rfl⟩
def f_X11_sell (n0 : Nat) (x1 : Int32) (x2 : Int32) (x3 : Int32) (S : ZH) : Option (Int32 × ZH) :=
  (f_X11_findTicket n0 x1 S).bind fun q1 =>
  if q1 = none then (
    some ((-1 : Int32), S)
  ) else (
    (f_X11_isHolder x2 S).bind fun q2 =>
    if ¬ q2 = 0 then (
      (f_X11_within x3 (1 : Int32) (100 : Int32) S).bind fun q3 =>
      if ¬ q3 = 0 then (
        (q1).bind fun a4 =>
        if ¬ (zI S 9 a4 3) = 0 then (
          some ((-3 : Int32), S)
        ) else (
          if ¬ (zI S 9 a4 2) = x2 then (
            (f_X11_give n0 (some a4) (zI S 9 a4 2) (((zI S 9 a4 1) * x3) / (100 : Int32)) S).bind fun q5 =>
            ((zR q5 11 n0 12)).bind fun a6 =>
            (zld q5 27 a6 x2).bind fun v7 =>
            ((zR q5 11 n0 12)).bind fun a8 =>
            (zst q5 27 a8 x2 (v7 - (((zI S 9 a4 1) * x3) / (100 : Int32)))).bind fun S9 =>
            some ((((zI S 9 a4 1) * x3) / (100 : Int32)), (zsI S9 9 a4 2 x2))
          ) else (
            some ((-3 : Int32), S)
          )
        )
      ) else (
        some ((-2 : Int32), S)
      )
    ) else (
      some ((-1 : Int32), S)
    )
  )
set_option maxRecDepth 20000 in
set_option maxHeartbeats 1000000 in
theorem w_X11_sell {n0 : Nat} {x1 : Int32} {x2 : Int32} {x3 : Int32} {S : ZH} {q : Int32 × ZH} (h : f_X11_sell n0 x1 x2 x3 S = some q) : MetX Y_X11_sell S [z_r 11 (some n0), z_i x1, z_i x2, z_i x3] (some (z_i q.1)) q.2 := by
  refine MetX.of (lo := [(0, z_r 11 (some n0)), (1, z_i x1), (2, z_i x2), (3, z_i x3)]) rfl (by decide) (Nat.le_of_ble_eq_true rfl) ?_
  unfold f_X11_sell at h
  refine x_aload_n 0 dX11_sell_0 rfl rfl ?_
  refine x_iload_n 1 dX11_sell_1 rfl rfl ?_
  refine z_bnd h (fun q1 hq1 h => ?_)
  refine x_callV1 rfl (w_X11_findTicket hq1) cw_X11_findTicket q_1003 ⟨by decide, by decide⟩ (Nat.le_of_ble_eq_true rfl) dX11_sell_2 rfl ?_
  refine x_astore (lo' := [(4, z_r 9 q1), (0, z_r 11 (some n0)), (1, z_i x1), (2, z_i x2), (3, z_i x3)]) dX11_sell_5 (by decide) rfl ?_
  refine x_aload 0 dX11_sell_7 rfl ?_
  refine x_ifnull (tgt := 19) dX11_sell_9 (by decide) h (fun h => ?_) (fun h => ?_)
  · refine x_iconst (v := (-1 : Int32)) dX11_sell_19 (by decide) ?_
    exact x_iretE rfl dX11_sell_20 h
  · refine x_iload_n 3 dX11_sell_12 rfl rfl ?_
    refine z_bnd h (fun q2 hq2 h => ?_)
    refine x_callS1 (w_X11_isHolder hq2) cw_X11_isHolder q_1007 ⟨by decide, by decide⟩ (Nat.le_of_ble_eq_true rfl) dX11_sell_13 rfl ?_
    refine x_if_ne (tgt := 21) dX11_sell_16 (by decide) h (fun h => ?_) (fun h => ?_)
    · refine x_iload_n 4 dX11_sell_21 rfl rfl ?_
      refine x_iconst (v := (1 : Int32)) dX11_sell_22 (by decide) ?_
      refine x_bipush (v := (100 : Int32)) dX11_sell_23 (by decide) ?_
      refine z_bnd h (fun q3 hq3 h => ?_)
      refine x_callS1 (w_X11_within hq3) cw_X11_within q_252 ⟨by decide, by decide⟩ (Nat.le_of_ble_eq_true rfl) dX11_sell_25 rfl ?_
      refine x_if_ne (tgt := 34) dX11_sell_28 (by decide) h (fun h => ?_) (fun h => ?_)
      · refine x_aload 0 dX11_sell_34 rfl ?_
        refine z_bnd h (fun a4 ha4 h => ?_)
        revert h
        subst ha4
        intro h
        refine x_getI rfl ck_9 3 (by decide) rfl q_986 dX11_sell_36 ?_
        refine x_if_ne (tgt := 51) dX11_sell_39 (by decide) h (fun h => ?_) (fun h => ?_)
        · refine x_bipush (v := (-3 : Int32)) dX11_sell_51 (by decide) ?_
          exact x_iretE rfl dX11_sell_53 h
        · refine x_aload 0 dX11_sell_42 rfl ?_
          refine x_getI rfl ck_9 2 (by decide) rfl q_985 dX11_sell_44 ?_
          refine x_iload_n 3 dX11_sell_47 rfl rfl ?_
          refine x_ic_ne (tgt := 54) dX11_sell_48 (by decide) h (fun h => ?_) (fun h => ?_)
          · refine x_aload 0 dX11_sell_54 rfl ?_
            refine x_getI rfl ck_9 1 (by decide) rfl q_983 dX11_sell_56 ?_
            refine x_iload_n 4 dX11_sell_59 rfl rfl ?_
            refine x_imul dX11_sell_60 ?_
            refine x_bipush (v := (100 : Int32)) dX11_sell_61 (by decide) ?_
            refine x_idiv dX11_sell_63 (by decide) ?_
            refine x_istore (lo' := [(5, z_i (((zI S 9 a4 1) * x3) / (100 : Int32))), (4, z_r 9 (some a4)), (0, z_r 11 (some n0)), (1, z_i x1), (2, z_i x2), (3, z_i x3)]) dX11_sell_64 (by decide) rfl ?_
            refine x_aload_n 2 dX11_sell_66 rfl rfl ?_
            refine x_aload 1 dX11_sell_67 rfl ?_
            refine x_aload 1 dX11_sell_69 rfl ?_
            refine x_getI rfl ck_9 2 (by decide) rfl q_985 dX11_sell_71 ?_
            refine x_iload 0 dX11_sell_74 rfl ?_
            refine z_bnd h (fun q5 hq5 h => ?_)
            refine x_callVv rfl (w_X11_give hq5) cw_X11_give q_1010 ⟨by decide, by decide⟩ (Nat.le_of_ble_eq_true rfl) dX11_sell_76 rfl ?_
            refine x_aload_n 2 dX11_sell_79 rfl rfl ?_
            refine x_getR rfl ck_11 12 (by decide) rfl q_202 dX11_sell_80 ?_
            refine x_iload_n 4 dX11_sell_83 rfl rfl ?_
            refine x_dup2 dX11_sell_84 rfl rfl ?_
            refine z_bnd h (fun a6 ha6 h => ?_)
            refine x_iaload ha6 ak_27 dX11_sell_85 h (fun v7 hv7 h => ?_)
            refine x_iload 0 dX11_sell_86 rfl ?_
            refine x_isub dX11_sell_88 ?_
            refine z_bnd h (fun a8 ha8 h => ?_)
            refine x_iastore ha8 ak_27 dX11_sell_89 h (fun S9 hS9 h => ?_)
            refine x_aload 1 dX11_sell_90 rfl ?_
            refine x_iload_n 4 dX11_sell_92 rfl rfl ?_
            refine x_putI rfl ck_9 2 (by decide) rfl (Or.inl rfl) (by rfl) rfl q_985 dX11_sell_93 ?_
            refine x_iload 0 dX11_sell_96 rfl ?_
            exact x_iretE rfl dX11_sell_98 h
          · refine x_bipush (v := (-3 : Int32)) dX11_sell_51 (by decide) ?_
            exact x_iretE rfl dX11_sell_53 h
      · refine x_bipush (v := (-2 : Int32)) dX11_sell_31 (by decide) ?_
        exact x_iretE rfl dX11_sell_33 h
    · refine x_iconst (v := (-1 : Int32)) dX11_sell_19 (by decide) ?_
      exact x_iretE rfl dX11_sell_20 h
-- PressedMen pay (II)I
abbrev Y_X11_pay : ZM := (yX11_pay, cX11_pay, 4, (some .int), 3, 67)
theorem cw_X11_pay : z_CV Y_X11_pay 11 2 := ⟨⟨_, _, rfl⟩, by decide, q_1015, q_1016, q_1017, q_70, ⟨by decide, by decide⟩, rfl⟩
def j_X11_pay_58 (n0 : Nat) (x2 : Int32) (n3 : Nat)  (S : ZH) : Option (Int32 × ZH) :=
  (f_X11_give n0 (some n3) x2 (zI S 9 n3 1) S).bind fun q3 =>
  some ((zI q3 9 n3 1), q3)
def j_X11_pay_40 (n0 : Nat) (x2 : Int32) (n3 : Nat)  (S : ZH) : Option (Int32 × ZH) :=
  j_X11_pay_58 n0 x2 n3 (zsI S 9 n3 4 ((zI S 9 n3 4) + (1 : Int32)))
def j_X11_pay_25 (n0 : Nat) (x2 : Int32) (x3 : Option Nat)  (S : ZH) : Option (Int32 × ZH) :=
  (x3).bind fun a2 =>
  if ¬ (zI S 9 a2 3) = 0 then (
    j_X11_pay_40 n0 x2 a2 S
  ) else (
    if (zI S 9 a2 2) = x2 then (
      j_X11_pay_58 n0 x2 a2 (zsI S 9 a2 3 (1 : Int32))
    ) else (
      j_X11_pay_40 n0 x2 a2 S
    )
  )
def f_X11_pay (n0 : Nat) (x1 : Int32) (x2 : Int32) (S : ZH) : Option (Int32 × ZH) :=
  (f_X11_findTicket n0 x1 S).bind fun q1 =>
  if q1 = none then (
    some ((-1 : Int32), S)
  ) else (
    if x2 = (-9 : Int32) then (
      j_X11_pay_25 n0 x2 q1 S
    ) else (
      (f_X11_isHolder x2 S).bind fun q4 =>
      if ¬ q4 = 0 then (
        j_X11_pay_25 n0 x2 q1 S
      ) else (
        some ((-1 : Int32), S)
      )
    )
  )
set_option maxRecDepth 20000 in
theorem k_X11_pay_58 {S0 : ZH} {n0 : Nat} {x2 : Int32} {n3 : Nat}  {S : ZH} {z : Int32 × ZH} (h : j_X11_pay_58 n0 x2 n3 S = some z) : Wp Y_X11_pay S0 (zF S0 (some (z_i z.1)) z.2) 58 [(0, z_r 11 (some n0)), (2, z_i x2), (3, z_r 9 (some n3))] [] S := by
  unfold j_X11_pay_58 at h
  refine x_aload_n 0 dX11_pay_58 rfl rfl ?_
  refine x_aload_n 2 dX11_pay_59 rfl rfl ?_
  refine x_iload_n 1 dX11_pay_60 rfl rfl ?_
  refine x_aload_n 2 dX11_pay_61 rfl rfl ?_
  refine x_getI rfl ck_9 1 (by decide) rfl q_983 dX11_pay_62 ?_
  refine z_bnd h (fun q3 hq3 h => ?_)
  refine x_callVv rfl (w_X11_give hq3) cw_X11_give q_1010 ⟨by decide, by decide⟩ (Nat.le_of_ble_eq_true rfl) dX11_pay_65 rfl ?_
  refine x_aload_n 2 dX11_pay_68 rfl rfl ?_
  refine x_getI rfl ck_9 1 (by decide) rfl q_983 dX11_pay_69 ?_
  exact x_iretE rfl dX11_pay_72 h
set_option maxRecDepth 20000 in
theorem k_X11_pay_40 {S0 : ZH} {n0 : Nat} {x2 : Int32} {n3 : Nat}  {S : ZH} {z : Int32 × ZH} (h : j_X11_pay_40 n0 x2 n3 S = some z) : Wp Y_X11_pay S0 (zF S0 (some (z_i z.1)) z.2) 40 [(0, z_r 11 (some n0)), (2, z_i x2), (3, z_r 9 (some n3))] [] S := by
  unfold j_X11_pay_40 at h
  refine x_aload_n 2 dX11_pay_40 rfl rfl ?_
  refine x_dup dX11_pay_41 rfl ?_
  refine x_getI rfl ck_9 4 (by decide) rfl q_987 dX11_pay_42 ?_
  refine x_iconst (v := (1 : Int32)) dX11_pay_45 (by decide) ?_
  refine x_iadd dX11_pay_46 ?_
  refine x_putI rfl ck_9 4 (by decide) rfl (Or.inl rfl) (by rfl) rfl q_987 dX11_pay_47 ?_
  refine x_goto (tgt := 58) dX11_pay_50 (by decide) ?_
  exact x_lo [0, 1, 2] rfl (k_X11_pay_58 h)
set_option maxRecDepth 20000 in
theorem k_X11_pay_25 {S0 : ZH} {n0 : Nat} {x2 : Int32} {x3 : Option Nat}  {S : ZH} {z : Int32 × ZH} (h : j_X11_pay_25 n0 x2 x3 S = some z) : Wp Y_X11_pay S0 (zF S0 (some (z_i z.1)) z.2) 25 [(0, z_r 11 (some n0)), (2, z_i x2), (3, z_r 9 x3)] [] S := by
  unfold j_X11_pay_25 at h
  refine x_aload_n 2 dX11_pay_25 rfl rfl ?_
  refine z_bnd h (fun a2 ha2 h => ?_)
  revert h
  subst ha2
  intro h
  refine x_getI rfl ck_9 3 (by decide) rfl q_986 dX11_pay_26 ?_
  refine x_if_ne (tgt := 40) dX11_pay_29 (by decide) h (fun h => ?_) (fun h => ?_)
  · exact x_lo [0, 1, 2] rfl (k_X11_pay_40 h)
  · refine x_aload_n 2 dX11_pay_32 rfl rfl ?_
    refine x_getI rfl ck_9 2 (by decide) rfl q_985 dX11_pay_33 ?_
    refine x_iload_n 1 dX11_pay_36 rfl rfl ?_
    refine x_ic_eq (tgt := 53) dX11_pay_37 (by decide) h (fun h => ?_) (fun h => ?_)
    · refine x_aload_n 2 dX11_pay_53 rfl rfl ?_
      refine x_iconst (v := (1 : Int32)) dX11_pay_54 (by decide) ?_
      refine x_putI rfl ck_9 3 (by decide) rfl (Or.inl rfl) (by decide) rfl q_986 dX11_pay_55 ?_
      exact x_lo [0, 1, 2] rfl (k_X11_pay_58 h)
    · exact x_lo [0, 1, 2] rfl (k_X11_pay_40 h)
set_option maxRecDepth 20000 in
set_option maxHeartbeats 1000000 in
theorem w_X11_pay {n0 : Nat} {x1 : Int32} {x2 : Int32} {S : ZH} {q : Int32 × ZH} (h : f_X11_pay n0 x1 x2 S = some q) : MetX Y_X11_pay S [z_r 11 (some n0), z_i x1, z_i x2] (some (z_i q.1)) q.2 := by
  refine MetX.of (lo := [(0, z_r 11 (some n0)), (1, z_i x1), (2, z_i x2)]) rfl (by decide) (Nat.le_of_ble_eq_true rfl) ?_
  unfold f_X11_pay at h
  refine x_aload_n 0 dX11_pay_0 rfl rfl ?_
  refine x_iload_n 1 dX11_pay_1 rfl rfl ?_
  refine z_bnd h (fun q1 hq1 h => ?_)
  refine x_callV1 rfl (w_X11_findTicket hq1) cw_X11_findTicket q_1003 ⟨by decide, by decide⟩ (Nat.le_of_ble_eq_true rfl) dX11_pay_2 rfl ?_
  refine x_astore_n (lo' := [(3, z_r 9 q1), (0, z_r 11 (some n0)), (1, z_i x1), (2, z_i x2)]) dX11_pay_5 rfl (by decide) rfl ?_
  refine x_aload_n 0 dX11_pay_6 rfl rfl ?_
  refine x_ifnull (tgt := 23) dX11_pay_7 (by decide) h (fun h => ?_) (fun h => ?_)
  · refine x_iconst (v := (-1 : Int32)) dX11_pay_23 (by decide) ?_
    exact x_iretE rfl dX11_pay_24 h
  · refine x_iload_n 3 dX11_pay_10 rfl rfl ?_
    refine x_bipush (v := (-9 : Int32)) dX11_pay_11 (by decide) ?_
    refine x_ic_eq (tgt := 25) dX11_pay_13 (by decide) h (fun h => ?_) (fun h => ?_)
    · exact x_lo [1, 3, 0] rfl (k_X11_pay_25 h)
    · refine x_iload_n 3 dX11_pay_16 rfl rfl ?_
      refine z_bnd h (fun q4 hq4 h => ?_)
      refine x_callS1 (w_X11_isHolder hq4) cw_X11_isHolder q_1007 ⟨by decide, by decide⟩ (Nat.le_of_ble_eq_true rfl) dX11_pay_17 rfl ?_
      refine x_if_ne (tgt := 25) dX11_pay_20 (by decide) h (fun h => ?_) (fun h => ?_)
      · exact x_lo [1, 3, 0] rfl (k_X11_pay_25 h)
      · refine x_iconst (v := (-1 : Int32)) dX11_pay_23 (by decide) ?_
        exact x_iretE rfl dX11_pay_24 h
-- PressedMen ticketOf (II)I
abbrev Y_X11_ticketOf : ZM := (yX11_ticketOf, cX11_ticketOf, 4, (some .int), 2, 43)
theorem cw_X11_ticketOf : z_CV Y_X11_ticketOf 11 2 := ⟨⟨_, _, rfl⟩, by decide, q_1019, q_1020, q_1021, q_70, ⟨by decide, by decide⟩, rfl⟩
def f_X11_ticketOf (n0 : Nat) (x1 : Int32) (x2 : Int32) (S : ZH) : Option (Int32) :=
  (f_X11_findTicket n0 x1 S).bind fun q1 =>
  if q1 = none then (
    some (-1 : Int32)
  ) else (
    if x2 = (0 : Int32) then (
      (q1).bind fun a2 =>
      some (zI S 9 a2 2)
    ) else (
      if x2 = (1 : Int32) then (
        (q1).bind fun a4 =>
        (f_X11_asNumber (zI S 9 a4 3) S).bind fun q5 =>
        some q5
      ) else (
        if x2 = (2 : Int32) then (
          (q1).bind fun a7 =>
          some (zI S 9 a7 4)
        ) else (
          if x2 = (3 : Int32) then (
            (q1).bind fun a9 =>
            some (zI S 9 a9 1)
          ) else (
            some (-2 : Int32)
          )
        )
      )
    )
  )
set_option maxRecDepth 20000 in
set_option maxHeartbeats 1000000 in
theorem w_X11_ticketOf {n0 : Nat} {x1 : Int32} {x2 : Int32} {S : ZH} {q : Int32} (h : f_X11_ticketOf n0 x1 x2 S = some q) : MetX Y_X11_ticketOf S [z_r 11 (some n0), z_i x1, z_i x2] (some (z_i q)) S := by
  refine MetX.of (lo := [(0, z_r 11 (some n0)), (1, z_i x1), (2, z_i x2)]) rfl (by decide) (Nat.le_of_ble_eq_true rfl) ?_
  unfold f_X11_ticketOf at h
  refine x_aload_n 0 dX11_ticketOf_0 rfl rfl ?_
  refine x_iload_n 1 dX11_ticketOf_1 rfl rfl ?_
  refine z_bnd h (fun q1 hq1 h => ?_)
  refine x_callV1 rfl (w_X11_findTicket hq1) cw_X11_findTicket q_1003 ⟨by decide, by decide⟩ (Nat.le_of_ble_eq_true rfl) dX11_ticketOf_2 rfl ?_
  refine x_astore_n (lo' := [(3, z_r 9 q1), (0, z_r 11 (some n0)), (1, z_i x1), (2, z_i x2)]) dX11_ticketOf_5 rfl (by decide) rfl ?_
  refine x_aload_n 0 dX11_ticketOf_6 rfl rfl ?_
  refine x_ifnonnull (tgt := 12) dX11_ticketOf_7 (by decide) h (fun h => ?_) (fun h => ?_)
  · refine x_iload_n 3 dX11_ticketOf_12 rfl rfl ?_
    refine z_ite h (fun hx3 h => ?_) (fun hx3 h => ?_)
    · refine x_tabIn (tgt := 44) dX11_ticketOf_13 hx3 (by decide) (by decide) rfl (by decide) ?_
      refine x_aload_n 0 dX11_ticketOf_44 rfl rfl ?_
      refine z_bnd h (fun a2 ha2 h => ?_)
      revert h
      subst ha2
      intro h
      refine x_getI rfl ck_9 2 (by decide) rfl q_985 dX11_ticketOf_45 ?_
      exact x_iret rfl dX11_ticketOf_48 h
    · refine z_ite h (fun hx6 h => ?_) (fun hx6 h => ?_)
      · refine x_tabIn (tgt := 49) dX11_ticketOf_13 hx6 (by decide) (by decide) rfl (by decide) ?_
        refine x_aload_n 0 dX11_ticketOf_49 rfl rfl ?_
        refine z_bnd h (fun a4 ha4 h => ?_)
        revert h
        subst ha4
        intro h
        refine x_getI rfl ck_9 3 (by decide) rfl q_986 dX11_ticketOf_50 ?_
        refine z_bnd h (fun q5 hq5 h => ?_)
        refine x_callS1 (w_X11_asNumber hq5) cw_X11_asNumber q_275 ⟨by decide, by decide⟩ (Nat.le_of_ble_eq_true rfl) dX11_ticketOf_53 rfl ?_
        exact x_iret rfl dX11_ticketOf_56 h
      · refine z_ite h (fun hx8 h => ?_) (fun hx8 h => ?_)
        · refine x_tabIn (tgt := 57) dX11_ticketOf_13 hx8 (by decide) (by decide) rfl (by decide) ?_
          refine x_aload_n 0 dX11_ticketOf_57 rfl rfl ?_
          refine z_bnd h (fun a7 ha7 h => ?_)
          revert h
          subst ha7
          intro h
          refine x_getI rfl ck_9 4 (by decide) rfl q_987 dX11_ticketOf_58 ?_
          exact x_iret rfl dX11_ticketOf_61 h
        · refine z_ite h (fun hx10 h => ?_) (fun hx10 h => ?_)
          · refine x_tabIn (tgt := 62) dX11_ticketOf_13 hx10 (by decide) (by decide) rfl (by decide) ?_
            refine x_aload_n 0 dX11_ticketOf_62 rfl rfl ?_
            refine z_bnd h (fun a9 ha9 h => ?_)
            revert h
            subst ha9
            intro h
            refine x_getI rfl ck_9 1 (by decide) rfl q_983 dX11_ticketOf_63 ?_
            exact x_iret rfl dX11_ticketOf_66 h
          · refine x_tabOut (tgt := 67) dX11_ticketOf_13 (by
                have hx3 := z_neI hx3 (n := 0) (by decide)
                have hx6 := z_neI hx6 (n := 1) (by decide)
                have hx8 := z_neI hx8 (n := 2) (by decide)
                have hx10 := z_neI hx10 (n := 3) (by decide)
                omega) (by decide) ?_
            refine x_bipush (v := (-2 : Int32)) dX11_ticketOf_67 (by decide) ?_
            exact x_iret rfl dX11_ticketOf_69 h
  · refine x_iconst (v := (-1 : Int32)) dX11_ticketOf_10 (by decide) ?_
    exact x_iret rfl dX11_ticketOf_11 h
-- PressedMen purse (I)I
abbrev Y_X11_purse : ZM := (yX11_purse, cX11_purse, 2, (some .int), 2, 42)
theorem cw_X11_purse : z_CV Y_X11_purse 11 1 := ⟨⟨_, _, rfl⟩, by decide, q_1023, q_1024, q_1025, q_70, ⟨by decide, by decide⟩, rfl⟩
def f_X11_purse (n0 : Nat) (x1 : Int32) (S : ZH) : Option (Int32) :=
  (f_X11_isHolder x1 S).bind fun q1 =>
  if q1 = 0 then (
    some (-1 : Int32)
  ) else (
    ((zR S 11 n0 12)).bind fun a2 =>
    (zld S 27 a2 x1).bind fun v3 =>
    some v3
  )
set_option maxRecDepth 20000 in
set_option maxHeartbeats 1000000 in
theorem w_X11_purse {n0 : Nat} {x1 : Int32} {S : ZH} {q : Int32} (h : f_X11_purse n0 x1 S = some q) : MetX Y_X11_purse S [z_r 11 (some n0), z_i x1] (some (z_i q)) S := by
  refine MetX.of (lo := [(0, z_r 11 (some n0)), (1, z_i x1)]) rfl (by decide) (Nat.le_of_ble_eq_true rfl) ?_
  unfold f_X11_purse at h
  refine x_iload_n 1 dX11_purse_0 rfl rfl ?_
  refine z_bnd h (fun q1 hq1 h => ?_)
  refine x_callS1 (w_X11_isHolder hq1) cw_X11_isHolder q_1007 ⟨by decide, by decide⟩ (Nat.le_of_ble_eq_true rfl) dX11_purse_1 rfl ?_
  refine x_if_eq (tgt := 16) dX11_purse_4 (by decide) h (fun h => ?_) (fun h => ?_)
  · refine x_iconst (v := (-1 : Int32)) dX11_purse_16 (by decide) ?_
    exact x_iret rfl dX11_purse_17 h
  · refine x_aload_n 0 dX11_purse_7 rfl rfl ?_
    refine x_getR rfl ck_11 12 (by decide) rfl q_202 dX11_purse_8 ?_
    refine x_iload_n 1 dX11_purse_11 rfl rfl ?_
    refine z_bnd h (fun a2 ha2 h => ?_)
    refine x_iaload ha2 ak_27 dX11_purse_12 h (fun v3 hv3 h => ?_)
    refine x_goto (tgt := 17) dX11_purse_13 (by decide) ?_
    exact x_iret rfl dX11_purse_17 h
-- PressedMen owedTo (I)I
abbrev Y_X11_owedTo : ZM := (yX11_owedTo, cX11_owedTo, 5, (some .int), 0, 0)
theorem cw_X11_owedTo : z_CV Y_X11_owedTo 11 1 := ⟨⟨_, _, rfl⟩, by decide, q_1032, q_40, q_1033, q_70, ⟨by decide, by decide⟩, rfl⟩
def b_X11_owedTo_4 (n0 : Nat) (x1 : Int32) (S : ZH) (v : Int32 × Int32) : Option ((Int32 × Int32) ⊕ (Int32)) :=
  if (zI S 11 n0 11) ≤ v.2 then (
    some (Sum.inr v.1)
  ) else (
    ((zR S 11 n0 10)).bind fun a1 =>
    (zldR S 26 a1 v.2).bind fun v2 =>
    (v2).bind fun a3 =>
    if ¬ (zI S 9 a3 0) = x1 then (
      some (Sum.inl (v.1, (v.2 + 1)))
    ) else (
      if ¬ (zI S 9 a3 2) = (-9 : Int32) then (
        some (Sum.inl (v.1, (v.2 + 1)))
      ) else (
        if ¬ (zI S 9 a3 3) = 0 then (
          some (Sum.inl (v.1, (v.2 + 1)))
        ) else (
          some (Sum.inl ((v.1 + (zI S 9 a3 1)), (v.2 + 1)))
        )
      )
    )
  )
def f_X11_owedTo (n0 : Nat) (x1 : Int32) (S : ZH) : Option (Int32) :=
  (z_iter zFU (b_X11_owedTo_4 n0 x1 S) ((0 : Int32), (0 : Int32))).bind fun t4 =>
  some t4
set_option maxRecDepth 20000 in
theorem l_X11_owedTo_4 {S0 : ZH} {F : ZP} {n0 : Nat} {x1 : Int32} {S : ZH} {v : Int32 × Int32} {t : Int32} (h : z_iter zFU (b_X11_owedTo_4 n0 x1 S) v = some t) (k : (fun t => Wp Y_X11_owedTo S0 F 61 [(2, z_i t)] [] S) t) : Wp Y_X11_owedTo S0 F 4 [(0, z_r 11 (some n0)), (1, z_i x1), (2, z_i v.1), (3, z_i v.2)] [] S := by
  refine z_iter_P (P := fun v : Int32 × Int32 => Wp Y_X11_owedTo S0 F 4 [(0, z_r 11 (some n0)), (1, z_i x1), (2, z_i v.1), (3, z_i v.2)] [] S) (X := (fun t => Wp Y_X11_owedTo S0 F 61 [(2, z_i t)] [] S)) ?_ _ _ _ h k
  clear h k v t
  intro v r h k
  unfold b_X11_owedTo_4 at h
  refine x_iload_n 3 dX11_owedTo_4 rfl rfl ?_
  refine x_aload_n 0 dX11_owedTo_5 rfl rfl ?_
  refine x_getI rfl ck_11 11 (by decide) rfl q_201 dX11_owedTo_6 ?_
  refine x_ic_ge (tgt := 61) dX11_owedTo_9 (by decide) h (fun h => ?_) (fun h => ?_)
  · cases h
    exact x_lo [2] rfl k
  · refine x_aload_n 0 dX11_owedTo_12 rfl rfl ?_
    refine x_getR rfl ck_11 10 (by decide) rfl q_200 dX11_owedTo_13 ?_
    refine x_iload_n 3 dX11_owedTo_16 rfl rfl ?_
    refine z_bnd h (fun a1 ha1 h => ?_)
    refine x_aaload ha1 ak_26 dX11_owedTo_17 h (fun v2 hv2 h => ?_)
    refine x_astore (lo' := [(4, z_r 9 v2), (0, z_r 11 (some n0)), (1, z_i x1), (2, z_i v.1), (3, z_i v.2)]) dX11_owedTo_18 (by decide) rfl ?_
    refine x_aload 0 dX11_owedTo_20 rfl ?_
    refine z_bnd h (fun a3 ha3 h => ?_)
    revert h
    subst ha3
    intro h
    refine x_getI rfl ck_9 0 (by decide) rfl q_981 dX11_owedTo_22 ?_
    refine x_iload_n 2 dX11_owedTo_25 rfl rfl ?_
    refine x_ic_ne (tgt := 55) dX11_owedTo_26 (by decide) h (fun h => ?_) (fun h => ?_)
    · refine x_iinc (v := (v.2 + 1)) (lo' := [(3, z_i (v.2 + 1)), (4, z_r 9 (some a3)), (0, z_r 11 (some n0)), (1, z_i x1), (2, z_i v.1)]) 4 dX11_owedTo_55 rfl (congrArg (HAdd.hAdd v.2) (by decide)) (by decide) rfl ?_
      refine x_goto (tgt := 4) dX11_owedTo_58 (by decide) ?_
      cases h
      exact x_lo [2, 3, 4, 0] rfl k
    · refine x_aload 0 dX11_owedTo_29 rfl ?_
      refine x_getI rfl ck_9 2 (by decide) rfl q_985 dX11_owedTo_31 ?_
      refine x_bipush (v := (-9 : Int32)) dX11_owedTo_34 (by decide) ?_
      refine x_ic_ne (tgt := 55) dX11_owedTo_36 (by decide) h (fun h => ?_) (fun h => ?_)
      · refine x_iinc (v := (v.2 + 1)) (lo' := [(3, z_i (v.2 + 1)), (4, z_r 9 (some a3)), (0, z_r 11 (some n0)), (1, z_i x1), (2, z_i v.1)]) 4 dX11_owedTo_55 rfl (congrArg (HAdd.hAdd v.2) (by decide)) (by decide) rfl ?_
        refine x_goto (tgt := 4) dX11_owedTo_58 (by decide) ?_
        cases h
        exact x_lo [2, 3, 4, 0] rfl k
      · refine x_aload 0 dX11_owedTo_39 rfl ?_
        refine x_getI rfl ck_9 3 (by decide) rfl q_986 dX11_owedTo_41 ?_
        refine x_if_ne (tgt := 55) dX11_owedTo_44 (by decide) h (fun h => ?_) (fun h => ?_)
        · refine x_iinc (v := (v.2 + 1)) (lo' := [(3, z_i (v.2 + 1)), (4, z_r 9 (some a3)), (0, z_r 11 (some n0)), (1, z_i x1), (2, z_i v.1)]) 4 dX11_owedTo_55 rfl (congrArg (HAdd.hAdd v.2) (by decide)) (by decide) rfl ?_
          refine x_goto (tgt := 4) dX11_owedTo_58 (by decide) ?_
          cases h
          exact x_lo [2, 3, 4, 0] rfl k
        · refine x_iload_n 3 dX11_owedTo_47 rfl rfl ?_
          refine x_aload 0 dX11_owedTo_48 rfl ?_
          refine x_getI rfl ck_9 1 (by decide) rfl q_983 dX11_owedTo_50 ?_
          refine x_iadd dX11_owedTo_53 ?_
          refine x_istore_n (lo' := [(2, z_i (v.1 + (zI S 9 a3 1))), (4, z_r 9 (some a3)), (0, z_r 11 (some n0)), (1, z_i x1), (3, z_i v.2)]) dX11_owedTo_54 rfl (by decide) rfl ?_
          refine x_iinc (v := (v.2 + 1)) (lo' := [(3, z_i (v.2 + 1)), (2, z_i (v.1 + (zI S 9 a3 1))), (4, z_r 9 (some a3)), (0, z_r 11 (some n0)), (1, z_i x1)]) 4 dX11_owedTo_55 rfl (congrArg (HAdd.hAdd v.2) (by decide)) (by decide) rfl ?_
          refine x_goto (tgt := 4) dX11_owedTo_58 (by decide) ?_
          cases h
          exact x_lo [3, 4, 1, 0] rfl k
set_option maxRecDepth 20000 in
set_option maxHeartbeats 1000000 in
theorem w_X11_owedTo {n0 : Nat} {x1 : Int32} {S : ZH} {q : Int32} (h : f_X11_owedTo n0 x1 S = some q) : MetX Y_X11_owedTo S [z_r 11 (some n0), z_i x1] (some (z_i q)) S := by
  refine MetX.of (lo := [(0, z_r 11 (some n0)), (1, z_i x1)]) rfl (by decide) (Nat.le_of_ble_eq_true rfl) ?_
  unfold f_X11_owedTo at h
  refine x_iconst (v := (0 : Int32)) dX11_owedTo_0 (by decide) ?_
  refine x_istore_n (lo' := [(2, z_i (0 : Int32)), (0, z_r 11 (some n0)), (1, z_i x1)]) dX11_owedTo_1 rfl (by decide) rfl ?_
  refine x_iconst (v := (0 : Int32)) dX11_owedTo_2 (by decide) ?_
  refine x_istore_n (lo' := [(3, z_i (0 : Int32)), (2, z_i (0 : Int32)), (0, z_r 11 (some n0)), (1, z_i x1)]) dX11_owedTo_3 rfl (by decide) rfl ?_
  refine z_bnd h (fun t4 ht4 h => ?_)
  refine x_lo [2, 3, 1, 0] rfl ?_
  refine l_X11_owedTo_4 ht4 ?_
  refine x_iload_n 0 dX11_owedTo_61 rfl rfl ?_
  exact x_iret rfl dX11_owedTo_62 h
-- PressedMen wages (IZ)I
abbrev Y_X11_wages : ZM := (yX11_wages, cX11_wages, 4, (some .int), 2, 43)
theorem cw_X11_wages : z_CV Y_X11_wages 11 2 := ⟨⟨_, _, rfl⟩, by decide, q_1027, q_1028, q_1029, q_70, ⟨by decide, by decide⟩, rfl⟩
def f_X11_wages (n0 : Nat) (x1 : Int32) (x2 : Int32) (S : ZH) : Option (Int32) :=
  (f_X11_findMan n0 x1 S).bind fun q1 =>
  if q1 = none then (
    some (-1 : Int32)
  ) else (
    if x2 = 0 then (
      (q1).bind fun a2 =>
      some (zI S 3 a2 9)
    ) else (
      (f_X11_owedTo n0 x1 S).bind fun q3 =>
      some q3
    )
  )
set_option maxRecDepth 20000 in
set_option maxHeartbeats 1000000 in
theorem w_X11_wages {n0 : Nat} {x1 : Int32} {x2 : Int32} {S : ZH} {q : Int32} (h : f_X11_wages n0 x1 x2 S = some q) : MetX Y_X11_wages S [z_r 11 (some n0), z_i x1, z_i x2] (some (z_i q)) S := by
  refine MetX.of (lo := [(0, z_r 11 (some n0)), (1, z_i x1), (2, z_i x2)]) rfl (by decide) (Nat.le_of_ble_eq_true rfl) ?_
  unfold f_X11_wages at h
  refine x_aload_n 0 dX11_wages_0 rfl rfl ?_
  refine x_iload_n 1 dX11_wages_1 rfl rfl ?_
  refine z_bnd h (fun q1 hq1 h => ?_)
  refine x_callV1 rfl (w_X11_findMan hq1) cw_X11_findMan q_366 ⟨by decide, by decide⟩ (Nat.le_of_ble_eq_true rfl) dX11_wages_2 rfl ?_
  refine x_astore_n (lo' := [(3, z_r 3 q1), (0, z_r 11 (some n0)), (1, z_i x1), (2, z_i x2)]) dX11_wages_5 rfl (by decide) rfl ?_
  refine x_aload_n 0 dX11_wages_6 rfl rfl ?_
  refine x_ifnonnull (tgt := 12) dX11_wages_7 (by decide) h (fun h => ?_) (fun h => ?_)
  · refine x_iload_n 3 dX11_wages_12 rfl rfl ?_
    refine x_if_eq (tgt := 24) dX11_wages_13 (by decide) h (fun h => ?_) (fun h => ?_)
    · refine x_aload_n 0 dX11_wages_24 rfl rfl ?_
      refine z_bnd h (fun a2 ha2 h => ?_)
      revert h
      subst ha2
      intro h
      refine x_getI rfl ck_3 9 (by decide) rfl q_328 dX11_wages_25 ?_
      exact x_iret rfl dX11_wages_28 h
    · refine x_aload_n 1 dX11_wages_16 rfl rfl ?_
      refine x_iload_n 2 dX11_wages_17 rfl rfl ?_
      refine z_bnd h (fun q3 hq3 h => ?_)
      refine x_callV1 rfl (w_X11_owedTo hq3) cw_X11_owedTo q_1030 ⟨by decide, by decide⟩ (Nat.le_of_ble_eq_true rfl) dX11_wages_18 rfl ?_
      refine x_goto (tgt := 28) dX11_wages_21 (by decide) ?_
      exact x_iret rfl dX11_wages_28 h
  · refine x_iconst (v := (-1 : Int32)) dX11_wages_10 (by decide) ?_
    exact x_iret rfl dX11_wages_11 h
-- PressedMen menOffTheStreets ()I
abbrev Y_X11_menOffTheStreets : ZM := (yX11_menOffTheStreets, cX11_menOffTheStreets, 3, (some .int), 2, 42)
theorem cw_X11_menOffTheStreets : z_CV Y_X11_menOffTheStreets 11 0 := ⟨⟨_, _, rfl⟩, by decide, q_1040, q_41, q_1041, q_70, ⟨by decide, by decide⟩, rfl⟩
def b_X11_menOffTheStreets_4 (n0 : Nat) (S : ZH) (v : Int32 × Int32) : Option ((Int32 × Int32) ⊕ (Int32)) :=
  if (zI S 11 n0 2) ≤ v.2 then (
    some (Sum.inr v.1)
  ) else (
    ((zR S 11 n0 1)).bind fun a1 =>
    (zldR S 22 a1 v.2).bind fun v2 =>
    (v2).bind fun a3 =>
    (f_X11_isStreet (zI S 3 a3 8) S).bind fun q4 =>
    if ¬ q4 = 0 then (
      some (Sum.inl (v.1, (v.2 + 1)))
    ) else (
      some (Sum.inl ((v.1 + 1), (v.2 + 1)))
    )
  )
def f_X11_menOffTheStreets (n0 : Nat) (S : ZH) : Option (Int32) :=
  (z_iter zFU (b_X11_menOffTheStreets_4 n0 S) ((0 : Int32), (0 : Int32))).bind fun t5 =>
  some t5
set_option maxRecDepth 20000 in
theorem l_X11_menOffTheStreets_4 {S0 : ZH} {F : ZP} {n0 : Nat} {S : ZH} {v : Int32 × Int32} {t : Int32} (h : z_iter zFU (b_X11_menOffTheStreets_4 n0 S) v = some t) (k : (fun t => Wp Y_X11_menOffTheStreets S0 F 36 [(1, z_i t)] [] S) t) : Wp Y_X11_menOffTheStreets S0 F 4 [(0, z_r 11 (some n0)), (1, z_i v.1), (2, z_i v.2)] [] S := by
  refine z_iter_P (P := fun v : Int32 × Int32 => Wp Y_X11_menOffTheStreets S0 F 4 [(0, z_r 11 (some n0)), (1, z_i v.1), (2, z_i v.2)] [] S) (X := (fun t => Wp Y_X11_menOffTheStreets S0 F 36 [(1, z_i t)] [] S)) ?_ _ _ _ h k
  clear h k v t
  intro v r h k
  unfold b_X11_menOffTheStreets_4 at h
  refine x_iload_n 2 dX11_menOffTheStreets_4 rfl rfl ?_
  refine x_aload_n 0 dX11_menOffTheStreets_5 rfl rfl ?_
  refine x_getI rfl ck_11 2 (by decide) rfl q_192 dX11_menOffTheStreets_6 ?_
  refine x_ic_ge (tgt := 36) dX11_menOffTheStreets_9 (by decide) h (fun h => ?_) (fun h => ?_)
  · cases h
    exact x_lo [1] rfl k
  · refine x_aload_n 0 dX11_menOffTheStreets_12 rfl rfl ?_
    refine x_getR rfl ck_11 1 (by decide) rfl q_191 dX11_menOffTheStreets_13 ?_
    refine x_iload_n 2 dX11_menOffTheStreets_16 rfl rfl ?_
    refine z_bnd h (fun a1 ha1 h => ?_)
    refine x_aaload ha1 ak_22 dX11_menOffTheStreets_17 h (fun v2 hv2 h => ?_)
    refine z_bnd h (fun a3 ha3 h => ?_)
    revert h
    subst ha3
    intro h
    refine x_getI rfl ck_3 8 (by decide) rfl q_327 dX11_menOffTheStreets_18 ?_
    refine z_bnd h (fun q4 hq4 h => ?_)
    refine x_callS1 (w_X11_isStreet hq4) cw_X11_isStreet q_423 ⟨by decide, by decide⟩ (Nat.le_of_ble_eq_true rfl) dX11_menOffTheStreets_21 rfl ?_
    refine x_if_ne (tgt := 30) dX11_menOffTheStreets_24 (by decide) h (fun h => ?_) (fun h => ?_)
    · refine x_iinc (v := (v.2 + 1)) (lo' := [(2, z_i (v.2 + 1)), (0, z_r 11 (some n0)), (1, z_i v.1)]) 2 dX11_menOffTheStreets_30 rfl (congrArg (HAdd.hAdd v.2) (by decide)) (by decide) rfl ?_
      refine x_goto (tgt := 4) dX11_menOffTheStreets_33 (by decide) ?_
      cases h
      exact x_lo [1, 2, 0] rfl k
    · refine x_iinc (v := (v.1 + 1)) (lo' := [(1, z_i (v.1 + 1)), (0, z_r 11 (some n0)), (2, z_i v.2)]) 1 dX11_menOffTheStreets_27 rfl (congrArg (HAdd.hAdd v.1) (by decide)) (by decide) rfl ?_
      refine x_iinc (v := (v.2 + 1)) (lo' := [(2, z_i (v.2 + 1)), (1, z_i (v.1 + 1)), (0, z_r 11 (some n0))]) 2 dX11_menOffTheStreets_30 rfl (congrArg (HAdd.hAdd v.2) (by decide)) (by decide) rfl ?_
      refine x_goto (tgt := 4) dX11_menOffTheStreets_33 (by decide) ?_
      cases h
      exact x_lo [2, 1, 0] rfl k
set_option maxRecDepth 20000 in
set_option maxHeartbeats 1000000 in
theorem w_X11_menOffTheStreets {n0 : Nat} {S : ZH} {q : Int32} (h : f_X11_menOffTheStreets n0 S = some q) : MetX Y_X11_menOffTheStreets S [z_r 11 (some n0)] (some (z_i q)) S := by
  refine MetX.of (lo := [(0, z_r 11 (some n0))]) rfl (by decide) (Nat.le_of_ble_eq_true rfl) ?_
  unfold f_X11_menOffTheStreets at h
  refine x_iconst (v := (0 : Int32)) dX11_menOffTheStreets_0 (by decide) ?_
  refine x_istore_n (lo' := [(1, z_i (0 : Int32)), (0, z_r 11 (some n0))]) dX11_menOffTheStreets_1 rfl (by decide) rfl ?_
  refine x_iconst (v := (0 : Int32)) dX11_menOffTheStreets_2 (by decide) ?_
  refine x_istore_n (lo' := [(2, z_i (0 : Int32)), (1, z_i (0 : Int32)), (0, z_r 11 (some n0))]) dX11_menOffTheStreets_3 rfl (by decide) rfl ?_
  refine z_bnd h (fun t5 ht5 h => ?_)
  refine x_lo [2, 1, 0] rfl ?_
  refine l_X11_menOffTheStreets_4 ht5 ?_
  refine x_iload_n 0 dX11_menOffTheStreets_36 rfl rfl ?_
  exact x_iret rfl dX11_menOffTheStreets_37 h
-- PressedMen count (I)I
abbrev Y_X11_count : ZM := (yX11_count, cX11_count, 2, (some .int), 3, 64)
theorem cw_X11_count : z_CV Y_X11_count 11 1 := ⟨⟨_, _, rfl⟩, by decide, q_1035, q_1036, q_1037, q_70, ⟨by decide, by decide⟩, rfl⟩
def f_X11_count (n0 : Nat) (x1 : Int32) (S : ZH) : Option (Int32) :=
  if x1 = (0 : Int32) then (
    some (zI S 11 n0 2)
  ) else (
    if x1 = (1 : Int32) then (
      some (zI S 11 n0 9)
    ) else (
      if x1 = (2 : Int32) then (
        some (zI S 11 n0 4)
      ) else (
        if x1 = (3 : Int32) then (
          some (zI S 11 n0 6)
        ) else (
          if x1 = (4 : Int32) then (
            ((zR S 11 n0 7)).bind fun a5 =>
            some (zI S 5 a5 0)
          ) else (
            if x1 = (5 : Int32) then (
              some (zI S 11 n0 11)
            ) else (
              if x1 = (6 : Int32) then (
                (f_X11_menOffTheStreets n0 S).bind fun q8 =>
                some q8
              ) else (
                if x1 = (7 : Int32) then (
                  ((zR S 11 n0 0)).bind fun a10 =>
                  some (zI S 10 a10 0)
                ) else (
                  some (-2 : Int32)
                )
              )
            )
          )
        )
      )
    )
  )
set_option maxRecDepth 20000 in
set_option maxHeartbeats 1000000 in
theorem w_X11_count {n0 : Nat} {x1 : Int32} {S : ZH} {q : Int32} (h : f_X11_count n0 x1 S = some q) : MetX Y_X11_count S [z_r 11 (some n0), z_i x1] (some (z_i q)) S := by
  refine MetX.of (lo := [(0, z_r 11 (some n0)), (1, z_i x1)]) rfl (by decide) (Nat.le_of_ble_eq_true rfl) ?_
  unfold f_X11_count at h
  refine x_iload_n 1 dX11_count_0 rfl rfl ?_
  refine z_ite h (fun hx1 h => ?_) (fun hx1 h => ?_)
  · refine x_tabIn (tgt := 48) dX11_count_1 hx1 (by decide) (by decide) rfl (by decide) ?_
    refine x_aload_n 0 dX11_count_48 rfl rfl ?_
    refine x_getI rfl ck_11 2 (by decide) rfl q_192 dX11_count_49 ?_
    exact x_iret rfl dX11_count_52 h
  · refine z_ite h (fun hx2 h => ?_) (fun hx2 h => ?_)
    · refine x_tabIn (tgt := 53) dX11_count_1 hx2 (by decide) (by decide) rfl (by decide) ?_
      refine x_aload_n 0 dX11_count_53 rfl rfl ?_
      refine x_getI rfl ck_11 9 (by decide) rfl q_199 dX11_count_54 ?_
      exact x_iret rfl dX11_count_57 h
    · refine z_ite h (fun hx3 h => ?_) (fun hx3 h => ?_)
      · refine x_tabIn (tgt := 58) dX11_count_1 hx3 (by decide) (by decide) rfl (by decide) ?_
        refine x_aload_n 0 dX11_count_58 rfl rfl ?_
        refine x_getI rfl ck_11 4 (by decide) rfl q_194 dX11_count_59 ?_
        exact x_iret rfl dX11_count_62 h
      · refine z_ite h (fun hx4 h => ?_) (fun hx4 h => ?_)
        · refine x_tabIn (tgt := 63) dX11_count_1 hx4 (by decide) (by decide) rfl (by decide) ?_
          refine x_aload_n 0 dX11_count_63 rfl rfl ?_
          refine x_getI rfl ck_11 6 (by decide) rfl q_196 dX11_count_64 ?_
          exact x_iret rfl dX11_count_67 h
        · refine z_ite h (fun hx6 h => ?_) (fun hx6 h => ?_)
          · refine x_tabIn (tgt := 68) dX11_count_1 hx6 (by decide) (by decide) rfl (by decide) ?_
            refine x_aload_n 0 dX11_count_68 rfl rfl ?_
            refine x_getR rfl ck_11 7 (by decide) rfl q_197 dX11_count_69 ?_
            refine z_bnd h (fun a5 ha5 h => ?_)
            refine x_getI ha5 ck_5 0 (by decide) rfl q_134 dX11_count_72 ?_
            exact x_iret rfl dX11_count_75 h
          · refine z_ite h (fun hx7 h => ?_) (fun hx7 h => ?_)
            · refine x_tabIn (tgt := 76) dX11_count_1 hx7 (by decide) (by decide) rfl (by decide) ?_
              refine x_aload_n 0 dX11_count_76 rfl rfl ?_
              refine x_getI rfl ck_11 11 (by decide) rfl q_201 dX11_count_77 ?_
              exact x_iret rfl dX11_count_80 h
            · refine z_ite h (fun hx9 h => ?_) (fun hx9 h => ?_)
              · refine x_tabIn (tgt := 81) dX11_count_1 hx9 (by decide) (by decide) rfl (by decide) ?_
                refine x_aload_n 0 dX11_count_81 rfl rfl ?_
                refine z_bnd h (fun q8 hq8 h => ?_)
                refine x_callV1 rfl (w_X11_menOffTheStreets hq8) cw_X11_menOffTheStreets q_1038 ⟨by decide, by decide⟩ (Nat.le_of_ble_eq_true rfl) dX11_count_82 rfl ?_
                exact x_iret rfl dX11_count_85 h
              · refine z_ite h (fun hx11 h => ?_) (fun hx11 h => ?_)
                · refine x_tabIn (tgt := 86) dX11_count_1 hx11 (by decide) (by decide) rfl (by decide) ?_
                  refine x_aload_n 0 dX11_count_86 rfl rfl ?_
                  refine x_getR rfl ck_11 0 (by decide) rfl q_190 dX11_count_87 ?_
                  refine z_bnd h (fun a10 ha10 h => ?_)
                  refine x_getI ha10 ck_10 0 (by decide) rfl q_103 dX11_count_90 ?_
                  exact x_iret rfl dX11_count_93 h
                · refine x_tabOut (tgt := 94) dX11_count_1 (by
                      have hx1 := z_neI hx1 (n := 0) (by decide)
                      have hx2 := z_neI hx2 (n := 1) (by decide)
                      have hx3 := z_neI hx3 (n := 2) (by decide)
                      have hx4 := z_neI hx4 (n := 3) (by decide)
                      have hx6 := z_neI hx6 (n := 4) (by decide)
                      have hx7 := z_neI hx7 (n := 5) (by decide)
                      have hx9 := z_neI hx9 (n := 6) (by decide)
                      have hx11 := z_neI hx11 (n := 7) (by decide)
                      omega) (by decide) ?_
                  refine x_bipush (v := (-2 : Int32)) dX11_count_94 (by decide) ?_
                  exact x_iret rfl dX11_count_96 h
-- PressedMenModel <init> ()V
abbrev Y_X12_init : ZM := (yX12_init, cX12_init, 1, none, 1, 20)
theorem cw_X12_init : z_CI Y_X12_init 0 := ⟨rfl, rfl, q_1045, q_1046, q_76, ⟨by decide, by decide⟩, rfl⟩
def f_X12_init (n0 : Nat) (S : ZH) : Option (ZH) :=
  (znw (zsI S 12 n0 1 (4 : Int32)) 29 (64 : Int32)).bind fun S1 =>
  (znw (zsR S1 12 n0 2 (some (zN (zsI S 12 n0 1 (4 : Int32)) 29))) 30 (64 : Int32)).bind fun S2 =>
  (znw (zsR S2 12 n0 3 (some (zN (zsR S1 12 n0 2 (some (zN (zsI S 12 n0 1 (4 : Int32)) 29))) 30))) 31 (320 : Int32)).bind fun S3 =>
  (znw (zsR S3 12 n0 6 (some (zN (zsR S2 12 n0 3 (some (zN (zsR S1 12 n0 2 (some (zN (zsI S 12 n0 1 (4 : Int32)) 29))) 30))) 31))) 32 (40 : Int32)).bind fun S4 =>
  (znw (zsR S4 12 n0 7 (some (zN (zsR S3 12 n0 6 (some (zN (zsR S2 12 n0 3 (some (zN (zsR S1 12 n0 2 (some (zN (zsI S 12 n0 1 (4 : Int32)) 29))) 30))) 31))) 32))) 33 (36000 : Int32)).bind fun S5 =>
  (znw (zsR S5 12 n0 8 (some (zN (zsR S4 12 n0 7 (some (zN (zsR S3 12 n0 6 (some (zN (zsR S2 12 n0 3 (some (zN (zsR S1 12 n0 2 (some (zN (zsI S 12 n0 1 (4 : Int32)) 29))) 30))) 31))) 32))) 33))) 34 (10 : Int32)).bind fun S6 =>
  (znw (zsR S6 12 n0 10 (some (zN (zsR S5 12 n0 8 (some (zN (zsR S4 12 n0 7 (some (zN (zsR S3 12 n0 6 (some (zN (zsR S2 12 n0 3 (some (zN (zsR S1 12 n0 2 (some (zN (zsI S 12 n0 1 (4 : Int32)) 29))) 30))) 31))) 32))) 33))) 34))) 35 (10 : Int32)).bind fun S7 =>
  (znw (zsR S7 12 n0 11 (some (zN (zsR S6 12 n0 10 (some (zN (zsR S5 12 n0 8 (some (zN (zsR S4 12 n0 7 (some (zN (zsR S3 12 n0 6 (some (zN (zsR S2 12 n0 3 (some (zN (zsR S1 12 n0 2 (some (zN (zsI S 12 n0 1 (4 : Int32)) 29))) 30))) 31))) 32))) 33))) 34))) 35))) 36 (10 : Int32)).bind fun S8 =>
  (znw (zsR S8 12 n0 12 (some (zN (zsR S7 12 n0 11 (some (zN (zsR S6 12 n0 10 (some (zN (zsR S5 12 n0 8 (some (zN (zsR S4 12 n0 7 (some (zN (zsR S3 12 n0 6 (some (zN (zsR S2 12 n0 3 (some (zN (zsR S1 12 n0 2 (some (zN (zsI S 12 n0 1 (4 : Int32)) 29))) 30))) 31))) 32))) 33))) 34))) 35))) 36))) 37 (10 : Int32)).bind fun S9 =>
  (znw (zsR S9 12 n0 13 (some (zN (zsR S8 12 n0 12 (some (zN (zsR S7 12 n0 11 (some (zN (zsR S6 12 n0 10 (some (zN (zsR S5 12 n0 8 (some (zN (zsR S4 12 n0 7 (some (zN (zsR S3 12 n0 6 (some (zN (zsR S2 12 n0 3 (some (zN (zsR S1 12 n0 2 (some (zN (zsI S 12 n0 1 (4 : Int32)) 29))) 30))) 31))) 32))) 33))) 34))) 35))) 36))) 37))) 38 (10 : Int32)).bind fun S10 =>
  (znw (zsR S10 12 n0 14 (some (zN (zsR S9 12 n0 13 (some (zN (zsR S8 12 n0 12 (some (zN (zsR S7 12 n0 11 (some (zN (zsR S6 12 n0 10 (some (zN (zsR S5 12 n0 8 (some (zN (zsR S4 12 n0 7 (some (zN (zsR S3 12 n0 6 (some (zN (zsR S2 12 n0 3 (some (zN (zsR S1 12 n0 2 (some (zN (zsI S 12 n0 1 (4 : Int32)) 29))) 30))) 31))) 32))) 33))) 34))) 35))) 36))) 37))) 38))) 39 (540 : Int32)).bind fun S11 =>
  (znw (zsR S11 12 n0 16 (some (zN (zsR S10 12 n0 14 (some (zN (zsR S9 12 n0 13 (some (zN (zsR S8 12 n0 12 (some (zN (zsR S7 12 n0 11 (some (zN (zsR S6 12 n0 10 (some (zN (zsR S5 12 n0 8 (some (zN (zsR S4 12 n0 7 (some (zN (zsR S3 12 n0 6 (some (zN (zsR S2 12 n0 3 (some (zN (zsR S1 12 n0 2 (some (zN (zsI S 12 n0 1 (4 : Int32)) 29))) 30))) 31))) 32))) 33))) 34))) 35))) 36))) 37))) 38))) 39))) 40 (8 : Int32)).bind fun S12 =>
  (znw (zsR S12 12 n0 18 (some (zN (zsR S11 12 n0 16 (some (zN (zsR S10 12 n0 14 (some (zN (zsR S9 12 n0 13 (some (zN (zsR S8 12 n0 12 (some (zN (zsR S7 12 n0 11 (some (zN (zsR S6 12 n0 10 (some (zN (zsR S5 12 n0 8 (some (zN (zsR S4 12 n0 7 (some (zN (zsR S3 12 n0 6 (some (zN (zsR S2 12 n0 3 (some (zN (zsR S1 12 n0 2 (some (zN (zsI S 12 n0 1 (4 : Int32)) 29))) 30))) 31))) 32))) 33))) 34))) 35))) 36))) 37))) 38))) 39))) 40))) 41 (8 : Int32)).bind fun S13 =>
  (znw (zsR S13 12 n0 19 (some (zN (zsR S12 12 n0 18 (some (zN (zsR S11 12 n0 16 (some (zN (zsR S10 12 n0 14 (some (zN (zsR S9 12 n0 13 (some (zN (zsR S8 12 n0 12 (some (zN (zsR S7 12 n0 11 (some (zN (zsR S6 12 n0 10 (some (zN (zsR S5 12 n0 8 (some (zN (zsR S4 12 n0 7 (some (zN (zsR S3 12 n0 6 (some (zN (zsR S2 12 n0 3 (some (zN (zsR S1 12 n0 2 (some (zN (zsI S 12 n0 1 (4 : Int32)) 29))) 30))) 31))) 32))) 33))) 34))) 35))) 36))) 37))) 38))) 39))) 40))) 41))) 42 (480 : Int32)).bind fun S14 =>
  (znw (zsR S14 12 n0 20 (some (zN (zsR S13 12 n0 19 (some (zN (zsR S12 12 n0 18 (some (zN (zsR S11 12 n0 16 (some (zN (zsR S10 12 n0 14 (some (zN (zsR S9 12 n0 13 (some (zN (zsR S8 12 n0 12 (some (zN (zsR S7 12 n0 11 (some (zN (zsR S6 12 n0 10 (some (zN (zsR S5 12 n0 8 (some (zN (zsR S4 12 n0 7 (some (zN (zsR S3 12 n0 6 (some (zN (zsR S2 12 n0 3 (some (zN (zsR S1 12 n0 2 (some (zN (zsI S 12 n0 1 (4 : Int32)) 29))) 30))) 31))) 32))) 33))) 34))) 35))) 36))) 37))) 38))) 39))) 40))) 41))) 42))) 43 (64 : Int32)).bind fun S15 =>
  (znw (zsR S15 12 n0 21 (some (zN (zsR S14 12 n0 20 (some (zN (zsR S13 12 n0 19 (some (zN (zsR S12 12 n0 18 (some (zN (zsR S11 12 n0 16 (some (zN (zsR S10 12 n0 14 (some (zN (zsR S9 12 n0 13 (some (zN (zsR S8 12 n0 12 (some (zN (zsR S7 12 n0 11 (some (zN (zsR S6 12 n0 10 (some (zN (zsR S5 12 n0 8 (some (zN (zsR S4 12 n0 7 (some (zN (zsR S3 12 n0 6 (some (zN (zsR S2 12 n0 3 (some (zN (zsR S1 12 n0 2 (some (zN (zsI S 12 n0 1 (4 : Int32)) 29))) 30))) 31))) 32))) 33))) 34))) 35))) 36))) 37))) 38))) 39))) 40))) 41))) 42))) 43))) 44 (360 : Int32)).bind fun S16 =>
  (znw (zsI (zsI (zsR S16 12 n0 23 (some (zN (zsR S15 12 n0 21 (some (zN (zsR S14 12 n0 20 (some (zN (zsR S13 12 n0 19 (some (zN (zsR S12 12 n0 18 (some (zN (zsR S11 12 n0 16 (some (zN (zsR S10 12 n0 14 (some (zN (zsR S9 12 n0 13 (some (zN (zsR S8 12 n0 12 (some (zN (zsR S7 12 n0 11 (some (zN (zsR S6 12 n0 10 (some (zN (zsR S5 12 n0 8 (some (zN (zsR S4 12 n0 7 (some (zN (zsR S3 12 n0 6 (some (zN (zsR S2 12 n0 3 (some (zN (zsR S1 12 n0 2 (some (zN (zsI S 12 n0 1 (4 : Int32)) 29))) 30))) 31))) 32))) 33))) 34))) 35))) 36))) 37))) 38))) 39))) 40))) 41))) 42))) 43))) 44))) 12 n0 25 (10 : Int32)) 12 n0 26 (50 : Int32)) 45 (8 : Int32)).bind fun S17 =>
  (znw (zsR S17 12 n0 27 (some (zN (zsI (zsI (zsR S16 12 n0 23 (some (zN (zsR S15 12 n0 21 (some (zN (zsR S14 12 n0 20 (some (zN (zsR S13 12 n0 19 (some (zN (zsR S12 12 n0 18 (some (zN (zsR S11 12 n0 16 (some (zN (zsR S10 12 n0 14 (some (zN (zsR S9 12 n0 13 (some (zN (zsR S8 12 n0 12 (some (zN (zsR S7 12 n0 11 (some (zN (zsR S6 12 n0 10 (some (zN (zsR S5 12 n0 8 (some (zN (zsR S4 12 n0 7 (some (zN (zsR S3 12 n0 6 (some (zN (zsR S2 12 n0 3 (some (zN (zsR S1 12 n0 2 (some (zN (zsI S 12 n0 1 (4 : Int32)) 29))) 30))) 31))) 32))) 33))) 34))) 35))) 36))) 37))) 38))) 39))) 40))) 41))) 42))) 43))) 44))) 12 n0 25 (10 : Int32)) 12 n0 26 (50 : Int32)) 45))) 46 (6 : Int32)).bind fun S18 =>
  (znw (zsR S18 12 n0 28 (some (zN (zsR S17 12 n0 27 (some (zN (zsI (zsI (zsR S16 12 n0 23 (some (zN (zsR S15 12 n0 21 (some (zN (zsR S14 12 n0 20 (some (zN (zsR S13 12 n0 19 (some (zN (zsR S12 12 n0 18 (some (zN (zsR S11 12 n0 16 (some (zN (zsR S10 12 n0 14 (some (zN (zsR S9 12 n0 13 (some (zN (zsR S8 12 n0 12 (some (zN (zsR S7 12 n0 11 (some (zN (zsR S6 12 n0 10 (some (zN (zsR S5 12 n0 8 (some (zN (zsR S4 12 n0 7 (some (zN (zsR S3 12 n0 6 (some (zN (zsR S2 12 n0 3 (some (zN (zsR S1 12 n0 2 (some (zN (zsI S 12 n0 1 (4 : Int32)) 29))) 30))) 31))) 32))) 33))) 34))) 35))) 36))) 37))) 38))) 39))) 40))) 41))) 42))) 43))) 44))) 12 n0 25 (10 : Int32)) 12 n0 26 (50 : Int32)) 45))) 46))) 47 (8 : Int32)).bind fun S19 =>
  (znw (zsR S19 12 n0 29 (some (zN (zsR S18 12 n0 28 (some (zN (zsR S17 12 n0 27 (some (zN (zsI (zsI (zsR S16 12 n0 23 (some (zN (zsR S15 12 n0 21 (some (zN (zsR S14 12 n0 20 (some (zN (zsR S13 12 n0 19 (some (zN (zsR S12 12 n0 18 (some (zN (zsR S11 12 n0 16 (some (zN (zsR S10 12 n0 14 (some (zN (zsR S9 12 n0 13 (some (zN (zsR S8 12 n0 12 (some (zN (zsR S7 12 n0 11 (some (zN (zsR S6 12 n0 10 (some (zN (zsR S5 12 n0 8 (some (zN (zsR S4 12 n0 7 (some (zN (zsR S3 12 n0 6 (some (zN (zsR S2 12 n0 3 (some (zN (zsR S1 12 n0 2 (some (zN (zsI S 12 n0 1 (4 : Int32)) 29))) 30))) 31))) 32))) 33))) 34))) 35))) 36))) 37))) 38))) 39))) 40))) 41))) 42))) 43))) 44))) 12 n0 25 (10 : Int32)) 12 n0 26 (50 : Int32)) 45))) 46))) 47))) 48 (40 : Int32)).bind fun S20 =>
  (znw (zsR S20 12 n0 32 (some (zN (zsR S19 12 n0 29 (some (zN (zsR S18 12 n0 28 (some (zN (zsR S17 12 n0 27 (some (zN (zsI (zsI (zsR S16 12 n0 23 (some (zN (zsR S15 12 n0 21 (some (zN (zsR S14 12 n0 20 (some (zN (zsR S13 12 n0 19 (some (zN (zsR S12 12 n0 18 (some (zN (zsR S11 12 n0 16 (some (zN (zsR S10 12 n0 14 (some (zN (zsR S9 12 n0 13 (some (zN (zsR S8 12 n0 12 (some (zN (zsR S7 12 n0 11 (some (zN (zsR S6 12 n0 10 (some (zN (zsR S5 12 n0 8 (some (zN (zsR S4 12 n0 7 (some (zN (zsR S3 12 n0 6 (some (zN (zsR S2 12 n0 3 (some (zN (zsR S1 12 n0 2 (some (zN (zsI S 12 n0 1 (4 : Int32)) 29))) 30))) 31))) 32))) 33))) 34))) 35))) 36))) 37))) 38))) 39))) 40))) 41))) 42))) 43))) 44))) 12 n0 25 (10 : Int32)) 12 n0 26 (50 : Int32)) 45))) 46))) 47))) 48))) 49 (40 : Int32)).bind fun S21 =>
  (znw (zsR S21 12 n0 33 (some (zN (zsR S20 12 n0 32 (some (zN (zsR S19 12 n0 29 (some (zN (zsR S18 12 n0 28 (some (zN (zsR S17 12 n0 27 (some (zN (zsI (zsI (zsR S16 12 n0 23 (some (zN (zsR S15 12 n0 21 (some (zN (zsR S14 12 n0 20 (some (zN (zsR S13 12 n0 19 (some (zN (zsR S12 12 n0 18 (some (zN (zsR S11 12 n0 16 (some (zN (zsR S10 12 n0 14 (some (zN (zsR S9 12 n0 13 (some (zN (zsR S8 12 n0 12 (some (zN (zsR S7 12 n0 11 (some (zN (zsR S6 12 n0 10 (some (zN (zsR S5 12 n0 8 (some (zN (zsR S4 12 n0 7 (some (zN (zsR S3 12 n0 6 (some (zN (zsR S2 12 n0 3 (some (zN (zsR S1 12 n0 2 (some (zN (zsI S 12 n0 1 (4 : Int32)) 29))) 30))) 31))) 32))) 33))) 34))) 35))) 36))) 37))) 38))) 39))) 40))) 41))) 42))) 43))) 44))) 12 n0 25 (10 : Int32)) 12 n0 26 (50 : Int32)) 45))) 46))) 47))) 48))) 49))) 50 (40 : Int32)).bind fun S22 =>
  (znw (zsR S22 12 n0 34 (some (zN (zsR S21 12 n0 33 (some (zN (zsR S20 12 n0 32 (some (zN (zsR S19 12 n0 29 (some (zN (zsR S18 12 n0 28 (some (zN (zsR S17 12 n0 27 (some (zN (zsI (zsI (zsR S16 12 n0 23 (some (zN (zsR S15 12 n0 21 (some (zN (zsR S14 12 n0 20 (some (zN (zsR S13 12 n0 19 (some (zN (zsR S12 12 n0 18 (some (zN (zsR S11 12 n0 16 (some (zN (zsR S10 12 n0 14 (some (zN (zsR S9 12 n0 13 (some (zN (zsR S8 12 n0 12 (some (zN (zsR S7 12 n0 11 (some (zN (zsR S6 12 n0 10 (some (zN (zsR S5 12 n0 8 (some (zN (zsR S4 12 n0 7 (some (zN (zsR S3 12 n0 6 (some (zN (zsR S2 12 n0 3 (some (zN (zsR S1 12 n0 2 (some (zN (zsI S 12 n0 1 (4 : Int32)) 29))) 30))) 31))) 32))) 33))) 34))) 35))) 36))) 37))) 38))) 39))) 40))) 41))) 42))) 43))) 44))) 12 n0 25 (10 : Int32)) 12 n0 26 (50 : Int32)) 45))) 46))) 47))) 48))) 49))) 50))) 51 (40 : Int32)).bind fun S23 =>
  (znw (zsR S23 12 n0 35 (some (zN (zsR S22 12 n0 34 (some (zN (zsR S21 12 n0 33 (some (zN (zsR S20 12 n0 32 (some (zN (zsR S19 12 n0 29 (some (zN (zsR S18 12 n0 28 (some (zN (zsR S17 12 n0 27 (some (zN (zsI (zsI (zsR S16 12 n0 23 (some (zN (zsR S15 12 n0 21 (some (zN (zsR S14 12 n0 20 (some (zN (zsR S13 12 n0 19 (some (zN (zsR S12 12 n0 18 (some (zN (zsR S11 12 n0 16 (some (zN (zsR S10 12 n0 14 (some (zN (zsR S9 12 n0 13 (some (zN (zsR S8 12 n0 12 (some (zN (zsR S7 12 n0 11 (some (zN (zsR S6 12 n0 10 (some (zN (zsR S5 12 n0 8 (some (zN (zsR S4 12 n0 7 (some (zN (zsR S3 12 n0 6 (some (zN (zsR S2 12 n0 3 (some (zN (zsR S1 12 n0 2 (some (zN (zsI S 12 n0 1 (4 : Int32)) 29))) 30))) 31))) 32))) 33))) 34))) 35))) 36))) 37))) 38))) 39))) 40))) 41))) 42))) 43))) 44))) 12 n0 25 (10 : Int32)) 12 n0 26 (50 : Int32)) 45))) 46))) 47))) 48))) 49))) 50))) 51))) 52 (40 : Int32)).bind fun S24 =>
  (znw (zsR S24 12 n0 36 (some (zN (zsR S23 12 n0 35 (some (zN (zsR S22 12 n0 34 (some (zN (zsR S21 12 n0 33 (some (zN (zsR S20 12 n0 32 (some (zN (zsR S19 12 n0 29 (some (zN (zsR S18 12 n0 28 (some (zN (zsR S17 12 n0 27 (some (zN (zsI (zsI (zsR S16 12 n0 23 (some (zN (zsR S15 12 n0 21 (some (zN (zsR S14 12 n0 20 (some (zN (zsR S13 12 n0 19 (some (zN (zsR S12 12 n0 18 (some (zN (zsR S11 12 n0 16 (some (zN (zsR S10 12 n0 14 (some (zN (zsR S9 12 n0 13 (some (zN (zsR S8 12 n0 12 (some (zN (zsR S7 12 n0 11 (some (zN (zsR S6 12 n0 10 (some (zN (zsR S5 12 n0 8 (some (zN (zsR S4 12 n0 7 (some (zN (zsR S3 12 n0 6 (some (zN (zsR S2 12 n0 3 (some (zN (zsR S1 12 n0 2 (some (zN (zsI S 12 n0 1 (4 : Int32)) 29))) 30))) 31))) 32))) 33))) 34))) 35))) 36))) 37))) 38))) 39))) 40))) 41))) 42))) 43))) 44))) 12 n0 25 (10 : Int32)) 12 n0 26 (50 : Int32)) 45))) 46))) 47))) 48))) 49))) 50))) 51))) 52))) 53 (10 : Int32)).bind fun S25 =>
  (znw (zsR S25 12 n0 37 (some (zN (zsR S24 12 n0 36 (some (zN (zsR S23 12 n0 35 (some (zN (zsR S22 12 n0 34 (some (zN (zsR S21 12 n0 33 (some (zN (zsR S20 12 n0 32 (some (zN (zsR S19 12 n0 29 (some (zN (zsR S18 12 n0 28 (some (zN (zsR S17 12 n0 27 (some (zN (zsI (zsI (zsR S16 12 n0 23 (some (zN (zsR S15 12 n0 21 (some (zN (zsR S14 12 n0 20 (some (zN (zsR S13 12 n0 19 (some (zN (zsR S12 12 n0 18 (some (zN (zsR S11 12 n0 16 (some (zN (zsR S10 12 n0 14 (some (zN (zsR S9 12 n0 13 (some (zN (zsR S8 12 n0 12 (some (zN (zsR S7 12 n0 11 (some (zN (zsR S6 12 n0 10 (some (zN (zsR S5 12 n0 8 (some (zN (zsR S4 12 n0 7 (some (zN (zsR S3 12 n0 6 (some (zN (zsR S2 12 n0 3 (some (zN (zsR S1 12 n0 2 (some (zN (zsI S 12 n0 1 (4 : Int32)) 29))) 30))) 31))) 32))) 33))) 34))) 35))) 36))) 37))) 38))) 39))) 40))) 41))) 42))) 43))) 44))) 12 n0 25 (10 : Int32)) 12 n0 26 (50 : Int32)) 45))) 46))) 47))) 48))) 49))) 50))) 51))) 52))) 53))) 54 (40 : Int32)).bind fun S26 =>
  some (zsR S26 12 n0 38 (some (zN (zsR S25 12 n0 37 (some (zN (zsR S24 12 n0 36 (some (zN (zsR S23 12 n0 35 (some (zN (zsR S22 12 n0 34 (some (zN (zsR S21 12 n0 33 (some (zN (zsR S20 12 n0 32 (some (zN (zsR S19 12 n0 29 (some (zN (zsR S18 12 n0 28 (some (zN (zsR S17 12 n0 27 (some (zN (zsI (zsI (zsR S16 12 n0 23 (some (zN (zsR S15 12 n0 21 (some (zN (zsR S14 12 n0 20 (some (zN (zsR S13 12 n0 19 (some (zN (zsR S12 12 n0 18 (some (zN (zsR S11 12 n0 16 (some (zN (zsR S10 12 n0 14 (some (zN (zsR S9 12 n0 13 (some (zN (zsR S8 12 n0 12 (some (zN (zsR S7 12 n0 11 (some (zN (zsR S6 12 n0 10 (some (zN (zsR S5 12 n0 8 (some (zN (zsR S4 12 n0 7 (some (zN (zsR S3 12 n0 6 (some (zN (zsR S2 12 n0 3 (some (zN (zsR S1 12 n0 2 (some (zN (zsI S 12 n0 1 (4 : Int32)) 29))) 30))) 31))) 32))) 33))) 34))) 35))) 36))) 37))) 38))) 39))) 40))) 41))) 42))) 43))) 44))) 12 n0 25 (10 : Int32)) 12 n0 26 (50 : Int32)) 45))) 46))) 47))) 48))) 49))) 50))) 51))) 52))) 53))) 54)))
set_option maxRecDepth 20000 in
set_option maxHeartbeats 1000000 in
theorem w_X12_init {n0 : Nat} {S : ZH} {q : ZH} (h : f_X12_init n0 S = some q) : MetX Y_X12_init S [z_r 12 (some n0)] none q := by
  refine MetX.of (lo := [(0, z_r 12 (some n0))]) rfl (by decide) (Nat.le_of_ble_eq_true rfl) ?_
  unfold f_X12_init at h
  refine x_aload_n 0 dX12_init_0 rfl rfl ?_
  refine x_objInit rfl q_1047 q_94 q_95 ⟨by decide, by decide⟩ (Nat.le_of_ble_eq_true rfl) dX12_init_1 ?_
  refine x_aload_n 0 dX12_init_4 rfl rfl ?_
  refine x_iconst (v := (4 : Int32)) dX12_init_5 (by decide) ?_
  refine x_putI rfl ck_12 1 (by decide) rfl (Or.inl rfl) (by rfl) rfl q_1050 dX12_init_6 ?_
  refine x_aload_n 0 dX12_init_9 rfl rfl ?_
  refine x_bipush (v := (64 : Int32)) dX12_init_10 (by decide) ?_
  refine x_newa ak_29 at_boolean dX12_init_12 h (fun S1 hS1 h => ?_)
  refine x_putR rfl ck_12 2 (by decide) rfl (Or.inr ⟨rfl, rfl, rfl⟩) (Or.inr ⟨_, rfl⟩) q_1051 dX12_init_14 ?_
  refine x_aload_n 0 dX12_init_17 rfl rfl ?_
  refine x_bipush (v := (64 : Int32)) dX12_init_18 (by decide) ?_
  refine x_newa ak_30 at_int dX12_init_20 h (fun S2 hS2 h => ?_)
  refine x_putR rfl ck_12 3 (by decide) rfl (Or.inr ⟨rfl, rfl, rfl⟩) (Or.inr ⟨_, rfl⟩) q_1052 dX12_init_22 ?_
  refine x_aload_n 0 dX12_init_25 rfl rfl ?_
  refine x_sipush (v := (320 : Int32)) dX12_init_26 (by decide) ?_
  refine x_newa ak_31 at_int dX12_init_29 h (fun S3 hS3 h => ?_)
  refine x_putR rfl ck_12 6 (by decide) rfl (Or.inr ⟨rfl, rfl, rfl⟩) (Or.inr ⟨_, rfl⟩) q_1055 dX12_init_31 ?_
  refine x_aload_n 0 dX12_init_34 rfl rfl ?_
  refine x_bipush (v := (40 : Int32)) dX12_init_35 (by decide) ?_
  refine x_newa ak_32 at_int dX12_init_37 h (fun S4 hS4 h => ?_)
  refine x_putR rfl ck_12 7 (by decide) rfl (Or.inr ⟨rfl, rfl, rfl⟩) (Or.inr ⟨_, rfl⟩) q_1056 dX12_init_39 ?_
  refine x_aload_n 0 dX12_init_42 rfl rfl ?_
  refine x_ldc dX12_init_43 q_1048.1 ?_
  refine x_newa ak_33 at_int dX12_init_45 h (fun S5 hS5 h => ?_)
  refine x_putR rfl ck_12 8 (by decide) rfl (Or.inr ⟨rfl, rfl, rfl⟩) (Or.inr ⟨_, rfl⟩) q_1057 dX12_init_47 ?_
  refine x_aload_n 0 dX12_init_50 rfl rfl ?_
  refine x_bipush (v := (10 : Int32)) dX12_init_51 (by decide) ?_
  refine x_newa ak_34 at_int dX12_init_53 h (fun S6 hS6 h => ?_)
  refine x_putR rfl ck_12 10 (by decide) rfl (Or.inr ⟨rfl, rfl, rfl⟩) (Or.inr ⟨_, rfl⟩) q_1059 dX12_init_55 ?_
  refine x_aload_n 0 dX12_init_58 rfl rfl ?_
  refine x_bipush (v := (10 : Int32)) dX12_init_59 (by decide) ?_
  refine x_newa ak_35 at_int dX12_init_61 h (fun S7 hS7 h => ?_)
  refine x_putR rfl ck_12 11 (by decide) rfl (Or.inr ⟨rfl, rfl, rfl⟩) (Or.inr ⟨_, rfl⟩) q_1060 dX12_init_63 ?_
  refine x_aload_n 0 dX12_init_66 rfl rfl ?_
  refine x_bipush (v := (10 : Int32)) dX12_init_67 (by decide) ?_
  refine x_newa ak_36 at_int dX12_init_69 h (fun S8 hS8 h => ?_)
  refine x_putR rfl ck_12 12 (by decide) rfl (Or.inr ⟨rfl, rfl, rfl⟩) (Or.inr ⟨_, rfl⟩) q_1061 dX12_init_71 ?_
  refine x_aload_n 0 dX12_init_74 rfl rfl ?_
  refine x_bipush (v := (10 : Int32)) dX12_init_75 (by decide) ?_
  refine x_newa ak_37 at_int dX12_init_77 h (fun S9 hS9 h => ?_)
  refine x_putR rfl ck_12 13 (by decide) rfl (Or.inr ⟨rfl, rfl, rfl⟩) (Or.inr ⟨_, rfl⟩) q_1062 dX12_init_79 ?_
  refine x_aload_n 0 dX12_init_82 rfl rfl ?_
  refine x_bipush (v := (10 : Int32)) dX12_init_83 (by decide) ?_
  refine x_newa ak_38 at_boolean dX12_init_85 h (fun S10 hS10 h => ?_)
  refine x_putR rfl ck_12 14 (by decide) rfl (Or.inr ⟨rfl, rfl, rfl⟩) (Or.inr ⟨_, rfl⟩) q_1063 dX12_init_87 ?_
  refine x_aload_n 0 dX12_init_90 rfl rfl ?_
  refine x_sipush (v := (540 : Int32)) dX12_init_91 (by decide) ?_
  refine x_newa ak_39 at_int dX12_init_94 h (fun S11 hS11 h => ?_)
  refine x_putR rfl ck_12 16 (by decide) rfl (Or.inr ⟨rfl, rfl, rfl⟩) (Or.inr ⟨_, rfl⟩) q_1065 dX12_init_96 ?_
  refine x_aload_n 0 dX12_init_99 rfl rfl ?_
  refine x_bipush (v := (8 : Int32)) dX12_init_100 (by decide) ?_
  refine x_newa ak_40 at_int dX12_init_102 h (fun S12 hS12 h => ?_)
  refine x_putR rfl ck_12 18 (by decide) rfl (Or.inr ⟨rfl, rfl, rfl⟩) (Or.inr ⟨_, rfl⟩) q_1067 dX12_init_104 ?_
  refine x_aload_n 0 dX12_init_107 rfl rfl ?_
  refine x_bipush (v := (8 : Int32)) dX12_init_108 (by decide) ?_
  refine x_newa ak_41 at_int dX12_init_110 h (fun S13 hS13 h => ?_)
  refine x_putR rfl ck_12 19 (by decide) rfl (Or.inr ⟨rfl, rfl, rfl⟩) (Or.inr ⟨_, rfl⟩) q_1068 dX12_init_112 ?_
  refine x_aload_n 0 dX12_init_115 rfl rfl ?_
  refine x_sipush (v := (480 : Int32)) dX12_init_116 (by decide) ?_
  refine x_newa ak_42 at_int dX12_init_119 h (fun S14 hS14 h => ?_)
  refine x_putR rfl ck_12 20 (by decide) rfl (Or.inr ⟨rfl, rfl, rfl⟩) (Or.inr ⟨_, rfl⟩) q_1069 dX12_init_121 ?_
  refine x_aload_n 0 dX12_init_124 rfl rfl ?_
  refine x_bipush (v := (64 : Int32)) dX12_init_125 (by decide) ?_
  refine x_newa ak_43 at_boolean dX12_init_127 h (fun S15 hS15 h => ?_)
  refine x_putR rfl ck_12 21 (by decide) rfl (Or.inr ⟨rfl, rfl, rfl⟩) (Or.inr ⟨_, rfl⟩) q_1070 dX12_init_129 ?_
  refine x_aload_n 0 dX12_init_132 rfl rfl ?_
  refine x_sipush (v := (360 : Int32)) dX12_init_133 (by decide) ?_
  refine x_newa ak_44 at_int dX12_init_136 h (fun S16 hS16 h => ?_)
  refine x_putR rfl ck_12 23 (by decide) rfl (Or.inr ⟨rfl, rfl, rfl⟩) (Or.inr ⟨_, rfl⟩) q_1072 dX12_init_138 ?_
  refine x_aload_n 0 dX12_init_141 rfl rfl ?_
  refine x_bipush (v := (10 : Int32)) dX12_init_142 (by decide) ?_
  refine x_putI rfl ck_12 25 (by decide) rfl (Or.inl rfl) (by rfl) rfl q_1074 dX12_init_144 ?_
  refine x_aload_n 0 dX12_init_147 rfl rfl ?_
  refine x_bipush (v := (50 : Int32)) dX12_init_148 (by decide) ?_
  refine x_putI rfl ck_12 26 (by decide) rfl (Or.inl rfl) (by rfl) rfl q_1075 dX12_init_150 ?_
  refine x_aload_n 0 dX12_init_153 rfl rfl ?_
  refine x_bipush (v := (8 : Int32)) dX12_init_154 (by decide) ?_
  refine x_newa ak_45 at_int dX12_init_156 h (fun S17 hS17 h => ?_)
  refine x_putR rfl ck_12 27 (by decide) rfl (Or.inr ⟨rfl, rfl, rfl⟩) (Or.inr ⟨_, rfl⟩) q_1076 dX12_init_158 ?_
  refine x_aload_n 0 dX12_init_161 rfl rfl ?_
  refine x_bipush (v := (6 : Int32)) dX12_init_162 (by decide) ?_
  refine x_newa ak_46 at_int dX12_init_164 h (fun S18 hS18 h => ?_)
  refine x_putR rfl ck_12 28 (by decide) rfl (Or.inr ⟨rfl, rfl, rfl⟩) (Or.inr ⟨_, rfl⟩) q_1077 dX12_init_166 ?_
  refine x_aload_n 0 dX12_init_169 rfl rfl ?_
  refine x_bipush (v := (8 : Int32)) dX12_init_170 (by decide) ?_
  refine x_newa ak_47 at_int dX12_init_172 h (fun S19 hS19 h => ?_)
  refine x_putR rfl ck_12 29 (by decide) rfl (Or.inr ⟨rfl, rfl, rfl⟩) (Or.inr ⟨_, rfl⟩) q_1078 dX12_init_174 ?_
  refine x_aload_n 0 dX12_init_177 rfl rfl ?_
  refine x_bipush (v := (40 : Int32)) dX12_init_178 (by decide) ?_
  refine x_newa ak_48 at_int dX12_init_180 h (fun S20 hS20 h => ?_)
  refine x_putR rfl ck_12 32 (by decide) rfl (Or.inr ⟨rfl, rfl, rfl⟩) (Or.inr ⟨_, rfl⟩) q_1081 dX12_init_182 ?_
  refine x_aload_n 0 dX12_init_185 rfl rfl ?_
  refine x_bipush (v := (40 : Int32)) dX12_init_186 (by decide) ?_
  refine x_newa ak_49 at_int dX12_init_188 h (fun S21 hS21 h => ?_)
  refine x_putR rfl ck_12 33 (by decide) rfl (Or.inr ⟨rfl, rfl, rfl⟩) (Or.inr ⟨_, rfl⟩) q_1082 dX12_init_190 ?_
  refine x_aload_n 0 dX12_init_193 rfl rfl ?_
  refine x_bipush (v := (40 : Int32)) dX12_init_194 (by decide) ?_
  refine x_newa ak_50 at_int dX12_init_196 h (fun S22 hS22 h => ?_)
  refine x_putR rfl ck_12 34 (by decide) rfl (Or.inr ⟨rfl, rfl, rfl⟩) (Or.inr ⟨_, rfl⟩) q_1083 dX12_init_198 ?_
  refine x_aload_n 0 dX12_init_201 rfl rfl ?_
  refine x_bipush (v := (40 : Int32)) dX12_init_202 (by decide) ?_
  refine x_newa ak_51 at_boolean dX12_init_204 h (fun S23 hS23 h => ?_)
  refine x_putR rfl ck_12 35 (by decide) rfl (Or.inr ⟨rfl, rfl, rfl⟩) (Or.inr ⟨_, rfl⟩) q_1084 dX12_init_206 ?_
  refine x_aload_n 0 dX12_init_209 rfl rfl ?_
  refine x_bipush (v := (40 : Int32)) dX12_init_210 (by decide) ?_
  refine x_newa ak_52 at_int dX12_init_212 h (fun S24 hS24 h => ?_)
  refine x_putR rfl ck_12 36 (by decide) rfl (Or.inr ⟨rfl, rfl, rfl⟩) (Or.inr ⟨_, rfl⟩) q_1085 dX12_init_214 ?_
  refine x_aload_n 0 dX12_init_217 rfl rfl ?_
  refine x_bipush (v := (10 : Int32)) dX12_init_218 (by decide) ?_
  refine x_newa ak_53 at_int dX12_init_220 h (fun S25 hS25 h => ?_)
  refine x_putR rfl ck_12 37 (by decide) rfl (Or.inr ⟨rfl, rfl, rfl⟩) (Or.inr ⟨_, rfl⟩) q_1086 dX12_init_222 ?_
  refine x_aload_n 0 dX12_init_225 rfl rfl ?_
  refine x_bipush (v := (40 : Int32)) dX12_init_226 (by decide) ?_
  refine x_newa ak_54 at_int dX12_init_228 h (fun S26 hS26 h => ?_)
  refine x_putR rfl ck_12 38 (by decide) rfl (Or.inr ⟨rfl, rfl, rfl⟩) (Or.inr ⟨_, rfl⟩) q_1087 dX12_init_230 ?_
  exact x_vretE rfl dX12_init_233 h
-- PressedMenModel in (JJJ)Z
abbrev Y_X12_in : ZM := (yX12_in, cX12_in, 6, (some .boolean), 0, 0)
theorem cw_X12_in : z_CS Y_X12_in 3 := ⟨q_1173, q_1174, q_76, ⟨by decide, by decide⟩, rfl⟩
def f_X12_in (x0 : Int64) (x2 : Int64) (x4 : Int64) (S : ZH) : Option (Int32) :=
  if (lg_cmp x0 x2) < 0 then (
    some (0 : Int32)
  ) else (
    if 0 < (lg_cmp x0 x4) then (
      some (0 : Int32)
    ) else (
      some (1 : Int32)
    )
  )
set_option maxRecDepth 20000 in
set_option maxHeartbeats 1000000 in
theorem w_X12_in {x0 : Int64} {x2 : Int64} {x4 : Int64} {S : ZH} {q : Int32} (h : f_X12_in x0 x2 x4 S = some q) : MetX Y_X12_in S [z_l x0, z_l x2, z_l x4] (some (z_i q)) S := by
  refine MetX.of (lo := [(0, z_l x0), (2, z_l x2), (4, z_l x4)]) rfl (by decide) (Nat.le_of_ble_eq_true rfl) ?_
  unfold f_X12_in at h
  refine x_lload_n 0 dX12_in_0 rfl rfl ?_
  refine x_lload_n 1 dX12_in_1 rfl rfl ?_
  refine x_lcmp dX12_in_2 ?_
  refine x_if_lt (tgt := 17) dX12_in_3 (by decide) h (fun h => ?_) (fun h => ?_)
  · refine x_iconst (v := (0 : Int32)) dX12_in_17 (by decide) ?_
    exact x_zretC rfl (by decide) dX12_in_18 h
  · refine x_lload_n 0 dX12_in_6 rfl rfl ?_
    refine x_lload 2 dX12_in_7 rfl ?_
    refine x_lcmp dX12_in_9 ?_
    refine x_if_gt (tgt := 17) dX12_in_10 (by decide) h (fun h => ?_) (fun h => ?_)
    · refine x_iconst (v := (0 : Int32)) dX12_in_17 (by decide) ?_
      exact x_zretC rfl (by decide) dX12_in_18 h
    · refine x_iconst (v := (1 : Int32)) dX12_in_13 (by decide) ?_
      refine x_goto (tgt := 18) dX12_in_14 (by decide) ?_
      exact x_zretC rfl (by decide) dX12_in_18 h
-- PressedMenModel noStreet (I)Z
abbrev Y_X12_noStreet : ZM := (yX12_noStreet, cX12_noStreet, 2, (some .boolean), 1, 25)
theorem cw_X12_noStreet : z_CV Y_X12_noStreet 12 1 := ⟨⟨_, _, rfl⟩, by decide, q_1181, q_42, q_1182, q_76, ⟨by decide, by decide⟩, rfl⟩
def f_X12_noStreet (n0 : Nat) (x1 : Int32) (S : ZH) : Option (Int32) :=
  (f_X12_in x1.toInt64 (0 : Int64) (((zI S 12 n0 1) - (1 : Int32)).toInt64) S).bind fun q1 =>
  if ¬ q1 = 0 then (
    some (0 : Int32)
  ) else (
    some (1 : Int32)
  )
set_option maxRecDepth 20000 in
set_option maxHeartbeats 1000000 in
theorem w_X12_noStreet {n0 : Nat} {x1 : Int32} {S : ZH} {q : Int32} (h : f_X12_noStreet n0 x1 S = some q) : MetX Y_X12_noStreet S [z_r 12 (some n0), z_i x1] (some (z_i q)) S := by
  refine MetX.of (lo := [(0, z_r 12 (some n0)), (1, z_i x1)]) rfl (by decide) (Nat.le_of_ble_eq_true rfl) ?_
  unfold f_X12_noStreet at h
  refine x_iload_n 1 dX12_noStreet_0 rfl rfl ?_
  refine x_i2l dX12_noStreet_1 ?_
  refine x_lconst (v := (0 : Int64)) dX12_noStreet_2 (by decide) ?_
  refine x_aload_n 0 dX12_noStreet_3 rfl rfl ?_
  refine x_getI rfl ck_12 1 (by decide) rfl q_1050 dX12_noStreet_4 ?_
  refine x_iconst (v := (1 : Int32)) dX12_noStreet_7 (by decide) ?_
  refine x_isub dX12_noStreet_8 ?_
  refine x_i2l dX12_noStreet_9 ?_
  refine z_bnd h (fun q1 hq1 h => ?_)
  refine x_callS1 (w_X12_in hq1) cw_X12_in q_1172 ⟨by decide, by decide⟩ (Nat.le_of_ble_eq_true rfl) dX12_noStreet_10 rfl ?_
  refine x_if_ne (tgt := 20) dX12_noStreet_13 (by decide) h (fun h => ?_) (fun h => ?_)
  · refine x_iconst (v := (0 : Int32)) dX12_noStreet_20 (by decide) ?_
    exact x_zretC rfl (by decide) dX12_noStreet_21 h
  · refine x_iconst (v := (1 : Int32)) dX12_noStreet_16 (by decide) ?_
    refine x_goto (tgt := 21) dX12_noStreet_17 (by decide) ?_
    exact x_zretC rfl (by decide) dX12_noStreet_21 h
-- PressedMenModel noMan (I)Z
abbrev Y_X12_noMan : ZM := (yX12_noMan, cX12_noMan, 2, (some .boolean), 1, 25)
theorem cw_X12_noMan : z_CV Y_X12_noMan 12 1 := ⟨⟨_, _, rfl⟩, by decide, q_1208, q_44, q_1209, q_76, ⟨by decide, by decide⟩, rfl⟩
def f_X12_noMan (n0 : Nat) (x1 : Int32) (S : ZH) : Option (Int32) :=
  (f_X12_in x1.toInt64 (0 : Int64) (((zI S 12 n0 5) - (1 : Int32)).toInt64) S).bind fun q1 =>
  if ¬ q1 = 0 then (
    some (0 : Int32)
  ) else (
    some (1 : Int32)
  )
set_option maxRecDepth 20000 in
set_option maxHeartbeats 1000000 in
theorem w_X12_noMan {n0 : Nat} {x1 : Int32} {S : ZH} {q : Int32} (h : f_X12_noMan n0 x1 S = some q) : MetX Y_X12_noMan S [z_r 12 (some n0), z_i x1] (some (z_i q)) S := by
  refine MetX.of (lo := [(0, z_r 12 (some n0)), (1, z_i x1)]) rfl (by decide) (Nat.le_of_ble_eq_true rfl) ?_
  unfold f_X12_noMan at h
  refine x_iload_n 1 dX12_noMan_0 rfl rfl ?_
  refine x_i2l dX12_noMan_1 ?_
  refine x_lconst (v := (0 : Int64)) dX12_noMan_2 (by decide) ?_
  refine x_aload_n 0 dX12_noMan_3 rfl rfl ?_
  refine x_getI rfl ck_12 5 (by decide) rfl q_1054 dX12_noMan_4 ?_
  refine x_iconst (v := (1 : Int32)) dX12_noMan_7 (by decide) ?_
  refine x_isub dX12_noMan_8 ?_
  refine x_i2l dX12_noMan_9 ?_
  refine z_bnd h (fun q1 hq1 h => ?_)
  refine x_callS1 (w_X12_in hq1) cw_X12_in q_1172 ⟨by decide, by decide⟩ (Nat.le_of_ble_eq_true rfl) dX12_noMan_10 rfl ?_
  refine x_if_ne (tgt := 20) dX12_noMan_13 (by decide) h (fun h => ?_) (fun h => ?_)
  · refine x_iconst (v := (0 : Int32)) dX12_noMan_20 (by decide) ?_
    exact x_zretC rfl (by decide) dX12_noMan_21 h
  · refine x_iconst (v := (1 : Int32)) dX12_noMan_16 (by decide) ?_
    refine x_goto (tgt := 21) dX12_noMan_17 (by decide) ?_
    exact x_zretC rfl (by decide) dX12_noMan_21 h
-- PressedMenModel noShip (I)Z
abbrev Y_X12_noShip : ZM := (yX12_noShip, cX12_noShip, 2, (some .boolean), 1, 25)
theorem cw_X12_noShip : z_CV Y_X12_noShip 12 1 := ⟨⟨_, _, rfl⟩, by decide, q_1428, q_62, q_1429, q_76, ⟨by decide, by decide⟩, rfl⟩
def f_X12_noShip (n0 : Nat) (x1 : Int32) (S : ZH) : Option (Int32) :=
  (f_X12_in x1.toInt64 (0 : Int64) (((zI S 12 n0 9) - (1 : Int32)).toInt64) S).bind fun q1 =>
  if ¬ q1 = 0 then (
    some (0 : Int32)
  ) else (
    some (1 : Int32)
  )
set_option maxRecDepth 20000 in
set_option maxHeartbeats 1000000 in
theorem w_X12_noShip {n0 : Nat} {x1 : Int32} {S : ZH} {q : Int32} (h : f_X12_noShip n0 x1 S = some q) : MetX Y_X12_noShip S [z_r 12 (some n0), z_i x1] (some (z_i q)) S := by
  refine MetX.of (lo := [(0, z_r 12 (some n0)), (1, z_i x1)]) rfl (by decide) (Nat.le_of_ble_eq_true rfl) ?_
  unfold f_X12_noShip at h
  refine x_iload_n 1 dX12_noShip_0 rfl rfl ?_
  refine x_i2l dX12_noShip_1 ?_
  refine x_lconst (v := (0 : Int64)) dX12_noShip_2 (by decide) ?_
  refine x_aload_n 0 dX12_noShip_3 rfl rfl ?_
  refine x_getI rfl ck_12 9 (by decide) rfl q_1058 dX12_noShip_4 ?_
  refine x_iconst (v := (1 : Int32)) dX12_noShip_7 (by decide) ?_
  refine x_isub dX12_noShip_8 ?_
  refine x_i2l dX12_noShip_9 ?_
  refine z_bnd h (fun q1 hq1 h => ?_)
  refine x_callS1 (w_X12_in hq1) cw_X12_in q_1172 ⟨by decide, by decide⟩ (Nat.le_of_ble_eq_true rfl) dX12_noShip_10 rfl ?_
  refine x_if_ne (tgt := 20) dX12_noShip_13 (by decide) h (fun h => ?_) (fun h => ?_)
  · refine x_iconst (v := (0 : Int32)) dX12_noShip_20 (by decide) ?_
    exact x_zretC rfl (by decide) dX12_noShip_21 h
  · refine x_iconst (v := (1 : Int32)) dX12_noShip_16 (by decide) ?_
    refine x_goto (tgt := 21) dX12_noShip_17 (by decide) ?_
    exact x_zretC rfl (by decide) dX12_noShip_21 h
-- PressedMenModel noPaper (I)Z
abbrev Y_X12_noPaper : ZM := (yX12_noPaper, cX12_noPaper, 2, (some .boolean), 1, 25)
theorem cw_X12_noPaper : z_CV Y_X12_noPaper 12 1 := ⟨⟨_, _, rfl⟩, by decide, q_1280, q_50, q_1281, q_76, ⟨by decide, by decide⟩, rfl⟩
def f_X12_noPaper (n0 : Nat) (x1 : Int32) (S : ZH) : Option (Int32) :=
  (f_X12_in x1.toInt64 (0 : Int64) (((zI S 12 n0 15) - (1 : Int32)).toInt64) S).bind fun q1 =>
  if ¬ q1 = 0 then (
    some (0 : Int32)
  ) else (
    some (1 : Int32)
  )
set_option maxRecDepth 20000 in
set_option maxHeartbeats 1000000 in
theorem w_X12_noPaper {n0 : Nat} {x1 : Int32} {S : ZH} {q : Int32} (h : f_X12_noPaper n0 x1 S = some q) : MetX Y_X12_noPaper S [z_r 12 (some n0), z_i x1] (some (z_i q)) S := by
  refine MetX.of (lo := [(0, z_r 12 (some n0)), (1, z_i x1)]) rfl (by decide) (Nat.le_of_ble_eq_true rfl) ?_
  unfold f_X12_noPaper at h
  refine x_iload_n 1 dX12_noPaper_0 rfl rfl ?_
  refine x_i2l dX12_noPaper_1 ?_
  refine x_lconst (v := (0 : Int64)) dX12_noPaper_2 (by decide) ?_
  refine x_aload_n 0 dX12_noPaper_3 rfl rfl ?_
  refine x_getI rfl ck_12 15 (by decide) rfl q_1064 dX12_noPaper_4 ?_
  refine x_iconst (v := (1 : Int32)) dX12_noPaper_7 (by decide) ?_
  refine x_isub dX12_noPaper_8 ?_
  refine x_i2l dX12_noPaper_9 ?_
  refine z_bnd h (fun q1 hq1 h => ?_)
  refine x_callS1 (w_X12_in hq1) cw_X12_in q_1172 ⟨by decide, by decide⟩ (Nat.le_of_ble_eq_true rfl) dX12_noPaper_10 rfl ?_
  refine x_if_ne (tgt := 20) dX12_noPaper_13 (by decide) h (fun h => ?_) (fun h => ?_)
  · refine x_iconst (v := (0 : Int32)) dX12_noPaper_20 (by decide) ?_
    exact x_zretC rfl (by decide) dX12_noPaper_21 h
  · refine x_iconst (v := (1 : Int32)) dX12_noPaper_16 (by decide) ?_
    refine x_goto (tgt := 21) dX12_noPaper_17 (by decide) ?_
    exact x_zretC rfl (by decide) dX12_noPaper_21 h
-- PressedMenModel noTide (I)Z
abbrev Y_X12_noTide : ZM := (yX12_noTide, cX12_noTide, 1, (some .boolean), 1, 25)
theorem cw_X12_noTide : z_CS Y_X12_noTide 1 := ⟨q_1283, q_1284, q_76, ⟨by decide, by decide⟩, rfl⟩
def f_X12_noTide (x0 : Int32) (S : ZH) : Option (Int32) :=
  (f_X12_in x0.toInt64 (0 : Int64) (899 : Int64) S).bind fun q1 =>
  if ¬ q1 = 0 then (
    some (0 : Int32)
  ) else (
    some (1 : Int32)
  )
set_option maxRecDepth 20000 in
set_option maxHeartbeats 1000000 in
theorem w_X12_noTide {x0 : Int32} {S : ZH} {q : Int32} (h : f_X12_noTide x0 S = some q) : MetX Y_X12_noTide S [z_i x0] (some (z_i q)) S := by
  refine MetX.of (lo := [(0, z_i x0)]) rfl (by decide) (Nat.le_of_ble_eq_true rfl) ?_
  unfold f_X12_noTide at h
  refine x_iload_n 0 dX12_noTide_0 rfl rfl ?_
  refine x_i2l dX12_noTide_1 ?_
  refine x_lconst (v := (0 : Int64)) dX12_noTide_2 (by decide) ?_
  refine x_ldc2 dX12_noTide_3 q_1285.1 ?_
  refine z_bnd h (fun q1 hq1 h => ?_)
  refine x_callS1 (w_X12_in hq1) cw_X12_in q_1172 ⟨by decide, by decide⟩ (Nat.le_of_ble_eq_true rfl) dX12_noTide_6 rfl ?_
  refine x_if_ne (tgt := 16) dX12_noTide_9 (by decide) h (fun h => ?_) (fun h => ?_)
  · refine x_iconst (v := (0 : Int32)) dX12_noTide_16 (by decide) ?_
    exact x_zretC rfl (by decide) dX12_noTide_17 h
  · refine x_iconst (v := (1 : Int32)) dX12_noTide_12 (by decide) ?_
    refine x_goto (tgt := 17) dX12_noTide_13 (by decide) ?_
    exact x_zretC rfl (by decide) dX12_noTide_17 h
-- PressedMenModel streets (I)I
abbrev Y_X12_streets : ZM := (yX12_streets, cX12_streets, 5, (some .int), 1, 25)
theorem cw_X12_streets : z_CV Y_X12_streets 12 1 := ⟨⟨_, _, rfl⟩, by decide, q_1168, q_1169, q_1170, q_76, ⟨by decide, by decide⟩, rfl⟩
def b_X12_streets_51 (n0 : Nat) (x1 : Int32) (x2 : Int32) (x3 : Int32) (v : Int32 × ZH) : Option ((Int32 × ZH) ⊕ (ZH)) :=
  if (8 : Int32) ≤ v.1 then (
    some (Sum.inr v.2)
  ) else (
    ((zR v.2 12 n0 2)).bind fun a2 =>
    (zld v.2 29 a2 (((8 : Int32) * x3) + v.1)).bind fun v3 =>
    if v3 = 0 then (
      ((zR v.2 12 n0 2)).bind fun a4 =>
      (zst v.2 29 a4 (((8 : Int32) * x3) + v.1) (z_b (0 : Int32))).bind fun S5 =>
      some (Sum.inl ((v.1 + 1), S5))
    ) else (
      if x1 ≤ x3 then (
        ((zR v.2 12 n0 2)).bind fun a6 =>
        (zst v.2 29 a6 (((8 : Int32) * x3) + v.1) (z_b (0 : Int32))).bind fun S7 =>
        some (Sum.inl ((v.1 + 1), S7))
      ) else (
        if x1 ≤ v.1 then (
          ((zR v.2 12 n0 2)).bind fun a8 =>
          (zst v.2 29 a8 (((8 : Int32) * x3) + v.1) (z_b (0 : Int32))).bind fun S9 =>
          some (Sum.inl ((v.1 + 1), S9))
        ) else (
          ((zR v.2 12 n0 2)).bind fun a10 =>
          (zst v.2 29 a10 (((8 : Int32) * x3) + v.1) (z_b (1 : Int32))).bind fun S11 =>
          some (Sum.inl ((v.1 + 1), S11))
        )
      )
    )
  )
def b_X12_streets_42 (n0 : Nat) (x1 : Int32) (x2 : Int32) (v : Int32 × ZH) : Option ((Int32 × ZH) ⊕ (ZH)) :=
  if (8 : Int32) ≤ v.1 then (
    some (Sum.inr v.2)
  ) else (
    (z_iter zFU (b_X12_streets_51 n0 x1 x2 v.1) ((0 : Int32), v.2)).bind fun t12 =>
    some (Sum.inl ((v.1 + 1), t12))
  )
def f_X12_streets (n0 : Nat) (x1 : Int32) (S : ZH) : Option (Int32 × ZH) :=
  (f_X12_in x1.toInt64 (1 : Int64) (8 : Int64) (zsI S 12 n0 0 (0 : Int32))).bind fun q1 =>
  if ¬ q1 = 0 then (
    if (zI (zsI S 12 n0 0 (0 : Int32)) 12 n0 5) ≤ 0 then (
      (z_iter zFU (b_X12_streets_42 n0 x1 (zI (zsI S 12 n0 0 (0 : Int32)) 12 n0 1)) ((0 : Int32), (zsI (zsI S 12 n0 0 (0 : Int32)) 12 n0 1 x1))).bind fun t13 =>
      some ((zI (zsI S 12 n0 0 (0 : Int32)) 12 n0 1), t13)
    ) else (
      some ((-3 : Int32), (zsI S 12 n0 0 (0 : Int32)))
    )
  ) else (
    some ((-2 : Int32), (zsI S 12 n0 0 (0 : Int32)))
  )
set_option maxRecDepth 20000 in
theorem l_X12_streets_51 {S0 : ZH} {F : ZP} {n0 : Nat} {x1 : Int32} {x2 : Int32} {x3 : Int32} {v : Int32 × ZH} {t : ZH} (h : z_iter zFU (b_X12_streets_51 n0 x1 x2 x3) v = some t) (k : (fun t => Wp Y_X12_streets S0 F 107 [(0, z_r 12 (some n0)), (1, z_i x1), (2, z_i x2), (3, z_i x3)] [] t) t) : Wp Y_X12_streets S0 F 51 [(0, z_r 12 (some n0)), (1, z_i x1), (2, z_i x2), (3, z_i x3), (4, z_i v.1)] [] v.2 := by
  refine z_iter_P (P := fun v : Int32 × ZH => Wp Y_X12_streets S0 F 51 [(0, z_r 12 (some n0)), (1, z_i x1), (2, z_i x2), (3, z_i x3), (4, z_i v.1)] [] v.2) (X := (fun t => Wp Y_X12_streets S0 F 107 [(0, z_r 12 (some n0)), (1, z_i x1), (2, z_i x2), (3, z_i x3)] [] t)) ?_ _ _ _ h k
  clear h k v t
  intro v r h k
  unfold b_X12_streets_51 at h
  refine x_iload 4 dX12_streets_51 rfl ?_
  refine x_bipush (v := (8 : Int32)) dX12_streets_53 (by decide) ?_
  refine x_ic_ge (tgt := 107) dX12_streets_55 (by decide) h (fun h => ?_) (fun h => ?_)
  · cases h
    exact x_lo [0, 1, 2, 3] rfl k
  · refine x_aload_n 0 dX12_streets_58 rfl rfl ?_
    refine x_getR rfl ck_12 2 (by decide) rfl q_1051 dX12_streets_59 ?_
    refine x_bipush (v := (8 : Int32)) dX12_streets_62 (by decide) ?_
    refine x_iload_n 3 dX12_streets_64 rfl rfl ?_
    refine x_imul dX12_streets_65 ?_
    refine x_iload 4 dX12_streets_66 rfl ?_
    refine x_iadd dX12_streets_68 ?_
    refine x_aload_n 0 dX12_streets_69 rfl rfl ?_
    refine x_getR rfl ck_12 2 (by decide) rfl q_1051 dX12_streets_70 ?_
    refine x_bipush (v := (8 : Int32)) dX12_streets_73 (by decide) ?_
    refine x_iload_n 3 dX12_streets_75 rfl rfl ?_
    refine x_imul dX12_streets_76 ?_
    refine x_iload 4 dX12_streets_77 rfl ?_
    refine x_iadd dX12_streets_79 ?_
    refine z_bnd h (fun a2 ha2 h => ?_)
    refine x_zaload ha2 ak_29 dX12_streets_80 h (fun v3 hv3 h => ?_)
    refine x_if_eq (tgt := 99) dX12_streets_81 (by decide) h (fun h => ?_) (fun h => ?_)
    · refine x_iconst (v := (0 : Int32)) dX12_streets_99 (by decide) ?_
      refine z_bnd h (fun a4 ha4 h => ?_)
      refine x_zastore ha4 ak_29 dX12_streets_100 h (fun S5 hS5 h => ?_)
      refine x_iinc (v := (v.1 + 1)) (lo' := [(4, z_i (v.1 + 1)), (0, z_r 12 (some n0)), (1, z_i x1), (2, z_i x2), (3, z_i x3)]) 4 dX12_streets_101 rfl (congrArg (HAdd.hAdd v.1) (by decide)) (by decide) rfl ?_
      refine x_goto (tgt := 51) dX12_streets_104 (by decide) ?_
      cases h
      exact x_lo [1, 2, 3, 4, 0] rfl k
    · refine x_iload_n 3 dX12_streets_84 rfl rfl ?_
      refine x_iload_n 1 dX12_streets_85 rfl rfl ?_
      refine x_ic_ge (tgt := 99) dX12_streets_86 (by decide) h (fun h => ?_) (fun h => ?_)
      · refine x_iconst (v := (0 : Int32)) dX12_streets_99 (by decide) ?_
        refine z_bnd h (fun a6 ha6 h => ?_)
        refine x_zastore ha6 ak_29 dX12_streets_100 h (fun S7 hS7 h => ?_)
        refine x_iinc (v := (v.1 + 1)) (lo' := [(4, z_i (v.1 + 1)), (0, z_r 12 (some n0)), (1, z_i x1), (2, z_i x2), (3, z_i x3)]) 4 dX12_streets_101 rfl (congrArg (HAdd.hAdd v.1) (by decide)) (by decide) rfl ?_
        refine x_goto (tgt := 51) dX12_streets_104 (by decide) ?_
        cases h
        exact x_lo [1, 2, 3, 4, 0] rfl k
      · refine x_iload 4 dX12_streets_89 rfl ?_
        refine x_iload_n 1 dX12_streets_91 rfl rfl ?_
        refine x_ic_ge (tgt := 99) dX12_streets_92 (by decide) h (fun h => ?_) (fun h => ?_)
        · refine x_iconst (v := (0 : Int32)) dX12_streets_99 (by decide) ?_
          refine z_bnd h (fun a8 ha8 h => ?_)
          refine x_zastore ha8 ak_29 dX12_streets_100 h (fun S9 hS9 h => ?_)
          refine x_iinc (v := (v.1 + 1)) (lo' := [(4, z_i (v.1 + 1)), (0, z_r 12 (some n0)), (1, z_i x1), (2, z_i x2), (3, z_i x3)]) 4 dX12_streets_101 rfl (congrArg (HAdd.hAdd v.1) (by decide)) (by decide) rfl ?_
          refine x_goto (tgt := 51) dX12_streets_104 (by decide) ?_
          cases h
          exact x_lo [1, 2, 3, 4, 0] rfl k
        · refine x_iconst (v := (1 : Int32)) dX12_streets_95 (by decide) ?_
          refine x_goto (tgt := 100) dX12_streets_96 (by decide) ?_
          refine z_bnd h (fun a10 ha10 h => ?_)
          refine x_zastore ha10 ak_29 dX12_streets_100 h (fun S11 hS11 h => ?_)
          refine x_iinc (v := (v.1 + 1)) (lo' := [(4, z_i (v.1 + 1)), (0, z_r 12 (some n0)), (1, z_i x1), (2, z_i x2), (3, z_i x3)]) 4 dX12_streets_101 rfl (congrArg (HAdd.hAdd v.1) (by decide)) (by decide) rfl ?_
          refine x_goto (tgt := 51) dX12_streets_104 (by decide) ?_
          cases h
          exact x_lo [1, 2, 3, 4, 0] rfl k
set_option maxRecDepth 20000 in
theorem l_X12_streets_42 {S0 : ZH} {F : ZP} {n0 : Nat} {x1 : Int32} {x2 : Int32} {v : Int32 × ZH} {t : ZH} (h : z_iter zFU (b_X12_streets_42 n0 x1 x2) v = some t) (k : (fun t => Wp Y_X12_streets S0 F 113 [(2, z_i x2)] [] t) t) : Wp Y_X12_streets S0 F 42 [(0, z_r 12 (some n0)), (1, z_i x1), (2, z_i x2), (3, z_i v.1)] [] v.2 := by
  refine z_iter_P (P := fun v : Int32 × ZH => Wp Y_X12_streets S0 F 42 [(0, z_r 12 (some n0)), (1, z_i x1), (2, z_i x2), (3, z_i v.1)] [] v.2) (X := (fun t => Wp Y_X12_streets S0 F 113 [(2, z_i x2)] [] t)) ?_ _ _ _ h k
  clear h k v t
  intro v r h k
  unfold b_X12_streets_42 at h
  refine x_iload_n 3 dX12_streets_42 rfl rfl ?_
  refine x_bipush (v := (8 : Int32)) dX12_streets_43 (by decide) ?_
  refine x_ic_ge (tgt := 113) dX12_streets_45 (by decide) h (fun h => ?_) (fun h => ?_)
  · cases h
    exact x_lo [2] rfl k
  · refine x_iconst (v := (0 : Int32)) dX12_streets_48 (by decide) ?_
    refine x_istore (lo' := [(4, z_i (0 : Int32)), (0, z_r 12 (some n0)), (1, z_i x1), (2, z_i x2), (3, z_i v.1)]) dX12_streets_49 (by decide) rfl ?_
    refine z_bnd h (fun t12 ht12 h => ?_)
    refine x_lo [1, 2, 3, 4, 0] rfl ?_
    refine l_X12_streets_51 ht12 ?_
    refine x_iinc (v := (v.1 + 1)) (lo' := [(3, z_i (v.1 + 1)), (0, z_r 12 (some n0)), (1, z_i x1), (2, z_i x2)]) 3 dX12_streets_107 rfl (congrArg (HAdd.hAdd v.1) (by decide)) (by decide) rfl ?_
    refine x_goto (tgt := 42) dX12_streets_110 (by decide) ?_
    cases h
    exact x_lo [1, 2, 3, 0] rfl k
set_option maxRecDepth 20000 in
set_option maxHeartbeats 1000000 in
theorem w_X12_streets {n0 : Nat} {x1 : Int32} {S : ZH} {q : Int32 × ZH} (h : f_X12_streets n0 x1 S = some q) : MetX Y_X12_streets S [z_r 12 (some n0), z_i x1] (some (z_i q.1)) q.2 := by
  refine MetX.of (lo := [(0, z_r 12 (some n0)), (1, z_i x1)]) rfl (by decide) (Nat.le_of_ble_eq_true rfl) ?_
  unfold f_X12_streets at h
  refine x_aload_n 0 dX12_streets_0 rfl rfl ?_
  refine x_iconst (v := (0 : Int32)) dX12_streets_1 (by decide) ?_
  refine x_putI rfl ck_12 0 (by decide) rfl (Or.inl rfl) (by rfl) rfl q_1049 dX12_streets_2 ?_
  refine x_iload_n 1 dX12_streets_5 rfl rfl ?_
  refine x_i2l dX12_streets_6 ?_
  refine x_lconst (v := (1 : Int64)) dX12_streets_7 (by decide) ?_
  refine x_ldc2 dX12_streets_8 q_1171.1 ?_
  refine z_bnd h (fun q1 hq1 h => ?_)
  refine x_callS1 (w_X12_in hq1) cw_X12_in q_1172 ⟨by decide, by decide⟩ (Nat.le_of_ble_eq_true rfl) dX12_streets_11 rfl ?_
  refine x_if_ne (tgt := 20) dX12_streets_14 (by decide) h (fun h => ?_) (fun h => ?_)
  · refine x_aload_n 0 dX12_streets_20 rfl rfl ?_
    refine x_getI rfl ck_12 5 (by decide) rfl q_1054 dX12_streets_21 ?_
    refine x_if_le (tgt := 30) dX12_streets_24 (by decide) h (fun h => ?_) (fun h => ?_)
    · refine x_aload_n 0 dX12_streets_30 rfl rfl ?_
      refine x_getI rfl ck_12 1 (by decide) rfl q_1050 dX12_streets_31 ?_
      refine x_istore_n (lo' := [(2, z_i (zI (zsI S 12 n0 0 (0 : Int32)) 12 n0 1)), (0, z_r 12 (some n0)), (1, z_i x1)]) dX12_streets_34 rfl (by decide) rfl ?_
      refine x_aload_n 1 dX12_streets_35 rfl rfl ?_
      refine x_iload_n 2 dX12_streets_36 rfl rfl ?_
      refine x_putI rfl ck_12 1 (by decide) rfl (Or.inl rfl) (by rfl) rfl q_1050 dX12_streets_37 ?_
      refine x_iconst (v := (0 : Int32)) dX12_streets_40 (by decide) ?_
      refine x_istore_n (lo' := [(3, z_i (0 : Int32)), (2, z_i (zI (zsI S 12 n0 0 (0 : Int32)) 12 n0 1)), (0, z_r 12 (some n0)), (1, z_i x1)]) dX12_streets_41 rfl (by decide) rfl ?_
      refine z_bnd h (fun t13 ht13 h => ?_)
      refine x_lo [2, 3, 1, 0] rfl ?_
      refine l_X12_streets_42 ht13 ?_
      refine x_iload_n 0 dX12_streets_113 rfl rfl ?_
      exact x_iretE rfl dX12_streets_114 h
    · refine x_bipush (v := (-3 : Int32)) dX12_streets_27 (by decide) ?_
      exact x_iretE rfl dX12_streets_29 h
  · refine x_bipush (v := (-2 : Int32)) dX12_streets_17 (by decide) ?_
    exact x_iretE rfl dX12_streets_19 h
-- PressedMenModel way (IIZ)I
abbrev Y_X12_way : ZM := (yX12_way, cX12_way, 5, (some .int), 2, 46)
theorem cw_X12_way : z_CV Y_X12_way 12 3 := ⟨⟨_, _, rfl⟩, by decide, q_1176, q_1177, q_1178, q_76, ⟨by decide, by decide⟩, rfl⟩
def j_X12_way_50 (n0 : Nat) (x1 : Int32) (x2 : Int32) (x3 : Int32) (s0 : Int32) (S : ZH) : Option (Int32 × ZH) :=
  ((zR S 12 n0 2)).bind fun a5 =>
  (zst S 29 a5 (((8 : Int32) * x1) + x2) (z_b x3)).bind fun S6 =>
  ((zR S6 12 n0 2)).bind fun a7 =>
  (zst S6 29 a7 (((8 : Int32) * x2) + x1) (z_b x3)).bind fun S8 =>
  some (s0, S8)
def f_X12_way (n0 : Nat) (x1 : Int32) (x2 : Int32) (x3 : Int32) (S : ZH) : Option (Int32 × ZH) :=
  (f_X12_noStreet n0 x1 (zsI S 12 n0 0 (0 : Int32))).bind fun q1 =>
  if ¬ q1 = 0 then (
    some ((-1 : Int32), (zsI S 12 n0 0 (0 : Int32)))
  ) else (
    (f_X12_noStreet n0 x2 (zsI S 12 n0 0 (0 : Int32))).bind fun q2 =>
    if q2 = 0 then (
      if ¬ x1 = x2 then (
        ((zR (zsI S 12 n0 0 (0 : Int32)) 12 n0 2)).bind fun a3 =>
        (zld (zsI S 12 n0 0 (0 : Int32)) 29 a3 (((8 : Int32) * x1) + x2)).bind fun v4 =>
        if v4 = 0 then (
          j_X12_way_50 n0 x1 x2 x3 (0 : Int32) (zsI S 12 n0 0 (0 : Int32))
        ) else (
          j_X12_way_50 n0 x1 x2 x3 (1 : Int32) (zsI S 12 n0 0 (0 : Int32))
        )
      ) else (
        some ((-2 : Int32), (zsI S 12 n0 0 (0 : Int32)))
      )
    ) else (
      some ((-1 : Int32), (zsI S 12 n0 0 (0 : Int32)))
    )
  )
set_option maxRecDepth 20000 in
theorem k_X12_way_50 {S0 : ZH} {n0 : Nat} {x1 : Int32} {x2 : Int32} {x3 : Int32} {s0 : Int32} {S : ZH} {z : Int32 × ZH} (h : j_X12_way_50 n0 x1 x2 x3 s0 S = some z) : Wp Y_X12_way S0 (zF S0 (some (z_i z.1)) z.2) 50 [(0, z_r 12 (some n0)), (1, z_i x1), (2, z_i x2), (3, z_i x3)] [z_i s0] S := by
  unfold j_X12_way_50 at h
  refine x_istore (lo' := [(4, z_i s0), (0, z_r 12 (some n0)), (1, z_i x1), (2, z_i x2), (3, z_i x3)]) dX12_way_50 (by decide) rfl ?_
  refine x_aload_n 1 dX12_way_52 rfl rfl ?_
  refine x_getR rfl ck_12 2 (by decide) rfl q_1051 dX12_way_53 ?_
  refine x_bipush (v := (8 : Int32)) dX12_way_56 (by decide) ?_
  refine x_iload_n 2 dX12_way_58 rfl rfl ?_
  refine x_imul dX12_way_59 ?_
  refine x_iload_n 3 dX12_way_60 rfl rfl ?_
  refine x_iadd dX12_way_61 ?_
  refine x_iload_n 4 dX12_way_62 rfl rfl ?_
  refine z_bnd h (fun a5 ha5 h => ?_)
  refine x_zastore ha5 ak_29 dX12_way_63 h (fun S6 hS6 h => ?_)
  refine x_aload_n 1 dX12_way_64 rfl rfl ?_
  refine x_getR rfl ck_12 2 (by decide) rfl q_1051 dX12_way_65 ?_
  refine x_bipush (v := (8 : Int32)) dX12_way_68 (by decide) ?_
  refine x_iload_n 3 dX12_way_70 rfl rfl ?_
  refine x_imul dX12_way_71 ?_
  refine x_iload_n 2 dX12_way_72 rfl rfl ?_
  refine x_iadd dX12_way_73 ?_
  refine x_iload_n 4 dX12_way_74 rfl rfl ?_
  refine z_bnd h (fun a7 ha7 h => ?_)
  refine x_zastore ha7 ak_29 dX12_way_75 h (fun S8 hS8 h => ?_)
  refine x_iload 0 dX12_way_76 rfl ?_
  exact x_iretE rfl dX12_way_78 h
set_option maxRecDepth 20000 in
set_option maxHeartbeats 1000000 in
theorem w_X12_way {n0 : Nat} {x1 : Int32} {x2 : Int32} {x3 : Int32} {S : ZH} {q : Int32 × ZH} (h : f_X12_way n0 x1 x2 x3 S = some q) : MetX Y_X12_way S [z_r 12 (some n0), z_i x1, z_i x2, z_i x3] (some (z_i q.1)) q.2 := by
  refine MetX.of (lo := [(0, z_r 12 (some n0)), (1, z_i x1), (2, z_i x2), (3, z_i x3)]) rfl (by decide) (Nat.le_of_ble_eq_true rfl) ?_
  unfold f_X12_way at h
  refine x_aload_n 0 dX12_way_0 rfl rfl ?_
  refine x_iconst (v := (0 : Int32)) dX12_way_1 (by decide) ?_
  refine x_putI rfl ck_12 0 (by decide) rfl (Or.inl rfl) (by rfl) rfl q_1049 dX12_way_2 ?_
  refine x_aload_n 0 dX12_way_5 rfl rfl ?_
  refine x_iload_n 1 dX12_way_6 rfl rfl ?_
  refine z_bnd h (fun q1 hq1 h => ?_)
  refine x_callV1 rfl (w_X12_noStreet hq1) cw_X12_noStreet q_1179 ⟨by decide, by decide⟩ (Nat.le_of_ble_eq_true rfl) dX12_way_7 rfl ?_
  refine x_if_ne (tgt := 21) dX12_way_10 (by decide) h (fun h => ?_) (fun h => ?_)
  · refine x_iconst (v := (-1 : Int32)) dX12_way_21 (by decide) ?_
    exact x_iretE rfl dX12_way_22 h
  · refine x_aload_n 0 dX12_way_13 rfl rfl ?_
    refine x_iload_n 2 dX12_way_14 rfl rfl ?_
    refine z_bnd h (fun q2 hq2 h => ?_)
    refine x_callV1 rfl (w_X12_noStreet hq2) cw_X12_noStreet q_1179 ⟨by decide, by decide⟩ (Nat.le_of_ble_eq_true rfl) dX12_way_15 rfl ?_
    refine x_if_eq (tgt := 23) dX12_way_18 (by decide) h (fun h => ?_) (fun h => ?_)
    · refine x_iload_n 1 dX12_way_23 rfl rfl ?_
      refine x_iload_n 2 dX12_way_24 rfl rfl ?_
      refine x_ic_ne (tgt := 31) dX12_way_25 (by decide) h (fun h => ?_) (fun h => ?_)
      · refine x_aload_n 0 dX12_way_31 rfl rfl ?_
        refine x_getR rfl ck_12 2 (by decide) rfl q_1051 dX12_way_32 ?_
        refine x_bipush (v := (8 : Int32)) dX12_way_35 (by decide) ?_
        refine x_iload_n 1 dX12_way_37 rfl rfl ?_
        refine x_imul dX12_way_38 ?_
        refine x_iload_n 2 dX12_way_39 rfl rfl ?_
        refine x_iadd dX12_way_40 ?_
        refine z_bnd h (fun a3 ha3 h => ?_)
        refine x_zaload ha3 ak_29 dX12_way_41 h (fun v4 hv4 h => ?_)
        refine x_if_eq (tgt := 49) dX12_way_42 (by decide) h (fun h => ?_) (fun h => ?_)
        · refine x_iconst (v := (0 : Int32)) dX12_way_49 (by decide) ?_
          exact x_lo [0, 1, 2, 3] rfl (k_X12_way_50 h)
        · refine x_iconst (v := (1 : Int32)) dX12_way_45 (by decide) ?_
          refine x_goto (tgt := 50) dX12_way_46 (by decide) ?_
          exact x_lo [0, 1, 2, 3] rfl (k_X12_way_50 h)
      · refine x_bipush (v := (-2 : Int32)) dX12_way_28 (by decide) ?_
        exact x_iretE rfl dX12_way_30 h
    · refine x_iconst (v := (-1 : Int32)) dX12_way_21 (by decide) ?_
      exact x_iretE rfl dX12_way_22 h
