-- PressedMen$Gangs walkOut (III)Z
abbrev Y_X1_walkOut : ZM := (yX1_walkOut, cX1_walkOut, 9, (some .boolean), 2, 43)
theorem cw_X1_walkOut : z_CV Y_X1_walkOut 1 3 := ⟨⟨_, _, rfl⟩, by decide, q_820, q_29, q_821, q_73, ⟨by decide, by decide⟩, rfl⟩
def j_X1_walkOut_70 (n0 : Nat) (x1 : Int32) (x5 : Int32) (x6 : Int32) (x7 : Int32) (x8 : Int32) (s0 : Int32) (S : ZH) : Option ((Int32 × Int32 × Int32 × Int32 × ZH) ⊕ (Int32 × ZH)) :=
  ((zR S 1 n0 3)).bind fun a3 =>
  (zst S 16 a3 ((x1 * (3 : Int32)) + x7) x8).bind fun S4 =>
  if x6 = 0 then (
    some (Sum.inl (s0, x8, (0 : Int32), (x7 + (-1)), S4))
  ) else (
    if x5 = (-9 : Int32) then (
      some (Sum.inl (s0, x8, (1 : Int32), (x7 + (-1)), S4))
    ) else (
      ((zR S4 1 n0 0)).bind fun a5 =>
      (f_X10_isStep a5 x8 x5 S4).bind fun q6 =>
      if q6 = 0 then (
        some (Sum.inl (s0, x8, (0 : Int32), (x7 + (-1)), S4))
      ) else (
        some (Sum.inl (s0, x8, (1 : Int32), (x7 + (-1)), S4))
      )
    )
  )
def j_X1_walkOut_44 (n0 : Nat) (x1 : Int32) (x4 : Int32) (x5 : Int32) (x6 : Int32) (x7 : Int32) (s0 : Int32) (S : ZH) : Option ((Int32 × Int32 × Int32 × Int32 × ZH) ⊕ (Int32 × ZH)) :=
  ((zR S 1 n0 0)).bind fun a2 =>
  if (zI S 10 a2 0) ≤ 0 then (
    j_X1_walkOut_70 n0 x1 x5 x6 x7 s0 (0 : Int32) S
  ) else (
    ((zR S 1 n0 0)).bind fun a7 =>
    if (zI S 10 a7 0) = 0 then none else
    j_X1_walkOut_70 n0 x1 x5 x6 x7 s0 (x4 / (zI S 10 a7 0)) S
  )
def b_X1_walkOut_15 (n0 : Nat) (x1 : Int32) (v : Int32 × Int32 × Int32 × Int32 × ZH) : Option ((Int32 × Int32 × Int32 × Int32 × ZH) ⊕ (Int32 × ZH)) :=
  if v.2.2.2.1 < 0 then (
    some (Sum.inr (v.2.2.1, v.2.2.2.2))
  ) else (
    ((zR v.2.2.2.2 1 n0 0)).bind fun a1 =>
    if (zI v.2.2.2.2 10 a1 0) ≤ 0 then (
      j_X1_walkOut_44 n0 x1 v.1 v.2.1 v.2.2.1 v.2.2.2.1 (0 : Int32) v.2.2.2.2
    ) else (
      ((zR v.2.2.2.2 1 n0 0)).bind fun a9 =>
      if (zI v.2.2.2.2 10 a9 0) = 0 then none else
      j_X1_walkOut_44 n0 x1 v.1 v.2.1 v.2.2.1 v.2.2.2.1 (v.1 - v.1 / (zI v.2.2.2.2 10 a9 0) * (zI v.2.2.2.2 10 a9 0)) v.2.2.2.2
    )
  )
def f_X1_walkOut (n0 : Nat) (x1 : Int32) (x2 : Int32) (x3 : Int32) (S : ZH) : Option (Int32 × ZH) :=
  (z_iter zFU (b_X1_walkOut_15 n0 x1) (x2, (-9 : Int32), (1 : Int32), (x3 - (1 : Int32)), S)).bind fun t11 =>
  if z_b t11.1 = t11.1 then some (t11.1, t11.2) else none
set_option maxRecDepth 20000 in
theorem k_X1_walkOut_70 {S0 : ZH} {F : ZP} {n0 : Nat} {x1 : Int32} {x5 : Int32} {x6 : Int32} {x7 : Int32} {x8 : Int32} {s0 : Int32}  {S : ZH} {z : (Int32 × Int32 × Int32 × Int32 × ZH) ⊕ (Int32 × ZH)} (h : j_X1_walkOut_70 n0 x1 x5 x6 x7 x8 s0 S = some z) (k : Sum.elim (fun v : Int32 × Int32 × Int32 × Int32 × ZH => Wp Y_X1_walkOut S0 F 15 [(0, z_r 1 (some n0)), (1, z_i x1), (4, z_i v.1), (5, z_i v.2.1), (6, z_i v.2.2.1), (7, z_i v.2.2.2.1)] [] v.2.2.2.2) (fun t => Wp Y_X1_walkOut S0 F 128 [(6, z_i t.1)] [] t.2) z) : Wp Y_X1_walkOut S0 (F) 70 [(0, z_r 1 (some n0)), (1, z_i x1), (5, z_i x5), (6, z_i x6), (7, z_i x7), (8, z_i x8)] [z_i s0] S := by
  unfold j_X1_walkOut_70 at h
  refine x_istore (lo' := [(4, z_i s0), (0, z_r 1 (some n0)), (1, z_i x1), (5, z_i x5), (6, z_i x6), (7, z_i x7), (8, z_i x8)]) dX1_walkOut_70 (by decide) rfl ?_
  refine x_aload_n 1 dX1_walkOut_72 rfl rfl ?_
  refine x_getR rfl ck_1 3 (by decide) rfl q_157 dX1_walkOut_73 ?_
  refine x_iload_n 2 dX1_walkOut_76 rfl rfl ?_
  refine x_iconst (v := (3 : Int32)) dX1_walkOut_77 (by decide) ?_
  refine x_imul dX1_walkOut_78 ?_
  refine x_iload 5 dX1_walkOut_79 rfl ?_
  refine x_iadd dX1_walkOut_81 ?_
  refine x_iload 6 dX1_walkOut_82 rfl ?_
  refine z_bnd h (fun a3 ha3 h => ?_)
  refine x_iastore ha3 ak_16 dX1_walkOut_84 h (fun S4 hS4 h => ?_)
  refine x_iload 4 dX1_walkOut_85 rfl ?_
  refine x_if_eq (tgt := 115) dX1_walkOut_87 (by decide) h (fun h => ?_) (fun h => ?_)
  · refine x_iconst (v := (0 : Int32)) dX1_walkOut_115 (by decide) ?_
    refine x_istore (lo' := [(6, z_i (0 : Int32)), (4, z_i s0), (0, z_r 1 (some n0)), (1, z_i x1), (5, z_i x5), (7, z_i x7), (8, z_i x8)]) dX1_walkOut_116 (by decide) rfl ?_
    refine x_iload 6 dX1_walkOut_118 rfl ?_
    refine x_istore (lo' := [(5, z_i x8), (6, z_i (0 : Int32)), (4, z_i s0), (0, z_r 1 (some n0)), (1, z_i x1), (7, z_i x7), (8, z_i x8)]) dX1_walkOut_120 (by decide) rfl ?_
    refine x_iinc (v := (x7 + (-1))) (lo' := [(7, z_i (x7 + (-1))), (5, z_i x8), (6, z_i (0 : Int32)), (4, z_i s0), (0, z_r 1 (some n0)), (1, z_i x1), (8, z_i x8)]) 5 dX1_walkOut_122 rfl (congrArg (HAdd.hAdd x7) (by decide)) (by decide) rfl ?_
    refine x_goto (tgt := 15) dX1_walkOut_125 (by decide) ?_
    cases h
    exact x_lo [4, 5, 3, 1, 2, 0] rfl k
  · refine x_iload 3 dX1_walkOut_90 rfl ?_
    refine x_bipush (v := (-9 : Int32)) dX1_walkOut_92 (by decide) ?_
    refine x_ic_eq (tgt := 111) dX1_walkOut_94 (by decide) h (fun h => ?_) (fun h => ?_)
    · refine x_iconst (v := (1 : Int32)) dX1_walkOut_111 (by decide) ?_
      refine x_goto (tgt := 116) dX1_walkOut_112 (by decide) ?_
      refine x_istore (lo' := [(6, z_i (1 : Int32)), (4, z_i s0), (0, z_r 1 (some n0)), (1, z_i x1), (5, z_i x5), (7, z_i x7), (8, z_i x8)]) dX1_walkOut_116 (by decide) rfl ?_
      refine x_iload 6 dX1_walkOut_118 rfl ?_
      refine x_istore (lo' := [(5, z_i x8), (6, z_i (1 : Int32)), (4, z_i s0), (0, z_r 1 (some n0)), (1, z_i x1), (7, z_i x7), (8, z_i x8)]) dX1_walkOut_120 (by decide) rfl ?_
      refine x_iinc (v := (x7 + (-1))) (lo' := [(7, z_i (x7 + (-1))), (5, z_i x8), (6, z_i (1 : Int32)), (4, z_i s0), (0, z_r 1 (some n0)), (1, z_i x1), (8, z_i x8)]) 5 dX1_walkOut_122 rfl (congrArg (HAdd.hAdd x7) (by decide)) (by decide) rfl ?_
      refine x_goto (tgt := 15) dX1_walkOut_125 (by decide) ?_
      cases h
      exact x_lo [4, 5, 3, 1, 2, 0] rfl k
    · refine x_aload_n 1 dX1_walkOut_97 rfl rfl ?_
      refine x_getR rfl ck_1 0 (by decide) rfl q_154 dX1_walkOut_98 ?_
      refine x_iload 6 dX1_walkOut_101 rfl ?_
      refine x_iload 3 dX1_walkOut_103 rfl ?_
      refine z_bnd h (fun a5 ha5 h => ?_)
      refine z_bnd h (fun q6 hq6 h => ?_)
      refine x_callV1 ha5 (w_X10_isStep hq6) cw_X10_isStep q_822 ⟨by decide, by decide⟩ (Nat.le_of_ble_eq_true rfl) dX1_walkOut_105 rfl ?_
      refine x_if_eq (tgt := 115) dX1_walkOut_108 (by decide) h (fun h => ?_) (fun h => ?_)
      · refine x_iconst (v := (0 : Int32)) dX1_walkOut_115 (by decide) ?_
        refine x_istore (lo' := [(6, z_i (0 : Int32)), (4, z_i s0), (0, z_r 1 (some n0)), (1, z_i x1), (5, z_i x5), (7, z_i x7), (8, z_i x8)]) dX1_walkOut_116 (by decide) rfl ?_
        refine x_iload 6 dX1_walkOut_118 rfl ?_
        refine x_istore (lo' := [(5, z_i x8), (6, z_i (0 : Int32)), (4, z_i s0), (0, z_r 1 (some n0)), (1, z_i x1), (7, z_i x7), (8, z_i x8)]) dX1_walkOut_120 (by decide) rfl ?_
        refine x_iinc (v := (x7 + (-1))) (lo' := [(7, z_i (x7 + (-1))), (5, z_i x8), (6, z_i (0 : Int32)), (4, z_i s0), (0, z_r 1 (some n0)), (1, z_i x1), (8, z_i x8)]) 5 dX1_walkOut_122 rfl (congrArg (HAdd.hAdd x7) (by decide)) (by decide) rfl ?_
        refine x_goto (tgt := 15) dX1_walkOut_125 (by decide) ?_
        cases h
        exact x_lo [4, 5, 3, 1, 2, 0] rfl k
      · refine x_iconst (v := (1 : Int32)) dX1_walkOut_111 (by decide) ?_
        refine x_goto (tgt := 116) dX1_walkOut_112 (by decide) ?_
        refine x_istore (lo' := [(6, z_i (1 : Int32)), (4, z_i s0), (0, z_r 1 (some n0)), (1, z_i x1), (5, z_i x5), (7, z_i x7), (8, z_i x8)]) dX1_walkOut_116 (by decide) rfl ?_
        refine x_iload 6 dX1_walkOut_118 rfl ?_
        refine x_istore (lo' := [(5, z_i x8), (6, z_i (1 : Int32)), (4, z_i s0), (0, z_r 1 (some n0)), (1, z_i x1), (7, z_i x7), (8, z_i x8)]) dX1_walkOut_120 (by decide) rfl ?_
        refine x_iinc (v := (x7 + (-1))) (lo' := [(7, z_i (x7 + (-1))), (5, z_i x8), (6, z_i (1 : Int32)), (4, z_i s0), (0, z_r 1 (some n0)), (1, z_i x1), (8, z_i x8)]) 5 dX1_walkOut_122 rfl (congrArg (HAdd.hAdd x7) (by decide)) (by decide) rfl ?_
        refine x_goto (tgt := 15) dX1_walkOut_125 (by decide) ?_
        cases h
        exact x_lo [4, 5, 3, 1, 2, 0] rfl k
set_option maxRecDepth 20000 in
theorem k_X1_walkOut_44 {S0 : ZH} {F : ZP} {n0 : Nat} {x1 : Int32} {x4 : Int32} {x5 : Int32} {x6 : Int32} {x7 : Int32} {s0 : Int32}  {S : ZH} {z : (Int32 × Int32 × Int32 × Int32 × ZH) ⊕ (Int32 × ZH)} (h : j_X1_walkOut_44 n0 x1 x4 x5 x6 x7 s0 S = some z) (k : Sum.elim (fun v : Int32 × Int32 × Int32 × Int32 × ZH => Wp Y_X1_walkOut S0 F 15 [(0, z_r 1 (some n0)), (1, z_i x1), (4, z_i v.1), (5, z_i v.2.1), (6, z_i v.2.2.1), (7, z_i v.2.2.2.1)] [] v.2.2.2.2) (fun t => Wp Y_X1_walkOut S0 F 128 [(6, z_i t.1)] [] t.2) z) : Wp Y_X1_walkOut S0 (F) 44 [(0, z_r 1 (some n0)), (1, z_i x1), (4, z_i x4), (5, z_i x5), (6, z_i x6), (7, z_i x7)] [z_i s0] S := by
  unfold j_X1_walkOut_44 at h
  refine x_istore (lo' := [(8, z_i s0), (0, z_r 1 (some n0)), (1, z_i x1), (4, z_i x4), (5, z_i x5), (6, z_i x6), (7, z_i x7)]) dX1_walkOut_44 (by decide) rfl ?_
  refine x_aload_n 1 dX1_walkOut_46 rfl rfl ?_
  refine x_getR rfl ck_1 0 (by decide) rfl q_154 dX1_walkOut_47 ?_
  refine z_bnd h (fun a2 ha2 h => ?_)
  refine x_getI ha2 ck_10 0 (by decide) rfl q_104 dX1_walkOut_50 ?_
  refine x_if_le (tgt := 69) dX1_walkOut_53 (by decide) h (fun h => ?_) (fun h => ?_)
  · refine x_iconst (v := (0 : Int32)) dX1_walkOut_69 (by decide) ?_
    exact x_lo [1, 2, 4, 5, 6, 0] rfl (k_X1_walkOut_70 h k)
  · refine x_iload 3 dX1_walkOut_56 rfl ?_
    refine x_aload_n 1 dX1_walkOut_58 rfl rfl ?_
    refine x_getR rfl ck_1 0 (by decide) rfl q_154 dX1_walkOut_59 ?_
    refine z_bnd h (fun a7 ha7 h => ?_)
    refine x_getI ha7 ck_10 0 (by decide) rfl q_104 dX1_walkOut_62 ?_
    refine z_ite h (fun _ h => by cases h) (fun hz8 h => ?_)
    refine x_idiv dX1_walkOut_65 hz8 ?_
    refine x_goto (tgt := 70) dX1_walkOut_66 (by decide) ?_
    exact x_lo [1, 2, 4, 5, 6, 0] rfl (k_X1_walkOut_70 h k)
set_option maxRecDepth 20000 in
theorem l_X1_walkOut_15 {S0 : ZH} {F : ZP} {n0 : Nat} {x1 : Int32} {v : Int32 × Int32 × Int32 × Int32 × ZH} {t : Int32 × ZH} (h : z_iter zFU (b_X1_walkOut_15 n0 x1) v = some t) (k : (fun t => Wp Y_X1_walkOut S0 F 128 [(6, z_i t.1)] [] t.2) t) : Wp Y_X1_walkOut S0 F 15 [(0, z_r 1 (some n0)), (1, z_i x1), (4, z_i v.1), (5, z_i v.2.1), (6, z_i v.2.2.1), (7, z_i v.2.2.2.1)] [] v.2.2.2.2 := by
  refine z_iter_P (P := fun v : Int32 × Int32 × Int32 × Int32 × ZH => Wp Y_X1_walkOut S0 F 15 [(0, z_r 1 (some n0)), (1, z_i x1), (4, z_i v.1), (5, z_i v.2.1), (6, z_i v.2.2.1), (7, z_i v.2.2.2.1)] [] v.2.2.2.2) (X := (fun t => Wp Y_X1_walkOut S0 F 128 [(6, z_i t.1)] [] t.2)) ?_ _ _ _ h k
  clear h k v t
  intro v r h k
  unfold b_X1_walkOut_15 at h
  refine x_iload 5 dX1_walkOut_15 rfl ?_
  refine x_if_lt (tgt := 128) dX1_walkOut_17 (by decide) h (fun h => ?_) (fun h => ?_)
  · cases h
    exact x_lo [4] rfl k
  · refine x_aload_n 0 dX1_walkOut_20 rfl rfl ?_
    refine x_getR rfl ck_1 0 (by decide) rfl q_154 dX1_walkOut_21 ?_
    refine z_bnd h (fun a1 ha1 h => ?_)
    refine x_getI ha1 ck_10 0 (by decide) rfl q_104 dX1_walkOut_24 ?_
    refine x_if_le (tgt := 43) dX1_walkOut_27 (by decide) h (fun h => ?_) (fun h => ?_)
    · refine x_iconst (v := (0 : Int32)) dX1_walkOut_43 (by decide) ?_
      exact x_lo [0, 1, 2, 3, 4, 5] rfl (k_X1_walkOut_44 h k)
    · refine x_iload 2 dX1_walkOut_30 rfl ?_
      refine x_aload_n 0 dX1_walkOut_32 rfl rfl ?_
      refine x_getR rfl ck_1 0 (by decide) rfl q_154 dX1_walkOut_33 ?_
      refine z_bnd h (fun a9 ha9 h => ?_)
      refine x_getI ha9 ck_10 0 (by decide) rfl q_104 dX1_walkOut_36 ?_
      refine z_ite h (fun _ h => by cases h) (fun hz10 h => ?_)
      refine x_irem dX1_walkOut_39 hz10 ?_
      refine x_goto (tgt := 44) dX1_walkOut_40 (by decide) ?_
      exact x_lo [0, 1, 2, 3, 4, 5] rfl (k_X1_walkOut_44 h k)
set_option maxRecDepth 20000 in
set_option maxHeartbeats 1000000 in
theorem w_X1_walkOut {n0 : Nat} {x1 : Int32} {x2 : Int32} {x3 : Int32} {S : ZH} {q : Int32 × ZH} (h : f_X1_walkOut n0 x1 x2 x3 S = some q) : MetX Y_X1_walkOut S [z_r 1 (some n0), z_i x1, z_i x2, z_i x3] (some (z_i q.1)) q.2 := by
  refine MetX.of (lo := [(0, z_r 1 (some n0)), (1, z_i x1), (2, z_i x2), (3, z_i x3)]) rfl (by decide) (Nat.le_of_ble_eq_true rfl) ?_
  unfold f_X1_walkOut at h
  refine x_iload_n 2 dX1_walkOut_0 rfl rfl ?_
  refine x_istore (lo' := [(4, z_i x2), (0, z_r 1 (some n0)), (1, z_i x1), (2, z_i x2), (3, z_i x3)]) dX1_walkOut_1 (by decide) rfl ?_
  refine x_bipush (v := (-9 : Int32)) dX1_walkOut_3 (by decide) ?_
  refine x_istore (lo' := [(5, z_i (-9 : Int32)), (4, z_i x2), (0, z_r 1 (some n0)), (1, z_i x1), (2, z_i x2), (3, z_i x3)]) dX1_walkOut_5 (by decide) rfl ?_
  refine x_iconst (v := (1 : Int32)) dX1_walkOut_7 (by decide) ?_
  refine x_istore (lo' := [(6, z_i (1 : Int32)), (5, z_i (-9 : Int32)), (4, z_i x2), (0, z_r 1 (some n0)), (1, z_i x1), (2, z_i x2), (3, z_i x3)]) dX1_walkOut_8 (by decide) rfl ?_
  refine x_iload_n 6 dX1_walkOut_10 rfl rfl ?_
  refine x_iconst (v := (1 : Int32)) dX1_walkOut_11 (by decide) ?_
  refine x_isub dX1_walkOut_12 ?_
  refine x_istore (lo' := [(7, z_i (x3 - (1 : Int32))), (6, z_i (1 : Int32)), (5, z_i (-9 : Int32)), (4, z_i x2), (0, z_r 1 (some n0)), (1, z_i x1), (2, z_i x2), (3, z_i x3)]) dX1_walkOut_13 (by decide) rfl ?_
  refine z_bnd h (fun t11 ht11 h => ?_)
  refine x_lo [4, 5, 3, 2, 1, 0] rfl ?_
  refine l_X1_walkOut_15 ht11 ?_
  refine x_iload 0 dX1_walkOut_128 rfl ?_
  exact x_zretE rfl dX1_walkOut_130 h
-- PressedMen$Gangs streetOf (II)I
abbrev Y_X1_streetOf : ZM := (yX1_streetOf, cX1_streetOf, 3, (some .int), 0, 0)
theorem cw_X1_streetOf : z_CV Y_X1_streetOf 1 2 := ⟨⟨_, _, rfl⟩, by decide, q_831, q_832, q_833, q_73, ⟨by decide, by decide⟩, rfl⟩
def f_X1_streetOf (n0 : Nat) (x1 : Int32) (x2 : Int32) (S : ZH) : Option (Int32) :=
  ((zR S 1 n0 3)).bind fun a1 =>
  (zld S 16 a1 ((x1 * (3 : Int32)) + x2)).bind fun v2 =>
  some v2
set_option maxRecDepth 20000 in
set_option maxHeartbeats 1000000 in
theorem w_X1_streetOf {n0 : Nat} {x1 : Int32} {x2 : Int32} {S : ZH} {q : Int32} (h : f_X1_streetOf n0 x1 x2 S = some q) : MetX Y_X1_streetOf S [z_r 1 (some n0), z_i x1, z_i x2] (some (z_i q)) S := by
  refine MetX.of (lo := [(0, z_r 1 (some n0)), (1, z_i x1), (2, z_i x2)]) rfl (by decide) (Nat.le_of_ble_eq_true rfl) ?_
  unfold f_X1_streetOf at h
  refine x_aload_n 0 dX1_streetOf_0 rfl rfl ?_
  refine x_getR rfl ck_1 3 (by decide) rfl q_157 dX1_streetOf_1 ?_
  refine x_iload_n 1 dX1_streetOf_4 rfl rfl ?_
  refine x_iconst (v := (3 : Int32)) dX1_streetOf_5 (by decide) ?_
  refine x_imul dX1_streetOf_6 ?_
  refine x_iload_n 2 dX1_streetOf_7 rfl rfl ?_
  refine x_iadd dX1_streetOf_8 ?_
  refine z_bnd h (fun a1 ha1 h => ?_)
  refine x_iaload ha1 ak_16 dX1_streetOf_9 h (fun v2 hv2 h => ?_)
  exact x_iret rfl dX1_streetOf_10 h
-- PressedMen$Gangs kindWalked (I)I
abbrev Y_X1_kindWalked : ZM := (yX1_kindWalked, cX1_kindWalked, 4, (some .int), 1, 22)
theorem cw_X1_kindWalked : z_CV Y_X1_kindWalked 1 1 := ⟨⟨_, _, rfl⟩, by decide, q_828, q_30, q_829, q_73, ⟨by decide, by decide⟩, rfl⟩
def b_X1_kindWalked_2 (n0 : Nat) (x1 : Int32) (S : ZH) (v : Int32) : Option ((Int32) ⊕ ((Unit) ⊕ (Int32))) :=
  if x1 ≤ v then (
    some (Sum.inr (Sum.inl ()))
  ) else (
    (f_X1_streetOf n0 (0 : Int32) v S).bind fun q1 =>
    ((zR S 1 n0 1)).bind fun a2 =>
    (zld S 14 a2 q1).bind fun v3 =>
    if v3 ≤ 0 then (
      some (Sum.inl ((v + 1)))
    ) else (
      some (Sum.inr (Sum.inr ((v * (8 : Int32)) + q1)))
    )
  )
def f_X1_kindWalked (n0 : Nat) (x1 : Int32) (S : ZH) : Option (Int32) :=
  (z_iter zFU (b_X1_kindWalked_2 n0 x1 S) ((0 : Int32))).bind fun t4 =>
  Sum.elim (fun t =>
    some (24 : Int32)
  ) (fun q => some q) t4
set_option maxRecDepth 20000 in
theorem l_X1_kindWalked_2 {S0 : ZH} {F : ZP} {n0 : Nat} {x1 : Int32} {S : ZH} {v : Int32} {t : (Unit) ⊕ (Int32)} (h : z_iter zFU (b_X1_kindWalked_2 n0 x1 S) v = some t) (k : (Sum.elim (fun t => Wp Y_X1_kindWalked S0 F 36 [] [] S) (fun q => F = zF S0 (some (z_i q)) S)) t) : Wp Y_X1_kindWalked S0 F 2 [(0, z_r 1 (some n0)), (1, z_i x1), (2, z_i v)] [] S := by
  refine z_iter_P (P := fun v : Int32 => Wp Y_X1_kindWalked S0 F 2 [(0, z_r 1 (some n0)), (1, z_i x1), (2, z_i v)] [] S) (X := (Sum.elim (fun t => Wp Y_X1_kindWalked S0 F 36 [] [] S) (fun q => F = zF S0 (some (z_i q)) S))) ?_ _ _ _ h k
  clear h k v t
  intro v r h k
  unfold b_X1_kindWalked_2 at h
  refine x_iload_n 2 dX1_kindWalked_2 rfl rfl ?_
  refine x_iload_n 1 dX1_kindWalked_3 rfl rfl ?_
  refine x_ic_ge (tgt := 36) dX1_kindWalked_4 (by decide) h (fun h => ?_) (fun h => ?_)
  · cases h
    exact x_lo [] rfl k
  · refine x_aload_n 0 dX1_kindWalked_7 rfl rfl ?_
    refine x_iconst (v := (0 : Int32)) dX1_kindWalked_8 (by decide) ?_
    refine x_iload_n 2 dX1_kindWalked_9 rfl rfl ?_
    refine z_bnd h (fun q1 hq1 h => ?_)
    refine x_callV1 rfl (w_X1_streetOf hq1) cw_X1_streetOf q_830 ⟨by decide, by decide⟩ (Nat.le_of_ble_eq_true rfl) dX1_kindWalked_10 rfl ?_
    refine x_istore_n (lo' := [(3, z_i q1), (0, z_r 1 (some n0)), (1, z_i x1), (2, z_i v)]) dX1_kindWalked_13 rfl (by decide) rfl ?_
    refine x_aload_n 1 dX1_kindWalked_14 rfl rfl ?_
    refine x_getR rfl ck_1 1 (by decide) rfl q_155 dX1_kindWalked_15 ?_
    refine x_iload_n 0 dX1_kindWalked_18 rfl rfl ?_
    refine z_bnd h (fun a2 ha2 h => ?_)
    refine x_iaload ha2 ak_14 dX1_kindWalked_19 h (fun v3 hv3 h => ?_)
    refine x_if_le (tgt := 30) dX1_kindWalked_20 (by decide) h (fun h => ?_) (fun h => ?_)
    · refine x_iinc (v := (v + 1)) (lo' := [(2, z_i (v + 1)), (3, z_i q1), (0, z_r 1 (some n0)), (1, z_i x1)]) 3 dX1_kindWalked_30 rfl (congrArg (HAdd.hAdd v) (by decide)) (by decide) rfl ?_
      refine x_goto (tgt := 2) dX1_kindWalked_33 (by decide) ?_
      cases h
      exact x_lo [2, 3, 0] rfl k
    · refine x_iload_n 3 dX1_kindWalked_23 rfl rfl ?_
      refine x_bipush (v := (8 : Int32)) dX1_kindWalked_24 (by decide) ?_
      refine x_imul dX1_kindWalked_26 ?_
      refine x_iload_n 0 dX1_kindWalked_27 rfl rfl ?_
      refine x_iadd dX1_kindWalked_28 ?_
      cases h
      have k : F = zF S0 (some (z_i ((v * (8 : Int32)) + q1))) S := k
      subst k
      exact x_iret0 rfl dX1_kindWalked_29
set_option maxRecDepth 20000 in
set_option maxHeartbeats 1000000 in
theorem w_X1_kindWalked {n0 : Nat} {x1 : Int32} {S : ZH} {q : Int32} (h : f_X1_kindWalked n0 x1 S = some q) : MetX Y_X1_kindWalked S [z_r 1 (some n0), z_i x1] (some (z_i q)) S := by
  refine MetX.of (lo := [(0, z_r 1 (some n0)), (1, z_i x1)]) rfl (by decide) (Nat.le_of_ble_eq_true rfl) ?_
  unfold f_X1_kindWalked at h
  refine x_iconst (v := (0 : Int32)) dX1_kindWalked_0 (by decide) ?_
  refine x_istore_n (lo' := [(2, z_i (0 : Int32)), (0, z_r 1 (some n0)), (1, z_i x1)]) dX1_kindWalked_1 rfl (by decide) rfl ?_
  refine z_bnd h (fun t4 ht4 h => ?_)
  refine x_lo [1, 2, 0] rfl ?_
  refine l_X1_kindWalked_2 ht4 ?_
  rcases t4 with t | q
  · have h := (show _ = some _ from h)
    simp only [Sum.elim_inl] at h ⊢
    refine x_bipush (v := (24 : Int32)) dX1_kindWalked_36 (by decide) ?_
    exact x_iret rfl dX1_kindWalked_38 h
  · simp only [Sum.elim_inr] at h ⊢
    cases h
    rfl
-- PressedMen$Gangs findFirstWalks (I)V
abbrev Y_X1_findFirstWalks : ZM := (yX1_findFirstWalks, cX1_findFirstWalks, 5, none, 3, 71)
theorem cw_X1_findFirstWalks : z_CV Y_X1_findFirstWalks 1 1 := ⟨⟨_, _, rfl⟩, by decide, q_816, q_28, q_817, q_73, ⟨by decide, by decide⟩, rfl⟩
def b_X1_findFirstWalks_14 (n0 : Nat) (x1 : Int32) (S : ZH) (v : Int32 × Int32) : Option ((Int32 × Int32) ⊕ (Int32)) :=
  if x1 ≤ v.2 then (
    some (Sum.inr v.1)
  ) else (
    ((zR S 1 n0 0)).bind fun a2 =>
    some (Sum.inl ((v.1 * (zI S 10 a2 0)), (v.2 + 1)))
  )
def b_X1_findFirstWalks_37 (n0 : Nat) (x1 : Int32) (x2 : Int32) (v : Int32 × ZH) : Option ((Int32 × ZH) ⊕ (ZH)) :=
  if x2 ≤ v.1 then (
    some (Sum.inr v.2)
  ) else (
    (f_X1_walkOut n0 (0 : Int32) v.1 x1 v.2).bind fun q4 =>
    if q4.1 = 0 then (
      some (Sum.inl ((v.1 + 1), q4.2))
    ) else (
      (f_X1_kindWalked n0 x1 q4.2).bind fun q5 =>
      ((zR q4.2 1 n0 2)).bind fun a6 =>
      (zld q4.2 15 a6 q5).bind fun v7 =>
      (f_J9_min_7cf53 v7 v.1 q4.2).bind fun q8 =>
      ((zR q4.2 1 n0 2)).bind fun a9 =>
      (zst q4.2 15 a9 q5 q8).bind fun S10 =>
      some (Sum.inl ((v.1 + 1), S10))
    )
  )
def f_X1_findFirstWalks (n0 : Nat) (x1 : Int32) (S : ZH) : Option (ZH) :=
  (f_J7_fill_53178_15 (zR S 1 n0 2) (999 : Int32) S).bind fun q1 =>
  (z_iter zFU (b_X1_findFirstWalks_14 n0 x1 q1) ((1 : Int32), (0 : Int32))).bind fun t3 =>
  (z_iter zFU (b_X1_findFirstWalks_37 n0 x1 t3) ((0 : Int32), q1)).bind fun t11 =>
  some t11
set_option maxRecDepth 20000 in
theorem l_X1_findFirstWalks_14 {S0 : ZH} {F : ZP} {n0 : Nat} {x1 : Int32} {S : ZH} {v : Int32 × Int32} {t : Int32} (h : z_iter zFU (b_X1_findFirstWalks_14 n0 x1 S) v = some t) (k : (fun t => Wp Y_X1_findFirstWalks S0 F 35 [(0, z_r 1 (some n0)), (1, z_i x1), (2, z_i t)] [] S) t) : Wp Y_X1_findFirstWalks S0 F 14 [(0, z_r 1 (some n0)), (1, z_i x1), (2, z_i v.1), (3, z_i v.2)] [] S := by
  refine z_iter_P (P := fun v : Int32 × Int32 => Wp Y_X1_findFirstWalks S0 F 14 [(0, z_r 1 (some n0)), (1, z_i x1), (2, z_i v.1), (3, z_i v.2)] [] S) (X := (fun t => Wp Y_X1_findFirstWalks S0 F 35 [(0, z_r 1 (some n0)), (1, z_i x1), (2, z_i t)] [] S)) ?_ _ _ _ h k
  clear h k v t
  intro v r h k
  unfold b_X1_findFirstWalks_14 at h
  refine x_iload_n 3 dX1_findFirstWalks_14 rfl rfl ?_
  refine x_iload_n 1 dX1_findFirstWalks_15 rfl rfl ?_
  refine x_ic_ge (tgt := 35) dX1_findFirstWalks_16 (by decide) h (fun h => ?_) (fun h => ?_)
  · cases h
    exact x_lo [0, 1, 2] rfl k
  · refine x_iload_n 2 dX1_findFirstWalks_19 rfl rfl ?_
    refine x_aload_n 0 dX1_findFirstWalks_20 rfl rfl ?_
    refine x_getR rfl ck_1 0 (by decide) rfl q_154 dX1_findFirstWalks_21 ?_
    refine z_bnd h (fun a2 ha2 h => ?_)
    refine x_getI ha2 ck_10 0 (by decide) rfl q_104 dX1_findFirstWalks_24 ?_
    refine x_imul dX1_findFirstWalks_27 ?_
    refine x_istore_n (lo' := [(2, z_i (v.1 * (zI S 10 a2 0))), (0, z_r 1 (some n0)), (1, z_i x1), (3, z_i v.2)]) dX1_findFirstWalks_28 rfl (by decide) rfl ?_
    refine x_iinc (v := (v.2 + 1)) (lo' := [(3, z_i (v.2 + 1)), (2, z_i (v.1 * (zI S 10 a2 0))), (0, z_r 1 (some n0)), (1, z_i x1)]) 3 dX1_findFirstWalks_29 rfl (congrArg (HAdd.hAdd v.2) (by decide)) (by decide) rfl ?_
    refine x_goto (tgt := 14) dX1_findFirstWalks_32 (by decide) ?_
    cases h
    exact x_lo [2, 3, 1, 0] rfl k
set_option maxRecDepth 20000 in
theorem l_X1_findFirstWalks_37 {S0 : ZH} {F : ZP} {n0 : Nat} {x1 : Int32} {x2 : Int32} {v : Int32 × ZH} {t : ZH} (h : z_iter zFU (b_X1_findFirstWalks_37 n0 x1 x2) v = some t) (k : (fun t => Wp Y_X1_findFirstWalks S0 F 83 [] [] t) t) : Wp Y_X1_findFirstWalks S0 F 37 [(0, z_r 1 (some n0)), (1, z_i x1), (2, z_i x2), (3, z_i v.1)] [] v.2 := by
  refine z_iter_P (P := fun v : Int32 × ZH => Wp Y_X1_findFirstWalks S0 F 37 [(0, z_r 1 (some n0)), (1, z_i x1), (2, z_i x2), (3, z_i v.1)] [] v.2) (X := (fun t => Wp Y_X1_findFirstWalks S0 F 83 [] [] t)) ?_ _ _ _ h k
  clear h k v t
  intro v r h k
  unfold b_X1_findFirstWalks_37 at h
  refine x_iload_n 3 dX1_findFirstWalks_37 rfl rfl ?_
  refine x_iload_n 2 dX1_findFirstWalks_38 rfl rfl ?_
  refine x_ic_ge (tgt := 83) dX1_findFirstWalks_39 (by decide) h (fun h => ?_) (fun h => ?_)
  · cases h
    exact x_lo [] rfl k
  · refine x_aload_n 0 dX1_findFirstWalks_42 rfl rfl ?_
    refine x_iconst (v := (0 : Int32)) dX1_findFirstWalks_43 (by decide) ?_
    refine x_iload_n 3 dX1_findFirstWalks_44 rfl rfl ?_
    refine x_iload_n 1 dX1_findFirstWalks_45 rfl rfl ?_
    refine z_bnd h (fun q4 hq4 h => ?_)
    refine x_callV1 rfl (w_X1_walkOut hq4) cw_X1_walkOut q_818 ⟨by decide, by decide⟩ (Nat.le_of_ble_eq_true rfl) dX1_findFirstWalks_46 rfl ?_
    refine x_if_eq (tgt := 77) dX1_findFirstWalks_49 (by decide) h (fun h => ?_) (fun h => ?_)
    · refine x_iinc (v := (v.1 + 1)) (lo' := [(3, z_i (v.1 + 1)), (0, z_r 1 (some n0)), (1, z_i x1), (2, z_i x2)]) 3 dX1_findFirstWalks_77 rfl (congrArg (HAdd.hAdd v.1) (by decide)) (by decide) rfl ?_
      refine x_goto (tgt := 37) dX1_findFirstWalks_80 (by decide) ?_
      cases h
      exact x_lo [1, 2, 3, 0] rfl k
    · refine x_aload_n 0 dX1_findFirstWalks_52 rfl rfl ?_
      refine x_iload_n 1 dX1_findFirstWalks_53 rfl rfl ?_
      refine z_bnd h (fun q5 hq5 h => ?_)
      refine x_callV1 rfl (w_X1_kindWalked hq5) cw_X1_kindWalked q_826 ⟨by decide, by decide⟩ (Nat.le_of_ble_eq_true rfl) dX1_findFirstWalks_54 rfl ?_
      refine x_istore (lo' := [(4, z_i q5), (0, z_r 1 (some n0)), (1, z_i x1), (2, z_i x2), (3, z_i v.1)]) dX1_findFirstWalks_57 (by decide) rfl ?_
      refine x_aload_n 1 dX1_findFirstWalks_59 rfl rfl ?_
      refine x_getR rfl ck_1 2 (by decide) rfl q_156 dX1_findFirstWalks_60 ?_
      refine x_iload 0 dX1_findFirstWalks_63 rfl ?_
      refine x_aload_n 1 dX1_findFirstWalks_65 rfl rfl ?_
      refine x_getR rfl ck_1 2 (by decide) rfl q_156 dX1_findFirstWalks_66 ?_
      refine x_iload 0 dX1_findFirstWalks_69 rfl ?_
      refine z_bnd h (fun a6 ha6 h => ?_)
      refine x_iaload ha6 ak_15 dX1_findFirstWalks_71 h (fun v7 hv7 h => ?_)
      refine x_iload_n 4 dX1_findFirstWalks_72 rfl rfl ?_
      refine z_bnd h (fun q8 hq8 h => ?_)
      refine x_callS1 (w_J9_min_7cf53 hq8) cw_J9_min_7cf53 q_834 ⟨by decide, by decide⟩ (Nat.le_of_ble_eq_true rfl) dX1_findFirstWalks_73 rfl ?_
      refine z_bnd h (fun a9 ha9 h => ?_)
      refine x_iastore ha9 ak_15 dX1_findFirstWalks_76 h (fun S10 hS10 h => ?_)
      refine x_iinc (v := (v.1 + 1)) (lo' := [(3, z_i (v.1 + 1)), (4, z_i q5), (0, z_r 1 (some n0)), (1, z_i x1), (2, z_i x2)]) 4 dX1_findFirstWalks_77 rfl (congrArg (HAdd.hAdd v.1) (by decide)) (by decide) rfl ?_
      refine x_goto (tgt := 37) dX1_findFirstWalks_80 (by decide) ?_
      cases h
      exact x_lo [2, 3, 4, 0] rfl k
set_option maxRecDepth 20000 in
set_option maxHeartbeats 1000000 in
theorem w_X1_findFirstWalks {n0 : Nat} {x1 : Int32} {S : ZH} {q : ZH} (h : f_X1_findFirstWalks n0 x1 S = some q) : MetX Y_X1_findFirstWalks S [z_r 1 (some n0), z_i x1] none q := by
  refine MetX.of (lo := [(0, z_r 1 (some n0)), (1, z_i x1)]) rfl (by decide) (Nat.le_of_ble_eq_true rfl) ?_
  unfold f_X1_findFirstWalks at h
  refine x_aload_n 0 dX1_findFirstWalks_0 rfl rfl ?_
  refine x_getR rfl ck_1 2 (by decide) rfl q_156 dX1_findFirstWalks_1 ?_
  refine x_sipush (v := (999 : Int32)) dX1_findFirstWalks_4 (by decide) ?_
  refine z_bnd h (fun q1 hq1 h => ?_)
  refine x_callSv (w_J7_fill_53178_15 hq1) cw_J7_fill_53178 q_795 ⟨by decide, by decide⟩ (Nat.le_of_ble_eq_true rfl) dX1_findFirstWalks_7 rfl ?_
  refine x_iconst (v := (1 : Int32)) dX1_findFirstWalks_10 (by decide) ?_
  refine x_istore_n (lo' := [(2, z_i (1 : Int32)), (0, z_r 1 (some n0)), (1, z_i x1)]) dX1_findFirstWalks_11 rfl (by decide) rfl ?_
  refine x_iconst (v := (0 : Int32)) dX1_findFirstWalks_12 (by decide) ?_
  refine x_istore_n (lo' := [(3, z_i (0 : Int32)), (2, z_i (1 : Int32)), (0, z_r 1 (some n0)), (1, z_i x1)]) dX1_findFirstWalks_13 rfl (by decide) rfl ?_
  refine z_bnd h (fun t3 ht3 h => ?_)
  refine x_lo [2, 3, 1, 0] rfl ?_
  refine l_X1_findFirstWalks_14 ht3 ?_
  refine x_iconst (v := (0 : Int32)) dX1_findFirstWalks_35 (by decide) ?_
  refine x_istore_n (lo' := [(3, z_i (0 : Int32)), (0, z_r 1 (some n0)), (1, z_i x1), (2, z_i t3)]) dX1_findFirstWalks_36 rfl (by decide) rfl ?_
  refine z_bnd h (fun t11 ht11 h => ?_)
  refine x_lo [1, 2, 3, 0] rfl ?_
  refine l_X1_findFirstWalks_37 ht11 ?_
  exact x_vretE rfl dX1_findFirstWalks_83 h
-- PressedMen$Gangs menMet (I)I
abbrev Y_X1_menMet : ZM := (yX1_menMet, cX1_menMet, 2, (some .int), 0, 0)
theorem cw_X1_menMet : z_CV Y_X1_menMet 1 1 := ⟨⟨_, _, rfl⟩, by decide, q_841, q_32, q_842, q_73, ⟨by decide, by decide⟩, rfl⟩
def f_X1_menMet (n0 : Nat) (x1 : Int32) (S : ZH) : Option (Int32) :=
  if ¬ x1 = (24 : Int32) then (
    ((zR S 1 n0 1)).bind fun a1 =>
    (zld S 14 a1 (x1 - x1 / (8 : Int32) * (8 : Int32))).bind fun v2 =>
    some v2
  ) else (
    some (0 : Int32)
  )
set_option maxRecDepth 20000 in
set_option maxHeartbeats 1000000 in
theorem w_X1_menMet {n0 : Nat} {x1 : Int32} {S : ZH} {q : Int32} (h : f_X1_menMet n0 x1 S = some q) : MetX Y_X1_menMet S [z_r 1 (some n0), z_i x1] (some (z_i q)) S := by
  refine MetX.of (lo := [(0, z_r 1 (some n0)), (1, z_i x1)]) rfl (by decide) (Nat.le_of_ble_eq_true rfl) ?_
  unfold f_X1_menMet at h
  refine x_iload_n 1 dX1_menMet_0 rfl rfl ?_
  refine x_bipush (v := (24 : Int32)) dX1_menMet_1 (by decide) ?_
  refine x_ic_ne (tgt := 10) dX1_menMet_3 (by decide) h (fun h => ?_) (fun h => ?_)
  · refine x_aload_n 0 dX1_menMet_10 rfl rfl ?_
    refine x_getR rfl ck_1 1 (by decide) rfl q_155 dX1_menMet_11 ?_
    refine x_iload_n 1 dX1_menMet_14 rfl rfl ?_
    refine x_bipush (v := (8 : Int32)) dX1_menMet_15 (by decide) ?_
    refine x_irem dX1_menMet_17 (by decide) ?_
    refine z_bnd h (fun a1 ha1 h => ?_)
    refine x_iaload ha1 ak_14 dX1_menMet_18 h (fun v2 hv2 h => ?_)
    exact x_iret rfl dX1_menMet_19 h
  · refine x_iconst (v := (0 : Int32)) dX1_menMet_6 (by decide) ?_
    refine x_goto (tgt := 19) dX1_menMet_7 (by decide) ?_
    exact x_iret rfl dX1_menMet_19 h
-- PressedMen$Gangs menMetByBoth (II)I
abbrev Y_X1_menMetByBoth : ZM := (yX1_menMetByBoth, cX1_menMetByBoth, 8, (some .int), 3, 67)
theorem cw_X1_menMetByBoth : z_CV Y_X1_menMetByBoth 1 2 := ⟨⟨_, _, rfl⟩, by decide, q_845, q_33, q_846, q_73, ⟨by decide, by decide⟩, rfl⟩
def j_X1_menMetByBoth_12 (n0 : Nat) (x1 : Int32) (x2 : Int32)  (S : ZH) : Option (Int32 × ZH) :=
  (f_X1_menMet n0 x1 S).bind fun q1 =>
  (f_X1_menMet n0 x2 S).bind fun q2 =>
  some ((q1 + q2), S)
def j_X1_menMetByBoth_89 (n0 : Nat) (x3 : Int32) (x4 : Int32) (s0 : Int32) (S : ZH) : Option (Int32 × ZH) :=
  if s0 = 0 then (
    (f_X1_menMet n0 x3 S).bind fun q7 =>
    (f_X1_menMet n0 x4 S).bind fun q8 =>
    some ((q7 + q8), S)
  ) else (
    (f_X1_menMet n0 x3 S).bind fun q9 =>
    some (q9, S)
  )
def j_X1_menMetByBoth_84 (n0 : Nat) (x3 : Int32) (x4 : Int32)  (S : ZH) : Option (Int32 × ZH) :=
  j_X1_menMetByBoth_89 n0 x3 x4 (1 : Int32) S
def j_X1_menMetByBoth_88 (n0 : Nat) (x3 : Int32) (x4 : Int32)  (S : ZH) : Option (Int32 × ZH) :=
  j_X1_menMetByBoth_89 n0 x3 x4 (0 : Int32) S
def f_X1_menMetByBoth (n0 : Nat) (x1 : Int32) (x2 : Int32) (S : ZH) : Option (Int32 × ZH) :=
  if x1 = (24 : Int32) then (
    j_X1_menMetByBoth_12 n0 x1 x2 S
  ) else (
    if ¬ x2 = (24 : Int32) then (
      (f_J9_min_7cf53 x1 x2 S).bind fun q3 =>
      (f_J9_max_7cf53 x1 x2 S).bind fun q4 =>
      ((zR S 1 n0 0)).bind fun a5 =>
      (f_X10_hops a5 (q3 - q3 / (8 : Int32) * (8 : Int32)) (q4 - q4 / (8 : Int32) * (8 : Int32)) S).bind fun q6 =>
      if q6.1 = 0 then (
        j_X1_menMetByBoth_84 n0 q3 q4 q6.2
      ) else (
        if ((q4 / (8 : Int32)) - (q3 / (8 : Int32))) ≤ 0 then (
          j_X1_menMetByBoth_88 n0 q3 q4 q6.2
        ) else (
          if ((q4 / (8 : Int32)) - (q3 / (8 : Int32))) < q6.1 then (
            j_X1_menMetByBoth_88 n0 q3 q4 q6.2
          ) else (
            j_X1_menMetByBoth_84 n0 q3 q4 q6.2
          )
        )
      )
    ) else (
      j_X1_menMetByBoth_12 n0 x1 x2 S
    )
  )
set_option maxRecDepth 20000 in
theorem k_X1_menMetByBoth_12 {S0 : ZH} {n0 : Nat} {x1 : Int32} {x2 : Int32}  {S : ZH} {z : Int32 × ZH} (h : j_X1_menMetByBoth_12 n0 x1 x2 S = some z) : Wp Y_X1_menMetByBoth S0 (zF S0 (some (z_i z.1)) z.2) 12 [(0, z_r 1 (some n0)), (1, z_i x1), (2, z_i x2)] [] S := by
  unfold j_X1_menMetByBoth_12 at h
  refine x_aload_n 0 dX1_menMetByBoth_12 rfl rfl ?_
  refine x_iload_n 1 dX1_menMetByBoth_13 rfl rfl ?_
  refine z_bnd h (fun q1 hq1 h => ?_)
  refine x_callV1 rfl (w_X1_menMet hq1) cw_X1_menMet q_839 ⟨by decide, by decide⟩ (Nat.le_of_ble_eq_true rfl) dX1_menMetByBoth_14 rfl ?_
  refine x_aload_n 0 dX1_menMetByBoth_17 rfl rfl ?_
  refine x_iload_n 2 dX1_menMetByBoth_18 rfl rfl ?_
  refine z_bnd h (fun q2 hq2 h => ?_)
  refine x_callV1 rfl (w_X1_menMet hq2) cw_X1_menMet q_839 ⟨by decide, by decide⟩ (Nat.le_of_ble_eq_true rfl) dX1_menMetByBoth_19 rfl ?_
  refine x_iadd dX1_menMetByBoth_22 ?_
  exact x_iretE rfl dX1_menMetByBoth_23 h
set_option maxRecDepth 20000 in
theorem k_X1_menMetByBoth_89 {S0 : ZH} {n0 : Nat} {x3 : Int32} {x4 : Int32} {s0 : Int32} {S : ZH} {z : Int32 × ZH} (h : j_X1_menMetByBoth_89 n0 x3 x4 s0 S = some z) : Wp Y_X1_menMetByBoth S0 (zF S0 (some (z_i z.1)) z.2) 89 [(0, z_r 1 (some n0)), (3, z_i x3), (4, z_i x4)] [z_i s0] S := by
  unfold j_X1_menMetByBoth_89 at h
  refine x_istore (lo' := [(7, z_i s0), (0, z_r 1 (some n0)), (3, z_i x3), (4, z_i x4)]) dX1_menMetByBoth_89 (by decide) rfl ?_
  refine x_iload 0 dX1_menMetByBoth_91 rfl ?_
  refine x_if_eq (tgt := 104) dX1_menMetByBoth_93 (by decide) h (fun h => ?_) (fun h => ?_)
  · refine x_aload_n 1 dX1_menMetByBoth_104 rfl rfl ?_
    refine x_iload_n 2 dX1_menMetByBoth_105 rfl rfl ?_
    refine z_bnd h (fun q7 hq7 h => ?_)
    refine x_callV1 rfl (w_X1_menMet hq7) cw_X1_menMet q_839 ⟨by decide, by decide⟩ (Nat.le_of_ble_eq_true rfl) dX1_menMetByBoth_106 rfl ?_
    refine x_aload_n 1 dX1_menMetByBoth_109 rfl rfl ?_
    refine x_iload 3 dX1_menMetByBoth_110 rfl ?_
    refine z_bnd h (fun q8 hq8 h => ?_)
    refine x_callV1 rfl (w_X1_menMet hq8) cw_X1_menMet q_839 ⟨by decide, by decide⟩ (Nat.le_of_ble_eq_true rfl) dX1_menMetByBoth_112 rfl ?_
    refine x_iadd dX1_menMetByBoth_115 ?_
    exact x_iretE rfl dX1_menMetByBoth_116 h
  · refine x_aload_n 1 dX1_menMetByBoth_96 rfl rfl ?_
    refine x_iload_n 2 dX1_menMetByBoth_97 rfl rfl ?_
    refine z_bnd h (fun q9 hq9 h => ?_)
    refine x_callV1 rfl (w_X1_menMet hq9) cw_X1_menMet q_839 ⟨by decide, by decide⟩ (Nat.le_of_ble_eq_true rfl) dX1_menMetByBoth_98 rfl ?_
    refine x_goto (tgt := 116) dX1_menMetByBoth_101 (by decide) ?_
    exact x_iretE rfl dX1_menMetByBoth_116 h
set_option maxRecDepth 20000 in
theorem k_X1_menMetByBoth_84 {S0 : ZH} {n0 : Nat} {x3 : Int32} {x4 : Int32}  {S : ZH} {z : Int32 × ZH} (h : j_X1_menMetByBoth_84 n0 x3 x4 S = some z) : Wp Y_X1_menMetByBoth S0 (zF S0 (some (z_i z.1)) z.2) 84 [(0, z_r 1 (some n0)), (3, z_i x3), (4, z_i x4)] [] S := by
  unfold j_X1_menMetByBoth_84 at h
  refine x_iconst (v := (1 : Int32)) dX1_menMetByBoth_84 (by decide) ?_
  refine x_goto (tgt := 89) dX1_menMetByBoth_85 (by decide) ?_
  exact x_lo [0, 1, 2] rfl (k_X1_menMetByBoth_89 h)
set_option maxRecDepth 20000 in
theorem k_X1_menMetByBoth_88 {S0 : ZH} {n0 : Nat} {x3 : Int32} {x4 : Int32}  {S : ZH} {z : Int32 × ZH} (h : j_X1_menMetByBoth_88 n0 x3 x4 S = some z) : Wp Y_X1_menMetByBoth S0 (zF S0 (some (z_i z.1)) z.2) 88 [(0, z_r 1 (some n0)), (3, z_i x3), (4, z_i x4)] [] S := by
  unfold j_X1_menMetByBoth_88 at h
  refine x_iconst (v := (0 : Int32)) dX1_menMetByBoth_88 (by decide) ?_
  exact x_lo [0, 1, 2] rfl (k_X1_menMetByBoth_89 h)
set_option maxRecDepth 20000 in
set_option maxHeartbeats 1000000 in
theorem w_X1_menMetByBoth {n0 : Nat} {x1 : Int32} {x2 : Int32} {S : ZH} {q : Int32 × ZH} (h : f_X1_menMetByBoth n0 x1 x2 S = some q) : MetX Y_X1_menMetByBoth S [z_r 1 (some n0), z_i x1, z_i x2] (some (z_i q.1)) q.2 := by
  refine MetX.of (lo := [(0, z_r 1 (some n0)), (1, z_i x1), (2, z_i x2)]) rfl (by decide) (Nat.le_of_ble_eq_true rfl) ?_
  unfold f_X1_menMetByBoth at h
  refine x_iload_n 1 dX1_menMetByBoth_0 rfl rfl ?_
  refine x_bipush (v := (24 : Int32)) dX1_menMetByBoth_1 (by decide) ?_
  refine x_ic_eq (tgt := 12) dX1_menMetByBoth_3 (by decide) h (fun h => ?_) (fun h => ?_)
  · exact x_lo [0, 1, 2] rfl (k_X1_menMetByBoth_12 h)
  · refine x_iload_n 2 dX1_menMetByBoth_6 rfl rfl ?_
    refine x_bipush (v := (24 : Int32)) dX1_menMetByBoth_7 (by decide) ?_
    refine x_ic_ne (tgt := 24) dX1_menMetByBoth_9 (by decide) h (fun h => ?_) (fun h => ?_)
    · refine x_iload_n 1 dX1_menMetByBoth_24 rfl rfl ?_
      refine x_iload_n 2 dX1_menMetByBoth_25 rfl rfl ?_
      refine z_bnd h (fun q3 hq3 h => ?_)
      refine x_callS1 (w_J9_min_7cf53 hq3) cw_J9_min_7cf53 q_834 ⟨by decide, by decide⟩ (Nat.le_of_ble_eq_true rfl) dX1_menMetByBoth_26 rfl ?_
      refine x_istore_n (lo' := [(3, z_i q3), (0, z_r 1 (some n0)), (1, z_i x1), (2, z_i x2)]) dX1_menMetByBoth_29 rfl (by decide) rfl ?_
      refine x_iload_n 2 dX1_menMetByBoth_30 rfl rfl ?_
      refine x_iload_n 3 dX1_menMetByBoth_31 rfl rfl ?_
      refine z_bnd h (fun q4 hq4 h => ?_)
      refine x_callS1 (w_J9_max_7cf53 hq4) cw_J9_max_7cf53 q_847 ⟨by decide, by decide⟩ (Nat.le_of_ble_eq_true rfl) dX1_menMetByBoth_32 rfl ?_
      refine x_istore (lo' := [(4, z_i q4), (3, z_i q3), (0, z_r 1 (some n0)), (1, z_i x1), (2, z_i x2)]) dX1_menMetByBoth_35 (by decide) rfl ?_
      refine x_iload 0 dX1_menMetByBoth_37 rfl ?_
      refine x_bipush (v := (8 : Int32)) dX1_menMetByBoth_39 (by decide) ?_
      refine x_idiv dX1_menMetByBoth_41 (by decide) ?_
      refine x_iload_n 1 dX1_menMetByBoth_42 rfl rfl ?_
      refine x_bipush (v := (8 : Int32)) dX1_menMetByBoth_43 (by decide) ?_
      refine x_idiv dX1_menMetByBoth_45 (by decide) ?_
      refine x_isub dX1_menMetByBoth_46 ?_
      refine x_istore (lo' := [(5, z_i ((q4 / (8 : Int32)) - (q3 / (8 : Int32)))), (4, z_i q4), (3, z_i q3), (0, z_r 1 (some n0)), (1, z_i x1), (2, z_i x2)]) dX1_menMetByBoth_47 (by decide) rfl ?_
      refine x_aload_n 3 dX1_menMetByBoth_49 rfl rfl ?_
      refine x_getR rfl ck_1 0 (by decide) rfl q_154 dX1_menMetByBoth_50 ?_
      refine x_iload_n 2 dX1_menMetByBoth_53 rfl rfl ?_
      refine x_bipush (v := (8 : Int32)) dX1_menMetByBoth_54 (by decide) ?_
      refine x_irem dX1_menMetByBoth_56 (by decide) ?_
      refine x_iload 1 dX1_menMetByBoth_57 rfl ?_
      refine x_bipush (v := (8 : Int32)) dX1_menMetByBoth_59 (by decide) ?_
      refine x_irem dX1_menMetByBoth_61 (by decide) ?_
      refine z_bnd h (fun a5 ha5 h => ?_)
      refine z_bnd h (fun q6 hq6 h => ?_)
      refine x_callV1 ha5 (w_X10_hops hq6) cw_X10_hops q_848 ⟨by decide, by decide⟩ (Nat.le_of_ble_eq_true rfl) dX1_menMetByBoth_62 rfl ?_
      refine x_istore (lo' := [(6, z_i q6.1), (5, z_i ((q4 / (8 : Int32)) - (q3 / (8 : Int32)))), (4, z_i q4), (3, z_i q3), (0, z_r 1 (some n0)), (1, z_i x1), (2, z_i x2)]) dX1_menMetByBoth_65 (by decide) rfl ?_
      refine x_iload 0 dX1_menMetByBoth_67 rfl ?_
      refine x_if_eq (tgt := 84) dX1_menMetByBoth_69 (by decide) h (fun h => ?_) (fun h => ?_)
      · exact x_lo [4, 3, 2] rfl (k_X1_menMetByBoth_84 h)
      · refine x_iload 1 dX1_menMetByBoth_72 rfl ?_
        refine x_if_le (tgt := 88) dX1_menMetByBoth_74 (by decide) h (fun h => ?_) (fun h => ?_)
        · exact x_lo [4, 3, 2] rfl (k_X1_menMetByBoth_88 h)
        · refine x_iload 1 dX1_menMetByBoth_77 rfl ?_
          refine x_iload 0 dX1_menMetByBoth_79 rfl ?_
          refine x_ic_lt (tgt := 88) dX1_menMetByBoth_81 (by decide) h (fun h => ?_) (fun h => ?_)
          · exact x_lo [4, 3, 2] rfl (k_X1_menMetByBoth_88 h)
          · exact x_lo [4, 3, 2] rfl (k_X1_menMetByBoth_84 h)
    · exact x_lo [0, 1, 2] rfl (k_X1_menMetByBoth_12 h)
-- PressedMen$Gangs firstMate (III)I
abbrev Y_X1_firstMate : ZM := (yX1_firstMate, cX1_firstMate, 6, (some .int), 4, 94)
theorem cw_X1_firstMate : z_CV Y_X1_firstMate 1 3 := ⟨⟨_, _, rfl⟩, by decide, q_837, q_31, q_838, q_73, ⟨by decide, by decide⟩, rfl⟩
def b_X1_firstMate_30 (n0 : Nat) (x1 : Int32) (x3 : Int32) (v : Int32 × Int32 × ZH) : Option ((Int32 × Int32 × ZH) ⊕ (Int32 × ZH)) :=
  if (24 : Int32) < v.2.1 then (
    some (Sum.inr (v.1, v.2.2))
  ) else (
    ((zR v.2.2 1 n0 2)).bind fun a1 =>
    (zld v.2.2 15 a1 v.2.1).bind fun v2 =>
    if v.1 ≤ v2 then (
      some (Sum.inl (v.1, (v.2.1 + 1), v.2.2))
    ) else (
      (f_X1_menMetByBoth n0 x1 v.2.1 v.2.2).bind fun q3 =>
      if ¬ q3.1 = x3 then (
        some (Sum.inl (v.1, (v.2.1 + 1), q3.2))
      ) else (
        ((zR q3.2 1 n0 2)).bind fun a4 =>
        (zld q3.2 15 a4 v.2.1).bind fun v5 =>
        some (Sum.inl (v5, (v.2.1 + 1), q3.2))
      )
    )
  )
def f_X1_firstMate (n0 : Nat) (x1 : Int32) (x2 : Int32) (x3 : Int32) (S : ZH) : Option (Int32 × ZH) :=
  if ¬ x2 = (1 : Int32) then (
    (z_iter zFU (b_X1_firstMate_30 n0 x1 x3) ((999 : Int32), (0 : Int32), S)).bind fun t6 =>
    some (t6.1, t6.2)
  ) else (
    (f_X1_menMet n0 x1 S).bind fun q7 =>
    if ¬ q7 = x3 then (
      some ((999 : Int32), S)
    ) else (
      some ((0 : Int32), S)
    )
  )
set_option maxRecDepth 20000 in
theorem l_X1_firstMate_30 {S0 : ZH} {F : ZP} {n0 : Nat} {x1 : Int32} {x3 : Int32} {v : Int32 × Int32 × ZH} {t : Int32 × ZH} (h : z_iter zFU (b_X1_firstMate_30 n0 x1 x3) v = some t) (k : (fun t => Wp Y_X1_firstMate S0 F 75 [(4, z_i t.1)] [] t.2) t) : Wp Y_X1_firstMate S0 F 30 [(0, z_r 1 (some n0)), (1, z_i x1), (3, z_i x3), (4, z_i v.1), (5, z_i v.2.1)] [] v.2.2 := by
  refine z_iter_P (P := fun v : Int32 × Int32 × ZH => Wp Y_X1_firstMate S0 F 30 [(0, z_r 1 (some n0)), (1, z_i x1), (3, z_i x3), (4, z_i v.1), (5, z_i v.2.1)] [] v.2.2) (X := (fun t => Wp Y_X1_firstMate S0 F 75 [(4, z_i t.1)] [] t.2)) ?_ _ _ _ h k
  clear h k v t
  intro v r h k
  unfold b_X1_firstMate_30 at h
  refine x_iload 4 dX1_firstMate_30 rfl ?_
  refine x_bipush (v := (24 : Int32)) dX1_firstMate_32 (by decide) ?_
  refine x_ic_gt (tgt := 75) dX1_firstMate_34 (by decide) h (fun h => ?_) (fun h => ?_)
  · cases h
    exact x_lo [3] rfl k
  · refine x_aload_n 0 dX1_firstMate_37 rfl rfl ?_
    refine x_getR rfl ck_1 2 (by decide) rfl q_156 dX1_firstMate_38 ?_
    refine x_iload 4 dX1_firstMate_41 rfl ?_
    refine z_bnd h (fun a1 ha1 h => ?_)
    refine x_iaload ha1 ak_15 dX1_firstMate_43 h (fun v2 hv2 h => ?_)
    refine x_iload 3 dX1_firstMate_44 rfl ?_
    refine x_ic_ge (tgt := 69) dX1_firstMate_46 (by decide) h (fun h => ?_) (fun h => ?_)
    · refine x_iinc (v := (v.2.1 + 1)) (lo' := [(5, z_i (v.2.1 + 1)), (0, z_r 1 (some n0)), (1, z_i x1), (3, z_i x3), (4, z_i v.1)]) 4 dX1_firstMate_69 rfl (congrArg (HAdd.hAdd v.2.1) (by decide)) (by decide) rfl ?_
      refine x_goto (tgt := 30) dX1_firstMate_72 (by decide) ?_
      cases h
      exact x_lo [1, 2, 3, 4, 0] rfl k
    · refine x_aload_n 0 dX1_firstMate_49 rfl rfl ?_
      refine x_iload_n 1 dX1_firstMate_50 rfl rfl ?_
      refine x_iload 4 dX1_firstMate_51 rfl ?_
      refine z_bnd h (fun q3 hq3 h => ?_)
      refine x_callV1 rfl (w_X1_menMetByBoth hq3) cw_X1_menMetByBoth q_843 ⟨by decide, by decide⟩ (Nat.le_of_ble_eq_true rfl) dX1_firstMate_53 rfl ?_
      refine x_iload_n 2 dX1_firstMate_56 rfl rfl ?_
      refine x_ic_ne (tgt := 69) dX1_firstMate_57 (by decide) h (fun h => ?_) (fun h => ?_)
      · refine x_iinc (v := (v.2.1 + 1)) (lo' := [(5, z_i (v.2.1 + 1)), (0, z_r 1 (some n0)), (1, z_i x1), (3, z_i x3), (4, z_i v.1)]) 4 dX1_firstMate_69 rfl (congrArg (HAdd.hAdd v.2.1) (by decide)) (by decide) rfl ?_
        refine x_goto (tgt := 30) dX1_firstMate_72 (by decide) ?_
        cases h
        exact x_lo [1, 2, 3, 4, 0] rfl k
      · refine x_aload_n 0 dX1_firstMate_60 rfl rfl ?_
        refine x_getR rfl ck_1 2 (by decide) rfl q_156 dX1_firstMate_61 ?_
        refine x_iload 4 dX1_firstMate_64 rfl ?_
        refine z_bnd h (fun a4 ha4 h => ?_)
        refine x_iaload ha4 ak_15 dX1_firstMate_66 h (fun v5 hv5 h => ?_)
        refine x_istore (lo' := [(4, z_i v5), (0, z_r 1 (some n0)), (1, z_i x1), (3, z_i x3), (5, z_i v.2.1)]) dX1_firstMate_67 (by decide) rfl ?_
        refine x_iinc (v := (v.2.1 + 1)) (lo' := [(5, z_i (v.2.1 + 1)), (4, z_i v5), (0, z_r 1 (some n0)), (1, z_i x1), (3, z_i x3)]) 4 dX1_firstMate_69 rfl (congrArg (HAdd.hAdd v.2.1) (by decide)) (by decide) rfl ?_
        refine x_goto (tgt := 30) dX1_firstMate_72 (by decide) ?_
        cases h
        exact x_lo [2, 3, 4, 1, 0] rfl k
set_option maxRecDepth 20000 in
set_option maxHeartbeats 1000000 in
theorem w_X1_firstMate {n0 : Nat} {x1 : Int32} {x2 : Int32} {x3 : Int32} {S : ZH} {q : Int32 × ZH} (h : f_X1_firstMate n0 x1 x2 x3 S = some q) : MetX Y_X1_firstMate S [z_r 1 (some n0), z_i x1, z_i x2, z_i x3] (some (z_i q.1)) q.2 := by
  refine MetX.of (lo := [(0, z_r 1 (some n0)), (1, z_i x1), (2, z_i x2), (3, z_i x3)]) rfl (by decide) (Nat.le_of_ble_eq_true rfl) ?_
  unfold f_X1_firstMate at h
  refine x_iload_n 2 dX1_firstMate_0 rfl rfl ?_
  refine x_iconst (v := (1 : Int32)) dX1_firstMate_1 (by decide) ?_
  refine x_ic_ne (tgt := 22) dX1_firstMate_2 (by decide) h (fun h => ?_) (fun h => ?_)
  · refine x_sipush (v := (999 : Int32)) dX1_firstMate_22 (by decide) ?_
    refine x_istore (lo' := [(4, z_i (999 : Int32)), (0, z_r 1 (some n0)), (1, z_i x1), (2, z_i x2), (3, z_i x3)]) dX1_firstMate_25 (by decide) rfl ?_
    refine x_iconst (v := (0 : Int32)) dX1_firstMate_27 (by decide) ?_
    refine x_istore (lo' := [(5, z_i (0 : Int32)), (4, z_i (999 : Int32)), (0, z_r 1 (some n0)), (1, z_i x1), (2, z_i x2), (3, z_i x3)]) dX1_firstMate_28 (by decide) rfl ?_
    refine z_bnd h (fun t6 ht6 h => ?_)
    refine x_lo [2, 3, 5, 1, 0] rfl ?_
    refine l_X1_firstMate_30 ht6 ?_
    refine x_iload 0 dX1_firstMate_75 rfl ?_
    exact x_iretE rfl dX1_firstMate_77 h
  · refine x_aload_n 0 dX1_firstMate_5 rfl rfl ?_
    refine x_iload_n 1 dX1_firstMate_6 rfl rfl ?_
    refine z_bnd h (fun q7 hq7 h => ?_)
    refine x_callV1 rfl (w_X1_menMet hq7) cw_X1_menMet q_839 ⟨by decide, by decide⟩ (Nat.le_of_ble_eq_true rfl) dX1_firstMate_7 rfl ?_
    refine x_iload_n 3 dX1_firstMate_10 rfl rfl ?_
    refine x_ic_ne (tgt := 18) dX1_firstMate_11 (by decide) h (fun h => ?_) (fun h => ?_)
    · refine x_sipush (v := (999 : Int32)) dX1_firstMate_18 (by decide) ?_
      exact x_iretE rfl dX1_firstMate_21 h
    · refine x_iconst (v := (0 : Int32)) dX1_firstMate_14 (by decide) ?_
      refine x_goto (tgt := 21) dX1_firstMate_15 (by decide) ?_
      exact x_iretE rfl dX1_firstMate_21 h
-- PressedMen$Gangs lay (II)V
abbrev Y_X1_lay : ZM := (yX1_lay, cX1_lay, 8, none, 5, 119)
theorem cw_X1_lay : z_CV Y_X1_lay 1 2 := ⟨⟨_, _, rfl⟩, by decide, q_810, q_811, q_812, q_73, ⟨by decide, by decide⟩, rfl⟩
def j_X1_lay_57 (n0 : Nat) (x1 : Int32) (x2 : Int32) (x3 : Int32) (x4 : Int32) (x5 : Int32) (x6 : Int32) (s0 : Int32) (S : ZH) : Option ((Int32 × Int32 × Int32 × ZH) ⊕ (Int32 × Int32 × ZH)) :=
  if (999 : Int32) ≤ s0 then (
    some (Sum.inl (x4, x5, (x6 + 1), S))
  ) else (
    ((zR S 1 n0 2)).bind fun a5 =>
    (zld S 15 a5 x6).bind fun v6 =>
    some (Sum.inl (v6, s0, (x6 + 1), S))
  )
def b_X1_lay_24 (n0 : Nat) (x1 : Int32) (x2 : Int32) (x3 : Int32) (v : Int32 × Int32 × Int32 × ZH) : Option ((Int32 × Int32 × Int32 × ZH) ⊕ (Int32 × Int32 × ZH)) :=
  if (24 : Int32) < v.2.2.1 then (
    some (Sum.inr (v.1, v.2.1, v.2.2.2))
  ) else (
    ((zR v.2.2.2 1 n0 2)).bind fun a3 =>
    (zld v.2.2.2 15 a3 v.2.2.1).bind fun v4 =>
    if v.1 ≤ v4 then (
      j_X1_lay_57 n0 x1 x2 x3 v.1 v.2.1 v.2.2.1 (999 : Int32) v.2.2.2
    ) else (
      (f_X1_firstMate n0 v.2.2.1 x1 x3 v.2.2.2).bind fun q7 =>
      j_X1_lay_57 n0 x1 x2 x3 v.1 v.2.1 v.2.2.1 q7.1 q7.2
    )
  )
def f_X1_lay (n0 : Nat) (x1 : Int32) (x2 : Int32) (S : ZH) : Option (ZH) :=
  (f_X1_mostMet n0 x1 S).bind fun q1 =>
  (f_X1_findFirstWalks n0 x2 S).bind fun q2 =>
  (z_iter zFU (b_X1_lay_24 n0 x1 x2 q1) ((999 : Int32), (999 : Int32), (0 : Int32), q2)).bind fun t8 =>
  (f_X1_walkOut n0 (0 : Int32) t8.1 x2 t8.2.2).bind fun q9 =>
  (f_X1_walkOut n0 (1 : Int32) t8.2.1 x2 q9.2).bind fun q10 =>
  some q10.2
set_option maxRecDepth 20000 in
theorem k_X1_lay_57 {S0 : ZH} {F : ZP} {n0 : Nat} {x1 : Int32} {x2 : Int32} {x3 : Int32} {x4 : Int32} {x5 : Int32} {x6 : Int32} {s0 : Int32}  {S : ZH} {z : (Int32 × Int32 × Int32 × ZH) ⊕ (Int32 × Int32 × ZH)} (h : j_X1_lay_57 n0 x1 x2 x3 x4 x5 x6 s0 S = some z) (k : Sum.elim (fun v : Int32 × Int32 × Int32 × ZH => Wp Y_X1_lay S0 F 24 [(0, z_r 1 (some n0)), (1, z_i x1), (2, z_i x2), (3, z_i x3), (4, z_i v.1), (5, z_i v.2.1), (6, z_i v.2.2.1)] [] v.2.2.2) (fun t => Wp Y_X1_lay S0 F 86 [(0, z_r 1 (some n0)), (2, z_i x2), (4, z_i t.1), (5, z_i t.2.1)] [] t.2.2) z) : Wp Y_X1_lay S0 (F) 57 [(0, z_r 1 (some n0)), (1, z_i x1), (2, z_i x2), (3, z_i x3), (4, z_i x4), (5, z_i x5), (6, z_i x6)] [z_i s0] S := by
  unfold j_X1_lay_57 at h
  refine x_istore (lo' := [(7, z_i s0), (0, z_r 1 (some n0)), (1, z_i x1), (2, z_i x2), (3, z_i x3), (4, z_i x4), (5, z_i x5), (6, z_i x6)]) dX1_lay_57 (by decide) rfl ?_
  refine x_iload 0 dX1_lay_59 rfl ?_
  refine x_sipush (v := (999 : Int32)) dX1_lay_61 (by decide) ?_
  refine x_ic_ge (tgt := 80) dX1_lay_64 (by decide) h (fun h => ?_) (fun h => ?_)
  · refine x_iinc (v := (x6 + 1)) (lo' := [(6, z_i (x6 + 1)), (7, z_i s0), (0, z_r 1 (some n0)), (1, z_i x1), (2, z_i x2), (3, z_i x3), (4, z_i x4), (5, z_i x5)]) 7 dX1_lay_80 rfl (congrArg (HAdd.hAdd x6) (by decide)) (by decide) rfl ?_
    refine x_goto (tgt := 24) dX1_lay_83 (by decide) ?_
    cases h
    exact x_lo [2, 3, 4, 5, 6, 7, 0] rfl k
  · refine x_aload_n 1 dX1_lay_67 rfl rfl ?_
    refine x_getR rfl ck_1 2 (by decide) rfl q_156 dX1_lay_68 ?_
    refine x_iload 7 dX1_lay_71 rfl ?_
    refine z_bnd h (fun a5 ha5 h => ?_)
    refine x_iaload ha5 ak_15 dX1_lay_73 h (fun v6 hv6 h => ?_)
    refine x_istore (lo' := [(4, z_i v6), (7, z_i s0), (0, z_r 1 (some n0)), (1, z_i x1), (2, z_i x2), (3, z_i x3), (5, z_i x5), (6, z_i x6)]) dX1_lay_74 (by decide) rfl ?_
    refine x_iload 1 dX1_lay_76 rfl ?_
    refine x_istore (lo' := [(5, z_i s0), (4, z_i v6), (7, z_i s0), (0, z_r 1 (some n0)), (1, z_i x1), (2, z_i x2), (3, z_i x3), (6, z_i x6)]) dX1_lay_78 (by decide) rfl ?_
    refine x_iinc (v := (x6 + 1)) (lo' := [(6, z_i (x6 + 1)), (5, z_i s0), (4, z_i v6), (7, z_i s0), (0, z_r 1 (some n0)), (1, z_i x1), (2, z_i x2), (3, z_i x3)]) 7 dX1_lay_80 rfl (congrArg (HAdd.hAdd x6) (by decide)) (by decide) rfl ?_
    refine x_goto (tgt := 24) dX1_lay_83 (by decide) ?_
    cases h
    exact x_lo [4, 5, 6, 7, 2, 1, 0] rfl k
set_option maxRecDepth 20000 in
theorem l_X1_lay_24 {S0 : ZH} {F : ZP} {n0 : Nat} {x1 : Int32} {x2 : Int32} {x3 : Int32} {v : Int32 × Int32 × Int32 × ZH} {t : Int32 × Int32 × ZH} (h : z_iter zFU (b_X1_lay_24 n0 x1 x2 x3) v = some t) (k : (fun t => Wp Y_X1_lay S0 F 86 [(0, z_r 1 (some n0)), (2, z_i x2), (4, z_i t.1), (5, z_i t.2.1)] [] t.2.2) t) : Wp Y_X1_lay S0 F 24 [(0, z_r 1 (some n0)), (1, z_i x1), (2, z_i x2), (3, z_i x3), (4, z_i v.1), (5, z_i v.2.1), (6, z_i v.2.2.1)] [] v.2.2.2 := by
  refine z_iter_P (P := fun v : Int32 × Int32 × Int32 × ZH => Wp Y_X1_lay S0 F 24 [(0, z_r 1 (some n0)), (1, z_i x1), (2, z_i x2), (3, z_i x3), (4, z_i v.1), (5, z_i v.2.1), (6, z_i v.2.2.1)] [] v.2.2.2) (X := (fun t => Wp Y_X1_lay S0 F 86 [(0, z_r 1 (some n0)), (2, z_i x2), (4, z_i t.1), (5, z_i t.2.1)] [] t.2.2)) ?_ _ _ _ h k
  clear h k v t
  intro v r h k
  unfold b_X1_lay_24 at h
  refine x_iload 6 dX1_lay_24 rfl ?_
  refine x_bipush (v := (24 : Int32)) dX1_lay_26 (by decide) ?_
  refine x_ic_gt (tgt := 86) dX1_lay_28 (by decide) h (fun h => ?_) (fun h => ?_)
  · cases h
    exact x_lo [0, 2, 4, 5] rfl k
  · refine x_aload_n 0 dX1_lay_31 rfl rfl ?_
    refine x_getR rfl ck_1 2 (by decide) rfl q_156 dX1_lay_32 ?_
    refine x_iload 6 dX1_lay_35 rfl ?_
    refine z_bnd h (fun a3 ha3 h => ?_)
    refine x_iaload ha3 ak_15 dX1_lay_37 h (fun v4 hv4 h => ?_)
    refine x_iload 4 dX1_lay_38 rfl ?_
    refine x_ic_ge (tgt := 54) dX1_lay_40 (by decide) h (fun h => ?_) (fun h => ?_)
    · refine x_sipush (v := (999 : Int32)) dX1_lay_54 (by decide) ?_
      exact x_lo [0, 1, 2, 3, 4, 5, 6] rfl (k_X1_lay_57 h k)
    · refine x_aload_n 0 dX1_lay_43 rfl rfl ?_
      refine x_iload 6 dX1_lay_44 rfl ?_
      refine x_iload_n 1 dX1_lay_46 rfl rfl ?_
      refine x_iload_n 3 dX1_lay_47 rfl rfl ?_
      refine z_bnd h (fun q7 hq7 h => ?_)
      refine x_callV1 rfl (w_X1_firstMate hq7) cw_X1_firstMate q_835 ⟨by decide, by decide⟩ (Nat.le_of_ble_eq_true rfl) dX1_lay_48 rfl ?_
      refine x_goto (tgt := 57) dX1_lay_51 (by decide) ?_
      exact x_lo [0, 1, 2, 3, 4, 5, 6] rfl (k_X1_lay_57 h k)
set_option maxRecDepth 20000 in
set_option maxHeartbeats 1000000 in
theorem w_X1_lay {n0 : Nat} {x1 : Int32} {x2 : Int32} {S : ZH} {q : ZH} (h : f_X1_lay n0 x1 x2 S = some q) : MetX Y_X1_lay S [z_r 1 (some n0), z_i x1, z_i x2] none q := by
  refine MetX.of (lo := [(0, z_r 1 (some n0)), (1, z_i x1), (2, z_i x2)]) rfl (by decide) (Nat.le_of_ble_eq_true rfl) ?_
  unfold f_X1_lay at h
  refine x_aload_n 0 dX1_lay_0 rfl rfl ?_
  refine x_iload_n 1 dX1_lay_1 rfl rfl ?_
  refine z_bnd h (fun q1 hq1 h => ?_)
  refine x_callV1 rfl (w_X1_mostMet hq1) cw_X1_mostMet q_813 ⟨by decide, by decide⟩ (Nat.le_of_ble_eq_true rfl) dX1_lay_2 rfl ?_
  refine x_istore_n (lo' := [(3, z_i q1), (0, z_r 1 (some n0)), (1, z_i x1), (2, z_i x2)]) dX1_lay_5 rfl (by decide) rfl ?_
  refine x_aload_n 1 dX1_lay_6 rfl rfl ?_
  refine x_iload_n 3 dX1_lay_7 rfl rfl ?_
  refine z_bnd h (fun q2 hq2 h => ?_)
  refine x_callVv rfl (w_X1_findFirstWalks hq2) cw_X1_findFirstWalks q_814 ⟨by decide, by decide⟩ (Nat.le_of_ble_eq_true rfl) dX1_lay_8 rfl ?_
  refine x_sipush (v := (999 : Int32)) dX1_lay_11 (by decide) ?_
  refine x_istore (lo' := [(4, z_i (999 : Int32)), (3, z_i q1), (0, z_r 1 (some n0)), (1, z_i x1), (2, z_i x2)]) dX1_lay_14 (by decide) rfl ?_
  refine x_sipush (v := (999 : Int32)) dX1_lay_16 (by decide) ?_
  refine x_istore (lo' := [(5, z_i (999 : Int32)), (4, z_i (999 : Int32)), (3, z_i q1), (0, z_r 1 (some n0)), (1, z_i x1), (2, z_i x2)]) dX1_lay_19 (by decide) rfl ?_
  refine x_iconst (v := (0 : Int32)) dX1_lay_21 (by decide) ?_
  refine x_istore (lo' := [(6, z_i (0 : Int32)), (5, z_i (999 : Int32)), (4, z_i (999 : Int32)), (3, z_i q1), (0, z_r 1 (some n0)), (1, z_i x1), (2, z_i x2)]) dX1_lay_22 (by decide) rfl ?_
  refine z_bnd h (fun t8 ht8 h => ?_)
  refine x_lo [4, 5, 6, 3, 2, 1, 0] rfl ?_
  refine l_X1_lay_24 ht8 ?_
  refine x_aload_n 0 dX1_lay_86 rfl rfl ?_
  refine x_iconst (v := (0 : Int32)) dX1_lay_87 (by decide) ?_
  refine x_iload 2 dX1_lay_88 rfl ?_
  refine x_iload_n 1 dX1_lay_90 rfl rfl ?_
  refine z_bnd h (fun q9 hq9 h => ?_)
  refine x_callV1 rfl (w_X1_walkOut hq9) cw_X1_walkOut q_818 ⟨by decide, by decide⟩ (Nat.le_of_ble_eq_true rfl) dX1_lay_91 rfl ?_
  refine x_pop dX1_lay_94 rfl ?_
  refine x_aload_n 0 dX1_lay_95 rfl rfl ?_
  refine x_iconst (v := (1 : Int32)) dX1_lay_96 (by decide) ?_
  refine x_iload 3 dX1_lay_97 rfl ?_
  refine x_iload_n 1 dX1_lay_99 rfl rfl ?_
  refine z_bnd h (fun q10 hq10 h => ?_)
  refine x_callV1 rfl (w_X1_walkOut hq10) cw_X1_walkOut q_818 ⟨by decide, by decide⟩ (Nat.le_of_ble_eq_true rfl) dX1_lay_100 rfl ?_
  refine x_pop dX1_lay_103 rfl ?_
  exact x_vretE rfl dX1_lay_104 h
-- PressedMen laid (IIII)I
abbrev Y_X11_laid : ZM := (yX11_laid, cX11_laid, 5, (some .int), 7, 155)
theorem cw_X11_laid : z_CV Y_X11_laid 11 4 := ⟨⟨_, _, rfl⟩, by decide, q_806, q_807, q_808, q_70, ⟨by decide, by decide⟩, rfl⟩
def f_X11_laid (n0 : Nat) (x1 : Int32) (x2 : Int32) (x3 : Int32) (x4 : Int32) (S : ZH) : Option (Int32 × ZH) :=
  (f_X11_within x1 (1 : Int32) (2 : Int32) S).bind fun q1 =>
  if q1 = 0 then (
    some ((-2 : Int32), S)
  ) else (
    (f_X11_within x2 (1 : Int32) (3 : Int32) S).bind fun q2 =>
    if q2 = 0 then (
      some ((-2 : Int32), S)
    ) else (
      (f_X11_within x3 (0 : Int32) (x1 - (1 : Int32)) S).bind fun q3 =>
      if q3 = 0 then (
        some ((-2 : Int32), S)
      ) else (
        (f_X11_within x4 (0 : Int32) (x2 - (1 : Int32)) S).bind fun q4 =>
        if ¬ q4 = 0 then (
          (f_X11_countTheTakeable n0 S).bind fun q5 =>
          ((zR q5 11 n0 14)).bind fun a6 =>
          (f_X1_lay a6 x1 x2 q5).bind fun q7 =>
          ((zR q7 11 n0 14)).bind fun a8 =>
          (f_X1_streetOf a8 x3 x4 q7).bind fun q9 =>
          some (q9, q7)
        ) else (
          some ((-2 : Int32), S)
        )
      )
    )
  )
set_option maxRecDepth 20000 in
set_option maxHeartbeats 1000000 in
theorem w_X11_laid {n0 : Nat} {x1 : Int32} {x2 : Int32} {x3 : Int32} {x4 : Int32} {S : ZH} {q : Int32 × ZH} (h : f_X11_laid n0 x1 x2 x3 x4 S = some q) : MetX Y_X11_laid S [z_r 11 (some n0), z_i x1, z_i x2, z_i x3, z_i x4] (some (z_i q.1)) q.2 := by
  refine MetX.of (lo := [(0, z_r 11 (some n0)), (1, z_i x1), (2, z_i x2), (3, z_i x3), (4, z_i x4)]) rfl (by decide) (Nat.le_of_ble_eq_true rfl) ?_
  unfold f_X11_laid at h
  refine x_iload_n 1 dX11_laid_0 rfl rfl ?_
  refine x_iconst (v := (1 : Int32)) dX11_laid_1 (by decide) ?_
  refine x_iconst (v := (2 : Int32)) dX11_laid_2 (by decide) ?_
  refine z_bnd h (fun q1 hq1 h => ?_)
  refine x_callS1 (w_X11_within hq1) cw_X11_within q_252 ⟨by decide, by decide⟩ (Nat.le_of_ble_eq_true rfl) dX11_laid_3 rfl ?_
  refine x_if_eq (tgt := 41) dX11_laid_6 (by decide) h (fun h => ?_) (fun h => ?_)
  · refine x_bipush (v := (-2 : Int32)) dX11_laid_41 (by decide) ?_
    exact x_iretE rfl dX11_laid_43 h
  · refine x_iload_n 2 dX11_laid_9 rfl rfl ?_
    refine x_iconst (v := (1 : Int32)) dX11_laid_10 (by decide) ?_
    refine x_iconst (v := (3 : Int32)) dX11_laid_11 (by decide) ?_
    refine z_bnd h (fun q2 hq2 h => ?_)
    refine x_callS1 (w_X11_within hq2) cw_X11_within q_252 ⟨by decide, by decide⟩ (Nat.le_of_ble_eq_true rfl) dX11_laid_12 rfl ?_
    refine x_if_eq (tgt := 41) dX11_laid_15 (by decide) h (fun h => ?_) (fun h => ?_)
    · refine x_bipush (v := (-2 : Int32)) dX11_laid_41 (by decide) ?_
      exact x_iretE rfl dX11_laid_43 h
    · refine x_iload_n 3 dX11_laid_18 rfl rfl ?_
      refine x_iconst (v := (0 : Int32)) dX11_laid_19 (by decide) ?_
      refine x_iload_n 1 dX11_laid_20 rfl rfl ?_
      refine x_iconst (v := (1 : Int32)) dX11_laid_21 (by decide) ?_
      refine x_isub dX11_laid_22 ?_
      refine z_bnd h (fun q3 hq3 h => ?_)
      refine x_callS1 (w_X11_within hq3) cw_X11_within q_252 ⟨by decide, by decide⟩ (Nat.le_of_ble_eq_true rfl) dX11_laid_23 rfl ?_
      refine x_if_eq (tgt := 41) dX11_laid_26 (by decide) h (fun h => ?_) (fun h => ?_)
      · refine x_bipush (v := (-2 : Int32)) dX11_laid_41 (by decide) ?_
        exact x_iretE rfl dX11_laid_43 h
      · refine x_iload 4 dX11_laid_29 rfl ?_
        refine x_iconst (v := (0 : Int32)) dX11_laid_31 (by decide) ?_
        refine x_iload_n 2 dX11_laid_32 rfl rfl ?_
        refine x_iconst (v := (1 : Int32)) dX11_laid_33 (by decide) ?_
        refine x_isub dX11_laid_34 ?_
        refine z_bnd h (fun q4 hq4 h => ?_)
        refine x_callS1 (w_X11_within hq4) cw_X11_within q_252 ⟨by decide, by decide⟩ (Nat.le_of_ble_eq_true rfl) dX11_laid_35 rfl ?_
        refine x_if_ne (tgt := 44) dX11_laid_38 (by decide) h (fun h => ?_) (fun h => ?_)
        · refine x_aload_n 0 dX11_laid_44 rfl rfl ?_
          refine z_bnd h (fun q5 hq5 h => ?_)
          refine x_callVv rfl (w_X11_countTheTakeable hq5) cw_X11_countTheTakeable q_787 ⟨by decide, by decide⟩ (Nat.le_of_ble_eq_true rfl) dX11_laid_45 rfl ?_
          refine x_aload_n 0 dX11_laid_48 rfl rfl ?_
          refine x_getR rfl ck_11 14 (by decide) rfl q_204 dX11_laid_49 ?_
          refine x_iload_n 1 dX11_laid_52 rfl rfl ?_
          refine x_iload_n 2 dX11_laid_53 rfl rfl ?_
          refine z_bnd h (fun a6 ha6 h => ?_)
          refine z_bnd h (fun q7 hq7 h => ?_)
          refine x_callVv ha6 (w_X1_lay hq7) cw_X1_lay q_809 ⟨by decide, by decide⟩ (Nat.le_of_ble_eq_true rfl) dX11_laid_54 rfl ?_
          refine x_aload_n 0 dX11_laid_57 rfl rfl ?_
          refine x_getR rfl ck_11 14 (by decide) rfl q_204 dX11_laid_58 ?_
          refine x_iload_n 3 dX11_laid_61 rfl rfl ?_
          refine x_iload 4 dX11_laid_62 rfl ?_
          refine z_bnd h (fun a8 ha8 h => ?_)
          refine z_bnd h (fun q9 hq9 h => ?_)
          refine x_callV1 ha8 (w_X1_streetOf hq9) cw_X1_streetOf q_849 ⟨by decide, by decide⟩ (Nat.le_of_ble_eq_true rfl) dX11_laid_64 rfl ?_
          exact x_iretE rfl dX11_laid_67 h
        · refine x_bipush (v := (-2 : Int32)) dX11_laid_41 (by decide) ?_
          exact x_iretE rfl dX11_laid_43 h
-- PressedMen$Ship <init> (IIII)V
abbrev Y_X6_init : ZM := (yX6_init, cX6_init, 5, none, 1, 20)
theorem cw_X6_init : z_CI Y_X6_init 4 := ⟨rfl, rfl, q_856, q_857, q_85, ⟨by decide, by decide⟩, rfl⟩
def f_X6_init (n0 : Nat) (x1 : Int32) (x2 : Int32) (x3 : Int32) (x4 : Int32) (S : ZH) : Option (ZH) :=
  some (zsI (zsI (zsI (zsI (zsI S 6 n0 4 (1 : Int32)) 6 n0 0 x1) 6 n0 1 x2) 6 n0 2 x3) 6 n0 3 x4)
set_option maxRecDepth 20000 in
set_option maxHeartbeats 1000000 in
theorem w_X6_init {n0 : Nat} {x1 : Int32} {x2 : Int32} {x3 : Int32} {x4 : Int32} {S : ZH} {q : ZH} (h : f_X6_init n0 x1 x2 x3 x4 S = some q) : MetX Y_X6_init S [z_r 6 (some n0), z_i x1, z_i x2, z_i x3, z_i x4] none q := by
  refine MetX.of (lo := [(0, z_r 6 (some n0)), (1, z_i x1), (2, z_i x2), (3, z_i x3), (4, z_i x4)]) rfl (by decide) (Nat.le_of_ble_eq_true rfl) ?_
  unfold f_X6_init at h
  refine x_aload_n 0 dX6_init_0 rfl rfl ?_
  refine x_objInit rfl q_858 q_94 q_95 ⟨by decide, by decide⟩ (Nat.le_of_ble_eq_true rfl) dX6_init_1 ?_
  refine x_aload_n 0 dX6_init_4 rfl rfl ?_
  refine x_iconst (v := (1 : Int32)) dX6_init_5 (by decide) ?_
  refine x_putI rfl ck_6 4 (by decide) rfl (Or.inl rfl) (by decide) rfl q_867 dX6_init_6 ?_
  refine x_aload_n 0 dX6_init_9 rfl rfl ?_
  refine x_iload_n 1 dX6_init_10 rfl rfl ?_
  refine x_putI rfl ck_6 0 (by decide) rfl (Or.inr ⟨rfl, rfl, rfl⟩) (by rfl) rfl q_859 dX6_init_11 ?_
  refine x_aload_n 0 dX6_init_14 rfl rfl ?_
  refine x_iload_n 2 dX6_init_15 rfl rfl ?_
  refine x_putI rfl ck_6 1 (by decide) rfl (Or.inr ⟨rfl, rfl, rfl⟩) (by rfl) rfl q_861 dX6_init_16 ?_
  refine x_aload_n 0 dX6_init_19 rfl rfl ?_
  refine x_iload_n 3 dX6_init_20 rfl rfl ?_
  refine x_putI rfl ck_6 2 (by decide) rfl (Or.inr ⟨rfl, rfl, rfl⟩) (by rfl) rfl q_863 dX6_init_21 ?_
  refine x_aload_n 0 dX6_init_24 rfl rfl ?_
  refine x_iload 4 dX6_init_25 rfl ?_
  refine x_putI rfl ck_6 3 (by decide) rfl (Or.inr ⟨rfl, rfl, rfl⟩) (by rfl) rfl q_865 dX6_init_27 ?_
  exact x_vretE rfl dX6_init_30 h
-- PressedMen ship (IIII)I
abbrev Y_X11_ship : ZM := (yX11_ship, cX11_ship, 5, (some .int), 2, 44)
theorem cw_X11_ship : z_CV Y_X11_ship 11 4 := ⟨⟨_, _, rfl⟩, by decide, q_851, q_852, q_853, q_70, ⟨by decide, by decide⟩, rfl⟩
def f_X11_ship (n0 : Nat) (x1 : Int32) (x2 : Int32) (x3 : Int32) (x4 : Int32) (S : ZH) : Option (Int32 × ZH) :=
  (f_X11_within x1 (0 : Int32) (1 : Int32) S).bind fun q1 =>
  if q1 = 0 then (
    some ((-2 : Int32), S)
  ) else (
    (f_X11_within x2 (1 : Int32) (20 : Int32) S).bind fun q2 =>
    if q2 = 0 then (
      some ((-2 : Int32), S)
    ) else (
      (f_X11_within x3 (0 : Int32) x2 S).bind fun q3 =>
      if q3 = 0 then (
        some ((-2 : Int32), S)
      ) else (
        (f_X11_within x4 (0 : Int32) (20 : Int32) S).bind fun q4 =>
        if ¬ q4 = 0 then (
          if (zI S 11 n0 9) < (10 : Int32) then (
            (zal S 6 5).bind fun S5 =>
            (f_X6_init (zN S 6) x1 x2 x3 x4 S5).bind fun q6 =>
            ((zR S 11 n0 8)).bind fun a7 =>
            (zstR q6 25 a7 (zI S 11 n0 9) (some (zN S 6))).bind fun S8 =>
            some (((zI (zsI S8 11 n0 9 ((zI S8 11 n0 9) + (1 : Int32))) 11 n0 9) - (1 : Int32)), (zsI S8 11 n0 9 ((zI S8 11 n0 9) + (1 : Int32))))
          ) else (
            some ((-4 : Int32), S)
          )
        ) else (
          some ((-2 : Int32), S)
        )
      )
    )
  )
set_option maxRecDepth 20000 in
set_option maxHeartbeats 1000000 in
theorem w_X11_ship {n0 : Nat} {x1 : Int32} {x2 : Int32} {x3 : Int32} {x4 : Int32} {S : ZH} {q : Int32 × ZH} (h : f_X11_ship n0 x1 x2 x3 x4 S = some q) : MetX Y_X11_ship S [z_r 11 (some n0), z_i x1, z_i x2, z_i x3, z_i x4] (some (z_i q.1)) q.2 := by
  refine MetX.of (lo := [(0, z_r 11 (some n0)), (1, z_i x1), (2, z_i x2), (3, z_i x3), (4, z_i x4)]) rfl (by decide) (Nat.le_of_ble_eq_true rfl) ?_
  unfold f_X11_ship at h
  refine x_iload_n 1 dX11_ship_0 rfl rfl ?_
  refine x_iconst (v := (0 : Int32)) dX11_ship_1 (by decide) ?_
  refine x_iconst (v := (1 : Int32)) dX11_ship_2 (by decide) ?_
  refine z_bnd h (fun q1 hq1 h => ?_)
  refine x_callS1 (w_X11_within hq1) cw_X11_within q_252 ⟨by decide, by decide⟩ (Nat.le_of_ble_eq_true rfl) dX11_ship_3 rfl ?_
  refine x_if_eq (tgt := 39) dX11_ship_6 (by decide) h (fun h => ?_) (fun h => ?_)
  · refine x_bipush (v := (-2 : Int32)) dX11_ship_39 (by decide) ?_
    exact x_iretE rfl dX11_ship_41 h
  · refine x_iload_n 2 dX11_ship_9 rfl rfl ?_
    refine x_iconst (v := (1 : Int32)) dX11_ship_10 (by decide) ?_
    refine x_bipush (v := (20 : Int32)) dX11_ship_11 (by decide) ?_
    refine z_bnd h (fun q2 hq2 h => ?_)
    refine x_callS1 (w_X11_within hq2) cw_X11_within q_252 ⟨by decide, by decide⟩ (Nat.le_of_ble_eq_true rfl) dX11_ship_13 rfl ?_
    refine x_if_eq (tgt := 39) dX11_ship_16 (by decide) h (fun h => ?_) (fun h => ?_)
    · refine x_bipush (v := (-2 : Int32)) dX11_ship_39 (by decide) ?_
      exact x_iretE rfl dX11_ship_41 h
    · refine x_iload_n 3 dX11_ship_19 rfl rfl ?_
      refine x_iconst (v := (0 : Int32)) dX11_ship_20 (by decide) ?_
      refine x_iload_n 2 dX11_ship_21 rfl rfl ?_
      refine z_bnd h (fun q3 hq3 h => ?_)
      refine x_callS1 (w_X11_within hq3) cw_X11_within q_252 ⟨by decide, by decide⟩ (Nat.le_of_ble_eq_true rfl) dX11_ship_22 rfl ?_
      refine x_if_eq (tgt := 39) dX11_ship_25 (by decide) h (fun h => ?_) (fun h => ?_)
      · refine x_bipush (v := (-2 : Int32)) dX11_ship_39 (by decide) ?_
        exact x_iretE rfl dX11_ship_41 h
      · refine x_iload 4 dX11_ship_28 rfl ?_
        refine x_iconst (v := (0 : Int32)) dX11_ship_30 (by decide) ?_
        refine x_bipush (v := (20 : Int32)) dX11_ship_31 (by decide) ?_
        refine z_bnd h (fun q4 hq4 h => ?_)
        refine x_callS1 (w_X11_within hq4) cw_X11_within q_252 ⟨by decide, by decide⟩ (Nat.le_of_ble_eq_true rfl) dX11_ship_33 rfl ?_
        refine x_if_ne (tgt := 42) dX11_ship_36 (by decide) h (fun h => ?_) (fun h => ?_)
        · refine x_aload_n 0 dX11_ship_42 rfl rfl ?_
          refine x_getI rfl ck_11 9 (by decide) rfl q_199 dX11_ship_43 ?_
          refine x_bipush (v := (10 : Int32)) dX11_ship_46 (by decide) ?_
          refine x_ic_lt (tgt := 54) dX11_ship_48 (by decide) h (fun h => ?_) (fun h => ?_)
          · refine x_aload_n 0 dX11_ship_54 rfl rfl ?_
            refine x_getR rfl ck_11 8 (by decide) rfl q_198 dX11_ship_55 ?_
            refine x_aload_n 0 dX11_ship_58 rfl rfl ?_
            refine x_getI rfl ck_11 9 (by decide) rfl q_199 dX11_ship_59 ?_
            refine x_new ck_6 q_144 dX11_ship_62 h (fun S5 hS5 h => ?_)
            refine x_dup dX11_ship_65 rfl ?_
            refine x_iload_n 1 dX11_ship_66 rfl rfl ?_
            refine x_iload_n 2 dX11_ship_67 rfl rfl ?_
            refine x_iload_n 3 dX11_ship_68 rfl rfl ?_
            refine x_iload 4 dX11_ship_69 rfl ?_
            refine z_bnd h (fun q6 hq6 h => ?_)
            refine x_callIv rfl (w_X6_init hq6) cw_X6_init q_855 ⟨by decide, by decide⟩ (Nat.le_of_ble_eq_true rfl) dX11_ship_71 rfl ?_
            refine z_bnd h (fun a7 ha7 h => ?_)
            refine x_aastore ha7 ak_25 dX11_ship_74 h (fun S8 hS8 h => ?_)
            refine x_aload_n 0 dX11_ship_75 rfl rfl ?_
            refine x_dup dX11_ship_76 rfl ?_
            refine x_getI rfl ck_11 9 (by decide) rfl q_199 dX11_ship_77 ?_
            refine x_iconst (v := (1 : Int32)) dX11_ship_80 (by decide) ?_
            refine x_iadd dX11_ship_81 ?_
            refine x_putI rfl ck_11 9 (by decide) rfl (Or.inl rfl) (by rfl) rfl q_199 dX11_ship_82 ?_
            refine x_aload_n 0 dX11_ship_85 rfl rfl ?_
            refine x_getI rfl ck_11 9 (by decide) rfl q_199 dX11_ship_86 ?_
            refine x_iconst (v := (1 : Int32)) dX11_ship_89 (by decide) ?_
            refine x_isub dX11_ship_90 ?_
            exact x_iretE rfl dX11_ship_91 h
          · refine x_bipush (v := (-4 : Int32)) dX11_ship_51 (by decide) ?_
            exact x_iretE rfl dX11_ship_53 h
        · refine x_bipush (v := (-2 : Int32)) dX11_ship_39 (by decide) ?_
          exact x_iretE rfl dX11_ship_41 h
-- PressedMen$Man isSeaman ()Z
abbrev Y_X3_isSeaman : ZM := (yX3_isSeaman, cX3_isSeaman, 1, (some .boolean), 0, 0)
theorem cw_X3_isSeaman : z_CV Y_X3_isSeaman 3 0 := ⟨⟨_, _, rfl⟩, by decide, q_889, q_890, q_891, q_78, ⟨by decide, by decide⟩, rfl⟩
def f_X3_isSeaman (n0 : Nat) (S : ZH) : Option (Int32) :=
  if (zI S 3 n0 5) < (3 : Int32) then (
    some (0 : Int32)
  ) else (
    some (1 : Int32)
  )
set_option maxRecDepth 20000 in
set_option maxHeartbeats 1000000 in
theorem w_X3_isSeaman {n0 : Nat} {S : ZH} {q : Int32} (h : f_X3_isSeaman n0 S = some q) : MetX Y_X3_isSeaman S [z_r 3 (some n0)] (some (z_i q)) S := by
  refine MetX.of (lo := [(0, z_r 3 (some n0))]) rfl (by decide) (Nat.le_of_ble_eq_true rfl) ?_
  unfold f_X3_isSeaman at h
  refine x_aload_n 0 dX3_isSeaman_0 rfl rfl ?_
  refine x_getI rfl ck_3 5 (by decide) rfl q_318 dX3_isSeaman_1 ?_
  refine x_iconst (v := (3 : Int32)) dX3_isSeaman_4 (by decide) ?_
  refine x_ic_lt (tgt := 12) dX3_isSeaman_5 (by decide) h (fun h => ?_) (fun h => ?_)
  · refine x_iconst (v := (0 : Int32)) dX3_isSeaman_12 (by decide) ?_
    exact x_zretC rfl (by decide) dX3_isSeaman_13 h
  · refine x_iconst (v := (1 : Int32)) dX3_isSeaman_8 (by decide) ?_
    refine x_goto (tgt := 13) dX3_isSeaman_9 (by decide) ?_
    exact x_zretC rfl (by decide) dX3_isSeaman_13 h
-- PressedMen seamenIn (I)I
abbrev Y_X11_seamenIn : ZM := (yX11_seamenIn, cX11_seamenIn, 4, (some .int), 1, 20)
theorem cw_X11_seamenIn : z_CV Y_X11_seamenIn 11 1 := ⟨⟨_, _, rfl⟩, by decide, q_886, q_34, q_887, q_70, ⟨by decide, by decide⟩, rfl⟩
def b_X11_seamenIn_4 (n0 : Nat) (x1 : Int32) (S : ZH) (v : Int32 × Int32) : Option ((Int32 × Int32) ⊕ (Int32)) :=
  if (zI S 11 n0 2) ≤ v.2 then (
    some (Sum.inr v.1)
  ) else (
    ((zR S 11 n0 1)).bind fun a1 =>
    (zldR S 22 a1 v.2).bind fun v2 =>
    (v2).bind fun a3 =>
    if ¬ (zI S 3 a3 8) = x1 then (
      some (Sum.inl (v.1, (v.2 + 1)))
    ) else (
      ((zR S 11 n0 1)).bind fun a4 =>
      (zldR S 22 a4 v.2).bind fun v5 =>
      (v5).bind fun a6 =>
      (f_X3_isSeaman a6 S).bind fun q7 =>
      if q7 = 0 then (
        some (Sum.inl (v.1, (v.2 + 1)))
      ) else (
        some (Sum.inl ((v.1 + 1), (v.2 + 1)))
      )
    )
  )
def f_X11_seamenIn (n0 : Nat) (x1 : Int32) (S : ZH) : Option (Int32) :=
  (z_iter zFU (b_X11_seamenIn_4 n0 x1 S) ((0 : Int32), (0 : Int32))).bind fun t8 =>
  some t8
set_option maxRecDepth 20000 in
theorem l_X11_seamenIn_4 {S0 : ZH} {F : ZP} {n0 : Nat} {x1 : Int32} {S : ZH} {v : Int32 × Int32} {t : Int32} (h : z_iter zFU (b_X11_seamenIn_4 n0 x1 S) v = some t) (k : (fun t => Wp Y_X11_seamenIn S0 F 46 [(2, z_i t)] [] S) t) : Wp Y_X11_seamenIn S0 F 4 [(0, z_r 11 (some n0)), (1, z_i x1), (2, z_i v.1), (3, z_i v.2)] [] S := by
  refine z_iter_P (P := fun v : Int32 × Int32 => Wp Y_X11_seamenIn S0 F 4 [(0, z_r 11 (some n0)), (1, z_i x1), (2, z_i v.1), (3, z_i v.2)] [] S) (X := (fun t => Wp Y_X11_seamenIn S0 F 46 [(2, z_i t)] [] S)) ?_ _ _ _ h k
  clear h k v t
  intro v r h k
  unfold b_X11_seamenIn_4 at h
  refine x_iload_n 3 dX11_seamenIn_4 rfl rfl ?_
  refine x_aload_n 0 dX11_seamenIn_5 rfl rfl ?_
  refine x_getI rfl ck_11 2 (by decide) rfl q_192 dX11_seamenIn_6 ?_
  refine x_ic_ge (tgt := 46) dX11_seamenIn_9 (by decide) h (fun h => ?_) (fun h => ?_)
  · cases h
    exact x_lo [2] rfl k
  · refine x_aload_n 0 dX11_seamenIn_12 rfl rfl ?_
    refine x_getR rfl ck_11 1 (by decide) rfl q_191 dX11_seamenIn_13 ?_
    refine x_iload_n 3 dX11_seamenIn_16 rfl rfl ?_
    refine z_bnd h (fun a1 ha1 h => ?_)
    refine x_aaload ha1 ak_22 dX11_seamenIn_17 h (fun v2 hv2 h => ?_)
    refine z_bnd h (fun a3 ha3 h => ?_)
    revert h
    subst ha3
    intro h
    refine x_getI rfl ck_3 8 (by decide) rfl q_327 dX11_seamenIn_18 ?_
    refine x_iload_n 1 dX11_seamenIn_21 rfl rfl ?_
    refine x_ic_ne (tgt := 40) dX11_seamenIn_22 (by decide) h (fun h => ?_) (fun h => ?_)
    · refine x_iinc (v := (v.2 + 1)) (lo' := [(3, z_i (v.2 + 1)), (0, z_r 11 (some n0)), (1, z_i x1), (2, z_i v.1)]) 3 dX11_seamenIn_40 rfl (congrArg (HAdd.hAdd v.2) (by decide)) (by decide) rfl ?_
      refine x_goto (tgt := 4) dX11_seamenIn_43 (by decide) ?_
      cases h
      exact x_lo [1, 2, 3, 0] rfl k
    · refine x_aload_n 0 dX11_seamenIn_25 rfl rfl ?_
      refine x_getR rfl ck_11 1 (by decide) rfl q_191 dX11_seamenIn_26 ?_
      refine x_iload_n 3 dX11_seamenIn_29 rfl rfl ?_
      refine z_bnd h (fun a4 ha4 h => ?_)
      refine x_aaload ha4 ak_22 dX11_seamenIn_30 h (fun v5 hv5 h => ?_)
      refine z_bnd h (fun a6 ha6 h => ?_)
      revert h
      subst ha6
      intro h
      refine z_bnd h (fun q7 hq7 h => ?_)
      refine x_callV1 rfl (w_X3_isSeaman hq7) cw_X3_isSeaman q_888 ⟨by decide, by decide⟩ (Nat.le_of_ble_eq_true rfl) dX11_seamenIn_31 rfl ?_
      refine x_if_eq (tgt := 40) dX11_seamenIn_34 (by decide) h (fun h => ?_) (fun h => ?_)
      · refine x_iinc (v := (v.2 + 1)) (lo' := [(3, z_i (v.2 + 1)), (0, z_r 11 (some n0)), (1, z_i x1), (2, z_i v.1)]) 3 dX11_seamenIn_40 rfl (congrArg (HAdd.hAdd v.2) (by decide)) (by decide) rfl ?_
        refine x_goto (tgt := 4) dX11_seamenIn_43 (by decide) ?_
        cases h
        exact x_lo [1, 2, 3, 0] rfl k
      · refine x_iinc (v := (v.1 + 1)) (lo' := [(2, z_i (v.1 + 1)), (0, z_r 11 (some n0)), (1, z_i x1), (3, z_i v.2)]) 2 dX11_seamenIn_37 rfl (congrArg (HAdd.hAdd v.1) (by decide)) (by decide) rfl ?_
        refine x_iinc (v := (v.2 + 1)) (lo' := [(3, z_i (v.2 + 1)), (2, z_i (v.1 + 1)), (0, z_r 11 (some n0)), (1, z_i x1)]) 3 dX11_seamenIn_40 rfl (congrArg (HAdd.hAdd v.2) (by decide)) (by decide) rfl ?_
        refine x_goto (tgt := 4) dX11_seamenIn_43 (by decide) ?_
        cases h
        exact x_lo [2, 3, 1, 0] rfl k
set_option maxRecDepth 20000 in
set_option maxHeartbeats 1000000 in
theorem w_X11_seamenIn {n0 : Nat} {x1 : Int32} {S : ZH} {q : Int32} (h : f_X11_seamenIn n0 x1 S = some q) : MetX Y_X11_seamenIn S [z_r 11 (some n0), z_i x1] (some (z_i q)) S := by
  refine MetX.of (lo := [(0, z_r 11 (some n0)), (1, z_i x1)]) rfl (by decide) (Nat.le_of_ble_eq_true rfl) ?_
  unfold f_X11_seamenIn at h
  refine x_iconst (v := (0 : Int32)) dX11_seamenIn_0 (by decide) ?_
  refine x_istore_n (lo' := [(2, z_i (0 : Int32)), (0, z_r 11 (some n0)), (1, z_i x1)]) dX11_seamenIn_1 rfl (by decide) rfl ?_
  refine x_iconst (v := (0 : Int32)) dX11_seamenIn_2 (by decide) ?_
  refine x_istore_n (lo' := [(3, z_i (0 : Int32)), (2, z_i (0 : Int32)), (0, z_r 11 (some n0)), (1, z_i x1)]) dX11_seamenIn_3 rfl (by decide) rfl ?_
  refine z_bnd h (fun t8 ht8 h => ?_)
  refine x_lo [2, 3, 1, 0] rfl ?_
  refine l_X11_seamenIn_4 ht8 ?_
  refine x_iload_n 0 dX11_seamenIn_46 rfl rfl ?_
  exact x_iret rfl dX11_seamenIn_47 h
-- PressedMen of (II)I
abbrev Y_X11_of : ZM := (yX11_of, cX11_of, 4, (some .int), 2, 43)
theorem cw_X11_of : z_CV Y_X11_of 11 2 := ⟨⟨_, _, rfl⟩, by decide, q_881, q_882, q_883, q_70, ⟨by decide, by decide⟩, rfl⟩
def f_X11_of (n0 : Nat) (x1 : Int32) (x2 : Int32) (S : ZH) : Option (Int32) :=
  (f_X11_findShip n0 x1 S).bind fun q1 =>
  if q1 = none then (
    some (-1 : Int32)
  ) else (
    if x2 = (0 : Int32) then (
      (q1).bind fun a2 =>
      some (zI S 6 a2 0)
    ) else (
      if x2 = (1 : Int32) then (
        (q1).bind fun a4 =>
        some (zI S 6 a4 1)
      ) else (
        if x2 = (2 : Int32) then (
          (q1).bind fun a6 =>
          some (zI S 6 a6 2)
        ) else (
          if x2 = (3 : Int32) then (
            (q1).bind fun a8 =>
            some (zI S 6 a8 3)
          ) else (
            if x2 = (4 : Int32) then (
              (q1).bind fun a10 =>
              (f_X11_asNumber (zI S 6 a10 4) S).bind fun q11 =>
              some q11
            ) else (
              if x2 = (5 : Int32) then (
                (f_X11_menIn n0 ((10 : Int32) + x1) S).bind fun q13 =>
                some q13
              ) else (
                if x2 = (6 : Int32) then (
                  (f_X11_seamenIn n0 ((10 : Int32) + x1) S).bind fun q15 =>
                  some q15
                ) else (
                  some (-2 : Int32)
                )
              )
            )
          )
        )
      )
    )
  )
set_option maxRecDepth 20000 in
set_option maxHeartbeats 1000000 in
theorem w_X11_of {n0 : Nat} {x1 : Int32} {x2 : Int32} {S : ZH} {q : Int32} (h : f_X11_of n0 x1 x2 S = some q) : MetX Y_X11_of S [z_r 11 (some n0), z_i x1, z_i x2] (some (z_i q)) S := by
  refine MetX.of (lo := [(0, z_r 11 (some n0)), (1, z_i x1), (2, z_i x2)]) rfl (by decide) (Nat.le_of_ble_eq_true rfl) ?_
  unfold f_X11_of at h
  refine x_aload_n 0 dX11_of_0 rfl rfl ?_
  refine x_iload_n 1 dX11_of_1 rfl rfl ?_
  refine z_bnd h (fun q1 hq1 h => ?_)
  refine x_callV1 rfl (w_X11_findShip hq1) cw_X11_findShip q_394 ⟨by decide, by decide⟩ (Nat.le_of_ble_eq_true rfl) dX11_of_2 rfl ?_
  refine x_astore_n (lo' := [(3, z_r 6 q1), (0, z_r 11 (some n0)), (1, z_i x1), (2, z_i x2)]) dX11_of_5 rfl (by decide) rfl ?_
  refine x_aload_n 0 dX11_of_6 rfl rfl ?_
  refine x_ifnonnull (tgt := 12) dX11_of_7 (by decide) h (fun h => ?_) (fun h => ?_)
  · refine x_iload_n 3 dX11_of_12 rfl rfl ?_
    refine z_ite h (fun hx3 h => ?_) (fun hx3 h => ?_)
    · refine x_tabIn (tgt := 56) dX11_of_13 hx3 (by decide) (by decide) rfl (by decide) ?_
      refine x_aload_n 0 dX11_of_56 rfl rfl ?_
      refine z_bnd h (fun a2 ha2 h => ?_)
      revert h
      subst ha2
      intro h
      refine x_getI rfl ck_6 0 (by decide) rfl q_860 dX11_of_57 ?_
      exact x_iret rfl dX11_of_60 h
    · refine z_ite h (fun hx5 h => ?_) (fun hx5 h => ?_)
      · refine x_tabIn (tgt := 61) dX11_of_13 hx5 (by decide) (by decide) rfl (by decide) ?_
        refine x_aload_n 0 dX11_of_61 rfl rfl ?_
        refine z_bnd h (fun a4 ha4 h => ?_)
        revert h
        subst ha4
        intro h
        refine x_getI rfl ck_6 1 (by decide) rfl q_862 dX11_of_62 ?_
        exact x_iret rfl dX11_of_65 h
      · refine z_ite h (fun hx7 h => ?_) (fun hx7 h => ?_)
        · refine x_tabIn (tgt := 66) dX11_of_13 hx7 (by decide) (by decide) rfl (by decide) ?_
          refine x_aload_n 0 dX11_of_66 rfl rfl ?_
          refine z_bnd h (fun a6 ha6 h => ?_)
          revert h
          subst ha6
          intro h
          refine x_getI rfl ck_6 2 (by decide) rfl q_864 dX11_of_67 ?_
          exact x_iret rfl dX11_of_70 h
        · refine z_ite h (fun hx9 h => ?_) (fun hx9 h => ?_)
          · refine x_tabIn (tgt := 71) dX11_of_13 hx9 (by decide) (by decide) rfl (by decide) ?_
            refine x_aload_n 0 dX11_of_71 rfl rfl ?_
            refine z_bnd h (fun a8 ha8 h => ?_)
            revert h
            subst ha8
            intro h
            refine x_getI rfl ck_6 3 (by decide) rfl q_866 dX11_of_72 ?_
            exact x_iret rfl dX11_of_75 h
          · refine z_ite h (fun hx12 h => ?_) (fun hx12 h => ?_)
            · refine x_tabIn (tgt := 76) dX11_of_13 hx12 (by decide) (by decide) rfl (by decide) ?_
              refine x_aload_n 0 dX11_of_76 rfl rfl ?_
              refine z_bnd h (fun a10 ha10 h => ?_)
              revert h
              subst ha10
              intro h
              refine x_getI rfl ck_6 4 (by decide) rfl q_868 dX11_of_77 ?_
              refine z_bnd h (fun q11 hq11 h => ?_)
              refine x_callS1 (w_X11_asNumber hq11) cw_X11_asNumber q_275 ⟨by decide, by decide⟩ (Nat.le_of_ble_eq_true rfl) dX11_of_80 rfl ?_
              exact x_iret rfl dX11_of_83 h
            · refine z_ite h (fun hx14 h => ?_) (fun hx14 h => ?_)
              · refine x_tabIn (tgt := 84) dX11_of_13 hx14 (by decide) (by decide) rfl (by decide) ?_
                refine x_aload_n 1 dX11_of_84 rfl rfl ?_
                refine x_bipush (v := (10 : Int32)) dX11_of_85 (by decide) ?_
                refine x_iload_n 2 dX11_of_87 rfl rfl ?_
                refine x_iadd dX11_of_88 ?_
                refine z_bnd h (fun q13 hq13 h => ?_)
                refine x_callV1 rfl (w_X11_menIn hq13) cw_X11_menIn q_398 ⟨by decide, by decide⟩ (Nat.le_of_ble_eq_true rfl) dX11_of_89 rfl ?_
                exact x_iret rfl dX11_of_92 h
              · refine z_ite h (fun hx16 h => ?_) (fun hx16 h => ?_)
                · refine x_tabIn (tgt := 93) dX11_of_13 hx16 (by decide) (by decide) rfl (by decide) ?_
                  refine x_aload_n 1 dX11_of_93 rfl rfl ?_
                  refine x_bipush (v := (10 : Int32)) dX11_of_94 (by decide) ?_
                  refine x_iload_n 2 dX11_of_96 rfl rfl ?_
                  refine x_iadd dX11_of_97 ?_
                  refine z_bnd h (fun q15 hq15 h => ?_)
                  refine x_callV1 rfl (w_X11_seamenIn hq15) cw_X11_seamenIn q_884 ⟨by decide, by decide⟩ (Nat.le_of_ble_eq_true rfl) dX11_of_98 rfl ?_
                  exact x_iret rfl dX11_of_101 h
                · refine x_tabOut (tgt := 102) dX11_of_13 (by
                      have hx3 := z_neI hx3 (n := 0) (by decide)
                      have hx5 := z_neI hx5 (n := 1) (by decide)
                      have hx7 := z_neI hx7 (n := 2) (by decide)
                      have hx9 := z_neI hx9 (n := 3) (by decide)
                      have hx12 := z_neI hx12 (n := 4) (by decide)
                      have hx14 := z_neI hx14 (n := 5) (by decide)
                      have hx16 := z_neI hx16 (n := 6) (by decide)
                      omega) (by decide) ?_
                  refine x_bipush (v := (-2 : Int32)) dX11_of_102 (by decide) ?_
                  exact x_iret rfl dX11_of_104 h
  · refine x_iconst (v := (-1 : Int32)) dX11_of_10 (by decide) ?_
    exact x_iret rfl dX11_of_11 h
-- PressedMen isWeather (I)Z
abbrev Y_X11_isWeather : ZM := (yX11_isWeather, cX11_isWeather, 1, (some .boolean), 1, 22)
theorem cw_X11_isWeather : z_CS Y_X11_isWeather 1 := ⟨q_897, q_898, q_70, ⟨by decide, by decide⟩, rfl⟩
def f_X11_isWeather (x0 : Int32) (S : ZH) : Option (Int32) :=
  (f_X11_within x0 (0 : Int32) (3 : Int32) S).bind fun q1 =>
  if z_b q1 = q1 then some q1 else none
set_option maxRecDepth 20000 in
set_option maxHeartbeats 1000000 in
theorem w_X11_isWeather {x0 : Int32} {S : ZH} {q : Int32} (h : f_X11_isWeather x0 S = some q) : MetX Y_X11_isWeather S [z_i x0] (some (z_i q)) S := by
  refine MetX.of (lo := [(0, z_i x0)]) rfl (by decide) (Nat.le_of_ble_eq_true rfl) ?_
  unfold f_X11_isWeather at h
  refine x_iload_n 0 dX11_isWeather_0 rfl rfl ?_
  refine x_iconst (v := (0 : Int32)) dX11_isWeather_1 (by decide) ?_
  refine x_iconst (v := (3 : Int32)) dX11_isWeather_2 (by decide) ?_
  refine z_bnd h (fun q1 hq1 h => ?_)
  refine x_callS1 (w_X11_within hq1) cw_X11_within q_252 ⟨by decide, by decide⟩ (Nat.le_of_ble_eq_true rfl) dX11_isWeather_3 rfl ?_
  exact x_zret rfl dX11_isWeather_6 h
-- PressedMen spareOf (LPressedMen$Ship;II)I
abbrev Y_X11_spareOf : ZM := (yX11_spareOf, cX11_spareOf, 3, (some .int), 1, 21)
theorem cw_X11_spareOf : z_CS Y_X11_spareOf 3 := ⟨q_900, q_901, q_70, ⟨by decide, by decide⟩, rfl⟩
def f_X11_spareOf (x0 : Option Nat) (x1 : Int32) (x2 : Int32) (S : ZH) : Option (Int32) :=
  (x0).bind fun a1 =>
  (f_J9_max_7cf53 (0 : Int32) ((x1 - (zI S 6 a1 3)) - x2) S).bind fun q2 =>
  some q2
set_option maxRecDepth 20000 in
set_option maxHeartbeats 1000000 in
theorem w_X11_spareOf {x0 : Option Nat} {x1 : Int32} {x2 : Int32} {S : ZH} {q : Int32} (h : f_X11_spareOf x0 x1 x2 S = some q) : MetX Y_X11_spareOf S [z_r 6 x0, z_i x1, z_i x2] (some (z_i q)) S := by
  refine MetX.of (lo := [(0, z_r 6 x0), (1, z_i x1), (2, z_i x2)]) rfl (by decide) (Nat.le_of_ble_eq_true rfl) ?_
  unfold f_X11_spareOf at h
  refine x_iconst (v := (0 : Int32)) dX11_spareOf_0 (by decide) ?_
  refine x_iload_n 1 dX11_spareOf_1 rfl rfl ?_
  refine x_aload_n 0 dX11_spareOf_2 rfl rfl ?_
  refine z_bnd h (fun a1 ha1 h => ?_)
  revert h
  subst ha1
  intro h
  refine x_getI rfl ck_6 3 (by decide) rfl q_866 dX11_spareOf_3 ?_
  refine x_isub dX11_spareOf_6 ?_
  refine x_iload_n 2 dX11_spareOf_7 rfl rfl ?_
  refine x_isub dX11_spareOf_8 ?_
  refine z_bnd h (fun q2 hq2 h => ?_)
  refine x_callS1 (w_J9_max_7cf53 hq2) cw_J9_max_7cf53 q_450 ⟨by decide, by decide⟩ (Nat.le_of_ble_eq_true rfl) dX11_spareOf_9 rfl ?_
  exact x_iret rfl dX11_spareOf_12 h
-- PressedMen spare (II)I
abbrev Y_X11_spare : ZM := (yX11_spare, cX11_spare, 4, (some .int), 2, 43)
theorem cw_X11_spare : z_CV Y_X11_spare 11 2 := ⟨⟨_, _, rfl⟩, by decide, q_893, q_894, q_895, q_70, ⟨by decide, by decide⟩, rfl⟩
def f_X11_spare (n0 : Nat) (x1 : Int32) (x2 : Int32) (S : ZH) : Option (Int32) :=
  (f_X11_findShip n0 x1 S).bind fun q1 =>
  if q1 = none then (
    some (-1 : Int32)
  ) else (
    (f_X11_isWeather x2 S).bind fun q2 =>
    if ¬ q2 = 0 then (
      (q1).bind fun a3 =>
      if ¬ (zI S 6 a3 0) = 0 then (
        (f_X11_menIn n0 ((10 : Int32) + x1) S).bind fun q4 =>
        (f_X11_spareOf (some a3) q4 x2 S).bind fun q5 =>
        some q5
      ) else (
        some (-3 : Int32)
      )
    ) else (
      some (-2 : Int32)
    )
  )
set_option maxRecDepth 20000 in
set_option maxHeartbeats 1000000 in
theorem w_X11_spare {n0 : Nat} {x1 : Int32} {x2 : Int32} {S : ZH} {q : Int32} (h : f_X11_spare n0 x1 x2 S = some q) : MetX Y_X11_spare S [z_r 11 (some n0), z_i x1, z_i x2] (some (z_i q)) S := by
  refine MetX.of (lo := [(0, z_r 11 (some n0)), (1, z_i x1), (2, z_i x2)]) rfl (by decide) (Nat.le_of_ble_eq_true rfl) ?_
  unfold f_X11_spare at h
  refine x_aload_n 0 dX11_spare_0 rfl rfl ?_
  refine x_iload_n 1 dX11_spare_1 rfl rfl ?_
  refine z_bnd h (fun q1 hq1 h => ?_)
  refine x_callV1 rfl (w_X11_findShip hq1) cw_X11_findShip q_394 ⟨by decide, by decide⟩ (Nat.le_of_ble_eq_true rfl) dX11_spare_2 rfl ?_
  refine x_astore_n (lo' := [(3, z_r 6 q1), (0, z_r 11 (some n0)), (1, z_i x1), (2, z_i x2)]) dX11_spare_5 rfl (by decide) rfl ?_
  refine x_aload_n 0 dX11_spare_6 rfl rfl ?_
  refine x_ifnonnull (tgt := 12) dX11_spare_7 (by decide) h (fun h => ?_) (fun h => ?_)
  · refine x_iload_n 3 dX11_spare_12 rfl rfl ?_
    refine z_bnd h (fun q2 hq2 h => ?_)
    refine x_callS1 (w_X11_isWeather hq2) cw_X11_isWeather q_896 ⟨by decide, by decide⟩ (Nat.le_of_ble_eq_true rfl) dX11_spare_13 rfl ?_
    refine x_if_ne (tgt := 22) dX11_spare_16 (by decide) h (fun h => ?_) (fun h => ?_)
    · refine x_aload_n 0 dX11_spare_22 rfl rfl ?_
      refine z_bnd h (fun a3 ha3 h => ?_)
      revert h
      subst ha3
      intro h
      refine x_getI rfl ck_6 0 (by decide) rfl q_860 dX11_spare_23 ?_
      refine x_if_ne (tgt := 32) dX11_spare_26 (by decide) h (fun h => ?_) (fun h => ?_)
      · refine x_aload_n 0 dX11_spare_32 rfl rfl ?_
        refine x_aload_n 1 dX11_spare_33 rfl rfl ?_
        refine x_bipush (v := (10 : Int32)) dX11_spare_34 (by decide) ?_
        refine x_iload_n 2 dX11_spare_36 rfl rfl ?_
        refine x_iadd dX11_spare_37 ?_
        refine z_bnd h (fun q4 hq4 h => ?_)
        refine x_callV1 rfl (w_X11_menIn hq4) cw_X11_menIn q_398 ⟨by decide, by decide⟩ (Nat.le_of_ble_eq_true rfl) dX11_spare_38 rfl ?_
        refine x_iload_n 3 dX11_spare_41 rfl rfl ?_
        refine z_bnd h (fun q5 hq5 h => ?_)
        refine x_callS1 (w_X11_spareOf hq5) cw_X11_spareOf q_899 ⟨by decide, by decide⟩ (Nat.le_of_ble_eq_true rfl) dX11_spare_42 rfl ?_
        exact x_iret rfl dX11_spare_45 h
      · refine x_bipush (v := (-3 : Int32)) dX11_spare_29 (by decide) ?_
        exact x_iret rfl dX11_spare_31 h
    · refine x_bipush (v := (-2 : Int32)) dX11_spare_19 (by decide) ?_
      exact x_iret rfl dX11_spare_21 h
  · refine x_iconst (v := (-1 : Int32)) dX11_spare_10 (by decide) ?_
    exact x_iret rfl dX11_spare_11 h
-- PressedMen board (II)I
abbrev Y_X11_board : ZM := (yX11_board, cX11_board, 6, (some .int), 4, 125)
theorem cw_X11_board : z_CV Y_X11_board 11 2 := ⟨⟨_, _, rfl⟩, by decide, q_903, q_904, q_905, q_70, ⟨by decide, by decide⟩, rfl⟩
def f_X11_board (n0 : Nat) (x1 : Int32) (x2 : Int32) (S : ZH) : Option (Int32 × ZH) :=
  (f_X11_findMan n0 x1 S).bind fun q1 =>
  (f_X11_findShip n0 x2 S).bind fun q2 =>
  if q1 = none then (
    some ((-1 : Int32), S)
  ) else (
    if q2 = none then (
      some ((-1 : Int32), S)
    ) else (
      (q1).bind fun a3 =>
      (f_X11_isStreet (zI S 3 a3 8) S).bind fun q4 =>
      if q4 = 0 then (
        some ((-3 : Int32), S)
      ) else (
        (q2).bind fun a5 =>
        if ¬ (zI S 6 a5 4) = 0 then (
          (f_X11_menIn n0 ((10 : Int32) + x2) S).bind fun q6 =>
          if q6 < ((2 : Int32) * (zI S 6 a5 1)) then (
            (f_X3_goTo a3 ((10 : Int32) + x2) (zI S 11 n0 16) S).bind fun q7 =>
            some ((q6 + (1 : Int32)), q7.2)
          ) else (
            some ((-4 : Int32), S)
          )
        ) else (
          some ((-3 : Int32), S)
        )
      )
    )
  )
set_option maxRecDepth 20000 in
set_option maxHeartbeats 1000000 in
theorem w_X11_board {n0 : Nat} {x1 : Int32} {x2 : Int32} {S : ZH} {q : Int32 × ZH} (h : f_X11_board n0 x1 x2 S = some q) : MetX Y_X11_board S [z_r 11 (some n0), z_i x1, z_i x2] (some (z_i q.1)) q.2 := by
  refine MetX.of (lo := [(0, z_r 11 (some n0)), (1, z_i x1), (2, z_i x2)]) rfl (by decide) (Nat.le_of_ble_eq_true rfl) ?_
  unfold f_X11_board at h
  refine x_aload_n 0 dX11_board_0 rfl rfl ?_
  refine x_iload_n 1 dX11_board_1 rfl rfl ?_
  refine z_bnd h (fun q1 hq1 h => ?_)
  refine x_callV1 rfl (w_X11_findMan hq1) cw_X11_findMan q_366 ⟨by decide, by decide⟩ (Nat.le_of_ble_eq_true rfl) dX11_board_2 rfl ?_
  refine x_astore_n (lo' := [(3, z_r 3 q1), (0, z_r 11 (some n0)), (1, z_i x1), (2, z_i x2)]) dX11_board_5 rfl (by decide) rfl ?_
  refine x_aload_n 1 dX11_board_6 rfl rfl ?_
  refine x_iload_n 3 dX11_board_7 rfl rfl ?_
  refine z_bnd h (fun q2 hq2 h => ?_)
  refine x_callV1 rfl (w_X11_findShip hq2) cw_X11_findShip q_394 ⟨by decide, by decide⟩ (Nat.le_of_ble_eq_true rfl) dX11_board_8 rfl ?_
  refine x_astore (lo' := [(4, z_r 6 q2), (3, z_r 3 q1), (0, z_r 11 (some n0)), (1, z_i x1), (2, z_i x2)]) dX11_board_11 (by decide) rfl ?_
  refine x_aload_n 1 dX11_board_13 rfl rfl ?_
  refine x_ifnull (tgt := 22) dX11_board_14 (by decide) h (fun h => ?_) (fun h => ?_)
  · refine x_iconst (v := (-1 : Int32)) dX11_board_22 (by decide) ?_
    exact x_iretE rfl dX11_board_23 h
  · refine x_aload 0 dX11_board_17 rfl ?_
    refine x_ifnonnull (tgt := 24) dX11_board_19 (by decide) h (fun h => ?_) (fun h => ?_)
    · refine x_aload_n 1 dX11_board_24 rfl rfl ?_
      refine z_bnd h (fun a3 ha3 h => ?_)
      revert h
      subst ha3
      intro h
      refine x_getI rfl ck_3 8 (by decide) rfl q_327 dX11_board_25 ?_
      refine z_bnd h (fun q4 hq4 h => ?_)
      refine x_callS1 (w_X11_isStreet hq4) cw_X11_isStreet q_423 ⟨by decide, by decide⟩ (Nat.le_of_ble_eq_true rfl) dX11_board_28 rfl ?_
      refine x_if_eq (tgt := 42) dX11_board_31 (by decide) h (fun h => ?_) (fun h => ?_)
      · refine x_bipush (v := (-3 : Int32)) dX11_board_42 (by decide) ?_
        exact x_iretE rfl dX11_board_44 h
      · refine x_aload 0 dX11_board_34 rfl ?_
        refine z_bnd h (fun a5 ha5 h => ?_)
        revert h
        subst ha5
        intro h
        refine x_getI rfl ck_6 4 (by decide) rfl q_868 dX11_board_36 ?_
        refine x_if_ne (tgt := 45) dX11_board_39 (by decide) h (fun h => ?_) (fun h => ?_)
        · refine x_aload_n 2 dX11_board_45 rfl rfl ?_
          refine x_bipush (v := (10 : Int32)) dX11_board_46 (by decide) ?_
          refine x_iload_n 4 dX11_board_48 rfl rfl ?_
          refine x_iadd dX11_board_49 ?_
          refine z_bnd h (fun q6 hq6 h => ?_)
          refine x_callV1 rfl (w_X11_menIn hq6) cw_X11_menIn q_398 ⟨by decide, by decide⟩ (Nat.le_of_ble_eq_true rfl) dX11_board_50 rfl ?_
          refine x_istore (lo' := [(5, z_i q6), (4, z_r 6 (some a5)), (3, z_r 3 (some a3)), (0, z_r 11 (some n0)), (1, z_i x1), (2, z_i x2)]) dX11_board_53 (by decide) rfl ?_
          refine x_iload 0 dX11_board_55 rfl ?_
          refine x_iconst (v := (2 : Int32)) dX11_board_57 (by decide) ?_
          refine x_aload 1 dX11_board_58 rfl ?_
          refine x_getI rfl ck_6 1 (by decide) rfl q_862 dX11_board_60 ?_
          refine x_imul dX11_board_63 ?_
          refine x_ic_lt (tgt := 70) dX11_board_64 (by decide) h (fun h => ?_) (fun h => ?_)
          · refine x_aload_n 2 dX11_board_70 rfl rfl ?_
            refine x_bipush (v := (10 : Int32)) dX11_board_71 (by decide) ?_
            refine x_iload_n 5 dX11_board_73 rfl rfl ?_
            refine x_iadd dX11_board_74 ?_
            refine x_aload_n 3 dX11_board_75 rfl rfl ?_
            refine x_getI rfl ck_11 16 (by decide) rfl q_206 dX11_board_76 ?_
            refine z_bnd h (fun q7 hq7 h => ?_)
            refine x_callV1 rfl (w_X3_goTo hq7) cw_X3_goTo q_424 ⟨by decide, by decide⟩ (Nat.le_of_ble_eq_true rfl) dX11_board_79 rfl ?_
            refine x_pop dX11_board_82 rfl ?_
            refine x_iload 0 dX11_board_83 rfl ?_
            refine x_iconst (v := (1 : Int32)) dX11_board_85 (by decide) ?_
            refine x_iadd dX11_board_86 ?_
            exact x_iretE rfl dX11_board_87 h
          · refine x_bipush (v := (-4 : Int32)) dX11_board_67 (by decide) ?_
            exact x_iretE rfl dX11_board_69 h
        · refine x_bipush (v := (-3 : Int32)) dX11_board_42 (by decide) ?_
          exact x_iretE rfl dX11_board_44 h
    · refine x_iconst (v := (-1 : Int32)) dX11_board_22 (by decide) ?_
      exact x_iretE rfl dX11_board_23 h
-- PressedMen turn (II)I
abbrev Y_X11_turn : ZM := (yX11_turn, cX11_turn, 6, (some .int), 4, 125)
theorem cw_X11_turn : z_CV Y_X11_turn 11 2 := ⟨⟨_, _, rfl⟩, by decide, q_907, q_908, q_909, q_70, ⟨by decide, by decide⟩, rfl⟩
def j_X11_turn_49 (n0 : Nat) (x2 : Int32) (n3 : Nat) (x4 : Option Nat) (s0 : Int32) (S : ZH) : Option (Int32 × ZH) :=
  if s0 = 0 then (
    some ((-3 : Int32), S)
  ) else (
    if (zI S 3 n3 8) = ((10 : Int32) + x2) then (
      some ((-3 : Int32), S)
    ) else (
      (x4).bind fun a4 =>
      if ¬ (zI S 6 a4 4) = 0 then (
        (f_X11_menIn n0 ((10 : Int32) + x2) S).bind fun q5 =>
        if q5 < ((2 : Int32) * (zI S 6 a4 1)) then (
          (f_X3_goTo n3 ((10 : Int32) + x2) (zI S 11 n0 16) S).bind fun q6 =>
          some (q6.1, q6.2)
        ) else (
          some ((-4 : Int32), S)
        )
      ) else (
        some ((-3 : Int32), S)
      )
    )
  )
def j_X11_turn_44 (n0 : Nat) (x2 : Int32) (n3 : Nat) (x4 : Option Nat)  (S : ZH) : Option (Int32 × ZH) :=
  j_X11_turn_49 n0 x2 n3 x4 (1 : Int32) S
def f_X11_turn (n0 : Nat) (x1 : Int32) (x2 : Int32) (S : ZH) : Option (Int32 × ZH) :=
  (f_X11_findMan n0 x1 S).bind fun q1 =>
  (f_X11_findShip n0 x2 S).bind fun q2 =>
  if q1 = none then (
    some ((-1 : Int32), S)
  ) else (
    if q2 = none then (
      some ((-1 : Int32), S)
    ) else (
      (q1).bind fun a3 =>
      if (zI S 3 a3 8) = (20 : Int32) then (
        j_X11_turn_44 n0 x2 a3 q2 S
      ) else (
        (f_X11_isInShipAtHome n0 (zI S 3 a3 8) S).bind fun q7 =>
        if q7 = 0 then (
          j_X11_turn_49 n0 x2 a3 q2 (0 : Int32) S
        ) else (
          j_X11_turn_44 n0 x2 a3 q2 S
        )
      )
    )
  )
set_option maxRecDepth 20000 in
theorem k_X11_turn_49 {S0 : ZH} {n0 : Nat} {x2 : Int32} {n3 : Nat} {x4 : Option Nat} {s0 : Int32} {S : ZH} {z : Int32 × ZH} (h : j_X11_turn_49 n0 x2 n3 x4 s0 S = some z) : Wp Y_X11_turn S0 (zF S0 (some (z_i z.1)) z.2) 49 [(0, z_r 11 (some n0)), (2, z_i x2), (3, z_r 3 (some n3)), (4, z_r 6 x4)] [z_i s0] S := by
  unfold j_X11_turn_49 at h
  refine x_istore (lo' := [(5, z_i s0), (0, z_r 11 (some n0)), (2, z_i x2), (3, z_r 3 (some n3)), (4, z_r 6 x4)]) dX11_turn_49 (by decide) rfl ?_
  refine x_iload 0 dX11_turn_51 rfl ?_
  refine x_if_eq (tgt := 75) dX11_turn_53 (by decide) h (fun h => ?_) (fun h => ?_)
  · refine x_bipush (v := (-3 : Int32)) dX11_turn_75 (by decide) ?_
    exact x_iretE rfl dX11_turn_77 h
  · refine x_aload_n 3 dX11_turn_56 rfl rfl ?_
    refine x_getI rfl ck_3 8 (by decide) rfl q_327 dX11_turn_57 ?_
    refine x_bipush (v := (10 : Int32)) dX11_turn_60 (by decide) ?_
    refine x_iload_n 2 dX11_turn_62 rfl rfl ?_
    refine x_iadd dX11_turn_63 ?_
    refine x_ic_eq (tgt := 75) dX11_turn_64 (by decide) h (fun h => ?_) (fun h => ?_)
    · refine x_bipush (v := (-3 : Int32)) dX11_turn_75 (by decide) ?_
      exact x_iretE rfl dX11_turn_77 h
    · refine x_aload 4 dX11_turn_67 rfl ?_
      refine z_bnd h (fun a4 ha4 h => ?_)
      revert h
      subst ha4
      intro h
      refine x_getI rfl ck_6 4 (by decide) rfl q_868 dX11_turn_69 ?_
      refine x_if_ne (tgt := 78) dX11_turn_72 (by decide) h (fun h => ?_) (fun h => ?_)
      · refine x_aload_n 1 dX11_turn_78 rfl rfl ?_
        refine x_bipush (v := (10 : Int32)) dX11_turn_79 (by decide) ?_
        refine x_iload_n 2 dX11_turn_81 rfl rfl ?_
        refine x_iadd dX11_turn_82 ?_
        refine z_bnd h (fun q5 hq5 h => ?_)
        refine x_callV1 rfl (w_X11_menIn hq5) cw_X11_menIn q_398 ⟨by decide, by decide⟩ (Nat.le_of_ble_eq_true rfl) dX11_turn_83 rfl ?_
        refine x_iconst (v := (2 : Int32)) dX11_turn_86 (by decide) ?_
        refine x_aload 4 dX11_turn_87 rfl ?_
        refine x_getI rfl ck_6 1 (by decide) rfl q_862 dX11_turn_89 ?_
        refine x_imul dX11_turn_92 ?_
        refine x_ic_lt (tgt := 99) dX11_turn_93 (by decide) h (fun h => ?_) (fun h => ?_)
        · refine x_aload_n 3 dX11_turn_99 rfl rfl ?_
          refine x_bipush (v := (10 : Int32)) dX11_turn_100 (by decide) ?_
          refine x_iload_n 2 dX11_turn_102 rfl rfl ?_
          refine x_iadd dX11_turn_103 ?_
          refine x_aload_n 1 dX11_turn_104 rfl rfl ?_
          refine x_getI rfl ck_11 16 (by decide) rfl q_206 dX11_turn_105 ?_
          refine z_bnd h (fun q6 hq6 h => ?_)
          refine x_callV1 rfl (w_X3_goTo hq6) cw_X3_goTo q_424 ⟨by decide, by decide⟩ (Nat.le_of_ble_eq_true rfl) dX11_turn_108 rfl ?_
          exact x_iretE rfl dX11_turn_111 h
        · refine x_bipush (v := (-4 : Int32)) dX11_turn_96 (by decide) ?_
          exact x_iretE rfl dX11_turn_98 h
      · refine x_bipush (v := (-3 : Int32)) dX11_turn_75 (by decide) ?_
        exact x_iretE rfl dX11_turn_77 h
set_option maxRecDepth 20000 in
theorem k_X11_turn_44 {S0 : ZH} {n0 : Nat} {x2 : Int32} {n3 : Nat} {x4 : Option Nat}  {S : ZH} {z : Int32 × ZH} (h : j_X11_turn_44 n0 x2 n3 x4 S = some z) : Wp Y_X11_turn S0 (zF S0 (some (z_i z.1)) z.2) 44 [(0, z_r 11 (some n0)), (2, z_i x2), (3, z_r 3 (some n3)), (4, z_r 6 x4)] [] S := by
  unfold j_X11_turn_44 at h
  refine x_iconst (v := (1 : Int32)) dX11_turn_44 (by decide) ?_
  refine x_goto (tgt := 49) dX11_turn_45 (by decide) ?_
  exact x_lo [0, 1, 2, 3] rfl (k_X11_turn_49 h)
set_option maxRecDepth 20000 in
set_option maxHeartbeats 1000000 in
theorem w_X11_turn {n0 : Nat} {x1 : Int32} {x2 : Int32} {S : ZH} {q : Int32 × ZH} (h : f_X11_turn n0 x1 x2 S = some q) : MetX Y_X11_turn S [z_r 11 (some n0), z_i x1, z_i x2] (some (z_i q.1)) q.2 := by
  refine MetX.of (lo := [(0, z_r 11 (some n0)), (1, z_i x1), (2, z_i x2)]) rfl (by decide) (Nat.le_of_ble_eq_true rfl) ?_
  unfold f_X11_turn at h
  refine x_aload_n 0 dX11_turn_0 rfl rfl ?_
  refine x_iload_n 1 dX11_turn_1 rfl rfl ?_
  refine z_bnd h (fun q1 hq1 h => ?_)
  refine x_callV1 rfl (w_X11_findMan hq1) cw_X11_findMan q_366 ⟨by decide, by decide⟩ (Nat.le_of_ble_eq_true rfl) dX11_turn_2 rfl ?_
  refine x_astore_n (lo' := [(3, z_r 3 q1), (0, z_r 11 (some n0)), (1, z_i x1), (2, z_i x2)]) dX11_turn_5 rfl (by decide) rfl ?_
  refine x_aload_n 1 dX11_turn_6 rfl rfl ?_
  refine x_iload_n 3 dX11_turn_7 rfl rfl ?_
  refine z_bnd h (fun q2 hq2 h => ?_)
  refine x_callV1 rfl (w_X11_findShip hq2) cw_X11_findShip q_394 ⟨by decide, by decide⟩ (Nat.le_of_ble_eq_true rfl) dX11_turn_8 rfl ?_
  refine x_astore (lo' := [(4, z_r 6 q2), (3, z_r 3 q1), (0, z_r 11 (some n0)), (1, z_i x1), (2, z_i x2)]) dX11_turn_11 (by decide) rfl ?_
  refine x_aload_n 1 dX11_turn_13 rfl rfl ?_
  refine x_ifnull (tgt := 22) dX11_turn_14 (by decide) h (fun h => ?_) (fun h => ?_)
  · refine x_iconst (v := (-1 : Int32)) dX11_turn_22 (by decide) ?_
    exact x_iretE rfl dX11_turn_23 h
  · refine x_aload 0 dX11_turn_17 rfl ?_
    refine x_ifnonnull (tgt := 24) dX11_turn_19 (by decide) h (fun h => ?_) (fun h => ?_)
    · refine x_aload_n 1 dX11_turn_24 rfl rfl ?_
      refine z_bnd h (fun a3 ha3 h => ?_)
      revert h
      subst ha3
      intro h
      refine x_getI rfl ck_3 8 (by decide) rfl q_327 dX11_turn_25 ?_
      refine x_bipush (v := (20 : Int32)) dX11_turn_28 (by decide) ?_
      refine x_ic_eq (tgt := 44) dX11_turn_30 (by decide) h (fun h => ?_) (fun h => ?_)
      · exact x_lo [2, 4, 1, 0] rfl (k_X11_turn_44 h)
      · refine x_aload_n 2 dX11_turn_33 rfl rfl ?_
        refine x_aload_n 1 dX11_turn_34 rfl rfl ?_
        refine x_getI rfl ck_3 8 (by decide) rfl q_327 dX11_turn_35 ?_
        refine z_bnd h (fun q7 hq7 h => ?_)
        refine x_callV1 rfl (w_X11_isInShipAtHome hq7) cw_X11_isInShipAtHome q_691 ⟨by decide, by decide⟩ (Nat.le_of_ble_eq_true rfl) dX11_turn_38 rfl ?_
        refine x_if_eq (tgt := 48) dX11_turn_41 (by decide) h (fun h => ?_) (fun h => ?_)
        · refine x_iconst (v := (0 : Int32)) dX11_turn_48 (by decide) ?_
          exact x_lo [2, 4, 1, 0] rfl (k_X11_turn_49 h)
        · exact x_lo [2, 4, 1, 0] rfl (k_X11_turn_44 h)
    · refine x_iconst (v := (-1 : Int32)) dX11_turn_22 (by decide) ?_
      exact x_iretE rfl dX11_turn_23 h
-- PressedMen$Man tidesOffShore (I)I
abbrev Y_X3_tidesOffShore : ZM := (yX3_tidesOffShore, cX3_tidesOffShore, 4, (some .int), 3, 62)
theorem cw_X3_tidesOffShore : z_CV Y_X3_tidesOffShore 3 1 := ⟨⟨_, _, rfl⟩, by decide, q_915, q_916, q_917, q_78, ⟨by decide, by decide⟩, rfl⟩
def b_X3_tidesOffShore_8 (n0 : Nat) (x1 : Int32) (S : ZH) (v : Int32 × Int32) : Option ((Int32 × Int32) ⊕ ((Int32) ⊕ (Int32))) :=
  if v.2 < 0 then (
    some (Sum.inr (Sum.inl v.1))
  ) else (
    ((zR S 3 n0 12)).bind fun a2 =>
    (zld S 18 a2 v.2).bind fun v3 =>
    (f_X11_isAshore v3 S).bind fun q4 =>
    if q4 = 0 then (
      ((zR S 3 n0 11)).bind fun a5 =>
      (zld S 17 a5 v.2).bind fun v6 =>
      some (Sum.inl ((v6 - (1 : Int32)), (v.2 + (-1))))
    ) else (
      some (Sum.inr (Sum.inr (x1 - v.1)))
    )
  )
def f_X3_tidesOffShore (n0 : Nat) (x1 : Int32) (S : ZH) : Option (Int32) :=
  (f_X3_moveAsOf n0 x1 S).bind fun q1 =>
  (z_iter zFU (b_X3_tidesOffShore_8 n0 x1 S) (x1, q1)).bind fun t7 =>
  Sum.elim (fun t =>
    some (x1 - t)
  ) (fun q => some q) t7
set_option maxRecDepth 20000 in
theorem l_X3_tidesOffShore_8 {S0 : ZH} {F : ZP} {n0 : Nat} {x1 : Int32} {S : ZH} {v : Int32 × Int32} {t : (Int32) ⊕ (Int32)} (h : z_iter zFU (b_X3_tidesOffShore_8 n0 x1 S) v = some t) (k : (Sum.elim (fun t => Wp Y_X3_tidesOffShore S0 F 43 [(1, z_i x1), (2, z_i t)] [] S) (fun q => F = zF S0 (some (z_i q)) S)) t) : Wp Y_X3_tidesOffShore S0 F 8 [(0, z_r 3 (some n0)), (1, z_i x1), (2, z_i v.1), (3, z_i v.2)] [] S := by
  refine z_iter_P (P := fun v : Int32 × Int32 => Wp Y_X3_tidesOffShore S0 F 8 [(0, z_r 3 (some n0)), (1, z_i x1), (2, z_i v.1), (3, z_i v.2)] [] S) (X := (Sum.elim (fun t => Wp Y_X3_tidesOffShore S0 F 43 [(1, z_i x1), (2, z_i t)] [] S) (fun q => F = zF S0 (some (z_i q)) S))) ?_ _ _ _ h k
  clear h k v t
  intro v r h k
  unfold b_X3_tidesOffShore_8 at h
  refine x_iload_n 3 dX3_tidesOffShore_8 rfl rfl ?_
  refine x_if_lt (tgt := 43) dX3_tidesOffShore_9 (by decide) h (fun h => ?_) (fun h => ?_)
  · cases h
    exact x_lo [1, 2] rfl k
  · refine x_aload_n 0 dX3_tidesOffShore_12 rfl rfl ?_
    refine x_getR rfl ck_3 12 (by decide) rfl q_331 dX3_tidesOffShore_13 ?_
    refine x_iload_n 3 dX3_tidesOffShore_16 rfl rfl ?_
    refine z_bnd h (fun a2 ha2 h => ?_)
    refine x_iaload ha2 ak_18 dX3_tidesOffShore_17 h (fun v3 hv3 h => ?_)
    refine z_bnd h (fun q4 hq4 h => ?_)
    refine x_callSN1 (w_X11_isAshore hq4) cw_X11_isAshore q_918 ⟨by decide, by decide⟩ (Nat.le_of_ble_eq_true rfl) dX3_tidesOffShore_18 rfl ?_
    refine x_if_eq (tgt := 28) dX3_tidesOffShore_21 (by decide) h (fun h => ?_) (fun h => ?_)
    · refine x_aload_n 0 dX3_tidesOffShore_28 rfl rfl ?_
      refine x_getR rfl ck_3 11 (by decide) rfl q_330 dX3_tidesOffShore_29 ?_
      refine x_iload_n 3 dX3_tidesOffShore_32 rfl rfl ?_
      refine z_bnd h (fun a5 ha5 h => ?_)
      refine x_iaload ha5 ak_17 dX3_tidesOffShore_33 h (fun v6 hv6 h => ?_)
      refine x_iconst (v := (1 : Int32)) dX3_tidesOffShore_34 (by decide) ?_
      refine x_isub dX3_tidesOffShore_35 ?_
      refine x_istore_n (lo' := [(2, z_i (v6 - (1 : Int32))), (0, z_r 3 (some n0)), (1, z_i x1), (3, z_i v.2)]) dX3_tidesOffShore_36 rfl (by decide) rfl ?_
      refine x_iinc (v := (v.2 + (-1))) (lo' := [(3, z_i (v.2 + (-1))), (2, z_i (v6 - (1 : Int32))), (0, z_r 3 (some n0)), (1, z_i x1)]) 3 dX3_tidesOffShore_37 rfl (congrArg (HAdd.hAdd v.2) (by decide)) (by decide) rfl ?_
      refine x_goto (tgt := 8) dX3_tidesOffShore_40 (by decide) ?_
      cases h
      exact x_lo [2, 3, 1, 0] rfl k
    · refine x_iload_n 1 dX3_tidesOffShore_24 rfl rfl ?_
      refine x_iload_n 2 dX3_tidesOffShore_25 rfl rfl ?_
      refine x_isub dX3_tidesOffShore_26 ?_
      cases h
      have k : F = zF S0 (some (z_i (x1 - v.1))) S := k
      subst k
      exact x_iret0 rfl dX3_tidesOffShore_27
set_option maxRecDepth 20000 in
set_option maxHeartbeats 1000000 in
theorem w_X3_tidesOffShore {n0 : Nat} {x1 : Int32} {S : ZH} {q : Int32} (h : f_X3_tidesOffShore n0 x1 S = some q) : MetX Y_X3_tidesOffShore S [z_r 3 (some n0), z_i x1] (some (z_i q)) S := by
  refine MetX.of (lo := [(0, z_r 3 (some n0)), (1, z_i x1)]) rfl (by decide) (Nat.le_of_ble_eq_true rfl) ?_
  unfold f_X3_tidesOffShore at h
  refine x_iload_n 1 dX3_tidesOffShore_0 rfl rfl ?_
  refine x_istore_n (lo' := [(2, z_i x1), (0, z_r 3 (some n0)), (1, z_i x1)]) dX3_tidesOffShore_1 rfl (by decide) rfl ?_
  refine x_aload_n 1 dX3_tidesOffShore_2 rfl rfl ?_
  refine x_iload_n 2 dX3_tidesOffShore_3 rfl rfl ?_
  refine z_bnd h (fun q1 hq1 h => ?_)
  refine x_callV1 rfl (w_X3_moveAsOf hq1) cw_X3_moveAsOf q_382 ⟨by decide, by decide⟩ (Nat.le_of_ble_eq_true rfl) dX3_tidesOffShore_4 rfl ?_
  refine x_istore_n (lo' := [(3, z_i q1), (2, z_i x1), (0, z_r 3 (some n0)), (1, z_i x1)]) dX3_tidesOffShore_7 rfl (by decide) rfl ?_
  refine z_bnd h (fun t7 ht7 h => ?_)
  refine x_lo [2, 3, 1, 0] rfl ?_
  refine l_X3_tidesOffShore_8 ht7 ?_
  rcases t7 with t | q
  · have h := (show _ = some _ from h)
    simp only [Sum.elim_inl] at h ⊢
    refine x_iload_n 0 dX3_tidesOffShore_43 rfl rfl ?_
    refine x_iload_n 1 dX3_tidesOffShore_44 rfl rfl ?_
    refine x_isub dX3_tidesOffShore_45 ?_
    exact x_iret rfl dX3_tidesOffShore_46 h
  · simp only [Sum.elim_inr] at h ⊢
    cases h
    rfl
-- PressedMen notAshore (II)I
abbrev Y_X11_notAshore : ZM := (yX11_notAshore, cX11_notAshore, 4, (some .int), 4, 85)
theorem cw_X11_notAshore : z_CV Y_X11_notAshore 11 2 := ⟨⟨_, _, rfl⟩, by decide, q_911, q_912, q_913, q_70, ⟨by decide, by decide⟩, rfl⟩
def f_X11_notAshore (n0 : Nat) (x1 : Int32) (x2 : Int32) (S : ZH) : Option (Int32) :=
  (f_X11_findMan n0 x1 S).bind fun q1 =>
  if q1 = none then (
    some (-1 : Int32)
  ) else (
    (f_X11_within x2 (0 : Int32) (zI S 11 n0 16) S).bind fun q2 =>
    if ¬ q2 = 0 then (
      (q1).bind fun a3 =>
      (f_X3_tidesOffShore a3 x2 S).bind fun q4 =>
      some q4
    ) else (
      some (-2 : Int32)
    )
  )
set_option maxRecDepth 20000 in
set_option maxHeartbeats 1000000 in
theorem w_X11_notAshore {n0 : Nat} {x1 : Int32} {x2 : Int32} {S : ZH} {q : Int32} (h : f_X11_notAshore n0 x1 x2 S = some q) : MetX Y_X11_notAshore S [z_r 11 (some n0), z_i x1, z_i x2] (some (z_i q)) S := by
  refine MetX.of (lo := [(0, z_r 11 (some n0)), (1, z_i x1), (2, z_i x2)]) rfl (by decide) (Nat.le_of_ble_eq_true rfl) ?_
  unfold f_X11_notAshore at h
  refine x_aload_n 0 dX11_notAshore_0 rfl rfl ?_
  refine x_iload_n 1 dX11_notAshore_1 rfl rfl ?_
  refine z_bnd h (fun q1 hq1 h => ?_)
  refine x_callV1 rfl (w_X11_findMan hq1) cw_X11_findMan q_366 ⟨by decide, by decide⟩ (Nat.le_of_ble_eq_true rfl) dX11_notAshore_2 rfl ?_
  refine x_astore_n (lo' := [(3, z_r 3 q1), (0, z_r 11 (some n0)), (1, z_i x1), (2, z_i x2)]) dX11_notAshore_5 rfl (by decide) rfl ?_
  refine x_aload_n 0 dX11_notAshore_6 rfl rfl ?_
  refine x_ifnonnull (tgt := 12) dX11_notAshore_7 (by decide) h (fun h => ?_) (fun h => ?_)
  · refine x_iload_n 3 dX11_notAshore_12 rfl rfl ?_
    refine x_iconst (v := (0 : Int32)) dX11_notAshore_13 (by decide) ?_
    refine x_aload_n 1 dX11_notAshore_14 rfl rfl ?_
    refine x_getI rfl ck_11 16 (by decide) rfl q_206 dX11_notAshore_15 ?_
    refine z_bnd h (fun q2 hq2 h => ?_)
    refine x_callS1 (w_X11_within hq2) cw_X11_within q_252 ⟨by decide, by decide⟩ (Nat.le_of_ble_eq_true rfl) dX11_notAshore_18 rfl ?_
    refine x_if_ne (tgt := 27) dX11_notAshore_21 (by decide) h (fun h => ?_) (fun h => ?_)
    · refine x_aload_n 0 dX11_notAshore_27 rfl rfl ?_
      refine x_iload_n 3 dX11_notAshore_28 rfl rfl ?_
      refine z_bnd h (fun a3 ha3 h => ?_)
      revert h
      subst ha3
      intro h
      refine z_bnd h (fun q4 hq4 h => ?_)
      refine x_callV1 rfl (w_X3_tidesOffShore hq4) cw_X3_tidesOffShore q_914 ⟨by decide, by decide⟩ (Nat.le_of_ble_eq_true rfl) dX11_notAshore_29 rfl ?_
      exact x_iret rfl dX11_notAshore_32 h
    · refine x_bipush (v := (-2 : Int32)) dX11_notAshore_24 (by decide) ?_
      exact x_iret rfl dX11_notAshore_26 h
  · refine x_iconst (v := (-1 : Int32)) dX11_notAshore_10 (by decide) ?_
    exact x_iret rfl dX11_notAshore_11 h
-- PressedMen kingsAtHome ()I
abbrev Y_X11_kingsAtHome : ZM := (yX11_kingsAtHome, cX11_kingsAtHome, 3, (some .int), 0, 0)
theorem cw_X11_kingsAtHome : z_CV Y_X11_kingsAtHome 11 0 := ⟨⟨_, _, rfl⟩, by decide, q_925, q_35, q_926, q_70, ⟨by decide, by decide⟩, rfl⟩
def b_X11_kingsAtHome_4 (n0 : Nat) (S : ZH) (v : Int32 × Int32) : Option ((Int32 × Int32) ⊕ (Int32)) :=
  if (zI S 11 n0 9) ≤ v.2 then (
    some (Sum.inr v.1)
  ) else (
    ((zR S 11 n0 8)).bind fun a1 =>
    (zldR S 25 a1 v.2).bind fun v2 =>
    (v2).bind fun a3 =>
    if ¬ (zI S 6 a3 0) = 0 then (
      some (Sum.inl (v.1, (v.2 + 1)))
    ) else (
      ((zR S 11 n0 8)).bind fun a4 =>
      (zldR S 25 a4 v.2).bind fun v5 =>
      (v5).bind fun a6 =>
      if (zI S 6 a6 4) = 0 then (
        some (Sum.inl (v.1, (v.2 + 1)))
      ) else (
        some (Sum.inl ((v.1 ||| ((1 : Int32) <<< (v.2 &&& 31))), (v.2 + 1)))
      )
    )
  )
def f_X11_kingsAtHome (n0 : Nat) (S : ZH) : Option (Int32) :=
  (z_iter zFU (b_X11_kingsAtHome_4 n0 S) ((0 : Int32), (0 : Int32))).bind fun t7 =>
  some t7
set_option maxRecDepth 20000 in
theorem l_X11_kingsAtHome_4 {S0 : ZH} {F : ZP} {n0 : Nat} {S : ZH} {v : Int32 × Int32} {t : Int32} (h : z_iter zFU (b_X11_kingsAtHome_4 n0 S) v = some t) (k : (fun t => Wp Y_X11_kingsAtHome S0 F 48 [(1, z_i t)] [] S) t) : Wp Y_X11_kingsAtHome S0 F 4 [(0, z_r 11 (some n0)), (1, z_i v.1), (2, z_i v.2)] [] S := by
  refine z_iter_P (P := fun v : Int32 × Int32 => Wp Y_X11_kingsAtHome S0 F 4 [(0, z_r 11 (some n0)), (1, z_i v.1), (2, z_i v.2)] [] S) (X := (fun t => Wp Y_X11_kingsAtHome S0 F 48 [(1, z_i t)] [] S)) ?_ _ _ _ h k
  clear h k v t
  intro v r h k
  unfold b_X11_kingsAtHome_4 at h
  refine x_iload_n 2 dX11_kingsAtHome_4 rfl rfl ?_
  refine x_aload_n 0 dX11_kingsAtHome_5 rfl rfl ?_
  refine x_getI rfl ck_11 9 (by decide) rfl q_199 dX11_kingsAtHome_6 ?_
  refine x_ic_ge (tgt := 48) dX11_kingsAtHome_9 (by decide) h (fun h => ?_) (fun h => ?_)
  · cases h
    exact x_lo [1] rfl k
  · refine x_aload_n 0 dX11_kingsAtHome_12 rfl rfl ?_
    refine x_getR rfl ck_11 8 (by decide) rfl q_198 dX11_kingsAtHome_13 ?_
    refine x_iload_n 2 dX11_kingsAtHome_16 rfl rfl ?_
    refine z_bnd h (fun a1 ha1 h => ?_)
    refine x_aaload ha1 ak_25 dX11_kingsAtHome_17 h (fun v2 hv2 h => ?_)
    refine z_bnd h (fun a3 ha3 h => ?_)
    revert h
    subst ha3
    intro h
    refine x_getI rfl ck_6 0 (by decide) rfl q_860 dX11_kingsAtHome_18 ?_
    refine x_if_ne (tgt := 42) dX11_kingsAtHome_21 (by decide) h (fun h => ?_) (fun h => ?_)
    · refine x_iinc (v := (v.2 + 1)) (lo' := [(2, z_i (v.2 + 1)), (0, z_r 11 (some n0)), (1, z_i v.1)]) 2 dX11_kingsAtHome_42 rfl (congrArg (HAdd.hAdd v.2) (by decide)) (by decide) rfl ?_
      refine x_goto (tgt := 4) dX11_kingsAtHome_45 (by decide) ?_
      cases h
      exact x_lo [1, 2, 0] rfl k
    · refine x_aload_n 0 dX11_kingsAtHome_24 rfl rfl ?_
      refine x_getR rfl ck_11 8 (by decide) rfl q_198 dX11_kingsAtHome_25 ?_
      refine x_iload_n 2 dX11_kingsAtHome_28 rfl rfl ?_
      refine z_bnd h (fun a4 ha4 h => ?_)
      refine x_aaload ha4 ak_25 dX11_kingsAtHome_29 h (fun v5 hv5 h => ?_)
      refine z_bnd h (fun a6 ha6 h => ?_)
      revert h
      subst ha6
      intro h
      refine x_getI rfl ck_6 4 (by decide) rfl q_868 dX11_kingsAtHome_30 ?_
      refine x_if_eq (tgt := 42) dX11_kingsAtHome_33 (by decide) h (fun h => ?_) (fun h => ?_)
      · refine x_iinc (v := (v.2 + 1)) (lo' := [(2, z_i (v.2 + 1)), (0, z_r 11 (some n0)), (1, z_i v.1)]) 2 dX11_kingsAtHome_42 rfl (congrArg (HAdd.hAdd v.2) (by decide)) (by decide) rfl ?_
        refine x_goto (tgt := 4) dX11_kingsAtHome_45 (by decide) ?_
        cases h
        exact x_lo [1, 2, 0] rfl k
      · refine x_iload_n 1 dX11_kingsAtHome_36 rfl rfl ?_
        refine x_iconst (v := (1 : Int32)) dX11_kingsAtHome_37 (by decide) ?_
        refine x_iload_n 2 dX11_kingsAtHome_38 rfl rfl ?_
        refine x_ishl dX11_kingsAtHome_39 ?_
        refine x_ior dX11_kingsAtHome_40 ?_
        refine x_istore_n (lo' := [(1, z_i (v.1 ||| ((1 : Int32) <<< (v.2 &&& 31)))), (0, z_r 11 (some n0)), (2, z_i v.2)]) dX11_kingsAtHome_41 rfl (by decide) rfl ?_
        refine x_iinc (v := (v.2 + 1)) (lo' := [(2, z_i (v.2 + 1)), (1, z_i (v.1 ||| ((1 : Int32) <<< (v.2 &&& 31)))), (0, z_r 11 (some n0))]) 2 dX11_kingsAtHome_42 rfl (congrArg (HAdd.hAdd v.2) (by decide)) (by decide) rfl ?_
        refine x_goto (tgt := 4) dX11_kingsAtHome_45 (by decide) ?_
        cases h
        exact x_lo [2, 1, 0] rfl k
set_option maxRecDepth 20000 in
set_option maxHeartbeats 1000000 in
theorem w_X11_kingsAtHome {n0 : Nat} {S : ZH} {q : Int32} (h : f_X11_kingsAtHome n0 S = some q) : MetX Y_X11_kingsAtHome S [z_r 11 (some n0)] (some (z_i q)) S := by
  refine MetX.of (lo := [(0, z_r 11 (some n0))]) rfl (by decide) (Nat.le_of_ble_eq_true rfl) ?_
  unfold f_X11_kingsAtHome at h
  refine x_iconst (v := (0 : Int32)) dX11_kingsAtHome_0 (by decide) ?_
  refine x_istore_n (lo' := [(1, z_i (0 : Int32)), (0, z_r 11 (some n0))]) dX11_kingsAtHome_1 rfl (by decide) rfl ?_
  refine x_iconst (v := (0 : Int32)) dX11_kingsAtHome_2 (by decide) ?_
  refine x_istore_n (lo' := [(2, z_i (0 : Int32)), (1, z_i (0 : Int32)), (0, z_r 11 (some n0))]) dX11_kingsAtHome_3 rfl (by decide) rfl ?_
  refine z_bnd h (fun t7 ht7 h => ?_)
  refine x_lo [2, 1, 0] rfl ?_
  refine l_X11_kingsAtHome_4 ht7 ?_
  refine x_iload_n 0 dX11_kingsAtHome_48 rfl rfl ?_
  exact x_iret rfl dX11_kingsAtHome_49 h
-- PressedMen$Levy begin (II)V
abbrev Y_X2_begin : ZM := (yX2_begin, cX2_begin, 3, none, 0, 0)
theorem cw_X2_begin : z_CV Y_X2_begin 2 2 := ⟨⟨_, _, rfl⟩, by decide, q_932, q_933, q_934, q_74, ⟨by decide, by decide⟩, rfl⟩
def f_X2_begin (n0 : Nat) (x1 : Int32) (x2 : Int32) (S : ZH) : Option (ZH) :=
  some (zsI (zsI (zsI (zsI S 2 n0 0 x1) 2 n0 1 x2) 2 n0 2 (0 : Int32)) 2 n0 3 (0 : Int32))
set_option maxRecDepth 20000 in
set_option maxHeartbeats 1000000 in
theorem w_X2_begin {n0 : Nat} {x1 : Int32} {x2 : Int32} {S : ZH} {q : ZH} (h : f_X2_begin n0 x1 x2 S = some q) : MetX Y_X2_begin S [z_r 2 (some n0), z_i x1, z_i x2] none q := by
  refine MetX.of (lo := [(0, z_r 2 (some n0)), (1, z_i x1), (2, z_i x2)]) rfl (by decide) (Nat.le_of_ble_eq_true rfl) ?_
  unfold f_X2_begin at h
  refine x_aload_n 0 dX2_begin_0 rfl rfl ?_
  refine x_iload_n 1 dX2_begin_1 rfl rfl ?_
  refine x_putI rfl ck_2 0 (by decide) rfl (Or.inl rfl) (by rfl) rfl q_173 dX2_begin_2 ?_
  refine x_aload_n 0 dX2_begin_5 rfl rfl ?_
  refine x_iload_n 2 dX2_begin_6 rfl rfl ?_
  refine x_putI rfl ck_2 1 (by decide) rfl (Or.inl rfl) (by rfl) rfl q_174 dX2_begin_7 ?_
  refine x_aload_n 0 dX2_begin_10 rfl rfl ?_
  refine x_iconst (v := (0 : Int32)) dX2_begin_11 (by decide) ?_
  refine x_putI rfl ck_2 2 (by decide) rfl (Or.inl rfl) (by rfl) rfl q_175 dX2_begin_12 ?_
  refine x_aload_n 0 dX2_begin_15 rfl rfl ?_
  refine x_iconst (v := (0 : Int32)) dX2_begin_16 (by decide) ?_
  refine x_putI rfl ck_2 3 (by decide) rfl (Or.inl rfl) (by rfl) rfl q_176 dX2_begin_17 ?_
  exact x_vretE rfl dX2_begin_20 h
-- PressedMen$Levy addCrew (II)V
abbrev Y_X2_addCrew : ZM := (yX2_addCrew, cX2_addCrew, 3, none, 0, 0)
theorem cw_X2_addCrew : z_CV Y_X2_addCrew 2 2 := ⟨⟨_, _, rfl⟩, by decide, q_936, q_937, q_938, q_74, ⟨by decide, by decide⟩, rfl⟩
def f_X2_addCrew (n0 : Nat) (x1 : Int32) (x2 : Int32) (S : ZH) : Option (ZH) :=
  some (zsI (zsI S 2 n0 0 ((zI S 2 n0 0) + x1)) 2 n0 1 ((zI (zsI S 2 n0 0 ((zI S 2 n0 0) + x1)) 2 n0 1) + x2))
set_option maxRecDepth 20000 in
set_option maxHeartbeats 1000000 in
theorem w_X2_addCrew {n0 : Nat} {x1 : Int32} {x2 : Int32} {S : ZH} {q : ZH} (h : f_X2_addCrew n0 x1 x2 S = some q) : MetX Y_X2_addCrew S [z_r 2 (some n0), z_i x1, z_i x2] none q := by
  refine MetX.of (lo := [(0, z_r 2 (some n0)), (1, z_i x1), (2, z_i x2)]) rfl (by decide) (Nat.le_of_ble_eq_true rfl) ?_
  unfold f_X2_addCrew at h
  refine x_aload_n 0 dX2_addCrew_0 rfl rfl ?_
  refine x_dup dX2_addCrew_1 rfl ?_
  refine x_getI rfl ck_2 0 (by decide) rfl q_173 dX2_addCrew_2 ?_
  refine x_iload_n 1 dX2_addCrew_5 rfl rfl ?_
  refine x_iadd dX2_addCrew_6 ?_
  refine x_putI rfl ck_2 0 (by decide) rfl (Or.inl rfl) (by rfl) rfl q_173 dX2_addCrew_7 ?_
  refine x_aload_n 0 dX2_addCrew_10 rfl rfl ?_
  refine x_dup dX2_addCrew_11 rfl ?_
  refine x_getI rfl ck_2 1 (by decide) rfl q_174 dX2_addCrew_12 ?_
  refine x_iload_n 2 dX2_addCrew_15 rfl rfl ?_
  refine x_iadd dX2_addCrew_16 ?_
  refine x_putI rfl ck_2 1 (by decide) rfl (Or.inl rfl) (by rfl) rfl q_174 dX2_addCrew_17 ?_
  exact x_vretE rfl dX2_addCrew_20 h
-- PressedMen$Levy addSpare (II)V
abbrev Y_X2_addSpare : ZM := (yX2_addSpare, cX2_addSpare, 3, none, 1, 21)
theorem cw_X2_addSpare : z_CV Y_X2_addSpare 2 2 := ⟨⟨_, _, rfl⟩, by decide, q_940, q_941, q_942, q_74, ⟨by decide, by decide⟩, rfl⟩
def f_X2_addSpare (n0 : Nat) (x1 : Int32) (x2 : Int32) (S : ZH) : Option (ZH) :=
  (f_J9_min_7cf53 x1 x2 (zsI S 2 n0 2 ((zI S 2 n0 2) + x1))).bind fun q1 =>
  some (zsI (zsI S 2 n0 2 ((zI S 2 n0 2) + x1)) 2 n0 3 ((zI (zsI S 2 n0 2 ((zI S 2 n0 2) + x1)) 2 n0 3) + q1))
set_option maxRecDepth 20000 in
set_option maxHeartbeats 1000000 in
theorem w_X2_addSpare {n0 : Nat} {x1 : Int32} {x2 : Int32} {S : ZH} {q : ZH} (h : f_X2_addSpare n0 x1 x2 S = some q) : MetX Y_X2_addSpare S [z_r 2 (some n0), z_i x1, z_i x2] none q := by
  refine MetX.of (lo := [(0, z_r 2 (some n0)), (1, z_i x1), (2, z_i x2)]) rfl (by decide) (Nat.le_of_ble_eq_true rfl) ?_
  unfold f_X2_addSpare at h
  refine x_aload_n 0 dX2_addSpare_0 rfl rfl ?_
  refine x_dup dX2_addSpare_1 rfl ?_
  refine x_getI rfl ck_2 2 (by decide) rfl q_175 dX2_addSpare_2 ?_
  refine x_iload_n 1 dX2_addSpare_5 rfl rfl ?_
  refine x_iadd dX2_addSpare_6 ?_
  refine x_putI rfl ck_2 2 (by decide) rfl (Or.inl rfl) (by rfl) rfl q_175 dX2_addSpare_7 ?_
  refine x_aload_n 0 dX2_addSpare_10 rfl rfl ?_
  refine x_dup dX2_addSpare_11 rfl ?_
  refine x_getI rfl ck_2 3 (by decide) rfl q_176 dX2_addSpare_12 ?_
  refine x_iload_n 1 dX2_addSpare_15 rfl rfl ?_
  refine x_iload_n 2 dX2_addSpare_16 rfl rfl ?_
  refine z_bnd h (fun q1 hq1 h => ?_)
  refine x_callS1 (w_J9_min_7cf53 hq1) cw_J9_min_7cf53 q_943 ⟨by decide, by decide⟩ (Nat.le_of_ble_eq_true rfl) dX2_addSpare_17 rfl ?_
  refine x_iadd dX2_addSpare_20 ?_
  refine x_putI rfl ck_2 3 (by decide) rfl (Or.inl rfl) (by rfl) rfl q_176 dX2_addSpare_21 ?_
  exact x_vretE rfl dX2_addSpare_24 h
-- PressedMen musterLevy (I)V
abbrev Y_X11_musterLevy : ZM := (yX11_musterLevy, cX11_musterLevy, 6, none, 2, 43)
theorem cw_X11_musterLevy : z_CV Y_X11_musterLevy 11 1 := ⟨⟨_, _, rfl⟩, by decide, q_929, q_36, q_930, q_70, ⟨by decide, by decide⟩, rfl⟩
def b_X11_musterLevy_21 (n0 : Nat) (x1 : Int32) (v : Int32 × ZH) : Option ((Int32 × ZH) ⊕ (ZH)) :=
  if (zI v.2 11 n0 9) ≤ v.1 then (
    some (Sum.inr v.2)
  ) else (
    ((zR v.2 11 n0 8)).bind fun a5 =>
    (zldR v.2 25 a5 v.1).bind fun v6 =>
    (v6).bind fun a7 =>
    if ¬ (zI v.2 6 a7 4) = 0 then (
      (f_X11_menIn n0 ((10 : Int32) + v.1) v.2).bind fun q8 =>
      (f_X11_seamenIn n0 ((10 : Int32) + v.1) v.2).bind fun q9 =>
      if ¬ (zI v.2 6 a7 0) = 0 then (
        (f_X11_spareOf (some a7) q8 x1 v.2).bind fun q10 =>
        ((zR v.2 11 n0 15)).bind fun a11 =>
        (f_X2_addSpare a11 q10 q9 v.2).bind fun q12 =>
        some (Sum.inl ((v.1 + 1), q12))
      ) else (
        ((zR v.2 11 n0 15)).bind fun a13 =>
        (f_X2_addCrew a13 q8 q9 v.2).bind fun q14 =>
        some (Sum.inl ((v.1 + 1), q14))
      )
    ) else (
      some (Sum.inl ((v.1 + 1), v.2))
    )
  )
def f_X11_musterLevy (n0 : Nat) (x1 : Int32) (S : ZH) : Option (ZH) :=
  (f_X11_menIn n0 (20 : Int32) S).bind fun q1 =>
  (f_X11_seamenIn n0 (20 : Int32) S).bind fun q2 =>
  ((zR S 11 n0 15)).bind fun a3 =>
  (f_X2_begin a3 q1 q2 S).bind fun q4 =>
  (z_iter zFU (b_X11_musterLevy_21 n0 x1) ((0 : Int32), q4)).bind fun t15 =>
  some t15
set_option maxRecDepth 20000 in
theorem l_X11_musterLevy_21 {S0 : ZH} {F : ZP} {n0 : Nat} {x1 : Int32} {v : Int32 × ZH} {t : ZH} (h : z_iter zFU (b_X11_musterLevy_21 n0 x1) v = some t) (k : (fun t => Wp Y_X11_musterLevy S0 F 109 [] [] t) t) : Wp Y_X11_musterLevy S0 F 21 [(0, z_r 11 (some n0)), (1, z_i x1), (2, z_i v.1)] [] v.2 := by
  refine z_iter_P (P := fun v : Int32 × ZH => Wp Y_X11_musterLevy S0 F 21 [(0, z_r 11 (some n0)), (1, z_i x1), (2, z_i v.1)] [] v.2) (X := (fun t => Wp Y_X11_musterLevy S0 F 109 [] [] t)) ?_ _ _ _ h k
  clear h k v t
  intro v r h k
  unfold b_X11_musterLevy_21 at h
  refine x_iload_n 2 dX11_musterLevy_21 rfl rfl ?_
  refine x_aload_n 0 dX11_musterLevy_22 rfl rfl ?_
  refine x_getI rfl ck_11 9 (by decide) rfl q_199 dX11_musterLevy_23 ?_
  refine x_ic_ge (tgt := 109) dX11_musterLevy_26 (by decide) h (fun h => ?_) (fun h => ?_)
  · cases h
    exact x_lo [] rfl k
  · refine x_aload_n 0 dX11_musterLevy_29 rfl rfl ?_
    refine x_getR rfl ck_11 8 (by decide) rfl q_198 dX11_musterLevy_30 ?_
    refine x_iload_n 2 dX11_musterLevy_33 rfl rfl ?_
    refine z_bnd h (fun a5 ha5 h => ?_)
    refine x_aaload ha5 ak_25 dX11_musterLevy_34 h (fun v6 hv6 h => ?_)
    refine x_astore_n (lo' := [(3, z_r 6 v6), (0, z_r 11 (some n0)), (1, z_i x1), (2, z_i v.1)]) dX11_musterLevy_35 rfl (by decide) rfl ?_
    refine x_aload_n 0 dX11_musterLevy_36 rfl rfl ?_
    refine z_bnd h (fun a7 ha7 h => ?_)
    revert h
    subst ha7
    intro h
    refine x_getI rfl ck_6 4 (by decide) rfl q_868 dX11_musterLevy_37 ?_
    refine x_if_ne (tgt := 46) dX11_musterLevy_40 (by decide) h (fun h => ?_) (fun h => ?_)
    · refine x_aload_n 1 dX11_musterLevy_46 rfl rfl ?_
      refine x_bipush (v := (10 : Int32)) dX11_musterLevy_47 (by decide) ?_
      refine x_iload_n 3 dX11_musterLevy_49 rfl rfl ?_
      refine x_iadd dX11_musterLevy_50 ?_
      refine z_bnd h (fun q8 hq8 h => ?_)
      refine x_callV1 rfl (w_X11_menIn hq8) cw_X11_menIn q_398 ⟨by decide, by decide⟩ (Nat.le_of_ble_eq_true rfl) dX11_musterLevy_51 rfl ?_
      refine x_istore (lo' := [(4, z_i q8), (3, z_r 6 (some a7)), (0, z_r 11 (some n0)), (1, z_i x1), (2, z_i v.1)]) dX11_musterLevy_54 (by decide) rfl ?_
      refine x_aload_n 2 dX11_musterLevy_56 rfl rfl ?_
      refine x_bipush (v := (10 : Int32)) dX11_musterLevy_57 (by decide) ?_
      refine x_iload_n 4 dX11_musterLevy_59 rfl rfl ?_
      refine x_iadd dX11_musterLevy_60 ?_
      refine z_bnd h (fun q9 hq9 h => ?_)
      refine x_callV1 rfl (w_X11_seamenIn hq9) cw_X11_seamenIn q_884 ⟨by decide, by decide⟩ (Nat.le_of_ble_eq_true rfl) dX11_musterLevy_61 rfl ?_
      refine x_istore (lo' := [(5, z_i q9), (4, z_i q8), (3, z_r 6 (some a7)), (0, z_r 11 (some n0)), (1, z_i x1), (2, z_i v.1)]) dX11_musterLevy_64 (by decide) rfl ?_
      refine x_aload_n 2 dX11_musterLevy_66 rfl rfl ?_
      refine x_getI rfl ck_6 0 (by decide) rfl q_860 dX11_musterLevy_67 ?_
      refine x_if_ne (tgt := 87) dX11_musterLevy_70 (by decide) h (fun h => ?_) (fun h => ?_)
      · refine x_aload_n 3 dX11_musterLevy_87 rfl rfl ?_
        refine x_getR rfl ck_11 15 (by decide) rfl q_205 dX11_musterLevy_88 ?_
        refine x_aload_n 2 dX11_musterLevy_91 rfl rfl ?_
        refine x_iload 1 dX11_musterLevy_92 rfl ?_
        refine x_iload_n 4 dX11_musterLevy_94 rfl rfl ?_
        refine z_bnd h (fun q10 hq10 h => ?_)
        refine x_callS1 (w_X11_spareOf hq10) cw_X11_spareOf q_899 ⟨by decide, by decide⟩ (Nat.le_of_ble_eq_true rfl) dX11_musterLevy_95 rfl ?_
        refine x_iload 0 dX11_musterLevy_98 rfl ?_
        refine z_bnd h (fun a11 ha11 h => ?_)
        refine z_bnd h (fun q12 hq12 h => ?_)
        refine x_callVv ha11 (w_X2_addSpare hq12) cw_X2_addSpare q_939 ⟨by decide, by decide⟩ (Nat.le_of_ble_eq_true rfl) dX11_musterLevy_100 rfl ?_
        refine x_iinc (v := (v.1 + 1)) (lo' := [(2, z_i (v.1 + 1)), (5, z_i q9), (4, z_i q8), (3, z_r 6 (some a7)), (0, z_r 11 (some n0)), (1, z_i x1)]) 5 dX11_musterLevy_103 rfl (congrArg (HAdd.hAdd v.1) (by decide)) (by decide) rfl ?_
        refine x_goto (tgt := 21) dX11_musterLevy_106 (by decide) ?_
        cases h
        exact x_lo [4, 5, 0] rfl k
      · refine x_aload_n 3 dX11_musterLevy_73 rfl rfl ?_
        refine x_getR rfl ck_11 15 (by decide) rfl q_205 dX11_musterLevy_74 ?_
        refine x_iload 1 dX11_musterLevy_77 rfl ?_
        refine x_iload 0 dX11_musterLevy_79 rfl ?_
        refine z_bnd h (fun a13 ha13 h => ?_)
        refine z_bnd h (fun q14 hq14 h => ?_)
        refine x_callVv ha13 (w_X2_addCrew hq14) cw_X2_addCrew q_935 ⟨by decide, by decide⟩ (Nat.le_of_ble_eq_true rfl) dX11_musterLevy_81 rfl ?_
        refine x_goto (tgt := 103) dX11_musterLevy_84 (by decide) ?_
        refine x_iinc (v := (v.1 + 1)) (lo' := [(2, z_i (v.1 + 1)), (5, z_i q9), (4, z_i q8), (3, z_r 6 (some a7)), (0, z_r 11 (some n0)), (1, z_i x1)]) 5 dX11_musterLevy_103 rfl (congrArg (HAdd.hAdd v.1) (by decide)) (by decide) rfl ?_
        refine x_goto (tgt := 21) dX11_musterLevy_106 (by decide) ?_
        cases h
        exact x_lo [4, 5, 0] rfl k
    · refine x_goto (tgt := 103) dX11_musterLevy_43 (by decide) ?_
      refine x_iinc (v := (v.1 + 1)) (lo' := [(2, z_i (v.1 + 1)), (3, z_r 6 (some a7)), (0, z_r 11 (some n0)), (1, z_i x1)]) 3 dX11_musterLevy_103 rfl (congrArg (HAdd.hAdd v.1) (by decide)) (by decide) rfl ?_
      refine x_goto (tgt := 21) dX11_musterLevy_106 (by decide) ?_
      cases h
      exact x_lo [2, 3, 0] rfl k
set_option maxRecDepth 20000 in
set_option maxHeartbeats 1000000 in
theorem w_X11_musterLevy {n0 : Nat} {x1 : Int32} {S : ZH} {q : ZH} (h : f_X11_musterLevy n0 x1 S = some q) : MetX Y_X11_musterLevy S [z_r 11 (some n0), z_i x1] none q := by
  refine MetX.of (lo := [(0, z_r 11 (some n0)), (1, z_i x1)]) rfl (by decide) (Nat.le_of_ble_eq_true rfl) ?_
  unfold f_X11_musterLevy at h
  refine x_aload_n 0 dX11_musterLevy_0 rfl rfl ?_
  refine x_getR rfl ck_11 15 (by decide) rfl q_205 dX11_musterLevy_1 ?_
  refine x_aload_n 0 dX11_musterLevy_4 rfl rfl ?_
  refine x_bipush (v := (20 : Int32)) dX11_musterLevy_5 (by decide) ?_
  refine z_bnd h (fun q1 hq1 h => ?_)
  refine x_callV1 rfl (w_X11_menIn hq1) cw_X11_menIn q_398 ⟨by decide, by decide⟩ (Nat.le_of_ble_eq_true rfl) dX11_musterLevy_7 rfl ?_
  refine x_aload_n 0 dX11_musterLevy_10 rfl rfl ?_
  refine x_bipush (v := (20 : Int32)) dX11_musterLevy_11 (by decide) ?_
  refine z_bnd h (fun q2 hq2 h => ?_)
  refine x_callV1 rfl (w_X11_seamenIn hq2) cw_X11_seamenIn q_884 ⟨by decide, by decide⟩ (Nat.le_of_ble_eq_true rfl) dX11_musterLevy_13 rfl ?_
  refine z_bnd h (fun a3 ha3 h => ?_)
  refine z_bnd h (fun q4 hq4 h => ?_)
  refine x_callVv ha3 (w_X2_begin hq4) cw_X2_begin q_931 ⟨by decide, by decide⟩ (Nat.le_of_ble_eq_true rfl) dX11_musterLevy_16 rfl ?_
  refine x_iconst (v := (0 : Int32)) dX11_musterLevy_19 (by decide) ?_
  refine x_istore_n (lo' := [(2, z_i (0 : Int32)), (0, z_r 11 (some n0)), (1, z_i x1)]) dX11_musterLevy_20 rfl (by decide) rfl ?_
  refine z_bnd h (fun t15 ht15 h => ?_)
  refine x_lo [1, 2, 0] rfl ?_
  refine l_X11_musterLevy_21 ht15 ?_
  exact x_vretE rfl dX11_musterLevy_109 h
-- PressedMen$Levy leastFor (II)I
abbrev Y_X2_leastFor : ZM := (yX2_leastFor, cX2_leastFor, 5, (some .int), 1, 21)
theorem cw_X2_leastFor : z_CV Y_X2_leastFor 2 2 := ⟨⟨_, _, rfl⟩, by decide, q_949, q_950, q_951, q_74, ⟨by decide, by decide⟩, rfl⟩
def f_X2_leastFor (n0 : Nat) (x1 : Int32) (x2 : Int32) (S : ZH) : Option (Int32) :=
  (f_J9_max_7cf53 (0 : Int32) (x2 - (zI S 2 n0 1)) S).bind fun q1 =>
  (f_J9_max_7cf53 q1 (x1 - (zI S 2 n0 0)) S).bind fun q2 =>
  if (zI S 2 n0 3) < q1 then (
    some (-9 : Int32)
  ) else (
    if (zI S 2 n0 2) < q2 then (
      some (-9 : Int32)
    ) else (
      some q2
    )
  )
set_option maxRecDepth 20000 in
set_option maxHeartbeats 1000000 in
theorem w_X2_leastFor {n0 : Nat} {x1 : Int32} {x2 : Int32} {S : ZH} {q : Int32} (h : f_X2_leastFor n0 x1 x2 S = some q) : MetX Y_X2_leastFor S [z_r 2 (some n0), z_i x1, z_i x2] (some (z_i q)) S := by
  refine MetX.of (lo := [(0, z_r 2 (some n0)), (1, z_i x1), (2, z_i x2)]) rfl (by decide) (Nat.le_of_ble_eq_true rfl) ?_
  unfold f_X2_leastFor at h
  refine x_iconst (v := (0 : Int32)) dX2_leastFor_0 (by decide) ?_
  refine x_iload_n 2 dX2_leastFor_1 rfl rfl ?_
  refine x_aload_n 0 dX2_leastFor_2 rfl rfl ?_
  refine x_getI rfl ck_2 1 (by decide) rfl q_174 dX2_leastFor_3 ?_
  refine x_isub dX2_leastFor_6 ?_
  refine z_bnd h (fun q1 hq1 h => ?_)
  refine x_callS1 (w_J9_max_7cf53 hq1) cw_J9_max_7cf53 q_952 ⟨by decide, by decide⟩ (Nat.le_of_ble_eq_true rfl) dX2_leastFor_7 rfl ?_
  refine x_istore_n (lo' := [(3, z_i q1), (0, z_r 2 (some n0)), (1, z_i x1), (2, z_i x2)]) dX2_leastFor_10 rfl (by decide) rfl ?_
  refine x_iload_n 0 dX2_leastFor_11 rfl rfl ?_
  refine x_iload_n 2 dX2_leastFor_12 rfl rfl ?_
  refine x_aload_n 1 dX2_leastFor_13 rfl rfl ?_
  refine x_getI rfl ck_2 0 (by decide) rfl q_173 dX2_leastFor_14 ?_
  refine x_isub dX2_leastFor_17 ?_
  refine z_bnd h (fun q2 hq2 h => ?_)
  refine x_callS1 (w_J9_max_7cf53 hq2) cw_J9_max_7cf53 q_952 ⟨by decide, by decide⟩ (Nat.le_of_ble_eq_true rfl) dX2_leastFor_18 rfl ?_
  refine x_istore (lo' := [(4, z_i q2), (3, z_i q1), (0, z_r 2 (some n0)), (1, z_i x1), (2, z_i x2)]) dX2_leastFor_21 (by decide) rfl ?_
  refine x_iload_n 1 dX2_leastFor_23 rfl rfl ?_
  refine x_aload_n 2 dX2_leastFor_24 rfl rfl ?_
  refine x_getI rfl ck_2 3 (by decide) rfl q_176 dX2_leastFor_25 ?_
  refine x_ic_gt (tgt := 45) dX2_leastFor_28 (by decide) h (fun h => ?_) (fun h => ?_)
  · refine x_bipush (v := (-9 : Int32)) dX2_leastFor_45 (by decide) ?_
    exact x_iret rfl dX2_leastFor_47 h
  · refine x_iload 0 dX2_leastFor_31 rfl ?_
    refine x_aload_n 2 dX2_leastFor_33 rfl rfl ?_
    refine x_getI rfl ck_2 2 (by decide) rfl q_175 dX2_leastFor_34 ?_
    refine x_ic_gt (tgt := 45) dX2_leastFor_37 (by decide) h (fun h => ?_) (fun h => ?_)
    · refine x_bipush (v := (-9 : Int32)) dX2_leastFor_45 (by decide) ?_
      exact x_iret rfl dX2_leastFor_47 h
    · refine x_iload 0 dX2_leastFor_40 rfl ?_
      refine x_goto (tgt := 47) dX2_leastFor_42 (by decide) ?_
      exact x_iret rfl dX2_leastFor_47 h
-- PressedMen leastTaken (I)I
abbrev Y_X11_leastTaken : ZM := (yX11_leastTaken, cX11_leastTaken, 5, (some .int), 2, 45)
theorem cw_X11_leastTaken : z_CV Y_X11_leastTaken 11 1 := ⟨⟨_, _, rfl⟩, by decide, q_946, q_37, q_947, q_70, ⟨by decide, by decide⟩, rfl⟩
def b_X11_leastTaken_7 (n0 : Nat) (x1 : Int32) (S : ZH) (v : Int32 × Int32 × Int32) : Option ((Int32 × Int32 × Int32) ⊕ (Int32 × Int32)) :=
  if (zI S 11 n0 9) ≤ v.2.2 then (
    some (Sum.inr (v.1, v.2.1))
  ) else (
    if ¬ ((x1 >>> (v.2.2 &&& 31)) &&& (1 : Int32)) = (1 : Int32) then (
      some (Sum.inl (v.1, v.2.1, (v.2.2 + 1)))
    ) else (
      ((zR S 11 n0 8)).bind fun a1 =>
      (zldR S 25 a1 v.2.2).bind fun v2 =>
      (v2).bind fun a3 =>
      ((zR S 11 n0 8)).bind fun a4 =>
      (zldR S 25 a4 v.2.2).bind fun v5 =>
      (v5).bind fun a6 =>
      some (Sum.inl ((v.1 + (zI S 6 a3 1)), (v.2.1 + (zI S 6 a6 2)), (v.2.2 + 1)))
    )
  )
def f_X11_leastTaken (n0 : Nat) (x1 : Int32) (S : ZH) : Option (Int32) :=
  (z_iter zFU (b_X11_leastTaken_7 n0 x1 S) ((0 : Int32), (0 : Int32), (0 : Int32))).bind fun t7 =>
  ((zR S 11 n0 15)).bind fun a8 =>
  (f_X2_leastFor a8 t7.1 t7.2 S).bind fun q9 =>
  some q9
set_option maxRecDepth 20000 in
theorem l_X11_leastTaken_7 {S0 : ZH} {F : ZP} {n0 : Nat} {x1 : Int32} {S : ZH} {v : Int32 × Int32 × Int32} {t : Int32 × Int32} (h : z_iter zFU (b_X11_leastTaken_7 n0 x1 S) v = some t) (k : (fun t => Wp Y_X11_leastTaken S0 F 58 [(0, z_r 11 (some n0)), (2, z_i t.1), (3, z_i t.2)] [] S) t) : Wp Y_X11_leastTaken S0 F 7 [(0, z_r 11 (some n0)), (1, z_i x1), (2, z_i v.1), (3, z_i v.2.1), (4, z_i v.2.2)] [] S := by
  refine z_iter_P (P := fun v : Int32 × Int32 × Int32 => Wp Y_X11_leastTaken S0 F 7 [(0, z_r 11 (some n0)), (1, z_i x1), (2, z_i v.1), (3, z_i v.2.1), (4, z_i v.2.2)] [] S) (X := (fun t => Wp Y_X11_leastTaken S0 F 58 [(0, z_r 11 (some n0)), (2, z_i t.1), (3, z_i t.2)] [] S)) ?_ _ _ _ h k
  clear h k v t
  intro v r h k
  unfold b_X11_leastTaken_7 at h
  refine x_iload 4 dX11_leastTaken_7 rfl ?_
  refine x_aload_n 0 dX11_leastTaken_9 rfl rfl ?_
  refine x_getI rfl ck_11 9 (by decide) rfl q_199 dX11_leastTaken_10 ?_
  refine x_ic_ge (tgt := 58) dX11_leastTaken_13 (by decide) h (fun h => ?_) (fun h => ?_)
  · cases h
    exact x_lo [0, 2, 3] rfl k
  · refine x_iload_n 1 dX11_leastTaken_16 rfl rfl ?_
    refine x_iload 4 dX11_leastTaken_17 rfl ?_
    refine x_ishr dX11_leastTaken_19 ?_
    refine x_iconst (v := (1 : Int32)) dX11_leastTaken_20 (by decide) ?_
    refine x_iand dX11_leastTaken_21 ?_
    refine x_iconst (v := (1 : Int32)) dX11_leastTaken_22 (by decide) ?_
    refine x_ic_ne (tgt := 52) dX11_leastTaken_23 (by decide) h (fun h => ?_) (fun h => ?_)
    · refine x_iinc (v := (v.2.2 + 1)) (lo' := [(4, z_i (v.2.2 + 1)), (0, z_r 11 (some n0)), (1, z_i x1), (2, z_i v.1), (3, z_i v.2.1)]) 4 dX11_leastTaken_52 rfl (congrArg (HAdd.hAdd v.2.2) (by decide)) (by decide) rfl ?_
      refine x_goto (tgt := 7) dX11_leastTaken_55 (by decide) ?_
      cases h
      exact x_lo [1, 2, 3, 4, 0] rfl k
    · refine x_iload_n 2 dX11_leastTaken_26 rfl rfl ?_
      refine x_aload_n 0 dX11_leastTaken_27 rfl rfl ?_
      refine x_getR rfl ck_11 8 (by decide) rfl q_198 dX11_leastTaken_28 ?_
      refine x_iload 4 dX11_leastTaken_31 rfl ?_
      refine z_bnd h (fun a1 ha1 h => ?_)
      refine x_aaload ha1 ak_25 dX11_leastTaken_33 h (fun v2 hv2 h => ?_)
      refine z_bnd h (fun a3 ha3 h => ?_)
      revert h
      subst ha3
      intro h
      refine x_getI rfl ck_6 1 (by decide) rfl q_862 dX11_leastTaken_34 ?_
      refine x_iadd dX11_leastTaken_37 ?_
      refine x_istore_n (lo' := [(2, z_i (v.1 + (zI S 6 a3 1))), (0, z_r 11 (some n0)), (1, z_i x1), (3, z_i v.2.1), (4, z_i v.2.2)]) dX11_leastTaken_38 rfl (by decide) rfl ?_
      refine x_iload_n 3 dX11_leastTaken_39 rfl rfl ?_
      refine x_aload_n 1 dX11_leastTaken_40 rfl rfl ?_
      refine x_getR rfl ck_11 8 (by decide) rfl q_198 dX11_leastTaken_41 ?_
      refine x_iload 4 dX11_leastTaken_44 rfl ?_
      refine z_bnd h (fun a4 ha4 h => ?_)
      refine x_aaload ha4 ak_25 dX11_leastTaken_46 h (fun v5 hv5 h => ?_)
      refine z_bnd h (fun a6 ha6 h => ?_)
      revert h
      subst ha6
      intro h
      refine x_getI rfl ck_6 2 (by decide) rfl q_864 dX11_leastTaken_47 ?_
      refine x_iadd dX11_leastTaken_50 ?_
      refine x_istore_n (lo' := [(3, z_i (v.2.1 + (zI S 6 a6 2))), (2, z_i (v.1 + (zI S 6 a3 1))), (0, z_r 11 (some n0)), (1, z_i x1), (4, z_i v.2.2)]) dX11_leastTaken_51 rfl (by decide) rfl ?_
      refine x_iinc (v := (v.2.2 + 1)) (lo' := [(4, z_i (v.2.2 + 1)), (3, z_i (v.2.1 + (zI S 6 a6 2))), (2, z_i (v.1 + (zI S 6 a3 1))), (0, z_r 11 (some n0)), (1, z_i x1)]) 4 dX11_leastTaken_52 rfl (congrArg (HAdd.hAdd v.2.2) (by decide)) (by decide) rfl ?_
      refine x_goto (tgt := 7) dX11_leastTaken_55 (by decide) ?_
      cases h
      exact x_lo [3, 4, 2, 1, 0] rfl k
set_option maxRecDepth 20000 in
set_option maxHeartbeats 1000000 in
theorem w_X11_leastTaken {n0 : Nat} {x1 : Int32} {S : ZH} {q : Int32} (h : f_X11_leastTaken n0 x1 S = some q) : MetX Y_X11_leastTaken S [z_r 11 (some n0), z_i x1] (some (z_i q)) S := by
  refine MetX.of (lo := [(0, z_r 11 (some n0)), (1, z_i x1)]) rfl (by decide) (Nat.le_of_ble_eq_true rfl) ?_
  unfold f_X11_leastTaken at h
  refine x_iconst (v := (0 : Int32)) dX11_leastTaken_0 (by decide) ?_
  refine x_istore_n (lo' := [(2, z_i (0 : Int32)), (0, z_r 11 (some n0)), (1, z_i x1)]) dX11_leastTaken_1 rfl (by decide) rfl ?_
  refine x_iconst (v := (0 : Int32)) dX11_leastTaken_2 (by decide) ?_
  refine x_istore_n (lo' := [(3, z_i (0 : Int32)), (2, z_i (0 : Int32)), (0, z_r 11 (some n0)), (1, z_i x1)]) dX11_leastTaken_3 rfl (by decide) rfl ?_
  refine x_iconst (v := (0 : Int32)) dX11_leastTaken_4 (by decide) ?_
  refine x_istore (lo' := [(4, z_i (0 : Int32)), (3, z_i (0 : Int32)), (2, z_i (0 : Int32)), (0, z_r 11 (some n0)), (1, z_i x1)]) dX11_leastTaken_5 (by decide) rfl ?_
  refine z_bnd h (fun t7 ht7 h => ?_)
  refine x_lo [3, 4, 2, 1, 0] rfl ?_
  refine l_X11_leastTaken_7 ht7 ?_
  refine x_aload_n 0 dX11_leastTaken_58 rfl rfl ?_
  refine x_getR rfl ck_11 15 (by decide) rfl q_205 dX11_leastTaken_59 ?_
  refine x_iload_n 1 dX11_leastTaken_62 rfl rfl ?_
  refine x_iload_n 2 dX11_leastTaken_63 rfl rfl ?_
  refine z_bnd h (fun a8 ha8 h => ?_)
  refine z_bnd h (fun q9 hq9 h => ?_)
  refine x_callV1 ha8 (w_X2_leastFor hq9) cw_X2_leastFor q_948 ⟨by decide, by decide⟩ (Nat.le_of_ble_eq_true rfl) dX11_leastTaken_64 rfl ?_
  exact x_iret rfl dX11_leastTaken_67 h
