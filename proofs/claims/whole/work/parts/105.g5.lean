-- PressedMenModel measure ()V
abbrev Y_X12_measure : ZM := (yX12_measure, cX12_measure, 5, none, 0, 0)
theorem cw_X12_measure : z_CV Y_X12_measure 12 0 := ⟨⟨_, _, rfl⟩, by decide, q_1189, q_43, q_1190, q_76, ⟨by decide, by decide⟩, rfl⟩
def b_X12_measure_2 (n0 : Nat) (v : Int32 × ZH) : Option ((Int32 × ZH) ⊕ (ZH)) :=
  if (64 : Int32) ≤ v.1 then (
    some (Sum.inr v.2)
  ) else (
    if ¬ (v.1 / (8 : Int32)) = (v.1 - v.1 / (8 : Int32) * (8 : Int32)) then (
      ((zR v.2 12 n0 2)).bind fun a1 =>
      (zld v.2 29 a1 v.1).bind fun v2 =>
      if v2 = 0 then (
        ((zR v.2 12 n0 3)).bind fun a3 =>
        (zst v.2 30 a3 v.1 (100 : Int32)).bind fun S4 =>
        some (Sum.inl ((v.1 + 1), S4))
      ) else (
        ((zR v.2 12 n0 3)).bind fun a5 =>
        (zst v.2 30 a5 v.1 (1 : Int32)).bind fun S6 =>
        some (Sum.inl ((v.1 + 1), S6))
      )
    ) else (
      ((zR v.2 12 n0 3)).bind fun a7 =>
      (zst v.2 30 a7 v.1 (0 : Int32)).bind fun S8 =>
      some (Sum.inl ((v.1 + 1), S8))
    )
  )
def b_X12_measure_68 (n0 : Nat) (x1 : Int32) (x2 : Int32) (v : Int32 × ZH) : Option ((Int32 × ZH) ⊕ (ZH)) :=
  if (8 : Int32) ≤ v.1 then (
    some (Sum.inr v.2)
  ) else (
    ((zR v.2 12 n0 3)).bind fun a10 =>
    (zld v.2 30 a10 (((8 : Int32) * x2) + x1)).bind fun v11 =>
    ((zR v.2 12 n0 3)).bind fun a12 =>
    (zld v.2 30 a12 (((8 : Int32) * x1) + v.1)).bind fun v13 =>
    ((zR v.2 12 n0 3)).bind fun a14 =>
    (zld v.2 30 a14 (((8 : Int32) * x2) + v.1)).bind fun v15 =>
    if v15 ≤ (v11 + v13) then (
      ((zR v.2 12 n0 3)).bind fun a16 =>
      (zld v.2 30 a16 (((8 : Int32) * x2) + v.1)).bind fun v17 =>
      ((zR v.2 12 n0 3)).bind fun a18 =>
      (zst v.2 30 a18 (((8 : Int32) * x2) + v.1) v17).bind fun S19 =>
      some (Sum.inl ((v.1 + 1), S19))
    ) else (
      ((zR v.2 12 n0 3)).bind fun a20 =>
      (zst v.2 30 a20 (((8 : Int32) * x2) + v.1) (v11 + v13)).bind fun S21 =>
      some (Sum.inl ((v.1 + 1), S21))
    )
  )
def b_X12_measure_60 (n0 : Nat) (x1 : Int32) (v : Int32 × ZH) : Option ((Int32 × ZH) ⊕ (ZH)) :=
  if (8 : Int32) ≤ v.1 then (
    some (Sum.inr v.2)
  ) else (
    (z_iter zFU (b_X12_measure_68 n0 x1 v.1) ((0 : Int32), v.2)).bind fun t22 =>
    some (Sum.inl ((v.1 + 1), t22))
  )
def b_X12_measure_52 (n0 : Nat) (v : Int32 × ZH) : Option ((Int32 × ZH) ⊕ (ZH)) :=
  if (8 : Int32) ≤ v.1 then (
    some (Sum.inr v.2)
  ) else (
    (z_iter zFU (b_X12_measure_60 n0 v.1) ((0 : Int32), v.2)).bind fun t23 =>
    some (Sum.inl ((v.1 + 1), t23))
  )
def f_X12_measure (n0 : Nat) (S : ZH) : Option (ZH) :=
  (z_iter zFU (b_X12_measure_2 n0) ((0 : Int32), S)).bind fun t9 =>
  (z_iter zFU (b_X12_measure_52 n0) ((0 : Int32), t9)).bind fun t24 =>
  some t24
set_option maxRecDepth 20000 in
theorem l_X12_measure_2 {S0 : ZH} {F : ZP} {n0 : Nat} {v : Int32 × ZH} {t : ZH} (h : z_iter zFU (b_X12_measure_2 n0) v = some t) (k : (fun t => Wp Y_X12_measure S0 F 50 [(0, z_r 12 (some n0))] [] t) t) : Wp Y_X12_measure S0 F 2 [(0, z_r 12 (some n0)), (1, z_i v.1)] [] v.2 := by
  refine z_iter_P (P := fun v : Int32 × ZH => Wp Y_X12_measure S0 F 2 [(0, z_r 12 (some n0)), (1, z_i v.1)] [] v.2) (X := (fun t => Wp Y_X12_measure S0 F 50 [(0, z_r 12 (some n0))] [] t)) ?_ _ _ _ h k
  clear h k v t
  intro v r h k
  unfold b_X12_measure_2 at h
  refine x_iload_n 1 dX12_measure_2 rfl rfl ?_
  refine x_bipush (v := (64 : Int32)) dX12_measure_3 (by decide) ?_
  refine x_ic_ge (tgt := 50) dX12_measure_5 (by decide) h (fun h => ?_) (fun h => ?_)
  · cases h
    exact x_lo [0] rfl k
  · refine x_aload_n 0 dX12_measure_8 rfl rfl ?_
    refine x_getR rfl ck_12 3 (by decide) rfl q_1052 dX12_measure_9 ?_
    refine x_iload_n 1 dX12_measure_12 rfl rfl ?_
    refine x_iload_n 1 dX12_measure_13 rfl rfl ?_
    refine x_bipush (v := (8 : Int32)) dX12_measure_14 (by decide) ?_
    refine x_idiv dX12_measure_16 (by decide) ?_
    refine x_iload_n 1 dX12_measure_17 rfl rfl ?_
    refine x_bipush (v := (8 : Int32)) dX12_measure_18 (by decide) ?_
    refine x_irem dX12_measure_20 (by decide) ?_
    refine x_ic_ne (tgt := 28) dX12_measure_21 (by decide) h (fun h => ?_) (fun h => ?_)
    · refine x_aload_n 0 dX12_measure_28 rfl rfl ?_
      refine x_getR rfl ck_12 2 (by decide) rfl q_1051 dX12_measure_29 ?_
      refine x_iload_n 1 dX12_measure_32 rfl rfl ?_
      refine z_bnd h (fun a1 ha1 h => ?_)
      refine x_zaload ha1 ak_29 dX12_measure_33 h (fun v2 hv2 h => ?_)
      refine x_if_eq (tgt := 41) dX12_measure_34 (by decide) h (fun h => ?_) (fun h => ?_)
      · refine x_bipush (v := (100 : Int32)) dX12_measure_41 (by decide) ?_
        refine z_bnd h (fun a3 ha3 h => ?_)
        refine x_iastore ha3 ak_30 dX12_measure_43 h (fun S4 hS4 h => ?_)
        refine x_iinc (v := (v.1 + 1)) (lo' := [(1, z_i (v.1 + 1)), (0, z_r 12 (some n0))]) 1 dX12_measure_44 rfl (congrArg (HAdd.hAdd v.1) (by decide)) (by decide) rfl ?_
        refine x_goto (tgt := 2) dX12_measure_47 (by decide) ?_
        cases h
        exact x_lo [1, 0] rfl k
      · refine x_iconst (v := (1 : Int32)) dX12_measure_37 (by decide) ?_
        refine x_goto (tgt := 43) dX12_measure_38 (by decide) ?_
        refine z_bnd h (fun a5 ha5 h => ?_)
        refine x_iastore ha5 ak_30 dX12_measure_43 h (fun S6 hS6 h => ?_)
        refine x_iinc (v := (v.1 + 1)) (lo' := [(1, z_i (v.1 + 1)), (0, z_r 12 (some n0))]) 1 dX12_measure_44 rfl (congrArg (HAdd.hAdd v.1) (by decide)) (by decide) rfl ?_
        refine x_goto (tgt := 2) dX12_measure_47 (by decide) ?_
        cases h
        exact x_lo [1, 0] rfl k
    · refine x_iconst (v := (0 : Int32)) dX12_measure_24 (by decide) ?_
      refine x_goto (tgt := 43) dX12_measure_25 (by decide) ?_
      refine z_bnd h (fun a7 ha7 h => ?_)
      refine x_iastore ha7 ak_30 dX12_measure_43 h (fun S8 hS8 h => ?_)
      refine x_iinc (v := (v.1 + 1)) (lo' := [(1, z_i (v.1 + 1)), (0, z_r 12 (some n0))]) 1 dX12_measure_44 rfl (congrArg (HAdd.hAdd v.1) (by decide)) (by decide) rfl ?_
      refine x_goto (tgt := 2) dX12_measure_47 (by decide) ?_
      cases h
      exact x_lo [1, 0] rfl k
set_option maxRecDepth 20000 in
theorem l_X12_measure_68 {S0 : ZH} {F : ZP} {n0 : Nat} {x1 : Int32} {x2 : Int32} {v : Int32 × ZH} {t : ZH} (h : z_iter zFU (b_X12_measure_68 n0 x1 x2) v = some t) (k : (fun t => Wp Y_X12_measure S0 F 148 [(0, z_r 12 (some n0)), (1, z_i x1), (2, z_i x2)] [] t) t) : Wp Y_X12_measure S0 F 68 [(0, z_r 12 (some n0)), (1, z_i x1), (2, z_i x2), (3, z_i v.1)] [] v.2 := by
  refine z_iter_P (P := fun v : Int32 × ZH => Wp Y_X12_measure S0 F 68 [(0, z_r 12 (some n0)), (1, z_i x1), (2, z_i x2), (3, z_i v.1)] [] v.2) (X := (fun t => Wp Y_X12_measure S0 F 148 [(0, z_r 12 (some n0)), (1, z_i x1), (2, z_i x2)] [] t)) ?_ _ _ _ h k
  clear h k v t
  intro v r h k
  unfold b_X12_measure_68 at h
  refine x_iload_n 3 dX12_measure_68 rfl rfl ?_
  refine x_bipush (v := (8 : Int32)) dX12_measure_69 (by decide) ?_
  refine x_ic_ge (tgt := 148) dX12_measure_71 (by decide) h (fun h => ?_) (fun h => ?_)
  · cases h
    exact x_lo [0, 1, 2] rfl k
  · refine x_aload_n 0 dX12_measure_74 rfl rfl ?_
    refine x_getR rfl ck_12 3 (by decide) rfl q_1052 dX12_measure_75 ?_
    refine x_bipush (v := (8 : Int32)) dX12_measure_78 (by decide) ?_
    refine x_iload_n 2 dX12_measure_80 rfl rfl ?_
    refine x_imul dX12_measure_81 ?_
    refine x_iload_n 1 dX12_measure_82 rfl rfl ?_
    refine x_iadd dX12_measure_83 ?_
    refine z_bnd h (fun a10 ha10 h => ?_)
    refine x_iaload ha10 ak_30 dX12_measure_84 h (fun v11 hv11 h => ?_)
    refine x_aload_n 0 dX12_measure_85 rfl rfl ?_
    refine x_getR rfl ck_12 3 (by decide) rfl q_1052 dX12_measure_86 ?_
    refine x_bipush (v := (8 : Int32)) dX12_measure_89 (by decide) ?_
    refine x_iload_n 1 dX12_measure_91 rfl rfl ?_
    refine x_imul dX12_measure_92 ?_
    refine x_iload_n 3 dX12_measure_93 rfl rfl ?_
    refine x_iadd dX12_measure_94 ?_
    refine z_bnd h (fun a12 ha12 h => ?_)
    refine x_iaload ha12 ak_30 dX12_measure_95 h (fun v13 hv13 h => ?_)
    refine x_iadd dX12_measure_96 ?_
    refine x_istore (lo' := [(4, z_i (v11 + v13)), (0, z_r 12 (some n0)), (1, z_i x1), (2, z_i x2), (3, z_i v.1)]) dX12_measure_97 (by decide) rfl ?_
    refine x_aload_n 1 dX12_measure_99 rfl rfl ?_
    refine x_getR rfl ck_12 3 (by decide) rfl q_1052 dX12_measure_100 ?_
    refine x_bipush (v := (8 : Int32)) dX12_measure_103 (by decide) ?_
    refine x_iload_n 3 dX12_measure_105 rfl rfl ?_
    refine x_imul dX12_measure_106 ?_
    refine x_iload_n 4 dX12_measure_107 rfl rfl ?_
    refine x_iadd dX12_measure_108 ?_
    refine x_iload 0 dX12_measure_109 rfl ?_
    refine x_aload_n 1 dX12_measure_111 rfl rfl ?_
    refine x_getR rfl ck_12 3 (by decide) rfl q_1052 dX12_measure_112 ?_
    refine x_bipush (v := (8 : Int32)) dX12_measure_115 (by decide) ?_
    refine x_iload_n 3 dX12_measure_117 rfl rfl ?_
    refine x_imul dX12_measure_118 ?_
    refine x_iload_n 4 dX12_measure_119 rfl rfl ?_
    refine x_iadd dX12_measure_120 ?_
    refine z_bnd h (fun a14 ha14 h => ?_)
    refine x_iaload ha14 ak_30 dX12_measure_121 h (fun v15 hv15 h => ?_)
    refine x_ic_ge (tgt := 130) dX12_measure_122 (by decide) h (fun h => ?_) (fun h => ?_)
    · refine x_aload_n 1 dX12_measure_130 rfl rfl ?_
      refine x_getR rfl ck_12 3 (by decide) rfl q_1052 dX12_measure_131 ?_
      refine x_bipush (v := (8 : Int32)) dX12_measure_134 (by decide) ?_
      refine x_iload_n 3 dX12_measure_136 rfl rfl ?_
      refine x_imul dX12_measure_137 ?_
      refine x_iload_n 4 dX12_measure_138 rfl rfl ?_
      refine x_iadd dX12_measure_139 ?_
      refine z_bnd h (fun a16 ha16 h => ?_)
      refine x_iaload ha16 ak_30 dX12_measure_140 h (fun v17 hv17 h => ?_)
      refine z_bnd h (fun a18 ha18 h => ?_)
      refine x_iastore ha18 ak_30 dX12_measure_141 h (fun S19 hS19 h => ?_)
      refine x_iinc (v := (v.1 + 1)) (lo' := [(3, z_i (v.1 + 1)), (4, z_i (v11 + v13)), (0, z_r 12 (some n0)), (1, z_i x1), (2, z_i x2)]) 4 dX12_measure_142 rfl (congrArg (HAdd.hAdd v.1) (by decide)) (by decide) rfl ?_
      refine x_goto (tgt := 68) dX12_measure_145 (by decide) ?_
      cases h
      exact x_lo [2, 3, 4, 0] rfl k
    · refine x_iload 0 dX12_measure_125 rfl ?_
      refine x_goto (tgt := 141) dX12_measure_127 (by decide) ?_
      refine z_bnd h (fun a20 ha20 h => ?_)
      refine x_iastore ha20 ak_30 dX12_measure_141 h (fun S21 hS21 h => ?_)
      refine x_iinc (v := (v.1 + 1)) (lo' := [(3, z_i (v.1 + 1)), (4, z_i (v11 + v13)), (0, z_r 12 (some n0)), (1, z_i x1), (2, z_i x2)]) 4 dX12_measure_142 rfl (congrArg (HAdd.hAdd v.1) (by decide)) (by decide) rfl ?_
      refine x_goto (tgt := 68) dX12_measure_145 (by decide) ?_
      cases h
      exact x_lo [2, 3, 4, 0] rfl k
set_option maxRecDepth 20000 in
theorem l_X12_measure_60 {S0 : ZH} {F : ZP} {n0 : Nat} {x1 : Int32} {v : Int32 × ZH} {t : ZH} (h : z_iter zFU (b_X12_measure_60 n0 x1) v = some t) (k : (fun t => Wp Y_X12_measure S0 F 154 [(0, z_r 12 (some n0)), (1, z_i x1)] [] t) t) : Wp Y_X12_measure S0 F 60 [(0, z_r 12 (some n0)), (1, z_i x1), (2, z_i v.1)] [] v.2 := by
  refine z_iter_P (P := fun v : Int32 × ZH => Wp Y_X12_measure S0 F 60 [(0, z_r 12 (some n0)), (1, z_i x1), (2, z_i v.1)] [] v.2) (X := (fun t => Wp Y_X12_measure S0 F 154 [(0, z_r 12 (some n0)), (1, z_i x1)] [] t)) ?_ _ _ _ h k
  clear h k v t
  intro v r h k
  unfold b_X12_measure_60 at h
  refine x_iload_n 2 dX12_measure_60 rfl rfl ?_
  refine x_bipush (v := (8 : Int32)) dX12_measure_61 (by decide) ?_
  refine x_ic_ge (tgt := 154) dX12_measure_63 (by decide) h (fun h => ?_) (fun h => ?_)
  · cases h
    exact x_lo [0, 1] rfl k
  · refine x_iconst (v := (0 : Int32)) dX12_measure_66 (by decide) ?_
    refine x_istore_n (lo' := [(3, z_i (0 : Int32)), (0, z_r 12 (some n0)), (1, z_i x1), (2, z_i v.1)]) dX12_measure_67 rfl (by decide) rfl ?_
    refine z_bnd h (fun t22 ht22 h => ?_)
    refine x_lo [1, 2, 3, 0] rfl ?_
    refine l_X12_measure_68 ht22 ?_
    refine x_iinc (v := (v.1 + 1)) (lo' := [(2, z_i (v.1 + 1)), (0, z_r 12 (some n0)), (1, z_i x1)]) 2 dX12_measure_148 rfl (congrArg (HAdd.hAdd v.1) (by decide)) (by decide) rfl ?_
    refine x_goto (tgt := 60) dX12_measure_151 (by decide) ?_
    cases h
    exact x_lo [1, 2, 0] rfl k
set_option maxRecDepth 20000 in
theorem l_X12_measure_52 {S0 : ZH} {F : ZP} {n0 : Nat} {v : Int32 × ZH} {t : ZH} (h : z_iter zFU (b_X12_measure_52 n0) v = some t) (k : (fun t => Wp Y_X12_measure S0 F 160 [] [] t) t) : Wp Y_X12_measure S0 F 52 [(0, z_r 12 (some n0)), (1, z_i v.1)] [] v.2 := by
  refine z_iter_P (P := fun v : Int32 × ZH => Wp Y_X12_measure S0 F 52 [(0, z_r 12 (some n0)), (1, z_i v.1)] [] v.2) (X := (fun t => Wp Y_X12_measure S0 F 160 [] [] t)) ?_ _ _ _ h k
  clear h k v t
  intro v r h k
  unfold b_X12_measure_52 at h
  refine x_iload_n 1 dX12_measure_52 rfl rfl ?_
  refine x_bipush (v := (8 : Int32)) dX12_measure_53 (by decide) ?_
  refine x_ic_ge (tgt := 160) dX12_measure_55 (by decide) h (fun h => ?_) (fun h => ?_)
  · cases h
    exact x_lo [] rfl k
  · refine x_iconst (v := (0 : Int32)) dX12_measure_58 (by decide) ?_
    refine x_istore_n (lo' := [(2, z_i (0 : Int32)), (0, z_r 12 (some n0)), (1, z_i v.1)]) dX12_measure_59 rfl (by decide) rfl ?_
    refine z_bnd h (fun t23 ht23 h => ?_)
    refine x_lo [1, 2, 0] rfl ?_
    refine l_X12_measure_60 ht23 ?_
    refine x_iinc (v := (v.1 + 1)) (lo' := [(1, z_i (v.1 + 1)), (0, z_r 12 (some n0))]) 1 dX12_measure_154 rfl (congrArg (HAdd.hAdd v.1) (by decide)) (by decide) rfl ?_
    refine x_goto (tgt := 52) dX12_measure_157 (by decide) ?_
    cases h
    exact x_lo [1, 0] rfl k
set_option maxRecDepth 20000 in
set_option maxHeartbeats 1000000 in
theorem w_X12_measure {n0 : Nat} {S : ZH} {q : ZH} (h : f_X12_measure n0 S = some q) : MetX Y_X12_measure S [z_r 12 (some n0)] none q := by
  refine MetX.of (lo := [(0, z_r 12 (some n0))]) rfl (by decide) (Nat.le_of_ble_eq_true rfl) ?_
  unfold f_X12_measure at h
  refine x_iconst (v := (0 : Int32)) dX12_measure_0 (by decide) ?_
  refine x_istore_n (lo' := [(1, z_i (0 : Int32)), (0, z_r 12 (some n0))]) dX12_measure_1 rfl (by decide) rfl ?_
  refine z_bnd h (fun t9 ht9 h => ?_)
  refine x_lo [1, 0] rfl ?_
  refine l_X12_measure_2 ht9 ?_
  refine x_iconst (v := (0 : Int32)) dX12_measure_50 (by decide) ?_
  refine x_istore_n (lo' := [(1, z_i (0 : Int32)), (0, z_r 12 (some n0))]) dX12_measure_51 rfl (by decide) rfl ?_
  refine z_bnd h (fun t24 ht24 h => ?_)
  refine x_lo [1, 0] rfl ?_
  refine l_X12_measure_52 ht24 ?_
  exact x_vretE rfl dX12_measure_160 h
-- PressedMenModel far (II)I
abbrev Y_X12_far : ZM := (yX12_far, cX12_far, 3, (some .int), 2, 46)
theorem cw_X12_far : z_CV Y_X12_far 12 2 := ⟨⟨_, _, rfl⟩, by decide, q_1184, q_1185, q_1186, q_76, ⟨by decide, by decide⟩, rfl⟩
def f_X12_far (n0 : Nat) (x1 : Int32) (x2 : Int32) (S : ZH) : Option (Int32 × ZH) :=
  (f_X12_noStreet n0 x1 (zsI S 12 n0 0 (0 : Int32))).bind fun q1 =>
  if ¬ q1 = 0 then (
    some ((-1 : Int32), (zsI S 12 n0 0 (0 : Int32)))
  ) else (
    (f_X12_noStreet n0 x2 (zsI S 12 n0 0 (0 : Int32))).bind fun q2 =>
    if q2 = 0 then (
      (f_X12_measure n0 (zsI S 12 n0 0 (0 : Int32))).bind fun q3 =>
      ((zR q3 12 n0 3)).bind fun a4 =>
      (zld q3 30 a4 (((8 : Int32) * x1) + x2)).bind fun v5 =>
      if (100 : Int32) ≤ v5 then (
        some ((-9 : Int32), q3)
      ) else (
        ((zR q3 12 n0 3)).bind fun a6 =>
        (zld q3 30 a6 (((8 : Int32) * x1) + x2)).bind fun v7 =>
        some (v7, q3)
      )
    ) else (
      some ((-1 : Int32), (zsI S 12 n0 0 (0 : Int32)))
    )
  )
set_option maxRecDepth 20000 in
set_option maxHeartbeats 1000000 in
theorem w_X12_far {n0 : Nat} {x1 : Int32} {x2 : Int32} {S : ZH} {q : Int32 × ZH} (h : f_X12_far n0 x1 x2 S = some q) : MetX Y_X12_far S [z_r 12 (some n0), z_i x1, z_i x2] (some (z_i q.1)) q.2 := by
  refine MetX.of (lo := [(0, z_r 12 (some n0)), (1, z_i x1), (2, z_i x2)]) rfl (by decide) (Nat.le_of_ble_eq_true rfl) ?_
  unfold f_X12_far at h
  refine x_aload_n 0 dX12_far_0 rfl rfl ?_
  refine x_iconst (v := (0 : Int32)) dX12_far_1 (by decide) ?_
  refine x_putI rfl ck_12 0 (by decide) rfl (Or.inl rfl) (by rfl) rfl q_1049 dX12_far_2 ?_
  refine x_aload_n 0 dX12_far_5 rfl rfl ?_
  refine x_iload_n 1 dX12_far_6 rfl rfl ?_
  refine z_bnd h (fun q1 hq1 h => ?_)
  refine x_callV1 rfl (w_X12_noStreet hq1) cw_X12_noStreet q_1179 ⟨by decide, by decide⟩ (Nat.le_of_ble_eq_true rfl) dX12_far_7 rfl ?_
  refine x_if_ne (tgt := 21) dX12_far_10 (by decide) h (fun h => ?_) (fun h => ?_)
  · refine x_iconst (v := (-1 : Int32)) dX12_far_21 (by decide) ?_
    exact x_iretE rfl dX12_far_22 h
  · refine x_aload_n 0 dX12_far_13 rfl rfl ?_
    refine x_iload_n 2 dX12_far_14 rfl rfl ?_
    refine z_bnd h (fun q2 hq2 h => ?_)
    refine x_callV1 rfl (w_X12_noStreet hq2) cw_X12_noStreet q_1179 ⟨by decide, by decide⟩ (Nat.le_of_ble_eq_true rfl) dX12_far_15 rfl ?_
    refine x_if_eq (tgt := 23) dX12_far_18 (by decide) h (fun h => ?_) (fun h => ?_)
    · refine x_aload_n 0 dX12_far_23 rfl rfl ?_
      refine z_bnd h (fun q3 hq3 h => ?_)
      refine x_callVv rfl (w_X12_measure hq3) cw_X12_measure q_1187 ⟨by decide, by decide⟩ (Nat.le_of_ble_eq_true rfl) dX12_far_24 rfl ?_
      refine x_aload_n 0 dX12_far_27 rfl rfl ?_
      refine x_getR rfl ck_12 3 (by decide) rfl q_1052 dX12_far_28 ?_
      refine x_bipush (v := (8 : Int32)) dX12_far_31 (by decide) ?_
      refine x_iload_n 1 dX12_far_33 rfl rfl ?_
      refine x_imul dX12_far_34 ?_
      refine x_iload_n 2 dX12_far_35 rfl rfl ?_
      refine x_iadd dX12_far_36 ?_
      refine z_bnd h (fun a4 ha4 h => ?_)
      refine x_iaload ha4 ak_30 dX12_far_37 h (fun v5 hv5 h => ?_)
      refine x_bipush (v := (100 : Int32)) dX12_far_38 (by decide) ?_
      refine x_ic_ge (tgt := 57) dX12_far_40 (by decide) h (fun h => ?_) (fun h => ?_)
      · refine x_bipush (v := (-9 : Int32)) dX12_far_57 (by decide) ?_
        exact x_iretE rfl dX12_far_59 h
      · refine x_aload_n 0 dX12_far_43 rfl rfl ?_
        refine x_getR rfl ck_12 3 (by decide) rfl q_1052 dX12_far_44 ?_
        refine x_bipush (v := (8 : Int32)) dX12_far_47 (by decide) ?_
        refine x_iload_n 1 dX12_far_49 rfl rfl ?_
        refine x_imul dX12_far_50 ?_
        refine x_iload_n 2 dX12_far_51 rfl rfl ?_
        refine x_iadd dX12_far_52 ?_
        refine z_bnd h (fun a6 ha6 h => ?_)
        refine x_iaload ha6 ak_30 dX12_far_53 h (fun v7 hv7 h => ?_)
        refine x_goto (tgt := 59) dX12_far_54 (by decide) ?_
        exact x_iretE rfl dX12_far_59 h
    · refine x_iconst (v := (-1 : Int32)) dX12_far_21 (by decide) ?_
      exact x_iretE rfl dX12_far_22 h
-- PressedMenModel man (IIIIIII)I
abbrev Y_X12_man : ZM := (yX12_man, cX12_man, 10, (some .int), 2, 46)
theorem cw_X12_man : z_CV Y_X12_man 12 7 := ⟨⟨_, _, rfl⟩, by decide, q_1192, q_1193, q_1194, q_76, ⟨by decide, by decide⟩, rfl⟩
def b_X12_man_206 (n0 : Nat) (x7 : Int32) (v : Int32 × ZH) : Option ((Int32 × ZH) ⊕ (ZH)) :=
  if (zI v.2 12 n0 4) < v.1 then (
    some (Sum.inr v.2)
  ) else (
    ((zR v.2 12 n0 8)).bind fun a24 =>
    (zst v.2 33 a24 (((40 : Int32) * v.1) + (zI v.2 12 n0 5)) x7).bind fun S25 =>
    some (Sum.inl ((v.1 + 1), S25))
  )
def f_X12_man (n0 : Nat) (x1 : Int32) (x2 : Int32) (x3 : Int32) (x4 : Int32) (x5 : Int32) (x6 : Int32) (x7 : Int32) (S : ZH) : Option (Int32 × ZH) :=
  (f_X12_noStreet n0 x7 (zsI S 12 n0 0 (0 : Int32))).bind fun q1 =>
  if q1 = 0 then (
    (f_X12_in x1.toInt64 (10 : Int64) (60 : Int64) (zsI S 12 n0 0 (0 : Int32))).bind fun q2 =>
    if q2 = 0 then (
      some ((-2 : Int32), (zsI S 12 n0 0 (0 : Int32)))
    ) else (
      (f_X12_in x2.toInt64 (0 : Int64) (3 : Int64) (zsI S 12 n0 0 (0 : Int32))).bind fun q3 =>
      if q3 = 0 then (
        some ((-2 : Int32), (zsI S 12 n0 0 (0 : Int32)))
      ) else (
        (f_X12_in x3.toInt64 (0 : Int64) (3 : Int64) (zsI S 12 n0 0 (0 : Int32))).bind fun q4 =>
        if q4 = 0 then (
          some ((-2 : Int32), (zsI S 12 n0 0 (0 : Int32)))
        ) else (
          (f_X12_in x4.toInt64 (50 : Int64) (80 : Int64) (zsI S 12 n0 0 (0 : Int32))).bind fun q5 =>
          if q5 = 0 then (
            some ((-2 : Int32), (zsI S 12 n0 0 (0 : Int32)))
          ) else (
            (f_X12_in x5.toInt64 (0 : Int64) (5 : Int64) (zsI S 12 n0 0 (0 : Int32))).bind fun q6 =>
            if q6 = 0 then (
              some ((-2 : Int32), (zsI S 12 n0 0 (0 : Int32)))
            ) else (
              (f_X12_in x6.toInt64 (0 : Int64) (40 : Int64) (zsI S 12 n0 0 (0 : Int32))).bind fun q7 =>
              if ¬ q7 = 0 then (
                if ¬ (zI (zsI S 12 n0 0 (0 : Int32)) 12 n0 5) = (40 : Int32) then (
                  ((zR (zsI S 12 n0 0 (0 : Int32)) 12 n0 6)).bind fun a8 =>
                  (zst (zsI S 12 n0 0 (0 : Int32)) 31 a8 ((8 : Int32) * (zI (zsI S 12 n0 0 (0 : Int32)) 12 n0 5)) x1).bind fun S9 =>
                  ((zR S9 12 n0 6)).bind fun a10 =>
                  (zst S9 31 a10 (((8 : Int32) * (zI (zsI S 12 n0 0 (0 : Int32)) 12 n0 5)) + (1 : Int32)) x2).bind fun S11 =>
                  ((zR S11 12 n0 6)).bind fun a12 =>
                  (zst S11 31 a12 (((8 : Int32) * (zI (zsI S 12 n0 0 (0 : Int32)) 12 n0 5)) + (2 : Int32)) x3).bind fun S13 =>
                  ((zR S13 12 n0 6)).bind fun a14 =>
                  (zst S13 31 a14 (((8 : Int32) * (zI (zsI S 12 n0 0 (0 : Int32)) 12 n0 5)) + (3 : Int32)) x4).bind fun S15 =>
                  ((zR S15 12 n0 6)).bind fun a16 =>
                  (zst S15 31 a16 (((8 : Int32) * (zI (zsI S 12 n0 0 (0 : Int32)) 12 n0 5)) + (4 : Int32)) x5).bind fun S17 =>
                  ((zR S17 12 n0 6)).bind fun a18 =>
                  (zst S17 31 a18 (((8 : Int32) * (zI (zsI S 12 n0 0 (0 : Int32)) 12 n0 5)) + (5 : Int32)) x6).bind fun S19 =>
                  ((zR S19 12 n0 6)).bind fun a20 =>
                  (zst S19 31 a20 (((8 : Int32) * (zI (zsI S 12 n0 0 (0 : Int32)) 12 n0 5)) + (6 : Int32)) x7).bind fun S21 =>
                  ((zR S21 12 n0 6)).bind fun a22 =>
                  (zst S21 31 a22 (((8 : Int32) * (zI (zsI S 12 n0 0 (0 : Int32)) 12 n0 5)) + (7 : Int32)) (0 : Int32)).bind fun S23 =>
                  (z_iter zFU (b_X12_man_206 n0 x7) ((0 : Int32), S23)).bind fun t26 =>
                  some (((zI (zsI t26 12 n0 5 ((zI t26 12 n0 5) + (1 : Int32))) 12 n0 5) - (1 : Int32)), (zsI t26 12 n0 5 ((zI t26 12 n0 5) + (1 : Int32))))
                ) else (
                  some ((-4 : Int32), (zsI S 12 n0 0 (0 : Int32)))
                )
              ) else (
                some ((-2 : Int32), (zsI S 12 n0 0 (0 : Int32)))
              )
            )
          )
        )
      )
    )
  ) else (
    some ((-1 : Int32), (zsI S 12 n0 0 (0 : Int32)))
  )
set_option maxRecDepth 20000 in
theorem l_X12_man_206 {S0 : ZH} {F : ZP} {n0 : Nat} {x7 : Int32} {v : Int32 × ZH} {t : ZH} (h : z_iter zFU (b_X12_man_206 n0 x7) v = some t) (k : (fun t => Wp Y_X12_man S0 F 238 [(0, z_r 12 (some n0))] [] t) t) : Wp Y_X12_man S0 F 206 [(0, z_r 12 (some n0)), (7, z_i x7), (9, z_i v.1)] [] v.2 := by
  refine z_iter_P (P := fun v : Int32 × ZH => Wp Y_X12_man S0 F 206 [(0, z_r 12 (some n0)), (7, z_i x7), (9, z_i v.1)] [] v.2) (X := (fun t => Wp Y_X12_man S0 F 238 [(0, z_r 12 (some n0))] [] t)) ?_ _ _ _ h k
  clear h k v t
  intro v r h k
  unfold b_X12_man_206 at h
  refine x_iload 2 dX12_man_206 rfl ?_
  refine x_aload_n 0 dX12_man_208 rfl rfl ?_
  refine x_getI rfl ck_12 4 (by decide) rfl q_1053 dX12_man_209 ?_
  refine x_ic_gt (tgt := 238) dX12_man_212 (by decide) h (fun h => ?_) (fun h => ?_)
  · cases h
    exact x_lo [0] rfl k
  · refine x_aload_n 0 dX12_man_215 rfl rfl ?_
    refine x_getR rfl ck_12 8 (by decide) rfl q_1057 dX12_man_216 ?_
    refine x_bipush (v := (40 : Int32)) dX12_man_219 (by decide) ?_
    refine x_iload 2 dX12_man_221 rfl ?_
    refine x_imul dX12_man_223 ?_
    refine x_aload_n 0 dX12_man_224 rfl rfl ?_
    refine x_getI rfl ck_12 5 (by decide) rfl q_1054 dX12_man_225 ?_
    refine x_iadd dX12_man_228 ?_
    refine x_iload 1 dX12_man_229 rfl ?_
    refine z_bnd h (fun a24 ha24 h => ?_)
    refine x_iastore ha24 ak_33 dX12_man_231 h (fun S25 hS25 h => ?_)
    refine x_iinc (v := (v.1 + 1)) (lo' := [(9, z_i (v.1 + 1)), (0, z_r 12 (some n0)), (7, z_i x7)]) 2 dX12_man_232 rfl (congrArg (HAdd.hAdd v.1) (by decide)) (by decide) rfl ?_
    refine x_goto (tgt := 206) dX12_man_235 (by decide) ?_
    cases h
    exact x_lo [1, 2, 0] rfl k
set_option maxRecDepth 20000 in
set_option maxHeartbeats 1000000 in
theorem w_X12_man {n0 : Nat} {x1 : Int32} {x2 : Int32} {x3 : Int32} {x4 : Int32} {x5 : Int32} {x6 : Int32} {x7 : Int32} {S : ZH} {q : Int32 × ZH} (h : f_X12_man n0 x1 x2 x3 x4 x5 x6 x7 S = some q) : MetX Y_X12_man S [z_r 12 (some n0), z_i x1, z_i x2, z_i x3, z_i x4, z_i x5, z_i x6, z_i x7] (some (z_i q.1)) q.2 := by
  refine MetX.of (lo := [(0, z_r 12 (some n0)), (1, z_i x1), (2, z_i x2), (3, z_i x3), (4, z_i x4), (5, z_i x5), (6, z_i x6), (7, z_i x7)]) rfl (by decide) (Nat.le_of_ble_eq_true rfl) ?_
  unfold f_X12_man at h
  refine x_aload_n 0 dX12_man_0 rfl rfl ?_
  refine x_iconst (v := (0 : Int32)) dX12_man_1 (by decide) ?_
  refine x_putI rfl ck_12 0 (by decide) rfl (Or.inl rfl) (by rfl) rfl q_1049 dX12_man_2 ?_
  refine x_aload_n 0 dX12_man_5 rfl rfl ?_
  refine x_iload 7 dX12_man_6 rfl ?_
  refine z_bnd h (fun q1 hq1 h => ?_)
  refine x_callV1 rfl (w_X12_noStreet hq1) cw_X12_noStreet q_1179 ⟨by decide, by decide⟩ (Nat.le_of_ble_eq_true rfl) dX12_man_8 rfl ?_
  refine x_if_eq (tgt := 16) dX12_man_11 (by decide) h (fun h => ?_) (fun h => ?_)
  · refine x_iload_n 1 dX12_man_16 rfl rfl ?_
    refine x_i2l dX12_man_17 ?_
    refine x_ldc2 dX12_man_18 q_1195.1 ?_
    refine x_ldc2 dX12_man_21 q_1196.1 ?_
    refine z_bnd h (fun q2 hq2 h => ?_)
    refine x_callS1 (w_X12_in hq2) cw_X12_in q_1172 ⟨by decide, by decide⟩ (Nat.le_of_ble_eq_true rfl) dX12_man_24 rfl ?_
    refine x_if_eq (tgt := 95) dX12_man_27 (by decide) h (fun h => ?_) (fun h => ?_)
    · refine x_bipush (v := (-2 : Int32)) dX12_man_95 (by decide) ?_
      exact x_iretE rfl dX12_man_97 h
    · refine x_iload_n 2 dX12_man_30 rfl rfl ?_
      refine x_i2l dX12_man_31 ?_
      refine x_lconst (v := (0 : Int64)) dX12_man_32 (by decide) ?_
      refine x_ldc2 dX12_man_33 q_1197.1 ?_
      refine z_bnd h (fun q3 hq3 h => ?_)
      refine x_callS1 (w_X12_in hq3) cw_X12_in q_1172 ⟨by decide, by decide⟩ (Nat.le_of_ble_eq_true rfl) dX12_man_36 rfl ?_
      refine x_if_eq (tgt := 95) dX12_man_39 (by decide) h (fun h => ?_) (fun h => ?_)
      · refine x_bipush (v := (-2 : Int32)) dX12_man_95 (by decide) ?_
        exact x_iretE rfl dX12_man_97 h
      · refine x_iload_n 3 dX12_man_42 rfl rfl ?_
        refine x_i2l dX12_man_43 ?_
        refine x_lconst (v := (0 : Int64)) dX12_man_44 (by decide) ?_
        refine x_ldc2 dX12_man_45 q_1197.1 ?_
        refine z_bnd h (fun q4 hq4 h => ?_)
        refine x_callS1 (w_X12_in hq4) cw_X12_in q_1172 ⟨by decide, by decide⟩ (Nat.le_of_ble_eq_true rfl) dX12_man_48 rfl ?_
        refine x_if_eq (tgt := 95) dX12_man_51 (by decide) h (fun h => ?_) (fun h => ?_)
        · refine x_bipush (v := (-2 : Int32)) dX12_man_95 (by decide) ?_
          exact x_iretE rfl dX12_man_97 h
        · refine x_iload 4 dX12_man_54 rfl ?_
          refine x_i2l dX12_man_56 ?_
          refine x_ldc2 dX12_man_57 q_1198.1 ?_
          refine x_ldc2 dX12_man_60 q_1199.1 ?_
          refine z_bnd h (fun q5 hq5 h => ?_)
          refine x_callS1 (w_X12_in hq5) cw_X12_in q_1172 ⟨by decide, by decide⟩ (Nat.le_of_ble_eq_true rfl) dX12_man_63 rfl ?_
          refine x_if_eq (tgt := 95) dX12_man_66 (by decide) h (fun h => ?_) (fun h => ?_)
          · refine x_bipush (v := (-2 : Int32)) dX12_man_95 (by decide) ?_
            exact x_iretE rfl dX12_man_97 h
          · refine x_iload 5 dX12_man_69 rfl ?_
            refine x_i2l dX12_man_71 ?_
            refine x_lconst (v := (0 : Int64)) dX12_man_72 (by decide) ?_
            refine x_ldc2 dX12_man_73 q_1200.1 ?_
            refine z_bnd h (fun q6 hq6 h => ?_)
            refine x_callS1 (w_X12_in hq6) cw_X12_in q_1172 ⟨by decide, by decide⟩ (Nat.le_of_ble_eq_true rfl) dX12_man_76 rfl ?_
            refine x_if_eq (tgt := 95) dX12_man_79 (by decide) h (fun h => ?_) (fun h => ?_)
            · refine x_bipush (v := (-2 : Int32)) dX12_man_95 (by decide) ?_
              exact x_iretE rfl dX12_man_97 h
            · refine x_iload 6 dX12_man_82 rfl ?_
              refine x_i2l dX12_man_84 ?_
              refine x_lconst (v := (0 : Int64)) dX12_man_85 (by decide) ?_
              refine x_ldc2 dX12_man_86 q_1201.1 ?_
              refine z_bnd h (fun q7 hq7 h => ?_)
              refine x_callS1 (w_X12_in hq7) cw_X12_in q_1172 ⟨by decide, by decide⟩ (Nat.le_of_ble_eq_true rfl) dX12_man_89 rfl ?_
              refine x_if_ne (tgt := 98) dX12_man_92 (by decide) h (fun h => ?_) (fun h => ?_)
              · refine x_aload_n 0 dX12_man_98 rfl rfl ?_
                refine x_getI rfl ck_12 5 (by decide) rfl q_1054 dX12_man_99 ?_
                refine x_bipush (v := (40 : Int32)) dX12_man_102 (by decide) ?_
                refine x_ic_ne (tgt := 110) dX12_man_104 (by decide) h (fun h => ?_) (fun h => ?_)
                · refine x_bipush (v := (8 : Int32)) dX12_man_110 (by decide) ?_
                  refine x_aload_n 0 dX12_man_112 rfl rfl ?_
                  refine x_getI rfl ck_12 5 (by decide) rfl q_1054 dX12_man_113 ?_
                  refine x_imul dX12_man_116 ?_
                  refine x_istore (lo' := [(8, z_i ((8 : Int32) * (zI (zsI S 12 n0 0 (0 : Int32)) 12 n0 5))), (0, z_r 12 (some n0)), (1, z_i x1), (2, z_i x2), (3, z_i x3), (4, z_i x4), (5, z_i x5), (6, z_i x6), (7, z_i x7)]) dX12_man_117 (by decide) rfl ?_
                  refine x_aload_n 1 dX12_man_119 rfl rfl ?_
                  refine x_getR rfl ck_12 6 (by decide) rfl q_1055 dX12_man_120 ?_
                  refine x_iload 0 dX12_man_123 rfl ?_
                  refine x_iload_n 2 dX12_man_125 rfl rfl ?_
                  refine z_bnd h (fun a8 ha8 h => ?_)
                  refine x_iastore ha8 ak_31 dX12_man_126 h (fun S9 hS9 h => ?_)
                  refine x_aload_n 1 dX12_man_127 rfl rfl ?_
                  refine x_getR rfl ck_12 6 (by decide) rfl q_1055 dX12_man_128 ?_
                  refine x_iload 0 dX12_man_131 rfl ?_
                  refine x_iconst (v := (1 : Int32)) dX12_man_133 (by decide) ?_
                  refine x_iadd dX12_man_134 ?_
                  refine x_iload_n 3 dX12_man_135 rfl rfl ?_
                  refine z_bnd h (fun a10 ha10 h => ?_)
                  refine x_iastore ha10 ak_31 dX12_man_136 h (fun S11 hS11 h => ?_)
                  refine x_aload_n 1 dX12_man_137 rfl rfl ?_
                  refine x_getR rfl ck_12 6 (by decide) rfl q_1055 dX12_man_138 ?_
                  refine x_iload 0 dX12_man_141 rfl ?_
                  refine x_iconst (v := (2 : Int32)) dX12_man_143 (by decide) ?_
                  refine x_iadd dX12_man_144 ?_
                  refine x_iload_n 4 dX12_man_145 rfl rfl ?_
                  refine z_bnd h (fun a12 ha12 h => ?_)
                  refine x_iastore ha12 ak_31 dX12_man_146 h (fun S13 hS13 h => ?_)
                  refine x_aload_n 1 dX12_man_147 rfl rfl ?_
                  refine x_getR rfl ck_12 6 (by decide) rfl q_1055 dX12_man_148 ?_
                  refine x_iload 0 dX12_man_151 rfl ?_
                  refine x_iconst (v := (3 : Int32)) dX12_man_153 (by decide) ?_
                  refine x_iadd dX12_man_154 ?_
                  refine x_iload 5 dX12_man_155 rfl ?_
                  refine z_bnd h (fun a14 ha14 h => ?_)
                  refine x_iastore ha14 ak_31 dX12_man_157 h (fun S15 hS15 h => ?_)
                  refine x_aload_n 1 dX12_man_158 rfl rfl ?_
                  refine x_getR rfl ck_12 6 (by decide) rfl q_1055 dX12_man_159 ?_
                  refine x_iload 0 dX12_man_162 rfl ?_
                  refine x_iconst (v := (4 : Int32)) dX12_man_164 (by decide) ?_
                  refine x_iadd dX12_man_165 ?_
                  refine x_iload 6 dX12_man_166 rfl ?_
                  refine z_bnd h (fun a16 ha16 h => ?_)
                  refine x_iastore ha16 ak_31 dX12_man_168 h (fun S17 hS17 h => ?_)
                  refine x_aload_n 1 dX12_man_169 rfl rfl ?_
                  refine x_getR rfl ck_12 6 (by decide) rfl q_1055 dX12_man_170 ?_
                  refine x_iload 0 dX12_man_173 rfl ?_
                  refine x_iconst (v := (5 : Int32)) dX12_man_175 (by decide) ?_
                  refine x_iadd dX12_man_176 ?_
                  refine x_iload 7 dX12_man_177 rfl ?_
                  refine z_bnd h (fun a18 ha18 h => ?_)
                  refine x_iastore ha18 ak_31 dX12_man_179 h (fun S19 hS19 h => ?_)
                  refine x_aload_n 1 dX12_man_180 rfl rfl ?_
                  refine x_getR rfl ck_12 6 (by decide) rfl q_1055 dX12_man_181 ?_
                  refine x_iload 0 dX12_man_184 rfl ?_
                  refine x_bipush (v := (6 : Int32)) dX12_man_186 (by decide) ?_
                  refine x_iadd dX12_man_188 ?_
                  refine x_iload 8 dX12_man_189 rfl ?_
                  refine z_bnd h (fun a20 ha20 h => ?_)
                  refine x_iastore ha20 ak_31 dX12_man_191 h (fun S21 hS21 h => ?_)
                  refine x_aload_n 1 dX12_man_192 rfl rfl ?_
                  refine x_getR rfl ck_12 6 (by decide) rfl q_1055 dX12_man_193 ?_
                  refine x_iload 0 dX12_man_196 rfl ?_
                  refine x_bipush (v := (7 : Int32)) dX12_man_198 (by decide) ?_
                  refine x_iadd dX12_man_200 ?_
                  refine x_iconst (v := (0 : Int32)) dX12_man_201 (by decide) ?_
                  refine z_bnd h (fun a22 ha22 h => ?_)
                  refine x_iastore ha22 ak_31 dX12_man_202 h (fun S23 hS23 h => ?_)
                  refine x_iconst (v := (0 : Int32)) dX12_man_203 (by decide) ?_
                  refine x_istore (lo' := [(9, z_i (0 : Int32)), (8, z_i ((8 : Int32) * (zI (zsI S 12 n0 0 (0 : Int32)) 12 n0 5))), (0, z_r 12 (some n0)), (1, z_i x1), (2, z_i x2), (3, z_i x3), (4, z_i x4), (5, z_i x5), (6, z_i x6), (7, z_i x7)]) dX12_man_204 (by decide) rfl ?_
                  refine z_bnd h (fun t26 ht26 h => ?_)
                  refine x_lo [2, 9, 0] rfl ?_
                  refine l_X12_man_206 ht26 ?_
                  refine x_aload_n 0 dX12_man_238 rfl rfl ?_
                  refine x_dup dX12_man_239 rfl ?_
                  refine x_getI rfl ck_12 5 (by decide) rfl q_1054 dX12_man_240 ?_
                  refine x_iconst (v := (1 : Int32)) dX12_man_243 (by decide) ?_
                  refine x_iadd dX12_man_244 ?_
                  refine x_putI rfl ck_12 5 (by decide) rfl (Or.inl rfl) (by rfl) rfl q_1054 dX12_man_245 ?_
                  refine x_aload_n 0 dX12_man_248 rfl rfl ?_
                  refine x_getI rfl ck_12 5 (by decide) rfl q_1054 dX12_man_249 ?_
                  refine x_iconst (v := (1 : Int32)) dX12_man_252 (by decide) ?_
                  refine x_isub dX12_man_253 ?_
                  exact x_iretE rfl dX12_man_254 h
                · refine x_bipush (v := (-4 : Int32)) dX12_man_107 (by decide) ?_
                  exact x_iretE rfl dX12_man_109 h
              · refine x_bipush (v := (-2 : Int32)) dX12_man_95 (by decide) ?_
                exact x_iretE rfl dX12_man_97 h
  · refine x_iconst (v := (-1 : Int32)) dX12_man_14 (by decide) ?_
    exact x_iretE rfl dX12_man_15 h
-- PressedMenModel about (II)I
abbrev Y_X12_about : ZM := (yX12_about, cX12_about, 3, (some .int), 2, 46)
theorem cw_X12_about : z_CV Y_X12_about 12 2 := ⟨⟨_, _, rfl⟩, by decide, q_1203, q_1204, q_1205, q_76, ⟨by decide, by decide⟩, rfl⟩
def f_X12_about (n0 : Nat) (x1 : Int32) (x2 : Int32) (S : ZH) : Option (Int32 × ZH) :=
  (f_X12_noMan n0 x1 (zsI S 12 n0 0 (0 : Int32))).bind fun q1 =>
  if q1 = 0 then (
    (f_X12_in x2.toInt64 (0 : Int64) (7 : Int64) (zsI S 12 n0 0 (0 : Int32))).bind fun q2 =>
    if q2 = 0 then (
      some ((-2 : Int32), (zsI S 12 n0 0 (0 : Int32)))
    ) else (
      ((zR (zsI S 12 n0 0 (0 : Int32)) 12 n0 6)).bind fun a3 =>
      (zld (zsI S 12 n0 0 (0 : Int32)) 31 a3 (((8 : Int32) * x1) + x2)).bind fun v4 =>
      some (v4, (zsI S 12 n0 0 (0 : Int32)))
    )
  ) else (
    some ((-1 : Int32), (zsI S 12 n0 0 (0 : Int32)))
  )
set_option maxRecDepth 20000 in
set_option maxHeartbeats 1000000 in
theorem w_X12_about {n0 : Nat} {x1 : Int32} {x2 : Int32} {S : ZH} {q : Int32 × ZH} (h : f_X12_about n0 x1 x2 S = some q) : MetX Y_X12_about S [z_r 12 (some n0), z_i x1, z_i x2] (some (z_i q.1)) q.2 := by
  refine MetX.of (lo := [(0, z_r 12 (some n0)), (1, z_i x1), (2, z_i x2)]) rfl (by decide) (Nat.le_of_ble_eq_true rfl) ?_
  unfold f_X12_about at h
  refine x_aload_n 0 dX12_about_0 rfl rfl ?_
  refine x_iconst (v := (0 : Int32)) dX12_about_1 (by decide) ?_
  refine x_putI rfl ck_12 0 (by decide) rfl (Or.inl rfl) (by rfl) rfl q_1049 dX12_about_2 ?_
  refine x_aload_n 0 dX12_about_5 rfl rfl ?_
  refine x_iload_n 1 dX12_about_6 rfl rfl ?_
  refine z_bnd h (fun q1 hq1 h => ?_)
  refine x_callV1 rfl (w_X12_noMan hq1) cw_X12_noMan q_1206 ⟨by decide, by decide⟩ (Nat.le_of_ble_eq_true rfl) dX12_about_7 rfl ?_
  refine x_if_eq (tgt := 15) dX12_about_10 (by decide) h (fun h => ?_) (fun h => ?_)
  · refine x_iload_n 2 dX12_about_15 rfl rfl ?_
    refine x_i2l dX12_about_16 ?_
    refine x_lconst (v := (0 : Int64)) dX12_about_17 (by decide) ?_
    refine x_ldc2 dX12_about_18 q_1210.1 ?_
    refine z_bnd h (fun q2 hq2 h => ?_)
    refine x_callS1 (w_X12_in hq2) cw_X12_in q_1172 ⟨by decide, by decide⟩ (Nat.le_of_ble_eq_true rfl) dX12_about_21 rfl ?_
    refine x_if_eq (tgt := 41) dX12_about_24 (by decide) h (fun h => ?_) (fun h => ?_)
    · refine x_bipush (v := (-2 : Int32)) dX12_about_41 (by decide) ?_
      exact x_iretE rfl dX12_about_43 h
    · refine x_aload_n 0 dX12_about_27 rfl rfl ?_
      refine x_getR rfl ck_12 6 (by decide) rfl q_1055 dX12_about_28 ?_
      refine x_bipush (v := (8 : Int32)) dX12_about_31 (by decide) ?_
      refine x_iload_n 1 dX12_about_33 rfl rfl ?_
      refine x_imul dX12_about_34 ?_
      refine x_iload_n 2 dX12_about_35 rfl rfl ?_
      refine x_iadd dX12_about_36 ?_
      refine z_bnd h (fun a3 ha3 h => ?_)
      refine x_iaload ha3 ak_31 dX12_about_37 h (fun v4 hv4 h => ?_)
      refine x_goto (tgt := 43) dX12_about_38 (by decide) ?_
      exact x_iretE rfl dX12_about_43 h
  · refine x_iconst (v := (-1 : Int32)) dX12_about_13 (by decide) ?_
    exact x_iretE rfl dX12_about_14 h
-- PressedMenModel shy (IZ)I
abbrev Y_X12_shy : ZM := (yX12_shy, cX12_shy, 4, (some .int), 2, 46)
theorem cw_X12_shy : z_CV Y_X12_shy 12 2 := ⟨⟨_, _, rfl⟩, by decide, q_1212, q_1213, q_1214, q_76, ⟨by decide, by decide⟩, rfl⟩
def f_X12_shy (n0 : Nat) (x1 : Int32) (x2 : Int32) (S : ZH) : Option (Int32 × ZH) :=
  (f_X12_noMan n0 x1 (zsI S 12 n0 0 (0 : Int32))).bind fun q1 =>
  if q1 = 0 then (
    ((zR (zsI S 12 n0 0 (0 : Int32)) 12 n0 6)).bind fun a2 =>
    (zld (zsI S 12 n0 0 (0 : Int32)) 31 a2 (((8 : Int32) * x1) + (7 : Int32))).bind fun v3 =>
    if x2 = 0 then (
      ((zR (zsI S 12 n0 0 (0 : Int32)) 12 n0 6)).bind fun a4 =>
      (zst (zsI S 12 n0 0 (0 : Int32)) 31 a4 (((8 : Int32) * x1) + (7 : Int32)) (0 : Int32)).bind fun S5 =>
      some (v3, S5)
    ) else (
      ((zR (zsI S 12 n0 0 (0 : Int32)) 12 n0 6)).bind fun a6 =>
      (zst (zsI S 12 n0 0 (0 : Int32)) 31 a6 (((8 : Int32) * x1) + (7 : Int32)) (1 : Int32)).bind fun S7 =>
      some (v3, S7)
    )
  ) else (
    some ((-1 : Int32), (zsI S 12 n0 0 (0 : Int32)))
  )
set_option maxRecDepth 20000 in
set_option maxHeartbeats 1000000 in
theorem w_X12_shy {n0 : Nat} {x1 : Int32} {x2 : Int32} {S : ZH} {q : Int32 × ZH} (h : f_X12_shy n0 x1 x2 S = some q) : MetX Y_X12_shy S [z_r 12 (some n0), z_i x1, z_i x2] (some (z_i q.1)) q.2 := by
  refine MetX.of (lo := [(0, z_r 12 (some n0)), (1, z_i x1), (2, z_i x2)]) rfl (by decide) (Nat.le_of_ble_eq_true rfl) ?_
  unfold f_X12_shy at h
  refine x_aload_n 0 dX12_shy_0 rfl rfl ?_
  refine x_iconst (v := (0 : Int32)) dX12_shy_1 (by decide) ?_
  refine x_putI rfl ck_12 0 (by decide) rfl (Or.inl rfl) (by rfl) rfl q_1049 dX12_shy_2 ?_
  refine x_aload_n 0 dX12_shy_5 rfl rfl ?_
  refine x_iload_n 1 dX12_shy_6 rfl rfl ?_
  refine z_bnd h (fun q1 hq1 h => ?_)
  refine x_callV1 rfl (w_X12_noMan hq1) cw_X12_noMan q_1206 ⟨by decide, by decide⟩ (Nat.le_of_ble_eq_true rfl) dX12_shy_7 rfl ?_
  refine x_if_eq (tgt := 15) dX12_shy_10 (by decide) h (fun h => ?_) (fun h => ?_)
  · refine x_aload_n 0 dX12_shy_15 rfl rfl ?_
    refine x_getR rfl ck_12 6 (by decide) rfl q_1055 dX12_shy_16 ?_
    refine x_bipush (v := (8 : Int32)) dX12_shy_19 (by decide) ?_
    refine x_iload_n 1 dX12_shy_21 rfl rfl ?_
    refine x_imul dX12_shy_22 ?_
    refine x_bipush (v := (7 : Int32)) dX12_shy_23 (by decide) ?_
    refine x_iadd dX12_shy_25 ?_
    refine z_bnd h (fun a2 ha2 h => ?_)
    refine x_iaload ha2 ak_31 dX12_shy_26 h (fun v3 hv3 h => ?_)
    refine x_istore_n (lo' := [(3, z_i v3), (0, z_r 12 (some n0)), (1, z_i x1), (2, z_i x2)]) dX12_shy_27 rfl (by decide) rfl ?_
    refine x_aload_n 1 dX12_shy_28 rfl rfl ?_
    refine x_getR rfl ck_12 6 (by decide) rfl q_1055 dX12_shy_29 ?_
    refine x_bipush (v := (8 : Int32)) dX12_shy_32 (by decide) ?_
    refine x_iload_n 2 dX12_shy_34 rfl rfl ?_
    refine x_imul dX12_shy_35 ?_
    refine x_bipush (v := (7 : Int32)) dX12_shy_36 (by decide) ?_
    refine x_iadd dX12_shy_38 ?_
    refine x_iload_n 3 dX12_shy_39 rfl rfl ?_
    refine x_if_eq (tgt := 47) dX12_shy_40 (by decide) h (fun h => ?_) (fun h => ?_)
    · refine x_iconst (v := (0 : Int32)) dX12_shy_47 (by decide) ?_
      refine z_bnd h (fun a4 ha4 h => ?_)
      refine x_iastore ha4 ak_31 dX12_shy_48 h (fun S5 hS5 h => ?_)
      refine x_iload_n 0 dX12_shy_49 rfl rfl ?_
      exact x_iretE rfl dX12_shy_50 h
    · refine x_iconst (v := (1 : Int32)) dX12_shy_43 (by decide) ?_
      refine x_goto (tgt := 48) dX12_shy_44 (by decide) ?_
      refine z_bnd h (fun a6 ha6 h => ?_)
      refine x_iastore ha6 ak_31 dX12_shy_48 h (fun S7 hS7 h => ?_)
      refine x_iload_n 0 dX12_shy_49 rfl rfl ?_
      exact x_iretE rfl dX12_shy_50 h
  · refine x_iconst (v := (-1 : Int32)) dX12_shy_13 (by decide) ?_
    exact x_iretE rfl dX12_shy_14 h
-- PressedMenModel placeOf (I)I
abbrev Y_X12_placeOf : ZM := (yX12_placeOf, cX12_placeOf, 2, (some .int), 0, 0)
theorem cw_X12_placeOf : z_CV Y_X12_placeOf 12 1 := ⟨⟨_, _, rfl⟩, by decide, q_1231, q_46, q_1232, q_76, ⟨by decide, by decide⟩, rfl⟩
def f_X12_placeOf (n0 : Nat) (x1 : Int32) (S : ZH) : Option (Int32) :=
  ((zR S 12 n0 8)).bind fun a1 =>
  (zld S 33 a1 (((40 : Int32) * (zI S 12 n0 4)) + x1)).bind fun v2 =>
  some v2
set_option maxRecDepth 20000 in
set_option maxHeartbeats 1000000 in
theorem w_X12_placeOf {n0 : Nat} {x1 : Int32} {S : ZH} {q : Int32} (h : f_X12_placeOf n0 x1 S = some q) : MetX Y_X12_placeOf S [z_r 12 (some n0), z_i x1] (some (z_i q)) S := by
  refine MetX.of (lo := [(0, z_r 12 (some n0)), (1, z_i x1)]) rfl (by decide) (Nat.le_of_ble_eq_true rfl) ?_
  unfold f_X12_placeOf at h
  refine x_aload_n 0 dX12_placeOf_0 rfl rfl ?_
  refine x_getR rfl ck_12 8 (by decide) rfl q_1057 dX12_placeOf_1 ?_
  refine x_bipush (v := (40 : Int32)) dX12_placeOf_4 (by decide) ?_
  refine x_aload_n 0 dX12_placeOf_6 rfl rfl ?_
  refine x_getI rfl ck_12 4 (by decide) rfl q_1053 dX12_placeOf_7 ?_
  refine x_imul dX12_placeOf_10 ?_
  refine x_iload_n 1 dX12_placeOf_11 rfl rfl ?_
  refine x_iadd dX12_placeOf_12 ?_
  refine z_bnd h (fun a1 ha1 h => ?_)
  refine x_iaload ha1 ak_33 dX12_placeOf_13 h (fun v2 hv2 h => ?_)
  exact x_iret rfl dX12_placeOf_14 h
-- PressedMenModel go (II)V
abbrev Y_X12_go : ZM := (yX12_go, cX12_go, 3, none, 0, 0)
theorem cw_X12_go : z_CV Y_X12_go 12 2 := ⟨⟨_, _, rfl⟩, by decide, q_1254, q_49, q_1255, q_76, ⟨by decide, by decide⟩, rfl⟩
def f_X12_go (n0 : Nat) (x1 : Int32) (x2 : Int32) (S : ZH) : Option (ZH) :=
  ((zR S 12 n0 8)).bind fun a1 =>
  (zst S 33 a1 (((40 : Int32) * (zI S 12 n0 4)) + x1) x2).bind fun S2 =>
  some S2
set_option maxRecDepth 20000 in
set_option maxHeartbeats 1000000 in
theorem w_X12_go {n0 : Nat} {x1 : Int32} {x2 : Int32} {S : ZH} {q : ZH} (h : f_X12_go n0 x1 x2 S = some q) : MetX Y_X12_go S [z_r 12 (some n0), z_i x1, z_i x2] none q := by
  refine MetX.of (lo := [(0, z_r 12 (some n0)), (1, z_i x1), (2, z_i x2)]) rfl (by decide) (Nat.le_of_ble_eq_true rfl) ?_
  unfold f_X12_go at h
  refine x_aload_n 0 dX12_go_0 rfl rfl ?_
  refine x_getR rfl ck_12 8 (by decide) rfl q_1057 dX12_go_1 ?_
  refine x_bipush (v := (40 : Int32)) dX12_go_4 (by decide) ?_
  refine x_aload_n 0 dX12_go_6 rfl rfl ?_
  refine x_getI rfl ck_12 4 (by decide) rfl q_1053 dX12_go_7 ?_
  refine x_imul dX12_go_10 ?_
  refine x_iload_n 1 dX12_go_11 rfl rfl ?_
  refine x_iadd dX12_go_12 ?_
  refine x_iload_n 2 dX12_go_13 rfl rfl ?_
  refine z_bnd h (fun a1 ha1 h => ?_)
  refine x_iastore ha1 ak_33 dX12_go_14 h (fun S2 hS2 h => ?_)
  exact x_vretE rfl dX12_go_15 h
-- PressedMenModel isStreet (I)Z
abbrev Y_X12_isStreet : ZM := (yX12_isStreet, cX12_isStreet, 1, (some .boolean), 1, 25)
theorem cw_X12_isStreet : z_CS Y_X12_isStreet 1 := ⟨q_1246, q_1247, q_76, ⟨by decide, by decide⟩, rfl⟩
def f_X12_isStreet (x0 : Int32) (S : ZH) : Option (Int32) :=
  (f_X12_in x0.toInt64 (0 : Int64) (7 : Int64) S).bind fun q1 =>
  if z_b q1 = q1 then some q1 else none
set_option maxRecDepth 20000 in
set_option maxHeartbeats 1000000 in
theorem w_X12_isStreet {x0 : Int32} {S : ZH} {q : Int32} (h : f_X12_isStreet x0 S = some q) : MetX Y_X12_isStreet S [z_i x0] (some (z_i q)) S := by
  refine MetX.of (lo := [(0, z_i x0)]) rfl (by decide) (Nat.le_of_ble_eq_true rfl) ?_
  unfold f_X12_isStreet at h
  refine x_iload_n 0 dX12_isStreet_0 rfl rfl ?_
  refine x_i2l dX12_isStreet_1 ?_
  refine x_lconst (v := (0 : Int64)) dX12_isStreet_2 (by decide) ?_
  refine x_ldc2 dX12_isStreet_3 q_1210.1 ?_
  refine z_bnd h (fun q1 hq1 h => ?_)
  refine x_callS1 (w_X12_in hq1) cw_X12_in q_1172 ⟨by decide, by decide⟩ (Nat.le_of_ble_eq_true rfl) dX12_isStreet_6 rfl ?_
  exact x_zret rfl dX12_isStreet_9 h
-- PressedMenModel isAboard (I)Z
abbrev Y_X12_isAboard : ZM := (yX12_isAboard, cX12_isAboard, 1, (some .boolean), 1, 25)
theorem cw_X12_isAboard : z_CS Y_X12_isAboard 1 := ⟨q_1346, q_1347, q_76, ⟨by decide, by decide⟩, rfl⟩
def f_X12_isAboard (x0 : Int32) (S : ZH) : Option (Int32) :=
  (f_X12_in x0.toInt64 (10 : Int64) (19 : Int64) S).bind fun q1 =>
  if z_b q1 = q1 then some q1 else none
set_option maxRecDepth 20000 in
set_option maxHeartbeats 1000000 in
theorem w_X12_isAboard {x0 : Int32} {S : ZH} {q : Int32} (h : f_X12_isAboard x0 S = some q) : MetX Y_X12_isAboard S [z_i x0] (some (z_i q)) S := by
  refine MetX.of (lo := [(0, z_i x0)]) rfl (by decide) (Nat.le_of_ble_eq_true rfl) ?_
  unfold f_X12_isAboard at h
  refine x_iload_n 0 dX12_isAboard_0 rfl rfl ?_
  refine x_i2l dX12_isAboard_1 ?_
  refine x_ldc2 dX12_isAboard_2 q_1195.1 ?_
  refine x_ldc2 dX12_isAboard_5 q_1348.1 ?_
  refine z_bnd h (fun q1 hq1 h => ?_)
  refine x_callS1 (w_X12_in hq1) cw_X12_in q_1172 ⟨by decide, by decide⟩ (Nat.le_of_ble_eq_true rfl) dX12_isAboard_8 rfl ?_
  exact x_zret rfl dX12_isAboard_11 h
-- PressedMenModel isHere (I)Z
abbrev Y_X12_isHere : ZM := (yX12_isHere, cX12_isHere, 2, (some .boolean), 2, 45)
theorem cw_X12_isHere : z_CV Y_X12_isHere 12 1 := ⟨⟨_, _, rfl⟩, by decide, q_1363, q_58, q_1364, q_76, ⟨by decide, by decide⟩, rfl⟩
def f_X12_isHere (n0 : Nat) (x1 : Int32) (S : ZH) : Option (Int32) :=
  (f_X12_isAboard x1 S).bind fun q1 =>
  if q1 = 0 then (
    some (0 : Int32)
  ) else (
    ((zR S 12 n0 14)).bind fun a2 =>
    (zld S 38 a2 (x1 - (10 : Int32))).bind fun v3 =>
    if ¬ v3 = 0 then (
      some (0 : Int32)
    ) else (
      some (1 : Int32)
    )
  )
set_option maxRecDepth 20000 in
set_option maxHeartbeats 1000000 in
theorem w_X12_isHere {n0 : Nat} {x1 : Int32} {S : ZH} {q : Int32} (h : f_X12_isHere n0 x1 S = some q) : MetX Y_X12_isHere S [z_r 12 (some n0), z_i x1] (some (z_i q)) S := by
  refine MetX.of (lo := [(0, z_r 12 (some n0)), (1, z_i x1)]) rfl (by decide) (Nat.le_of_ble_eq_true rfl) ?_
  unfold f_X12_isHere at h
  refine x_iload_n 1 dX12_isHere_0 rfl rfl ?_
  refine z_bnd h (fun q1 hq1 h => ?_)
  refine x_callS1 (w_X12_isAboard hq1) cw_X12_isAboard q_1345 ⟨by decide, by decide⟩ (Nat.le_of_ble_eq_true rfl) dX12_isHere_1 rfl ?_
  refine x_if_eq (tgt := 23) dX12_isHere_4 (by decide) h (fun h => ?_) (fun h => ?_)
  · refine x_iconst (v := (0 : Int32)) dX12_isHere_23 (by decide) ?_
    exact x_zretC rfl (by decide) dX12_isHere_24 h
  · refine x_aload_n 0 dX12_isHere_7 rfl rfl ?_
    refine x_getR rfl ck_12 14 (by decide) rfl q_1063 dX12_isHere_8 ?_
    refine x_iload_n 1 dX12_isHere_11 rfl rfl ?_
    refine x_bipush (v := (10 : Int32)) dX12_isHere_12 (by decide) ?_
    refine x_isub dX12_isHere_14 ?_
    refine z_bnd h (fun a2 ha2 h => ?_)
    refine x_zaload ha2 ak_38 dX12_isHere_15 h (fun v3 hv3 h => ?_)
    refine x_if_ne (tgt := 23) dX12_isHere_16 (by decide) h (fun h => ?_) (fun h => ?_)
    · refine x_iconst (v := (0 : Int32)) dX12_isHere_23 (by decide) ?_
      exact x_zretC rfl (by decide) dX12_isHere_24 h
    · refine x_iconst (v := (1 : Int32)) dX12_isHere_19 (by decide) ?_
      refine x_goto (tgt := 24) dX12_isHere_20 (by decide) ?_
      exact x_zretC rfl (by decide) dX12_isHere_24 h
-- PressedMenModel where (II)I
abbrev Y_X12_where : ZM := (yX12_where, cX12_where, 3, (some .int), 2, 46)
theorem cw_X12_where : z_CV Y_X12_where 12 2 := ⟨⟨_, _, rfl⟩, by decide, q_1216, q_1217, q_1218, q_76, ⟨by decide, by decide⟩, rfl⟩
def f_X12_where (n0 : Nat) (x1 : Int32) (x2 : Int32) (S : ZH) : Option (Int32 × ZH) :=
  (f_X12_noMan n0 x1 (zsI S 12 n0 0 (0 : Int32))).bind fun q1 =>
  if q1 = 0 then (
    (f_X12_in x2.toInt64 (0 : Int64) ((zI (zsI S 12 n0 0 (0 : Int32)) 12 n0 4).toInt64) (zsI S 12 n0 0 (0 : Int32))).bind fun q2 =>
    if q2 = 0 then (
      some ((-2 : Int32), (zsI S 12 n0 0 (0 : Int32)))
    ) else (
      ((zR (zsI S 12 n0 0 (0 : Int32)) 12 n0 8)).bind fun a3 =>
      (zld (zsI S 12 n0 0 (0 : Int32)) 33 a3 (((40 : Int32) * x2) + x1)).bind fun v4 =>
      some (v4, (zsI S 12 n0 0 (0 : Int32)))
    )
  ) else (
    some ((-1 : Int32), (zsI S 12 n0 0 (0 : Int32)))
  )
set_option maxRecDepth 20000 in
set_option maxHeartbeats 1000000 in
theorem w_X12_where {n0 : Nat} {x1 : Int32} {x2 : Int32} {S : ZH} {q : Int32 × ZH} (h : f_X12_where n0 x1 x2 S = some q) : MetX Y_X12_where S [z_r 12 (some n0), z_i x1, z_i x2] (some (z_i q.1)) q.2 := by
  refine MetX.of (lo := [(0, z_r 12 (some n0)), (1, z_i x1), (2, z_i x2)]) rfl (by decide) (Nat.le_of_ble_eq_true rfl) ?_
  unfold f_X12_where at h
  refine x_aload_n 0 dX12_where_0 rfl rfl ?_
  refine x_iconst (v := (0 : Int32)) dX12_where_1 (by decide) ?_
  refine x_putI rfl ck_12 0 (by decide) rfl (Or.inl rfl) (by rfl) rfl q_1049 dX12_where_2 ?_
  refine x_aload_n 0 dX12_where_5 rfl rfl ?_
  refine x_iload_n 1 dX12_where_6 rfl rfl ?_
  refine z_bnd h (fun q1 hq1 h => ?_)
  refine x_callV1 rfl (w_X12_noMan hq1) cw_X12_noMan q_1206 ⟨by decide, by decide⟩ (Nat.le_of_ble_eq_true rfl) dX12_where_7 rfl ?_
  refine x_if_eq (tgt := 15) dX12_where_10 (by decide) h (fun h => ?_) (fun h => ?_)
  · refine x_iload_n 2 dX12_where_15 rfl rfl ?_
    refine x_i2l dX12_where_16 ?_
    refine x_lconst (v := (0 : Int64)) dX12_where_17 (by decide) ?_
    refine x_aload_n 0 dX12_where_18 rfl rfl ?_
    refine x_getI rfl ck_12 4 (by decide) rfl q_1053 dX12_where_19 ?_
    refine x_i2l dX12_where_22 ?_
    refine z_bnd h (fun q2 hq2 h => ?_)
    refine x_callS1 (w_X12_in hq2) cw_X12_in q_1172 ⟨by decide, by decide⟩ (Nat.le_of_ble_eq_true rfl) dX12_where_23 rfl ?_
    refine x_if_eq (tgt := 43) dX12_where_26 (by decide) h (fun h => ?_) (fun h => ?_)
    · refine x_bipush (v := (-2 : Int32)) dX12_where_43 (by decide) ?_
      exact x_iretE rfl dX12_where_45 h
    · refine x_aload_n 0 dX12_where_29 rfl rfl ?_
      refine x_getR rfl ck_12 8 (by decide) rfl q_1057 dX12_where_30 ?_
      refine x_bipush (v := (40 : Int32)) dX12_where_33 (by decide) ?_
      refine x_iload_n 2 dX12_where_35 rfl rfl ?_
      refine x_imul dX12_where_36 ?_
      refine x_iload_n 1 dX12_where_37 rfl rfl ?_
      refine x_iadd dX12_where_38 ?_
      refine z_bnd h (fun a3 ha3 h => ?_)
      refine x_iaload ha3 ak_33 dX12_where_39 h (fun v4 hv4 h => ?_)
      refine x_goto (tgt := 45) dX12_where_40 (by decide) ?_
      exact x_iretE rfl dX12_where_45 h
  · refine x_iconst (v := (-1 : Int32)) dX12_where_13 (by decide) ?_
    exact x_iretE rfl dX12_where_14 h
-- PressedMenModel many (I)I
abbrev Y_X12_many : ZM := (yX12_many, cX12_many, 4, (some .int), 1, 21)
theorem cw_X12_many : z_CV Y_X12_many 12 1 := ⟨⟨_, _, rfl⟩, by decide, q_1227, q_45, q_1228, q_76, ⟨by decide, by decide⟩, rfl⟩
def b_X12_many_4 (n0 : Nat) (x1 : Int32) (S : ZH) (v : Int32 × Int32) : Option ((Int32 × Int32) ⊕ (Int32)) :=
  if (zI S 12 n0 5) ≤ v.2 then (
    some (Sum.inr v.1)
  ) else (
    (f_X12_placeOf n0 v.2 S).bind fun q1 =>
    if ¬ q1 = x1 then (
      some (Sum.inl ((v.1 + (0 : Int32)), (v.2 + 1)))
    ) else (
      some (Sum.inl ((v.1 + (1 : Int32)), (v.2 + 1)))
    )
  )
def f_X12_many (n0 : Nat) (x1 : Int32) (S : ZH) : Option (Int32) :=
  (z_iter zFU (b_X12_many_4 n0 x1 S) ((0 : Int32), (0 : Int32))).bind fun t2 =>
  some t2
set_option maxRecDepth 20000 in
theorem l_X12_many_4 {S0 : ZH} {F : ZP} {n0 : Nat} {x1 : Int32} {S : ZH} {v : Int32 × Int32} {t : Int32} (h : z_iter zFU (b_X12_many_4 n0 x1 S) v = some t) (k : (fun t => Wp Y_X12_many S0 F 35 [(2, z_i t)] [] S) t) : Wp Y_X12_many S0 F 4 [(0, z_r 12 (some n0)), (1, z_i x1), (2, z_i v.1), (3, z_i v.2)] [] S := by
  refine z_iter_P (P := fun v : Int32 × Int32 => Wp Y_X12_many S0 F 4 [(0, z_r 12 (some n0)), (1, z_i x1), (2, z_i v.1), (3, z_i v.2)] [] S) (X := (fun t => Wp Y_X12_many S0 F 35 [(2, z_i t)] [] S)) ?_ _ _ _ h k
  clear h k v t
  intro v r h k
  unfold b_X12_many_4 at h
  refine x_iload_n 3 dX12_many_4 rfl rfl ?_
  refine x_aload_n 0 dX12_many_5 rfl rfl ?_
  refine x_getI rfl ck_12 5 (by decide) rfl q_1054 dX12_many_6 ?_
  refine x_ic_ge (tgt := 35) dX12_many_9 (by decide) h (fun h => ?_) (fun h => ?_)
  · cases h
    exact x_lo [2] rfl k
  · refine x_iload_n 2 dX12_many_12 rfl rfl ?_
    refine x_aload_n 0 dX12_many_13 rfl rfl ?_
    refine x_iload_n 3 dX12_many_14 rfl rfl ?_
    refine z_bnd h (fun q1 hq1 h => ?_)
    refine x_callV1 rfl (w_X12_placeOf hq1) cw_X12_placeOf q_1229 ⟨by decide, by decide⟩ (Nat.le_of_ble_eq_true rfl) dX12_many_15 rfl ?_
    refine x_iload_n 1 dX12_many_18 rfl rfl ?_
    refine x_ic_ne (tgt := 26) dX12_many_19 (by decide) h (fun h => ?_) (fun h => ?_)
    · refine x_iconst (v := (0 : Int32)) dX12_many_26 (by decide) ?_
      refine x_iadd dX12_many_27 ?_
      refine x_istore_n (lo' := [(2, z_i (v.1 + (0 : Int32))), (0, z_r 12 (some n0)), (1, z_i x1), (3, z_i v.2)]) dX12_many_28 rfl (by decide) rfl ?_
      refine x_iinc (v := (v.2 + 1)) (lo' := [(3, z_i (v.2 + 1)), (2, z_i (v.1 + (0 : Int32))), (0, z_r 12 (some n0)), (1, z_i x1)]) 3 dX12_many_29 rfl (congrArg (HAdd.hAdd v.2) (by decide)) (by decide) rfl ?_
      refine x_goto (tgt := 4) dX12_many_32 (by decide) ?_
      cases h
      exact x_lo [2, 3, 1, 0] rfl k
    · refine x_iconst (v := (1 : Int32)) dX12_many_22 (by decide) ?_
      refine x_goto (tgt := 27) dX12_many_23 (by decide) ?_
      refine x_iadd dX12_many_27 ?_
      refine x_istore_n (lo' := [(2, z_i (v.1 + (1 : Int32))), (0, z_r 12 (some n0)), (1, z_i x1), (3, z_i v.2)]) dX12_many_28 rfl (by decide) rfl ?_
      refine x_iinc (v := (v.2 + 1)) (lo' := [(3, z_i (v.2 + 1)), (2, z_i (v.1 + (1 : Int32))), (0, z_r 12 (some n0)), (1, z_i x1)]) 3 dX12_many_29 rfl (congrArg (HAdd.hAdd v.2) (by decide)) (by decide) rfl ?_
      refine x_goto (tgt := 4) dX12_many_32 (by decide) ?_
      cases h
      exact x_lo [2, 3, 1, 0] rfl k
set_option maxRecDepth 20000 in
set_option maxHeartbeats 1000000 in
theorem w_X12_many {n0 : Nat} {x1 : Int32} {S : ZH} {q : Int32} (h : f_X12_many n0 x1 S = some q) : MetX Y_X12_many S [z_r 12 (some n0), z_i x1] (some (z_i q)) S := by
  refine MetX.of (lo := [(0, z_r 12 (some n0)), (1, z_i x1)]) rfl (by decide) (Nat.le_of_ble_eq_true rfl) ?_
  unfold f_X12_many at h
  refine x_iconst (v := (0 : Int32)) dX12_many_0 (by decide) ?_
  refine x_istore_n (lo' := [(2, z_i (0 : Int32)), (0, z_r 12 (some n0)), (1, z_i x1)]) dX12_many_1 rfl (by decide) rfl ?_
  refine x_iconst (v := (0 : Int32)) dX12_many_2 (by decide) ?_
  refine x_istore_n (lo' := [(3, z_i (0 : Int32)), (2, z_i (0 : Int32)), (0, z_r 12 (some n0)), (1, z_i x1)]) dX12_many_3 rfl (by decide) rfl ?_
  refine z_bnd h (fun t2 ht2 h => ?_)
  refine x_lo [2, 3, 1, 0] rfl ?_
  refine l_X12_many_4 ht2 ?_
  refine x_iload_n 0 dX12_many_35 rfl rfl ?_
  exact x_iret rfl dX12_many_36 h
-- PressedMenModel skilled (I)I
abbrev Y_X12_skilled : ZM := (yX12_skilled, cX12_skilled, 4, (some .int), 1, 21)
theorem cw_X12_skilled : z_CV Y_X12_skilled 12 1 := ⟨⟨_, _, rfl⟩, by decide, q_1432, q_63, q_1433, q_76, ⟨by decide, by decide⟩, rfl⟩
def b_X12_skilled_4 (n0 : Nat) (x1 : Int32) (S : ZH) (v : Int32 × Int32) : Option ((Int32 × Int32) ⊕ (Int32)) :=
  if (zI S 12 n0 5) ≤ v.2 then (
    some (Sum.inr v.1)
  ) else (
    (f_X12_placeOf n0 v.2 S).bind fun q1 =>
    if ¬ q1 = x1 then (
      some (Sum.inl ((v.1 + (0 : Int32)), (v.2 + 1)))
    ) else (
      ((zR S 12 n0 6)).bind fun a2 =>
      (zld S 31 a2 (((8 : Int32) * v.2) + (5 : Int32))).bind fun v3 =>
      if v3 ≤ (2 : Int32) then (
        some (Sum.inl ((v.1 + (0 : Int32)), (v.2 + 1)))
      ) else (
        some (Sum.inl ((v.1 + (1 : Int32)), (v.2 + 1)))
      )
    )
  )
def f_X12_skilled (n0 : Nat) (x1 : Int32) (S : ZH) : Option (Int32) :=
  (z_iter zFU (b_X12_skilled_4 n0 x1 S) ((0 : Int32), (0 : Int32))).bind fun t4 =>
  some t4
set_option maxRecDepth 20000 in
theorem l_X12_skilled_4 {S0 : ZH} {F : ZP} {n0 : Nat} {x1 : Int32} {S : ZH} {v : Int32 × Int32} {t : Int32} (h : z_iter zFU (b_X12_skilled_4 n0 x1 S) v = some t) (k : (fun t => Wp Y_X12_skilled S0 F 50 [(2, z_i t)] [] S) t) : Wp Y_X12_skilled S0 F 4 [(0, z_r 12 (some n0)), (1, z_i x1), (2, z_i v.1), (3, z_i v.2)] [] S := by
  refine z_iter_P (P := fun v : Int32 × Int32 => Wp Y_X12_skilled S0 F 4 [(0, z_r 12 (some n0)), (1, z_i x1), (2, z_i v.1), (3, z_i v.2)] [] S) (X := (fun t => Wp Y_X12_skilled S0 F 50 [(2, z_i t)] [] S)) ?_ _ _ _ h k
  clear h k v t
  intro v r h k
  unfold b_X12_skilled_4 at h
  refine x_iload_n 3 dX12_skilled_4 rfl rfl ?_
  refine x_aload_n 0 dX12_skilled_5 rfl rfl ?_
  refine x_getI rfl ck_12 5 (by decide) rfl q_1054 dX12_skilled_6 ?_
  refine x_ic_ge (tgt := 50) dX12_skilled_9 (by decide) h (fun h => ?_) (fun h => ?_)
  · cases h
    exact x_lo [2] rfl k
  · refine x_iload_n 2 dX12_skilled_12 rfl rfl ?_
    refine x_aload_n 0 dX12_skilled_13 rfl rfl ?_
    refine x_iload_n 3 dX12_skilled_14 rfl rfl ?_
    refine z_bnd h (fun q1 hq1 h => ?_)
    refine x_callV1 rfl (w_X12_placeOf hq1) cw_X12_placeOf q_1229 ⟨by decide, by decide⟩ (Nat.le_of_ble_eq_true rfl) dX12_skilled_15 rfl ?_
    refine x_iload_n 1 dX12_skilled_18 rfl rfl ?_
    refine x_ic_ne (tgt := 41) dX12_skilled_19 (by decide) h (fun h => ?_) (fun h => ?_)
    · refine x_iconst (v := (0 : Int32)) dX12_skilled_41 (by decide) ?_
      refine x_iadd dX12_skilled_42 ?_
      refine x_istore_n (lo' := [(2, z_i (v.1 + (0 : Int32))), (0, z_r 12 (some n0)), (1, z_i x1), (3, z_i v.2)]) dX12_skilled_43 rfl (by decide) rfl ?_
      refine x_iinc (v := (v.2 + 1)) (lo' := [(3, z_i (v.2 + 1)), (2, z_i (v.1 + (0 : Int32))), (0, z_r 12 (some n0)), (1, z_i x1)]) 3 dX12_skilled_44 rfl (congrArg (HAdd.hAdd v.2) (by decide)) (by decide) rfl ?_
      refine x_goto (tgt := 4) dX12_skilled_47 (by decide) ?_
      cases h
      exact x_lo [2, 3, 1, 0] rfl k
    · refine x_aload_n 0 dX12_skilled_22 rfl rfl ?_
      refine x_getR rfl ck_12 6 (by decide) rfl q_1055 dX12_skilled_23 ?_
      refine x_bipush (v := (8 : Int32)) dX12_skilled_26 (by decide) ?_
      refine x_iload_n 3 dX12_skilled_28 rfl rfl ?_
      refine x_imul dX12_skilled_29 ?_
      refine x_iconst (v := (5 : Int32)) dX12_skilled_30 (by decide) ?_
      refine x_iadd dX12_skilled_31 ?_
      refine z_bnd h (fun a2 ha2 h => ?_)
      refine x_iaload ha2 ak_31 dX12_skilled_32 h (fun v3 hv3 h => ?_)
      refine x_iconst (v := (2 : Int32)) dX12_skilled_33 (by decide) ?_
      refine x_ic_le (tgt := 41) dX12_skilled_34 (by decide) h (fun h => ?_) (fun h => ?_)
      · refine x_iconst (v := (0 : Int32)) dX12_skilled_41 (by decide) ?_
        refine x_iadd dX12_skilled_42 ?_
        refine x_istore_n (lo' := [(2, z_i (v.1 + (0 : Int32))), (0, z_r 12 (some n0)), (1, z_i x1), (3, z_i v.2)]) dX12_skilled_43 rfl (by decide) rfl ?_
        refine x_iinc (v := (v.2 + 1)) (lo' := [(3, z_i (v.2 + 1)), (2, z_i (v.1 + (0 : Int32))), (0, z_r 12 (some n0)), (1, z_i x1)]) 3 dX12_skilled_44 rfl (congrArg (HAdd.hAdd v.2) (by decide)) (by decide) rfl ?_
        refine x_goto (tgt := 4) dX12_skilled_47 (by decide) ?_
        cases h
        exact x_lo [2, 3, 1, 0] rfl k
      · refine x_iconst (v := (1 : Int32)) dX12_skilled_37 (by decide) ?_
        refine x_goto (tgt := 42) dX12_skilled_38 (by decide) ?_
        refine x_iadd dX12_skilled_42 ?_
        refine x_istore_n (lo' := [(2, z_i (v.1 + (1 : Int32))), (0, z_r 12 (some n0)), (1, z_i x1), (3, z_i v.2)]) dX12_skilled_43 rfl (by decide) rfl ?_
        refine x_iinc (v := (v.2 + 1)) (lo' := [(3, z_i (v.2 + 1)), (2, z_i (v.1 + (1 : Int32))), (0, z_r 12 (some n0)), (1, z_i x1)]) 3 dX12_skilled_44 rfl (congrArg (HAdd.hAdd v.2) (by decide)) (by decide) rfl ?_
        refine x_goto (tgt := 4) dX12_skilled_47 (by decide) ?_
        cases h
        exact x_lo [2, 3, 1, 0] rfl k
set_option maxRecDepth 20000 in
set_option maxHeartbeats 1000000 in
theorem w_X12_skilled {n0 : Nat} {x1 : Int32} {S : ZH} {q : Int32} (h : f_X12_skilled n0 x1 S = some q) : MetX Y_X12_skilled S [z_r 12 (some n0), z_i x1] (some (z_i q)) S := by
  refine MetX.of (lo := [(0, z_r 12 (some n0)), (1, z_i x1)]) rfl (by decide) (Nat.le_of_ble_eq_true rfl) ?_
  unfold f_X12_skilled at h
  refine x_iconst (v := (0 : Int32)) dX12_skilled_0 (by decide) ?_
  refine x_istore_n (lo' := [(2, z_i (0 : Int32)), (0, z_r 12 (some n0)), (1, z_i x1)]) dX12_skilled_1 rfl (by decide) rfl ?_
  refine x_iconst (v := (0 : Int32)) dX12_skilled_2 (by decide) ?_
  refine x_istore_n (lo' := [(3, z_i (0 : Int32)), (2, z_i (0 : Int32)), (0, z_r 12 (some n0)), (1, z_i x1)]) dX12_skilled_3 rfl (by decide) rfl ?_
  refine z_bnd h (fun t4 ht4 h => ?_)
  refine x_lo [2, 3, 1, 0] rfl ?_
  refine l_X12_skilled_4 ht4 ?_
  refine x_iload_n 0 dX12_skilled_50 rfl rfl ?_
  exact x_iret rfl dX12_skilled_51 h
-- PressedMenModel at (I)I
abbrev Y_X12_at : ZM := (yX12_at, cX12_at, 2, (some .int), 2, 44)
theorem cw_X12_at : z_CV Y_X12_at 12 1 := ⟨⟨_, _, rfl⟩, by decide, q_1220, q_1221, q_1222, q_76, ⟨by decide, by decide⟩, rfl⟩
def f_X12_at (n0 : Nat) (x1 : Int32) (S : ZH) : Option (Int32 × ZH) :=
  (f_X12_in x1.toInt64 (0 : Int64) (((zI (zsI S 12 n0 0 (0 : Int32)) 12 n0 1) - (1 : Int32)).toInt64) (zsI S 12 n0 0 (0 : Int32))).bind fun q1 =>
  if ¬ q1 = 0 then (
    (f_X12_many n0 x1 (zsI S 12 n0 0 (0 : Int32))).bind fun q2 =>
    some (q2, (zsI S 12 n0 0 (0 : Int32)))
  ) else (
    (f_X12_in x1.toInt64 (10 : Int64) (((9 : Int32) + (zI (zsI S 12 n0 0 (0 : Int32)) 12 n0 9)).toInt64) (zsI S 12 n0 0 (0 : Int32))).bind fun q3 =>
    if ¬ q3 = 0 then (
      (f_X12_many n0 x1 (zsI S 12 n0 0 (0 : Int32))).bind fun q4 =>
      some (q4, (zsI S 12 n0 0 (0 : Int32)))
    ) else (
      (f_X12_in x1.toInt64 (20 : Int64) (23 : Int64) (zsI S 12 n0 0 (0 : Int32))).bind fun q5 =>
      if q5 = 0 then (
        some ((-2 : Int32), (zsI S 12 n0 0 (0 : Int32)))
      ) else (
        (f_X12_many n0 x1 (zsI S 12 n0 0 (0 : Int32))).bind fun q6 =>
        some (q6, (zsI S 12 n0 0 (0 : Int32)))
      )
    )
  )
set_option maxRecDepth 20000 in
set_option maxHeartbeats 1000000 in
theorem w_X12_at {n0 : Nat} {x1 : Int32} {S : ZH} {q : Int32 × ZH} (h : f_X12_at n0 x1 S = some q) : MetX Y_X12_at S [z_r 12 (some n0), z_i x1] (some (z_i q.1)) q.2 := by
  refine MetX.of (lo := [(0, z_r 12 (some n0)), (1, z_i x1)]) rfl (by decide) (Nat.le_of_ble_eq_true rfl) ?_
  unfold f_X12_at at h
  refine x_aload_n 0 dX12_at_0 rfl rfl ?_
  refine x_iconst (v := (0 : Int32)) dX12_at_1 (by decide) ?_
  refine x_putI rfl ck_12 0 (by decide) rfl (Or.inl rfl) (by rfl) rfl q_1049 dX12_at_2 ?_
  refine x_iload_n 1 dX12_at_5 rfl rfl ?_
  refine x_i2l dX12_at_6 ?_
  refine x_lconst (v := (0 : Int64)) dX12_at_7 (by decide) ?_
  refine x_aload_n 0 dX12_at_8 rfl rfl ?_
  refine x_getI rfl ck_12 1 (by decide) rfl q_1050 dX12_at_9 ?_
  refine x_iconst (v := (1 : Int32)) dX12_at_12 (by decide) ?_
  refine x_isub dX12_at_13 ?_
  refine x_i2l dX12_at_14 ?_
  refine z_bnd h (fun q1 hq1 h => ?_)
  refine x_callS1 (w_X12_in hq1) cw_X12_in q_1172 ⟨by decide, by decide⟩ (Nat.le_of_ble_eq_true rfl) dX12_at_15 rfl ?_
  refine x_if_ne (tgt := 54) dX12_at_18 (by decide) h (fun h => ?_) (fun h => ?_)
  · refine x_aload_n 0 dX12_at_54 rfl rfl ?_
    refine x_iload_n 1 dX12_at_55 rfl rfl ?_
    refine z_bnd h (fun q2 hq2 h => ?_)
    refine x_callV1 rfl (w_X12_many hq2) cw_X12_many q_1225 ⟨by decide, by decide⟩ (Nat.le_of_ble_eq_true rfl) dX12_at_56 rfl ?_
    refine x_goto (tgt := 64) dX12_at_59 (by decide) ?_
    exact x_iretE rfl dX12_at_64 h
  · refine x_iload_n 1 dX12_at_21 rfl rfl ?_
    refine x_i2l dX12_at_22 ?_
    refine x_ldc2 dX12_at_23 q_1195.1 ?_
    refine x_bipush (v := (9 : Int32)) dX12_at_26 (by decide) ?_
    refine x_aload_n 0 dX12_at_28 rfl rfl ?_
    refine x_getI rfl ck_12 9 (by decide) rfl q_1058 dX12_at_29 ?_
    refine x_iadd dX12_at_32 ?_
    refine x_i2l dX12_at_33 ?_
    refine z_bnd h (fun q3 hq3 h => ?_)
    refine x_callS1 (w_X12_in hq3) cw_X12_in q_1172 ⟨by decide, by decide⟩ (Nat.le_of_ble_eq_true rfl) dX12_at_34 rfl ?_
    refine x_if_ne (tgt := 54) dX12_at_37 (by decide) h (fun h => ?_) (fun h => ?_)
    · refine x_aload_n 0 dX12_at_54 rfl rfl ?_
      refine x_iload_n 1 dX12_at_55 rfl rfl ?_
      refine z_bnd h (fun q4 hq4 h => ?_)
      refine x_callV1 rfl (w_X12_many hq4) cw_X12_many q_1225 ⟨by decide, by decide⟩ (Nat.le_of_ble_eq_true rfl) dX12_at_56 rfl ?_
      refine x_goto (tgt := 64) dX12_at_59 (by decide) ?_
      exact x_iretE rfl dX12_at_64 h
    · refine x_iload_n 1 dX12_at_40 rfl rfl ?_
      refine x_i2l dX12_at_41 ?_
      refine x_ldc2 dX12_at_42 q_1223.1 ?_
      refine x_ldc2 dX12_at_45 q_1224.1 ?_
      refine z_bnd h (fun q5 hq5 h => ?_)
      refine x_callS1 (w_X12_in hq5) cw_X12_in q_1172 ⟨by decide, by decide⟩ (Nat.le_of_ble_eq_true rfl) dX12_at_48 rfl ?_
      refine x_if_eq (tgt := 62) dX12_at_51 (by decide) h (fun h => ?_) (fun h => ?_)
      · refine x_bipush (v := (-2 : Int32)) dX12_at_62 (by decide) ?_
        exact x_iretE rfl dX12_at_64 h
      · refine x_aload_n 0 dX12_at_54 rfl rfl ?_
        refine x_iload_n 1 dX12_at_55 rfl rfl ?_
        refine z_bnd h (fun q6 hq6 h => ?_)
        refine x_callV1 rfl (w_X12_many hq6) cw_X12_many q_1225 ⟨by decide, by decide⟩ (Nat.le_of_ble_eq_true rfl) dX12_at_56 rfl ?_
        refine x_goto (tgt := 64) dX12_at_59 (by decide) ?_
        exact x_iretE rfl dX12_at_64 h
-- PressedMenModel tide ()I
abbrev Y_X12_tide : ZM := (yX12_tide, cX12_tide, 1, (some .int), 0, 0)
theorem cw_X12_tide : z_CV Y_X12_tide 12 0 := ⟨⟨_, _, rfl⟩, by decide, q_1234, q_1235, q_1236, q_76, ⟨by decide, by decide⟩, rfl⟩
def f_X12_tide (n0 : Nat) (S : ZH) : Option (Int32 × ZH) :=
  some ((zI (zsI S 12 n0 0 (0 : Int32)) 12 n0 4), (zsI S 12 n0 0 (0 : Int32)))
set_option maxRecDepth 20000 in
set_option maxHeartbeats 1000000 in
theorem w_X12_tide {n0 : Nat} {S : ZH} {q : Int32 × ZH} (h : f_X12_tide n0 S = some q) : MetX Y_X12_tide S [z_r 12 (some n0)] (some (z_i q.1)) q.2 := by
  refine MetX.of (lo := [(0, z_r 12 (some n0))]) rfl (by decide) (Nat.le_of_ble_eq_true rfl) ?_
  unfold f_X12_tide at h
  refine x_aload_n 0 dX12_tide_0 rfl rfl ?_
  refine x_iconst (v := (0 : Int32)) dX12_tide_1 (by decide) ?_
  refine x_putI rfl ck_12 0 (by decide) rfl (Or.inl rfl) (by rfl) rfl q_1049 dX12_tide_2 ?_
  refine x_aload_n 0 dX12_tide_5 rfl rfl ?_
  refine x_getI rfl ck_12 4 (by decide) rfl q_1053 dX12_tide_6 ?_
  exact x_iretE rfl dX12_tide_9 h
-- PressedMenModel heardAt (I)I
abbrev Y_X12_heardAt : ZM := (yX12_heardAt, cX12_heardAt, 6, (some .int), 2, 45)
theorem cw_X12_heardAt : z_CV Y_X12_heardAt 12 1 := ⟨⟨_, _, rfl⟩, by decide, q_1250, q_48, q_1251, q_76, ⟨by decide, by decide⟩, rfl⟩
def b_X12_heardAt_8 (n0 : Nat) (x1 : Int32) (S : ZH) (v : Int32 × Int32) : Option ((Int32 × Int32) ⊕ (Int32)) :=
  if (zI S 12 n0 22) ≤ v.2 then (
    some (Sum.inr v.1)
  ) else (
    ((zR S 12 n0 23)).bind fun a1 =>
    (zld S 44 a1 (((6 : Int32) * v.2) + (3 : Int32))).bind fun v2 =>
    (f_X12_isStreet v2 S).bind fun q3 =>
    if q3 = 0 then (
      some (Sum.inl (v.1, (v.2 + 1)))
    ) else (
      ((zR S 12 n0 3)).bind fun a4 =>
      (zld S 30 a4 (((8 : Int32) * v2) + x1)).bind fun v5 =>
      if (100 : Int32) ≤ v5 then (
        some (Sum.inl (v.1, (v.2 + 1)))
      ) else (
        ((zR S 12 n0 23)).bind fun a6 =>
        (zld S 44 a6 ((6 : Int32) * v.2)).bind fun v7 =>
        ((zR S 12 n0 3)).bind fun a8 =>
        (zld S 30 a8 (((8 : Int32) * v2) + x1)).bind fun v9 =>
        if v.1 = (-9 : Int32) then (
          some (Sum.inl ((v7 + v9), (v.2 + 1)))
        ) else (
          if v.1 ≤ (v7 + v9) then (
            some (Sum.inl (v.1, (v.2 + 1)))
          ) else (
            some (Sum.inl ((v7 + v9), (v.2 + 1)))
          )
        )
      )
    )
  )
def f_X12_heardAt (n0 : Nat) (x1 : Int32) (S : ZH) : Option (Int32) :=
  (z_iter zFU (b_X12_heardAt_8 n0 x1 S) ((-9 : Int32), (zI S 12 n0 24))).bind fun t10 =>
  some t10
set_option maxRecDepth 20000 in
theorem l_X12_heardAt_8 {S0 : ZH} {F : ZP} {n0 : Nat} {x1 : Int32} {S : ZH} {v : Int32 × Int32} {t : Int32} (h : z_iter zFU (b_X12_heardAt_8 n0 x1 S) v = some t) (k : (fun t => Wp Y_X12_heardAt S0 F 103 [(2, z_i t)] [] S) t) : Wp Y_X12_heardAt S0 F 8 [(0, z_r 12 (some n0)), (1, z_i x1), (2, z_i v.1), (3, z_i v.2)] [] S := by
  refine z_iter_P (P := fun v : Int32 × Int32 => Wp Y_X12_heardAt S0 F 8 [(0, z_r 12 (some n0)), (1, z_i x1), (2, z_i v.1), (3, z_i v.2)] [] S) (X := (fun t => Wp Y_X12_heardAt S0 F 103 [(2, z_i t)] [] S)) ?_ _ _ _ h k
  clear h k v t
  intro v r h k
  unfold b_X12_heardAt_8 at h
  refine x_iload_n 3 dX12_heardAt_8 rfl rfl ?_
  refine x_aload_n 0 dX12_heardAt_9 rfl rfl ?_
  refine x_getI rfl ck_12 22 (by decide) rfl q_1071 dX12_heardAt_10 ?_
  refine x_ic_ge (tgt := 103) dX12_heardAt_13 (by decide) h (fun h => ?_) (fun h => ?_)
  · cases h
    exact x_lo [2] rfl k
  · refine x_aload_n 0 dX12_heardAt_16 rfl rfl ?_
    refine x_getR rfl ck_12 23 (by decide) rfl q_1072 dX12_heardAt_17 ?_
    refine x_bipush (v := (6 : Int32)) dX12_heardAt_20 (by decide) ?_
    refine x_iload_n 3 dX12_heardAt_22 rfl rfl ?_
    refine x_imul dX12_heardAt_23 ?_
    refine x_iconst (v := (3 : Int32)) dX12_heardAt_24 (by decide) ?_
    refine x_iadd dX12_heardAt_25 ?_
    refine z_bnd h (fun a1 ha1 h => ?_)
    refine x_iaload ha1 ak_44 dX12_heardAt_26 h (fun v2 hv2 h => ?_)
    refine x_istore (lo' := [(4, z_i v2), (0, z_r 12 (some n0)), (1, z_i x1), (2, z_i v.1), (3, z_i v.2)]) dX12_heardAt_27 (by decide) rfl ?_
    refine x_iload 0 dX12_heardAt_29 rfl ?_
    refine z_bnd h (fun q3 hq3 h => ?_)
    refine x_callS1 (w_X12_isStreet hq3) cw_X12_isStreet q_1245 ⟨by decide, by decide⟩ (Nat.le_of_ble_eq_true rfl) dX12_heardAt_31 rfl ?_
    refine x_if_eq (tgt := 97) dX12_heardAt_34 (by decide) h (fun h => ?_) (fun h => ?_)
    · refine x_iinc (v := (v.2 + 1)) (lo' := [(3, z_i (v.2 + 1)), (4, z_i v2), (0, z_r 12 (some n0)), (1, z_i x1), (2, z_i v.1)]) 4 dX12_heardAt_97 rfl (congrArg (HAdd.hAdd v.2) (by decide)) (by decide) rfl ?_
      refine x_goto (tgt := 8) dX12_heardAt_100 (by decide) ?_
      cases h
      exact x_lo [2, 3, 4, 0] rfl k
    · refine x_aload_n 1 dX12_heardAt_37 rfl rfl ?_
      refine x_getR rfl ck_12 3 (by decide) rfl q_1052 dX12_heardAt_38 ?_
      refine x_bipush (v := (8 : Int32)) dX12_heardAt_41 (by decide) ?_
      refine x_iload 0 dX12_heardAt_43 rfl ?_
      refine x_imul dX12_heardAt_45 ?_
      refine x_iload_n 2 dX12_heardAt_46 rfl rfl ?_
      refine x_iadd dX12_heardAt_47 ?_
      refine z_bnd h (fun a4 ha4 h => ?_)
      refine x_iaload ha4 ak_30 dX12_heardAt_48 h (fun v5 hv5 h => ?_)
      refine x_bipush (v := (100 : Int32)) dX12_heardAt_49 (by decide) ?_
      refine x_ic_ge (tgt := 97) dX12_heardAt_51 (by decide) h (fun h => ?_) (fun h => ?_)
      · refine x_iinc (v := (v.2 + 1)) (lo' := [(3, z_i (v.2 + 1)), (4, z_i v2), (0, z_r 12 (some n0)), (1, z_i x1), (2, z_i v.1)]) 4 dX12_heardAt_97 rfl (congrArg (HAdd.hAdd v.2) (by decide)) (by decide) rfl ?_
        refine x_goto (tgt := 8) dX12_heardAt_100 (by decide) ?_
        cases h
        exact x_lo [2, 3, 4, 0] rfl k
      · refine x_aload_n 1 dX12_heardAt_54 rfl rfl ?_
        refine x_getR rfl ck_12 23 (by decide) rfl q_1072 dX12_heardAt_55 ?_
        refine x_bipush (v := (6 : Int32)) dX12_heardAt_58 (by decide) ?_
        refine x_iload_n 4 dX12_heardAt_60 rfl rfl ?_
        refine x_imul dX12_heardAt_61 ?_
        refine z_bnd h (fun a6 ha6 h => ?_)
        refine x_iaload ha6 ak_44 dX12_heardAt_62 h (fun v7 hv7 h => ?_)
        refine x_aload_n 1 dX12_heardAt_63 rfl rfl ?_
        refine x_getR rfl ck_12 3 (by decide) rfl q_1052 dX12_heardAt_64 ?_
        refine x_bipush (v := (8 : Int32)) dX12_heardAt_67 (by decide) ?_
        refine x_iload 0 dX12_heardAt_69 rfl ?_
        refine x_imul dX12_heardAt_71 ?_
        refine x_iload_n 2 dX12_heardAt_72 rfl rfl ?_
        refine x_iadd dX12_heardAt_73 ?_
        refine z_bnd h (fun a8 ha8 h => ?_)
        refine x_iaload ha8 ak_30 dX12_heardAt_74 h (fun v9 hv9 h => ?_)
        refine x_iadd dX12_heardAt_75 ?_
        refine x_istore (lo' := [(5, z_i (v7 + v9)), (4, z_i v2), (0, z_r 12 (some n0)), (1, z_i x1), (2, z_i v.1), (3, z_i v.2)]) dX12_heardAt_76 (by decide) rfl ?_
        refine x_iload_n 4 dX12_heardAt_78 rfl rfl ?_
        refine x_bipush (v := (-9 : Int32)) dX12_heardAt_79 (by decide) ?_
        refine x_ic_eq (tgt := 90) dX12_heardAt_81 (by decide) h (fun h => ?_) (fun h => ?_)
        · refine x_iload 0 dX12_heardAt_90 rfl ?_
          refine x_goto (tgt := 96) dX12_heardAt_92 (by decide) ?_
          refine x_istore_n (lo' := [(2, z_i (v7 + v9)), (5, z_i (v7 + v9)), (4, z_i v2), (0, z_r 12 (some n0)), (1, z_i x1), (3, z_i v.2)]) dX12_heardAt_96 rfl (by decide) rfl ?_
          refine x_iinc (v := (v.2 + 1)) (lo' := [(3, z_i (v.2 + 1)), (2, z_i (v7 + v9)), (5, z_i (v7 + v9)), (4, z_i v2), (0, z_r 12 (some n0)), (1, z_i x1)]) 5 dX12_heardAt_97 rfl (congrArg (HAdd.hAdd v.2) (by decide)) (by decide) rfl ?_
          refine x_goto (tgt := 8) dX12_heardAt_100 (by decide) ?_
          cases h
          exact x_lo [4, 5, 1, 0] rfl k
        · refine x_iload 0 dX12_heardAt_84 rfl ?_
          refine x_iload_n 4 dX12_heardAt_86 rfl rfl ?_
          refine x_ic_ge (tgt := 95) dX12_heardAt_87 (by decide) h (fun h => ?_) (fun h => ?_)
          · refine x_iload_n 4 dX12_heardAt_95 rfl rfl ?_
            refine x_istore_n (lo' := [(2, z_i v.1), (5, z_i (v7 + v9)), (4, z_i v2), (0, z_r 12 (some n0)), (1, z_i x1), (3, z_i v.2)]) dX12_heardAt_96 rfl (by decide) rfl ?_
            refine x_iinc (v := (v.2 + 1)) (lo' := [(3, z_i (v.2 + 1)), (2, z_i v.1), (5, z_i (v7 + v9)), (4, z_i v2), (0, z_r 12 (some n0)), (1, z_i x1)]) 5 dX12_heardAt_97 rfl (congrArg (HAdd.hAdd v.2) (by decide)) (by decide) rfl ?_
            refine x_goto (tgt := 8) dX12_heardAt_100 (by decide) ?_
            cases h
            exact x_lo [4, 5, 1, 0] rfl k
          · refine x_iload 0 dX12_heardAt_90 rfl ?_
            refine x_goto (tgt := 96) dX12_heardAt_92 (by decide) ?_
            refine x_istore_n (lo' := [(2, z_i (v7 + v9)), (5, z_i (v7 + v9)), (4, z_i v2), (0, z_r 12 (some n0)), (1, z_i x1), (3, z_i v.2)]) dX12_heardAt_96 rfl (by decide) rfl ?_
            refine x_iinc (v := (v.2 + 1)) (lo' := [(3, z_i (v.2 + 1)), (2, z_i (v7 + v9)), (5, z_i (v7 + v9)), (4, z_i v2), (0, z_r 12 (some n0)), (1, z_i x1)]) 5 dX12_heardAt_97 rfl (congrArg (HAdd.hAdd v.2) (by decide)) (by decide) rfl ?_
            refine x_goto (tgt := 8) dX12_heardAt_100 (by decide) ?_
            cases h
            exact x_lo [4, 5, 1, 0] rfl k
set_option maxRecDepth 20000 in
set_option maxHeartbeats 1000000 in
theorem w_X12_heardAt {n0 : Nat} {x1 : Int32} {S : ZH} {q : Int32} (h : f_X12_heardAt n0 x1 S = some q) : MetX Y_X12_heardAt S [z_r 12 (some n0), z_i x1] (some (z_i q)) S := by
  refine MetX.of (lo := [(0, z_r 12 (some n0)), (1, z_i x1)]) rfl (by decide) (Nat.le_of_ble_eq_true rfl) ?_
  unfold f_X12_heardAt at h
  refine x_bipush (v := (-9 : Int32)) dX12_heardAt_0 (by decide) ?_
  refine x_istore_n (lo' := [(2, z_i (-9 : Int32)), (0, z_r 12 (some n0)), (1, z_i x1)]) dX12_heardAt_2 rfl (by decide) rfl ?_
  refine x_aload_n 1 dX12_heardAt_3 rfl rfl ?_
  refine x_getI rfl ck_12 24 (by decide) rfl q_1073 dX12_heardAt_4 ?_
  refine x_istore_n (lo' := [(3, z_i (zI S 12 n0 24)), (2, z_i (-9 : Int32)), (0, z_r 12 (some n0)), (1, z_i x1)]) dX12_heardAt_7 rfl (by decide) rfl ?_
  refine z_bnd h (fun t10 ht10 h => ?_)
  refine x_lo [2, 3, 1, 0] rfl ?_
  refine l_X12_heardAt_8 ht10 ?_
  refine x_iload_n 0 dX12_heardAt_103 rfl rfl ?_
  exact x_iret rfl dX12_heardAt_104 h
-- PressedMenModel goOn ()V
abbrev Y_X12_goOn : ZM := (yX12_goOn, cX12_goOn, 4, none, 3, 70)
theorem cw_X12_goOn : z_CV Y_X12_goOn 12 0 := ⟨⟨_, _, rfl⟩, by decide, q_1243, q_47, q_1244, q_76, ⟨by decide, by decide⟩, rfl⟩
def b_X12_goOn_12 (n0 : Nat) (v : Int32 × ZH) : Option ((Int32 × ZH) ⊕ (ZH)) :=
  if (zI v.2 12 n0 5) ≤ v.1 then (
    some (Sum.inr v.2)
  ) else (
    ((zR v.2 12 n0 8)).bind fun a1 =>
    (zld v.2 33 a1 (((40 : Int32) * ((zI v.2 12 n0 4) - (1 : Int32))) + v.1)).bind fun v2 =>
    ((zR v.2 12 n0 8)).bind fun a3 =>
    (zst v.2 33 a3 (((40 : Int32) * (zI v.2 12 n0 4)) + v.1) v2).bind fun S4 =>
    some (Sum.inl ((v.1 + 1), S4))
  )
def j_X12_goOn_89 (n0 : Nat) (x1 : Int32) (s0 : Int32) (S : ZH) : Option ((Int32 × ZH) ⊕ (ZH)) :=
  ((zR S 12 n0 6)).bind fun a8 =>
  (zld S 31 a8 (((8 : Int32) * x1) + (7 : Int32))).bind fun v9 =>
  if ¬ v9 = (1 : Int32) then (
    some (Sum.inl ((x1 + 1), S))
  ) else (
    if s0 = (-9 : Int32) then (
      some (Sum.inl ((x1 + 1), S))
    ) else (
      if (zI S 12 n0 4) < s0 then (
        some (Sum.inl ((x1 + 1), S))
      ) else (
        (f_X12_go n0 x1 (22 : Int32) S).bind fun q10 =>
        some (Sum.inl ((x1 + 1), q10))
      )
    )
  )
def b_X12_goOn_58 (n0 : Nat) (v : Int32 × ZH) : Option ((Int32 × ZH) ⊕ (ZH)) :=
  if (zI v.2 12 n0 5) ≤ v.1 then (
    some (Sum.inr v.2)
  ) else (
    (f_X12_placeOf n0 v.1 v.2).bind fun q6 =>
    (f_X12_isStreet q6 v.2).bind fun q7 =>
    if q7 = 0 then (
      j_X12_goOn_89 n0 v.1 (-9 : Int32) v.2
    ) else (
      (f_X12_heardAt n0 q6 v.2).bind fun q11 =>
      j_X12_goOn_89 n0 v.1 q11 v.2
    )
  )
def b_X12_goOn_165 (n0 : Nat) (v : Int32 × Int32 × ZH) : Option ((Int32 × Int32 × ZH) ⊕ (ZH)) :=
  if (zI v.2.2 12 n0 5) ≤ v.2.1 then (
    some (Sum.inr v.2.2)
  ) else (
    if v.1 ≤ 0 then (
      some (Sum.inr v.2.2)
    ) else (
      (f_X12_placeOf n0 v.2.1 v.2.2).bind fun q14 =>
      if ¬ q14 = (20 : Int32) then (
        some (Sum.inl (v.1, (v.2.1 + 1), v.2.2))
      ) else (
        (f_X12_go n0 v.2.1 (21 : Int32) v.2.2).bind fun q15 =>
        ((zR q15 12 n0 7)).bind fun a16 =>
        (zst q15 32 a16 v.2.1 (zI q15 12 n0 4)).bind fun S17 =>
        some (Sum.inl ((v.1 + (-1)), (v.2.1 + 1), S17))
      )
    )
  )
def b_X12_goOn_215 (n0 : Nat) (v : Int32 × ZH) : Option ((Int32 × ZH) ⊕ (ZH)) :=
  if (zI v.2 12 n0 5) ≤ v.1 then (
    some (Sum.inr v.2)
  ) else (
    (f_X12_placeOf n0 v.1 v.2).bind fun q19 =>
    if ¬ q19 = (21 : Int32) then (
      some (Sum.inl ((v.1 + 1), v.2))
    ) else (
      ((zR v.2 12 n0 7)).bind fun a20 =>
      (zld v.2 32 a20 v.1).bind fun v21 =>
      if ¬ v21 = ((zI v.2 12 n0 4) - (10 : Int32)) then (
        some (Sum.inl ((v.1 + 1), v.2))
      ) else (
        ((zR v.2 12 n0 6)).bind fun a22 =>
        (zld v.2 31 a22 (((8 : Int32) * v.1) + (6 : Int32))).bind fun v23 =>
        (f_X12_go n0 v.1 v23 v.2).bind fun q24 =>
        some (Sum.inl ((v.1 + 1), q24))
      )
    )
  )
def j_X12_goOn_213 (n0 : Nat)  (S : ZH) : Option (ZH) :=
  (z_iter zFU (b_X12_goOn_215 n0) ((0 : Int32), S)).bind fun t25 =>
  some t25
def j_X12_goOn_162 (n0 : Nat) (s0 : Int32) (S : ZH) : Option (ZH) :=
  (z_iter zFU (b_X12_goOn_165 n0) (s0, (0 : Int32), S)).bind fun t18 =>
  j_X12_goOn_213 n0 t18
def f_X12_goOn (n0 : Nat) (S : ZH) : Option (ZH) :=
  (z_iter zFU (b_X12_goOn_12 n0) ((0 : Int32), (zsI S 12 n0 4 ((zI S 12 n0 4) + (1 : Int32))))).bind fun t5 =>
  (z_iter zFU (b_X12_goOn_58 n0) ((0 : Int32), t5)).bind fun t12 =>
  (f_X12_many n0 (20 : Int32) t12).bind fun q13 =>
  if (q13 - (zI t12 12 n0 25)) ≤ 0 then (
    j_X12_goOn_162 n0 (0 : Int32) t12
  ) else (
    j_X12_goOn_162 n0 (((q13 - (zI t12 12 n0 25)) * (zI t12 12 n0 26)) / (100 : Int32)) t12
  )
set_option maxRecDepth 20000 in
theorem l_X12_goOn_12 {S0 : ZH} {F : ZP} {n0 : Nat} {v : Int32 × ZH} {t : ZH} (h : z_iter zFU (b_X12_goOn_12 n0) v = some t) (k : (fun t => Wp Y_X12_goOn S0 F 56 [(0, z_r 12 (some n0))] [] t) t) : Wp Y_X12_goOn S0 F 12 [(0, z_r 12 (some n0)), (1, z_i v.1)] [] v.2 := by
  refine z_iter_P (P := fun v : Int32 × ZH => Wp Y_X12_goOn S0 F 12 [(0, z_r 12 (some n0)), (1, z_i v.1)] [] v.2) (X := (fun t => Wp Y_X12_goOn S0 F 56 [(0, z_r 12 (some n0))] [] t)) ?_ _ _ _ h k
  clear h k v t
  intro v r h k
  unfold b_X12_goOn_12 at h
  refine x_iload_n 1 dX12_goOn_12 rfl rfl ?_
  refine x_aload_n 0 dX12_goOn_13 rfl rfl ?_
  refine x_getI rfl ck_12 5 (by decide) rfl q_1054 dX12_goOn_14 ?_
  refine x_ic_ge (tgt := 56) dX12_goOn_17 (by decide) h (fun h => ?_) (fun h => ?_)
  · cases h
    exact x_lo [0] rfl k
  · refine x_aload_n 0 dX12_goOn_20 rfl rfl ?_
    refine x_getR rfl ck_12 8 (by decide) rfl q_1057 dX12_goOn_21 ?_
    refine x_bipush (v := (40 : Int32)) dX12_goOn_24 (by decide) ?_
    refine x_aload_n 0 dX12_goOn_26 rfl rfl ?_
    refine x_getI rfl ck_12 4 (by decide) rfl q_1053 dX12_goOn_27 ?_
    refine x_imul dX12_goOn_30 ?_
    refine x_iload_n 1 dX12_goOn_31 rfl rfl ?_
    refine x_iadd dX12_goOn_32 ?_
    refine x_aload_n 0 dX12_goOn_33 rfl rfl ?_
    refine x_getR rfl ck_12 8 (by decide) rfl q_1057 dX12_goOn_34 ?_
    refine x_bipush (v := (40 : Int32)) dX12_goOn_37 (by decide) ?_
    refine x_aload_n 0 dX12_goOn_39 rfl rfl ?_
    refine x_getI rfl ck_12 4 (by decide) rfl q_1053 dX12_goOn_40 ?_
    refine x_iconst (v := (1 : Int32)) dX12_goOn_43 (by decide) ?_
    refine x_isub dX12_goOn_44 ?_
    refine x_imul dX12_goOn_45 ?_
    refine x_iload_n 1 dX12_goOn_46 rfl rfl ?_
    refine x_iadd dX12_goOn_47 ?_
    refine z_bnd h (fun a1 ha1 h => ?_)
    refine x_iaload ha1 ak_33 dX12_goOn_48 h (fun v2 hv2 h => ?_)
    refine z_bnd h (fun a3 ha3 h => ?_)
    refine x_iastore ha3 ak_33 dX12_goOn_49 h (fun S4 hS4 h => ?_)
    refine x_iinc (v := (v.1 + 1)) (lo' := [(1, z_i (v.1 + 1)), (0, z_r 12 (some n0))]) 1 dX12_goOn_50 rfl (congrArg (HAdd.hAdd v.1) (by decide)) (by decide) rfl ?_
    refine x_goto (tgt := 12) dX12_goOn_53 (by decide) ?_
    cases h
    exact x_lo [1, 0] rfl k
set_option maxRecDepth 20000 in
theorem k_X12_goOn_89 {S0 : ZH} {F : ZP} {n0 : Nat} {x1 : Int32} {s0 : Int32}  {S : ZH} {z : (Int32 × ZH) ⊕ (ZH)} (h : j_X12_goOn_89 n0 x1 s0 S = some z) (k : Sum.elim (fun v : Int32 × ZH => Wp Y_X12_goOn S0 F 58 [(0, z_r 12 (some n0)), (1, z_i v.1)] [] v.2) (fun t => Wp Y_X12_goOn S0 F 133 [(0, z_r 12 (some n0))] [] t) z) : Wp Y_X12_goOn S0 (F) 89 [(0, z_r 12 (some n0)), (1, z_i x1)] [z_i s0] S := by
  unfold j_X12_goOn_89 at h
  refine x_istore_n (lo' := [(3, z_i s0), (0, z_r 12 (some n0)), (1, z_i x1)]) dX12_goOn_89 rfl (by decide) rfl ?_
  refine x_aload_n 1 dX12_goOn_90 rfl rfl ?_
  refine x_getR rfl ck_12 6 (by decide) rfl q_1055 dX12_goOn_91 ?_
  refine x_bipush (v := (8 : Int32)) dX12_goOn_94 (by decide) ?_
  refine x_iload_n 2 dX12_goOn_96 rfl rfl ?_
  refine x_imul dX12_goOn_97 ?_
  refine x_bipush (v := (7 : Int32)) dX12_goOn_98 (by decide) ?_
  refine x_iadd dX12_goOn_100 ?_
  refine z_bnd h (fun a8 ha8 h => ?_)
  refine x_iaload ha8 ak_31 dX12_goOn_101 h (fun v9 hv9 h => ?_)
  refine x_iconst (v := (1 : Int32)) dX12_goOn_102 (by decide) ?_
  refine x_ic_ne (tgt := 127) dX12_goOn_103 (by decide) h (fun h => ?_) (fun h => ?_)
  · refine x_iinc (v := (x1 + 1)) (lo' := [(1, z_i (x1 + 1)), (3, z_i s0), (0, z_r 12 (some n0))]) 2 dX12_goOn_127 rfl (congrArg (HAdd.hAdd x1) (by decide)) (by decide) rfl ?_
    refine x_goto (tgt := 58) dX12_goOn_130 (by decide) ?_
    cases h
    exact x_lo [2, 0] rfl k
  · refine x_iload_n 0 dX12_goOn_106 rfl rfl ?_
    refine x_bipush (v := (-9 : Int32)) dX12_goOn_107 (by decide) ?_
    refine x_ic_eq (tgt := 127) dX12_goOn_109 (by decide) h (fun h => ?_) (fun h => ?_)
    · refine x_iinc (v := (x1 + 1)) (lo' := [(1, z_i (x1 + 1)), (3, z_i s0), (0, z_r 12 (some n0))]) 2 dX12_goOn_127 rfl (congrArg (HAdd.hAdd x1) (by decide)) (by decide) rfl ?_
      refine x_goto (tgt := 58) dX12_goOn_130 (by decide) ?_
      cases h
      exact x_lo [2, 0] rfl k
    · refine x_iload_n 0 dX12_goOn_112 rfl rfl ?_
      refine x_aload_n 1 dX12_goOn_113 rfl rfl ?_
      refine x_getI rfl ck_12 4 (by decide) rfl q_1053 dX12_goOn_114 ?_
      refine x_ic_gt (tgt := 127) dX12_goOn_117 (by decide) h (fun h => ?_) (fun h => ?_)
      · refine x_iinc (v := (x1 + 1)) (lo' := [(1, z_i (x1 + 1)), (3, z_i s0), (0, z_r 12 (some n0))]) 2 dX12_goOn_127 rfl (congrArg (HAdd.hAdd x1) (by decide)) (by decide) rfl ?_
        refine x_goto (tgt := 58) dX12_goOn_130 (by decide) ?_
        cases h
        exact x_lo [2, 0] rfl k
      · refine x_aload_n 1 dX12_goOn_120 rfl rfl ?_
        refine x_iload_n 2 dX12_goOn_121 rfl rfl ?_
        refine x_bipush (v := (22 : Int32)) dX12_goOn_122 (by decide) ?_
        refine z_bnd h (fun q10 hq10 h => ?_)
        refine x_callVv rfl (w_X12_go hq10) cw_X12_go q_1252 ⟨by decide, by decide⟩ (Nat.le_of_ble_eq_true rfl) dX12_goOn_124 rfl ?_
        refine x_iinc (v := (x1 + 1)) (lo' := [(1, z_i (x1 + 1)), (3, z_i s0), (0, z_r 12 (some n0))]) 2 dX12_goOn_127 rfl (congrArg (HAdd.hAdd x1) (by decide)) (by decide) rfl ?_
        refine x_goto (tgt := 58) dX12_goOn_130 (by decide) ?_
        cases h
        exact x_lo [2, 0] rfl k
set_option maxRecDepth 20000 in
theorem l_X12_goOn_58 {S0 : ZH} {F : ZP} {n0 : Nat} {v : Int32 × ZH} {t : ZH} (h : z_iter zFU (b_X12_goOn_58 n0) v = some t) (k : (fun t => Wp Y_X12_goOn S0 F 133 [(0, z_r 12 (some n0))] [] t) t) : Wp Y_X12_goOn S0 F 58 [(0, z_r 12 (some n0)), (1, z_i v.1)] [] v.2 := by
  refine z_iter_P (P := fun v : Int32 × ZH => Wp Y_X12_goOn S0 F 58 [(0, z_r 12 (some n0)), (1, z_i v.1)] [] v.2) (X := (fun t => Wp Y_X12_goOn S0 F 133 [(0, z_r 12 (some n0))] [] t)) ?_ _ _ _ h k
  clear h k v t
  intro v r h k
  unfold b_X12_goOn_58 at h
  refine x_iload_n 1 dX12_goOn_58 rfl rfl ?_
  refine x_aload_n 0 dX12_goOn_59 rfl rfl ?_
  refine x_getI rfl ck_12 5 (by decide) rfl q_1054 dX12_goOn_60 ?_
  refine x_ic_ge (tgt := 133) dX12_goOn_63 (by decide) h (fun h => ?_) (fun h => ?_)
  · cases h
    exact x_lo [0] rfl k
  · refine x_aload_n 0 dX12_goOn_66 rfl rfl ?_
    refine x_iload_n 1 dX12_goOn_67 rfl rfl ?_
    refine z_bnd h (fun q6 hq6 h => ?_)
    refine x_callV1 rfl (w_X12_placeOf hq6) cw_X12_placeOf q_1229 ⟨by decide, by decide⟩ (Nat.le_of_ble_eq_true rfl) dX12_goOn_68 rfl ?_
    refine x_istore_n (lo' := [(2, z_i q6), (0, z_r 12 (some n0)), (1, z_i v.1)]) dX12_goOn_71 rfl (by decide) rfl ?_
    refine x_iload_n 0 dX12_goOn_72 rfl rfl ?_
    refine z_bnd h (fun q7 hq7 h => ?_)
    refine x_callS1 (w_X12_isStreet hq7) cw_X12_isStreet q_1245 ⟨by decide, by decide⟩ (Nat.le_of_ble_eq_true rfl) dX12_goOn_73 rfl ?_
    refine x_if_eq (tgt := 87) dX12_goOn_76 (by decide) h (fun h => ?_) (fun h => ?_)
    · refine x_bipush (v := (-9 : Int32)) dX12_goOn_87 (by decide) ?_
      exact x_lo [1, 2] rfl (k_X12_goOn_89 h k)
    · refine x_aload_n 1 dX12_goOn_79 rfl rfl ?_
      refine x_iload_n 0 dX12_goOn_80 rfl rfl ?_
      refine z_bnd h (fun q11 hq11 h => ?_)
      refine x_callV1 rfl (w_X12_heardAt hq11) cw_X12_heardAt q_1248 ⟨by decide, by decide⟩ (Nat.le_of_ble_eq_true rfl) dX12_goOn_81 rfl ?_
      refine x_goto (tgt := 89) dX12_goOn_84 (by decide) ?_
      exact x_lo [1, 2] rfl (k_X12_goOn_89 h k)
set_option maxRecDepth 20000 in
theorem l_X12_goOn_165 {S0 : ZH} {F : ZP} {n0 : Nat} {v : Int32 × Int32 × ZH} {t : ZH} (h : z_iter zFU (b_X12_goOn_165 n0) v = some t) (k : (fun t => Wp Y_X12_goOn S0 F 213 [(0, z_r 12 (some n0))] [] t) t) : Wp Y_X12_goOn S0 F 165 [(0, z_r 12 (some n0)), (2, z_i v.1), (3, z_i v.2.1)] [] v.2.2 := by
  refine z_iter_P (P := fun v : Int32 × Int32 × ZH => Wp Y_X12_goOn S0 F 165 [(0, z_r 12 (some n0)), (2, z_i v.1), (3, z_i v.2.1)] [] v.2.2) (X := (fun t => Wp Y_X12_goOn S0 F 213 [(0, z_r 12 (some n0))] [] t)) ?_ _ _ _ h k
  clear h k v t
  intro v r h k
  unfold b_X12_goOn_165 at h
  refine x_iload_n 2 dX12_goOn_165 rfl rfl ?_
  refine x_aload_n 0 dX12_goOn_166 rfl rfl ?_
  refine x_getI rfl ck_12 5 (by decide) rfl q_1054 dX12_goOn_167 ?_
  refine x_ic_ge (tgt := 213) dX12_goOn_170 (by decide) h (fun h => ?_) (fun h => ?_)
  · cases h
    exact x_lo [0] rfl k
  · refine x_iload_n 1 dX12_goOn_173 rfl rfl ?_
    refine x_if_le (tgt := 213) dX12_goOn_174 (by decide) h (fun h => ?_) (fun h => ?_)
    · cases h
      exact x_lo [0] rfl k
    · refine x_aload_n 0 dX12_goOn_177 rfl rfl ?_
      refine x_iload_n 2 dX12_goOn_178 rfl rfl ?_
      refine z_bnd h (fun q14 hq14 h => ?_)
      refine x_callV1 rfl (w_X12_placeOf hq14) cw_X12_placeOf q_1229 ⟨by decide, by decide⟩ (Nat.le_of_ble_eq_true rfl) dX12_goOn_179 rfl ?_
      refine x_bipush (v := (20 : Int32)) dX12_goOn_182 (by decide) ?_
      refine x_ic_ne (tgt := 207) dX12_goOn_184 (by decide) h (fun h => ?_) (fun h => ?_)
      · refine x_iinc (v := (v.2.1 + 1)) (lo' := [(3, z_i (v.2.1 + 1)), (0, z_r 12 (some n0)), (2, z_i v.1)]) 2 dX12_goOn_207 rfl (congrArg (HAdd.hAdd v.2.1) (by decide)) (by decide) rfl ?_
        refine x_goto (tgt := 165) dX12_goOn_210 (by decide) ?_
        cases h
        exact x_lo [1, 2, 0] rfl k
      · refine x_aload_n 0 dX12_goOn_187 rfl rfl ?_
        refine x_iload_n 2 dX12_goOn_188 rfl rfl ?_
        refine x_bipush (v := (21 : Int32)) dX12_goOn_189 (by decide) ?_
        refine z_bnd h (fun q15 hq15 h => ?_)
        refine x_callVv rfl (w_X12_go hq15) cw_X12_go q_1252 ⟨by decide, by decide⟩ (Nat.le_of_ble_eq_true rfl) dX12_goOn_191 rfl ?_
        refine x_aload_n 0 dX12_goOn_194 rfl rfl ?_
        refine x_getR rfl ck_12 7 (by decide) rfl q_1056 dX12_goOn_195 ?_
        refine x_iload_n 2 dX12_goOn_198 rfl rfl ?_
        refine x_aload_n 0 dX12_goOn_199 rfl rfl ?_
        refine x_getI rfl ck_12 4 (by decide) rfl q_1053 dX12_goOn_200 ?_
        refine z_bnd h (fun a16 ha16 h => ?_)
        refine x_iastore ha16 ak_32 dX12_goOn_203 h (fun S17 hS17 h => ?_)
        refine x_iinc (v := (v.1 + (-1))) (lo' := [(2, z_i (v.1 + (-1))), (0, z_r 12 (some n0)), (3, z_i v.2.1)]) 1 dX12_goOn_204 rfl (congrArg (HAdd.hAdd v.1) (by decide)) (by decide) rfl ?_
        refine x_iinc (v := (v.2.1 + 1)) (lo' := [(3, z_i (v.2.1 + 1)), (2, z_i (v.1 + (-1))), (0, z_r 12 (some n0))]) 2 dX12_goOn_207 rfl (congrArg (HAdd.hAdd v.2.1) (by decide)) (by decide) rfl ?_
        refine x_goto (tgt := 165) dX12_goOn_210 (by decide) ?_
        cases h
        exact x_lo [2, 1, 0] rfl k
set_option maxRecDepth 20000 in
theorem l_X12_goOn_215 {S0 : ZH} {F : ZP} {n0 : Nat} {v : Int32 × ZH} {t : ZH} (h : z_iter zFU (b_X12_goOn_215 n0) v = some t) (k : (fun t => Wp Y_X12_goOn S0 F 272 [] [] t) t) : Wp Y_X12_goOn S0 F 215 [(0, z_r 12 (some n0)), (3, z_i v.1)] [] v.2 := by
  refine z_iter_P (P := fun v : Int32 × ZH => Wp Y_X12_goOn S0 F 215 [(0, z_r 12 (some n0)), (3, z_i v.1)] [] v.2) (X := (fun t => Wp Y_X12_goOn S0 F 272 [] [] t)) ?_ _ _ _ h k
  clear h k v t
  intro v r h k
  unfold b_X12_goOn_215 at h
  refine x_iload_n 1 dX12_goOn_215 rfl rfl ?_
  refine x_aload_n 0 dX12_goOn_216 rfl rfl ?_
  refine x_getI rfl ck_12 5 (by decide) rfl q_1054 dX12_goOn_217 ?_
  refine x_ic_ge (tgt := 272) dX12_goOn_220 (by decide) h (fun h => ?_) (fun h => ?_)
  · cases h
    exact x_lo [] rfl k
  · refine x_aload_n 0 dX12_goOn_223 rfl rfl ?_
    refine x_iload_n 1 dX12_goOn_224 rfl rfl ?_
    refine z_bnd h (fun q19 hq19 h => ?_)
    refine x_callV1 rfl (w_X12_placeOf hq19) cw_X12_placeOf q_1229 ⟨by decide, by decide⟩ (Nat.le_of_ble_eq_true rfl) dX12_goOn_225 rfl ?_
    refine x_bipush (v := (21 : Int32)) dX12_goOn_228 (by decide) ?_
    refine x_ic_ne (tgt := 266) dX12_goOn_230 (by decide) h (fun h => ?_) (fun h => ?_)
    · refine x_iinc (v := (v.1 + 1)) (lo' := [(3, z_i (v.1 + 1)), (0, z_r 12 (some n0))]) 1 dX12_goOn_266 rfl (congrArg (HAdd.hAdd v.1) (by decide)) (by decide) rfl ?_
      refine x_goto (tgt := 215) dX12_goOn_269 (by decide) ?_
      cases h
      exact x_lo [1, 0] rfl k
    · refine x_aload_n 0 dX12_goOn_233 rfl rfl ?_
      refine x_getR rfl ck_12 7 (by decide) rfl q_1056 dX12_goOn_234 ?_
      refine x_iload_n 1 dX12_goOn_237 rfl rfl ?_
      refine z_bnd h (fun a20 ha20 h => ?_)
      refine x_iaload ha20 ak_32 dX12_goOn_238 h (fun v21 hv21 h => ?_)
      refine x_aload_n 0 dX12_goOn_239 rfl rfl ?_
      refine x_getI rfl ck_12 4 (by decide) rfl q_1053 dX12_goOn_240 ?_
      refine x_bipush (v := (10 : Int32)) dX12_goOn_243 (by decide) ?_
      refine x_isub dX12_goOn_245 ?_
      refine x_ic_ne (tgt := 266) dX12_goOn_246 (by decide) h (fun h => ?_) (fun h => ?_)
      · refine x_iinc (v := (v.1 + 1)) (lo' := [(3, z_i (v.1 + 1)), (0, z_r 12 (some n0))]) 1 dX12_goOn_266 rfl (congrArg (HAdd.hAdd v.1) (by decide)) (by decide) rfl ?_
        refine x_goto (tgt := 215) dX12_goOn_269 (by decide) ?_
        cases h
        exact x_lo [1, 0] rfl k
      · refine x_aload_n 0 dX12_goOn_249 rfl rfl ?_
        refine x_iload_n 1 dX12_goOn_250 rfl rfl ?_
        refine x_aload_n 0 dX12_goOn_251 rfl rfl ?_
        refine x_getR rfl ck_12 6 (by decide) rfl q_1055 dX12_goOn_252 ?_
        refine x_bipush (v := (8 : Int32)) dX12_goOn_255 (by decide) ?_
        refine x_iload_n 1 dX12_goOn_257 rfl rfl ?_
        refine x_imul dX12_goOn_258 ?_
        refine x_bipush (v := (6 : Int32)) dX12_goOn_259 (by decide) ?_
        refine x_iadd dX12_goOn_261 ?_
        refine z_bnd h (fun a22 ha22 h => ?_)
        refine x_iaload ha22 ak_31 dX12_goOn_262 h (fun v23 hv23 h => ?_)
        refine z_bnd h (fun q24 hq24 h => ?_)
        refine x_callVv rfl (w_X12_go hq24) cw_X12_go q_1252 ⟨by decide, by decide⟩ (Nat.le_of_ble_eq_true rfl) dX12_goOn_263 rfl ?_
        refine x_iinc (v := (v.1 + 1)) (lo' := [(3, z_i (v.1 + 1)), (0, z_r 12 (some n0))]) 1 dX12_goOn_266 rfl (congrArg (HAdd.hAdd v.1) (by decide)) (by decide) rfl ?_
        refine x_goto (tgt := 215) dX12_goOn_269 (by decide) ?_
        cases h
        exact x_lo [1, 0] rfl k
set_option maxRecDepth 20000 in
theorem k_X12_goOn_213 {S0 : ZH} {n0 : Nat}  {S : ZH} {z : ZH} (h : j_X12_goOn_213 n0 S = some z) : Wp Y_X12_goOn S0 (zF S0 none z) 213 [(0, z_r 12 (some n0))] [] S := by
  unfold j_X12_goOn_213 at h
  refine x_iconst (v := (0 : Int32)) dX12_goOn_213 (by decide) ?_
  refine x_istore_n (lo' := [(3, z_i (0 : Int32)), (0, z_r 12 (some n0))]) dX12_goOn_214 rfl (by decide) rfl ?_
  refine z_bnd h (fun t25 ht25 h => ?_)
  refine x_lo [1, 0] rfl ?_
  refine l_X12_goOn_215 ht25 ?_
  exact x_vretE rfl dX12_goOn_272 h
set_option maxRecDepth 20000 in
theorem k_X12_goOn_162 {S0 : ZH} {n0 : Nat} {s0 : Int32} {S : ZH} {z : ZH} (h : j_X12_goOn_162 n0 s0 S = some z) : Wp Y_X12_goOn S0 (zF S0 none z) 162 [(0, z_r 12 (some n0))] [z_i s0] S := by
  unfold j_X12_goOn_162 at h
  refine x_istore_n (lo' := [(2, z_i s0), (0, z_r 12 (some n0))]) dX12_goOn_162 rfl (by decide) rfl ?_
  refine x_iconst (v := (0 : Int32)) dX12_goOn_163 (by decide) ?_
  refine x_istore_n (lo' := [(3, z_i (0 : Int32)), (2, z_i s0), (0, z_r 12 (some n0))]) dX12_goOn_164 rfl (by decide) rfl ?_
  refine z_bnd h (fun t18 ht18 h => ?_)
  refine x_lo [2, 1, 0] rfl ?_
  refine l_X12_goOn_165 ht18 ?_
  exact x_lo [0] rfl (k_X12_goOn_213 h)
set_option maxRecDepth 20000 in
set_option maxHeartbeats 1000000 in
theorem w_X12_goOn {n0 : Nat} {S : ZH} {q : ZH} (h : f_X12_goOn n0 S = some q) : MetX Y_X12_goOn S [z_r 12 (some n0)] none q := by
  refine MetX.of (lo := [(0, z_r 12 (some n0))]) rfl (by decide) (Nat.le_of_ble_eq_true rfl) ?_
  unfold f_X12_goOn at h
  refine x_aload_n 0 dX12_goOn_0 rfl rfl ?_
  refine x_dup dX12_goOn_1 rfl ?_
  refine x_getI rfl ck_12 4 (by decide) rfl q_1053 dX12_goOn_2 ?_
  refine x_iconst (v := (1 : Int32)) dX12_goOn_5 (by decide) ?_
  refine x_iadd dX12_goOn_6 ?_
  refine x_putI rfl ck_12 4 (by decide) rfl (Or.inl rfl) (by rfl) rfl q_1053 dX12_goOn_7 ?_
  refine x_iconst (v := (0 : Int32)) dX12_goOn_10 (by decide) ?_
  refine x_istore_n (lo' := [(1, z_i (0 : Int32)), (0, z_r 12 (some n0))]) dX12_goOn_11 rfl (by decide) rfl ?_
  refine z_bnd h (fun t5 ht5 h => ?_)
  refine x_lo [1, 0] rfl ?_
  refine l_X12_goOn_12 ht5 ?_
  refine x_iconst (v := (0 : Int32)) dX12_goOn_56 (by decide) ?_
  refine x_istore_n (lo' := [(1, z_i (0 : Int32)), (0, z_r 12 (some n0))]) dX12_goOn_57 rfl (by decide) rfl ?_
  refine z_bnd h (fun t12 ht12 h => ?_)
  refine x_lo [1, 0] rfl ?_
  refine l_X12_goOn_58 ht12 ?_
  refine x_aload_n 0 dX12_goOn_133 rfl rfl ?_
  refine x_bipush (v := (20 : Int32)) dX12_goOn_134 (by decide) ?_
  refine z_bnd h (fun q13 hq13 h => ?_)
  refine x_callV1 rfl (w_X12_many hq13) cw_X12_many q_1225 ⟨by decide, by decide⟩ (Nat.le_of_ble_eq_true rfl) dX12_goOn_136 rfl ?_
  refine x_aload_n 0 dX12_goOn_139 rfl rfl ?_
  refine x_getI rfl ck_12 25 (by decide) rfl q_1074 dX12_goOn_140 ?_
  refine x_isub dX12_goOn_143 ?_
  refine x_istore_n (lo' := [(1, z_i (q13 - (zI t12 12 n0 25))), (0, z_r 12 (some n0))]) dX12_goOn_144 rfl (by decide) rfl ?_
  refine x_iload_n 0 dX12_goOn_145 rfl rfl ?_
  refine x_if_le (tgt := 161) dX12_goOn_146 (by decide) h (fun h => ?_) (fun h => ?_)
  · refine x_iconst (v := (0 : Int32)) dX12_goOn_161 (by decide) ?_
    exact x_lo [1] rfl (k_X12_goOn_162 h)
  · refine x_iload_n 0 dX12_goOn_149 rfl rfl ?_
    refine x_aload_n 1 dX12_goOn_150 rfl rfl ?_
    refine x_getI rfl ck_12 26 (by decide) rfl q_1075 dX12_goOn_151 ?_
    refine x_imul dX12_goOn_154 ?_
    refine x_bipush (v := (100 : Int32)) dX12_goOn_155 (by decide) ?_
    refine x_idiv dX12_goOn_157 (by decide) ?_
    refine x_goto (tgt := 162) dX12_goOn_158 (by decide) ?_
    exact x_lo [1] rfl (k_X12_goOn_162 h)
-- PressedMenModel pass (I)I
abbrev Y_X12_pass : ZM := (yX12_pass, cX12_pass, 3, (some .int), 4, 93)
theorem cw_X12_pass : z_CV Y_X12_pass 12 1 := ⟨⟨_, _, rfl⟩, by decide, q_1238, q_1239, q_1240, q_76, ⟨by decide, by decide⟩, rfl⟩
def b_X12_pass_41 (n0 : Nat) (x1 : Int32) (v : Int32 × ZH) : Option ((Int32 × ZH) ⊕ (ZH)) :=
  if x1 ≤ v.1 then (
    some (Sum.inr v.2)
  ) else (
    (f_X12_goOn n0 v.2).bind fun q3 =>
    some (Sum.inl ((v.1 + 1), q3))
  )
def f_X12_pass (n0 : Nat) (x1 : Int32) (S : ZH) : Option (Int32 × ZH) :=
  (f_X12_in x1.toInt64 (1 : Int64) (60 : Int64) (zsI S 12 n0 0 (0 : Int32))).bind fun q1 =>
  if ¬ q1 = 0 then (
    if ((zI (zsI S 12 n0 0 (0 : Int32)) 12 n0 4) + x1) ≤ (899 : Int32) then (
      (f_X12_measure n0 (zsI S 12 n0 0 (0 : Int32))).bind fun q2 =>
      (z_iter zFU (b_X12_pass_41 n0 x1) ((0 : Int32), q2)).bind fun t4 =>
      some ((zI t4 12 n0 4), t4)
    ) else (
      some ((-4 : Int32), (zsI S 12 n0 0 (0 : Int32)))
    )
  ) else (
    some ((-2 : Int32), (zsI S 12 n0 0 (0 : Int32)))
  )
set_option maxRecDepth 20000 in
theorem l_X12_pass_41 {S0 : ZH} {F : ZP} {n0 : Nat} {x1 : Int32} {v : Int32 × ZH} {t : ZH} (h : z_iter zFU (b_X12_pass_41 n0 x1) v = some t) (k : (fun t => Wp Y_X12_pass S0 F 56 [(0, z_r 12 (some n0))] [] t) t) : Wp Y_X12_pass S0 F 41 [(0, z_r 12 (some n0)), (1, z_i x1), (2, z_i v.1)] [] v.2 := by
  refine z_iter_P (P := fun v : Int32 × ZH => Wp Y_X12_pass S0 F 41 [(0, z_r 12 (some n0)), (1, z_i x1), (2, z_i v.1)] [] v.2) (X := (fun t => Wp Y_X12_pass S0 F 56 [(0, z_r 12 (some n0))] [] t)) ?_ _ _ _ h k
  clear h k v t
  intro v r h k
  unfold b_X12_pass_41 at h
  refine x_iload_n 2 dX12_pass_41 rfl rfl ?_
  refine x_iload_n 1 dX12_pass_42 rfl rfl ?_
  refine x_ic_ge (tgt := 56) dX12_pass_43 (by decide) h (fun h => ?_) (fun h => ?_)
  · cases h
    exact x_lo [0] rfl k
  · refine x_aload_n 0 dX12_pass_46 rfl rfl ?_
    refine z_bnd h (fun q3 hq3 h => ?_)
    refine x_callVv rfl (w_X12_goOn hq3) cw_X12_goOn q_1241 ⟨by decide, by decide⟩ (Nat.le_of_ble_eq_true rfl) dX12_pass_47 rfl ?_
    refine x_iinc (v := (v.1 + 1)) (lo' := [(2, z_i (v.1 + 1)), (0, z_r 12 (some n0)), (1, z_i x1)]) 2 dX12_pass_50 rfl (congrArg (HAdd.hAdd v.1) (by decide)) (by decide) rfl ?_
    refine x_goto (tgt := 41) dX12_pass_53 (by decide) ?_
    cases h
    exact x_lo [1, 2, 0] rfl k
set_option maxRecDepth 20000 in
set_option maxHeartbeats 1000000 in
theorem w_X12_pass {n0 : Nat} {x1 : Int32} {S : ZH} {q : Int32 × ZH} (h : f_X12_pass n0 x1 S = some q) : MetX Y_X12_pass S [z_r 12 (some n0), z_i x1] (some (z_i q.1)) q.2 := by
  refine MetX.of (lo := [(0, z_r 12 (some n0)), (1, z_i x1)]) rfl (by decide) (Nat.le_of_ble_eq_true rfl) ?_
  unfold f_X12_pass at h
  refine x_aload_n 0 dX12_pass_0 rfl rfl ?_
  refine x_iconst (v := (0 : Int32)) dX12_pass_1 (by decide) ?_
  refine x_putI rfl ck_12 0 (by decide) rfl (Or.inl rfl) (by rfl) rfl q_1049 dX12_pass_2 ?_
  refine x_iload_n 1 dX12_pass_5 rfl rfl ?_
  refine x_i2l dX12_pass_6 ?_
  refine x_lconst (v := (1 : Int64)) dX12_pass_7 (by decide) ?_
  refine x_ldc2 dX12_pass_8 q_1196.1 ?_
  refine z_bnd h (fun q1 hq1 h => ?_)
  refine x_callS1 (w_X12_in hq1) cw_X12_in q_1172 ⟨by decide, by decide⟩ (Nat.le_of_ble_eq_true rfl) dX12_pass_11 rfl ?_
  refine x_if_ne (tgt := 20) dX12_pass_14 (by decide) h (fun h => ?_) (fun h => ?_)
  · refine x_aload_n 0 dX12_pass_20 rfl rfl ?_
    refine x_getI rfl ck_12 4 (by decide) rfl q_1053 dX12_pass_21 ?_
    refine x_iload_n 1 dX12_pass_24 rfl rfl ?_
    refine x_iadd dX12_pass_25 ?_
    refine x_sipush (v := (899 : Int32)) dX12_pass_26 (by decide) ?_
    refine x_ic_le (tgt := 35) dX12_pass_29 (by decide) h (fun h => ?_) (fun h => ?_)
    · refine x_aload_n 0 dX12_pass_35 rfl rfl ?_
      refine z_bnd h (fun q2 hq2 h => ?_)
      refine x_callVv rfl (w_X12_measure hq2) cw_X12_measure q_1187 ⟨by decide, by decide⟩ (Nat.le_of_ble_eq_true rfl) dX12_pass_36 rfl ?_
      refine x_iconst (v := (0 : Int32)) dX12_pass_39 (by decide) ?_
      refine x_istore_n (lo' := [(2, z_i (0 : Int32)), (0, z_r 12 (some n0)), (1, z_i x1)]) dX12_pass_40 rfl (by decide) rfl ?_
      refine z_bnd h (fun t4 ht4 h => ?_)
      refine x_lo [1, 2, 0] rfl ?_
      refine l_X12_pass_41 ht4 ?_
      refine x_aload_n 0 dX12_pass_56 rfl rfl ?_
      refine x_getI rfl ck_12 4 (by decide) rfl q_1053 dX12_pass_57 ?_
      exact x_iretE rfl dX12_pass_60 h
    · refine x_bipush (v := (-4 : Int32)) dX12_pass_32 (by decide) ?_
      exact x_iretE rfl dX12_pass_34 h
  · refine x_bipush (v := (-2 : Int32)) dX12_pass_17 (by decide) ?_
    exact x_iretE rfl dX12_pass_19 h
-- PressedMenModel walk (II)I
abbrev Y_X12_walk : ZM := (yX12_walk, cX12_walk, 4, (some .int), 2, 46)
theorem cw_X12_walk : z_CV Y_X12_walk 12 2 := ⟨⟨_, _, rfl⟩, by decide, q_1257, q_1258, q_1259, q_76, ⟨by decide, by decide⟩, rfl⟩
def j_X12_walk_45 (n0 : Nat) (x1 : Int32) (x2 : Int32) (x3 : Int32)  (S : ZH) : Option (Int32 × ZH) :=
  (f_X12_go n0 x1 x2 S).bind fun q5 =>
  some (x3, q5)
def f_X12_walk (n0 : Nat) (x1 : Int32) (x2 : Int32) (S : ZH) : Option (Int32 × ZH) :=
  (f_X12_noMan n0 x1 (zsI S 12 n0 0 (0 : Int32))).bind fun q1 =>
  if ¬ q1 = 0 then (
    some ((-1 : Int32), (zsI S 12 n0 0 (0 : Int32)))
  ) else (
    (f_X12_noStreet n0 x2 (zsI S 12 n0 0 (0 : Int32))).bind fun q2 =>
    if q2 = 0 then (
      (f_X12_placeOf n0 x1 (zsI S 12 n0 0 (0 : Int32))).bind fun q3 =>
      (f_X12_isStreet q3 (zsI S 12 n0 0 (0 : Int32))).bind fun q4 =>
      if ¬ q4 = 0 then (
        j_X12_walk_45 n0 x1 x2 q3 (zsI S 12 n0 0 (0 : Int32))
      ) else (
        if q3 = (22 : Int32) then (
          j_X12_walk_45 n0 x1 x2 q3 (zsI S 12 n0 0 (0 : Int32))
        ) else (
          some ((-3 : Int32), (zsI S 12 n0 0 (0 : Int32)))
        )
      )
    ) else (
      some ((-1 : Int32), (zsI S 12 n0 0 (0 : Int32)))
    )
  )
set_option maxRecDepth 20000 in
theorem k_X12_walk_45 {S0 : ZH} {n0 : Nat} {x1 : Int32} {x2 : Int32} {x3 : Int32}  {S : ZH} {z : Int32 × ZH} (h : j_X12_walk_45 n0 x1 x2 x3 S = some z) : Wp Y_X12_walk S0 (zF S0 (some (z_i z.1)) z.2) 45 [(0, z_r 12 (some n0)), (1, z_i x1), (2, z_i x2), (3, z_i x3)] [] S := by
  unfold j_X12_walk_45 at h
  refine x_aload_n 0 dX12_walk_45 rfl rfl ?_
  refine x_iload_n 1 dX12_walk_46 rfl rfl ?_
  refine x_iload_n 2 dX12_walk_47 rfl rfl ?_
  refine z_bnd h (fun q5 hq5 h => ?_)
  refine x_callVv rfl (w_X12_go hq5) cw_X12_go q_1252 ⟨by decide, by decide⟩ (Nat.le_of_ble_eq_true rfl) dX12_walk_48 rfl ?_
  refine x_iload_n 3 dX12_walk_51 rfl rfl ?_
  exact x_iretE rfl dX12_walk_52 h
set_option maxRecDepth 20000 in
set_option maxHeartbeats 1000000 in
theorem w_X12_walk {n0 : Nat} {x1 : Int32} {x2 : Int32} {S : ZH} {q : Int32 × ZH} (h : f_X12_walk n0 x1 x2 S = some q) : MetX Y_X12_walk S [z_r 12 (some n0), z_i x1, z_i x2] (some (z_i q.1)) q.2 := by
  refine MetX.of (lo := [(0, z_r 12 (some n0)), (1, z_i x1), (2, z_i x2)]) rfl (by decide) (Nat.le_of_ble_eq_true rfl) ?_
  unfold f_X12_walk at h
  refine x_aload_n 0 dX12_walk_0 rfl rfl ?_
  refine x_iconst (v := (0 : Int32)) dX12_walk_1 (by decide) ?_
  refine x_putI rfl ck_12 0 (by decide) rfl (Or.inl rfl) (by rfl) rfl q_1049 dX12_walk_2 ?_
  refine x_aload_n 0 dX12_walk_5 rfl rfl ?_
  refine x_iload_n 1 dX12_walk_6 rfl rfl ?_
  refine z_bnd h (fun q1 hq1 h => ?_)
  refine x_callV1 rfl (w_X12_noMan hq1) cw_X12_noMan q_1206 ⟨by decide, by decide⟩ (Nat.le_of_ble_eq_true rfl) dX12_walk_7 rfl ?_
  refine x_if_ne (tgt := 21) dX12_walk_10 (by decide) h (fun h => ?_) (fun h => ?_)
  · refine x_iconst (v := (-1 : Int32)) dX12_walk_21 (by decide) ?_
    exact x_iretE rfl dX12_walk_22 h
  · refine x_aload_n 0 dX12_walk_13 rfl rfl ?_
    refine x_iload_n 2 dX12_walk_14 rfl rfl ?_
    refine z_bnd h (fun q2 hq2 h => ?_)
    refine x_callV1 rfl (w_X12_noStreet hq2) cw_X12_noStreet q_1179 ⟨by decide, by decide⟩ (Nat.le_of_ble_eq_true rfl) dX12_walk_15 rfl ?_
    refine x_if_eq (tgt := 23) dX12_walk_18 (by decide) h (fun h => ?_) (fun h => ?_)
    · refine x_aload_n 0 dX12_walk_23 rfl rfl ?_
      refine x_iload_n 1 dX12_walk_24 rfl rfl ?_
      refine z_bnd h (fun q3 hq3 h => ?_)
      refine x_callV1 rfl (w_X12_placeOf hq3) cw_X12_placeOf q_1229 ⟨by decide, by decide⟩ (Nat.le_of_ble_eq_true rfl) dX12_walk_25 rfl ?_
      refine x_istore_n (lo' := [(3, z_i q3), (0, z_r 12 (some n0)), (1, z_i x1), (2, z_i x2)]) dX12_walk_28 rfl (by decide) rfl ?_
      refine x_iload_n 0 dX12_walk_29 rfl rfl ?_
      refine z_bnd h (fun q4 hq4 h => ?_)
      refine x_callS1 (w_X12_isStreet hq4) cw_X12_isStreet q_1245 ⟨by decide, by decide⟩ (Nat.le_of_ble_eq_true rfl) dX12_walk_30 rfl ?_
      refine x_if_ne (tgt := 45) dX12_walk_33 (by decide) h (fun h => ?_) (fun h => ?_)
      · exact x_lo [1, 2, 3, 0] rfl (k_X12_walk_45 h)
      · refine x_iload_n 0 dX12_walk_36 rfl rfl ?_
        refine x_bipush (v := (22 : Int32)) dX12_walk_37 (by decide) ?_
        refine x_ic_eq (tgt := 45) dX12_walk_39 (by decide) h (fun h => ?_) (fun h => ?_)
        · exact x_lo [1, 2, 3, 0] rfl (k_X12_walk_45 h)
        · refine x_bipush (v := (-3 : Int32)) dX12_walk_42 (by decide) ?_
          exact x_iretE rfl dX12_walk_44 h
    · refine x_iconst (v := (-1 : Int32)) dX12_walk_21 (by decide) ?_
      exact x_iretE rfl dX12_walk_22 h
-- PressedMenModel run (I)I
abbrev Y_X12_run : ZM := (yX12_run, cX12_run, 3, (some .int), 2, 46)
theorem cw_X12_run : z_CV Y_X12_run 12 1 := ⟨⟨_, _, rfl⟩, by decide, q_1261, q_1262, q_1263, q_76, ⟨by decide, by decide⟩, rfl⟩
def f_X12_run (n0 : Nat) (x1 : Int32) (S : ZH) : Option (Int32 × ZH) :=
  (f_X12_noMan n0 x1 (zsI S 12 n0 0 (0 : Int32))).bind fun q1 =>
  if q1 = 0 then (
    (f_X12_placeOf n0 x1 (zsI S 12 n0 0 (0 : Int32))).bind fun q2 =>
    if ¬ q2 = (23 : Int32) then (
      (f_X12_go n0 x1 (23 : Int32) (zsI S 12 n0 0 (0 : Int32))).bind fun q3 =>
      some (q2, q3)
    ) else (
      some ((-3 : Int32), (zsI S 12 n0 0 (0 : Int32)))
    )
  ) else (
    some ((-1 : Int32), (zsI S 12 n0 0 (0 : Int32)))
  )
set_option maxRecDepth 20000 in
set_option maxHeartbeats 1000000 in
theorem w_X12_run {n0 : Nat} {x1 : Int32} {S : ZH} {q : Int32 × ZH} (h : f_X12_run n0 x1 S = some q) : MetX Y_X12_run S [z_r 12 (some n0), z_i x1] (some (z_i q.1)) q.2 := by
  refine MetX.of (lo := [(0, z_r 12 (some n0)), (1, z_i x1)]) rfl (by decide) (Nat.le_of_ble_eq_true rfl) ?_
  unfold f_X12_run at h
  refine x_aload_n 0 dX12_run_0 rfl rfl ?_
  refine x_iconst (v := (0 : Int32)) dX12_run_1 (by decide) ?_
  refine x_putI rfl ck_12 0 (by decide) rfl (Or.inl rfl) (by rfl) rfl q_1049 dX12_run_2 ?_
  refine x_aload_n 0 dX12_run_5 rfl rfl ?_
  refine x_iload_n 1 dX12_run_6 rfl rfl ?_
  refine z_bnd h (fun q1 hq1 h => ?_)
  refine x_callV1 rfl (w_X12_noMan hq1) cw_X12_noMan q_1206 ⟨by decide, by decide⟩ (Nat.le_of_ble_eq_true rfl) dX12_run_7 rfl ?_
  refine x_if_eq (tgt := 15) dX12_run_10 (by decide) h (fun h => ?_) (fun h => ?_)
  · refine x_aload_n 0 dX12_run_15 rfl rfl ?_
    refine x_iload_n 1 dX12_run_16 rfl rfl ?_
    refine z_bnd h (fun q2 hq2 h => ?_)
    refine x_callV1 rfl (w_X12_placeOf hq2) cw_X12_placeOf q_1229 ⟨by decide, by decide⟩ (Nat.le_of_ble_eq_true rfl) dX12_run_17 rfl ?_
    refine x_istore_n (lo' := [(2, z_i q2), (0, z_r 12 (some n0)), (1, z_i x1)]) dX12_run_20 rfl (by decide) rfl ?_
    refine x_iload_n 0 dX12_run_21 rfl rfl ?_
    refine x_bipush (v := (23 : Int32)) dX12_run_22 (by decide) ?_
    refine x_ic_ne (tgt := 30) dX12_run_24 (by decide) h (fun h => ?_) (fun h => ?_)
    · refine x_aload_n 1 dX12_run_30 rfl rfl ?_
      refine x_iload_n 2 dX12_run_31 rfl rfl ?_
      refine x_bipush (v := (23 : Int32)) dX12_run_32 (by decide) ?_
      refine z_bnd h (fun q3 hq3 h => ?_)
      refine x_callVv rfl (w_X12_go hq3) cw_X12_go q_1252 ⟨by decide, by decide⟩ (Nat.le_of_ble_eq_true rfl) dX12_run_34 rfl ?_
      refine x_iload_n 0 dX12_run_37 rfl rfl ?_
      exact x_iretE rfl dX12_run_38 h
    · refine x_bipush (v := (-3 : Int32)) dX12_run_27 (by decide) ?_
      exact x_iretE rfl dX12_run_29 h
  · refine x_iconst (v := (-1 : Int32)) dX12_run_13 (by decide) ?_
    exact x_iretE rfl dX12_run_14 h
-- PressedMenModel badSpan (III)Z
abbrev Y_X12_badSpan : ZM := (yX12_badSpan, cX12_badSpan, 3, (some .boolean), 1, 25)
theorem cw_X12_badSpan : z_CS Y_X12_badSpan 3 := ⟨q_1272, q_1273, q_76, ⟨by decide, by decide⟩, rfl⟩
def f_X12_badSpan (x0 : Int32) (x1 : Int32) (x2 : Int32) (S : ZH) : Option (Int32) :=
  (f_X12_in x0.toInt64 (0 : Int64) x1.toInt64 S).bind fun q1 =>
  if q1 = 0 then (
    some (1 : Int32)
  ) else (
    if x1 ≤ x2 then (
      some (0 : Int32)
    ) else (
      some (1 : Int32)
    )
  )
set_option maxRecDepth 20000 in
set_option maxHeartbeats 1000000 in
theorem w_X12_badSpan {x0 : Int32} {x1 : Int32} {x2 : Int32} {S : ZH} {q : Int32} (h : f_X12_badSpan x0 x1 x2 S = some q) : MetX Y_X12_badSpan S [z_i x0, z_i x1, z_i x2] (some (z_i q)) S := by
  refine MetX.of (lo := [(0, z_i x0), (1, z_i x1), (2, z_i x2)]) rfl (by decide) (Nat.le_of_ble_eq_true rfl) ?_
  unfold f_X12_badSpan at h
  refine x_iload_n 0 dX12_badSpan_0 rfl rfl ?_
  refine x_i2l dX12_badSpan_1 ?_
  refine x_lconst (v := (0 : Int64)) dX12_badSpan_2 (by decide) ?_
  refine x_iload_n 1 dX12_badSpan_3 rfl rfl ?_
  refine x_i2l dX12_badSpan_4 ?_
  refine z_bnd h (fun q1 hq1 h => ?_)
  refine x_callS1 (w_X12_in hq1) cw_X12_in q_1172 ⟨by decide, by decide⟩ (Nat.le_of_ble_eq_true rfl) dX12_badSpan_5 rfl ?_
  refine x_if_eq (tgt := 16) dX12_badSpan_8 (by decide) h (fun h => ?_) (fun h => ?_)
  · refine x_iconst (v := (1 : Int32)) dX12_badSpan_16 (by decide) ?_
    refine x_goto (tgt := 21) dX12_badSpan_17 (by decide) ?_
    exact x_zretC rfl (by decide) dX12_badSpan_21 h
  · refine x_iload_n 1 dX12_badSpan_11 rfl rfl ?_
    refine x_iload_n 2 dX12_badSpan_12 rfl rfl ?_
    refine x_ic_le (tgt := 20) dX12_badSpan_13 (by decide) h (fun h => ?_) (fun h => ?_)
    · refine x_iconst (v := (0 : Int32)) dX12_badSpan_20 (by decide) ?_
      exact x_zretC rfl (by decide) dX12_badSpan_21 h
    · refine x_iconst (v := (1 : Int32)) dX12_badSpan_16 (by decide) ?_
      refine x_goto (tgt := 21) dX12_badSpan_17 (by decide) ?_
      exact x_zretC rfl (by decide) dX12_badSpan_21 h
-- PressedMenModel badLook (I)Z
abbrev Y_X12_badLook : ZM := (yX12_badLook, cX12_badLook, 1, (some .boolean), 1, 25)
theorem cw_X12_badLook : z_CS Y_X12_badLook 1 := ⟨q_1269, q_1270, q_76, ⟨by decide, by decide⟩, rfl⟩
def f_X12_badLook (x0 : Int32) (S : ZH) : Option (Int32) :=
  if x0 = (-9 : Int32) then (
    some (0 : Int32)
  ) else (
    (f_X12_in x0.toInt64 (0 : Int64) (3 : Int64) S).bind fun q1 =>
    if ¬ q1 = 0 then (
      some (0 : Int32)
    ) else (
      some (1 : Int32)
    )
  )
set_option maxRecDepth 20000 in
set_option maxHeartbeats 1000000 in
theorem w_X12_badLook {x0 : Int32} {S : ZH} {q : Int32} (h : f_X12_badLook x0 S = some q) : MetX Y_X12_badLook S [z_i x0] (some (z_i q)) S := by
  refine MetX.of (lo := [(0, z_i x0)]) rfl (by decide) (Nat.le_of_ble_eq_true rfl) ?_
  unfold f_X12_badLook at h
  refine x_iload_n 0 dX12_badLook_0 rfl rfl ?_
  refine x_bipush (v := (-9 : Int32)) dX12_badLook_1 (by decide) ?_
  refine x_ic_eq (tgt := 22) dX12_badLook_3 (by decide) h (fun h => ?_) (fun h => ?_)
  · refine x_iconst (v := (0 : Int32)) dX12_badLook_22 (by decide) ?_
    exact x_zretC rfl (by decide) dX12_badLook_23 h
  · refine x_iload_n 0 dX12_badLook_6 rfl rfl ?_
    refine x_i2l dX12_badLook_7 ?_
    refine x_lconst (v := (0 : Int64)) dX12_badLook_8 (by decide) ?_
    refine x_ldc2 dX12_badLook_9 q_1197.1 ?_
    refine z_bnd h (fun q1 hq1 h => ?_)
    refine x_callS1 (w_X12_in hq1) cw_X12_in q_1172 ⟨by decide, by decide⟩ (Nat.le_of_ble_eq_true rfl) dX12_badLook_12 rfl ?_
    refine x_if_ne (tgt := 22) dX12_badLook_15 (by decide) h (fun h => ?_) (fun h => ?_)
    · refine x_iconst (v := (0 : Int32)) dX12_badLook_22 (by decide) ?_
      exact x_zretC rfl (by decide) dX12_badLook_23 h
    · refine x_iconst (v := (1 : Int32)) dX12_badLook_18 (by decide) ?_
      refine x_goto (tgt := 23) dX12_badLook_19 (by decide) ?_
      exact x_zretC rfl (by decide) dX12_badLook_23 h
