-- PressedMenModel paper (IIIIIIIII)I
abbrev Y_X12_paper : ZM := (yX12_paper, cX12_paper, 11, (some .int), 2, 47)
theorem cw_X12_paper : z_CV Y_X12_paper 12 9 := ⟨⟨_, _, rfl⟩, by decide, q_1265, q_1266, q_1267, q_76, ⟨by decide, by decide⟩, rfl⟩
def f_X12_paper (n0 : Nat) (x1 : Int32) (x2 : Int32) (x3 : Int32) (x4 : Int32) (x5 : Int32) (x6 : Int32) (x7 : Int32) (x8 : Int32) (x9 : Int32) (S : ZH) : Option (Int32 × ZH) :=
  (f_X12_noMan n0 x1 (zsI S 12 n0 0 (0 : Int32))).bind fun q1 =>
  if q1 = 0 then (
    (f_X12_badLook x2 (zsI S 12 n0 0 (0 : Int32))).bind fun q2 =>
    if ¬ q2 = 0 then (
      some ((-2 : Int32), (zsI S 12 n0 0 (0 : Int32)))
    ) else (
      (f_X12_badLook x3 (zsI S 12 n0 0 (0 : Int32))).bind fun q3 =>
      if ¬ q3 = 0 then (
        some ((-2 : Int32), (zsI S 12 n0 0 (0 : Int32)))
      ) else (
        (f_X12_badSpan x4 x5 (99 : Int32) (zsI S 12 n0 0 (0 : Int32))).bind fun q4 =>
        if ¬ q4 = 0 then (
          some ((-2 : Int32), (zsI S 12 n0 0 (0 : Int32)))
        ) else (
          (f_X12_badSpan x6 x7 (99 : Int32) (zsI S 12 n0 0 (0 : Int32))).bind fun q5 =>
          if ¬ q5 = 0 then (
            some ((-2 : Int32), (zsI S 12 n0 0 (0 : Int32)))
          ) else (
            (f_X12_badSpan x8 x9 (899 : Int32) (zsI S 12 n0 0 (0 : Int32))).bind fun q6 =>
            if q6 = 0 then (
              if ¬ (zI (zsI S 12 n0 0 (0 : Int32)) 12 n0 15) = (60 : Int32) then (
                ((zR (zsI S 12 n0 0 (0 : Int32)) 12 n0 16)).bind fun a7 =>
                (zst (zsI S 12 n0 0 (0 : Int32)) 39 a7 ((9 : Int32) * (zI (zsI S 12 n0 0 (0 : Int32)) 12 n0 15)) x1).bind fun S8 =>
                ((zR S8 12 n0 16)).bind fun a9 =>
                (zst S8 39 a9 (((9 : Int32) * (zI (zsI S 12 n0 0 (0 : Int32)) 12 n0 15)) + (1 : Int32)) x2).bind fun S10 =>
                ((zR S10 12 n0 16)).bind fun a11 =>
                (zst S10 39 a11 (((9 : Int32) * (zI (zsI S 12 n0 0 (0 : Int32)) 12 n0 15)) + (2 : Int32)) x3).bind fun S12 =>
                ((zR S12 12 n0 16)).bind fun a13 =>
                (zst S12 39 a13 (((9 : Int32) * (zI (zsI S 12 n0 0 (0 : Int32)) 12 n0 15)) + (3 : Int32)) x4).bind fun S14 =>
                ((zR S14 12 n0 16)).bind fun a15 =>
                (zst S14 39 a15 (((9 : Int32) * (zI (zsI S 12 n0 0 (0 : Int32)) 12 n0 15)) + (4 : Int32)) x5).bind fun S16 =>
                ((zR S16 12 n0 16)).bind fun a17 =>
                (zst S16 39 a17 (((9 : Int32) * (zI (zsI S 12 n0 0 (0 : Int32)) 12 n0 15)) + (5 : Int32)) x6).bind fun S18 =>
                ((zR S18 12 n0 16)).bind fun a19 =>
                (zst S18 39 a19 (((9 : Int32) * (zI (zsI S 12 n0 0 (0 : Int32)) 12 n0 15)) + (6 : Int32)) x7).bind fun S20 =>
                ((zR S20 12 n0 16)).bind fun a21 =>
                (zst S20 39 a21 (((9 : Int32) * (zI (zsI S 12 n0 0 (0 : Int32)) 12 n0 15)) + (7 : Int32)) x8).bind fun S22 =>
                ((zR S22 12 n0 16)).bind fun a23 =>
                (zst S22 39 a23 (((9 : Int32) * (zI (zsI S 12 n0 0 (0 : Int32)) 12 n0 15)) + (8 : Int32)) x9).bind fun S24 =>
                some (((zI (zsI S24 12 n0 15 ((zI S24 12 n0 15) + (1 : Int32))) 12 n0 15) - (1 : Int32)), (zsI S24 12 n0 15 ((zI S24 12 n0 15) + (1 : Int32))))
              ) else (
                some ((-4 : Int32), (zsI S 12 n0 0 (0 : Int32)))
              )
            ) else (
              some ((-2 : Int32), (zsI S 12 n0 0 (0 : Int32)))
            )
          )
        )
      )
    )
  ) else (
    some ((-1 : Int32), (zsI S 12 n0 0 (0 : Int32)))
  )
set_option maxRecDepth 20000 in
set_option maxHeartbeats 1000000 in
theorem w_X12_paper {n0 : Nat} {x1 : Int32} {x2 : Int32} {x3 : Int32} {x4 : Int32} {x5 : Int32} {x6 : Int32} {x7 : Int32} {x8 : Int32} {x9 : Int32} {S : ZH} {q : Int32 × ZH} (h : f_X12_paper n0 x1 x2 x3 x4 x5 x6 x7 x8 x9 S = some q) : MetX Y_X12_paper S [z_r 12 (some n0), z_i x1, z_i x2, z_i x3, z_i x4, z_i x5, z_i x6, z_i x7, z_i x8, z_i x9] (some (z_i q.1)) q.2 := by
  refine MetX.of (lo := [(0, z_r 12 (some n0)), (1, z_i x1), (2, z_i x2), (3, z_i x3), (4, z_i x4), (5, z_i x5), (6, z_i x6), (7, z_i x7), (8, z_i x8), (9, z_i x9)]) rfl (by decide) (Nat.le_of_ble_eq_true rfl) ?_
  unfold f_X12_paper at h
  refine x_aload_n 0 dX12_paper_0 rfl rfl ?_
  refine x_iconst (v := (0 : Int32)) dX12_paper_1 (by decide) ?_
  refine x_putI rfl ck_12 0 (by decide) rfl (Or.inl rfl) (by rfl) rfl q_1049 dX12_paper_2 ?_
  refine x_aload_n 0 dX12_paper_5 rfl rfl ?_
  refine x_iload_n 1 dX12_paper_6 rfl rfl ?_
  refine z_bnd h (fun q1 hq1 h => ?_)
  refine x_callV1 rfl (w_X12_noMan hq1) cw_X12_noMan q_1206 ⟨by decide, by decide⟩ (Nat.le_of_ble_eq_true rfl) dX12_paper_7 rfl ?_
  refine x_if_eq (tgt := 15) dX12_paper_10 (by decide) h (fun h => ?_) (fun h => ?_)
  · refine x_iload_n 2 dX12_paper_15 rfl rfl ?_
    refine z_bnd h (fun q2 hq2 h => ?_)
    refine x_callS1 (w_X12_badLook hq2) cw_X12_badLook q_1268 ⟨by decide, by decide⟩ (Nat.le_of_ble_eq_true rfl) dX12_paper_16 rfl ?_
    refine x_if_ne (tgt := 66) dX12_paper_19 (by decide) h (fun h => ?_) (fun h => ?_)
    · refine x_bipush (v := (-2 : Int32)) dX12_paper_66 (by decide) ?_
      exact x_iretE rfl dX12_paper_68 h
    · refine x_iload_n 3 dX12_paper_22 rfl rfl ?_
      refine z_bnd h (fun q3 hq3 h => ?_)
      refine x_callS1 (w_X12_badLook hq3) cw_X12_badLook q_1268 ⟨by decide, by decide⟩ (Nat.le_of_ble_eq_true rfl) dX12_paper_23 rfl ?_
      refine x_if_ne (tgt := 66) dX12_paper_26 (by decide) h (fun h => ?_) (fun h => ?_)
      · refine x_bipush (v := (-2 : Int32)) dX12_paper_66 (by decide) ?_
        exact x_iretE rfl dX12_paper_68 h
      · refine x_iload 4 dX12_paper_29 rfl ?_
        refine x_iload 5 dX12_paper_31 rfl ?_
        refine x_bipush (v := (99 : Int32)) dX12_paper_33 (by decide) ?_
        refine z_bnd h (fun q4 hq4 h => ?_)
        refine x_callS1 (w_X12_badSpan hq4) cw_X12_badSpan q_1271 ⟨by decide, by decide⟩ (Nat.le_of_ble_eq_true rfl) dX12_paper_35 rfl ?_
        refine x_if_ne (tgt := 66) dX12_paper_38 (by decide) h (fun h => ?_) (fun h => ?_)
        · refine x_bipush (v := (-2 : Int32)) dX12_paper_66 (by decide) ?_
          exact x_iretE rfl dX12_paper_68 h
        · refine x_iload 6 dX12_paper_41 rfl ?_
          refine x_iload 7 dX12_paper_43 rfl ?_
          refine x_bipush (v := (99 : Int32)) dX12_paper_45 (by decide) ?_
          refine z_bnd h (fun q5 hq5 h => ?_)
          refine x_callS1 (w_X12_badSpan hq5) cw_X12_badSpan q_1271 ⟨by decide, by decide⟩ (Nat.le_of_ble_eq_true rfl) dX12_paper_47 rfl ?_
          refine x_if_ne (tgt := 66) dX12_paper_50 (by decide) h (fun h => ?_) (fun h => ?_)
          · refine x_bipush (v := (-2 : Int32)) dX12_paper_66 (by decide) ?_
            exact x_iretE rfl dX12_paper_68 h
          · refine x_iload 8 dX12_paper_53 rfl ?_
            refine x_iload 9 dX12_paper_55 rfl ?_
            refine x_sipush (v := (899 : Int32)) dX12_paper_57 (by decide) ?_
            refine z_bnd h (fun q6 hq6 h => ?_)
            refine x_callS1 (w_X12_badSpan hq6) cw_X12_badSpan q_1271 ⟨by decide, by decide⟩ (Nat.le_of_ble_eq_true rfl) dX12_paper_60 rfl ?_
            refine x_if_eq (tgt := 69) dX12_paper_63 (by decide) h (fun h => ?_) (fun h => ?_)
            · refine x_aload_n 0 dX12_paper_69 rfl rfl ?_
              refine x_getI rfl ck_12 15 (by decide) rfl q_1064 dX12_paper_70 ?_
              refine x_bipush (v := (60 : Int32)) dX12_paper_73 (by decide) ?_
              refine x_ic_ne (tgt := 81) dX12_paper_75 (by decide) h (fun h => ?_) (fun h => ?_)
              · refine x_bipush (v := (9 : Int32)) dX12_paper_81 (by decide) ?_
                refine x_aload_n 0 dX12_paper_83 rfl rfl ?_
                refine x_getI rfl ck_12 15 (by decide) rfl q_1064 dX12_paper_84 ?_
                refine x_imul dX12_paper_87 ?_
                refine x_istore (lo' := [(10, z_i ((9 : Int32) * (zI (zsI S 12 n0 0 (0 : Int32)) 12 n0 15))), (0, z_r 12 (some n0)), (1, z_i x1), (2, z_i x2), (3, z_i x3), (4, z_i x4), (5, z_i x5), (6, z_i x6), (7, z_i x7), (8, z_i x8), (9, z_i x9)]) dX12_paper_88 (by decide) rfl ?_
                refine x_aload_n 1 dX12_paper_90 rfl rfl ?_
                refine x_getR rfl ck_12 16 (by decide) rfl q_1065 dX12_paper_91 ?_
                refine x_iload 0 dX12_paper_94 rfl ?_
                refine x_iload_n 2 dX12_paper_96 rfl rfl ?_
                refine z_bnd h (fun a7 ha7 h => ?_)
                refine x_iastore ha7 ak_39 dX12_paper_97 h (fun S8 hS8 h => ?_)
                refine x_aload_n 1 dX12_paper_98 rfl rfl ?_
                refine x_getR rfl ck_12 16 (by decide) rfl q_1065 dX12_paper_99 ?_
                refine x_iload 0 dX12_paper_102 rfl ?_
                refine x_iconst (v := (1 : Int32)) dX12_paper_104 (by decide) ?_
                refine x_iadd dX12_paper_105 ?_
                refine x_iload_n 3 dX12_paper_106 rfl rfl ?_
                refine z_bnd h (fun a9 ha9 h => ?_)
                refine x_iastore ha9 ak_39 dX12_paper_107 h (fun S10 hS10 h => ?_)
                refine x_aload_n 1 dX12_paper_108 rfl rfl ?_
                refine x_getR rfl ck_12 16 (by decide) rfl q_1065 dX12_paper_109 ?_
                refine x_iload 0 dX12_paper_112 rfl ?_
                refine x_iconst (v := (2 : Int32)) dX12_paper_114 (by decide) ?_
                refine x_iadd dX12_paper_115 ?_
                refine x_iload_n 4 dX12_paper_116 rfl rfl ?_
                refine z_bnd h (fun a11 ha11 h => ?_)
                refine x_iastore ha11 ak_39 dX12_paper_117 h (fun S12 hS12 h => ?_)
                refine x_aload_n 1 dX12_paper_118 rfl rfl ?_
                refine x_getR rfl ck_12 16 (by decide) rfl q_1065 dX12_paper_119 ?_
                refine x_iload 0 dX12_paper_122 rfl ?_
                refine x_iconst (v := (3 : Int32)) dX12_paper_124 (by decide) ?_
                refine x_iadd dX12_paper_125 ?_
                refine x_iload 5 dX12_paper_126 rfl ?_
                refine z_bnd h (fun a13 ha13 h => ?_)
                refine x_iastore ha13 ak_39 dX12_paper_128 h (fun S14 hS14 h => ?_)
                refine x_aload_n 1 dX12_paper_129 rfl rfl ?_
                refine x_getR rfl ck_12 16 (by decide) rfl q_1065 dX12_paper_130 ?_
                refine x_iload 0 dX12_paper_133 rfl ?_
                refine x_iconst (v := (4 : Int32)) dX12_paper_135 (by decide) ?_
                refine x_iadd dX12_paper_136 ?_
                refine x_iload 6 dX12_paper_137 rfl ?_
                refine z_bnd h (fun a15 ha15 h => ?_)
                refine x_iastore ha15 ak_39 dX12_paper_139 h (fun S16 hS16 h => ?_)
                refine x_aload_n 1 dX12_paper_140 rfl rfl ?_
                refine x_getR rfl ck_12 16 (by decide) rfl q_1065 dX12_paper_141 ?_
                refine x_iload 0 dX12_paper_144 rfl ?_
                refine x_iconst (v := (5 : Int32)) dX12_paper_146 (by decide) ?_
                refine x_iadd dX12_paper_147 ?_
                refine x_iload 7 dX12_paper_148 rfl ?_
                refine z_bnd h (fun a17 ha17 h => ?_)
                refine x_iastore ha17 ak_39 dX12_paper_150 h (fun S18 hS18 h => ?_)
                refine x_aload_n 1 dX12_paper_151 rfl rfl ?_
                refine x_getR rfl ck_12 16 (by decide) rfl q_1065 dX12_paper_152 ?_
                refine x_iload 0 dX12_paper_155 rfl ?_
                refine x_bipush (v := (6 : Int32)) dX12_paper_157 (by decide) ?_
                refine x_iadd dX12_paper_159 ?_
                refine x_iload 8 dX12_paper_160 rfl ?_
                refine z_bnd h (fun a19 ha19 h => ?_)
                refine x_iastore ha19 ak_39 dX12_paper_162 h (fun S20 hS20 h => ?_)
                refine x_aload_n 1 dX12_paper_163 rfl rfl ?_
                refine x_getR rfl ck_12 16 (by decide) rfl q_1065 dX12_paper_164 ?_
                refine x_iload 0 dX12_paper_167 rfl ?_
                refine x_bipush (v := (7 : Int32)) dX12_paper_169 (by decide) ?_
                refine x_iadd dX12_paper_171 ?_
                refine x_iload 9 dX12_paper_172 rfl ?_
                refine z_bnd h (fun a21 ha21 h => ?_)
                refine x_iastore ha21 ak_39 dX12_paper_174 h (fun S22 hS22 h => ?_)
                refine x_aload_n 1 dX12_paper_175 rfl rfl ?_
                refine x_getR rfl ck_12 16 (by decide) rfl q_1065 dX12_paper_176 ?_
                refine x_iload 0 dX12_paper_179 rfl ?_
                refine x_bipush (v := (8 : Int32)) dX12_paper_181 (by decide) ?_
                refine x_iadd dX12_paper_183 ?_
                refine x_iload 10 dX12_paper_184 rfl ?_
                refine z_bnd h (fun a23 ha23 h => ?_)
                refine x_iastore ha23 ak_39 dX12_paper_186 h (fun S24 hS24 h => ?_)
                refine x_aload_n 1 dX12_paper_187 rfl rfl ?_
                refine x_dup dX12_paper_188 rfl ?_
                refine x_getI rfl ck_12 15 (by decide) rfl q_1064 dX12_paper_189 ?_
                refine x_iconst (v := (1 : Int32)) dX12_paper_192 (by decide) ?_
                refine x_iadd dX12_paper_193 ?_
                refine x_putI rfl ck_12 15 (by decide) rfl (Or.inl rfl) (by rfl) rfl q_1064 dX12_paper_194 ?_
                refine x_aload_n 1 dX12_paper_197 rfl rfl ?_
                refine x_getI rfl ck_12 15 (by decide) rfl q_1064 dX12_paper_198 ?_
                refine x_iconst (v := (1 : Int32)) dX12_paper_201 (by decide) ?_
                refine x_isub dX12_paper_202 ?_
                exact x_iretE rfl dX12_paper_203 h
              · refine x_bipush (v := (-4 : Int32)) dX12_paper_78 (by decide) ?_
                exact x_iretE rfl dX12_paper_80 h
            · refine x_bipush (v := (-2 : Int32)) dX12_paper_66 (by decide) ?_
              exact x_iretE rfl dX12_paper_68 h
  · refine x_iconst (v := (-1 : Int32)) dX12_paper_13 (by decide) ?_
    exact x_iretE rfl dX12_paper_14 h
-- PressedMenModel covers (III)I
abbrev Y_X12_covers : ZM := (yX12_covers, cX12_covers, 9, (some .int), 1, 25)
theorem cw_X12_covers : z_CV Y_X12_covers 12 3 := ⟨⟨_, _, rfl⟩, by decide, q_1288, q_51, q_1289, q_76, ⟨by decide, by decide⟩, rfl⟩
def j_X12_covers_282 (x7 : Int32) (s0 : Int32) (S : ZH) : Option (Int32) :=
  if ¬ x7 = 0 then (
    if s0 = 0 then (
      some (1 : Int32)
    ) else (
      some (2 : Int32)
    )
  ) else (
    some (0 : Int32)
  )
def j_X12_covers_281 (x7 : Int32)  (S : ZH) : Option (Int32) :=
  j_X12_covers_282 x7 (0 : Int32) S
def j_X12_covers_200 (n0 : Nat) (x4 : Int32) (s0 : Int32) (S : ZH) : Option (Int32) :=
  ((zR S 12 n0 16)).bind fun a5 =>
  (zld S 39 a5 (x4 + (1 : Int32))).bind fun v6 =>
  if v6 = (-9 : Int32) then (
    j_X12_covers_281 s0 S
  ) else (
    ((zR S 12 n0 16)).bind fun a7 =>
    (zld S 39 a7 (x4 + (2 : Int32))).bind fun v8 =>
    if v8 = (-9 : Int32) then (
      j_X12_covers_281 s0 S
    ) else (
      ((zR S 12 n0 16)).bind fun a9 =>
      (zld S 39 a9 (x4 + (4 : Int32))).bind fun v10 =>
      ((zR S 12 n0 16)).bind fun a11 =>
      (zld S 39 a11 (x4 + (3 : Int32))).bind fun v12 =>
      if (5 : Int32) < (v10 - v12) then (
        j_X12_covers_281 s0 S
      ) else (
        ((zR S 12 n0 16)).bind fun a13 =>
        (zld S 39 a13 (x4 + (6 : Int32))).bind fun v14 =>
        ((zR S 12 n0 16)).bind fun a15 =>
        (zld S 39 a15 (x4 + (5 : Int32))).bind fun v16 =>
        if (2 : Int32) < (v14 - v16) then (
          j_X12_covers_281 s0 S
        ) else (
          j_X12_covers_282 s0 (1 : Int32) S
        )
      )
    )
  )
def j_X12_covers_199 (n0 : Nat) (x4 : Int32)  (S : ZH) : Option (Int32) :=
  j_X12_covers_200 n0 x4 (0 : Int32) S
def j_X12_covers_87 (n0 : Nat) (x3 : Int32) (x4 : Int32) (x5 : Int32) (s0 : Int32) (S : ZH) : Option (Int32) :=
  if s0 = 0 then (
    j_X12_covers_199 n0 x4 S
  ) else (
    ((zR S 12 n0 16)).bind fun a17 =>
    (zld S 39 a17 (x4 + (7 : Int32))).bind fun v18 =>
    ((zR S 12 n0 16)).bind fun a19 =>
    (zld S 39 a19 (x4 + (8 : Int32))).bind fun v20 =>
    (f_X12_in x3.toInt64 v18.toInt64 v20.toInt64 S).bind fun q21 =>
    if q21 = 0 then (
      j_X12_covers_199 n0 x4 S
    ) else (
      ((zR S 12 n0 6)).bind fun a22 =>
      (zld S 31 a22 x5).bind fun v23 =>
      ((zR S 12 n0 16)).bind fun a24 =>
      (zld S 39 a24 (x4 + (3 : Int32))).bind fun v25 =>
      ((zR S 12 n0 16)).bind fun a26 =>
      (zld S 39 a26 (x4 + (4 : Int32))).bind fun v27 =>
      (f_X12_in v23.toInt64 v25.toInt64 v27.toInt64 S).bind fun q28 =>
      if q28 = 0 then (
        j_X12_covers_199 n0 x4 S
      ) else (
        ((zR S 12 n0 6)).bind fun a29 =>
        (zld S 31 a29 (x5 + (3 : Int32))).bind fun v30 =>
        ((zR S 12 n0 16)).bind fun a31 =>
        (zld S 39 a31 (x4 + (5 : Int32))).bind fun v32 =>
        ((zR S 12 n0 16)).bind fun a33 =>
        (zld S 39 a33 (x4 + (6 : Int32))).bind fun v34 =>
        (f_X12_in v30.toInt64 v32.toInt64 v34.toInt64 S).bind fun q35 =>
        if q35 = 0 then (
          j_X12_covers_199 n0 x4 S
        ) else (
          j_X12_covers_200 n0 x4 (1 : Int32) S
        )
      )
    )
  )
def j_X12_covers_82 (n0 : Nat) (x3 : Int32) (x4 : Int32) (x5 : Int32)  (S : ZH) : Option (Int32) :=
  j_X12_covers_87 n0 x3 x4 x5 (1 : Int32) S
def j_X12_covers_86 (n0 : Nat) (x3 : Int32) (x4 : Int32) (x5 : Int32)  (S : ZH) : Option (Int32) :=
  j_X12_covers_87 n0 x3 x4 x5 (0 : Int32) S
def j_X12_covers_47 (n0 : Nat) (x3 : Int32) (x4 : Int32) (x5 : Int32)  (S : ZH) : Option (Int32) :=
  ((zR S 12 n0 16)).bind fun a3 =>
  (zld S 39 a3 (x4 + (2 : Int32))).bind fun v4 =>
  if v4 = (-9 : Int32) then (
    j_X12_covers_82 n0 x3 x4 x5 S
  ) else (
    ((zR S 12 n0 16)).bind fun a36 =>
    (zld S 39 a36 (x4 + (2 : Int32))).bind fun v37 =>
    ((zR S 12 n0 6)).bind fun a38 =>
    (zld S 31 a38 (x5 + (2 : Int32))).bind fun v39 =>
    if ¬ v37 = v39 then (
      j_X12_covers_86 n0 x3 x4 x5 S
    ) else (
      j_X12_covers_82 n0 x3 x4 x5 S
    )
  )
def f_X12_covers (n0 : Nat) (x1 : Int32) (x2 : Int32) (x3 : Int32) (S : ZH) : Option (Int32) :=
  ((zR S 12 n0 16)).bind fun a1 =>
  (zld S 39 a1 (((9 : Int32) * x1) + (1 : Int32))).bind fun v2 =>
  if v2 = (-9 : Int32) then (
    j_X12_covers_47 n0 x3 ((9 : Int32) * x1) ((8 : Int32) * x2) S
  ) else (
    ((zR S 12 n0 16)).bind fun a40 =>
    (zld S 39 a40 (((9 : Int32) * x1) + (1 : Int32))).bind fun v41 =>
    ((zR S 12 n0 6)).bind fun a42 =>
    (zld S 31 a42 (((8 : Int32) * x2) + (1 : Int32))).bind fun v43 =>
    if ¬ v41 = v43 then (
      j_X12_covers_86 n0 x3 ((9 : Int32) * x1) ((8 : Int32) * x2) S
    ) else (
      j_X12_covers_47 n0 x3 ((9 : Int32) * x1) ((8 : Int32) * x2) S
    )
  )
set_option maxRecDepth 20000 in
theorem k_X12_covers_282 {S0 : ZH} {x7 : Int32} {s0 : Int32} {S : ZH} {z : Int32} (h : j_X12_covers_282 x7 s0 S = some z) : Wp Y_X12_covers S0 (zF S0 (some (z_i z)) S) 282 [(7, z_i x7)] [z_i s0] S := by
  unfold j_X12_covers_282 at h
  refine x_istore (lo' := [(8, z_i s0), (7, z_i x7)]) dX12_covers_282 (by decide) rfl ?_
  refine x_iload 1 dX12_covers_284 rfl ?_
  refine x_if_ne (tgt := 293) dX12_covers_286 (by decide) h (fun h => ?_) (fun h => ?_)
  · refine x_iload 0 dX12_covers_293 rfl ?_
    refine x_if_eq (tgt := 302) dX12_covers_295 (by decide) h (fun h => ?_) (fun h => ?_)
    · refine x_iconst (v := (1 : Int32)) dX12_covers_302 (by decide) ?_
      exact x_iret rfl dX12_covers_303 h
    · refine x_iconst (v := (2 : Int32)) dX12_covers_298 (by decide) ?_
      refine x_goto (tgt := 303) dX12_covers_299 (by decide) ?_
      exact x_iret rfl dX12_covers_303 h
  · refine x_iconst (v := (0 : Int32)) dX12_covers_289 (by decide) ?_
    refine x_goto (tgt := 303) dX12_covers_290 (by decide) ?_
    exact x_iret rfl dX12_covers_303 h
set_option maxRecDepth 20000 in
theorem k_X12_covers_281 {S0 : ZH} {x7 : Int32}  {S : ZH} {z : Int32} (h : j_X12_covers_281 x7 S = some z) : Wp Y_X12_covers S0 (zF S0 (some (z_i z)) S) 281 [(7, z_i x7)] [] S := by
  unfold j_X12_covers_281 at h
  refine x_iconst (v := (0 : Int32)) dX12_covers_281 (by decide) ?_
  exact x_lo [0] rfl (k_X12_covers_282 h)
set_option maxRecDepth 20000 in
theorem k_X12_covers_200 {S0 : ZH} {n0 : Nat} {x4 : Int32} {s0 : Int32} {S : ZH} {z : Int32} (h : j_X12_covers_200 n0 x4 s0 S = some z) : Wp Y_X12_covers S0 (zF S0 (some (z_i z)) S) 200 [(0, z_r 12 (some n0)), (4, z_i x4)] [z_i s0] S := by
  unfold j_X12_covers_200 at h
  refine x_istore (lo' := [(7, z_i s0), (0, z_r 12 (some n0)), (4, z_i x4)]) dX12_covers_200 (by decide) rfl ?_
  refine x_aload_n 1 dX12_covers_202 rfl rfl ?_
  refine x_getR rfl ck_12 16 (by decide) rfl q_1065 dX12_covers_203 ?_
  refine x_iload 2 dX12_covers_206 rfl ?_
  refine x_iconst (v := (1 : Int32)) dX12_covers_208 (by decide) ?_
  refine x_iadd dX12_covers_209 ?_
  refine z_bnd h (fun a5 ha5 h => ?_)
  refine x_iaload ha5 ak_39 dX12_covers_210 h (fun v6 hv6 h => ?_)
  refine x_bipush (v := (-9 : Int32)) dX12_covers_211 (by decide) ?_
  refine x_ic_eq (tgt := 281) dX12_covers_213 (by decide) h (fun h => ?_) (fun h => ?_)
  · exact x_lo [0] rfl (k_X12_covers_281 h)
  · refine x_aload_n 1 dX12_covers_216 rfl rfl ?_
    refine x_getR rfl ck_12 16 (by decide) rfl q_1065 dX12_covers_217 ?_
    refine x_iload 2 dX12_covers_220 rfl ?_
    refine x_iconst (v := (2 : Int32)) dX12_covers_222 (by decide) ?_
    refine x_iadd dX12_covers_223 ?_
    refine z_bnd h (fun a7 ha7 h => ?_)
    refine x_iaload ha7 ak_39 dX12_covers_224 h (fun v8 hv8 h => ?_)
    refine x_bipush (v := (-9 : Int32)) dX12_covers_225 (by decide) ?_
    refine x_ic_eq (tgt := 281) dX12_covers_227 (by decide) h (fun h => ?_) (fun h => ?_)
    · exact x_lo [0] rfl (k_X12_covers_281 h)
    · refine x_aload_n 1 dX12_covers_230 rfl rfl ?_
      refine x_getR rfl ck_12 16 (by decide) rfl q_1065 dX12_covers_231 ?_
      refine x_iload 2 dX12_covers_234 rfl ?_
      refine x_iconst (v := (4 : Int32)) dX12_covers_236 (by decide) ?_
      refine x_iadd dX12_covers_237 ?_
      refine z_bnd h (fun a9 ha9 h => ?_)
      refine x_iaload ha9 ak_39 dX12_covers_238 h (fun v10 hv10 h => ?_)
      refine x_aload_n 1 dX12_covers_239 rfl rfl ?_
      refine x_getR rfl ck_12 16 (by decide) rfl q_1065 dX12_covers_240 ?_
      refine x_iload 2 dX12_covers_243 rfl ?_
      refine x_iconst (v := (3 : Int32)) dX12_covers_245 (by decide) ?_
      refine x_iadd dX12_covers_246 ?_
      refine z_bnd h (fun a11 ha11 h => ?_)
      refine x_iaload ha11 ak_39 dX12_covers_247 h (fun v12 hv12 h => ?_)
      refine x_isub dX12_covers_248 ?_
      refine x_iconst (v := (5 : Int32)) dX12_covers_249 (by decide) ?_
      refine x_ic_gt (tgt := 281) dX12_covers_250 (by decide) h (fun h => ?_) (fun h => ?_)
      · exact x_lo [0] rfl (k_X12_covers_281 h)
      · refine x_aload_n 1 dX12_covers_253 rfl rfl ?_
        refine x_getR rfl ck_12 16 (by decide) rfl q_1065 dX12_covers_254 ?_
        refine x_iload 2 dX12_covers_257 rfl ?_
        refine x_bipush (v := (6 : Int32)) dX12_covers_259 (by decide) ?_
        refine x_iadd dX12_covers_261 ?_
        refine z_bnd h (fun a13 ha13 h => ?_)
        refine x_iaload ha13 ak_39 dX12_covers_262 h (fun v14 hv14 h => ?_)
        refine x_aload_n 1 dX12_covers_263 rfl rfl ?_
        refine x_getR rfl ck_12 16 (by decide) rfl q_1065 dX12_covers_264 ?_
        refine x_iload 2 dX12_covers_267 rfl ?_
        refine x_iconst (v := (5 : Int32)) dX12_covers_269 (by decide) ?_
        refine x_iadd dX12_covers_270 ?_
        refine z_bnd h (fun a15 ha15 h => ?_)
        refine x_iaload ha15 ak_39 dX12_covers_271 h (fun v16 hv16 h => ?_)
        refine x_isub dX12_covers_272 ?_
        refine x_iconst (v := (2 : Int32)) dX12_covers_273 (by decide) ?_
        refine x_ic_gt (tgt := 281) dX12_covers_274 (by decide) h (fun h => ?_) (fun h => ?_)
        · exact x_lo [0] rfl (k_X12_covers_281 h)
        · refine x_iconst (v := (1 : Int32)) dX12_covers_277 (by decide) ?_
          refine x_goto (tgt := 282) dX12_covers_278 (by decide) ?_
          exact x_lo [0] rfl (k_X12_covers_282 h)
set_option maxRecDepth 20000 in
theorem k_X12_covers_199 {S0 : ZH} {n0 : Nat} {x4 : Int32}  {S : ZH} {z : Int32} (h : j_X12_covers_199 n0 x4 S = some z) : Wp Y_X12_covers S0 (zF S0 (some (z_i z)) S) 199 [(0, z_r 12 (some n0)), (4, z_i x4)] [] S := by
  unfold j_X12_covers_199 at h
  refine x_iconst (v := (0 : Int32)) dX12_covers_199 (by decide) ?_
  exact x_lo [0, 1] rfl (k_X12_covers_200 h)
set_option maxRecDepth 20000 in
theorem k_X12_covers_87 {S0 : ZH} {n0 : Nat} {x3 : Int32} {x4 : Int32} {x5 : Int32} {s0 : Int32} {S : ZH} {z : Int32} (h : j_X12_covers_87 n0 x3 x4 x5 s0 S = some z) : Wp Y_X12_covers S0 (zF S0 (some (z_i z)) S) 87 [(0, z_r 12 (some n0)), (3, z_i x3), (4, z_i x4), (5, z_i x5)] [z_i s0] S := by
  unfold j_X12_covers_87 at h
  refine x_istore (lo' := [(6, z_i s0), (0, z_r 12 (some n0)), (3, z_i x3), (4, z_i x4), (5, z_i x5)]) dX12_covers_87 (by decide) rfl ?_
  refine x_iload 0 dX12_covers_89 rfl ?_
  refine x_if_eq (tgt := 199) dX12_covers_91 (by decide) h (fun h => ?_) (fun h => ?_)
  · exact x_lo [1, 3] rfl (k_X12_covers_199 h)
  · refine x_iload_n 2 dX12_covers_94 rfl rfl ?_
    refine x_i2l dX12_covers_95 ?_
    refine x_aload_n 1 dX12_covers_96 rfl rfl ?_
    refine x_getR rfl ck_12 16 (by decide) rfl q_1065 dX12_covers_97 ?_
    refine x_iload 3 dX12_covers_100 rfl ?_
    refine x_bipush (v := (7 : Int32)) dX12_covers_102 (by decide) ?_
    refine x_iadd dX12_covers_104 ?_
    refine z_bnd h (fun a17 ha17 h => ?_)
    refine x_iaload ha17 ak_39 dX12_covers_105 h (fun v18 hv18 h => ?_)
    refine x_i2l dX12_covers_106 ?_
    refine x_aload_n 1 dX12_covers_107 rfl rfl ?_
    refine x_getR rfl ck_12 16 (by decide) rfl q_1065 dX12_covers_108 ?_
    refine x_iload 3 dX12_covers_111 rfl ?_
    refine x_bipush (v := (8 : Int32)) dX12_covers_113 (by decide) ?_
    refine x_iadd dX12_covers_115 ?_
    refine z_bnd h (fun a19 ha19 h => ?_)
    refine x_iaload ha19 ak_39 dX12_covers_116 h (fun v20 hv20 h => ?_)
    refine x_i2l dX12_covers_117 ?_
    refine z_bnd h (fun q21 hq21 h => ?_)
    refine x_callS1 (w_X12_in hq21) cw_X12_in q_1172 ⟨by decide, by decide⟩ (Nat.le_of_ble_eq_true rfl) dX12_covers_118 rfl ?_
    refine x_if_eq (tgt := 199) dX12_covers_121 (by decide) h (fun h => ?_) (fun h => ?_)
    · exact x_lo [1, 3] rfl (k_X12_covers_199 h)
    · refine x_aload_n 1 dX12_covers_124 rfl rfl ?_
      refine x_getR rfl ck_12 6 (by decide) rfl q_1055 dX12_covers_125 ?_
      refine x_iload 4 dX12_covers_128 rfl ?_
      refine z_bnd h (fun a22 ha22 h => ?_)
      refine x_iaload ha22 ak_31 dX12_covers_130 h (fun v23 hv23 h => ?_)
      refine x_i2l dX12_covers_131 ?_
      refine x_aload_n 1 dX12_covers_132 rfl rfl ?_
      refine x_getR rfl ck_12 16 (by decide) rfl q_1065 dX12_covers_133 ?_
      refine x_iload 3 dX12_covers_136 rfl ?_
      refine x_iconst (v := (3 : Int32)) dX12_covers_138 (by decide) ?_
      refine x_iadd dX12_covers_139 ?_
      refine z_bnd h (fun a24 ha24 h => ?_)
      refine x_iaload ha24 ak_39 dX12_covers_140 h (fun v25 hv25 h => ?_)
      refine x_i2l dX12_covers_141 ?_
      refine x_aload_n 1 dX12_covers_142 rfl rfl ?_
      refine x_getR rfl ck_12 16 (by decide) rfl q_1065 dX12_covers_143 ?_
      refine x_iload 3 dX12_covers_146 rfl ?_
      refine x_iconst (v := (4 : Int32)) dX12_covers_148 (by decide) ?_
      refine x_iadd dX12_covers_149 ?_
      refine z_bnd h (fun a26 ha26 h => ?_)
      refine x_iaload ha26 ak_39 dX12_covers_150 h (fun v27 hv27 h => ?_)
      refine x_i2l dX12_covers_151 ?_
      refine z_bnd h (fun q28 hq28 h => ?_)
      refine x_callS1 (w_X12_in hq28) cw_X12_in q_1172 ⟨by decide, by decide⟩ (Nat.le_of_ble_eq_true rfl) dX12_covers_152 rfl ?_
      refine x_if_eq (tgt := 199) dX12_covers_155 (by decide) h (fun h => ?_) (fun h => ?_)
      · exact x_lo [1, 3] rfl (k_X12_covers_199 h)
      · refine x_aload_n 1 dX12_covers_158 rfl rfl ?_
        refine x_getR rfl ck_12 6 (by decide) rfl q_1055 dX12_covers_159 ?_
        refine x_iload 4 dX12_covers_162 rfl ?_
        refine x_iconst (v := (3 : Int32)) dX12_covers_164 (by decide) ?_
        refine x_iadd dX12_covers_165 ?_
        refine z_bnd h (fun a29 ha29 h => ?_)
        refine x_iaload ha29 ak_31 dX12_covers_166 h (fun v30 hv30 h => ?_)
        refine x_i2l dX12_covers_167 ?_
        refine x_aload_n 1 dX12_covers_168 rfl rfl ?_
        refine x_getR rfl ck_12 16 (by decide) rfl q_1065 dX12_covers_169 ?_
        refine x_iload 3 dX12_covers_172 rfl ?_
        refine x_iconst (v := (5 : Int32)) dX12_covers_174 (by decide) ?_
        refine x_iadd dX12_covers_175 ?_
        refine z_bnd h (fun a31 ha31 h => ?_)
        refine x_iaload ha31 ak_39 dX12_covers_176 h (fun v32 hv32 h => ?_)
        refine x_i2l dX12_covers_177 ?_
        refine x_aload_n 1 dX12_covers_178 rfl rfl ?_
        refine x_getR rfl ck_12 16 (by decide) rfl q_1065 dX12_covers_179 ?_
        refine x_iload 3 dX12_covers_182 rfl ?_
        refine x_bipush (v := (6 : Int32)) dX12_covers_184 (by decide) ?_
        refine x_iadd dX12_covers_186 ?_
        refine z_bnd h (fun a33 ha33 h => ?_)
        refine x_iaload ha33 ak_39 dX12_covers_187 h (fun v34 hv34 h => ?_)
        refine x_i2l dX12_covers_188 ?_
        refine z_bnd h (fun q35 hq35 h => ?_)
        refine x_callS1 (w_X12_in hq35) cw_X12_in q_1172 ⟨by decide, by decide⟩ (Nat.le_of_ble_eq_true rfl) dX12_covers_189 rfl ?_
        refine x_if_eq (tgt := 199) dX12_covers_192 (by decide) h (fun h => ?_) (fun h => ?_)
        · exact x_lo [1, 3] rfl (k_X12_covers_199 h)
        · refine x_iconst (v := (1 : Int32)) dX12_covers_195 (by decide) ?_
          refine x_goto (tgt := 200) dX12_covers_196 (by decide) ?_
          exact x_lo [1, 3] rfl (k_X12_covers_200 h)
set_option maxRecDepth 20000 in
theorem k_X12_covers_82 {S0 : ZH} {n0 : Nat} {x3 : Int32} {x4 : Int32} {x5 : Int32}  {S : ZH} {z : Int32} (h : j_X12_covers_82 n0 x3 x4 x5 S = some z) : Wp Y_X12_covers S0 (zF S0 (some (z_i z)) S) 82 [(0, z_r 12 (some n0)), (3, z_i x3), (4, z_i x4), (5, z_i x5)] [] S := by
  unfold j_X12_covers_82 at h
  refine x_iconst (v := (1 : Int32)) dX12_covers_82 (by decide) ?_
  refine x_goto (tgt := 87) dX12_covers_83 (by decide) ?_
  exact x_lo [0, 1, 2, 3] rfl (k_X12_covers_87 h)
set_option maxRecDepth 20000 in
theorem k_X12_covers_86 {S0 : ZH} {n0 : Nat} {x3 : Int32} {x4 : Int32} {x5 : Int32}  {S : ZH} {z : Int32} (h : j_X12_covers_86 n0 x3 x4 x5 S = some z) : Wp Y_X12_covers S0 (zF S0 (some (z_i z)) S) 86 [(0, z_r 12 (some n0)), (3, z_i x3), (4, z_i x4), (5, z_i x5)] [] S := by
  unfold j_X12_covers_86 at h
  refine x_iconst (v := (0 : Int32)) dX12_covers_86 (by decide) ?_
  exact x_lo [0, 1, 2, 3] rfl (k_X12_covers_87 h)
set_option maxRecDepth 20000 in
theorem k_X12_covers_47 {S0 : ZH} {n0 : Nat} {x3 : Int32} {x4 : Int32} {x5 : Int32}  {S : ZH} {z : Int32} (h : j_X12_covers_47 n0 x3 x4 x5 S = some z) : Wp Y_X12_covers S0 (zF S0 (some (z_i z)) S) 47 [(0, z_r 12 (some n0)), (3, z_i x3), (4, z_i x4), (5, z_i x5)] [] S := by
  unfold j_X12_covers_47 at h
  refine x_aload_n 0 dX12_covers_47 rfl rfl ?_
  refine x_getR rfl ck_12 16 (by decide) rfl q_1065 dX12_covers_48 ?_
  refine x_iload 2 dX12_covers_51 rfl ?_
  refine x_iconst (v := (2 : Int32)) dX12_covers_53 (by decide) ?_
  refine x_iadd dX12_covers_54 ?_
  refine z_bnd h (fun a3 ha3 h => ?_)
  refine x_iaload ha3 ak_39 dX12_covers_55 h (fun v4 hv4 h => ?_)
  refine x_bipush (v := (-9 : Int32)) dX12_covers_56 (by decide) ?_
  refine x_ic_eq (tgt := 82) dX12_covers_58 (by decide) h (fun h => ?_) (fun h => ?_)
  · exact x_lo [0, 1, 2, 3] rfl (k_X12_covers_82 h)
  · refine x_aload_n 0 dX12_covers_61 rfl rfl ?_
    refine x_getR rfl ck_12 16 (by decide) rfl q_1065 dX12_covers_62 ?_
    refine x_iload 2 dX12_covers_65 rfl ?_
    refine x_iconst (v := (2 : Int32)) dX12_covers_67 (by decide) ?_
    refine x_iadd dX12_covers_68 ?_
    refine z_bnd h (fun a36 ha36 h => ?_)
    refine x_iaload ha36 ak_39 dX12_covers_69 h (fun v37 hv37 h => ?_)
    refine x_aload_n 0 dX12_covers_70 rfl rfl ?_
    refine x_getR rfl ck_12 6 (by decide) rfl q_1055 dX12_covers_71 ?_
    refine x_iload 3 dX12_covers_74 rfl ?_
    refine x_iconst (v := (2 : Int32)) dX12_covers_76 (by decide) ?_
    refine x_iadd dX12_covers_77 ?_
    refine z_bnd h (fun a38 ha38 h => ?_)
    refine x_iaload ha38 ak_31 dX12_covers_78 h (fun v39 hv39 h => ?_)
    refine x_ic_ne (tgt := 86) dX12_covers_79 (by decide) h (fun h => ?_) (fun h => ?_)
    · exact x_lo [0, 1, 2, 3] rfl (k_X12_covers_86 h)
    · exact x_lo [0, 1, 2, 3] rfl (k_X12_covers_82 h)
set_option maxRecDepth 20000 in
set_option maxHeartbeats 1000000 in
theorem w_X12_covers {n0 : Nat} {x1 : Int32} {x2 : Int32} {x3 : Int32} {S : ZH} {q : Int32} (h : f_X12_covers n0 x1 x2 x3 S = some q) : MetX Y_X12_covers S [z_r 12 (some n0), z_i x1, z_i x2, z_i x3] (some (z_i q)) S := by
  refine MetX.of (lo := [(0, z_r 12 (some n0)), (1, z_i x1), (2, z_i x2), (3, z_i x3)]) rfl (by decide) (Nat.le_of_ble_eq_true rfl) ?_
  unfold f_X12_covers at h
  refine x_bipush (v := (9 : Int32)) dX12_covers_0 (by decide) ?_
  refine x_iload_n 1 dX12_covers_2 rfl rfl ?_
  refine x_imul dX12_covers_3 ?_
  refine x_istore (lo' := [(4, z_i ((9 : Int32) * x1)), (0, z_r 12 (some n0)), (1, z_i x1), (2, z_i x2), (3, z_i x3)]) dX12_covers_4 (by decide) rfl ?_
  refine x_bipush (v := (8 : Int32)) dX12_covers_6 (by decide) ?_
  refine x_iload_n 3 dX12_covers_8 rfl rfl ?_
  refine x_imul dX12_covers_9 ?_
  refine x_istore (lo' := [(5, z_i ((8 : Int32) * x2)), (4, z_i ((9 : Int32) * x1)), (0, z_r 12 (some n0)), (1, z_i x1), (2, z_i x2), (3, z_i x3)]) dX12_covers_10 (by decide) rfl ?_
  refine x_aload_n 2 dX12_covers_12 rfl rfl ?_
  refine x_getR rfl ck_12 16 (by decide) rfl q_1065 dX12_covers_13 ?_
  refine x_iload 1 dX12_covers_16 rfl ?_
  refine x_iconst (v := (1 : Int32)) dX12_covers_18 (by decide) ?_
  refine x_iadd dX12_covers_19 ?_
  refine z_bnd h (fun a1 ha1 h => ?_)
  refine x_iaload ha1 ak_39 dX12_covers_20 h (fun v2 hv2 h => ?_)
  refine x_bipush (v := (-9 : Int32)) dX12_covers_21 (by decide) ?_
  refine x_ic_eq (tgt := 47) dX12_covers_23 (by decide) h (fun h => ?_) (fun h => ?_)
  · exact x_lo [2, 5, 1, 0] rfl (k_X12_covers_47 h)
  · refine x_aload_n 2 dX12_covers_26 rfl rfl ?_
    refine x_getR rfl ck_12 16 (by decide) rfl q_1065 dX12_covers_27 ?_
    refine x_iload 1 dX12_covers_30 rfl ?_
    refine x_iconst (v := (1 : Int32)) dX12_covers_32 (by decide) ?_
    refine x_iadd dX12_covers_33 ?_
    refine z_bnd h (fun a40 ha40 h => ?_)
    refine x_iaload ha40 ak_39 dX12_covers_34 h (fun v41 hv41 h => ?_)
    refine x_aload_n 2 dX12_covers_35 rfl rfl ?_
    refine x_getR rfl ck_12 6 (by decide) rfl q_1055 dX12_covers_36 ?_
    refine x_iload 0 dX12_covers_39 rfl ?_
    refine x_iconst (v := (1 : Int32)) dX12_covers_41 (by decide) ?_
    refine x_iadd dX12_covers_42 ?_
    refine z_bnd h (fun a42 ha42 h => ?_)
    refine x_iaload ha42 ak_31 dX12_covers_43 h (fun v43 hv43 h => ?_)
    refine x_ic_ne (tgt := 86) dX12_covers_44 (by decide) h (fun h => ?_) (fun h => ?_)
    · exact x_lo [2, 5, 1, 0] rfl (k_X12_covers_86 h)
    · exact x_lo [2, 5, 1, 0] rfl (k_X12_covers_47 h)
-- PressedMenModel cover (III)I
abbrev Y_X12_cover : ZM := (yX12_cover, cX12_cover, 4, (some .int), 2, 53)
theorem cw_X12_cover : z_CV Y_X12_cover 12 3 := ⟨⟨_, _, rfl⟩, by decide, q_1275, q_1276, q_1277, q_76, ⟨by decide, by decide⟩, rfl⟩
def f_X12_cover (n0 : Nat) (x1 : Int32) (x2 : Int32) (x3 : Int32) (S : ZH) : Option (Int32 × ZH) :=
  (f_X12_noPaper n0 x1 (zsI S 12 n0 0 (0 : Int32))).bind fun q1 =>
  if ¬ q1 = 0 then (
    some ((-1 : Int32), (zsI S 12 n0 0 (0 : Int32)))
  ) else (
    (f_X12_noMan n0 x2 (zsI S 12 n0 0 (0 : Int32))).bind fun q2 =>
    if q2 = 0 then (
      (f_X12_noTide x3 (zsI S 12 n0 0 (0 : Int32))).bind fun q3 =>
      if q3 = 0 then (
        (f_X12_covers n0 x1 x2 x3 (zsI S 12 n0 0 (0 : Int32))).bind fun q4 =>
        some (q4, (zsI S 12 n0 0 (0 : Int32)))
      ) else (
        some ((-2 : Int32), (zsI S 12 n0 0 (0 : Int32)))
      )
    ) else (
      some ((-1 : Int32), (zsI S 12 n0 0 (0 : Int32)))
    )
  )
set_option maxRecDepth 20000 in
set_option maxHeartbeats 1000000 in
theorem w_X12_cover {n0 : Nat} {x1 : Int32} {x2 : Int32} {x3 : Int32} {S : ZH} {q : Int32 × ZH} (h : f_X12_cover n0 x1 x2 x3 S = some q) : MetX Y_X12_cover S [z_r 12 (some n0), z_i x1, z_i x2, z_i x3] (some (z_i q.1)) q.2 := by
  refine MetX.of (lo := [(0, z_r 12 (some n0)), (1, z_i x1), (2, z_i x2), (3, z_i x3)]) rfl (by decide) (Nat.le_of_ble_eq_true rfl) ?_
  unfold f_X12_cover at h
  refine x_aload_n 0 dX12_cover_0 rfl rfl ?_
  refine x_iconst (v := (0 : Int32)) dX12_cover_1 (by decide) ?_
  refine x_putI rfl ck_12 0 (by decide) rfl (Or.inl rfl) (by rfl) rfl q_1049 dX12_cover_2 ?_
  refine x_aload_n 0 dX12_cover_5 rfl rfl ?_
  refine x_iload_n 1 dX12_cover_6 rfl rfl ?_
  refine z_bnd h (fun q1 hq1 h => ?_)
  refine x_callV1 rfl (w_X12_noPaper hq1) cw_X12_noPaper q_1278 ⟨by decide, by decide⟩ (Nat.le_of_ble_eq_true rfl) dX12_cover_7 rfl ?_
  refine x_if_ne (tgt := 21) dX12_cover_10 (by decide) h (fun h => ?_) (fun h => ?_)
  · refine x_iconst (v := (-1 : Int32)) dX12_cover_21 (by decide) ?_
    exact x_iretE rfl dX12_cover_22 h
  · refine x_aload_n 0 dX12_cover_13 rfl rfl ?_
    refine x_iload_n 2 dX12_cover_14 rfl rfl ?_
    refine z_bnd h (fun q2 hq2 h => ?_)
    refine x_callV1 rfl (w_X12_noMan hq2) cw_X12_noMan q_1206 ⟨by decide, by decide⟩ (Nat.le_of_ble_eq_true rfl) dX12_cover_15 rfl ?_
    refine x_if_eq (tgt := 23) dX12_cover_18 (by decide) h (fun h => ?_) (fun h => ?_)
    · refine x_iload_n 3 dX12_cover_23 rfl rfl ?_
      refine z_bnd h (fun q3 hq3 h => ?_)
      refine x_callS1 (w_X12_noTide hq3) cw_X12_noTide q_1282 ⟨by decide, by decide⟩ (Nat.le_of_ble_eq_true rfl) dX12_cover_24 rfl ?_
      refine x_if_eq (tgt := 35) dX12_cover_27 (by decide) h (fun h => ?_) (fun h => ?_)
      · refine x_aload_n 0 dX12_cover_35 rfl rfl ?_
        refine x_iload_n 1 dX12_cover_36 rfl rfl ?_
        refine x_iload_n 2 dX12_cover_37 rfl rfl ?_
        refine x_iload_n 3 dX12_cover_38 rfl rfl ?_
        refine z_bnd h (fun q4 hq4 h => ?_)
        refine x_callV1 rfl (w_X12_covers hq4) cw_X12_covers q_1286 ⟨by decide, by decide⟩ (Nat.le_of_ble_eq_true rfl) dX12_cover_39 rfl ?_
        exact x_iretE rfl dX12_cover_42 h
      · refine x_bipush (v := (-2 : Int32)) dX12_cover_30 (by decide) ?_
        refine x_goto (tgt := 42) dX12_cover_32 (by decide) ?_
        exact x_iretE rfl dX12_cover_42 h
    · refine x_iconst (v := (-1 : Int32)) dX12_cover_21 (by decide) ?_
      exact x_iretE rfl dX12_cover_22 h
-- PressedMenModel same (II)I
abbrev Y_X12_same : ZM := (yX12_same, cX12_same, 5, (some .int), 2, 53)
theorem cw_X12_same : z_CV Y_X12_same 12 2 := ⟨⟨_, _, rfl⟩, by decide, q_1291, q_1292, q_1293, q_76, ⟨by decide, by decide⟩, rfl⟩
def b_X12_same_30 (n0 : Nat) (x1 : Int32) (x2 : Int32) (S : ZH) (v : Int32 × Int32) : Option ((Int32 × Int32) ⊕ (Int32)) :=
  if (zI S 12 n0 5) ≤ v.2 then (
    some (Sum.inr v.1)
  ) else (
    (f_X12_covers n0 x1 v.2 x2 S).bind fun q3 =>
    if q3 ≤ 0 then (
      some (Sum.inl ((v.1 + (0 : Int32)), (v.2 + 1)))
    ) else (
      some (Sum.inl ((v.1 + (1 : Int32)), (v.2 + 1)))
    )
  )
def f_X12_same (n0 : Nat) (x1 : Int32) (x2 : Int32) (S : ZH) : Option (Int32 × ZH) :=
  (f_X12_noPaper n0 x1 (zsI S 12 n0 0 (0 : Int32))).bind fun q1 =>
  if q1 = 0 then (
    (f_X12_noTide x2 (zsI S 12 n0 0 (0 : Int32))).bind fun q2 =>
    if q2 = 0 then (
      (z_iter zFU (b_X12_same_30 n0 x1 x2 (zsI S 12 n0 0 (0 : Int32))) ((0 : Int32), (0 : Int32))).bind fun t4 =>
      some (t4, (zsI S 12 n0 0 (0 : Int32)))
    ) else (
      some ((-2 : Int32), (zsI S 12 n0 0 (0 : Int32)))
    )
  ) else (
    some ((-1 : Int32), (zsI S 12 n0 0 (0 : Int32)))
  )
set_option maxRecDepth 20000 in
theorem l_X12_same_30 {S0 : ZH} {F : ZP} {n0 : Nat} {x1 : Int32} {x2 : Int32} {S : ZH} {v : Int32 × Int32} {t : Int32} (h : z_iter zFU (b_X12_same_30 n0 x1 x2 S) v = some t) (k : (fun t => Wp Y_X12_same S0 F 64 [(3, z_i t)] [] S) t) : Wp Y_X12_same S0 F 30 [(0, z_r 12 (some n0)), (1, z_i x1), (2, z_i x2), (3, z_i v.1), (4, z_i v.2)] [] S := by
  refine z_iter_P (P := fun v : Int32 × Int32 => Wp Y_X12_same S0 F 30 [(0, z_r 12 (some n0)), (1, z_i x1), (2, z_i x2), (3, z_i v.1), (4, z_i v.2)] [] S) (X := (fun t => Wp Y_X12_same S0 F 64 [(3, z_i t)] [] S)) ?_ _ _ _ h k
  clear h k v t
  intro v r h k
  unfold b_X12_same_30 at h
  refine x_iload 4 dX12_same_30 rfl ?_
  refine x_aload_n 0 dX12_same_32 rfl rfl ?_
  refine x_getI rfl ck_12 5 (by decide) rfl q_1054 dX12_same_33 ?_
  refine x_ic_ge (tgt := 64) dX12_same_36 (by decide) h (fun h => ?_) (fun h => ?_)
  · cases h
    exact x_lo [3] rfl k
  · refine x_iload_n 3 dX12_same_39 rfl rfl ?_
    refine x_aload_n 0 dX12_same_40 rfl rfl ?_
    refine x_iload_n 1 dX12_same_41 rfl rfl ?_
    refine x_iload 4 dX12_same_42 rfl ?_
    refine x_iload_n 2 dX12_same_44 rfl rfl ?_
    refine z_bnd h (fun q3 hq3 h => ?_)
    refine x_callV1 rfl (w_X12_covers hq3) cw_X12_covers q_1286 ⟨by decide, by decide⟩ (Nat.le_of_ble_eq_true rfl) dX12_same_45 rfl ?_
    refine x_if_le (tgt := 55) dX12_same_48 (by decide) h (fun h => ?_) (fun h => ?_)
    · refine x_iconst (v := (0 : Int32)) dX12_same_55 (by decide) ?_
      refine x_iadd dX12_same_56 ?_
      refine x_istore_n (lo' := [(3, z_i (v.1 + (0 : Int32))), (0, z_r 12 (some n0)), (1, z_i x1), (2, z_i x2), (4, z_i v.2)]) dX12_same_57 rfl (by decide) rfl ?_
      refine x_iinc (v := (v.2 + 1)) (lo' := [(4, z_i (v.2 + 1)), (3, z_i (v.1 + (0 : Int32))), (0, z_r 12 (some n0)), (1, z_i x1), (2, z_i x2)]) 4 dX12_same_58 rfl (congrArg (HAdd.hAdd v.2) (by decide)) (by decide) rfl ?_
      refine x_goto (tgt := 30) dX12_same_61 (by decide) ?_
      cases h
      exact x_lo [2, 3, 4, 1, 0] rfl k
    · refine x_iconst (v := (1 : Int32)) dX12_same_51 (by decide) ?_
      refine x_goto (tgt := 56) dX12_same_52 (by decide) ?_
      refine x_iadd dX12_same_56 ?_
      refine x_istore_n (lo' := [(3, z_i (v.1 + (1 : Int32))), (0, z_r 12 (some n0)), (1, z_i x1), (2, z_i x2), (4, z_i v.2)]) dX12_same_57 rfl (by decide) rfl ?_
      refine x_iinc (v := (v.2 + 1)) (lo' := [(4, z_i (v.2 + 1)), (3, z_i (v.1 + (1 : Int32))), (0, z_r 12 (some n0)), (1, z_i x1), (2, z_i x2)]) 4 dX12_same_58 rfl (congrArg (HAdd.hAdd v.2) (by decide)) (by decide) rfl ?_
      refine x_goto (tgt := 30) dX12_same_61 (by decide) ?_
      cases h
      exact x_lo [2, 3, 4, 1, 0] rfl k
set_option maxRecDepth 20000 in
set_option maxHeartbeats 1000000 in
theorem w_X12_same {n0 : Nat} {x1 : Int32} {x2 : Int32} {S : ZH} {q : Int32 × ZH} (h : f_X12_same n0 x1 x2 S = some q) : MetX Y_X12_same S [z_r 12 (some n0), z_i x1, z_i x2] (some (z_i q.1)) q.2 := by
  refine MetX.of (lo := [(0, z_r 12 (some n0)), (1, z_i x1), (2, z_i x2)]) rfl (by decide) (Nat.le_of_ble_eq_true rfl) ?_
  unfold f_X12_same at h
  refine x_aload_n 0 dX12_same_0 rfl rfl ?_
  refine x_iconst (v := (0 : Int32)) dX12_same_1 (by decide) ?_
  refine x_putI rfl ck_12 0 (by decide) rfl (Or.inl rfl) (by rfl) rfl q_1049 dX12_same_2 ?_
  refine x_aload_n 0 dX12_same_5 rfl rfl ?_
  refine x_iload_n 1 dX12_same_6 rfl rfl ?_
  refine z_bnd h (fun q1 hq1 h => ?_)
  refine x_callV1 rfl (w_X12_noPaper hq1) cw_X12_noPaper q_1278 ⟨by decide, by decide⟩ (Nat.le_of_ble_eq_true rfl) dX12_same_7 rfl ?_
  refine x_if_eq (tgt := 15) dX12_same_10 (by decide) h (fun h => ?_) (fun h => ?_)
  · refine x_iload_n 2 dX12_same_15 rfl rfl ?_
    refine z_bnd h (fun q2 hq2 h => ?_)
    refine x_callS1 (w_X12_noTide hq2) cw_X12_noTide q_1282 ⟨by decide, by decide⟩ (Nat.le_of_ble_eq_true rfl) dX12_same_16 rfl ?_
    refine x_if_eq (tgt := 25) dX12_same_19 (by decide) h (fun h => ?_) (fun h => ?_)
    · refine x_iconst (v := (0 : Int32)) dX12_same_25 (by decide) ?_
      refine x_istore_n (lo' := [(3, z_i (0 : Int32)), (0, z_r 12 (some n0)), (1, z_i x1), (2, z_i x2)]) dX12_same_26 rfl (by decide) rfl ?_
      refine x_iconst (v := (0 : Int32)) dX12_same_27 (by decide) ?_
      refine x_istore (lo' := [(4, z_i (0 : Int32)), (3, z_i (0 : Int32)), (0, z_r 12 (some n0)), (1, z_i x1), (2, z_i x2)]) dX12_same_28 (by decide) rfl ?_
      refine z_bnd h (fun t4 ht4 h => ?_)
      refine x_lo [2, 3, 4, 1, 0] rfl ?_
      refine l_X12_same_30 ht4 ?_
      refine x_iload_n 0 dX12_same_64 rfl rfl ?_
      exact x_iretE rfl dX12_same_65 h
    · refine x_bipush (v := (-2 : Int32)) dX12_same_22 (by decide) ?_
      exact x_iretE rfl dX12_same_24 h
  · refine x_iconst (v := (-1 : Int32)) dX12_same_13 (by decide) ?_
    exact x_iretE rfl dX12_same_14 h
-- PressedMenModel shown (II)I
abbrev Y_X12_shown : ZM := (yX12_shown, cX12_shown, 7, (some .int), 2, 46)
theorem cw_X12_shown : z_CV Y_X12_shown 12 2 := ⟨⟨_, _, rfl⟩, by decide, q_1295, q_1296, q_1297, q_76, ⟨by decide, by decide⟩, rfl⟩
def b_X12_shown_45 (n0 : Nat) (x1 : Int32) (x2 : Int32) (x3 : Int32) (x4 : Int32) (S : ZH) (v : Int32 × Int32) : Option ((Int32 × Int32) ⊕ (Int32)) :=
  if (zI S 12 n0 22) ≤ v.2 then (
    some (Sum.inr v.1)
  ) else (
    if ¬ v.1 = 0 then (
      some (Sum.inl ((1 : Int32), (v.2 + 1)))
    ) else (
      ((zR S 12 n0 23)).bind fun a3 =>
      (zld S 44 a3 (((6 : Int32) * v.2) + (1 : Int32))).bind fun v4 =>
      if ¬ v4 = x4 then (
        some (Sum.inl ((0 : Int32), (v.2 + 1)))
      ) else (
        ((zR S 12 n0 23)).bind fun a5 =>
        (zld S 44 a5 (((6 : Int32) * v.2) + (2 : Int32))).bind fun v6 =>
        if ¬ v6 = x1 then (
          some (Sum.inl ((0 : Int32), (v.2 + 1)))
        ) else (
          ((zR S 12 n0 23)).bind fun a7 =>
          (zld S 44 a7 ((6 : Int32) * v.2)).bind fun v8 =>
          (f_X12_in v8.toInt64 ((x2 - (13 : Int32)).toInt64) x2.toInt64 S).bind fun q9 =>
          if q9 = 0 then (
            some (Sum.inl ((0 : Int32), (v.2 + 1)))
          ) else (
            some (Sum.inl ((1 : Int32), (v.2 + 1)))
          )
        )
      )
    )
  )
def b_X12_shown_30 (n0 : Nat) (x1 : Int32) (x2 : Int32) (S : ZH) (v : Int32 × Int32) : Option ((Int32 × Int32) ⊕ (Int32)) :=
  if (zI S 12 n0 5) ≤ v.2 then (
    some (Sum.inr v.1)
  ) else (
    (z_iter zFU (b_X12_shown_45 n0 x1 x2 v.1 v.2 S) ((0 : Int32), (0 : Int32))).bind fun t10 =>
    if t10 = 0 then (
      some (Sum.inl ((v.1 + (0 : Int32)), (v.2 + 1)))
    ) else (
      some (Sum.inl ((v.1 + (1 : Int32)), (v.2 + 1)))
    )
  )
def f_X12_shown (n0 : Nat) (x1 : Int32) (x2 : Int32) (S : ZH) : Option (Int32 × ZH) :=
  (f_X12_noPaper n0 x1 (zsI S 12 n0 0 (0 : Int32))).bind fun q1 =>
  if q1 = 0 then (
    (f_X12_noTide x2 (zsI S 12 n0 0 (0 : Int32))).bind fun q2 =>
    if q2 = 0 then (
      (z_iter zFU (b_X12_shown_30 n0 x1 x2 (zsI S 12 n0 0 (0 : Int32))) ((0 : Int32), (0 : Int32))).bind fun t11 =>
      some (t11, (zsI S 12 n0 0 (0 : Int32)))
    ) else (
      some ((-2 : Int32), (zsI S 12 n0 0 (0 : Int32)))
    )
  ) else (
    some ((-1 : Int32), (zsI S 12 n0 0 (0 : Int32)))
  )
set_option maxRecDepth 20000 in
theorem l_X12_shown_45 {S0 : ZH} {F : ZP} {n0 : Nat} {x1 : Int32} {x2 : Int32} {x3 : Int32} {x4 : Int32} {S : ZH} {v : Int32 × Int32} {t : Int32} (h : z_iter zFU (b_X12_shown_45 n0 x1 x2 x3 x4 S) v = some t) (k : (fun t => Wp Y_X12_shown S0 F 129 [(0, z_r 12 (some n0)), (1, z_i x1), (2, z_i x2), (3, z_i x3), (4, z_i x4), (5, z_i t)] [] S) t) : Wp Y_X12_shown S0 F 45 [(0, z_r 12 (some n0)), (1, z_i x1), (2, z_i x2), (3, z_i x3), (4, z_i x4), (5, z_i v.1), (6, z_i v.2)] [] S := by
  refine z_iter_P (P := fun v : Int32 × Int32 => Wp Y_X12_shown S0 F 45 [(0, z_r 12 (some n0)), (1, z_i x1), (2, z_i x2), (3, z_i x3), (4, z_i x4), (5, z_i v.1), (6, z_i v.2)] [] S) (X := (fun t => Wp Y_X12_shown S0 F 129 [(0, z_r 12 (some n0)), (1, z_i x1), (2, z_i x2), (3, z_i x3), (4, z_i x4), (5, z_i t)] [] S)) ?_ _ _ _ h k
  clear h k v t
  intro v r h k
  unfold b_X12_shown_45 at h
  refine x_iload 6 dX12_shown_45 rfl ?_
  refine x_aload_n 0 dX12_shown_47 rfl rfl ?_
  refine x_getI rfl ck_12 22 (by decide) rfl q_1071 dX12_shown_48 ?_
  refine x_ic_ge (tgt := 129) dX12_shown_51 (by decide) h (fun h => ?_) (fun h => ?_)
  · cases h
    exact x_lo [0, 1, 2, 3, 4, 5] rfl k
  · refine x_iload 5 dX12_shown_54 rfl ?_
    refine x_if_ne (tgt := 116) dX12_shown_56 (by decide) h (fun h => ?_) (fun h => ?_)
    · refine x_iconst (v := (1 : Int32)) dX12_shown_116 (by decide) ?_
      refine x_goto (tgt := 121) dX12_shown_117 (by decide) ?_
      refine x_istore (lo' := [(5, z_i (1 : Int32)), (0, z_r 12 (some n0)), (1, z_i x1), (2, z_i x2), (3, z_i x3), (4, z_i x4), (6, z_i v.2)]) dX12_shown_121 (by decide) rfl ?_
      refine x_iinc (v := (v.2 + 1)) (lo' := [(6, z_i (v.2 + 1)), (5, z_i (1 : Int32)), (0, z_r 12 (some n0)), (1, z_i x1), (2, z_i x2), (3, z_i x3), (4, z_i x4)]) 6 dX12_shown_123 rfl (congrArg (HAdd.hAdd v.2) (by decide)) (by decide) rfl ?_
      refine x_goto (tgt := 45) dX12_shown_126 (by decide) ?_
      cases h
      exact x_lo [2, 3, 4, 5, 6, 1, 0] rfl k
    · refine x_aload_n 0 dX12_shown_59 rfl rfl ?_
      refine x_getR rfl ck_12 23 (by decide) rfl q_1072 dX12_shown_60 ?_
      refine x_bipush (v := (6 : Int32)) dX12_shown_63 (by decide) ?_
      refine x_iload 6 dX12_shown_65 rfl ?_
      refine x_imul dX12_shown_67 ?_
      refine x_iconst (v := (1 : Int32)) dX12_shown_68 (by decide) ?_
      refine x_iadd dX12_shown_69 ?_
      refine z_bnd h (fun a3 ha3 h => ?_)
      refine x_iaload ha3 ak_44 dX12_shown_70 h (fun v4 hv4 h => ?_)
      refine x_iload 4 dX12_shown_71 rfl ?_
      refine x_ic_ne (tgt := 120) dX12_shown_73 (by decide) h (fun h => ?_) (fun h => ?_)
      · refine x_iconst (v := (0 : Int32)) dX12_shown_120 (by decide) ?_
        refine x_istore (lo' := [(5, z_i (0 : Int32)), (0, z_r 12 (some n0)), (1, z_i x1), (2, z_i x2), (3, z_i x3), (4, z_i x4), (6, z_i v.2)]) dX12_shown_121 (by decide) rfl ?_
        refine x_iinc (v := (v.2 + 1)) (lo' := [(6, z_i (v.2 + 1)), (5, z_i (0 : Int32)), (0, z_r 12 (some n0)), (1, z_i x1), (2, z_i x2), (3, z_i x3), (4, z_i x4)]) 6 dX12_shown_123 rfl (congrArg (HAdd.hAdd v.2) (by decide)) (by decide) rfl ?_
        refine x_goto (tgt := 45) dX12_shown_126 (by decide) ?_
        cases h
        exact x_lo [2, 3, 4, 5, 6, 1, 0] rfl k
      · refine x_aload_n 0 dX12_shown_76 rfl rfl ?_
        refine x_getR rfl ck_12 23 (by decide) rfl q_1072 dX12_shown_77 ?_
        refine x_bipush (v := (6 : Int32)) dX12_shown_80 (by decide) ?_
        refine x_iload 6 dX12_shown_82 rfl ?_
        refine x_imul dX12_shown_84 ?_
        refine x_iconst (v := (2 : Int32)) dX12_shown_85 (by decide) ?_
        refine x_iadd dX12_shown_86 ?_
        refine z_bnd h (fun a5 ha5 h => ?_)
        refine x_iaload ha5 ak_44 dX12_shown_87 h (fun v6 hv6 h => ?_)
        refine x_iload_n 1 dX12_shown_88 rfl rfl ?_
        refine x_ic_ne (tgt := 120) dX12_shown_89 (by decide) h (fun h => ?_) (fun h => ?_)
        · refine x_iconst (v := (0 : Int32)) dX12_shown_120 (by decide) ?_
          refine x_istore (lo' := [(5, z_i (0 : Int32)), (0, z_r 12 (some n0)), (1, z_i x1), (2, z_i x2), (3, z_i x3), (4, z_i x4), (6, z_i v.2)]) dX12_shown_121 (by decide) rfl ?_
          refine x_iinc (v := (v.2 + 1)) (lo' := [(6, z_i (v.2 + 1)), (5, z_i (0 : Int32)), (0, z_r 12 (some n0)), (1, z_i x1), (2, z_i x2), (3, z_i x3), (4, z_i x4)]) 6 dX12_shown_123 rfl (congrArg (HAdd.hAdd v.2) (by decide)) (by decide) rfl ?_
          refine x_goto (tgt := 45) dX12_shown_126 (by decide) ?_
          cases h
          exact x_lo [2, 3, 4, 5, 6, 1, 0] rfl k
        · refine x_aload_n 0 dX12_shown_92 rfl rfl ?_
          refine x_getR rfl ck_12 23 (by decide) rfl q_1072 dX12_shown_93 ?_
          refine x_bipush (v := (6 : Int32)) dX12_shown_96 (by decide) ?_
          refine x_iload 6 dX12_shown_98 rfl ?_
          refine x_imul dX12_shown_100 ?_
          refine z_bnd h (fun a7 ha7 h => ?_)
          refine x_iaload ha7 ak_44 dX12_shown_101 h (fun v8 hv8 h => ?_)
          refine x_i2l dX12_shown_102 ?_
          refine x_iload_n 2 dX12_shown_103 rfl rfl ?_
          refine x_bipush (v := (13 : Int32)) dX12_shown_104 (by decide) ?_
          refine x_isub dX12_shown_106 ?_
          refine x_i2l dX12_shown_107 ?_
          refine x_iload_n 2 dX12_shown_108 rfl rfl ?_
          refine x_i2l dX12_shown_109 ?_
          refine z_bnd h (fun q9 hq9 h => ?_)
          refine x_callS1 (w_X12_in hq9) cw_X12_in q_1172 ⟨by decide, by decide⟩ (Nat.le_of_ble_eq_true rfl) dX12_shown_110 rfl ?_
          refine x_if_eq (tgt := 120) dX12_shown_113 (by decide) h (fun h => ?_) (fun h => ?_)
          · refine x_iconst (v := (0 : Int32)) dX12_shown_120 (by decide) ?_
            refine x_istore (lo' := [(5, z_i (0 : Int32)), (0, z_r 12 (some n0)), (1, z_i x1), (2, z_i x2), (3, z_i x3), (4, z_i x4), (6, z_i v.2)]) dX12_shown_121 (by decide) rfl ?_
            refine x_iinc (v := (v.2 + 1)) (lo' := [(6, z_i (v.2 + 1)), (5, z_i (0 : Int32)), (0, z_r 12 (some n0)), (1, z_i x1), (2, z_i x2), (3, z_i x3), (4, z_i x4)]) 6 dX12_shown_123 rfl (congrArg (HAdd.hAdd v.2) (by decide)) (by decide) rfl ?_
            refine x_goto (tgt := 45) dX12_shown_126 (by decide) ?_
            cases h
            exact x_lo [2, 3, 4, 5, 6, 1, 0] rfl k
          · refine x_iconst (v := (1 : Int32)) dX12_shown_116 (by decide) ?_
            refine x_goto (tgt := 121) dX12_shown_117 (by decide) ?_
            refine x_istore (lo' := [(5, z_i (1 : Int32)), (0, z_r 12 (some n0)), (1, z_i x1), (2, z_i x2), (3, z_i x3), (4, z_i x4), (6, z_i v.2)]) dX12_shown_121 (by decide) rfl ?_
            refine x_iinc (v := (v.2 + 1)) (lo' := [(6, z_i (v.2 + 1)), (5, z_i (1 : Int32)), (0, z_r 12 (some n0)), (1, z_i x1), (2, z_i x2), (3, z_i x3), (4, z_i x4)]) 6 dX12_shown_123 rfl (congrArg (HAdd.hAdd v.2) (by decide)) (by decide) rfl ?_
            refine x_goto (tgt := 45) dX12_shown_126 (by decide) ?_
            cases h
            exact x_lo [2, 3, 4, 5, 6, 1, 0] rfl k
set_option maxRecDepth 20000 in
theorem l_X12_shown_30 {S0 : ZH} {F : ZP} {n0 : Nat} {x1 : Int32} {x2 : Int32} {S : ZH} {v : Int32 × Int32} {t : Int32} (h : z_iter zFU (b_X12_shown_30 n0 x1 x2 S) v = some t) (k : (fun t => Wp Y_X12_shown S0 F 148 [(3, z_i t)] [] S) t) : Wp Y_X12_shown S0 F 30 [(0, z_r 12 (some n0)), (1, z_i x1), (2, z_i x2), (3, z_i v.1), (4, z_i v.2)] [] S := by
  refine z_iter_P (P := fun v : Int32 × Int32 => Wp Y_X12_shown S0 F 30 [(0, z_r 12 (some n0)), (1, z_i x1), (2, z_i x2), (3, z_i v.1), (4, z_i v.2)] [] S) (X := (fun t => Wp Y_X12_shown S0 F 148 [(3, z_i t)] [] S)) ?_ _ _ _ h k
  clear h k v t
  intro v r h k
  unfold b_X12_shown_30 at h
  refine x_iload 4 dX12_shown_30 rfl ?_
  refine x_aload_n 0 dX12_shown_32 rfl rfl ?_
  refine x_getI rfl ck_12 5 (by decide) rfl q_1054 dX12_shown_33 ?_
  refine x_ic_ge (tgt := 148) dX12_shown_36 (by decide) h (fun h => ?_) (fun h => ?_)
  · cases h
    exact x_lo [3] rfl k
  · refine x_iconst (v := (0 : Int32)) dX12_shown_39 (by decide) ?_
    refine x_istore (lo' := [(5, z_i (0 : Int32)), (0, z_r 12 (some n0)), (1, z_i x1), (2, z_i x2), (3, z_i v.1), (4, z_i v.2)]) dX12_shown_40 (by decide) rfl ?_
    refine x_iconst (v := (0 : Int32)) dX12_shown_42 (by decide) ?_
    refine x_istore (lo' := [(6, z_i (0 : Int32)), (5, z_i (0 : Int32)), (0, z_r 12 (some n0)), (1, z_i x1), (2, z_i x2), (3, z_i v.1), (4, z_i v.2)]) dX12_shown_43 (by decide) rfl ?_
    refine z_bnd h (fun t10 ht10 h => ?_)
    refine x_lo [2, 3, 4, 5, 6, 1, 0] rfl ?_
    refine l_X12_shown_45 ht10 ?_
    refine x_iload_n 3 dX12_shown_129 rfl rfl ?_
    refine x_iload 5 dX12_shown_130 rfl ?_
    refine x_if_eq (tgt := 139) dX12_shown_132 (by decide) h (fun h => ?_) (fun h => ?_)
    · refine x_iconst (v := (0 : Int32)) dX12_shown_139 (by decide) ?_
      refine x_iadd dX12_shown_140 ?_
      refine x_istore_n (lo' := [(3, z_i (v.1 + (0 : Int32))), (0, z_r 12 (some n0)), (1, z_i x1), (2, z_i x2), (4, z_i v.2), (5, z_i t10)]) dX12_shown_141 rfl (by decide) rfl ?_
      refine x_iinc (v := (v.2 + 1)) (lo' := [(4, z_i (v.2 + 1)), (3, z_i (v.1 + (0 : Int32))), (0, z_r 12 (some n0)), (1, z_i x1), (2, z_i x2), (5, z_i t10)]) 4 dX12_shown_142 rfl (congrArg (HAdd.hAdd v.2) (by decide)) (by decide) rfl ?_
      refine x_goto (tgt := 30) dX12_shown_145 (by decide) ?_
      cases h
      exact x_lo [2, 3, 4, 1, 0] rfl k
    · refine x_iconst (v := (1 : Int32)) dX12_shown_135 (by decide) ?_
      refine x_goto (tgt := 140) dX12_shown_136 (by decide) ?_
      refine x_iadd dX12_shown_140 ?_
      refine x_istore_n (lo' := [(3, z_i (v.1 + (1 : Int32))), (0, z_r 12 (some n0)), (1, z_i x1), (2, z_i x2), (4, z_i v.2), (5, z_i t10)]) dX12_shown_141 rfl (by decide) rfl ?_
      refine x_iinc (v := (v.2 + 1)) (lo' := [(4, z_i (v.2 + 1)), (3, z_i (v.1 + (1 : Int32))), (0, z_r 12 (some n0)), (1, z_i x1), (2, z_i x2), (5, z_i t10)]) 4 dX12_shown_142 rfl (congrArg (HAdd.hAdd v.2) (by decide)) (by decide) rfl ?_
      refine x_goto (tgt := 30) dX12_shown_145 (by decide) ?_
      cases h
      exact x_lo [2, 3, 4, 1, 0] rfl k
set_option maxRecDepth 20000 in
set_option maxHeartbeats 1000000 in
theorem w_X12_shown {n0 : Nat} {x1 : Int32} {x2 : Int32} {S : ZH} {q : Int32 × ZH} (h : f_X12_shown n0 x1 x2 S = some q) : MetX Y_X12_shown S [z_r 12 (some n0), z_i x1, z_i x2] (some (z_i q.1)) q.2 := by
  refine MetX.of (lo := [(0, z_r 12 (some n0)), (1, z_i x1), (2, z_i x2)]) rfl (by decide) (Nat.le_of_ble_eq_true rfl) ?_
  unfold f_X12_shown at h
  refine x_aload_n 0 dX12_shown_0 rfl rfl ?_
  refine x_iconst (v := (0 : Int32)) dX12_shown_1 (by decide) ?_
  refine x_putI rfl ck_12 0 (by decide) rfl (Or.inl rfl) (by rfl) rfl q_1049 dX12_shown_2 ?_
  refine x_aload_n 0 dX12_shown_5 rfl rfl ?_
  refine x_iload_n 1 dX12_shown_6 rfl rfl ?_
  refine z_bnd h (fun q1 hq1 h => ?_)
  refine x_callV1 rfl (w_X12_noPaper hq1) cw_X12_noPaper q_1278 ⟨by decide, by decide⟩ (Nat.le_of_ble_eq_true rfl) dX12_shown_7 rfl ?_
  refine x_if_eq (tgt := 15) dX12_shown_10 (by decide) h (fun h => ?_) (fun h => ?_)
  · refine x_iload_n 2 dX12_shown_15 rfl rfl ?_
    refine z_bnd h (fun q2 hq2 h => ?_)
    refine x_callS1 (w_X12_noTide hq2) cw_X12_noTide q_1282 ⟨by decide, by decide⟩ (Nat.le_of_ble_eq_true rfl) dX12_shown_16 rfl ?_
    refine x_if_eq (tgt := 25) dX12_shown_19 (by decide) h (fun h => ?_) (fun h => ?_)
    · refine x_iconst (v := (0 : Int32)) dX12_shown_25 (by decide) ?_
      refine x_istore_n (lo' := [(3, z_i (0 : Int32)), (0, z_r 12 (some n0)), (1, z_i x1), (2, z_i x2)]) dX12_shown_26 rfl (by decide) rfl ?_
      refine x_iconst (v := (0 : Int32)) dX12_shown_27 (by decide) ?_
      refine x_istore (lo' := [(4, z_i (0 : Int32)), (3, z_i (0 : Int32)), (0, z_r 12 (some n0)), (1, z_i x1), (2, z_i x2)]) dX12_shown_28 (by decide) rfl ?_
      refine z_bnd h (fun t11 ht11 h => ?_)
      refine x_lo [2, 3, 4, 1, 0] rfl ?_
      refine l_X12_shown_30 ht11 ?_
      refine x_iload_n 0 dX12_shown_148 rfl rfl ?_
      exact x_iretE rfl dX12_shown_149 h
    · refine x_bipush (v := (-2 : Int32)) dX12_shown_22 (by decide) ?_
      exact x_iretE rfl dX12_shown_24 h
  · refine x_iconst (v := (-1 : Int32)) dX12_shown_13 (by decide) ?_
    exact x_iretE rfl dX12_shown_14 h
-- PressedMenModel act (I)I
abbrev Y_X12_act : ZM := (yX12_act, cX12_act, 2, (some .int), 2, 45)
theorem cw_X12_act : z_CV Y_X12_act 12 1 := ⟨⟨_, _, rfl⟩, by decide, q_1299, q_1300, q_1301, q_76, ⟨by decide, by decide⟩, rfl⟩
def f_X12_act (n0 : Nat) (x1 : Int32) (S : ZH) : Option (Int32 × ZH) :=
  (f_X12_noTide x1 (zsI S 12 n0 0 (0 : Int32))).bind fun q1 =>
  if q1 = 0 then (
    if ¬ (zI (zsI S 12 n0 0 (0 : Int32)) 12 n0 17) = (8 : Int32) then (
      ((zR (zsI S 12 n0 0 (0 : Int32)) 12 n0 18)).bind fun a2 =>
      (zst (zsI S 12 n0 0 (0 : Int32)) 40 a2 (zI (zsI S 12 n0 0 (0 : Int32)) 12 n0 17) x1).bind fun S3 =>
      some (((zI (zsI S3 12 n0 17 ((zI S3 12 n0 17) + (1 : Int32))) 12 n0 17) - (1 : Int32)), (zsI S3 12 n0 17 ((zI S3 12 n0 17) + (1 : Int32))))
    ) else (
      some ((-4 : Int32), (zsI S 12 n0 0 (0 : Int32)))
    )
  ) else (
    some ((-2 : Int32), (zsI S 12 n0 0 (0 : Int32)))
  )
set_option maxRecDepth 20000 in
set_option maxHeartbeats 1000000 in
theorem w_X12_act {n0 : Nat} {x1 : Int32} {S : ZH} {q : Int32 × ZH} (h : f_X12_act n0 x1 S = some q) : MetX Y_X12_act S [z_r 12 (some n0), z_i x1] (some (z_i q.1)) q.2 := by
  refine MetX.of (lo := [(0, z_r 12 (some n0)), (1, z_i x1)]) rfl (by decide) (Nat.le_of_ble_eq_true rfl) ?_
  unfold f_X12_act at h
  refine x_aload_n 0 dX12_act_0 rfl rfl ?_
  refine x_iconst (v := (0 : Int32)) dX12_act_1 (by decide) ?_
  refine x_putI rfl ck_12 0 (by decide) rfl (Or.inl rfl) (by rfl) rfl q_1049 dX12_act_2 ?_
  refine x_iload_n 1 dX12_act_5 rfl rfl ?_
  refine z_bnd h (fun q1 hq1 h => ?_)
  refine x_callS1 (w_X12_noTide hq1) cw_X12_noTide q_1282 ⟨by decide, by decide⟩ (Nat.le_of_ble_eq_true rfl) dX12_act_6 rfl ?_
  refine x_if_eq (tgt := 15) dX12_act_9 (by decide) h (fun h => ?_) (fun h => ?_)
  · refine x_aload_n 0 dX12_act_15 rfl rfl ?_
    refine x_getI rfl ck_12 17 (by decide) rfl q_1066 dX12_act_16 ?_
    refine x_bipush (v := (8 : Int32)) dX12_act_19 (by decide) ?_
    refine x_ic_ne (tgt := 27) dX12_act_21 (by decide) h (fun h => ?_) (fun h => ?_)
    · refine x_aload_n 0 dX12_act_27 rfl rfl ?_
      refine x_getR rfl ck_12 18 (by decide) rfl q_1067 dX12_act_28 ?_
      refine x_aload_n 0 dX12_act_31 rfl rfl ?_
      refine x_getI rfl ck_12 17 (by decide) rfl q_1066 dX12_act_32 ?_
      refine x_iload_n 1 dX12_act_35 rfl rfl ?_
      refine z_bnd h (fun a2 ha2 h => ?_)
      refine x_iastore ha2 ak_40 dX12_act_36 h (fun S3 hS3 h => ?_)
      refine x_aload_n 0 dX12_act_37 rfl rfl ?_
      refine x_dup dX12_act_38 rfl ?_
      refine x_getI rfl ck_12 17 (by decide) rfl q_1066 dX12_act_39 ?_
      refine x_iconst (v := (1 : Int32)) dX12_act_42 (by decide) ?_
      refine x_iadd dX12_act_43 ?_
      refine x_putI rfl ck_12 17 (by decide) rfl (Or.inl rfl) (by rfl) rfl q_1066 dX12_act_44 ?_
      refine x_aload_n 0 dX12_act_47 rfl rfl ?_
      refine x_getI rfl ck_12 17 (by decide) rfl q_1066 dX12_act_48 ?_
      refine x_iconst (v := (1 : Int32)) dX12_act_51 (by decide) ?_
      refine x_isub dX12_act_52 ?_
      exact x_iretE rfl dX12_act_53 h
    · refine x_bipush (v := (-4 : Int32)) dX12_act_24 (by decide) ?_
      exact x_iretE rfl dX12_act_26 h
  · refine x_bipush (v := (-2 : Int32)) dX12_act_12 (by decide) ?_
    exact x_iretE rfl dX12_act_14 h
-- PressedMenModel sign (II)I
abbrev Y_X12_sign : ZM := (yX12_sign, cX12_sign, 3, (some .int), 1, 25)
theorem cw_X12_sign : z_CV Y_X12_sign 12 2 := ⟨⟨_, _, rfl⟩, by decide, q_1303, q_1304, q_1305, q_76, ⟨by decide, by decide⟩, rfl⟩
def f_X12_sign (n0 : Nat) (x1 : Int32) (x2 : Int32) (S : ZH) : Option (Int32 × ZH) :=
  (f_X12_in x1.toInt64 (0 : Int64) (((zI (zsI S 12 n0 0 (0 : Int32)) 12 n0 17) - (1 : Int32)).toInt64) (zsI S 12 n0 0 (0 : Int32))).bind fun q1 =>
  if ¬ q1 = 0 then (
    (f_X12_in x2.toInt64 (33 : Int64) (126 : Int64) (zsI S 12 n0 0 (0 : Int32))).bind fun q2 =>
    if ¬ q2 = 0 then (
      ((zR (zsI S 12 n0 0 (0 : Int32)) 12 n0 19)).bind fun a3 =>
      (zld (zsI S 12 n0 0 (0 : Int32)) 41 a3 x1).bind fun v4 =>
      if ¬ v4 = (60 : Int32) then (
        ((zR (zsI S 12 n0 0 (0 : Int32)) 12 n0 19)).bind fun a5 =>
        (zld (zsI S 12 n0 0 (0 : Int32)) 41 a5 x1).bind fun v6 =>
        ((zR (zsI S 12 n0 0 (0 : Int32)) 12 n0 20)).bind fun a7 =>
        (zst (zsI S 12 n0 0 (0 : Int32)) 42 a7 (((60 : Int32) * x1) + v6) x2).bind fun S8 =>
        ((zR S8 12 n0 19)).bind fun a9 =>
        (zld S8 41 a9 x1).bind fun v10 =>
        ((zR S8 12 n0 19)).bind fun a11 =>
        (zst S8 41 a11 x1 (v10 + (1 : Int32))).bind fun S12 =>
        ((zR S12 12 n0 19)).bind fun a13 =>
        (zld S12 41 a13 x1).bind fun v14 =>
        some (v14, S12)
      ) else (
        some ((-4 : Int32), (zsI S 12 n0 0 (0 : Int32)))
      )
    ) else (
      some ((-2 : Int32), (zsI S 12 n0 0 (0 : Int32)))
    )
  ) else (
    some ((-1 : Int32), (zsI S 12 n0 0 (0 : Int32)))
  )
set_option maxRecDepth 20000 in
set_option maxHeartbeats 1000000 in
theorem w_X12_sign {n0 : Nat} {x1 : Int32} {x2 : Int32} {S : ZH} {q : Int32 × ZH} (h : f_X12_sign n0 x1 x2 S = some q) : MetX Y_X12_sign S [z_r 12 (some n0), z_i x1, z_i x2] (some (z_i q.1)) q.2 := by
  refine MetX.of (lo := [(0, z_r 12 (some n0)), (1, z_i x1), (2, z_i x2)]) rfl (by decide) (Nat.le_of_ble_eq_true rfl) ?_
  unfold f_X12_sign at h
  refine x_aload_n 0 dX12_sign_0 rfl rfl ?_
  refine x_iconst (v := (0 : Int32)) dX12_sign_1 (by decide) ?_
  refine x_putI rfl ck_12 0 (by decide) rfl (Or.inl rfl) (by rfl) rfl q_1049 dX12_sign_2 ?_
  refine x_iload_n 1 dX12_sign_5 rfl rfl ?_
  refine x_i2l dX12_sign_6 ?_
  refine x_lconst (v := (0 : Int64)) dX12_sign_7 (by decide) ?_
  refine x_aload_n 0 dX12_sign_8 rfl rfl ?_
  refine x_getI rfl ck_12 17 (by decide) rfl q_1066 dX12_sign_9 ?_
  refine x_iconst (v := (1 : Int32)) dX12_sign_12 (by decide) ?_
  refine x_isub dX12_sign_13 ?_
  refine x_i2l dX12_sign_14 ?_
  refine z_bnd h (fun q1 hq1 h => ?_)
  refine x_callS1 (w_X12_in hq1) cw_X12_in q_1172 ⟨by decide, by decide⟩ (Nat.le_of_ble_eq_true rfl) dX12_sign_15 rfl ?_
  refine x_if_ne (tgt := 23) dX12_sign_18 (by decide) h (fun h => ?_) (fun h => ?_)
  · refine x_iload_n 2 dX12_sign_23 rfl rfl ?_
    refine x_i2l dX12_sign_24 ?_
    refine x_ldc2 dX12_sign_25 q_1306.1 ?_
    refine x_ldc2 dX12_sign_28 q_1307.1 ?_
    refine z_bnd h (fun q2 hq2 h => ?_)
    refine x_callS1 (w_X12_in hq2) cw_X12_in q_1172 ⟨by decide, by decide⟩ (Nat.le_of_ble_eq_true rfl) dX12_sign_31 rfl ?_
    refine x_if_ne (tgt := 40) dX12_sign_34 (by decide) h (fun h => ?_) (fun h => ?_)
    · refine x_aload_n 0 dX12_sign_40 rfl rfl ?_
      refine x_getR rfl ck_12 19 (by decide) rfl q_1068 dX12_sign_41 ?_
      refine x_iload_n 1 dX12_sign_44 rfl rfl ?_
      refine z_bnd h (fun a3 ha3 h => ?_)
      refine x_iaload ha3 ak_41 dX12_sign_45 h (fun v4 hv4 h => ?_)
      refine x_bipush (v := (60 : Int32)) dX12_sign_46 (by decide) ?_
      refine x_ic_ne (tgt := 54) dX12_sign_48 (by decide) h (fun h => ?_) (fun h => ?_)
      · refine x_aload_n 0 dX12_sign_54 rfl rfl ?_
        refine x_getR rfl ck_12 20 (by decide) rfl q_1069 dX12_sign_55 ?_
        refine x_bipush (v := (60 : Int32)) dX12_sign_58 (by decide) ?_
        refine x_iload_n 1 dX12_sign_60 rfl rfl ?_
        refine x_imul dX12_sign_61 ?_
        refine x_aload_n 0 dX12_sign_62 rfl rfl ?_
        refine x_getR rfl ck_12 19 (by decide) rfl q_1068 dX12_sign_63 ?_
        refine x_iload_n 1 dX12_sign_66 rfl rfl ?_
        refine z_bnd h (fun a5 ha5 h => ?_)
        refine x_iaload ha5 ak_41 dX12_sign_67 h (fun v6 hv6 h => ?_)
        refine x_iadd dX12_sign_68 ?_
        refine x_iload_n 2 dX12_sign_69 rfl rfl ?_
        refine z_bnd h (fun a7 ha7 h => ?_)
        refine x_iastore ha7 ak_42 dX12_sign_70 h (fun S8 hS8 h => ?_)
        refine x_aload_n 0 dX12_sign_71 rfl rfl ?_
        refine x_getR rfl ck_12 19 (by decide) rfl q_1068 dX12_sign_72 ?_
        refine x_iload_n 1 dX12_sign_75 rfl rfl ?_
        refine x_dup2 dX12_sign_76 rfl rfl ?_
        refine z_bnd h (fun a9 ha9 h => ?_)
        refine x_iaload ha9 ak_41 dX12_sign_77 h (fun v10 hv10 h => ?_)
        refine x_iconst (v := (1 : Int32)) dX12_sign_78 (by decide) ?_
        refine x_iadd dX12_sign_79 ?_
        refine z_bnd h (fun a11 ha11 h => ?_)
        refine x_iastore ha11 ak_41 dX12_sign_80 h (fun S12 hS12 h => ?_)
        refine x_aload_n 0 dX12_sign_81 rfl rfl ?_
        refine x_getR rfl ck_12 19 (by decide) rfl q_1068 dX12_sign_82 ?_
        refine x_iload_n 1 dX12_sign_85 rfl rfl ?_
        refine z_bnd h (fun a13 ha13 h => ?_)
        refine x_iaload ha13 ak_41 dX12_sign_86 h (fun v14 hv14 h => ?_)
        exact x_iretE rfl dX12_sign_87 h
      · refine x_bipush (v := (-4 : Int32)) dX12_sign_51 (by decide) ?_
        exact x_iretE rfl dX12_sign_53 h
    · refine x_bipush (v := (-2 : Int32)) dX12_sign_37 (by decide) ?_
      exact x_iretE rfl dX12_sign_39 h
  · refine x_iconst (v := (-1 : Int32)) dX12_sign_21 (by decide) ?_
    exact x_iretE rfl dX12_sign_22 h
-- PressedMenModel hasDigits (I)Z
abbrev Y_X12_hasDigits : ZM := (yX12_hasDigits, cX12_hasDigits, 1, (some .boolean), 0, 0)
theorem cw_X12_hasDigits : z_CS Y_X12_hasDigits 1 := ⟨q_1319, q_1320, q_76, ⟨by decide, by decide⟩, rfl⟩
def f_X12_hasDigits (x0 : Int32) (S : ZH) : Option (Int32) :=
  if x0 = (97 : Int32) then (
    some (1 : Int32)
  ) else (
    if x0 = (65 : Int32) then (
      some (1 : Int32)
    ) else (
      if x0 = (121 : Int32) then (
        some (1 : Int32)
      ) else (
        if x0 = (89 : Int32) then (
          some (1 : Int32)
        ) else (
          if ¬ x0 = (116 : Int32) then (
            some (0 : Int32)
          ) else (
            some (1 : Int32)
          )
        )
      )
    )
  )
set_option maxRecDepth 20000 in
set_option maxHeartbeats 1000000 in
theorem w_X12_hasDigits {x0 : Int32} {S : ZH} {q : Int32} (h : f_X12_hasDigits x0 S = some q) : MetX Y_X12_hasDigits S [z_i x0] (some (z_i q)) S := by
  refine MetX.of (lo := [(0, z_i x0)]) rfl (by decide) (Nat.le_of_ble_eq_true rfl) ?_
  unfold f_X12_hasDigits at h
  refine x_iload_n 0 dX12_hasDigits_0 rfl rfl ?_
  refine x_bipush (v := (97 : Int32)) dX12_hasDigits_1 (by decide) ?_
  refine x_ic_eq (tgt := 30) dX12_hasDigits_3 (by decide) h (fun h => ?_) (fun h => ?_)
  · refine x_iconst (v := (1 : Int32)) dX12_hasDigits_30 (by decide) ?_
    refine x_goto (tgt := 35) dX12_hasDigits_31 (by decide) ?_
    exact x_zretC rfl (by decide) dX12_hasDigits_35 h
  · refine x_iload_n 0 dX12_hasDigits_6 rfl rfl ?_
    refine x_bipush (v := (65 : Int32)) dX12_hasDigits_7 (by decide) ?_
    refine x_ic_eq (tgt := 30) dX12_hasDigits_9 (by decide) h (fun h => ?_) (fun h => ?_)
    · refine x_iconst (v := (1 : Int32)) dX12_hasDigits_30 (by decide) ?_
      refine x_goto (tgt := 35) dX12_hasDigits_31 (by decide) ?_
      exact x_zretC rfl (by decide) dX12_hasDigits_35 h
    · refine x_iload_n 0 dX12_hasDigits_12 rfl rfl ?_
      refine x_bipush (v := (121 : Int32)) dX12_hasDigits_13 (by decide) ?_
      refine x_ic_eq (tgt := 30) dX12_hasDigits_15 (by decide) h (fun h => ?_) (fun h => ?_)
      · refine x_iconst (v := (1 : Int32)) dX12_hasDigits_30 (by decide) ?_
        refine x_goto (tgt := 35) dX12_hasDigits_31 (by decide) ?_
        exact x_zretC rfl (by decide) dX12_hasDigits_35 h
      · refine x_iload_n 0 dX12_hasDigits_18 rfl rfl ?_
        refine x_bipush (v := (89 : Int32)) dX12_hasDigits_19 (by decide) ?_
        refine x_ic_eq (tgt := 30) dX12_hasDigits_21 (by decide) h (fun h => ?_) (fun h => ?_)
        · refine x_iconst (v := (1 : Int32)) dX12_hasDigits_30 (by decide) ?_
          refine x_goto (tgt := 35) dX12_hasDigits_31 (by decide) ?_
          exact x_zretC rfl (by decide) dX12_hasDigits_35 h
        · refine x_iload_n 0 dX12_hasDigits_24 rfl rfl ?_
          refine x_bipush (v := (116 : Int32)) dX12_hasDigits_25 (by decide) ?_
          refine x_ic_ne (tgt := 34) dX12_hasDigits_27 (by decide) h (fun h => ?_) (fun h => ?_)
          · refine x_iconst (v := (0 : Int32)) dX12_hasDigits_34 (by decide) ?_
            exact x_zretC rfl (by decide) dX12_hasDigits_35 h
          · refine x_iconst (v := (1 : Int32)) dX12_hasDigits_30 (by decide) ?_
            refine x_goto (tgt := 35) dX12_hasDigits_31 (by decide) ?_
            exact x_zretC rfl (by decide) dX12_hasDigits_35 h
-- PressedMenModel faultOf (I)I
abbrev Y_X12_faultOf : ZM := (yX12_faultOf, cX12_faultOf, 6, (some .int), 1, 25)
theorem cw_X12_faultOf : z_CV Y_X12_faultOf 12 1 := ⟨⟨_, _, rfl⟩, by decide, q_1314, q_52, q_1315, q_76, ⟨by decide, by decide⟩, rfl⟩
def b_X12_faultOf_7 (n0 : Nat) (x1 : Int32) (S : ZH) (v : Int32 × Int32 × Int32) : Option ((Int32 × Int32 × Int32) ⊕ ((Int32 × Int32) ⊕ (Int32))) :=
  ((zR S 12 n0 19)).bind fun a1 =>
  (zld S 41 a1 x1).bind fun v2 =>
  if v2 ≤ v.2.2 then (
    some (Sum.inr (Sum.inl (v.1, v.2.1)))
  ) else (
    ((zR S 12 n0 20)).bind fun a3 =>
    (zld S 42 a3 (((60 : Int32) * x1) + v.2.2)).bind fun v4 =>
    if v.2.1 ≤ 0 then (
      if ¬ v.1 = 0 then (
        if v4 = (38 : Int32) then (
          some (Sum.inl ((v.1 + 1), v.2.1, (v.2.2 + 1)))
        ) else (
          if ¬ v4 = (124 : Int32) then (
            (f_X12_hasDigits v4 S).bind fun q5 =>
            if q5 = 0 then (
              if v4 = (112 : Int32) then (
                some (Sum.inl ((v.1 + (-1)), v.2.1, (v.2.2 + 1)))
              ) else (
                if v4 = (115 : Int32) then (
                  some (Sum.inl ((v.1 + (-1)), v.2.1, (v.2.2 + 1)))
                ) else (
                  if ¬ v4 = (104 : Int32) then (
                    if v4 = (33 : Int32) then (
                      some (Sum.inl (v.1, v.2.1, (v.2.2 + 1)))
                    ) else (
                      some (Sum.inr (Sum.inr v.2.2))
                    )
                  ) else (
                    some (Sum.inl ((v.1 + (-1)), v.2.1, (v.2.2 + 1)))
                  )
                )
              )
            ) else (
              some (Sum.inl ((v.1 + (-1)), (2 : Int32), (v.2.2 + 1)))
            )
          ) else (
            some (Sum.inl ((v.1 + 1), v.2.1, (v.2.2 + 1)))
          )
        )
      ) else (
        some (Sum.inr (Sum.inr v.2.2))
      )
    ) else (
      (f_X12_in v4.toInt64 (48 : Int64) (57 : Int64) S).bind fun q6 =>
      if ¬ q6 = 0 then (
        some (Sum.inl (v.1, (v.2.1 + (-1)), (v.2.2 + 1)))
      ) else (
        some (Sum.inr (Sum.inr v.2.2))
      )
    )
  )
def f_X12_faultOf (n0 : Nat) (x1 : Int32) (S : ZH) : Option (Int32) :=
  (z_iter zFU (b_X12_faultOf_7 n0 x1 S) ((1 : Int32), (0 : Int32), (0 : Int32))).bind fun t7 =>
  Sum.elim (fun t =>
    if ¬ t.1 = 0 then (
      ((zR S 12 n0 19)).bind fun a8 =>
      (zld S 41 a8 x1).bind fun v9 =>
      some v9
    ) else (
      if ¬ t.2 = 0 then (
        ((zR S 12 n0 19)).bind fun a10 =>
        (zld S 41 a10 x1).bind fun v11 =>
        some v11
      ) else (
        some (-9 : Int32)
      )
    )
  ) (fun q => some q) t7
set_option maxRecDepth 20000 in
theorem l_X12_faultOf_7 {S0 : ZH} {F : ZP} {n0 : Nat} {x1 : Int32} {S : ZH} {v : Int32 × Int32 × Int32} {t : (Int32 × Int32) ⊕ (Int32)} (h : z_iter zFU (b_X12_faultOf_7 n0 x1 S) v = some t) (k : (Sum.elim (fun t => Wp Y_X12_faultOf S0 F 146 [(0, z_r 12 (some n0)), (1, z_i x1), (2, z_i t.1), (3, z_i t.2)] [] S) (fun q => F = zF S0 (some (z_i q)) S)) t) : Wp Y_X12_faultOf S0 F 7 [(0, z_r 12 (some n0)), (1, z_i x1), (2, z_i v.1), (3, z_i v.2.1), (4, z_i v.2.2)] [] S := by
  refine z_iter_P (P := fun v : Int32 × Int32 × Int32 => Wp Y_X12_faultOf S0 F 7 [(0, z_r 12 (some n0)), (1, z_i x1), (2, z_i v.1), (3, z_i v.2.1), (4, z_i v.2.2)] [] S) (X := (Sum.elim (fun t => Wp Y_X12_faultOf S0 F 146 [(0, z_r 12 (some n0)), (1, z_i x1), (2, z_i t.1), (3, z_i t.2)] [] S) (fun q => F = zF S0 (some (z_i q)) S))) ?_ _ _ _ h k
  clear h k v t
  intro v r h k
  unfold b_X12_faultOf_7 at h
  refine x_iload 4 dX12_faultOf_7 rfl ?_
  refine x_aload_n 0 dX12_faultOf_9 rfl rfl ?_
  refine x_getR rfl ck_12 19 (by decide) rfl q_1068 dX12_faultOf_10 ?_
  refine x_iload_n 1 dX12_faultOf_13 rfl rfl ?_
  refine z_bnd h (fun a1 ha1 h => ?_)
  refine x_iaload ha1 ak_41 dX12_faultOf_14 h (fun v2 hv2 h => ?_)
  refine x_ic_ge (tgt := 146) dX12_faultOf_15 (by decide) h (fun h => ?_) (fun h => ?_)
  · cases h
    exact x_lo [0, 1, 2, 3] rfl k
  · refine x_aload_n 0 dX12_faultOf_18 rfl rfl ?_
    refine x_getR rfl ck_12 20 (by decide) rfl q_1069 dX12_faultOf_19 ?_
    refine x_bipush (v := (60 : Int32)) dX12_faultOf_22 (by decide) ?_
    refine x_iload_n 1 dX12_faultOf_24 rfl rfl ?_
    refine x_imul dX12_faultOf_25 ?_
    refine x_iload 4 dX12_faultOf_26 rfl ?_
    refine x_iadd dX12_faultOf_28 ?_
    refine z_bnd h (fun a3 ha3 h => ?_)
    refine x_iaload ha3 ak_42 dX12_faultOf_29 h (fun v4 hv4 h => ?_)
    refine x_istore (lo' := [(5, z_i v4), (0, z_r 12 (some n0)), (1, z_i x1), (2, z_i v.1), (3, z_i v.2.1), (4, z_i v.2.2)]) dX12_faultOf_30 (by decide) rfl ?_
    refine x_iload_n 4 dX12_faultOf_32 rfl rfl ?_
    refine x_if_le (tgt := 60) dX12_faultOf_33 (by decide) h (fun h => ?_) (fun h => ?_)
    · refine x_iload_n 3 dX12_faultOf_60 rfl rfl ?_
      refine x_if_ne (tgt := 67) dX12_faultOf_61 (by decide) h (fun h => ?_) (fun h => ?_)
      · refine x_iload 0 dX12_faultOf_67 rfl ?_
        refine x_bipush (v := (38 : Int32)) dX12_faultOf_69 (by decide) ?_
        refine x_ic_eq (tgt := 81) dX12_faultOf_71 (by decide) h (fun h => ?_) (fun h => ?_)
        · refine x_iinc (v := (v.1 + 1)) (lo' := [(2, z_i (v.1 + 1)), (5, z_i v4), (0, z_r 12 (some n0)), (1, z_i x1), (3, z_i v.2.1), (4, z_i v.2.2)]) 3 dX12_faultOf_81 rfl (congrArg (HAdd.hAdd v.1) (by decide)) (by decide) rfl ?_
          refine x_goto (tgt := 140) dX12_faultOf_84 (by decide) ?_
          refine x_iinc (v := (v.2.2 + 1)) (lo' := [(4, z_i (v.2.2 + 1)), (2, z_i (v.1 + 1)), (5, z_i v4), (0, z_r 12 (some n0)), (1, z_i x1), (3, z_i v.2.1)]) 5 dX12_faultOf_140 rfl (congrArg (HAdd.hAdd v.2.2) (by decide)) (by decide) rfl ?_
          refine x_goto (tgt := 7) dX12_faultOf_143 (by decide) ?_
          cases h
          exact x_lo [3, 4, 1, 5, 0] rfl k
        · refine x_iload 0 dX12_faultOf_74 rfl ?_
          refine x_bipush (v := (124 : Int32)) dX12_faultOf_76 (by decide) ?_
          refine x_ic_ne (tgt := 87) dX12_faultOf_78 (by decide) h (fun h => ?_) (fun h => ?_)
          · refine x_iload 0 dX12_faultOf_87 rfl ?_
            refine z_bnd h (fun q5 hq5 h => ?_)
            refine x_callS1 (w_X12_hasDigits hq5) cw_X12_hasDigits q_1318 ⟨by decide, by decide⟩ (Nat.le_of_ble_eq_true rfl) dX12_faultOf_89 rfl ?_
            refine x_if_eq (tgt := 103) dX12_faultOf_92 (by decide) h (fun h => ?_) (fun h => ?_)
            · refine x_iload 0 dX12_faultOf_103 rfl ?_
              refine x_bipush (v := (112 : Int32)) dX12_faultOf_105 (by decide) ?_
              refine x_ic_eq (tgt := 124) dX12_faultOf_107 (by decide) h (fun h => ?_) (fun h => ?_)
              · refine x_iinc (v := (v.1 + (-1))) (lo' := [(2, z_i (v.1 + (-1))), (5, z_i v4), (0, z_r 12 (some n0)), (1, z_i x1), (3, z_i v.2.1), (4, z_i v.2.2)]) 3 dX12_faultOf_124 rfl (congrArg (HAdd.hAdd v.1) (by decide)) (by decide) rfl ?_
                refine x_goto (tgt := 140) dX12_faultOf_127 (by decide) ?_
                refine x_iinc (v := (v.2.2 + 1)) (lo' := [(4, z_i (v.2.2 + 1)), (2, z_i (v.1 + (-1))), (5, z_i v4), (0, z_r 12 (some n0)), (1, z_i x1), (3, z_i v.2.1)]) 5 dX12_faultOf_140 rfl (congrArg (HAdd.hAdd v.2.2) (by decide)) (by decide) rfl ?_
                refine x_goto (tgt := 7) dX12_faultOf_143 (by decide) ?_
                cases h
                exact x_lo [3, 4, 1, 5, 0] rfl k
              · refine x_iload 0 dX12_faultOf_110 rfl ?_
                refine x_bipush (v := (115 : Int32)) dX12_faultOf_112 (by decide) ?_
                refine x_ic_eq (tgt := 124) dX12_faultOf_114 (by decide) h (fun h => ?_) (fun h => ?_)
                · refine x_iinc (v := (v.1 + (-1))) (lo' := [(2, z_i (v.1 + (-1))), (5, z_i v4), (0, z_r 12 (some n0)), (1, z_i x1), (3, z_i v.2.1), (4, z_i v.2.2)]) 3 dX12_faultOf_124 rfl (congrArg (HAdd.hAdd v.1) (by decide)) (by decide) rfl ?_
                  refine x_goto (tgt := 140) dX12_faultOf_127 (by decide) ?_
                  refine x_iinc (v := (v.2.2 + 1)) (lo' := [(4, z_i (v.2.2 + 1)), (2, z_i (v.1 + (-1))), (5, z_i v4), (0, z_r 12 (some n0)), (1, z_i x1), (3, z_i v.2.1)]) 5 dX12_faultOf_140 rfl (congrArg (HAdd.hAdd v.2.2) (by decide)) (by decide) rfl ?_
                  refine x_goto (tgt := 7) dX12_faultOf_143 (by decide) ?_
                  cases h
                  exact x_lo [3, 4, 1, 5, 0] rfl k
                · refine x_iload 0 dX12_faultOf_117 rfl ?_
                  refine x_bipush (v := (104 : Int32)) dX12_faultOf_119 (by decide) ?_
                  refine x_ic_ne (tgt := 130) dX12_faultOf_121 (by decide) h (fun h => ?_) (fun h => ?_)
                  · refine x_iload 0 dX12_faultOf_130 rfl ?_
                    refine x_bipush (v := (33 : Int32)) dX12_faultOf_132 (by decide) ?_
                    refine x_ic_eq (tgt := 140) dX12_faultOf_134 (by decide) h (fun h => ?_) (fun h => ?_)
                    · refine x_iinc (v := (v.2.2 + 1)) (lo' := [(4, z_i (v.2.2 + 1)), (5, z_i v4), (0, z_r 12 (some n0)), (1, z_i x1), (2, z_i v.1), (3, z_i v.2.1)]) 5 dX12_faultOf_140 rfl (congrArg (HAdd.hAdd v.2.2) (by decide)) (by decide) rfl ?_
                      refine x_goto (tgt := 7) dX12_faultOf_143 (by decide) ?_
                      cases h
                      exact x_lo [2, 3, 4, 5, 0] rfl k
                    · refine x_iload 5 dX12_faultOf_137 rfl ?_
                      cases h
                      have k : F = zF S0 (some (z_i v.2.2)) S := k
                      subst k
                      exact x_iret0 rfl dX12_faultOf_139
                  · refine x_iinc (v := (v.1 + (-1))) (lo' := [(2, z_i (v.1 + (-1))), (5, z_i v4), (0, z_r 12 (some n0)), (1, z_i x1), (3, z_i v.2.1), (4, z_i v.2.2)]) 3 dX12_faultOf_124 rfl (congrArg (HAdd.hAdd v.1) (by decide)) (by decide) rfl ?_
                    refine x_goto (tgt := 140) dX12_faultOf_127 (by decide) ?_
                    refine x_iinc (v := (v.2.2 + 1)) (lo' := [(4, z_i (v.2.2 + 1)), (2, z_i (v.1 + (-1))), (5, z_i v4), (0, z_r 12 (some n0)), (1, z_i x1), (3, z_i v.2.1)]) 5 dX12_faultOf_140 rfl (congrArg (HAdd.hAdd v.2.2) (by decide)) (by decide) rfl ?_
                    refine x_goto (tgt := 7) dX12_faultOf_143 (by decide) ?_
                    cases h
                    exact x_lo [3, 4, 1, 5, 0] rfl k
            · refine x_iinc (v := (v.1 + (-1))) (lo' := [(2, z_i (v.1 + (-1))), (5, z_i v4), (0, z_r 12 (some n0)), (1, z_i x1), (3, z_i v.2.1), (4, z_i v.2.2)]) 3 dX12_faultOf_95 rfl (congrArg (HAdd.hAdd v.1) (by decide)) (by decide) rfl ?_
              refine x_iconst (v := (2 : Int32)) dX12_faultOf_98 (by decide) ?_
              refine x_istore_n (lo' := [(3, z_i (2 : Int32)), (2, z_i (v.1 + (-1))), (5, z_i v4), (0, z_r 12 (some n0)), (1, z_i x1), (4, z_i v.2.2)]) dX12_faultOf_99 rfl (by decide) rfl ?_
              refine x_goto (tgt := 140) dX12_faultOf_100 (by decide) ?_
              refine x_iinc (v := (v.2.2 + 1)) (lo' := [(4, z_i (v.2.2 + 1)), (3, z_i (2 : Int32)), (2, z_i (v.1 + (-1))), (5, z_i v4), (0, z_r 12 (some n0)), (1, z_i x1)]) 5 dX12_faultOf_140 rfl (congrArg (HAdd.hAdd v.2.2) (by decide)) (by decide) rfl ?_
              refine x_goto (tgt := 7) dX12_faultOf_143 (by decide) ?_
              cases h
              exact x_lo [4, 5, 2, 1, 0] rfl k
          · refine x_iinc (v := (v.1 + 1)) (lo' := [(2, z_i (v.1 + 1)), (5, z_i v4), (0, z_r 12 (some n0)), (1, z_i x1), (3, z_i v.2.1), (4, z_i v.2.2)]) 3 dX12_faultOf_81 rfl (congrArg (HAdd.hAdd v.1) (by decide)) (by decide) rfl ?_
            refine x_goto (tgt := 140) dX12_faultOf_84 (by decide) ?_
            refine x_iinc (v := (v.2.2 + 1)) (lo' := [(4, z_i (v.2.2 + 1)), (2, z_i (v.1 + 1)), (5, z_i v4), (0, z_r 12 (some n0)), (1, z_i x1), (3, z_i v.2.1)]) 5 dX12_faultOf_140 rfl (congrArg (HAdd.hAdd v.2.2) (by decide)) (by decide) rfl ?_
            refine x_goto (tgt := 7) dX12_faultOf_143 (by decide) ?_
            cases h
            exact x_lo [3, 4, 1, 5, 0] rfl k
      · refine x_iload 5 dX12_faultOf_64 rfl ?_
        cases h
        have k : F = zF S0 (some (z_i v.2.2)) S := k
        subst k
        exact x_iret0 rfl dX12_faultOf_66
    · refine x_iload 0 dX12_faultOf_36 rfl ?_
      refine x_i2l dX12_faultOf_38 ?_
      refine x_ldc2 dX12_faultOf_39 q_1316.1 ?_
      refine x_ldc2 dX12_faultOf_42 q_1317.1 ?_
      refine z_bnd h (fun q6 hq6 h => ?_)
      refine x_callS1 (w_X12_in hq6) cw_X12_in q_1172 ⟨by decide, by decide⟩ (Nat.le_of_ble_eq_true rfl) dX12_faultOf_45 rfl ?_
      refine x_if_ne (tgt := 54) dX12_faultOf_48 (by decide) h (fun h => ?_) (fun h => ?_)
      · refine x_iinc (v := (v.2.1 + (-1))) (lo' := [(3, z_i (v.2.1 + (-1))), (5, z_i v4), (0, z_r 12 (some n0)), (1, z_i x1), (2, z_i v.1), (4, z_i v.2.2)]) 4 dX12_faultOf_54 rfl (congrArg (HAdd.hAdd v.2.1) (by decide)) (by decide) rfl ?_
        refine x_goto (tgt := 140) dX12_faultOf_57 (by decide) ?_
        refine x_iinc (v := (v.2.2 + 1)) (lo' := [(4, z_i (v.2.2 + 1)), (3, z_i (v.2.1 + (-1))), (5, z_i v4), (0, z_r 12 (some n0)), (1, z_i x1), (2, z_i v.1)]) 5 dX12_faultOf_140 rfl (congrArg (HAdd.hAdd v.2.2) (by decide)) (by decide) rfl ?_
        refine x_goto (tgt := 7) dX12_faultOf_143 (by decide) ?_
        cases h
        exact x_lo [3, 4, 5, 1, 0] rfl k
      · refine x_iload 5 dX12_faultOf_51 rfl ?_
        cases h
        have k : F = zF S0 (some (z_i v.2.2)) S := k
        subst k
        exact x_iret0 rfl dX12_faultOf_53
set_option maxRecDepth 20000 in
set_option maxHeartbeats 1000000 in
theorem w_X12_faultOf {n0 : Nat} {x1 : Int32} {S : ZH} {q : Int32} (h : f_X12_faultOf n0 x1 S = some q) : MetX Y_X12_faultOf S [z_r 12 (some n0), z_i x1] (some (z_i q)) S := by
  refine MetX.of (lo := [(0, z_r 12 (some n0)), (1, z_i x1)]) rfl (by decide) (Nat.le_of_ble_eq_true rfl) ?_
  unfold f_X12_faultOf at h
  refine x_iconst (v := (1 : Int32)) dX12_faultOf_0 (by decide) ?_
  refine x_istore_n (lo' := [(2, z_i (1 : Int32)), (0, z_r 12 (some n0)), (1, z_i x1)]) dX12_faultOf_1 rfl (by decide) rfl ?_
  refine x_iconst (v := (0 : Int32)) dX12_faultOf_2 (by decide) ?_
  refine x_istore_n (lo' := [(3, z_i (0 : Int32)), (2, z_i (1 : Int32)), (0, z_r 12 (some n0)), (1, z_i x1)]) dX12_faultOf_3 rfl (by decide) rfl ?_
  refine x_iconst (v := (0 : Int32)) dX12_faultOf_4 (by decide) ?_
  refine x_istore (lo' := [(4, z_i (0 : Int32)), (3, z_i (0 : Int32)), (2, z_i (1 : Int32)), (0, z_r 12 (some n0)), (1, z_i x1)]) dX12_faultOf_5 (by decide) rfl ?_
  refine z_bnd h (fun t7 ht7 h => ?_)
  refine x_lo [3, 4, 2, 1, 0] rfl ?_
  refine l_X12_faultOf_7 ht7 ?_
  rcases t7 with t | q
  · have h := (show _ = some _ from h)
    simp only [Sum.elim_inl] at h ⊢
    refine x_iload_n 2 dX12_faultOf_146 rfl rfl ?_
    refine x_if_ne (tgt := 159) dX12_faultOf_147 (by decide) h (fun h => ?_) (fun h => ?_)
    · refine x_aload_n 0 dX12_faultOf_159 rfl rfl ?_
      refine x_getR rfl ck_12 19 (by decide) rfl q_1068 dX12_faultOf_160 ?_
      refine x_iload_n 1 dX12_faultOf_163 rfl rfl ?_
      refine z_bnd h (fun a8 ha8 h => ?_)
      refine x_iaload ha8 ak_41 dX12_faultOf_164 h (fun v9 hv9 h => ?_)
      exact x_iret rfl dX12_faultOf_165 h
    · refine x_iload_n 3 dX12_faultOf_150 rfl rfl ?_
      refine x_if_ne (tgt := 159) dX12_faultOf_151 (by decide) h (fun h => ?_) (fun h => ?_)
      · refine x_aload_n 0 dX12_faultOf_159 rfl rfl ?_
        refine x_getR rfl ck_12 19 (by decide) rfl q_1068 dX12_faultOf_160 ?_
        refine x_iload_n 1 dX12_faultOf_163 rfl rfl ?_
        refine z_bnd h (fun a10 ha10 h => ?_)
        refine x_iaload ha10 ak_41 dX12_faultOf_164 h (fun v11 hv11 h => ?_)
        exact x_iret rfl dX12_faultOf_165 h
      · refine x_bipush (v := (-9 : Int32)) dX12_faultOf_154 (by decide) ?_
        refine x_goto (tgt := 165) dX12_faultOf_156 (by decide) ?_
        exact x_iret rfl dX12_faultOf_165 h
  · simp only [Sum.elim_inr] at h ⊢
    cases h
    rfl
-- PressedMenModel fault (I)I
abbrev Y_X12_fault : ZM := (yX12_fault, cX12_fault, 2, (some .int), 2, 50)
theorem cw_X12_fault : z_CV Y_X12_fault 12 1 := ⟨⟨_, _, rfl⟩, by decide, q_1309, q_1310, q_1311, q_76, ⟨by decide, by decide⟩, rfl⟩
def f_X12_fault (n0 : Nat) (x1 : Int32) (S : ZH) : Option (Int32 × ZH) :=
  (f_X12_in x1.toInt64 (0 : Int64) (((zI (zsI S 12 n0 0 (0 : Int32)) 12 n0 17) - (1 : Int32)).toInt64) (zsI S 12 n0 0 (0 : Int32))).bind fun q1 =>
  if q1 = 0 then (
    some ((-1 : Int32), (zsI S 12 n0 0 (0 : Int32)))
  ) else (
    (f_X12_faultOf n0 x1 (zsI S 12 n0 0 (0 : Int32))).bind fun q2 =>
    some (q2, (zsI S 12 n0 0 (0 : Int32)))
  )
set_option maxRecDepth 20000 in
set_option maxHeartbeats 1000000 in
theorem w_X12_fault {n0 : Nat} {x1 : Int32} {S : ZH} {q : Int32 × ZH} (h : f_X12_fault n0 x1 S = some q) : MetX Y_X12_fault S [z_r 12 (some n0), z_i x1] (some (z_i q.1)) q.2 := by
  refine MetX.of (lo := [(0, z_r 12 (some n0)), (1, z_i x1)]) rfl (by decide) (Nat.le_of_ble_eq_true rfl) ?_
  unfold f_X12_fault at h
  refine x_aload_n 0 dX12_fault_0 rfl rfl ?_
  refine x_iconst (v := (0 : Int32)) dX12_fault_1 (by decide) ?_
  refine x_putI rfl ck_12 0 (by decide) rfl (Or.inl rfl) (by rfl) rfl q_1049 dX12_fault_2 ?_
  refine x_iload_n 1 dX12_fault_5 rfl rfl ?_
  refine x_i2l dX12_fault_6 ?_
  refine x_lconst (v := (0 : Int64)) dX12_fault_7 (by decide) ?_
  refine x_aload_n 0 dX12_fault_8 rfl rfl ?_
  refine x_getI rfl ck_12 17 (by decide) rfl q_1066 dX12_fault_9 ?_
  refine x_iconst (v := (1 : Int32)) dX12_fault_12 (by decide) ?_
  refine x_isub dX12_fault_13 ?_
  refine x_i2l dX12_fault_14 ?_
  refine z_bnd h (fun q1 hq1 h => ?_)
  refine x_callS1 (w_X12_in hq1) cw_X12_in q_1172 ⟨by decide, by decide⟩ (Nat.le_of_ble_eq_true rfl) dX12_fault_15 rfl ?_
  refine x_if_eq (tgt := 29) dX12_fault_18 (by decide) h (fun h => ?_) (fun h => ?_)
  · refine x_iconst (v := (-1 : Int32)) dX12_fault_29 (by decide) ?_
    exact x_iretE rfl dX12_fault_30 h
  · refine x_aload_n 0 dX12_fault_21 rfl rfl ?_
    refine x_iload_n 1 dX12_fault_22 rfl rfl ?_
    refine z_bnd h (fun q2 hq2 h => ?_)
    refine x_callV1 rfl (w_X12_faultOf hq2) cw_X12_faultOf q_1312 ⟨by decide, by decide⟩ (Nat.le_of_ble_eq_true rfl) dX12_fault_23 rfl ?_
    refine x_goto (tgt := 30) dX12_fault_26 (by decide) ?_
    exact x_iretE rfl dX12_fault_30 h
-- PressedMenModel forceOf (I)I
abbrev Y_X12_forceOf : ZM := (yX12_forceOf, cX12_forceOf, 5, (some .int), 2, 50)
theorem cw_X12_forceOf : z_CV Y_X12_forceOf 12 1 := ⟨⟨_, _, rfl⟩, by decide, q_1327, q_53, q_1328, q_76, ⟨by decide, by decide⟩, rfl⟩
def j_X12_forceOf_38 (n0 : Nat) (x1 : Int32) (x2 : Int32) (x3 : Int32) (s0 : Int32) (S : ZH) : Option ((Int32 × Int32) ⊕ (Int32)) :=
  if s0 = 0 then (
    some (Sum.inl (x2, (x3 + 1)))
  ) else (
    if x2 = (-9 : Int32) then (
      some (Sum.inl (x3, (x3 + 1)))
    ) else (
      ((zR S 12 n0 18)).bind fun a3 =>
      (zld S 40 a3 x3).bind fun v4 =>
      ((zR S 12 n0 18)).bind fun a5 =>
      (zld S 40 a5 x2).bind fun v6 =>
      if v4 < v6 then (
        some (Sum.inl (x2, (x3 + 1)))
      ) else (
        some (Sum.inl (x3, (x3 + 1)))
      )
    )
  )
def j_X12_forceOf_37 (n0 : Nat) (x1 : Int32) (x2 : Int32) (x3 : Int32)  (S : ZH) : Option ((Int32 × Int32) ⊕ (Int32)) :=
  j_X12_forceOf_38 n0 x1 x2 x3 (0 : Int32) S
def b_X12_forceOf_5 (n0 : Nat) (x1 : Int32) (S : ZH) (v : Int32 × Int32) : Option ((Int32 × Int32) ⊕ (Int32)) :=
  if (zI S 12 n0 17) ≤ v.2 then (
    some (Sum.inr v.1)
  ) else (
    ((zR S 12 n0 18)).bind fun a1 =>
    (zld S 40 a1 v.2).bind fun v2 =>
    if x1 < v2 then (
      j_X12_forceOf_37 n0 x1 v.1 v.2 S
    ) else (
      (f_X12_faultOf n0 v.2 S).bind fun q7 =>
      if ¬ q7 = (-9 : Int32) then (
        j_X12_forceOf_37 n0 x1 v.1 v.2 S
      ) else (
        j_X12_forceOf_38 n0 x1 v.1 v.2 (1 : Int32) S
      )
    )
  )
def f_X12_forceOf (n0 : Nat) (x1 : Int32) (S : ZH) : Option (Int32) :=
  (z_iter zFU (b_X12_forceOf_5 n0 x1 S) ((-9 : Int32), (0 : Int32))).bind fun t8 =>
  some t8
set_option maxRecDepth 20000 in
theorem k_X12_forceOf_38 {S0 : ZH} {F : ZP} {n0 : Nat} {x1 : Int32} {x2 : Int32} {x3 : Int32} {s0 : Int32}  {S : ZH} {z : (Int32 × Int32) ⊕ (Int32)} (h : j_X12_forceOf_38 n0 x1 x2 x3 s0 S = some z) (k : Sum.elim (fun v : Int32 × Int32 => Wp Y_X12_forceOf S0 F 5 [(0, z_r 12 (some n0)), (1, z_i x1), (2, z_i v.1), (3, z_i v.2)] [] S) (fun t => Wp Y_X12_forceOf S0 F 78 [(2, z_i t)] [] S) z) : Wp Y_X12_forceOf S0 (F) 38 [(0, z_r 12 (some n0)), (1, z_i x1), (2, z_i x2), (3, z_i x3)] [z_i s0] S := by
  unfold j_X12_forceOf_38 at h
  refine x_istore (lo' := [(4, z_i s0), (0, z_r 12 (some n0)), (1, z_i x1), (2, z_i x2), (3, z_i x3)]) dX12_forceOf_38 (by decide) rfl ?_
  refine x_iload 0 dX12_forceOf_40 rfl ?_
  refine x_if_eq (tgt := 70) dX12_forceOf_42 (by decide) h (fun h => ?_) (fun h => ?_)
  · refine x_iload_n 3 dX12_forceOf_70 rfl rfl ?_
    refine x_istore_n (lo' := [(2, z_i x2), (4, z_i s0), (0, z_r 12 (some n0)), (1, z_i x1), (3, z_i x3)]) dX12_forceOf_71 rfl (by decide) rfl ?_
    refine x_iinc (v := (x3 + 1)) (lo' := [(3, z_i (x3 + 1)), (2, z_i x2), (4, z_i s0), (0, z_r 12 (some n0)), (1, z_i x1)]) 4 dX12_forceOf_72 rfl (congrArg (HAdd.hAdd x3) (by decide)) (by decide) rfl ?_
    refine x_goto (tgt := 5) dX12_forceOf_75 (by decide) ?_
    cases h
    exact x_lo [3, 4, 1, 0] rfl k
  · refine x_iload_n 3 dX12_forceOf_45 rfl rfl ?_
    refine x_bipush (v := (-9 : Int32)) dX12_forceOf_46 (by decide) ?_
    refine x_ic_eq (tgt := 66) dX12_forceOf_48 (by decide) h (fun h => ?_) (fun h => ?_)
    · refine x_iload_n 4 dX12_forceOf_66 rfl rfl ?_
      refine x_goto (tgt := 71) dX12_forceOf_67 (by decide) ?_
      refine x_istore_n (lo' := [(2, z_i x3), (4, z_i s0), (0, z_r 12 (some n0)), (1, z_i x1), (3, z_i x3)]) dX12_forceOf_71 rfl (by decide) rfl ?_
      refine x_iinc (v := (x3 + 1)) (lo' := [(3, z_i (x3 + 1)), (2, z_i x3), (4, z_i s0), (0, z_r 12 (some n0)), (1, z_i x1)]) 4 dX12_forceOf_72 rfl (congrArg (HAdd.hAdd x3) (by decide)) (by decide) rfl ?_
      refine x_goto (tgt := 5) dX12_forceOf_75 (by decide) ?_
      cases h
      exact x_lo [3, 4, 1, 0] rfl k
    · refine x_aload_n 1 dX12_forceOf_51 rfl rfl ?_
      refine x_getR rfl ck_12 18 (by decide) rfl q_1067 dX12_forceOf_52 ?_
      refine x_iload_n 4 dX12_forceOf_55 rfl rfl ?_
      refine z_bnd h (fun a3 ha3 h => ?_)
      refine x_iaload ha3 ak_40 dX12_forceOf_56 h (fun v4 hv4 h => ?_)
      refine x_aload_n 1 dX12_forceOf_57 rfl rfl ?_
      refine x_getR rfl ck_12 18 (by decide) rfl q_1067 dX12_forceOf_58 ?_
      refine x_iload_n 3 dX12_forceOf_61 rfl rfl ?_
      refine z_bnd h (fun a5 ha5 h => ?_)
      refine x_iaload ha5 ak_40 dX12_forceOf_62 h (fun v6 hv6 h => ?_)
      refine x_ic_lt (tgt := 70) dX12_forceOf_63 (by decide) h (fun h => ?_) (fun h => ?_)
      · refine x_iload_n 3 dX12_forceOf_70 rfl rfl ?_
        refine x_istore_n (lo' := [(2, z_i x2), (4, z_i s0), (0, z_r 12 (some n0)), (1, z_i x1), (3, z_i x3)]) dX12_forceOf_71 rfl (by decide) rfl ?_
        refine x_iinc (v := (x3 + 1)) (lo' := [(3, z_i (x3 + 1)), (2, z_i x2), (4, z_i s0), (0, z_r 12 (some n0)), (1, z_i x1)]) 4 dX12_forceOf_72 rfl (congrArg (HAdd.hAdd x3) (by decide)) (by decide) rfl ?_
        refine x_goto (tgt := 5) dX12_forceOf_75 (by decide) ?_
        cases h
        exact x_lo [3, 4, 1, 0] rfl k
      · refine x_iload_n 4 dX12_forceOf_66 rfl rfl ?_
        refine x_goto (tgt := 71) dX12_forceOf_67 (by decide) ?_
        refine x_istore_n (lo' := [(2, z_i x3), (4, z_i s0), (0, z_r 12 (some n0)), (1, z_i x1), (3, z_i x3)]) dX12_forceOf_71 rfl (by decide) rfl ?_
        refine x_iinc (v := (x3 + 1)) (lo' := [(3, z_i (x3 + 1)), (2, z_i x3), (4, z_i s0), (0, z_r 12 (some n0)), (1, z_i x1)]) 4 dX12_forceOf_72 rfl (congrArg (HAdd.hAdd x3) (by decide)) (by decide) rfl ?_
        refine x_goto (tgt := 5) dX12_forceOf_75 (by decide) ?_
        cases h
        exact x_lo [3, 4, 1, 0] rfl k
set_option maxRecDepth 20000 in
theorem k_X12_forceOf_37 {S0 : ZH} {F : ZP} {n0 : Nat} {x1 : Int32} {x2 : Int32} {x3 : Int32}   {S : ZH} {z : (Int32 × Int32) ⊕ (Int32)} (h : j_X12_forceOf_37 n0 x1 x2 x3 S = some z) (k : Sum.elim (fun v : Int32 × Int32 => Wp Y_X12_forceOf S0 F 5 [(0, z_r 12 (some n0)), (1, z_i x1), (2, z_i v.1), (3, z_i v.2)] [] S) (fun t => Wp Y_X12_forceOf S0 F 78 [(2, z_i t)] [] S) z) : Wp Y_X12_forceOf S0 (F) 37 [(0, z_r 12 (some n0)), (1, z_i x1), (2, z_i x2), (3, z_i x3)] [] S := by
  unfold j_X12_forceOf_37 at h
  refine x_iconst (v := (0 : Int32)) dX12_forceOf_37 (by decide) ?_
  exact x_lo [0, 1, 2, 3] rfl (k_X12_forceOf_38 h k)
set_option maxRecDepth 20000 in
theorem l_X12_forceOf_5 {S0 : ZH} {F : ZP} {n0 : Nat} {x1 : Int32} {S : ZH} {v : Int32 × Int32} {t : Int32} (h : z_iter zFU (b_X12_forceOf_5 n0 x1 S) v = some t) (k : (fun t => Wp Y_X12_forceOf S0 F 78 [(2, z_i t)] [] S) t) : Wp Y_X12_forceOf S0 F 5 [(0, z_r 12 (some n0)), (1, z_i x1), (2, z_i v.1), (3, z_i v.2)] [] S := by
  refine z_iter_P (P := fun v : Int32 × Int32 => Wp Y_X12_forceOf S0 F 5 [(0, z_r 12 (some n0)), (1, z_i x1), (2, z_i v.1), (3, z_i v.2)] [] S) (X := (fun t => Wp Y_X12_forceOf S0 F 78 [(2, z_i t)] [] S)) ?_ _ _ _ h k
  clear h k v t
  intro v r h k
  unfold b_X12_forceOf_5 at h
  refine x_iload_n 3 dX12_forceOf_5 rfl rfl ?_
  refine x_aload_n 0 dX12_forceOf_6 rfl rfl ?_
  refine x_getI rfl ck_12 17 (by decide) rfl q_1066 dX12_forceOf_7 ?_
  refine x_ic_ge (tgt := 78) dX12_forceOf_10 (by decide) h (fun h => ?_) (fun h => ?_)
  · cases h
    exact x_lo [2] rfl k
  · refine x_aload_n 0 dX12_forceOf_13 rfl rfl ?_
    refine x_getR rfl ck_12 18 (by decide) rfl q_1067 dX12_forceOf_14 ?_
    refine x_iload_n 3 dX12_forceOf_17 rfl rfl ?_
    refine z_bnd h (fun a1 ha1 h => ?_)
    refine x_iaload ha1 ak_40 dX12_forceOf_18 h (fun v2 hv2 h => ?_)
    refine x_iload_n 1 dX12_forceOf_19 rfl rfl ?_
    refine x_ic_gt (tgt := 37) dX12_forceOf_20 (by decide) h (fun h => ?_) (fun h => ?_)
    · exact x_lo [0, 1, 2, 3] rfl (k_X12_forceOf_37 h k)
    · refine x_aload_n 0 dX12_forceOf_23 rfl rfl ?_
      refine x_iload_n 3 dX12_forceOf_24 rfl rfl ?_
      refine z_bnd h (fun q7 hq7 h => ?_)
      refine x_callV1 rfl (w_X12_faultOf hq7) cw_X12_faultOf q_1312 ⟨by decide, by decide⟩ (Nat.le_of_ble_eq_true rfl) dX12_forceOf_25 rfl ?_
      refine x_bipush (v := (-9 : Int32)) dX12_forceOf_28 (by decide) ?_
      refine x_ic_ne (tgt := 37) dX12_forceOf_30 (by decide) h (fun h => ?_) (fun h => ?_)
      · exact x_lo [0, 1, 2, 3] rfl (k_X12_forceOf_37 h k)
      · refine x_iconst (v := (1 : Int32)) dX12_forceOf_33 (by decide) ?_
        refine x_goto (tgt := 38) dX12_forceOf_34 (by decide) ?_
        exact x_lo [0, 1, 2, 3] rfl (k_X12_forceOf_38 h k)
set_option maxRecDepth 20000 in
set_option maxHeartbeats 1000000 in
theorem w_X12_forceOf {n0 : Nat} {x1 : Int32} {S : ZH} {q : Int32} (h : f_X12_forceOf n0 x1 S = some q) : MetX Y_X12_forceOf S [z_r 12 (some n0), z_i x1] (some (z_i q)) S := by
  refine MetX.of (lo := [(0, z_r 12 (some n0)), (1, z_i x1)]) rfl (by decide) (Nat.le_of_ble_eq_true rfl) ?_
  unfold f_X12_forceOf at h
  refine x_bipush (v := (-9 : Int32)) dX12_forceOf_0 (by decide) ?_
  refine x_istore_n (lo' := [(2, z_i (-9 : Int32)), (0, z_r 12 (some n0)), (1, z_i x1)]) dX12_forceOf_2 rfl (by decide) rfl ?_
  refine x_iconst (v := (0 : Int32)) dX12_forceOf_3 (by decide) ?_
  refine x_istore_n (lo' := [(3, z_i (0 : Int32)), (2, z_i (-9 : Int32)), (0, z_r 12 (some n0)), (1, z_i x1)]) dX12_forceOf_4 rfl (by decide) rfl ?_
  refine z_bnd h (fun t8 ht8 h => ?_)
  refine x_lo [2, 3, 1, 0] rfl ?_
  refine l_X12_forceOf_5 ht8 ?_
  refine x_iload_n 0 dX12_forceOf_78 rfl rfl ?_
  exact x_iret rfl dX12_forceOf_79 h
-- PressedMenModel force (I)I
abbrev Y_X12_force : ZM := (yX12_force, cX12_force, 2, (some .int), 3, 74)
theorem cw_X12_force : z_CV Y_X12_force 12 1 := ⟨⟨_, _, rfl⟩, by decide, q_1322, q_1323, q_1324, q_76, ⟨by decide, by decide⟩, rfl⟩
def f_X12_force (n0 : Nat) (x1 : Int32) (S : ZH) : Option (Int32 × ZH) :=
  (f_X12_noTide x1 (zsI S 12 n0 0 (0 : Int32))).bind fun q1 =>
  if q1 = 0 then (
    (f_X12_forceOf n0 x1 (zsI S 12 n0 0 (0 : Int32))).bind fun q2 =>
    some (q2, (zsI S 12 n0 0 (0 : Int32)))
  ) else (
    some ((-2 : Int32), (zsI S 12 n0 0 (0 : Int32)))
  )
set_option maxRecDepth 20000 in
set_option maxHeartbeats 1000000 in
theorem w_X12_force {n0 : Nat} {x1 : Int32} {S : ZH} {q : Int32 × ZH} (h : f_X12_force n0 x1 S = some q) : MetX Y_X12_force S [z_r 12 (some n0), z_i x1] (some (z_i q.1)) q.2 := by
  refine MetX.of (lo := [(0, z_r 12 (some n0)), (1, z_i x1)]) rfl (by decide) (Nat.le_of_ble_eq_true rfl) ?_
  unfold f_X12_force at h
  refine x_aload_n 0 dX12_force_0 rfl rfl ?_
  refine x_iconst (v := (0 : Int32)) dX12_force_1 (by decide) ?_
  refine x_putI rfl ck_12 0 (by decide) rfl (Or.inl rfl) (by rfl) rfl q_1049 dX12_force_2 ?_
  refine x_iload_n 1 dX12_force_5 rfl rfl ?_
  refine z_bnd h (fun q1 hq1 h => ?_)
  refine x_callS1 (w_X12_noTide hq1) cw_X12_noTide q_1282 ⟨by decide, by decide⟩ (Nat.le_of_ble_eq_true rfl) dX12_force_6 rfl ?_
  refine x_if_eq (tgt := 17) dX12_force_9 (by decide) h (fun h => ?_) (fun h => ?_)
  · refine x_aload_n 0 dX12_force_17 rfl rfl ?_
    refine x_iload_n 1 dX12_force_18 rfl rfl ?_
    refine z_bnd h (fun q2 hq2 h => ?_)
    refine x_callV1 rfl (w_X12_forceOf hq2) cw_X12_forceOf q_1325 ⟨by decide, by decide⟩ (Nat.le_of_ble_eq_true rfl) dX12_force_19 rfl ?_
    exact x_iretE rfl dX12_force_22 h
  · refine x_bipush (v := (-2 : Int32)) dX12_force_12 (by decide) ?_
    refine x_goto (tgt := 22) dX12_force_14 (by decide) ?_
    exact x_iretE rfl dX12_force_22 h
-- PressedMenModel test (IIIZ)Z
abbrev Y_X12_test : ZM := (yX12_test, cX12_test, 5, (some .boolean), 2, 45)
theorem cw_X12_test : z_CV Y_X12_test 12 4 := ⟨⟨_, _, rfl⟩, by decide, q_1343, q_56, q_1344, q_76, ⟨by decide, by decide⟩, rfl⟩
def f_X12_test (n0 : Nat) (x1 : Int32) (x2 : Int32) (x3 : Int32) (x4 : Int32) (S : ZH) : Option (Int32) :=
  if x1 = (65 : Int32) then (
    ((zR S 12 n0 6)).bind fun a1 =>
    (zld S 31 a1 ((8 : Int32) * x3)).bind fun v2 =>
    if x2 ≤ v2 then (
      some (0 : Int32)
    ) else (
      some (1 : Int32)
    )
  ) else (
    if x1 = (89 : Int32) then (
      ((zR S 12 n0 6)).bind fun a4 =>
      (zld S 31 a4 (((8 : Int32) * x3) + (5 : Int32))).bind fun v5 =>
      if x2 ≤ v5 then (
        some (0 : Int32)
      ) else (
        some (1 : Int32)
      )
    ) else (
      if x1 = (97 : Int32) then (
        ((zR S 12 n0 6)).bind fun a7 =>
        (zld S 31 a7 ((8 : Int32) * x3)).bind fun v8 =>
        if v8 < x2 then (
          some (0 : Int32)
        ) else (
          some (1 : Int32)
        )
      ) else (
        if x1 = (112 : Int32) then (
          if z_b x4 = x4 then some x4 else none
        ) else (
          if x1 = (115 : Int32) then (
            (f_X12_placeOf n0 x3 S).bind fun q11 =>
            (f_X12_isAboard q11 S).bind fun q12 =>
            if z_b q12 = q12 then some q12 else none
          ) else (
            if x1 = (116 : Int32) then (
              ((zR S 12 n0 6)).bind fun a14 =>
              (zld S 31 a14 (((8 : Int32) * x3) + (4 : Int32))).bind fun v15 =>
              if ¬ v15 = x2 then (
                some (0 : Int32)
              ) else (
                some (1 : Int32)
              )
            ) else (
              if x1 = (121 : Int32) then (
                ((zR S 12 n0 6)).bind fun a17 =>
                (zld S 31 a17 (((8 : Int32) * x3) + (5 : Int32))).bind fun v18 =>
                if v18 < x2 then (
                  some (0 : Int32)
                ) else (
                  some (1 : Int32)
                )
              ) else (
                (f_X12_placeOf n0 x3 S).bind fun q20 =>
                ((zR S 12 n0 6)).bind fun a21 =>
                (zld S 31 a21 (((8 : Int32) * x3) + (6 : Int32))).bind fun v22 =>
                if ¬ q20 = v22 then (
                  some (0 : Int32)
                ) else (
                  some (1 : Int32)
                )
              )
            )
          )
        )
      )
    )
  )
set_option maxRecDepth 20000 in
set_option maxHeartbeats 1000000 in
theorem w_X12_test {n0 : Nat} {x1 : Int32} {x2 : Int32} {x3 : Int32} {x4 : Int32} {S : ZH} {q : Int32} (h : f_X12_test n0 x1 x2 x3 x4 S = some q) : MetX Y_X12_test S [z_r 12 (some n0), z_i x1, z_i x2, z_i x3, z_i x4] (some (z_i q)) S := by
  refine MetX.of (lo := [(0, z_r 12 (some n0)), (1, z_i x1), (2, z_i x2), (3, z_i x3), (4, z_i x4)]) rfl (by decide) (Nat.le_of_ble_eq_true rfl) ?_
  unfold f_X12_test at h
  refine x_iload_n 1 dX12_test_0 rfl rfl ?_
  refine z_ite h (fun hx3 h => ?_) (fun hx3 h => ?_)
  · refine x_look (off := 86) (tgt := 87) dX12_test_1 (by decide) (by rw [hx3] <;> rfl) (by decide) ?_
    refine x_aload_n 0 dX12_test_87 rfl rfl ?_
    refine x_getR rfl ck_12 6 (by decide) rfl q_1055 dX12_test_88 ?_
    refine x_bipush (v := (8 : Int32)) dX12_test_91 (by decide) ?_
    refine x_iload_n 3 dX12_test_93 rfl rfl ?_
    refine x_imul dX12_test_94 ?_
    refine z_bnd h (fun a1 ha1 h => ?_)
    refine x_iaload ha1 ak_31 dX12_test_95 h (fun v2 hv2 h => ?_)
    refine x_iload_n 2 dX12_test_96 rfl rfl ?_
    refine x_ic_ge (tgt := 104) dX12_test_97 (by decide) h (fun h => ?_) (fun h => ?_)
    · refine x_iconst (v := (0 : Int32)) dX12_test_104 (by decide) ?_
      exact x_zretC rfl (by decide) dX12_test_105 h
    · refine x_iconst (v := (1 : Int32)) dX12_test_100 (by decide) ?_
      refine x_goto (tgt := 105) dX12_test_101 (by decide) ?_
      exact x_zretC rfl (by decide) dX12_test_105 h
  · refine z_ite h (fun hx6 h => ?_) (fun hx6 h => ?_)
    · refine x_look (off := 126) (tgt := 127) dX12_test_1 (by decide) (by rw [hx6] <;> rfl) (by decide) ?_
      refine x_aload_n 0 dX12_test_127 rfl rfl ?_
      refine x_getR rfl ck_12 6 (by decide) rfl q_1055 dX12_test_128 ?_
      refine x_bipush (v := (8 : Int32)) dX12_test_131 (by decide) ?_
      refine x_iload_n 3 dX12_test_133 rfl rfl ?_
      refine x_imul dX12_test_134 ?_
      refine x_iconst (v := (5 : Int32)) dX12_test_135 (by decide) ?_
      refine x_iadd dX12_test_136 ?_
      refine z_bnd h (fun a4 ha4 h => ?_)
      refine x_iaload ha4 ak_31 dX12_test_137 h (fun v5 hv5 h => ?_)
      refine x_iload_n 2 dX12_test_138 rfl rfl ?_
      refine x_ic_ge (tgt := 146) dX12_test_139 (by decide) h (fun h => ?_) (fun h => ?_)
      · refine x_iconst (v := (0 : Int32)) dX12_test_146 (by decide) ?_
        exact x_zretC rfl (by decide) dX12_test_147 h
      · refine x_iconst (v := (1 : Int32)) dX12_test_142 (by decide) ?_
        refine x_goto (tgt := 147) dX12_test_143 (by decide) ?_
        exact x_zretC rfl (by decide) dX12_test_147 h
    · refine z_ite h (fun hx9 h => ?_) (fun hx9 h => ?_)
      · refine x_look (off := 67) (tgt := 68) dX12_test_1 (by decide) (by rw [hx9] <;> rfl) (by decide) ?_
        refine x_aload_n 0 dX12_test_68 rfl rfl ?_
        refine x_getR rfl ck_12 6 (by decide) rfl q_1055 dX12_test_69 ?_
        refine x_bipush (v := (8 : Int32)) dX12_test_72 (by decide) ?_
        refine x_iload_n 3 dX12_test_74 rfl rfl ?_
        refine x_imul dX12_test_75 ?_
        refine z_bnd h (fun a7 ha7 h => ?_)
        refine x_iaload ha7 ak_31 dX12_test_76 h (fun v8 hv8 h => ?_)
        refine x_iload_n 2 dX12_test_77 rfl rfl ?_
        refine x_ic_lt (tgt := 85) dX12_test_78 (by decide) h (fun h => ?_) (fun h => ?_)
        · refine x_iconst (v := (0 : Int32)) dX12_test_85 (by decide) ?_
          exact x_zretC rfl (by decide) dX12_test_86 h
        · refine x_iconst (v := (1 : Int32)) dX12_test_81 (by decide) ?_
          refine x_goto (tgt := 86) dX12_test_82 (by decide) ?_
          exact x_zretC rfl (by decide) dX12_test_86 h
      · refine z_ite h (fun hx10 h => ?_) (fun hx10 h => ?_)
        · refine x_look (off := 168) (tgt := 169) dX12_test_1 (by decide) (by rw [hx10] <;> rfl) (by decide) ?_
          refine x_iload 4 dX12_test_169 rfl ?_
          exact x_zret rfl dX12_test_171 h
        · refine z_ite h (fun hx13 h => ?_) (fun hx13 h => ?_)
          · refine x_look (off := 171) (tgt := 172) dX12_test_1 (by decide) (by rw [hx13] <;> rfl) (by decide) ?_
            refine x_aload_n 0 dX12_test_172 rfl rfl ?_
            refine x_iload_n 3 dX12_test_173 rfl rfl ?_
            refine z_bnd h (fun q11 hq11 h => ?_)
            refine x_callV1 rfl (w_X12_placeOf hq11) cw_X12_placeOf q_1229 ⟨by decide, by decide⟩ (Nat.le_of_ble_eq_true rfl) dX12_test_174 rfl ?_
            refine z_bnd h (fun q12 hq12 h => ?_)
            refine x_callS1 (w_X12_isAboard hq12) cw_X12_isAboard q_1345 ⟨by decide, by decide⟩ (Nat.le_of_ble_eq_true rfl) dX12_test_177 rfl ?_
            exact x_zret rfl dX12_test_180 h
          · refine z_ite h (fun hx16 h => ?_) (fun hx16 h => ?_)
            · refine x_look (off := 147) (tgt := 148) dX12_test_1 (by decide) (by rw [hx16] <;> rfl) (by decide) ?_
              refine x_aload_n 0 dX12_test_148 rfl rfl ?_
              refine x_getR rfl ck_12 6 (by decide) rfl q_1055 dX12_test_149 ?_
              refine x_bipush (v := (8 : Int32)) dX12_test_152 (by decide) ?_
              refine x_iload_n 3 dX12_test_154 rfl rfl ?_
              refine x_imul dX12_test_155 ?_
              refine x_iconst (v := (4 : Int32)) dX12_test_156 (by decide) ?_
              refine x_iadd dX12_test_157 ?_
              refine z_bnd h (fun a14 ha14 h => ?_)
              refine x_iaload ha14 ak_31 dX12_test_158 h (fun v15 hv15 h => ?_)
              refine x_iload_n 2 dX12_test_159 rfl rfl ?_
              refine x_ic_ne (tgt := 167) dX12_test_160 (by decide) h (fun h => ?_) (fun h => ?_)
              · refine x_iconst (v := (0 : Int32)) dX12_test_167 (by decide) ?_
                exact x_zretC rfl (by decide) dX12_test_168 h
              · refine x_iconst (v := (1 : Int32)) dX12_test_163 (by decide) ?_
                refine x_goto (tgt := 168) dX12_test_164 (by decide) ?_
                exact x_zretC rfl (by decide) dX12_test_168 h
            · refine z_ite h (fun hx19 h => ?_) (fun hx19 h => ?_)
              · refine x_look (off := 105) (tgt := 106) dX12_test_1 (by decide) (by rw [hx19] <;> rfl) (by decide) ?_
                refine x_aload_n 0 dX12_test_106 rfl rfl ?_
                refine x_getR rfl ck_12 6 (by decide) rfl q_1055 dX12_test_107 ?_
                refine x_bipush (v := (8 : Int32)) dX12_test_110 (by decide) ?_
                refine x_iload_n 3 dX12_test_112 rfl rfl ?_
                refine x_imul dX12_test_113 ?_
                refine x_iconst (v := (5 : Int32)) dX12_test_114 (by decide) ?_
                refine x_iadd dX12_test_115 ?_
                refine z_bnd h (fun a17 ha17 h => ?_)
                refine x_iaload ha17 ak_31 dX12_test_116 h (fun v18 hv18 h => ?_)
                refine x_iload_n 2 dX12_test_117 rfl rfl ?_
                refine x_ic_lt (tgt := 125) dX12_test_118 (by decide) h (fun h => ?_) (fun h => ?_)
                · refine x_iconst (v := (0 : Int32)) dX12_test_125 (by decide) ?_
                  exact x_zretC rfl (by decide) dX12_test_126 h
                · refine x_iconst (v := (1 : Int32)) dX12_test_121 (by decide) ?_
                  refine x_goto (tgt := 126) dX12_test_122 (by decide) ?_
                  exact x_zretC rfl (by decide) dX12_test_126 h
              · refine x_look (off := 180) (tgt := 181) dX12_test_1 (by decide) (by rw [lv_osw hx3 (by decide), lv_osw hx6 (by decide), lv_osw hx9 (by decide), lv_osw hx10 (by decide), lv_osw hx13 (by decide), lv_osw hx16 (by decide), lv_osw hx19 (by decide)] <;> rfl) (by decide) ?_
                refine x_aload_n 0 dX12_test_181 rfl rfl ?_
                refine x_iload_n 3 dX12_test_182 rfl rfl ?_
                refine z_bnd h (fun q20 hq20 h => ?_)
                refine x_callV1 rfl (w_X12_placeOf hq20) cw_X12_placeOf q_1229 ⟨by decide, by decide⟩ (Nat.le_of_ble_eq_true rfl) dX12_test_183 rfl ?_
                refine x_aload_n 0 dX12_test_186 rfl rfl ?_
                refine x_getR rfl ck_12 6 (by decide) rfl q_1055 dX12_test_187 ?_
                refine x_bipush (v := (8 : Int32)) dX12_test_190 (by decide) ?_
                refine x_iload_n 3 dX12_test_192 rfl rfl ?_
                refine x_imul dX12_test_193 ?_
                refine x_bipush (v := (6 : Int32)) dX12_test_194 (by decide) ?_
                refine x_iadd dX12_test_196 ?_
                refine z_bnd h (fun a21 ha21 h => ?_)
                refine x_iaload ha21 ak_31 dX12_test_197 h (fun v22 hv22 h => ?_)
                refine x_ic_ne (tgt := 205) dX12_test_198 (by decide) h (fun h => ?_) (fun h => ?_)
                · refine x_iconst (v := (0 : Int32)) dX12_test_205 (by decide) ?_
                  exact x_zretC rfl (by decide) dX12_test_206 h
                · refine x_iconst (v := (1 : Int32)) dX12_test_201 (by decide) ?_
                  refine x_goto (tgt := 206) dX12_test_202 (by decide) ?_
                  exact x_zretC rfl (by decide) dX12_test_206 h
