-- PressedMen isPaperOrNone (I)Z
abbrev Y_X11_isPaperOrNone : ZM := (yX11_isPaperOrNone, cX11_isPaperOrNone, 2, (some .boolean), 2, 43)
theorem cw_X11_isPaperOrNone : z_CV Y_X11_isPaperOrNone 11 1 := ⟨⟨_, _, rfl⟩, by decide, q_644, q_16, q_645, q_70, ⟨by decide, by decide⟩, rfl⟩
def f_X11_isPaperOrNone (n0 : Nat) (x1 : Int32) (S : ZH) : Option (Int32) :=
  if x1 = (-9 : Int32) then (
    some (1 : Int32)
  ) else (
    (f_X11_findPaper n0 x1 S).bind fun q1 =>
    if q1 = none then (
      some (0 : Int32)
    ) else (
      some (1 : Int32)
    )
  )
set_option maxRecDepth 20000 in
set_option maxHeartbeats 1000000 in
theorem w_X11_isPaperOrNone {n0 : Nat} {x1 : Int32} {S : ZH} {q : Int32} (h : f_X11_isPaperOrNone n0 x1 S = some q) : MetX Y_X11_isPaperOrNone S [z_r 11 (some n0), z_i x1] (some (z_i q)) S := by
  refine MetX.of (lo := [(0, z_r 11 (some n0)), (1, z_i x1)]) rfl (by decide) (Nat.le_of_ble_eq_true rfl) ?_
  unfold f_X11_isPaperOrNone at h
  refine x_iload_n 1 dX11_isPaperOrNone_0 rfl rfl ?_
  refine x_bipush (v := (-9 : Int32)) dX11_isPaperOrNone_1 (by decide) ?_
  refine x_ic_eq (tgt := 14) dX11_isPaperOrNone_3 (by decide) h (fun h => ?_) (fun h => ?_)
  · refine x_iconst (v := (1 : Int32)) dX11_isPaperOrNone_14 (by decide) ?_
    refine x_goto (tgt := 19) dX11_isPaperOrNone_15 (by decide) ?_
    exact x_zretC rfl (by decide) dX11_isPaperOrNone_19 h
  · refine x_aload_n 0 dX11_isPaperOrNone_6 rfl rfl ?_
    refine x_iload_n 1 dX11_isPaperOrNone_7 rfl rfl ?_
    refine z_bnd h (fun q1 hq1 h => ?_)
    refine x_callV1 rfl (w_X11_findPaper hq1) cw_X11_findPaper q_524 ⟨by decide, by decide⟩ (Nat.le_of_ble_eq_true rfl) dX11_isPaperOrNone_8 rfl ?_
    refine x_ifnull (tgt := 18) dX11_isPaperOrNone_11 (by decide) h (fun h => ?_) (fun h => ?_)
    · refine x_iconst (v := (0 : Int32)) dX11_isPaperOrNone_18 (by decide) ?_
      exact x_zretC rfl (by decide) dX11_isPaperOrNone_19 h
    · refine x_iconst (v := (1 : Int32)) dX11_isPaperOrNone_14 (by decide) ?_
      refine x_goto (tgt := 19) dX11_isPaperOrNone_15 (by decide) ?_
      exact x_zretC rfl (by decide) dX11_isPaperOrNone_19 h
-- PressedMen$Act numberBehind (I)I
abbrev Y_X0_numberBehind : ZM := (yX0_numberBehind, cX0_numberBehind, 2, (some .int), 0, 0)
theorem cw_X0_numberBehind : z_CV Y_X0_numberBehind 0 1 := ⟨⟨_, _, rfl⟩, by decide, q_661, q_19, q_662, q_83, ⟨by decide, by decide⟩, rfl⟩
def f_X0_numberBehind (n0 : Nat) (x1 : Int32) (S : ZH) : Option (Int32) :=
  if (x1 + (2 : Int32)) < (zI S 0 n0 1) then (
    ((zR S 0 n0 2)).bind fun a1 =>
    (zld S 13 a1 (x1 + (1 : Int32))).bind fun v2 =>
    ((zR S 0 n0 2)).bind fun a3 =>
    (zld S 13 a3 (x1 + (2 : Int32))).bind fun v4 =>
    some ((((v2 - (48 : Int32)) * (10 : Int32)) + v4) - (48 : Int32))
  ) else (
    some (0 : Int32)
  )
set_option maxRecDepth 20000 in
set_option maxHeartbeats 1000000 in
theorem w_X0_numberBehind {n0 : Nat} {x1 : Int32} {S : ZH} {q : Int32} (h : f_X0_numberBehind n0 x1 S = some q) : MetX Y_X0_numberBehind S [z_r 0 (some n0), z_i x1] (some (z_i q)) S := by
  refine MetX.of (lo := [(0, z_r 0 (some n0)), (1, z_i x1)]) rfl (by decide) (Nat.le_of_ble_eq_true rfl) ?_
  unfold f_X0_numberBehind at h
  refine x_iload_n 1 dX0_numberBehind_0 rfl rfl ?_
  refine x_iconst (v := (2 : Int32)) dX0_numberBehind_1 (by decide) ?_
  refine x_iadd dX0_numberBehind_2 ?_
  refine x_aload_n 0 dX0_numberBehind_3 rfl rfl ?_
  refine x_getI rfl ck_0 1 (by decide) rfl q_578 dX0_numberBehind_4 ?_
  refine x_ic_lt (tgt := 12) dX0_numberBehind_7 (by decide) h (fun h => ?_) (fun h => ?_)
  · refine x_aload_n 0 dX0_numberBehind_12 rfl rfl ?_
    refine x_getR rfl ck_0 2 (by decide) rfl q_580 dX0_numberBehind_13 ?_
    refine x_iload_n 1 dX0_numberBehind_16 rfl rfl ?_
    refine x_iconst (v := (1 : Int32)) dX0_numberBehind_17 (by decide) ?_
    refine x_iadd dX0_numberBehind_18 ?_
    refine z_bnd h (fun a1 ha1 h => ?_)
    refine x_baload ha1 ak_13 dX0_numberBehind_19 h (fun v2 hv2 h => ?_)
    refine x_bipush (v := (48 : Int32)) dX0_numberBehind_20 (by decide) ?_
    refine x_isub dX0_numberBehind_22 ?_
    refine x_bipush (v := (10 : Int32)) dX0_numberBehind_23 (by decide) ?_
    refine x_imul dX0_numberBehind_25 ?_
    refine x_aload_n 0 dX0_numberBehind_26 rfl rfl ?_
    refine x_getR rfl ck_0 2 (by decide) rfl q_580 dX0_numberBehind_27 ?_
    refine x_iload_n 1 dX0_numberBehind_30 rfl rfl ?_
    refine x_iconst (v := (2 : Int32)) dX0_numberBehind_31 (by decide) ?_
    refine x_iadd dX0_numberBehind_32 ?_
    refine z_bnd h (fun a3 ha3 h => ?_)
    refine x_baload ha3 ak_13 dX0_numberBehind_33 h (fun v4 hv4 h => ?_)
    refine x_iadd dX0_numberBehind_34 ?_
    refine x_bipush (v := (48 : Int32)) dX0_numberBehind_35 (by decide) ?_
    refine x_isub dX0_numberBehind_37 ?_
    exact x_iret rfl dX0_numberBehind_38 h
  · refine x_iconst (v := (0 : Int32)) dX0_numberBehind_10 (by decide) ?_
    exact x_iret rfl dX0_numberBehind_11 h
-- PressedMen isShip (I)Z
abbrev Y_X11_isShip : ZM := (yX11_isShip, cX11_isShip, 1, (some .boolean), 1, 22)
theorem cw_X11_isShip : z_CS Y_X11_isShip 1 := ⟨q_664, q_665, q_70, ⟨by decide, by decide⟩, rfl⟩
def f_X11_isShip (x0 : Int32) (S : ZH) : Option (Int32) :=
  (f_X11_within x0 (10 : Int32) (19 : Int32) S).bind fun q1 =>
  if z_b q1 = q1 then some q1 else none
set_option maxRecDepth 20000 in
set_option maxHeartbeats 1000000 in
theorem w_X11_isShip {x0 : Int32} {S : ZH} {q : Int32} (h : f_X11_isShip x0 S = some q) : MetX Y_X11_isShip S [z_i x0] (some (z_i q)) S := by
  refine MetX.of (lo := [(0, z_i x0)]) rfl (by decide) (Nat.le_of_ble_eq_true rfl) ?_
  unfold f_X11_isShip at h
  refine x_iload_n 0 dX11_isShip_0 rfl rfl ?_
  refine x_bipush (v := (10 : Int32)) dX11_isShip_1 (by decide) ?_
  refine x_bipush (v := (19 : Int32)) dX11_isShip_3 (by decide) ?_
  refine z_bnd h (fun q1 hq1 h => ?_)
  refine x_callS1 (w_X11_within hq1) cw_X11_within q_252 ⟨by decide, by decide⟩ (Nat.le_of_ble_eq_true rfl) dX11_isShip_5 rfl ?_
  exact x_zret rfl dX11_isShip_8 h
-- PressedMen$Act testHolds (ILPressedMen$Man;Z)Z
abbrev Y_X0_testHolds : ZM := (yX0_testHolds, cX0_testHolds, 4, (some .boolean), 2, 42)
theorem cw_X0_testHolds : z_CV Y_X0_testHolds 0 3 := ⟨⟨_, _, rfl⟩, by decide, q_657, q_18, q_658, q_83, ⟨by decide, by decide⟩, rfl⟩
def f_X0_testHolds (n0 : Nat) (x1 : Int32) (x2 : Option Nat) (x3 : Int32) (S : ZH) : Option (Int32) :=
  ((zR S 0 n0 2)).bind fun a1 =>
  (zld S 13 a1 x1).bind fun v2 =>
  if v2 = (65 : Int32) then (
    (x2).bind fun a3 =>
    (f_X0_numberBehind n0 x1 S).bind fun q4 =>
    if q4 ≤ (zI S 3 a3 0) then (
      some (0 : Int32)
    ) else (
      some (1 : Int32)
    )
  ) else (
    if v2 = (89 : Int32) then (
      (x2).bind fun a6 =>
      (f_X0_numberBehind n0 x1 S).bind fun q7 =>
      if q7 ≤ (zI S 3 a6 5) then (
        some (0 : Int32)
      ) else (
        some (1 : Int32)
      )
    ) else (
      if v2 = (97 : Int32) then (
        (x2).bind fun a9 =>
        (f_X0_numberBehind n0 x1 S).bind fun q10 =>
        if (zI S 3 a9 0) < q10 then (
          some (0 : Int32)
        ) else (
          some (1 : Int32)
        )
      ) else (
        if v2 = (104 : Int32) then (
          (x2).bind fun a12 =>
          if ¬ (zI S 3 a12 8) = (zI S 3 a12 6) then (
            some (0 : Int32)
          ) else (
            some (1 : Int32)
          )
        ) else (
          if v2 = (112 : Int32) then (
            if z_b x3 = x3 then some x3 else none
          ) else (
            if v2 = (115 : Int32) then (
              (x2).bind fun a15 =>
              (f_X11_isShip (zI S 3 a15 8) S).bind fun q16 =>
              if z_b q16 = q16 then some q16 else none
            ) else (
              if v2 = (116 : Int32) then (
                (x2).bind fun a18 =>
                (f_X0_numberBehind n0 x1 S).bind fun q19 =>
                if ¬ (zI S 3 a18 4) = q19 then (
                  some (0 : Int32)
                ) else (
                  some (1 : Int32)
                )
              ) else (
                if v2 = (121 : Int32) then (
                  (x2).bind fun a21 =>
                  (f_X0_numberBehind n0 x1 S).bind fun q22 =>
                  if (zI S 3 a21 5) < q22 then (
                    some (0 : Int32)
                  ) else (
                    some (1 : Int32)
                  )
                ) else (
                  some (0 : Int32)
                )
              )
            )
          )
        )
      )
    )
  )
set_option maxRecDepth 20000 in
set_option maxHeartbeats 1000000 in
theorem w_X0_testHolds {n0 : Nat} {x1 : Int32} {x2 : Option Nat} {x3 : Int32} {S : ZH} {q : Int32} (h : f_X0_testHolds n0 x1 x2 x3 S = some q) : MetX Y_X0_testHolds S [z_r 0 (some n0), z_i x1, z_r 3 x2, z_i x3] (some (z_i q)) S := by
  refine MetX.of (lo := [(0, z_r 0 (some n0)), (1, z_i x1), (2, z_r 3 x2), (3, z_i x3)]) rfl (by decide) (Nat.le_of_ble_eq_true rfl) ?_
  unfold f_X0_testHolds at h
  refine x_aload_n 0 dX0_testHolds_0 rfl rfl ?_
  refine x_getR rfl ck_0 2 (by decide) rfl q_580 dX0_testHolds_1 ?_
  refine x_iload_n 1 dX0_testHolds_4 rfl rfl ?_
  refine z_bnd h (fun a1 ha1 h => ?_)
  refine x_baload ha1 ak_13 dX0_testHolds_5 h (fun v2 hv2 h => ?_)
  refine z_ite h (fun hx5 h => ?_) (fun hx5 h => ?_)
  · refine x_look (off := 92) (tgt := 98) dX0_testHolds_6 (by decide) (by rw [hx5] <;> rfl) (by decide) ?_
    refine x_aload_n 2 dX0_testHolds_98 rfl rfl ?_
    refine z_bnd h (fun a3 ha3 h => ?_)
    revert h
    subst ha3
    intro h
    refine x_getI rfl ck_3 0 (by decide) rfl q_305 dX0_testHolds_99 ?_
    refine x_aload_n 0 dX0_testHolds_102 rfl rfl ?_
    refine x_iload_n 1 dX0_testHolds_103 rfl rfl ?_
    refine z_bnd h (fun q4 hq4 h => ?_)
    refine x_callV1 rfl (w_X0_numberBehind hq4) cw_X0_numberBehind q_659 ⟨by decide, by decide⟩ (Nat.le_of_ble_eq_true rfl) dX0_testHolds_104 rfl ?_
    refine x_ic_ge (tgt := 114) dX0_testHolds_107 (by decide) h (fun h => ?_) (fun h => ?_)
    · refine x_iconst (v := (0 : Int32)) dX0_testHolds_114 (by decide) ?_
      exact x_zretC rfl (by decide) dX0_testHolds_115 h
    · refine x_iconst (v := (1 : Int32)) dX0_testHolds_110 (by decide) ?_
      refine x_goto (tgt := 115) dX0_testHolds_111 (by decide) ?_
      exact x_zretC rfl (by decide) dX0_testHolds_115 h
  · refine z_ite h (fun hx8 h => ?_) (fun hx8 h => ?_)
    · refine x_look (off := 128) (tgt := 134) dX0_testHolds_6 (by decide) (by rw [hx8] <;> rfl) (by decide) ?_
      refine x_aload_n 2 dX0_testHolds_134 rfl rfl ?_
      refine z_bnd h (fun a6 ha6 h => ?_)
      revert h
      subst ha6
      intro h
      refine x_getI rfl ck_3 5 (by decide) rfl q_320 dX0_testHolds_135 ?_
      refine x_aload_n 0 dX0_testHolds_138 rfl rfl ?_
      refine x_iload_n 1 dX0_testHolds_139 rfl rfl ?_
      refine z_bnd h (fun q7 hq7 h => ?_)
      refine x_callV1 rfl (w_X0_numberBehind hq7) cw_X0_numberBehind q_659 ⟨by decide, by decide⟩ (Nat.le_of_ble_eq_true rfl) dX0_testHolds_140 rfl ?_
      refine x_ic_ge (tgt := 150) dX0_testHolds_143 (by decide) h (fun h => ?_) (fun h => ?_)
      · refine x_iconst (v := (0 : Int32)) dX0_testHolds_150 (by decide) ?_
        exact x_zretC rfl (by decide) dX0_testHolds_151 h
      · refine x_iconst (v := (1 : Int32)) dX0_testHolds_146 (by decide) ?_
        refine x_goto (tgt := 151) dX0_testHolds_147 (by decide) ?_
        exact x_zretC rfl (by decide) dX0_testHolds_151 h
    · refine z_ite h (fun hx11 h => ?_) (fun hx11 h => ?_)
      · refine x_look (off := 74) (tgt := 80) dX0_testHolds_6 (by decide) (by rw [hx11] <;> rfl) (by decide) ?_
        refine x_aload_n 2 dX0_testHolds_80 rfl rfl ?_
        refine z_bnd h (fun a9 ha9 h => ?_)
        revert h
        subst ha9
        intro h
        refine x_getI rfl ck_3 0 (by decide) rfl q_305 dX0_testHolds_81 ?_
        refine x_aload_n 0 dX0_testHolds_84 rfl rfl ?_
        refine x_iload_n 1 dX0_testHolds_85 rfl rfl ?_
        refine z_bnd h (fun q10 hq10 h => ?_)
        refine x_callV1 rfl (w_X0_numberBehind hq10) cw_X0_numberBehind q_659 ⟨by decide, by decide⟩ (Nat.le_of_ble_eq_true rfl) dX0_testHolds_86 rfl ?_
        refine x_ic_lt (tgt := 96) dX0_testHolds_89 (by decide) h (fun h => ?_) (fun h => ?_)
        · refine x_iconst (v := (0 : Int32)) dX0_testHolds_96 (by decide) ?_
          exact x_zretC rfl (by decide) dX0_testHolds_97 h
        · refine x_iconst (v := (1 : Int32)) dX0_testHolds_92 (by decide) ?_
          refine x_goto (tgt := 97) dX0_testHolds_93 (by decide) ?_
          exact x_zretC rfl (by decide) dX0_testHolds_97 h
      · refine z_ite h (fun hx13 h => ?_) (fun hx13 h => ?_)
        · refine x_look (off := 174) (tgt := 180) dX0_testHolds_6 (by decide) (by rw [hx13] <;> rfl) (by decide) ?_
          refine x_aload_n 2 dX0_testHolds_180 rfl rfl ?_
          refine z_bnd h (fun a12 ha12 h => ?_)
          revert h
          subst ha12
          intro h
          refine x_getI rfl ck_3 8 (by decide) rfl q_326 dX0_testHolds_181 ?_
          refine x_aload_n 2 dX0_testHolds_184 rfl rfl ?_
          refine x_getI rfl ck_3 6 (by decide) rfl q_323 dX0_testHolds_185 ?_
          refine x_ic_ne (tgt := 195) dX0_testHolds_188 (by decide) h (fun h => ?_) (fun h => ?_)
          · refine x_iconst (v := (0 : Int32)) dX0_testHolds_195 (by decide) ?_
            exact x_zretC rfl (by decide) dX0_testHolds_196 h
          · refine x_iconst (v := (1 : Int32)) dX0_testHolds_191 (by decide) ?_
            refine x_goto (tgt := 196) dX0_testHolds_192 (by decide) ?_
            exact x_zretC rfl (by decide) dX0_testHolds_196 h
        · refine z_ite h (fun hx14 h => ?_) (fun hx14 h => ?_)
          · refine x_look (off := 164) (tgt := 170) dX0_testHolds_6 (by decide) (by rw [hx14] <;> rfl) (by decide) ?_
            refine x_iload_n 3 dX0_testHolds_170 rfl rfl ?_
            exact x_zret rfl dX0_testHolds_171 h
          · refine z_ite h (fun hx17 h => ?_) (fun hx17 h => ?_)
            · refine x_look (off := 166) (tgt := 172) dX0_testHolds_6 (by decide) (by rw [hx17] <;> rfl) (by decide) ?_
              refine x_aload_n 2 dX0_testHolds_172 rfl rfl ?_
              refine z_bnd h (fun a15 ha15 h => ?_)
              revert h
              subst ha15
              intro h
              refine x_getI rfl ck_3 8 (by decide) rfl q_326 dX0_testHolds_173 ?_
              refine z_bnd h (fun q16 hq16 h => ?_)
              refine x_callSN1 (w_X11_isShip hq16) cw_X11_isShip q_663 ⟨by decide, by decide⟩ (Nat.le_of_ble_eq_true rfl) dX0_testHolds_176 rfl ?_
              exact x_zret rfl dX0_testHolds_179 h
            · refine z_ite h (fun hx20 h => ?_) (fun hx20 h => ?_)
              · refine x_look (off := 146) (tgt := 152) dX0_testHolds_6 (by decide) (by rw [hx20] <;> rfl) (by decide) ?_
                refine x_aload_n 2 dX0_testHolds_152 rfl rfl ?_
                refine z_bnd h (fun a18 ha18 h => ?_)
                revert h
                subst ha18
                intro h
                refine x_getI rfl ck_3 4 (by decide) rfl q_317 dX0_testHolds_153 ?_
                refine x_aload_n 0 dX0_testHolds_156 rfl rfl ?_
                refine x_iload_n 1 dX0_testHolds_157 rfl rfl ?_
                refine z_bnd h (fun q19 hq19 h => ?_)
                refine x_callV1 rfl (w_X0_numberBehind hq19) cw_X0_numberBehind q_659 ⟨by decide, by decide⟩ (Nat.le_of_ble_eq_true rfl) dX0_testHolds_158 rfl ?_
                refine x_ic_ne (tgt := 168) dX0_testHolds_161 (by decide) h (fun h => ?_) (fun h => ?_)
                · refine x_iconst (v := (0 : Int32)) dX0_testHolds_168 (by decide) ?_
                  exact x_zretC rfl (by decide) dX0_testHolds_169 h
                · refine x_iconst (v := (1 : Int32)) dX0_testHolds_164 (by decide) ?_
                  refine x_goto (tgt := 169) dX0_testHolds_165 (by decide) ?_
                  exact x_zretC rfl (by decide) dX0_testHolds_169 h
              · refine z_ite h (fun hx23 h => ?_) (fun hx23 h => ?_)
                · refine x_look (off := 110) (tgt := 116) dX0_testHolds_6 (by decide) (by rw [hx23] <;> rfl) (by decide) ?_
                  refine x_aload_n 2 dX0_testHolds_116 rfl rfl ?_
                  refine z_bnd h (fun a21 ha21 h => ?_)
                  revert h
                  subst ha21
                  intro h
                  refine x_getI rfl ck_3 5 (by decide) rfl q_320 dX0_testHolds_117 ?_
                  refine x_aload_n 0 dX0_testHolds_120 rfl rfl ?_
                  refine x_iload_n 1 dX0_testHolds_121 rfl rfl ?_
                  refine z_bnd h (fun q22 hq22 h => ?_)
                  refine x_callV1 rfl (w_X0_numberBehind hq22) cw_X0_numberBehind q_659 ⟨by decide, by decide⟩ (Nat.le_of_ble_eq_true rfl) dX0_testHolds_122 rfl ?_
                  refine x_ic_lt (tgt := 132) dX0_testHolds_125 (by decide) h (fun h => ?_) (fun h => ?_)
                  · refine x_iconst (v := (0 : Int32)) dX0_testHolds_132 (by decide) ?_
                    exact x_zretC rfl (by decide) dX0_testHolds_133 h
                  · refine x_iconst (v := (1 : Int32)) dX0_testHolds_128 (by decide) ?_
                    refine x_goto (tgt := 133) dX0_testHolds_129 (by decide) ?_
                    exact x_zretC rfl (by decide) dX0_testHolds_133 h
                · refine x_look (off := 191) (tgt := 197) dX0_testHolds_6 (by decide) (by rw [lv_osw hx5 (by decide), lv_osw hx8 (by decide), lv_osw hx11 (by decide), lv_osw hx13 (by decide), lv_osw hx14 (by decide), lv_osw hx17 (by decide), lv_osw hx20 (by decide), lv_osw hx23 (by decide)] <;> rfl) (by decide) ?_
                  refine x_iconst (v := (0 : Int32)) dX0_testHolds_197 (by decide) ?_
                  exact x_zretC rfl (by decide) dX0_testHolds_198 h
-- PressedMen$Act holds (LPressedMen$Man;Z)Z
abbrev Y_X0_holds : ZM := (yX0_holds, cX0_holds, 9, (some .boolean), 3, 65)
theorem cw_X0_holds : z_CV Y_X0_holds 0 2 := ⟨⟨_, _, rfl⟩, by decide, q_651, q_652, q_653, q_83, ⟨by decide, by decide⟩, rfl⟩
def b_X0_holds_10 (n0 : Nat) (x1 : Option Nat) (x2 : Int32) (S : ZH) (v : Int64 × Int32) : Option ((Int64 × Int32) ⊕ (Int64)) :=
  if v.2 < 0 then (
    some (Sum.inr v.1)
  ) else (
    ((zR S 0 n0 2)).bind fun a1 =>
    (zld S 13 a1 v.2).bind fun v2 =>
    if ¬ v2 = (38 : Int32) then (
      if ¬ v2 = (124 : Int32) then (
        if ¬ v2 = (33 : Int32) then (
          (f_X0_isDigit v2 S).bind fun q3 =>
          if ¬ q3 = 0 then (
            some (Sum.inl (v.1, (v.2 + (-1))))
          ) else (
            (f_X0_testHolds n0 v.2 x1 x2 S).bind fun q4 =>
            (f_X11_asNumber q4 S).bind fun q5 =>
            some (Sum.inl (((v.1 <<< (((1 : Int32)).toInt64 &&& 63)) ||| q5.toInt64), (v.2 + (-1))))
          )
        ) else (
          some (Sum.inl ((v.1 ^^^ (1 : Int64)), (v.2 + (-1))))
        )
      ) else (
        some (Sum.inl ((((v.1).toUInt64 >>> (((1 : Int32)).toInt64.toUInt64 &&& Int64.toUInt64 63)).toInt64 ||| (v.1 &&& (1 : Int64))), (v.2 + (-1))))
      )
    ) else (
      some (Sum.inl ((((v.1).toUInt64 >>> (((1 : Int32)).toInt64.toUInt64 &&& Int64.toUInt64 63)).toInt64 &&& ((v.1 &&& (1 : Int64)) ||| (-2 : Int64))), (v.2 + (-1))))
    )
  )
def f_X0_holds (n0 : Nat) (x1 : Option Nat) (x2 : Int32) (S : ZH) : Option (Int32) :=
  (z_iter zFU (b_X0_holds_10 n0 x1 x2 S) ((0 : Int64), ((zI S 0 n0 1) - (1 : Int32)))).bind fun t6 =>
  if ¬ (lg_cmp (t6 &&& (1 : Int64)) (1 : Int64)) = 0 then (
    some (0 : Int32)
  ) else (
    some (1 : Int32)
  )
set_option maxRecDepth 20000 in
theorem l_X0_holds_10 {S0 : ZH} {F : ZP} {n0 : Nat} {x1 : Option Nat} {x2 : Int32} {S : ZH} {v : Int64 × Int32} {t : Int64} (h : z_iter zFU (b_X0_holds_10 n0 x1 x2 S) v = some t) (k : (fun t => Wp Y_X0_holds S0 F 112 [(3, z_l t)] [] S) t) : Wp Y_X0_holds S0 F 10 [(0, z_r 0 (some n0)), (1, z_r 3 x1), (2, z_i x2), (3, z_l v.1), (5, z_i v.2)] [] S := by
  refine z_iter_P (P := fun v : Int64 × Int32 => Wp Y_X0_holds S0 F 10 [(0, z_r 0 (some n0)), (1, z_r 3 x1), (2, z_i x2), (3, z_l v.1), (5, z_i v.2)] [] S) (X := (fun t => Wp Y_X0_holds S0 F 112 [(3, z_l t)] [] S)) ?_ _ _ _ h k
  clear h k v t
  intro v r h k
  unfold b_X0_holds_10 at h
  refine x_iload 4 dX0_holds_10 rfl ?_
  refine x_if_lt (tgt := 112) dX0_holds_12 (by decide) h (fun h => ?_) (fun h => ?_)
  · cases h
    exact x_lo [3] rfl k
  · refine x_aload_n 0 dX0_holds_15 rfl rfl ?_
    refine x_getR rfl ck_0 2 (by decide) rfl q_580 dX0_holds_16 ?_
    refine x_iload 4 dX0_holds_19 rfl ?_
    refine z_bnd h (fun a1 ha1 h => ?_)
    refine x_baload ha1 ak_13 dX0_holds_21 h (fun v2 hv2 h => ?_)
    refine x_istore (lo' := [(6, z_i v2), (0, z_r 0 (some n0)), (1, z_r 3 x1), (2, z_i x2), (3, z_l v.1), (5, z_i v.2)]) dX0_holds_22 (by decide) rfl ?_
    refine x_lload_n 4 dX0_holds_24 rfl rfl ?_
    refine x_lconst (v := (1 : Int64)) dX0_holds_25 (by decide) ?_
    refine x_land dX0_holds_26 ?_
    refine x_lstore (lo' := [(7, z_l (v.1 &&& (1 : Int64))), (6, z_i v2), (0, z_r 0 (some n0)), (1, z_r 3 x1), (2, z_i x2), (3, z_l v.1), (5, z_i v.2)]) dX0_holds_27 (by decide) rfl ?_
    refine x_iload 1 dX0_holds_29 rfl ?_
    refine x_bipush (v := (38 : Int32)) dX0_holds_31 (by decide) ?_
    refine x_ic_ne (tgt := 50) dX0_holds_33 (by decide) h (fun h => ?_) (fun h => ?_)
    · refine x_iload 1 dX0_holds_50 rfl ?_
      refine x_bipush (v := (124 : Int32)) dX0_holds_52 (by decide) ?_
      refine x_ic_ne (tgt := 67) dX0_holds_54 (by decide) h (fun h => ?_) (fun h => ?_)
      · refine x_iload 1 dX0_holds_67 rfl ?_
        refine x_bipush (v := (33 : Int32)) dX0_holds_69 (by decide) ?_
        refine x_ic_ne (tgt := 81) dX0_holds_71 (by decide) h (fun h => ?_) (fun h => ?_)
        · refine x_iload 1 dX0_holds_81 rfl ?_
          refine z_bnd h (fun q3 hq3 h => ?_)
          refine x_callS1 (w_X0_isDigit hq3) cw_X0_isDigit q_618 ⟨by decide, by decide⟩ (Nat.le_of_ble_eq_true rfl) dX0_holds_83 rfl ?_
          refine x_if_ne (tgt := 106) dX0_holds_86 (by decide) h (fun h => ?_) (fun h => ?_)
          · refine x_iinc (v := (v.2 + (-1))) (lo' := [(5, z_i (v.2 + (-1))), (7, z_l (v.1 &&& (1 : Int64))), (6, z_i v2), (0, z_r 0 (some n0)), (1, z_r 3 x1), (2, z_i x2), (3, z_l v.1)]) 6 dX0_holds_106 rfl (congrArg (HAdd.hAdd v.2) (by decide)) (by decide) rfl ?_
            refine x_goto (tgt := 10) dX0_holds_109 (by decide) ?_
            cases h
            exact x_lo [3, 4, 5, 6, 0] rfl k
          · refine x_lload_n 5 dX0_holds_89 rfl rfl ?_
            refine x_iconst (v := (1 : Int32)) dX0_holds_90 (by decide) ?_
            refine x_lshl dX0_holds_91 ?_
            refine x_aload_n 2 dX0_holds_92 rfl rfl ?_
            refine x_iload 6 dX0_holds_93 rfl ?_
            refine x_aload_n 3 dX0_holds_95 rfl rfl ?_
            refine x_iload_n 4 dX0_holds_96 rfl rfl ?_
            refine z_bnd h (fun q4 hq4 h => ?_)
            refine x_callV1 rfl (w_X0_testHolds hq4) cw_X0_testHolds q_655 ⟨by decide, by decide⟩ (Nat.le_of_ble_eq_true rfl) dX0_holds_97 rfl ?_
            refine z_bnd h (fun q5 hq5 h => ?_)
            refine x_callSN1 (w_X11_asNumber hq5) cw_X11_asNumber q_666 ⟨by decide, by decide⟩ (Nat.le_of_ble_eq_true rfl) dX0_holds_100 rfl ?_
            refine x_i2l dX0_holds_103 ?_
            refine x_lor dX0_holds_104 ?_
            refine x_lstore_n (lo' := [(3, z_l ((v.1 <<< (((1 : Int32)).toInt64 &&& 63)) ||| q5.toInt64)), (7, z_l (v.1 &&& (1 : Int64))), (6, z_i v2), (0, z_r 0 (some n0)), (1, z_r 3 x1), (2, z_i x2), (5, z_i v.2)]) dX0_holds_105 rfl (by decide) rfl ?_
            refine x_iinc (v := (v.2 + (-1))) (lo' := [(5, z_i (v.2 + (-1))), (3, z_l ((v.1 <<< (((1 : Int32)).toInt64 &&& 63)) ||| q5.toInt64)), (7, z_l (v.1 &&& (1 : Int64))), (6, z_i v2), (0, z_r 0 (some n0)), (1, z_r 3 x1), (2, z_i x2)]) 6 dX0_holds_106 rfl (congrArg (HAdd.hAdd v.2) (by decide)) (by decide) rfl ?_
            refine x_goto (tgt := 10) dX0_holds_109 (by decide) ?_
            cases h
            exact x_lo [4, 5, 6, 1, 0] rfl k
        · refine x_lload_n 5 dX0_holds_74 rfl rfl ?_
          refine x_lconst (v := (1 : Int64)) dX0_holds_75 (by decide) ?_
          refine x_lxor dX0_holds_76 ?_
          refine x_lstore_n (lo' := [(3, z_l (v.1 ^^^ (1 : Int64))), (7, z_l (v.1 &&& (1 : Int64))), (6, z_i v2), (0, z_r 0 (some n0)), (1, z_r 3 x1), (2, z_i x2), (5, z_i v.2)]) dX0_holds_77 rfl (by decide) rfl ?_
          refine x_goto (tgt := 106) dX0_holds_78 (by decide) ?_
          refine x_iinc (v := (v.2 + (-1))) (lo' := [(5, z_i (v.2 + (-1))), (3, z_l (v.1 ^^^ (1 : Int64))), (7, z_l (v.1 &&& (1 : Int64))), (6, z_i v2), (0, z_r 0 (some n0)), (1, z_r 3 x1), (2, z_i x2)]) 6 dX0_holds_106 rfl (congrArg (HAdd.hAdd v.2) (by decide)) (by decide) rfl ?_
          refine x_goto (tgt := 10) dX0_holds_109 (by decide) ?_
          cases h
          exact x_lo [4, 5, 6, 1, 0] rfl k
      · refine x_lload_n 5 dX0_holds_57 rfl rfl ?_
        refine x_iconst (v := (1 : Int32)) dX0_holds_58 (by decide) ?_
        refine x_lushr dX0_holds_59 ?_
        refine x_lload 0 dX0_holds_60 rfl ?_
        refine x_lor dX0_holds_62 ?_
        refine x_lstore_n (lo' := [(3, z_l (((v.1).toUInt64 >>> (((1 : Int32)).toInt64.toUInt64 &&& Int64.toUInt64 63)).toInt64 ||| (v.1 &&& (1 : Int64)))), (7, z_l (v.1 &&& (1 : Int64))), (6, z_i v2), (0, z_r 0 (some n0)), (1, z_r 3 x1), (2, z_i x2), (5, z_i v.2)]) dX0_holds_63 rfl (by decide) rfl ?_
        refine x_goto (tgt := 106) dX0_holds_64 (by decide) ?_
        refine x_iinc (v := (v.2 + (-1))) (lo' := [(5, z_i (v.2 + (-1))), (3, z_l (((v.1).toUInt64 >>> (((1 : Int32)).toInt64.toUInt64 &&& Int64.toUInt64 63)).toInt64 ||| (v.1 &&& (1 : Int64)))), (7, z_l (v.1 &&& (1 : Int64))), (6, z_i v2), (0, z_r 0 (some n0)), (1, z_r 3 x1), (2, z_i x2)]) 6 dX0_holds_106 rfl (congrArg (HAdd.hAdd v.2) (by decide)) (by decide) rfl ?_
        refine x_goto (tgt := 10) dX0_holds_109 (by decide) ?_
        cases h
        exact x_lo [4, 5, 6, 1, 0] rfl k
    · refine x_lload_n 5 dX0_holds_36 rfl rfl ?_
      refine x_iconst (v := (1 : Int32)) dX0_holds_37 (by decide) ?_
      refine x_lushr dX0_holds_38 ?_
      refine x_lload 0 dX0_holds_39 rfl ?_
      refine x_ldc2 dX0_holds_41 q_654.1 ?_
      refine x_lor dX0_holds_44 ?_
      refine x_land dX0_holds_45 ?_
      refine x_lstore_n (lo' := [(3, z_l (((v.1).toUInt64 >>> (((1 : Int32)).toInt64.toUInt64 &&& Int64.toUInt64 63)).toInt64 &&& ((v.1 &&& (1 : Int64)) ||| (-2 : Int64)))), (7, z_l (v.1 &&& (1 : Int64))), (6, z_i v2), (0, z_r 0 (some n0)), (1, z_r 3 x1), (2, z_i x2), (5, z_i v.2)]) dX0_holds_46 rfl (by decide) rfl ?_
      refine x_goto (tgt := 106) dX0_holds_47 (by decide) ?_
      refine x_iinc (v := (v.2 + (-1))) (lo' := [(5, z_i (v.2 + (-1))), (3, z_l (((v.1).toUInt64 >>> (((1 : Int32)).toInt64.toUInt64 &&& Int64.toUInt64 63)).toInt64 &&& ((v.1 &&& (1 : Int64)) ||| (-2 : Int64)))), (7, z_l (v.1 &&& (1 : Int64))), (6, z_i v2), (0, z_r 0 (some n0)), (1, z_r 3 x1), (2, z_i x2)]) 6 dX0_holds_106 rfl (congrArg (HAdd.hAdd v.2) (by decide)) (by decide) rfl ?_
      refine x_goto (tgt := 10) dX0_holds_109 (by decide) ?_
      cases h
      exact x_lo [4, 5, 6, 1, 0] rfl k
set_option maxRecDepth 20000 in
set_option maxHeartbeats 1000000 in
theorem w_X0_holds {n0 : Nat} {x1 : Option Nat} {x2 : Int32} {S : ZH} {q : Int32} (h : f_X0_holds n0 x1 x2 S = some q) : MetX Y_X0_holds S [z_r 0 (some n0), z_r 3 x1, z_i x2] (some (z_i q)) S := by
  refine MetX.of (lo := [(0, z_r 0 (some n0)), (1, z_r 3 x1), (2, z_i x2)]) rfl (by decide) (Nat.le_of_ble_eq_true rfl) ?_
  unfold f_X0_holds at h
  refine x_lconst (v := (0 : Int64)) dX0_holds_0 (by decide) ?_
  refine x_lstore_n (lo' := [(3, z_l (0 : Int64)), (0, z_r 0 (some n0)), (1, z_r 3 x1), (2, z_i x2)]) dX0_holds_1 rfl (by decide) rfl ?_
  refine x_aload_n 1 dX0_holds_2 rfl rfl ?_
  refine x_getI rfl ck_0 1 (by decide) rfl q_578 dX0_holds_3 ?_
  refine x_iconst (v := (1 : Int32)) dX0_holds_6 (by decide) ?_
  refine x_isub dX0_holds_7 ?_
  refine x_istore (lo' := [(5, z_i ((zI S 0 n0 1) - (1 : Int32))), (3, z_l (0 : Int64)), (0, z_r 0 (some n0)), (1, z_r 3 x1), (2, z_i x2)]) dX0_holds_8 (by decide) rfl ?_
  refine z_bnd h (fun t6 ht6 h => ?_)
  refine x_lo [2, 3, 4, 1, 0] rfl ?_
  refine l_X0_holds_10 ht6 ?_
  refine x_lload_n 0 dX0_holds_112 rfl rfl ?_
  refine x_lconst (v := (1 : Int64)) dX0_holds_113 (by decide) ?_
  refine x_land dX0_holds_114 ?_
  refine x_lconst (v := (1 : Int64)) dX0_holds_115 (by decide) ?_
  refine x_lcmp dX0_holds_116 ?_
  refine x_if_ne (tgt := 124) dX0_holds_117 (by decide) h (fun h => ?_) (fun h => ?_)
  · refine x_iconst (v := (0 : Int32)) dX0_holds_124 (by decide) ?_
    exact x_zretC rfl (by decide) dX0_holds_125 h
  · refine x_iconst (v := (1 : Int32)) dX0_holds_120 (by decide) ?_
    refine x_goto (tgt := 125) dX0_holds_121 (by decide) ?_
    exact x_zretC rfl (by decide) dX0_holds_125 h
-- PressedMen mayAsShown (LPressedMen$Man;I)Z
abbrev Y_X11_mayAsShown : ZM := (yX11_mayAsShown, cX11_mayAsShown, 5, (some .boolean), 4, 93)
theorem cw_X11_mayAsShown : z_CV Y_X11_mayAsShown 11 2 := ⟨⟨_, _, rfl⟩, by decide, q_648, q_17, q_649, q_70, ⟨by decide, by decide⟩, rfl⟩
def f_X11_mayAsShown (n0 : Nat) (x1 : Option Nat) (x2 : Int32) (S : ZH) : Option (Int32) :=
  (f_X11_actInForce n0 (zI S 11 n0 16) S).bind fun q1 =>
  (f_X11_findAct n0 q1 S).bind fun q2 =>
  if q2 = none then (
    some (0 : Int32)
  ) else (
    (f_X11_findPaper n0 x2 S).bind fun q3 =>
    if q3 = none then (
      (q2).bind fun a4 =>
      (f_X0_holds a4 x1 (0 : Int32) S).bind fun q5 =>
      if z_b q5 = q5 then some q5 else none
    ) else (
      (q3).bind fun a6 =>
      (f_X4_coverage a6 x1 (zI S 11 n0 16) S).bind fun q7 =>
      if q7 ≤ 0 then (
        (q2).bind fun a8 =>
        (f_X0_holds a8 x1 (0 : Int32) S).bind fun q9 =>
        if z_b q9 = q9 then some q9 else none
      ) else (
        (q2).bind fun a10 =>
        (f_X0_holds a10 x1 (1 : Int32) S).bind fun q11 =>
        if z_b q11 = q11 then some q11 else none
      )
    )
  )
set_option maxRecDepth 20000 in
set_option maxHeartbeats 1000000 in
theorem w_X11_mayAsShown {n0 : Nat} {x1 : Option Nat} {x2 : Int32} {S : ZH} {q : Int32} (h : f_X11_mayAsShown n0 x1 x2 S = some q) : MetX Y_X11_mayAsShown S [z_r 11 (some n0), z_r 3 x1, z_i x2] (some (z_i q)) S := by
  refine MetX.of (lo := [(0, z_r 11 (some n0)), (1, z_r 3 x1), (2, z_i x2)]) rfl (by decide) (Nat.le_of_ble_eq_true rfl) ?_
  unfold f_X11_mayAsShown at h
  refine x_aload_n 0 dX11_mayAsShown_0 rfl rfl ?_
  refine x_aload_n 0 dX11_mayAsShown_1 rfl rfl ?_
  refine x_aload_n 0 dX11_mayAsShown_2 rfl rfl ?_
  refine x_getI rfl ck_11 16 (by decide) rfl q_206 dX11_mayAsShown_3 ?_
  refine z_bnd h (fun q1 hq1 h => ?_)
  refine x_callV1 rfl (w_X11_actInForce hq1) cw_X11_actInForce q_634 ⟨by decide, by decide⟩ (Nat.le_of_ble_eq_true rfl) dX11_mayAsShown_6 rfl ?_
  refine z_bnd h (fun q2 hq2 h => ?_)
  refine x_callV1 rfl (w_X11_findAct hq2) cw_X11_findAct q_602 ⟨by decide, by decide⟩ (Nat.le_of_ble_eq_true rfl) dX11_mayAsShown_9 rfl ?_
  refine x_astore_n (lo' := [(3, z_r 0 q2), (0, z_r 11 (some n0)), (1, z_r 3 x1), (2, z_i x2)]) dX11_mayAsShown_12 rfl (by decide) rfl ?_
  refine x_aload_n 0 dX11_mayAsShown_13 rfl rfl ?_
  refine x_ifnonnull (tgt := 19) dX11_mayAsShown_14 (by decide) h (fun h => ?_) (fun h => ?_)
  · refine x_aload_n 1 dX11_mayAsShown_19 rfl rfl ?_
    refine x_iload_n 3 dX11_mayAsShown_20 rfl rfl ?_
    refine z_bnd h (fun q3 hq3 h => ?_)
    refine x_callV1 rfl (w_X11_findPaper hq3) cw_X11_findPaper q_524 ⟨by decide, by decide⟩ (Nat.le_of_ble_eq_true rfl) dX11_mayAsShown_21 rfl ?_
    refine x_astore (lo' := [(4, z_r 4 q3), (3, z_r 0 q2), (0, z_r 11 (some n0)), (1, z_r 3 x1), (2, z_i x2)]) dX11_mayAsShown_24 (by decide) rfl ?_
    refine x_aload_n 1 dX11_mayAsShown_26 rfl rfl ?_
    refine x_aload_n 3 dX11_mayAsShown_27 rfl rfl ?_
    refine x_aload 0 dX11_mayAsShown_28 rfl ?_
    refine x_ifnull (tgt := 50) dX11_mayAsShown_30 (by decide) h (fun h => ?_) (fun h => ?_)
    · refine x_iconst (v := (0 : Int32)) dX11_mayAsShown_50 (by decide) ?_
      refine z_bnd h (fun a4 ha4 h => ?_)
      revert h
      subst ha4
      intro h
      refine z_bnd h (fun q5 hq5 h => ?_)
      refine x_callV1 rfl (w_X0_holds hq5) cw_X0_holds q_650 ⟨by decide, by decide⟩ (Nat.le_of_ble_eq_true rfl) dX11_mayAsShown_51 rfl ?_
      exact x_zret rfl dX11_mayAsShown_54 h
    · refine x_aload 0 dX11_mayAsShown_33 rfl ?_
      refine x_aload_n 3 dX11_mayAsShown_35 rfl rfl ?_
      refine x_aload_n 2 dX11_mayAsShown_36 rfl rfl ?_
      refine x_getI rfl ck_11 16 (by decide) rfl q_206 dX11_mayAsShown_37 ?_
      refine z_bnd h (fun a6 ha6 h => ?_)
      revert h
      subst ha6
      intro h
      refine z_bnd h (fun q7 hq7 h => ?_)
      refine x_callV1 rfl (w_X4_coverage hq7) cw_X4_coverage q_531 ⟨by decide, by decide⟩ (Nat.le_of_ble_eq_true rfl) dX11_mayAsShown_40 rfl ?_
      refine x_if_le (tgt := 50) dX11_mayAsShown_43 (by decide) h (fun h => ?_) (fun h => ?_)
      · refine x_iconst (v := (0 : Int32)) dX11_mayAsShown_50 (by decide) ?_
        refine z_bnd h (fun a8 ha8 h => ?_)
        revert h
        subst ha8
        intro h
        refine z_bnd h (fun q9 hq9 h => ?_)
        refine x_callV1 rfl (w_X0_holds hq9) cw_X0_holds q_650 ⟨by decide, by decide⟩ (Nat.le_of_ble_eq_true rfl) dX11_mayAsShown_51 rfl ?_
        exact x_zret rfl dX11_mayAsShown_54 h
      · refine x_iconst (v := (1 : Int32)) dX11_mayAsShown_46 (by decide) ?_
        refine x_goto (tgt := 51) dX11_mayAsShown_47 (by decide) ?_
        refine z_bnd h (fun a10 ha10 h => ?_)
        revert h
        subst ha10
        intro h
        refine z_bnd h (fun q11 hq11 h => ?_)
        refine x_callV1 rfl (w_X0_holds hq11) cw_X0_holds q_650 ⟨by decide, by decide⟩ (Nat.le_of_ble_eq_true rfl) dX11_mayAsShown_51 rfl ?_
        exact x_zret rfl dX11_mayAsShown_54 h
  · refine x_iconst (v := (0 : Int32)) dX11_mayAsShown_17 (by decide) ?_
    exact x_zretC rfl (by decide) dX11_mayAsShown_18 h
-- PressedMen may (II)I
abbrev Y_X11_may : ZM := (yX11_may, cX11_may, 4, (some .int), 5, 117)
theorem cw_X11_may : z_CV Y_X11_may 11 2 := ⟨⟨_, _, rfl⟩, by decide, q_639, q_640, q_641, q_70, ⟨by decide, by decide⟩, rfl⟩
def f_X11_may (n0 : Nat) (x1 : Int32) (x2 : Int32) (S : ZH) : Option (Int32) :=
  (f_X11_findMan n0 x1 S).bind fun q1 =>
  if q1 = none then (
    some (-1 : Int32)
  ) else (
    (f_X11_isPaperOrNone n0 x2 S).bind fun q2 =>
    if ¬ q2 = 0 then (
      (f_X11_mayAsShown n0 q1 x2 S).bind fun q3 =>
      (f_X11_asNumber q3 S).bind fun q4 =>
      some q4
    ) else (
      some (-1 : Int32)
    )
  )
set_option maxRecDepth 20000 in
set_option maxHeartbeats 1000000 in
theorem w_X11_may {n0 : Nat} {x1 : Int32} {x2 : Int32} {S : ZH} {q : Int32} (h : f_X11_may n0 x1 x2 S = some q) : MetX Y_X11_may S [z_r 11 (some n0), z_i x1, z_i x2] (some (z_i q)) S := by
  refine MetX.of (lo := [(0, z_r 11 (some n0)), (1, z_i x1), (2, z_i x2)]) rfl (by decide) (Nat.le_of_ble_eq_true rfl) ?_
  unfold f_X11_may at h
  refine x_aload_n 0 dX11_may_0 rfl rfl ?_
  refine x_iload_n 1 dX11_may_1 rfl rfl ?_
  refine z_bnd h (fun q1 hq1 h => ?_)
  refine x_callV1 rfl (w_X11_findMan hq1) cw_X11_findMan q_366 ⟨by decide, by decide⟩ (Nat.le_of_ble_eq_true rfl) dX11_may_2 rfl ?_
  refine x_astore_n (lo' := [(3, z_r 3 q1), (0, z_r 11 (some n0)), (1, z_i x1), (2, z_i x2)]) dX11_may_5 rfl (by decide) rfl ?_
  refine x_aload_n 0 dX11_may_6 rfl rfl ?_
  refine x_ifnull (tgt := 18) dX11_may_7 (by decide) h (fun h => ?_) (fun h => ?_)
  · refine x_iconst (v := (-1 : Int32)) dX11_may_18 (by decide) ?_
    exact x_iret rfl dX11_may_19 h
  · refine x_aload_n 1 dX11_may_10 rfl rfl ?_
    refine x_iload_n 3 dX11_may_11 rfl rfl ?_
    refine z_bnd h (fun q2 hq2 h => ?_)
    refine x_callV1 rfl (w_X11_isPaperOrNone hq2) cw_X11_isPaperOrNone q_642 ⟨by decide, by decide⟩ (Nat.le_of_ble_eq_true rfl) dX11_may_12 rfl ?_
    refine x_if_ne (tgt := 20) dX11_may_15 (by decide) h (fun h => ?_) (fun h => ?_)
    · refine x_aload_n 1 dX11_may_20 rfl rfl ?_
      refine x_aload_n 0 dX11_may_21 rfl rfl ?_
      refine x_iload_n 3 dX11_may_22 rfl rfl ?_
      refine z_bnd h (fun q3 hq3 h => ?_)
      refine x_callV1 rfl (w_X11_mayAsShown hq3) cw_X11_mayAsShown q_646 ⟨by decide, by decide⟩ (Nat.le_of_ble_eq_true rfl) dX11_may_23 rfl ?_
      refine z_bnd h (fun q4 hq4 h => ?_)
      refine x_callS1 (w_X11_asNumber hq4) cw_X11_asNumber q_275 ⟨by decide, by decide⟩ (Nat.le_of_ble_eq_true rfl) dX11_may_26 rfl ?_
      exact x_iret rfl dX11_may_29 h
    · refine x_iconst (v := (-1 : Int32)) dX11_may_18 (by decide) ?_
      exact x_iret rfl dX11_may_19 h
-- PressedMen isCoveredInTruth (LPressedMen$Man;I)Z
abbrev Y_X11_isCoveredInTruth : ZM := (yX11_isCoveredInTruth, cX11_isCoveredInTruth, 4, (some .boolean), 4, 87)
theorem cw_X11_isCoveredInTruth : z_CV Y_X11_isCoveredInTruth 11 2 := ⟨⟨_, _, rfl⟩, by decide, q_681, q_22, q_682, q_70, ⟨by decide, by decide⟩, rfl⟩
def b_X11_isCoveredInTruth_2 (n0 : Nat) (x1 : Option Nat) (x2 : Int32) (S : ZH) (v : Int32) : Option ((Int32) ⊕ ((Unit) ⊕ (Int32))) :=
  if (zI S 11 n0 4) ≤ v then (
    some (Sum.inr (Sum.inl ()))
  ) else (
    ((zR S 11 n0 3)).bind fun a1 =>
    (zldR S 23 a1 v).bind fun v2 =>
    (v2).bind fun a3 =>
    if ¬ (zI S 4 a3 0) = x2 then (
      some (Sum.inl ((v + 1)))
    ) else (
      ((zR S 11 n0 3)).bind fun a4 =>
      (zldR S 23 a4 v).bind fun v5 =>
      (v5).bind fun a6 =>
      (f_X4_coverage a6 x1 (zI S 11 n0 16) S).bind fun q7 =>
      if q7 ≤ 0 then (
        some (Sum.inl ((v + 1)))
      ) else (
        some (Sum.inr (Sum.inr (1 : Int32)))
      )
    )
  )
def f_X11_isCoveredInTruth (n0 : Nat) (x1 : Option Nat) (x2 : Int32) (S : ZH) : Option (Int32) :=
  (z_iter zFU (b_X11_isCoveredInTruth_2 n0 x1 x2 S) ((0 : Int32))).bind fun t8 =>
  Sum.elim (fun t =>
    some (0 : Int32)
  ) (fun q => some q) t8
set_option maxRecDepth 20000 in
theorem l_X11_isCoveredInTruth_2 {S0 : ZH} {F : ZP} {n0 : Nat} {x1 : Option Nat} {x2 : Int32} {S : ZH} {v : Int32} {t : (Unit) ⊕ (Int32)} (h : z_iter zFU (b_X11_isCoveredInTruth_2 n0 x1 x2 S) v = some t) (k : (Sum.elim (fun t => Wp Y_X11_isCoveredInTruth S0 F 48 [] [] S) (fun q => F = zF S0 (some (z_i q)) S)) t) : Wp Y_X11_isCoveredInTruth S0 F 2 [(0, z_r 11 (some n0)), (1, z_r 3 x1), (2, z_i x2), (3, z_i v)] [] S := by
  refine z_iter_P (P := fun v : Int32 => Wp Y_X11_isCoveredInTruth S0 F 2 [(0, z_r 11 (some n0)), (1, z_r 3 x1), (2, z_i x2), (3, z_i v)] [] S) (X := (Sum.elim (fun t => Wp Y_X11_isCoveredInTruth S0 F 48 [] [] S) (fun q => F = zF S0 (some (z_i q)) S))) ?_ _ _ _ h k
  clear h k v t
  intro v r h k
  unfold b_X11_isCoveredInTruth_2 at h
  refine x_iload_n 3 dX11_isCoveredInTruth_2 rfl rfl ?_
  refine x_aload_n 0 dX11_isCoveredInTruth_3 rfl rfl ?_
  refine x_getI rfl ck_11 4 (by decide) rfl q_194 dX11_isCoveredInTruth_4 ?_
  refine x_ic_ge (tgt := 48) dX11_isCoveredInTruth_7 (by decide) h (fun h => ?_) (fun h => ?_)
  · cases h
    exact x_lo [] rfl k
  · refine x_aload_n 0 dX11_isCoveredInTruth_10 rfl rfl ?_
    refine x_getR rfl ck_11 3 (by decide) rfl q_193 dX11_isCoveredInTruth_11 ?_
    refine x_iload_n 3 dX11_isCoveredInTruth_14 rfl rfl ?_
    refine z_bnd h (fun a1 ha1 h => ?_)
    refine x_aaload ha1 ak_23 dX11_isCoveredInTruth_15 h (fun v2 hv2 h => ?_)
    refine z_bnd h (fun a3 ha3 h => ?_)
    revert h
    subst ha3
    intro h
    refine x_getI rfl ck_4 0 (by decide) rfl q_501 dX11_isCoveredInTruth_16 ?_
    refine x_iload_n 2 dX11_isCoveredInTruth_19 rfl rfl ?_
    refine x_ic_ne (tgt := 42) dX11_isCoveredInTruth_20 (by decide) h (fun h => ?_) (fun h => ?_)
    · refine x_iinc (v := (v + 1)) (lo' := [(3, z_i (v + 1)), (0, z_r 11 (some n0)), (1, z_r 3 x1), (2, z_i x2)]) 3 dX11_isCoveredInTruth_42 rfl (congrArg (HAdd.hAdd v) (by decide)) (by decide) rfl ?_
      refine x_goto (tgt := 2) dX11_isCoveredInTruth_45 (by decide) ?_
      cases h
      exact x_lo [1, 2, 3, 0] rfl k
    · refine x_aload_n 0 dX11_isCoveredInTruth_23 rfl rfl ?_
      refine x_getR rfl ck_11 3 (by decide) rfl q_193 dX11_isCoveredInTruth_24 ?_
      refine x_iload_n 3 dX11_isCoveredInTruth_27 rfl rfl ?_
      refine z_bnd h (fun a4 ha4 h => ?_)
      refine x_aaload ha4 ak_23 dX11_isCoveredInTruth_28 h (fun v5 hv5 h => ?_)
      refine x_aload_n 1 dX11_isCoveredInTruth_29 rfl rfl ?_
      refine x_aload_n 0 dX11_isCoveredInTruth_30 rfl rfl ?_
      refine x_getI rfl ck_11 16 (by decide) rfl q_206 dX11_isCoveredInTruth_31 ?_
      refine z_bnd h (fun a6 ha6 h => ?_)
      revert h
      subst ha6
      intro h
      refine z_bnd h (fun q7 hq7 h => ?_)
      refine x_callV1 rfl (w_X4_coverage hq7) cw_X4_coverage q_531 ⟨by decide, by decide⟩ (Nat.le_of_ble_eq_true rfl) dX11_isCoveredInTruth_34 rfl ?_
      refine x_if_le (tgt := 42) dX11_isCoveredInTruth_37 (by decide) h (fun h => ?_) (fun h => ?_)
      · refine x_iinc (v := (v + 1)) (lo' := [(3, z_i (v + 1)), (0, z_r 11 (some n0)), (1, z_r 3 x1), (2, z_i x2)]) 3 dX11_isCoveredInTruth_42 rfl (congrArg (HAdd.hAdd v) (by decide)) (by decide) rfl ?_
        refine x_goto (tgt := 2) dX11_isCoveredInTruth_45 (by decide) ?_
        cases h
        exact x_lo [1, 2, 3, 0] rfl k
      · refine x_iconst (v := (1 : Int32)) dX11_isCoveredInTruth_40 (by decide) ?_
        cases h
        have k : F = zF S0 (some (z_i (1 : Int32))) S := k
        subst k
        exact x_zret0 rfl (by decide) dX11_isCoveredInTruth_41
set_option maxRecDepth 20000 in
set_option maxHeartbeats 1000000 in
theorem w_X11_isCoveredInTruth {n0 : Nat} {x1 : Option Nat} {x2 : Int32} {S : ZH} {q : Int32} (h : f_X11_isCoveredInTruth n0 x1 x2 S = some q) : MetX Y_X11_isCoveredInTruth S [z_r 11 (some n0), z_r 3 x1, z_i x2] (some (z_i q)) S := by
  refine MetX.of (lo := [(0, z_r 11 (some n0)), (1, z_r 3 x1), (2, z_i x2)]) rfl (by decide) (Nat.le_of_ble_eq_true rfl) ?_
  unfold f_X11_isCoveredInTruth at h
  refine x_iconst (v := (0 : Int32)) dX11_isCoveredInTruth_0 (by decide) ?_
  refine x_istore_n (lo' := [(3, z_i (0 : Int32)), (0, z_r 11 (some n0)), (1, z_r 3 x1), (2, z_i x2)]) dX11_isCoveredInTruth_1 rfl (by decide) rfl ?_
  refine z_bnd h (fun t8 ht8 h => ?_)
  refine x_lo [1, 2, 3, 0] rfl ?_
  refine l_X11_isCoveredInTruth_2 ht8 ?_
  rcases t8 with t | q
  · have h := (show _ = some _ from h)
    simp only [Sum.elim_inl] at h ⊢
    refine x_iconst (v := (0 : Int32)) dX11_isCoveredInTruth_48 (by decide) ?_
    exact x_zretC rfl (by decide) dX11_isCoveredInTruth_49 h
  · simp only [Sum.elim_inr] at h ⊢
    cases h
    rfl
-- PressedMen holdsInTruth (LPressedMen$Act;I)Z
abbrev Y_X11_holdsInTruth : ZM := (yX11_holdsInTruth, cX11_holdsInTruth, 4, (some .boolean), 5, 110)
theorem cw_X11_holdsInTruth : z_CV Y_X11_holdsInTruth 11 2 := ⟨⟨_, _, rfl⟩, by decide, q_677, q_21, q_678, q_70, ⟨by decide, by decide⟩, rfl⟩
def f_X11_holdsInTruth (n0 : Nat) (x1 : Option Nat) (x2 : Int32) (S : ZH) : Option (Int32) :=
  (f_X11_findMan n0 x2 S).bind fun q1 =>
  if x1 = none then (
    some (0 : Int32)
  ) else (
    if q1 = none then (
      some (0 : Int32)
    ) else (
      (f_X11_isCoveredInTruth n0 q1 x2 S).bind fun q2 =>
      (x1).bind fun a3 =>
      (f_X0_holds a3 q1 q2 S).bind fun q4 =>
      if q4 = 0 then (
        some (0 : Int32)
      ) else (
        some (1 : Int32)
      )
    )
  )
set_option maxRecDepth 20000 in
set_option maxHeartbeats 1000000 in
theorem w_X11_holdsInTruth {n0 : Nat} {x1 : Option Nat} {x2 : Int32} {S : ZH} {q : Int32} (h : f_X11_holdsInTruth n0 x1 x2 S = some q) : MetX Y_X11_holdsInTruth S [z_r 11 (some n0), z_r 0 x1, z_i x2] (some (z_i q)) S := by
  refine MetX.of (lo := [(0, z_r 11 (some n0)), (1, z_r 0 x1), (2, z_i x2)]) rfl (by decide) (Nat.le_of_ble_eq_true rfl) ?_
  unfold f_X11_holdsInTruth at h
  refine x_aload_n 0 dX11_holdsInTruth_0 rfl rfl ?_
  refine x_iload_n 2 dX11_holdsInTruth_1 rfl rfl ?_
  refine z_bnd h (fun q1 hq1 h => ?_)
  refine x_callV1 rfl (w_X11_findMan hq1) cw_X11_findMan q_366 ⟨by decide, by decide⟩ (Nat.le_of_ble_eq_true rfl) dX11_holdsInTruth_2 rfl ?_
  refine x_astore_n (lo' := [(3, z_r 3 q1), (0, z_r 11 (some n0)), (1, z_r 0 x1), (2, z_i x2)]) dX11_holdsInTruth_5 rfl (by decide) rfl ?_
  refine x_aload_n 2 dX11_holdsInTruth_6 rfl rfl ?_
  refine x_ifnull (tgt := 32) dX11_holdsInTruth_7 (by decide) h (fun h => ?_) (fun h => ?_)
  · refine x_iconst (v := (0 : Int32)) dX11_holdsInTruth_32 (by decide) ?_
    exact x_zretC rfl (by decide) dX11_holdsInTruth_33 h
  · refine x_aload_n 0 dX11_holdsInTruth_10 rfl rfl ?_
    refine x_ifnull (tgt := 32) dX11_holdsInTruth_11 (by decide) h (fun h => ?_) (fun h => ?_)
    · refine x_iconst (v := (0 : Int32)) dX11_holdsInTruth_32 (by decide) ?_
      exact x_zretC rfl (by decide) dX11_holdsInTruth_33 h
    · refine x_aload_n 2 dX11_holdsInTruth_14 rfl rfl ?_
      refine x_aload_n 0 dX11_holdsInTruth_15 rfl rfl ?_
      refine x_aload_n 1 dX11_holdsInTruth_16 rfl rfl ?_
      refine x_aload_n 0 dX11_holdsInTruth_17 rfl rfl ?_
      refine x_iload_n 3 dX11_holdsInTruth_18 rfl rfl ?_
      refine z_bnd h (fun q2 hq2 h => ?_)
      refine x_callV1 rfl (w_X11_isCoveredInTruth hq2) cw_X11_isCoveredInTruth q_679 ⟨by decide, by decide⟩ (Nat.le_of_ble_eq_true rfl) dX11_holdsInTruth_19 rfl ?_
      refine z_bnd h (fun a3 ha3 h => ?_)
      revert h
      subst ha3
      intro h
      refine z_bnd h (fun q4 hq4 h => ?_)
      refine x_callV1 rfl (w_X0_holds hq4) cw_X0_holds q_650 ⟨by decide, by decide⟩ (Nat.le_of_ble_eq_true rfl) dX11_holdsInTruth_22 rfl ?_
      refine x_if_eq (tgt := 32) dX11_holdsInTruth_25 (by decide) h (fun h => ?_) (fun h => ?_)
      · refine x_iconst (v := (0 : Int32)) dX11_holdsInTruth_32 (by decide) ?_
        exact x_zretC rfl (by decide) dX11_holdsInTruth_33 h
      · refine x_iconst (v := (1 : Int32)) dX11_holdsInTruth_28 (by decide) ?_
        refine x_goto (tgt := 33) dX11_holdsInTruth_29 (by decide) ?_
        exact x_zretC rfl (by decide) dX11_holdsInTruth_33 h
-- PressedMen mayInTruth (I)Z
abbrev Y_X11_mayInTruth : ZM := (yX11_mayInTruth, cX11_mayInTruth, 2, (some .boolean), 6, 133)
theorem cw_X11_mayInTruth : z_CV Y_X11_mayInTruth 11 1 := ⟨⟨_, _, rfl⟩, by decide, q_673, q_20, q_674, q_70, ⟨by decide, by decide⟩, rfl⟩
def f_X11_mayInTruth (n0 : Nat) (x1 : Int32) (S : ZH) : Option (Int32) :=
  (f_X11_actInForce n0 (zI S 11 n0 16) S).bind fun q1 =>
  (f_X11_findAct n0 q1 S).bind fun q2 =>
  (f_X11_holdsInTruth n0 q2 x1 S).bind fun q3 =>
  if z_b q3 = q3 then some q3 else none
set_option maxRecDepth 20000 in
set_option maxHeartbeats 1000000 in
theorem w_X11_mayInTruth {n0 : Nat} {x1 : Int32} {S : ZH} {q : Int32} (h : f_X11_mayInTruth n0 x1 S = some q) : MetX Y_X11_mayInTruth S [z_r 11 (some n0), z_i x1] (some (z_i q)) S := by
  refine MetX.of (lo := [(0, z_r 11 (some n0)), (1, z_i x1)]) rfl (by decide) (Nat.le_of_ble_eq_true rfl) ?_
  unfold f_X11_mayInTruth at h
  refine x_aload_n 0 dX11_mayInTruth_0 rfl rfl ?_
  refine x_aload_n 0 dX11_mayInTruth_1 rfl rfl ?_
  refine x_aload_n 0 dX11_mayInTruth_2 rfl rfl ?_
  refine x_aload_n 0 dX11_mayInTruth_3 rfl rfl ?_
  refine x_getI rfl ck_11 16 (by decide) rfl q_206 dX11_mayInTruth_4 ?_
  refine z_bnd h (fun q1 hq1 h => ?_)
  refine x_callV1 rfl (w_X11_actInForce hq1) cw_X11_actInForce q_634 ⟨by decide, by decide⟩ (Nat.le_of_ble_eq_true rfl) dX11_mayInTruth_7 rfl ?_
  refine z_bnd h (fun q2 hq2 h => ?_)
  refine x_callV1 rfl (w_X11_findAct hq2) cw_X11_findAct q_602 ⟨by decide, by decide⟩ (Nat.le_of_ble_eq_true rfl) dX11_mayInTruth_10 rfl ?_
  refine x_iload_n 1 dX11_mayInTruth_13 rfl rfl ?_
  refine z_bnd h (fun q3 hq3 h => ?_)
  refine x_callV1 rfl (w_X11_holdsInTruth hq3) cw_X11_holdsInTruth q_675 ⟨by decide, by decide⟩ (Nat.le_of_ble_eq_true rfl) dX11_mayInTruth_14 rfl ?_
  exact x_zret rfl dX11_mayInTruth_17 h
-- PressedMen mayTruly (I)I
abbrev Y_X11_mayTruly : ZM := (yX11_mayTruly, cX11_mayTruly, 2, (some .int), 7, 154)
theorem cw_X11_mayTruly : z_CV Y_X11_mayTruly 11 1 := ⟨⟨_, _, rfl⟩, by decide, q_668, q_669, q_670, q_70, ⟨by decide, by decide⟩, rfl⟩
def f_X11_mayTruly (n0 : Nat) (x1 : Int32) (S : ZH) : Option (Int32) :=
  (f_X11_findMan n0 x1 S).bind fun q1 =>
  if q1 = none then (
    some (-1 : Int32)
  ) else (
    (f_X11_mayInTruth n0 x1 S).bind fun q2 =>
    (f_X11_asNumber q2 S).bind fun q3 =>
    some q3
  )
set_option maxRecDepth 20000 in
set_option maxHeartbeats 1000000 in
theorem w_X11_mayTruly {n0 : Nat} {x1 : Int32} {S : ZH} {q : Int32} (h : f_X11_mayTruly n0 x1 S = some q) : MetX Y_X11_mayTruly S [z_r 11 (some n0), z_i x1] (some (z_i q)) S := by
  refine MetX.of (lo := [(0, z_r 11 (some n0)), (1, z_i x1)]) rfl (by decide) (Nat.le_of_ble_eq_true rfl) ?_
  unfold f_X11_mayTruly at h
  refine x_aload_n 0 dX11_mayTruly_0 rfl rfl ?_
  refine x_iload_n 1 dX11_mayTruly_1 rfl rfl ?_
  refine z_bnd h (fun q1 hq1 h => ?_)
  refine x_callV1 rfl (w_X11_findMan hq1) cw_X11_findMan q_366 ⟨by decide, by decide⟩ (Nat.le_of_ble_eq_true rfl) dX11_mayTruly_2 rfl ?_
  refine x_ifnonnull (tgt := 12) dX11_mayTruly_5 (by decide) h (fun h => ?_) (fun h => ?_)
  · refine x_aload_n 0 dX11_mayTruly_12 rfl rfl ?_
    refine x_iload_n 1 dX11_mayTruly_13 rfl rfl ?_
    refine z_bnd h (fun q2 hq2 h => ?_)
    refine x_callV1 rfl (w_X11_mayInTruth hq2) cw_X11_mayInTruth q_671 ⟨by decide, by decide⟩ (Nat.le_of_ble_eq_true rfl) dX11_mayTruly_14 rfl ?_
    refine z_bnd h (fun q3 hq3 h => ?_)
    refine x_callS1 (w_X11_asNumber hq3) cw_X11_asNumber q_275 ⟨by decide, by decide⟩ (Nat.le_of_ble_eq_true rfl) dX11_mayTruly_17 rfl ?_
    exact x_iret rfl dX11_mayTruly_20 h
  · refine x_iconst (v := (-1 : Int32)) dX11_mayTruly_8 (by decide) ?_
    refine x_goto (tgt := 20) dX11_mayTruly_9 (by decide) ?_
    exact x_iret rfl dX11_mayTruly_20 h
-- PressedMen isInShipAtHome (I)Z
abbrev Y_X11_isInShipAtHome : ZM := (yX11_isInShipAtHome, cX11_isInShipAtHome, 3, (some .boolean), 2, 43)
theorem cw_X11_isInShipAtHome : z_CV Y_X11_isInShipAtHome 11 1 := ⟨⟨_, _, rfl⟩, by decide, q_693, q_24, q_694, q_70, ⟨by decide, by decide⟩, rfl⟩
def j_X11_isInShipAtHome_19  (s0 : Option Nat) (S : ZH) : Option (Int32) :=
  if s0 = none then (
    some (0 : Int32)
  ) else (
    (s0).bind fun a2 =>
    if (zI S 6 a2 4) = 0 then (
      some (0 : Int32)
    ) else (
      some (1 : Int32)
    )
  )
def f_X11_isInShipAtHome (n0 : Nat) (x1 : Int32) (S : ZH) : Option (Int32) :=
  (f_X11_isShip x1 S).bind fun q1 =>
  if q1 = 0 then (
    j_X11_isInShipAtHome_19 none S
  ) else (
    (f_X11_findShip n0 (x1 - (10 : Int32)) S).bind fun q3 =>
    j_X11_isInShipAtHome_19 q3 S
  )
set_option maxRecDepth 20000 in
theorem k_X11_isInShipAtHome_19 {S0 : ZH}  {s0 : Option Nat} {S : ZH} {z : Int32} (h : j_X11_isInShipAtHome_19 s0 S = some z) : Wp Y_X11_isInShipAtHome S0 (zF S0 (some (z_i z)) S) 19 [] [z_r 6 s0] S := by
  unfold j_X11_isInShipAtHome_19 at h
  refine x_astore_n (lo' := [(2, z_r 6 s0)]) dX11_isInShipAtHome_19 rfl (by decide) rfl ?_
  refine x_aload_n 0 dX11_isInShipAtHome_20 rfl rfl ?_
  refine x_ifnull (tgt := 35) dX11_isInShipAtHome_21 (by decide) h (fun h => ?_) (fun h => ?_)
  · refine x_iconst (v := (0 : Int32)) dX11_isInShipAtHome_35 (by decide) ?_
    exact x_zretC rfl (by decide) dX11_isInShipAtHome_36 h
  · refine x_aload_n 0 dX11_isInShipAtHome_24 rfl rfl ?_
    refine z_bnd h (fun a2 ha2 h => ?_)
    revert h
    subst ha2
    intro h
    refine x_getI rfl ck_6 4 (by decide) rfl q_868 dX11_isInShipAtHome_25 ?_
    refine x_if_eq (tgt := 35) dX11_isInShipAtHome_28 (by decide) h (fun h => ?_) (fun h => ?_)
    · refine x_iconst (v := (0 : Int32)) dX11_isInShipAtHome_35 (by decide) ?_
      exact x_zretC rfl (by decide) dX11_isInShipAtHome_36 h
    · refine x_iconst (v := (1 : Int32)) dX11_isInShipAtHome_31 (by decide) ?_
      refine x_goto (tgt := 36) dX11_isInShipAtHome_32 (by decide) ?_
      exact x_zretC rfl (by decide) dX11_isInShipAtHome_36 h
set_option maxRecDepth 20000 in
set_option maxHeartbeats 1000000 in
theorem w_X11_isInShipAtHome {n0 : Nat} {x1 : Int32} {S : ZH} {q : Int32} (h : f_X11_isInShipAtHome n0 x1 S = some q) : MetX Y_X11_isInShipAtHome S [z_r 11 (some n0), z_i x1] (some (z_i q)) S := by
  refine MetX.of (lo := [(0, z_r 11 (some n0)), (1, z_i x1)]) rfl (by decide) (Nat.le_of_ble_eq_true rfl) ?_
  unfold f_X11_isInShipAtHome at h
  refine x_iload_n 1 dX11_isInShipAtHome_0 rfl rfl ?_
  refine z_bnd h (fun q1 hq1 h => ?_)
  refine x_callS1 (w_X11_isShip hq1) cw_X11_isShip q_695 ⟨by decide, by decide⟩ (Nat.le_of_ble_eq_true rfl) dX11_isInShipAtHome_1 rfl ?_
  refine x_if_eq (tgt := 18) dX11_isInShipAtHome_4 (by decide) h (fun h => ?_) (fun h => ?_)
  · refine x_null 6 dX11_isInShipAtHome_18 ?_
    exact x_lo [] rfl (k_X11_isInShipAtHome_19 h)
  · refine x_aload_n 0 dX11_isInShipAtHome_7 rfl rfl ?_
    refine x_iload_n 1 dX11_isInShipAtHome_8 rfl rfl ?_
    refine x_bipush (v := (10 : Int32)) dX11_isInShipAtHome_9 (by decide) ?_
    refine x_isub dX11_isInShipAtHome_11 ?_
    refine z_bnd h (fun q3 hq3 h => ?_)
    refine x_callV1 rfl (w_X11_findShip hq3) cw_X11_findShip q_394 ⟨by decide, by decide⟩ (Nat.le_of_ble_eq_true rfl) dX11_isInShipAtHome_12 rfl ?_
    refine x_goto (tgt := 19) dX11_isInShipAtHome_15 (by decide) ?_
    exact x_lo [] rfl (k_X11_isInShipAtHome_19 h)
-- PressedMen isInShipOf (II)Z
abbrev Y_X11_isInShipOf : ZM := (yX11_isInShipOf, cX11_isInShipOf, 4, (some .boolean), 2, 43)
theorem cw_X11_isInShipOf : z_CV Y_X11_isInShipOf 11 2 := ⟨⟨_, _, rfl⟩, by decide, q_698, q_25, q_699, q_70, ⟨by decide, by decide⟩, rfl⟩
def j_X11_isInShipOf_19 (x1 : Int32) (s0 : Option Nat) (S : ZH) : Option (Int32) :=
  if s0 = none then (
    some (0 : Int32)
  ) else (
    (s0).bind fun a2 =>
    if ¬ (zI S 6 a2 0) = x1 then (
      some (0 : Int32)
    ) else (
      some (1 : Int32)
    )
  )
def f_X11_isInShipOf (n0 : Nat) (x1 : Int32) (x2 : Int32) (S : ZH) : Option (Int32) :=
  (f_X11_isShip x2 S).bind fun q1 =>
  if q1 = 0 then (
    j_X11_isInShipOf_19 x1 none S
  ) else (
    (f_X11_findShip n0 (x2 - (10 : Int32)) S).bind fun q3 =>
    j_X11_isInShipOf_19 x1 q3 S
  )
set_option maxRecDepth 20000 in
theorem k_X11_isInShipOf_19 {S0 : ZH} {x1 : Int32} {s0 : Option Nat} {S : ZH} {z : Int32} (h : j_X11_isInShipOf_19 x1 s0 S = some z) : Wp Y_X11_isInShipOf S0 (zF S0 (some (z_i z)) S) 19 [(1, z_i x1)] [z_r 6 s0] S := by
  unfold j_X11_isInShipOf_19 at h
  refine x_astore_n (lo' := [(3, z_r 6 s0), (1, z_i x1)]) dX11_isInShipOf_19 rfl (by decide) rfl ?_
  refine x_aload_n 0 dX11_isInShipOf_20 rfl rfl ?_
  refine x_ifnull (tgt := 36) dX11_isInShipOf_21 (by decide) h (fun h => ?_) (fun h => ?_)
  · refine x_iconst (v := (0 : Int32)) dX11_isInShipOf_36 (by decide) ?_
    exact x_zretC rfl (by decide) dX11_isInShipOf_37 h
  · refine x_aload_n 0 dX11_isInShipOf_24 rfl rfl ?_
    refine z_bnd h (fun a2 ha2 h => ?_)
    revert h
    subst ha2
    intro h
    refine x_getI rfl ck_6 0 (by decide) rfl q_860 dX11_isInShipOf_25 ?_
    refine x_iload_n 1 dX11_isInShipOf_28 rfl rfl ?_
    refine x_ic_ne (tgt := 36) dX11_isInShipOf_29 (by decide) h (fun h => ?_) (fun h => ?_)
    · refine x_iconst (v := (0 : Int32)) dX11_isInShipOf_36 (by decide) ?_
      exact x_zretC rfl (by decide) dX11_isInShipOf_37 h
    · refine x_iconst (v := (1 : Int32)) dX11_isInShipOf_32 (by decide) ?_
      refine x_goto (tgt := 37) dX11_isInShipOf_33 (by decide) ?_
      exact x_zretC rfl (by decide) dX11_isInShipOf_37 h
set_option maxRecDepth 20000 in
set_option maxHeartbeats 1000000 in
theorem w_X11_isInShipOf {n0 : Nat} {x1 : Int32} {x2 : Int32} {S : ZH} {q : Int32} (h : f_X11_isInShipOf n0 x1 x2 S = some q) : MetX Y_X11_isInShipOf S [z_r 11 (some n0), z_i x1, z_i x2] (some (z_i q)) S := by
  refine MetX.of (lo := [(0, z_r 11 (some n0)), (1, z_i x1), (2, z_i x2)]) rfl (by decide) (Nat.le_of_ble_eq_true rfl) ?_
  unfold f_X11_isInShipOf at h
  refine x_iload_n 2 dX11_isInShipOf_0 rfl rfl ?_
  refine z_bnd h (fun q1 hq1 h => ?_)
  refine x_callS1 (w_X11_isShip hq1) cw_X11_isShip q_695 ⟨by decide, by decide⟩ (Nat.le_of_ble_eq_true rfl) dX11_isInShipOf_1 rfl ?_
  refine x_if_eq (tgt := 18) dX11_isInShipOf_4 (by decide) h (fun h => ?_) (fun h => ?_)
  · refine x_null 6 dX11_isInShipOf_18 ?_
    exact x_lo [1] rfl (k_X11_isInShipOf_19 h)
  · refine x_aload_n 0 dX11_isInShipOf_7 rfl rfl ?_
    refine x_iload_n 2 dX11_isInShipOf_8 rfl rfl ?_
    refine x_bipush (v := (10 : Int32)) dX11_isInShipOf_9 (by decide) ?_
    refine x_isub dX11_isInShipOf_11 ?_
    refine z_bnd h (fun q3 hq3 h => ?_)
    refine x_callV1 rfl (w_X11_findShip hq3) cw_X11_findShip q_394 ⟨by decide, by decide⟩ (Nat.le_of_ble_eq_true rfl) dX11_isInShipOf_12 rfl ?_
    refine x_goto (tgt := 19) dX11_isInShipOf_15 (by decide) ?_
    exact x_lo [1] rfl (k_X11_isInShipOf_19 h)
-- PressedMen isWithinReach (I)Z
abbrev Y_X11_isWithinReach : ZM := (yX11_isWithinReach, cX11_isWithinReach, 2, (some .boolean), 3, 66)
theorem cw_X11_isWithinReach : z_CV Y_X11_isWithinReach 11 1 := ⟨⟨_, _, rfl⟩, by decide, q_689, q_23, q_690, q_70, ⟨by decide, by decide⟩, rfl⟩
def f_X11_isWithinReach (n0 : Nat) (x1 : Int32) (S : ZH) : Option (Int32) :=
  (f_X11_isStreet x1 S).bind fun q1 =>
  if ¬ q1 = 0 then (
    some (1 : Int32)
  ) else (
    (f_X11_isInShipAtHome n0 x1 S).bind fun q2 =>
    if q2 = 0 then (
      some (0 : Int32)
    ) else (
      (f_X11_isInShipOf n0 (1 : Int32) x1 S).bind fun q3 =>
      if q3 = 0 then (
        some (0 : Int32)
      ) else (
        some (1 : Int32)
      )
    )
  )
set_option maxRecDepth 20000 in
set_option maxHeartbeats 1000000 in
theorem w_X11_isWithinReach {n0 : Nat} {x1 : Int32} {S : ZH} {q : Int32} (h : f_X11_isWithinReach n0 x1 S = some q) : MetX Y_X11_isWithinReach S [z_r 11 (some n0), z_i x1] (some (z_i q)) S := by
  refine MetX.of (lo := [(0, z_r 11 (some n0)), (1, z_i x1)]) rfl (by decide) (Nat.le_of_ble_eq_true rfl) ?_
  unfold f_X11_isWithinReach at h
  refine x_iload_n 1 dX11_isWithinReach_0 rfl rfl ?_
  refine z_bnd h (fun q1 hq1 h => ?_)
  refine x_callS1 (w_X11_isStreet hq1) cw_X11_isStreet q_423 ⟨by decide, by decide⟩ (Nat.le_of_ble_eq_true rfl) dX11_isWithinReach_1 rfl ?_
  refine x_if_ne (tgt := 24) dX11_isWithinReach_4 (by decide) h (fun h => ?_) (fun h => ?_)
  · refine x_iconst (v := (1 : Int32)) dX11_isWithinReach_24 (by decide) ?_
    refine x_goto (tgt := 29) dX11_isWithinReach_25 (by decide) ?_
    exact x_zretC rfl (by decide) dX11_isWithinReach_29 h
  · refine x_aload_n 0 dX11_isWithinReach_7 rfl rfl ?_
    refine x_iload_n 1 dX11_isWithinReach_8 rfl rfl ?_
    refine z_bnd h (fun q2 hq2 h => ?_)
    refine x_callV1 rfl (w_X11_isInShipAtHome hq2) cw_X11_isInShipAtHome q_691 ⟨by decide, by decide⟩ (Nat.le_of_ble_eq_true rfl) dX11_isWithinReach_9 rfl ?_
    refine x_if_eq (tgt := 28) dX11_isWithinReach_12 (by decide) h (fun h => ?_) (fun h => ?_)
    · refine x_iconst (v := (0 : Int32)) dX11_isWithinReach_28 (by decide) ?_
      exact x_zretC rfl (by decide) dX11_isWithinReach_29 h
    · refine x_aload_n 0 dX11_isWithinReach_15 rfl rfl ?_
      refine x_iconst (v := (1 : Int32)) dX11_isWithinReach_16 (by decide) ?_
      refine x_iload_n 1 dX11_isWithinReach_17 rfl rfl ?_
      refine z_bnd h (fun q3 hq3 h => ?_)
      refine x_callV1 rfl (w_X11_isInShipOf hq3) cw_X11_isInShipOf q_696 ⟨by decide, by decide⟩ (Nat.le_of_ble_eq_true rfl) dX11_isWithinReach_18 rfl ?_
      refine x_if_eq (tgt := 28) dX11_isWithinReach_21 (by decide) h (fun h => ?_) (fun h => ?_)
      · refine x_iconst (v := (0 : Int32)) dX11_isWithinReach_28 (by decide) ?_
        exact x_zretC rfl (by decide) dX11_isWithinReach_29 h
      · refine x_iconst (v := (1 : Int32)) dX11_isWithinReach_24 (by decide) ?_
        refine x_goto (tgt := 29) dX11_isWithinReach_25 (by decide) ?_
        exact x_zretC rfl (by decide) dX11_isWithinReach_29 h
-- PressedMen$Taking <init> (IIIIZZ)V
abbrev Y_X8_init : ZM := (yX8_init, cX8_init, 7, none, 1, 20)
theorem cw_X8_init : z_CI Y_X8_init 6 := ⟨rfl, rfl, q_703, q_704, q_84, ⟨by decide, by decide⟩, rfl⟩
def f_X8_init (n0 : Nat) (x1 : Int32) (x2 : Int32) (x3 : Int32) (x4 : Int32) (x5 : Int32) (x6 : Int32) (S : ZH) : Option (ZH) :=
  if z_b x5 = x5 then (
    if z_b x6 = x6 then (
      some (zsI (zsI (zsI (zsI (zsI (zsI S 8 n0 0 x1) 8 n0 1 x2) 8 n0 2 x3) 8 n0 3 x4) 8 n0 4 x5) 8 n0 5 x6)
    ) else none
  ) else none
set_option maxRecDepth 20000 in
set_option maxHeartbeats 1000000 in
theorem w_X8_init {n0 : Nat} {x1 : Int32} {x2 : Int32} {x3 : Int32} {x4 : Int32} {x5 : Int32} {x6 : Int32} {S : ZH} {q : ZH} (h : f_X8_init n0 x1 x2 x3 x4 x5 x6 S = some q) : MetX Y_X8_init S [z_r 8 (some n0), z_i x1, z_i x2, z_i x3, z_i x4, z_i x5, z_i x6] none q := by
  refine MetX.of (lo := [(0, z_r 8 (some n0)), (1, z_i x1), (2, z_i x2), (3, z_i x3), (4, z_i x4), (5, z_i x5), (6, z_i x6)]) rfl (by decide) (Nat.le_of_ble_eq_true rfl) ?_
  unfold f_X8_init at h
  refine x_aload_n 0 dX8_init_0 rfl rfl ?_
  refine x_objInit rfl q_705 q_94 q_95 ⟨by decide, by decide⟩ (Nat.le_of_ble_eq_true rfl) dX8_init_1 ?_
  refine x_aload_n 0 dX8_init_4 rfl rfl ?_
  refine x_iload_n 1 dX8_init_5 rfl rfl ?_
  refine x_putI rfl ck_8 0 (by decide) rfl (Or.inr ⟨rfl, rfl, rfl⟩) (by rfl) rfl q_706 dX8_init_6 ?_
  refine x_aload_n 0 dX8_init_9 rfl rfl ?_
  refine x_iload_n 2 dX8_init_10 rfl rfl ?_
  refine x_putI rfl ck_8 1 (by decide) rfl (Or.inr ⟨rfl, rfl, rfl⟩) (by rfl) rfl q_709 dX8_init_11 ?_
  refine x_aload_n 0 dX8_init_14 rfl rfl ?_
  refine x_iload_n 3 dX8_init_15 rfl rfl ?_
  refine x_putI rfl ck_8 2 (by decide) rfl (Or.inr ⟨rfl, rfl, rfl⟩) (by rfl) rfl q_712 dX8_init_16 ?_
  refine x_aload_n 0 dX8_init_19 rfl rfl ?_
  refine x_iload 4 dX8_init_20 rfl ?_
  refine x_putI rfl ck_8 3 (by decide) rfl (Or.inr ⟨rfl, rfl, rfl⟩) (by rfl) rfl q_715 dX8_init_22 ?_
  refine x_aload_n 0 dX8_init_25 rfl rfl ?_
  refine x_iload 5 dX8_init_26 rfl ?_
  refine z_ite h (fun hz1 h => ?_) (fun _ h => by cases h)
  refine x_putI rfl ck_8 4 (by decide) rfl (Or.inr ⟨rfl, rfl, rfl⟩) ((z_nar_b _).trans (congrArg Value.int hz1)) (z_fit_b hz1) q_718 dX8_init_28 ?_
  refine x_aload_n 0 dX8_init_31 rfl rfl ?_
  refine x_iload 6 dX8_init_32 rfl ?_
  refine z_ite h (fun hz2 h => ?_) (fun _ h => by cases h)
  refine x_putI rfl ck_8 5 (by decide) rfl (Or.inr ⟨rfl, rfl, rfl⟩) ((z_nar_b _).trans (congrArg Value.int hz2)) (z_fit_b hz2) q_720 dX8_init_34 ?_
  exact x_vretE rfl dX8_init_37 h
-- PressedMen$Register add (LPressedMen$Taking;)V
abbrev Y_X5_add : ZM := (yX5_add, cX5_add, 2, none, 0, 0)
theorem cw_X5_add : z_CV Y_X5_add 5 1 := ⟨⟨_, _, rfl⟩, by decide, q_736, q_737, q_738, q_72, ⟨by decide, by decide⟩, rfl⟩
def f_X5_add (n0 : Nat) (x1 : Option Nat) (S : ZH) : Option (ZH) :=
  ((zR S 5 n0 1)).bind fun a1 =>
  if (nI (zL S 19 a1)) ≤ (zI S 5 n0 0) then (
    some S
  ) else (
    ((zR S 5 n0 1)).bind fun a2 =>
    (x1).bind fun a3 =>
    (zstR S 19 a2 (zI S 5 n0 0) (some a3)).bind fun S4 =>
    some (zsI S4 5 n0 0 ((zI S4 5 n0 0) + (1 : Int32)))
  )
set_option maxRecDepth 20000 in
set_option maxHeartbeats 1000000 in
theorem w_X5_add {n0 : Nat} {x1 : Option Nat} {S : ZH} {q : ZH} (h : f_X5_add n0 x1 S = some q) : MetX Y_X5_add S [z_r 5 (some n0), z_r 8 x1] none q := by
  refine MetX.of (lo := [(0, z_r 5 (some n0)), (1, z_r 8 x1)]) rfl (by decide) (Nat.le_of_ble_eq_true rfl) ?_
  unfold f_X5_add at h
  refine x_aload_n 0 dX5_add_0 rfl rfl ?_
  refine x_getI rfl ck_5 0 (by decide) rfl q_133 dX5_add_1 ?_
  refine x_aload_n 0 dX5_add_4 rfl rfl ?_
  refine x_getR rfl ck_5 1 (by decide) rfl q_135 dX5_add_5 ?_
  refine z_bnd h (fun a1 ha1 h => ?_)
  refine x_alen ha1 (by decide) (by decide) dX5_add_8 ?_
  refine x_ic_ge (tgt := 32) dX5_add_9 (by decide) h (fun h => ?_) (fun h => ?_)
  · exact x_vretE rfl dX5_add_32 h
  · refine x_aload_n 0 dX5_add_12 rfl rfl ?_
    refine x_getR rfl ck_5 1 (by decide) rfl q_135 dX5_add_13 ?_
    refine x_aload_n 0 dX5_add_16 rfl rfl ?_
    refine x_getI rfl ck_5 0 (by decide) rfl q_133 dX5_add_17 ?_
    refine x_aload_n 1 dX5_add_20 rfl rfl ?_
    refine z_bnd h (fun a2 ha2 h => ?_)
    refine z_bnd h (fun a3 ha3 h => ?_)
    revert h
    subst ha3
    intro h
    refine x_aastore ha2 ak_19 dX5_add_21 h (fun S4 hS4 h => ?_)
    refine x_aload_n 0 dX5_add_22 rfl rfl ?_
    refine x_dup dX5_add_23 rfl ?_
    refine x_getI rfl ck_5 0 (by decide) rfl q_133 dX5_add_24 ?_
    refine x_iconst (v := (1 : Int32)) dX5_add_27 (by decide) ?_
    refine x_iadd dX5_add_28 ?_
    refine x_putI rfl ck_5 0 (by decide) rfl (Or.inl rfl) (by rfl) rfl q_133 dX5_add_29 ?_
    exact x_vretE rfl dX5_add_32 h
-- PressedMen take (II)I
abbrev Y_X11_take : ZM := (yX11_take, cX11_take, 5, (some .int), 7, 154)
theorem cw_X11_take : z_CV Y_X11_take 11 2 := ⟨⟨_, _, rfl⟩, by decide, q_684, q_685, q_686, q_70, ⟨by decide, by decide⟩, rfl⟩
def f_X11_take (n0 : Nat) (x1 : Int32) (x2 : Int32) (S : ZH) : Option (Int32 × ZH) :=
  (f_X11_findMan n0 x1 S).bind fun q1 =>
  if q1 = none then (
    some ((-1 : Int32), S)
  ) else (
    (f_X11_isPaperOrNone n0 x2 S).bind fun q2 =>
    if ¬ q2 = 0 then (
      (q1).bind fun a3 =>
      (f_X11_isWithinReach n0 (zI S 3 a3 8) S).bind fun q4 =>
      if ¬ q4 = 0 then (
        ((zR S 11 n0 7)).bind fun a5 =>
        if (zI S 5 a5 0) < (60 : Int32) then (
          (zal S 8 6).bind fun S6 =>
          (f_X11_mayAsShown n0 (some a3) x2 S6).bind fun q7 =>
          (f_X11_mayInTruth n0 x1 S6).bind fun q8 =>
          (f_X8_init (zN S 8) (zI S6 11 n0 16) x1 x2 (zI S6 3 a3 8) q7 q8 S6).bind fun q9 =>
          (f_X3_goTo a3 (20 : Int32) (zI (zsR q9 3 a3 10 (some (zN S 8))) 11 n0 16) (zsR q9 3 a3 10 (some (zN S 8)))).bind fun q10 =>
          ((zR q10.2 11 n0 7)).bind fun a11 =>
          (f_X5_add a11 (some (zN S 8)) q10.2).bind fun q12 =>
          ((zR q12 11 n0 7)).bind fun a13 =>
          some (((zI q12 5 a13 0) - (1 : Int32)), q12)
        ) else (
          some ((-4 : Int32), S)
        )
      ) else (
        some ((-3 : Int32), S)
      )
    ) else (
      some ((-1 : Int32), S)
    )
  )
set_option maxRecDepth 20000 in
set_option maxHeartbeats 1000000 in
theorem w_X11_take {n0 : Nat} {x1 : Int32} {x2 : Int32} {S : ZH} {q : Int32 × ZH} (h : f_X11_take n0 x1 x2 S = some q) : MetX Y_X11_take S [z_r 11 (some n0), z_i x1, z_i x2] (some (z_i q.1)) q.2 := by
  refine MetX.of (lo := [(0, z_r 11 (some n0)), (1, z_i x1), (2, z_i x2)]) rfl (by decide) (Nat.le_of_ble_eq_true rfl) ?_
  unfold f_X11_take at h
  refine x_aload_n 0 dX11_take_0 rfl rfl ?_
  refine x_iload_n 1 dX11_take_1 rfl rfl ?_
  refine z_bnd h (fun q1 hq1 h => ?_)
  refine x_callV1 rfl (w_X11_findMan hq1) cw_X11_findMan q_366 ⟨by decide, by decide⟩ (Nat.le_of_ble_eq_true rfl) dX11_take_2 rfl ?_
  refine x_astore_n (lo' := [(3, z_r 3 q1), (0, z_r 11 (some n0)), (1, z_i x1), (2, z_i x2)]) dX11_take_5 rfl (by decide) rfl ?_
  refine x_aload_n 0 dX11_take_6 rfl rfl ?_
  refine x_ifnull (tgt := 18) dX11_take_7 (by decide) h (fun h => ?_) (fun h => ?_)
  · refine x_iconst (v := (-1 : Int32)) dX11_take_18 (by decide) ?_
    exact x_iretE rfl dX11_take_19 h
  · refine x_aload_n 1 dX11_take_10 rfl rfl ?_
    refine x_iload_n 3 dX11_take_11 rfl rfl ?_
    refine z_bnd h (fun q2 hq2 h => ?_)
    refine x_callV1 rfl (w_X11_isPaperOrNone hq2) cw_X11_isPaperOrNone q_642 ⟨by decide, by decide⟩ (Nat.le_of_ble_eq_true rfl) dX11_take_12 rfl ?_
    refine x_if_ne (tgt := 20) dX11_take_15 (by decide) h (fun h => ?_) (fun h => ?_)
    · refine x_aload_n 1 dX11_take_20 rfl rfl ?_
      refine x_aload_n 0 dX11_take_21 rfl rfl ?_
      refine z_bnd h (fun a3 ha3 h => ?_)
      revert h
      subst ha3
      intro h
      refine x_getI rfl ck_3 8 (by decide) rfl q_327 dX11_take_22 ?_
      refine z_bnd h (fun q4 hq4 h => ?_)
      refine x_callV1 rfl (w_X11_isWithinReach hq4) cw_X11_isWithinReach q_687 ⟨by decide, by decide⟩ (Nat.le_of_ble_eq_true rfl) dX11_take_25 rfl ?_
      refine x_if_ne (tgt := 34) dX11_take_28 (by decide) h (fun h => ?_) (fun h => ?_)
      · refine x_aload_n 1 dX11_take_34 rfl rfl ?_
        refine x_getR rfl ck_11 7 (by decide) rfl q_197 dX11_take_35 ?_
        refine z_bnd h (fun a5 ha5 h => ?_)
        refine x_getI ha5 ck_5 0 (by decide) rfl q_134 dX11_take_38 ?_
        refine x_bipush (v := (60 : Int32)) dX11_take_41 (by decide) ?_
        refine x_ic_lt (tgt := 49) dX11_take_43 (by decide) h (fun h => ?_) (fun h => ?_)
        · refine x_new ck_8 q_700 dX11_take_49 h (fun S6 hS6 h => ?_)
          refine x_dup dX11_take_52 rfl ?_
          refine x_aload_n 1 dX11_take_53 rfl rfl ?_
          refine x_getI rfl ck_11 16 (by decide) rfl q_206 dX11_take_54 ?_
          refine x_iload_n 2 dX11_take_57 rfl rfl ?_
          refine x_iload_n 3 dX11_take_58 rfl rfl ?_
          refine x_aload_n 0 dX11_take_59 rfl rfl ?_
          refine x_getI rfl ck_3 8 (by decide) rfl q_327 dX11_take_60 ?_
          refine x_aload_n 1 dX11_take_63 rfl rfl ?_
          refine x_aload_n 0 dX11_take_64 rfl rfl ?_
          refine x_iload_n 3 dX11_take_65 rfl rfl ?_
          refine z_bnd h (fun q7 hq7 h => ?_)
          refine x_callV1 rfl (w_X11_mayAsShown hq7) cw_X11_mayAsShown q_646 ⟨by decide, by decide⟩ (Nat.le_of_ble_eq_true rfl) dX11_take_66 rfl ?_
          refine x_aload_n 1 dX11_take_69 rfl rfl ?_
          refine x_iload_n 2 dX11_take_70 rfl rfl ?_
          refine z_bnd h (fun q8 hq8 h => ?_)
          refine x_callV1 rfl (w_X11_mayInTruth hq8) cw_X11_mayInTruth q_671 ⟨by decide, by decide⟩ (Nat.le_of_ble_eq_true rfl) dX11_take_71 rfl ?_
          refine z_bnd h (fun q9 hq9 h => ?_)
          refine x_callIv rfl (w_X8_init hq9) cw_X8_init q_702 ⟨by decide, by decide⟩ (Nat.le_of_ble_eq_true rfl) dX11_take_74 rfl ?_
          refine x_astore (lo' := [(4, z_r 8 (some (zN S 8))), (3, z_r 3 (some a3)), (0, z_r 11 (some n0)), (1, z_i x1), (2, z_i x2)]) dX11_take_77 (by decide) rfl ?_
          refine x_aload_n 1 dX11_take_79 rfl rfl ?_
          refine x_aload 0 dX11_take_80 rfl ?_
          refine x_putR rfl ck_3 10 (by decide) rfl (Or.inl rfl) (Or.inl ⟨_, rfl⟩) q_329 dX11_take_82 ?_
          refine x_aload_n 1 dX11_take_85 rfl rfl ?_
          refine x_bipush (v := (20 : Int32)) dX11_take_86 (by decide) ?_
          refine x_aload_n 2 dX11_take_88 rfl rfl ?_
          refine x_getI rfl ck_11 16 (by decide) rfl q_206 dX11_take_89 ?_
          refine z_bnd h (fun q10 hq10 h => ?_)
          refine x_callV1 rfl (w_X3_goTo hq10) cw_X3_goTo q_424 ⟨by decide, by decide⟩ (Nat.le_of_ble_eq_true rfl) dX11_take_92 rfl ?_
          refine x_pop dX11_take_95 rfl ?_
          refine x_aload_n 2 dX11_take_96 rfl rfl ?_
          refine x_getR rfl ck_11 7 (by decide) rfl q_197 dX11_take_97 ?_
          refine x_aload 0 dX11_take_100 rfl ?_
          refine z_bnd h (fun a11 ha11 h => ?_)
          refine z_bnd h (fun q12 hq12 h => ?_)
          refine x_callVv ha11 (w_X5_add hq12) cw_X5_add q_735 ⟨by decide, by decide⟩ (Nat.le_of_ble_eq_true rfl) dX11_take_102 rfl ?_
          refine x_aload_n 2 dX11_take_105 rfl rfl ?_
          refine x_getR rfl ck_11 7 (by decide) rfl q_197 dX11_take_106 ?_
          refine z_bnd h (fun a13 ha13 h => ?_)
          refine x_getI ha13 ck_5 0 (by decide) rfl q_134 dX11_take_109 ?_
          refine x_iconst (v := (1 : Int32)) dX11_take_112 (by decide) ?_
          refine x_isub dX11_take_113 ?_
          exact x_iretE rfl dX11_take_114 h
        · refine x_bipush (v := (-4 : Int32)) dX11_take_46 (by decide) ?_
          exact x_iretE rfl dX11_take_48 h
      · refine x_bipush (v := (-3 : Int32)) dX11_take_31 (by decide) ?_
        exact x_iretE rfl dX11_take_33 h
    · refine x_iconst (v := (-1 : Int32)) dX11_take_18 (by decide) ?_
      exact x_iretE rfl dX11_take_19 h
-- PressedMen$Register find (I)LPressedMen$Taking;
abbrev Y_X5_find : ZM := (yX5_find, cX5_find, 2, (some (.object "PressedMen$Taking")), 1, 22)
theorem cw_X5_find : z_CV Y_X5_find 5 1 := ⟨⟨_, _, rfl⟩, by decide, q_744, q_745, q_746, q_72, ⟨by decide, by decide⟩, rfl⟩
def f_X5_find (n0 : Nat) (x1 : Int32) (S : ZH) : Option (Option Nat) :=
  (f_X11_within x1 (0 : Int32) ((zI S 5 n0 0) - (1 : Int32)) S).bind fun q1 =>
  if q1 = 0 then (
    some none
  ) else (
    ((zR S 5 n0 1)).bind fun a2 =>
    (zldR S 19 a2 x1).bind fun v3 =>
    some v3
  )
set_option maxRecDepth 20000 in
set_option maxHeartbeats 1000000 in
theorem w_X5_find {n0 : Nat} {x1 : Int32} {S : ZH} {q : Option Nat} (h : f_X5_find n0 x1 S = some q) : MetX Y_X5_find S [z_r 5 (some n0), z_i x1] (some (z_r 8 q)) S := by
  refine MetX.of (lo := [(0, z_r 5 (some n0)), (1, z_i x1)]) rfl (by decide) (Nat.le_of_ble_eq_true rfl) ?_
  unfold f_X5_find at h
  refine x_iload_n 1 dX5_find_0 rfl rfl ?_
  refine x_iconst (v := (0 : Int32)) dX5_find_1 (by decide) ?_
  refine x_aload_n 0 dX5_find_2 rfl rfl ?_
  refine x_getI rfl ck_5 0 (by decide) rfl q_133 dX5_find_3 ?_
  refine x_iconst (v := (1 : Int32)) dX5_find_6 (by decide) ?_
  refine x_isub dX5_find_7 ?_
  refine z_bnd h (fun q1 hq1 h => ?_)
  refine x_callSN1 (w_X11_within hq1) cw_X11_within q_560 ⟨by decide, by decide⟩ (Nat.le_of_ble_eq_true rfl) dX5_find_8 rfl ?_
  refine x_if_eq (tgt := 23) dX5_find_11 (by decide) h (fun h => ?_) (fun h => ?_)
  · refine x_null 8 dX5_find_23 ?_
    exact x_aret rfl (Or.inl ⟨_, rfl⟩) dX5_find_24 h
  · refine x_aload_n 0 dX5_find_14 rfl rfl ?_
    refine x_getR rfl ck_5 1 (by decide) rfl q_135 dX5_find_15 ?_
    refine x_iload_n 1 dX5_find_18 rfl rfl ?_
    refine z_bnd h (fun a2 ha2 h => ?_)
    refine x_aaload ha2 ak_19 dX5_find_19 h (fun v3 hv3 h => ?_)
    refine x_goto (tgt := 24) dX5_find_20 (by decide) ?_
    exact x_aret rfl (Or.inl ⟨_, rfl⟩) dX5_find_24 h
-- PressedMen taking (II)I
abbrev Y_X11_taking : ZM := (yX11_taking, cX11_taking, 4, (some .int), 2, 43)
theorem cw_X11_taking : z_CV Y_X11_taking 11 2 := ⟨⟨_, _, rfl⟩, by decide, q_740, q_741, q_742, q_70, ⟨by decide, by decide⟩, rfl⟩
def f_X11_taking (n0 : Nat) (x1 : Int32) (x2 : Int32) (S : ZH) : Option (Int32) :=
  ((zR S 11 n0 7)).bind fun a1 =>
  (f_X5_find a1 x1 S).bind fun q2 =>
  if q2 = none then (
    some (-1 : Int32)
  ) else (
    if x2 = (0 : Int32) then (
      (q2).bind fun a3 =>
      some (zI S 8 a3 0)
    ) else (
      if x2 = (1 : Int32) then (
        (q2).bind fun a5 =>
        some (zI S 8 a5 1)
      ) else (
        if x2 = (2 : Int32) then (
          (q2).bind fun a7 =>
          some (zI S 8 a7 2)
        ) else (
          if x2 = (3 : Int32) then (
            (q2).bind fun a9 =>
            some (zI S 8 a9 3)
          ) else (
            if x2 = (4 : Int32) then (
              (q2).bind fun a11 =>
              (f_X11_asNumber (zI S 8 a11 4) S).bind fun q12 =>
              some q12
            ) else (
              if x2 = (5 : Int32) then (
                (q2).bind fun a14 =>
                (f_X11_asNumber (zI S 8 a14 5) S).bind fun q15 =>
                some q15
              ) else (
                some (-2 : Int32)
              )
            )
          )
        )
      )
    )
  )
set_option maxRecDepth 20000 in
set_option maxHeartbeats 1000000 in
theorem w_X11_taking {n0 : Nat} {x1 : Int32} {x2 : Int32} {S : ZH} {q : Int32} (h : f_X11_taking n0 x1 x2 S = some q) : MetX Y_X11_taking S [z_r 11 (some n0), z_i x1, z_i x2] (some (z_i q)) S := by
  refine MetX.of (lo := [(0, z_r 11 (some n0)), (1, z_i x1), (2, z_i x2)]) rfl (by decide) (Nat.le_of_ble_eq_true rfl) ?_
  unfold f_X11_taking at h
  refine x_aload_n 0 dX11_taking_0 rfl rfl ?_
  refine x_getR rfl ck_11 7 (by decide) rfl q_197 dX11_taking_1 ?_
  refine x_iload_n 1 dX11_taking_4 rfl rfl ?_
  refine z_bnd h (fun a1 ha1 h => ?_)
  refine z_bnd h (fun q2 hq2 h => ?_)
  refine x_callV1 ha1 (w_X5_find hq2) cw_X5_find q_743 ⟨by decide, by decide⟩ (Nat.le_of_ble_eq_true rfl) dX11_taking_5 rfl ?_
  refine x_astore_n (lo' := [(3, z_r 8 q2), (0, z_r 11 (some n0)), (1, z_i x1), (2, z_i x2)]) dX11_taking_8 rfl (by decide) rfl ?_
  refine x_aload_n 0 dX11_taking_9 rfl rfl ?_
  refine x_ifnonnull (tgt := 15) dX11_taking_10 (by decide) h (fun h => ?_) (fun h => ?_)
  · refine x_iload_n 3 dX11_taking_15 rfl rfl ?_
    refine z_ite h (fun hx4 h => ?_) (fun hx4 h => ?_)
    · refine x_tabIn (tgt := 56) dX11_taking_16 hx4 (by decide) (by decide) rfl (by decide) ?_
      refine x_aload_n 0 dX11_taking_56 rfl rfl ?_
      refine z_bnd h (fun a3 ha3 h => ?_)
      revert h
      subst ha3
      intro h
      refine x_getI rfl ck_8 0 (by decide) rfl q_708 dX11_taking_57 ?_
      exact x_iret rfl dX11_taking_60 h
    · refine z_ite h (fun hx6 h => ?_) (fun hx6 h => ?_)
      · refine x_tabIn (tgt := 61) dX11_taking_16 hx6 (by decide) (by decide) rfl (by decide) ?_
        refine x_aload_n 0 dX11_taking_61 rfl rfl ?_
        refine z_bnd h (fun a5 ha5 h => ?_)
        revert h
        subst ha5
        intro h
        refine x_getI rfl ck_8 1 (by decide) rfl q_711 dX11_taking_62 ?_
        exact x_iret rfl dX11_taking_65 h
      · refine z_ite h (fun hx8 h => ?_) (fun hx8 h => ?_)
        · refine x_tabIn (tgt := 66) dX11_taking_16 hx8 (by decide) (by decide) rfl (by decide) ?_
          refine x_aload_n 0 dX11_taking_66 rfl rfl ?_
          refine z_bnd h (fun a7 ha7 h => ?_)
          revert h
          subst ha7
          intro h
          refine x_getI rfl ck_8 2 (by decide) rfl q_714 dX11_taking_67 ?_
          exact x_iret rfl dX11_taking_70 h
        · refine z_ite h (fun hx10 h => ?_) (fun hx10 h => ?_)
          · refine x_tabIn (tgt := 71) dX11_taking_16 hx10 (by decide) (by decide) rfl (by decide) ?_
            refine x_aload_n 0 dX11_taking_71 rfl rfl ?_
            refine z_bnd h (fun a9 ha9 h => ?_)
            revert h
            subst ha9
            intro h
            refine x_getI rfl ck_8 3 (by decide) rfl q_717 dX11_taking_72 ?_
            exact x_iret rfl dX11_taking_75 h
          · refine z_ite h (fun hx13 h => ?_) (fun hx13 h => ?_)
            · refine x_tabIn (tgt := 76) dX11_taking_16 hx13 (by decide) (by decide) rfl (by decide) ?_
              refine x_aload_n 0 dX11_taking_76 rfl rfl ?_
              refine z_bnd h (fun a11 ha11 h => ?_)
              revert h
              subst ha11
              intro h
              refine x_getI rfl ck_8 4 (by decide) rfl q_719 dX11_taking_77 ?_
              refine z_bnd h (fun q12 hq12 h => ?_)
              refine x_callS1 (w_X11_asNumber hq12) cw_X11_asNumber q_275 ⟨by decide, by decide⟩ (Nat.le_of_ble_eq_true rfl) dX11_taking_80 rfl ?_
              exact x_iret rfl dX11_taking_83 h
            · refine z_ite h (fun hx16 h => ?_) (fun hx16 h => ?_)
              · refine x_tabIn (tgt := 84) dX11_taking_16 hx16 (by decide) (by decide) rfl (by decide) ?_
                refine x_aload_n 0 dX11_taking_84 rfl rfl ?_
                refine z_bnd h (fun a14 ha14 h => ?_)
                revert h
                subst ha14
                intro h
                refine x_getI rfl ck_8 5 (by decide) rfl q_721 dX11_taking_85 ?_
                refine z_bnd h (fun q15 hq15 h => ?_)
                refine x_callS1 (w_X11_asNumber hq15) cw_X11_asNumber q_275 ⟨by decide, by decide⟩ (Nat.le_of_ble_eq_true rfl) dX11_taking_88 rfl ?_
                exact x_iret rfl dX11_taking_91 h
              · refine x_tabOut (tgt := 92) dX11_taking_16 (by
                    have hx4 := z_neI hx4 (n := 0) (by decide)
                    have hx6 := z_neI hx6 (n := 1) (by decide)
                    have hx8 := z_neI hx8 (n := 2) (by decide)
                    have hx10 := z_neI hx10 (n := 3) (by decide)
                    have hx13 := z_neI hx13 (n := 4) (by decide)
                    have hx16 := z_neI hx16 (n := 5) (by decide)
                    omega) (by decide) ?_
                refine x_bipush (v := (-2 : Int32)) dX11_taking_92 (by decide) ?_
                exact x_iret rfl dX11_taking_94 h
  · refine x_iconst (v := (-1 : Int32)) dX11_taking_13 (by decide) ?_
    exact x_iret rfl dX11_taking_14 h
-- PressedMen isWronged (LPressedMen$Man;)Z
abbrev Y_X11_isWronged : ZM := (yX11_isWronged, cX11_isWronged, 2, (some .boolean), 3, 66)
theorem cw_X11_isWronged : z_CV Y_X11_isWronged 11 1 := ⟨⟨_, _, rfl⟩, by decide, q_753, q_26, q_754, q_70, ⟨by decide, by decide⟩, rfl⟩
def f_X11_isWronged (n0 : Nat) (x1 : Option Nat) (S : ZH) : Option (Int32) :=
  (x1).bind fun a1 =>
  if (zR S 3 a1 10) = none then (
    some (0 : Int32)
  ) else (
    ((zR S 3 a1 10)).bind fun a2 =>
    if (zI S 8 a2 5) = 0 then (
      if (zI S 3 a1 8) = (20 : Int32) then (
        some (1 : Int32)
      ) else (
        if (zI S 3 a1 8) = (21 : Int32) then (
          some (1 : Int32)
        ) else (
          (f_X11_isInShipOf n0 (0 : Int32) (zI S 3 a1 8) S).bind fun q3 =>
          if q3 = 0 then (
            some (0 : Int32)
          ) else (
            some (1 : Int32)
          )
        )
      )
    ) else (
      some (0 : Int32)
    )
  )
set_option maxRecDepth 20000 in
set_option maxHeartbeats 1000000 in
theorem w_X11_isWronged {n0 : Nat} {x1 : Option Nat} {S : ZH} {q : Int32} (h : f_X11_isWronged n0 x1 S = some q) : MetX Y_X11_isWronged S [z_r 11 (some n0), z_r 3 x1] (some (z_i q)) S := by
  refine MetX.of (lo := [(0, z_r 11 (some n0)), (1, z_r 3 x1)]) rfl (by decide) (Nat.le_of_ble_eq_true rfl) ?_
  unfold f_X11_isWronged at h
  refine x_aload_n 1 dX11_isWronged_0 rfl rfl ?_
  refine z_bnd h (fun a1 ha1 h => ?_)
  revert h
  subst ha1
  intro h
  refine x_getR rfl ck_3 10 (by decide) rfl q_329 dX11_isWronged_1 ?_
  refine x_ifnull (tgt := 17) dX11_isWronged_4 (by decide) h (fun h => ?_) (fun h => ?_)
  · refine x_iconst (v := (0 : Int32)) dX11_isWronged_17 (by decide) ?_
    exact x_zretC rfl (by decide) dX11_isWronged_18 h
  · refine x_aload_n 1 dX11_isWronged_7 rfl rfl ?_
    refine x_getR rfl ck_3 10 (by decide) rfl q_329 dX11_isWronged_8 ?_
    refine z_bnd h (fun a2 ha2 h => ?_)
    refine x_getI ha2 ck_8 5 (by decide) rfl q_721 dX11_isWronged_11 ?_
    refine x_if_eq (tgt := 19) dX11_isWronged_14 (by decide) h (fun h => ?_) (fun h => ?_)
    · refine x_aload_n 1 dX11_isWronged_19 rfl rfl ?_
      refine x_getI rfl ck_3 8 (by decide) rfl q_327 dX11_isWronged_20 ?_
      refine x_bipush (v := (20 : Int32)) dX11_isWronged_23 (by decide) ?_
      refine x_ic_eq (tgt := 49) dX11_isWronged_25 (by decide) h (fun h => ?_) (fun h => ?_)
      · refine x_iconst (v := (1 : Int32)) dX11_isWronged_49 (by decide) ?_
        refine x_goto (tgt := 54) dX11_isWronged_50 (by decide) ?_
        exact x_zretC rfl (by decide) dX11_isWronged_54 h
      · refine x_aload_n 1 dX11_isWronged_28 rfl rfl ?_
        refine x_getI rfl ck_3 8 (by decide) rfl q_327 dX11_isWronged_29 ?_
        refine x_bipush (v := (21 : Int32)) dX11_isWronged_32 (by decide) ?_
        refine x_ic_eq (tgt := 49) dX11_isWronged_34 (by decide) h (fun h => ?_) (fun h => ?_)
        · refine x_iconst (v := (1 : Int32)) dX11_isWronged_49 (by decide) ?_
          refine x_goto (tgt := 54) dX11_isWronged_50 (by decide) ?_
          exact x_zretC rfl (by decide) dX11_isWronged_54 h
        · refine x_aload_n 0 dX11_isWronged_37 rfl rfl ?_
          refine x_iconst (v := (0 : Int32)) dX11_isWronged_38 (by decide) ?_
          refine x_aload_n 1 dX11_isWronged_39 rfl rfl ?_
          refine x_getI rfl ck_3 8 (by decide) rfl q_327 dX11_isWronged_40 ?_
          refine z_bnd h (fun q3 hq3 h => ?_)
          refine x_callV1 rfl (w_X11_isInShipOf hq3) cw_X11_isInShipOf q_696 ⟨by decide, by decide⟩ (Nat.le_of_ble_eq_true rfl) dX11_isWronged_43 rfl ?_
          refine x_if_eq (tgt := 53) dX11_isWronged_46 (by decide) h (fun h => ?_) (fun h => ?_)
          · refine x_iconst (v := (0 : Int32)) dX11_isWronged_53 (by decide) ?_
            exact x_zretC rfl (by decide) dX11_isWronged_54 h
          · refine x_iconst (v := (1 : Int32)) dX11_isWronged_49 (by decide) ?_
            refine x_goto (tgt := 54) dX11_isWronged_50 (by decide) ?_
            exact x_zretC rfl (by decide) dX11_isWronged_54 h
    · refine x_iconst (v := (0 : Int32)) dX11_isWronged_17 (by decide) ?_
      exact x_zretC rfl (by decide) dX11_isWronged_18 h
-- PressedMen wronged ()I
abbrev Y_X11_wronged : ZM := (yX11_wronged, cX11_wronged, 3, (some .int), 4, 87)
theorem cw_X11_wronged : z_CV Y_X11_wronged 11 0 := ⟨⟨_, _, rfl⟩, by decide, q_748, q_749, q_750, q_70, ⟨by decide, by decide⟩, rfl⟩
def b_X11_wronged_4 (n0 : Nat) (S : ZH) (v : Int32 × Int32) : Option ((Int32 × Int32) ⊕ (Int32)) :=
  if (zI S 11 n0 2) ≤ v.2 then (
    some (Sum.inr v.1)
  ) else (
    ((zR S 11 n0 1)).bind fun a1 =>
    (zldR S 22 a1 v.2).bind fun v2 =>
    (f_X11_isWronged n0 v2 S).bind fun q3 =>
    if q3 = 0 then (
      some (Sum.inl (v.1, (v.2 + 1)))
    ) else (
      some (Sum.inl ((v.1 + 1), (v.2 + 1)))
    )
  )
def f_X11_wronged (n0 : Nat) (S : ZH) : Option (Int32) :=
  (z_iter zFU (b_X11_wronged_4 n0 S) ((0 : Int32), (0 : Int32))).bind fun t4 =>
  some t4
set_option maxRecDepth 20000 in
theorem l_X11_wronged_4 {S0 : ZH} {F : ZP} {n0 : Nat} {S : ZH} {v : Int32 × Int32} {t : Int32} (h : z_iter zFU (b_X11_wronged_4 n0 S) v = some t) (k : (fun t => Wp Y_X11_wronged S0 F 34 [(1, z_i t)] [] S) t) : Wp Y_X11_wronged S0 F 4 [(0, z_r 11 (some n0)), (1, z_i v.1), (2, z_i v.2)] [] S := by
  refine z_iter_P (P := fun v : Int32 × Int32 => Wp Y_X11_wronged S0 F 4 [(0, z_r 11 (some n0)), (1, z_i v.1), (2, z_i v.2)] [] S) (X := (fun t => Wp Y_X11_wronged S0 F 34 [(1, z_i t)] [] S)) ?_ _ _ _ h k
  clear h k v t
  intro v r h k
  unfold b_X11_wronged_4 at h
  refine x_iload_n 2 dX11_wronged_4 rfl rfl ?_
  refine x_aload_n 0 dX11_wronged_5 rfl rfl ?_
  refine x_getI rfl ck_11 2 (by decide) rfl q_192 dX11_wronged_6 ?_
  refine x_ic_ge (tgt := 34) dX11_wronged_9 (by decide) h (fun h => ?_) (fun h => ?_)
  · cases h
    exact x_lo [1] rfl k
  · refine x_aload_n 0 dX11_wronged_12 rfl rfl ?_
    refine x_aload_n 0 dX11_wronged_13 rfl rfl ?_
    refine x_getR rfl ck_11 1 (by decide) rfl q_191 dX11_wronged_14 ?_
    refine x_iload_n 2 dX11_wronged_17 rfl rfl ?_
    refine z_bnd h (fun a1 ha1 h => ?_)
    refine x_aaload ha1 ak_22 dX11_wronged_18 h (fun v2 hv2 h => ?_)
    refine z_bnd h (fun q3 hq3 h => ?_)
    refine x_callV1 rfl (w_X11_isWronged hq3) cw_X11_isWronged q_751 ⟨by decide, by decide⟩ (Nat.le_of_ble_eq_true rfl) dX11_wronged_19 rfl ?_
    refine x_if_eq (tgt := 28) dX11_wronged_22 (by decide) h (fun h => ?_) (fun h => ?_)
    · refine x_iinc (v := (v.2 + 1)) (lo' := [(2, z_i (v.2 + 1)), (0, z_r 11 (some n0)), (1, z_i v.1)]) 2 dX11_wronged_28 rfl (congrArg (HAdd.hAdd v.2) (by decide)) (by decide) rfl ?_
      refine x_goto (tgt := 4) dX11_wronged_31 (by decide) ?_
      cases h
      exact x_lo [1, 2, 0] rfl k
    · refine x_iinc (v := (v.1 + 1)) (lo' := [(1, z_i (v.1 + 1)), (0, z_r 11 (some n0)), (2, z_i v.2)]) 1 dX11_wronged_25 rfl (congrArg (HAdd.hAdd v.1) (by decide)) (by decide) rfl ?_
      refine x_iinc (v := (v.2 + 1)) (lo' := [(2, z_i (v.2 + 1)), (1, z_i (v.1 + 1)), (0, z_r 11 (some n0))]) 2 dX11_wronged_28 rfl (congrArg (HAdd.hAdd v.2) (by decide)) (by decide) rfl ?_
      refine x_goto (tgt := 4) dX11_wronged_31 (by decide) ?_
      cases h
      exact x_lo [2, 1, 0] rfl k
set_option maxRecDepth 20000 in
set_option maxHeartbeats 1000000 in
theorem w_X11_wronged {n0 : Nat} {S : ZH} {q : Int32} (h : f_X11_wronged n0 S = some q) : MetX Y_X11_wronged S [z_r 11 (some n0)] (some (z_i q)) S := by
  refine MetX.of (lo := [(0, z_r 11 (some n0))]) rfl (by decide) (Nat.le_of_ble_eq_true rfl) ?_
  unfold f_X11_wronged at h
  refine x_iconst (v := (0 : Int32)) dX11_wronged_0 (by decide) ?_
  refine x_istore_n (lo' := [(1, z_i (0 : Int32)), (0, z_r 11 (some n0))]) dX11_wronged_1 rfl (by decide) rfl ?_
  refine x_iconst (v := (0 : Int32)) dX11_wronged_2 (by decide) ?_
  refine x_istore_n (lo' := [(2, z_i (0 : Int32)), (1, z_i (0 : Int32)), (0, z_r 11 (some n0))]) dX11_wronged_3 rfl (by decide) rfl ?_
  refine z_bnd h (fun t4 ht4 h => ?_)
  refine x_lo [2, 1, 0] rfl ?_
  refine l_X11_wronged_4 ht4 ?_
  refine x_iload_n 0 dX11_wronged_34 rfl rfl ?_
  exact x_iret rfl dX11_wronged_35 h
-- PressedMen wrongedMan (I)I
abbrev Y_X11_wrongedMan : ZM := (yX11_wrongedMan, cX11_wrongedMan, 4, (some .int), 4, 87)
theorem cw_X11_wrongedMan : z_CV Y_X11_wrongedMan 11 1 := ⟨⟨_, _, rfl⟩, by decide, q_756, q_757, q_758, q_70, ⟨by decide, by decide⟩, rfl⟩
def b_X11_wrongedMan_4 (n0 : Nat) (x1 : Int32) (S : ZH) (v : Int32 × Int32) : Option ((Int32 × Int32) ⊕ ((Unit) ⊕ (Int32))) :=
  if (zI S 11 n0 2) ≤ v.2 then (
    some (Sum.inr (Sum.inl ()))
  ) else (
    ((zR S 11 n0 1)).bind fun a1 =>
    (zldR S 22 a1 v.2).bind fun v2 =>
    (f_X11_isWronged n0 v2 S).bind fun q3 =>
    if q3 = 0 then (
      some (Sum.inl (v.1, (v.2 + 1)))
    ) else (
      if ¬ v.1 = x1 then (
        some (Sum.inl ((v.1 + 1), (v.2 + 1)))
      ) else (
        some (Sum.inr (Sum.inr v.2))
      )
    )
  )
def f_X11_wrongedMan (n0 : Nat) (x1 : Int32) (S : ZH) : Option (Int32) :=
  (z_iter zFU (b_X11_wrongedMan_4 n0 x1 S) ((0 : Int32), (0 : Int32))).bind fun t4 =>
  Sum.elim (fun t =>
    some (-9 : Int32)
  ) (fun q => some q) t4
set_option maxRecDepth 20000 in
theorem l_X11_wrongedMan_4 {S0 : ZH} {F : ZP} {n0 : Nat} {x1 : Int32} {S : ZH} {v : Int32 × Int32} {t : (Unit) ⊕ (Int32)} (h : z_iter zFU (b_X11_wrongedMan_4 n0 x1 S) v = some t) (k : (Sum.elim (fun t => Wp Y_X11_wrongedMan S0 F 41 [] [] S) (fun q => F = zF S0 (some (z_i q)) S)) t) : Wp Y_X11_wrongedMan S0 F 4 [(0, z_r 11 (some n0)), (1, z_i x1), (2, z_i v.1), (3, z_i v.2)] [] S := by
  refine z_iter_P (P := fun v : Int32 × Int32 => Wp Y_X11_wrongedMan S0 F 4 [(0, z_r 11 (some n0)), (1, z_i x1), (2, z_i v.1), (3, z_i v.2)] [] S) (X := (Sum.elim (fun t => Wp Y_X11_wrongedMan S0 F 41 [] [] S) (fun q => F = zF S0 (some (z_i q)) S))) ?_ _ _ _ h k
  clear h k v t
  intro v r h k
  unfold b_X11_wrongedMan_4 at h
  refine x_iload_n 3 dX11_wrongedMan_4 rfl rfl ?_
  refine x_aload_n 0 dX11_wrongedMan_5 rfl rfl ?_
  refine x_getI rfl ck_11 2 (by decide) rfl q_192 dX11_wrongedMan_6 ?_
  refine x_ic_ge (tgt := 41) dX11_wrongedMan_9 (by decide) h (fun h => ?_) (fun h => ?_)
  · cases h
    exact x_lo [] rfl k
  · refine x_aload_n 0 dX11_wrongedMan_12 rfl rfl ?_
    refine x_aload_n 0 dX11_wrongedMan_13 rfl rfl ?_
    refine x_getR rfl ck_11 1 (by decide) rfl q_191 dX11_wrongedMan_14 ?_
    refine x_iload_n 3 dX11_wrongedMan_17 rfl rfl ?_
    refine z_bnd h (fun a1 ha1 h => ?_)
    refine x_aaload ha1 ak_22 dX11_wrongedMan_18 h (fun v2 hv2 h => ?_)
    refine z_bnd h (fun q3 hq3 h => ?_)
    refine x_callV1 rfl (w_X11_isWronged hq3) cw_X11_isWronged q_751 ⟨by decide, by decide⟩ (Nat.le_of_ble_eq_true rfl) dX11_wrongedMan_19 rfl ?_
    refine x_if_eq (tgt := 35) dX11_wrongedMan_22 (by decide) h (fun h => ?_) (fun h => ?_)
    · refine x_iinc (v := (v.2 + 1)) (lo' := [(3, z_i (v.2 + 1)), (0, z_r 11 (some n0)), (1, z_i x1), (2, z_i v.1)]) 3 dX11_wrongedMan_35 rfl (congrArg (HAdd.hAdd v.2) (by decide)) (by decide) rfl ?_
      refine x_goto (tgt := 4) dX11_wrongedMan_38 (by decide) ?_
      cases h
      exact x_lo [1, 2, 3, 0] rfl k
    · refine x_iload_n 2 dX11_wrongedMan_25 rfl rfl ?_
      refine x_iload_n 1 dX11_wrongedMan_26 rfl rfl ?_
      refine x_ic_ne (tgt := 32) dX11_wrongedMan_27 (by decide) h (fun h => ?_) (fun h => ?_)
      · refine x_iinc (v := (v.1 + 1)) (lo' := [(2, z_i (v.1 + 1)), (0, z_r 11 (some n0)), (1, z_i x1), (3, z_i v.2)]) 2 dX11_wrongedMan_32 rfl (congrArg (HAdd.hAdd v.1) (by decide)) (by decide) rfl ?_
        refine x_iinc (v := (v.2 + 1)) (lo' := [(3, z_i (v.2 + 1)), (2, z_i (v.1 + 1)), (0, z_r 11 (some n0)), (1, z_i x1)]) 3 dX11_wrongedMan_35 rfl (congrArg (HAdd.hAdd v.2) (by decide)) (by decide) rfl ?_
        refine x_goto (tgt := 4) dX11_wrongedMan_38 (by decide) ?_
        cases h
        exact x_lo [2, 3, 1, 0] rfl k
      · refine x_iload_n 3 dX11_wrongedMan_30 rfl rfl ?_
        cases h
        have k : F = zF S0 (some (z_i v.2)) S := k
        subst k
        exact x_iret0 rfl dX11_wrongedMan_31
set_option maxRecDepth 20000 in
set_option maxHeartbeats 1000000 in
theorem w_X11_wrongedMan {n0 : Nat} {x1 : Int32} {S : ZH} {q : Int32} (h : f_X11_wrongedMan n0 x1 S = some q) : MetX Y_X11_wrongedMan S [z_r 11 (some n0), z_i x1] (some (z_i q)) S := by
  refine MetX.of (lo := [(0, z_r 11 (some n0)), (1, z_i x1)]) rfl (by decide) (Nat.le_of_ble_eq_true rfl) ?_
  unfold f_X11_wrongedMan at h
  refine x_iconst (v := (0 : Int32)) dX11_wrongedMan_0 (by decide) ?_
  refine x_istore_n (lo' := [(2, z_i (0 : Int32)), (0, z_r 11 (some n0)), (1, z_i x1)]) dX11_wrongedMan_1 rfl (by decide) rfl ?_
  refine x_iconst (v := (0 : Int32)) dX11_wrongedMan_2 (by decide) ?_
  refine x_istore_n (lo' := [(3, z_i (0 : Int32)), (2, z_i (0 : Int32)), (0, z_r 11 (some n0)), (1, z_i x1)]) dX11_wrongedMan_3 rfl (by decide) rfl ?_
  refine z_bnd h (fun t4 ht4 h => ?_)
  refine x_lo [2, 3, 1, 0] rfl ?_
  refine l_X11_wrongedMan_4 ht4 ?_
  rcases t4 with t | q
  · have h := (show _ = some _ from h)
    simp only [Sum.elim_inl] at h ⊢
    refine x_bipush (v := (-9 : Int32)) dX11_wrongedMan_41 (by decide) ?_
    exact x_iret rfl dX11_wrongedMan_43 h
  · simp only [Sum.elim_inr] at h ⊢
    cases h
    rfl
-- PressedMen letGo (I)I
abbrev Y_X11_letGo : ZM := (yX11_letGo, cX11_letGo, 3, (some .int), 4, 125)
theorem cw_X11_letGo : z_CV Y_X11_letGo 11 1 := ⟨⟨_, _, rfl⟩, by decide, q_760, q_761, q_762, q_70, ⟨by decide, by decide⟩, rfl⟩
def j_X11_letGo_44 (n0 : Nat) (n2 : Nat)  (S : ZH) : Option (Int32 × ZH) :=
  (f_X3_goTo n2 (zI S 3 n2 6) (zI S 11 n0 16) S).bind fun q3 =>
  some (q3.1, q3.2)
def f_X11_letGo (n0 : Nat) (x1 : Int32) (S : ZH) : Option (Int32 × ZH) :=
  (f_X11_findMan n0 x1 S).bind fun q1 =>
  if q1 = none then (
    some ((-1 : Int32), S)
  ) else (
    (q1).bind fun a2 =>
    if (zI S 3 a2 8) = (20 : Int32) then (
      j_X11_letGo_44 n0 a2 S
    ) else (
      if (zI S 3 a2 8) = (21 : Int32) then (
        j_X11_letGo_44 n0 a2 S
      ) else (
        (f_X11_isInShipAtHome n0 (zI S 3 a2 8) S).bind fun q4 =>
        if ¬ q4 = 0 then (
          j_X11_letGo_44 n0 a2 S
        ) else (
          some ((-3 : Int32), S)
        )
      )
    )
  )
set_option maxRecDepth 20000 in
theorem k_X11_letGo_44 {S0 : ZH} {n0 : Nat} {n2 : Nat}  {S : ZH} {z : Int32 × ZH} (h : j_X11_letGo_44 n0 n2 S = some z) : Wp Y_X11_letGo S0 (zF S0 (some (z_i z.1)) z.2) 44 [(0, z_r 11 (some n0)), (2, z_r 3 (some n2))] [] S := by
  unfold j_X11_letGo_44 at h
  refine x_aload_n 1 dX11_letGo_44 rfl rfl ?_
  refine x_aload_n 1 dX11_letGo_45 rfl rfl ?_
  refine x_getI rfl ck_3 6 (by decide) rfl q_322 dX11_letGo_46 ?_
  refine x_aload_n 0 dX11_letGo_49 rfl rfl ?_
  refine x_getI rfl ck_11 16 (by decide) rfl q_206 dX11_letGo_50 ?_
  refine z_bnd h (fun q3 hq3 h => ?_)
  refine x_callV1 rfl (w_X3_goTo hq3) cw_X3_goTo q_424 ⟨by decide, by decide⟩ (Nat.le_of_ble_eq_true rfl) dX11_letGo_53 rfl ?_
  exact x_iretE rfl dX11_letGo_56 h
set_option maxRecDepth 20000 in
set_option maxHeartbeats 1000000 in
theorem w_X11_letGo {n0 : Nat} {x1 : Int32} {S : ZH} {q : Int32 × ZH} (h : f_X11_letGo n0 x1 S = some q) : MetX Y_X11_letGo S [z_r 11 (some n0), z_i x1] (some (z_i q.1)) q.2 := by
  refine MetX.of (lo := [(0, z_r 11 (some n0)), (1, z_i x1)]) rfl (by decide) (Nat.le_of_ble_eq_true rfl) ?_
  unfold f_X11_letGo at h
  refine x_aload_n 0 dX11_letGo_0 rfl rfl ?_
  refine x_iload_n 1 dX11_letGo_1 rfl rfl ?_
  refine z_bnd h (fun q1 hq1 h => ?_)
  refine x_callV1 rfl (w_X11_findMan hq1) cw_X11_findMan q_366 ⟨by decide, by decide⟩ (Nat.le_of_ble_eq_true rfl) dX11_letGo_2 rfl ?_
  refine x_astore_n (lo' := [(2, z_r 3 q1), (0, z_r 11 (some n0)), (1, z_i x1)]) dX11_letGo_5 rfl (by decide) rfl ?_
  refine x_aload_n 0 dX11_letGo_6 rfl rfl ?_
  refine x_ifnonnull (tgt := 12) dX11_letGo_7 (by decide) h (fun h => ?_) (fun h => ?_)
  · refine x_aload_n 0 dX11_letGo_12 rfl rfl ?_
    refine z_bnd h (fun a2 ha2 h => ?_)
    revert h
    subst ha2
    intro h
    refine x_getI rfl ck_3 8 (by decide) rfl q_327 dX11_letGo_13 ?_
    refine x_bipush (v := (20 : Int32)) dX11_letGo_16 (by decide) ?_
    refine x_ic_eq (tgt := 44) dX11_letGo_18 (by decide) h (fun h => ?_) (fun h => ?_)
    · exact x_lo [1, 0] rfl (k_X11_letGo_44 h)
    · refine x_aload_n 0 dX11_letGo_21 rfl rfl ?_
      refine x_getI rfl ck_3 8 (by decide) rfl q_327 dX11_letGo_22 ?_
      refine x_bipush (v := (21 : Int32)) dX11_letGo_25 (by decide) ?_
      refine x_ic_eq (tgt := 44) dX11_letGo_27 (by decide) h (fun h => ?_) (fun h => ?_)
      · exact x_lo [1, 0] rfl (k_X11_letGo_44 h)
      · refine x_aload_n 1 dX11_letGo_30 rfl rfl ?_
        refine x_aload_n 0 dX11_letGo_31 rfl rfl ?_
        refine x_getI rfl ck_3 8 (by decide) rfl q_327 dX11_letGo_32 ?_
        refine z_bnd h (fun q4 hq4 h => ?_)
        refine x_callV1 rfl (w_X11_isInShipAtHome hq4) cw_X11_isInShipAtHome q_691 ⟨by decide, by decide⟩ (Nat.le_of_ble_eq_true rfl) dX11_letGo_35 rfl ?_
        refine x_if_ne (tgt := 44) dX11_letGo_38 (by decide) h (fun h => ?_) (fun h => ?_)
        · exact x_lo [1, 0] rfl (k_X11_letGo_44 h)
        · refine x_bipush (v := (-3 : Int32)) dX11_letGo_41 (by decide) ?_
          exact x_iretE rfl dX11_letGo_43 h
  · refine x_iconst (v := (-1 : Int32)) dX11_letGo_10 (by decide) ?_
    exact x_iretE rfl dX11_letGo_11 h
-- PressedMen$Register takingsInNews ()I
abbrev Y_X5_takingsInNews : ZM := (yX5_takingsInNews, cX5_takingsInNews, 3, (some .int), 2, 42)
theorem cw_X5_takingsInNews : z_CV Y_X5_takingsInNews 5 0 := ⟨⟨_, _, rfl⟩, by decide, q_768, q_769, q_770, q_72, ⟨by decide, by decide⟩, rfl⟩
def b_X5_takingsInNews_7 (n0 : Nat) (S : ZH) (v : Int32 × Int32) : Option ((Int32 × Int32) ⊕ (Int32)) :=
  if (zI S 5 n0 0) ≤ v.2 then (
    some (Sum.inr v.1)
  ) else (
    ((zR S 5 n0 1)).bind fun a1 =>
    (zldR S 19 a1 v.2).bind fun v2 =>
    (v2).bind fun a3 =>
    (f_X11_isStreet (zI S 8 a3 3) S).bind fun q4 =>
    if q4 = 0 then (
      some (Sum.inl (v.1, (v.2 + 1)))
    ) else (
      some (Sum.inl ((v.1 + 1), (v.2 + 1)))
    )
  )
def f_X5_takingsInNews (n0 : Nat) (S : ZH) : Option (Int32) :=
  (z_iter zFU (b_X5_takingsInNews_7 n0 S) ((0 : Int32), (zI S 5 n0 2))).bind fun t5 =>
  some t5
set_option maxRecDepth 20000 in
theorem l_X5_takingsInNews_7 {S0 : ZH} {F : ZP} {n0 : Nat} {S : ZH} {v : Int32 × Int32} {t : Int32} (h : z_iter zFU (b_X5_takingsInNews_7 n0 S) v = some t) (k : (fun t => Wp Y_X5_takingsInNews S0 F 39 [(1, z_i t)] [] S) t) : Wp Y_X5_takingsInNews S0 F 7 [(0, z_r 5 (some n0)), (1, z_i v.1), (2, z_i v.2)] [] S := by
  refine z_iter_P (P := fun v : Int32 × Int32 => Wp Y_X5_takingsInNews S0 F 7 [(0, z_r 5 (some n0)), (1, z_i v.1), (2, z_i v.2)] [] S) (X := (fun t => Wp Y_X5_takingsInNews S0 F 39 [(1, z_i t)] [] S)) ?_ _ _ _ h k
  clear h k v t
  intro v r h k
  unfold b_X5_takingsInNews_7 at h
  refine x_iload_n 2 dX5_takingsInNews_7 rfl rfl ?_
  refine x_aload_n 0 dX5_takingsInNews_8 rfl rfl ?_
  refine x_getI rfl ck_5 0 (by decide) rfl q_133 dX5_takingsInNews_9 ?_
  refine x_ic_ge (tgt := 39) dX5_takingsInNews_12 (by decide) h (fun h => ?_) (fun h => ?_)
  · cases h
    exact x_lo [1] rfl k
  · refine x_aload_n 0 dX5_takingsInNews_15 rfl rfl ?_
    refine x_getR rfl ck_5 1 (by decide) rfl q_135 dX5_takingsInNews_16 ?_
    refine x_iload_n 2 dX5_takingsInNews_19 rfl rfl ?_
    refine z_bnd h (fun a1 ha1 h => ?_)
    refine x_aaload ha1 ak_19 dX5_takingsInNews_20 h (fun v2 hv2 h => ?_)
    refine z_bnd h (fun a3 ha3 h => ?_)
    revert h
    subst ha3
    intro h
    refine x_getI rfl ck_8 3 (by decide) rfl q_716 dX5_takingsInNews_21 ?_
    refine z_bnd h (fun q4 hq4 h => ?_)
    refine x_callSN1 (w_X11_isStreet hq4) cw_X11_isStreet q_414 ⟨by decide, by decide⟩ (Nat.le_of_ble_eq_true rfl) dX5_takingsInNews_24 rfl ?_
    refine x_if_eq (tgt := 33) dX5_takingsInNews_27 (by decide) h (fun h => ?_) (fun h => ?_)
    · refine x_iinc (v := (v.2 + 1)) (lo' := [(2, z_i (v.2 + 1)), (0, z_r 5 (some n0)), (1, z_i v.1)]) 2 dX5_takingsInNews_33 rfl (congrArg (HAdd.hAdd v.2) (by decide)) (by decide) rfl ?_
      refine x_goto (tgt := 7) dX5_takingsInNews_36 (by decide) ?_
      cases h
      exact x_lo [1, 2, 0] rfl k
    · refine x_iinc (v := (v.1 + 1)) (lo' := [(1, z_i (v.1 + 1)), (0, z_r 5 (some n0)), (2, z_i v.2)]) 1 dX5_takingsInNews_30 rfl (congrArg (HAdd.hAdd v.1) (by decide)) (by decide) rfl ?_
      refine x_iinc (v := (v.2 + 1)) (lo' := [(2, z_i (v.2 + 1)), (1, z_i (v.1 + 1)), (0, z_r 5 (some n0))]) 2 dX5_takingsInNews_33 rfl (congrArg (HAdd.hAdd v.2) (by decide)) (by decide) rfl ?_
      refine x_goto (tgt := 7) dX5_takingsInNews_36 (by decide) ?_
      cases h
      exact x_lo [2, 1, 0] rfl k
set_option maxRecDepth 20000 in
set_option maxHeartbeats 1000000 in
theorem w_X5_takingsInNews {n0 : Nat} {S : ZH} {q : Int32} (h : f_X5_takingsInNews n0 S = some q) : MetX Y_X5_takingsInNews S [z_r 5 (some n0)] (some (z_i q)) S := by
  refine MetX.of (lo := [(0, z_r 5 (some n0))]) rfl (by decide) (Nat.le_of_ble_eq_true rfl) ?_
  unfold f_X5_takingsInNews at h
  refine x_iconst (v := (0 : Int32)) dX5_takingsInNews_0 (by decide) ?_
  refine x_istore_n (lo' := [(1, z_i (0 : Int32)), (0, z_r 5 (some n0))]) dX5_takingsInNews_1 rfl (by decide) rfl ?_
  refine x_aload_n 1 dX5_takingsInNews_2 rfl rfl ?_
  refine x_getI rfl ck_5 2 (by decide) rfl q_136 dX5_takingsInNews_3 ?_
  refine x_istore_n (lo' := [(2, z_i (zI S 5 n0 2)), (1, z_i (0 : Int32)), (0, z_r 5 (some n0))]) dX5_takingsInNews_6 rfl (by decide) rfl ?_
  refine z_bnd h (fun t5 ht5 h => ?_)
  refine x_lo [2, 1, 0] rfl ?_
  refine l_X5_takingsInNews_7 ht5 ?_
  refine x_iload_n 0 dX5_takingsInNews_39 rfl rfl ?_
  exact x_iret rfl dX5_takingsInNews_40 h
-- PressedMen$Register hush ()V
abbrev Y_X5_hush : ZM := (yX5_hush, cX5_hush, 1, none, 0, 0)
theorem cw_X5_hush : z_CV Y_X5_hush 5 0 := ⟨⟨_, _, rfl⟩, by decide, q_772, q_773, q_774, q_72, ⟨by decide, by decide⟩, rfl⟩
def f_X5_hush (n0 : Nat) (S : ZH) : Option (ZH) :=
  some (zsI S 5 n0 2 (zI S 5 n0 0))
set_option maxRecDepth 20000 in
set_option maxHeartbeats 1000000 in
theorem w_X5_hush {n0 : Nat} {S : ZH} {q : ZH} (h : f_X5_hush n0 S = some q) : MetX Y_X5_hush S [z_r 5 (some n0)] none q := by
  refine MetX.of (lo := [(0, z_r 5 (some n0))]) rfl (by decide) (Nat.le_of_ble_eq_true rfl) ?_
  unfold f_X5_hush at h
  refine x_aload_n 0 dX5_hush_0 rfl rfl ?_
  refine x_aload_n 0 dX5_hush_1 rfl rfl ?_
  refine x_getI rfl ck_5 0 (by decide) rfl q_133 dX5_hush_2 ?_
  refine x_putI rfl ck_5 2 (by decide) rfl (Or.inl rfl) (by rfl) rfl q_136 dX5_hush_5 ?_
  exact x_vretE rfl dX5_hush_8 h
-- PressedMen quiet ()I
abbrev Y_X11_quiet : ZM := (yX11_quiet, cX11_quiet, 2, (some .int), 3, 64)
theorem cw_X11_quiet : z_CV Y_X11_quiet 11 0 := ⟨⟨_, _, rfl⟩, by decide, q_764, q_765, q_766, q_70, ⟨by decide, by decide⟩, rfl⟩
def f_X11_quiet (n0 : Nat) (S : ZH) : Option (Int32 × ZH) :=
  ((zR S 11 n0 7)).bind fun a1 =>
  (f_X5_takingsInNews a1 S).bind fun q2 =>
  ((zR S 11 n0 7)).bind fun a3 =>
  (f_X5_hush a3 S).bind fun q4 =>
  some (q2, q4)
set_option maxRecDepth 20000 in
set_option maxHeartbeats 1000000 in
theorem w_X11_quiet {n0 : Nat} {S : ZH} {q : Int32 × ZH} (h : f_X11_quiet n0 S = some q) : MetX Y_X11_quiet S [z_r 11 (some n0)] (some (z_i q.1)) q.2 := by
  refine MetX.of (lo := [(0, z_r 11 (some n0))]) rfl (by decide) (Nat.le_of_ble_eq_true rfl) ?_
  unfold f_X11_quiet at h
  refine x_aload_n 0 dX11_quiet_0 rfl rfl ?_
  refine x_getR rfl ck_11 7 (by decide) rfl q_197 dX11_quiet_1 ?_
  refine z_bnd h (fun a1 ha1 h => ?_)
  refine z_bnd h (fun q2 hq2 h => ?_)
  refine x_callV1 ha1 (w_X5_takingsInNews hq2) cw_X5_takingsInNews q_767 ⟨by decide, by decide⟩ (Nat.le_of_ble_eq_true rfl) dX11_quiet_4 rfl ?_
  refine x_istore_n (lo' := [(1, z_i q2), (0, z_r 11 (some n0))]) dX11_quiet_7 rfl (by decide) rfl ?_
  refine x_aload_n 1 dX11_quiet_8 rfl rfl ?_
  refine x_getR rfl ck_11 7 (by decide) rfl q_197 dX11_quiet_9 ?_
  refine z_bnd h (fun a3 ha3 h => ?_)
  refine z_bnd h (fun q4 hq4 h => ?_)
  refine x_callVv ha3 (w_X5_hush hq4) cw_X5_hush q_771 ⟨by decide, by decide⟩ (Nat.le_of_ble_eq_true rfl) dX11_quiet_12 rfl ?_
  refine x_iload_n 0 dX11_quiet_15 rfl rfl ?_
  exact x_iretE rfl dX11_quiet_16 h
-- PressedMen heard (I)I
abbrev Y_X11_heard : ZM := (yX11_heard, cX11_heard, 3, (some .int), 4, 93)
theorem cw_X11_heard : z_CV Y_X11_heard 11 1 := ⟨⟨_, _, rfl⟩, by decide, q_776, q_777, q_778, q_70, ⟨by decide, by decide⟩, rfl⟩
def f_X11_heard (n0 : Nat) (x1 : Int32) (S : ZH) : Option (Int32 × ZH) :=
  ((zR S 11 n0 0)).bind fun a1 =>
  (f_X10_has a1 x1 S).bind fun q2 =>
  if ¬ q2 = 0 then (
    ((zR S 11 n0 7)).bind fun a3 =>
    (f_X5_firstHeard a3 x1 (zR S 11 n0 0) S).bind fun q4 =>
    if ¬ q4.1 = (999 : Int32) then (
      some (q4.1, q4.2)
    ) else (
      some ((-9 : Int32), q4.2)
    )
  ) else (
    some ((-1 : Int32), S)
  )
set_option maxRecDepth 20000 in
set_option maxHeartbeats 1000000 in
theorem w_X11_heard {n0 : Nat} {x1 : Int32} {S : ZH} {q : Int32 × ZH} (h : f_X11_heard n0 x1 S = some q) : MetX Y_X11_heard S [z_r 11 (some n0), z_i x1] (some (z_i q.1)) q.2 := by
  refine MetX.of (lo := [(0, z_r 11 (some n0)), (1, z_i x1)]) rfl (by decide) (Nat.le_of_ble_eq_true rfl) ?_
  unfold f_X11_heard at h
  refine x_aload_n 0 dX11_heard_0 rfl rfl ?_
  refine x_getR rfl ck_11 0 (by decide) rfl q_190 dX11_heard_1 ?_
  refine x_iload_n 1 dX11_heard_4 rfl rfl ?_
  refine z_bnd h (fun a1 ha1 h => ?_)
  refine z_bnd h (fun q2 hq2 h => ?_)
  refine x_callV1 ha1 (w_X10_has hq2) cw_X10_has q_266 ⟨by decide, by decide⟩ (Nat.le_of_ble_eq_true rfl) dX11_heard_5 rfl ?_
  refine x_if_ne (tgt := 13) dX11_heard_8 (by decide) h (fun h => ?_) (fun h => ?_)
  · refine x_aload_n 0 dX11_heard_13 rfl rfl ?_
    refine x_getR rfl ck_11 7 (by decide) rfl q_197 dX11_heard_14 ?_
    refine x_iload_n 1 dX11_heard_17 rfl rfl ?_
    refine x_aload_n 0 dX11_heard_18 rfl rfl ?_
    refine x_getR rfl ck_11 0 (by decide) rfl q_190 dX11_heard_19 ?_
    refine z_bnd h (fun a3 ha3 h => ?_)
    refine z_bnd h (fun q4 hq4 h => ?_)
    refine x_callV1 ha3 (w_X5_firstHeard hq4) cw_X5_firstHeard q_410 ⟨by decide, by decide⟩ (Nat.le_of_ble_eq_true rfl) dX11_heard_22 rfl ?_
    refine x_istore_n (lo' := [(2, z_i q4.1), (0, z_r 11 (some n0)), (1, z_i x1)]) dX11_heard_25 rfl (by decide) rfl ?_
    refine x_iload_n 0 dX11_heard_26 rfl rfl ?_
    refine x_sipush (v := (999 : Int32)) dX11_heard_27 (by decide) ?_
    refine x_ic_ne (tgt := 38) dX11_heard_30 (by decide) h (fun h => ?_) (fun h => ?_)
    · refine x_iload_n 0 dX11_heard_38 rfl rfl ?_
      exact x_iretE rfl dX11_heard_39 h
    · refine x_bipush (v := (-9 : Int32)) dX11_heard_33 (by decide) ?_
      refine x_goto (tgt := 39) dX11_heard_35 (by decide) ?_
      exact x_iretE rfl dX11_heard_39 h
  · refine x_iconst (v := (-1 : Int32)) dX11_heard_11 (by decide) ?_
    exact x_iretE rfl dX11_heard_12 h
-- PressedMen tender (II)I
abbrev Y_X11_tender : ZM := (yX11_tender, cX11_tender, 4, (some .int), 1, 22)
theorem cw_X11_tender : z_CV Y_X11_tender 11 2 := ⟨⟨_, _, rfl⟩, by decide, q_780, q_781, q_782, q_70, ⟨by decide, by decide⟩, rfl⟩
def j_X11_tender_26 (n0 : Nat) (x1 : Int32) (x2 : Int32)  (S : ZH) : Option (Int32 × ZH) :=
  if ¬ x1 = (1 : Int32) then (
    some ((-2 : Int32), S)
  ) else (
    (f_X11_within x2 (0 : Int32) (100 : Int32) S).bind fun q1 =>
    if q1 = 0 then (
      some ((-2 : Int32), S)
    ) else (
      some ((zI S 11 n0 18), (zsI S 11 n0 18 x2))
    )
  )
def f_X11_tender (n0 : Nat) (x1 : Int32) (x2 : Int32) (S : ZH) : Option (Int32 × ZH) :=
  if ¬ x1 = 0 then (
    j_X11_tender_26 n0 x1 x2 S
  ) else (
    (f_X11_within x2 (0 : Int32) (40 : Int32) S).bind fun q2 =>
    if q2 = 0 then (
      j_X11_tender_26 n0 x1 x2 S
    ) else (
      some ((zI S 11 n0 17), (zsI S 11 n0 17 x2))
    )
  )
set_option maxRecDepth 20000 in
theorem k_X11_tender_26 {S0 : ZH} {n0 : Nat} {x1 : Int32} {x2 : Int32}  {S : ZH} {z : Int32 × ZH} (h : j_X11_tender_26 n0 x1 x2 S = some z) : Wp Y_X11_tender S0 (zF S0 (some (z_i z.1)) z.2) 26 [(0, z_r 11 (some n0)), (1, z_i x1), (2, z_i x2)] [] S := by
  unfold j_X11_tender_26 at h
  refine x_iload_n 1 dX11_tender_26 rfl rfl ?_
  refine x_iconst (v := (1 : Int32)) dX11_tender_27 (by decide) ?_
  refine x_ic_ne (tgt := 53) dX11_tender_28 (by decide) h (fun h => ?_) (fun h => ?_)
  · refine x_bipush (v := (-2 : Int32)) dX11_tender_53 (by decide) ?_
    exact x_iretE rfl dX11_tender_55 h
  · refine x_iload_n 2 dX11_tender_31 rfl rfl ?_
    refine x_iconst (v := (0 : Int32)) dX11_tender_32 (by decide) ?_
    refine x_bipush (v := (100 : Int32)) dX11_tender_33 (by decide) ?_
    refine z_bnd h (fun q1 hq1 h => ?_)
    refine x_callS1 (w_X11_within hq1) cw_X11_within q_252 ⟨by decide, by decide⟩ (Nat.le_of_ble_eq_true rfl) dX11_tender_35 rfl ?_
    refine x_if_eq (tgt := 53) dX11_tender_38 (by decide) h (fun h => ?_) (fun h => ?_)
    · refine x_bipush (v := (-2 : Int32)) dX11_tender_53 (by decide) ?_
      exact x_iretE rfl dX11_tender_55 h
    · refine x_aload_n 0 dX11_tender_41 rfl rfl ?_
      refine x_getI rfl ck_11 18 (by decide) rfl q_208 dX11_tender_42 ?_
      refine x_istore_n (lo' := [(3, z_i (zI S 11 n0 18)), (0, z_r 11 (some n0)), (1, z_i x1), (2, z_i x2)]) dX11_tender_45 rfl (by decide) rfl ?_
      refine x_aload_n 1 dX11_tender_46 rfl rfl ?_
      refine x_iload_n 3 dX11_tender_47 rfl rfl ?_
      refine x_putI rfl ck_11 18 (by decide) rfl (Or.inl rfl) (by rfl) rfl q_208 dX11_tender_48 ?_
      refine x_iload_n 0 dX11_tender_51 rfl rfl ?_
      exact x_iretE rfl dX11_tender_52 h
set_option maxRecDepth 20000 in
set_option maxHeartbeats 1000000 in
theorem w_X11_tender {n0 : Nat} {x1 : Int32} {x2 : Int32} {S : ZH} {q : Int32 × ZH} (h : f_X11_tender n0 x1 x2 S = some q) : MetX Y_X11_tender S [z_r 11 (some n0), z_i x1, z_i x2] (some (z_i q.1)) q.2 := by
  refine MetX.of (lo := [(0, z_r 11 (some n0)), (1, z_i x1), (2, z_i x2)]) rfl (by decide) (Nat.le_of_ble_eq_true rfl) ?_
  unfold f_X11_tender at h
  refine x_iload_n 1 dX11_tender_0 rfl rfl ?_
  refine x_if_ne (tgt := 26) dX11_tender_1 (by decide) h (fun h => ?_) (fun h => ?_)
  · exact x_lo [0, 1, 2] rfl (k_X11_tender_26 h)
  · refine x_iload_n 2 dX11_tender_4 rfl rfl ?_
    refine x_iconst (v := (0 : Int32)) dX11_tender_5 (by decide) ?_
    refine x_bipush (v := (40 : Int32)) dX11_tender_6 (by decide) ?_
    refine z_bnd h (fun q2 hq2 h => ?_)
    refine x_callS1 (w_X11_within hq2) cw_X11_within q_252 ⟨by decide, by decide⟩ (Nat.le_of_ble_eq_true rfl) dX11_tender_8 rfl ?_
    refine x_if_eq (tgt := 26) dX11_tender_11 (by decide) h (fun h => ?_) (fun h => ?_)
    · exact x_lo [0, 1, 2] rfl (k_X11_tender_26 h)
    · refine x_aload_n 0 dX11_tender_14 rfl rfl ?_
      refine x_getI rfl ck_11 17 (by decide) rfl q_207 dX11_tender_15 ?_
      refine x_istore_n (lo' := [(3, z_i (zI S 11 n0 17)), (0, z_r 11 (some n0)), (1, z_i x1), (2, z_i x2)]) dX11_tender_18 rfl (by decide) rfl ?_
      refine x_aload_n 1 dX11_tender_19 rfl rfl ?_
      refine x_iload_n 3 dX11_tender_20 rfl rfl ?_
      refine x_putI rfl ck_11 17 (by decide) rfl (Or.inl rfl) (by rfl) rfl q_207 dX11_tender_21 ?_
      refine x_iload_n 0 dX11_tender_24 rfl rfl ?_
      exact x_iretE rfl dX11_tender_25 h
-- PressedMen$Gangs forgetMen ()V
abbrev Y_X1_forgetMen : ZM := (yX1_forgetMen, cX1_forgetMen, 1, none, 1, 23)
theorem cw_X1_forgetMen : z_CV Y_X1_forgetMen 1 0 := ⟨⟨_, _, rfl⟩, by decide, q_792, q_793, q_794, q_73, ⟨by decide, by decide⟩, rfl⟩
def f_X1_forgetMen (n0 : Nat) (S : ZH) : Option (ZH) :=
  (f_J7_fill_53178_14 (zR S 1 n0 1) (0 : Int32) S).bind fun q1 =>
  some q1
set_option maxRecDepth 20000 in
set_option maxHeartbeats 1000000 in
theorem w_X1_forgetMen {n0 : Nat} {S : ZH} {q : ZH} (h : f_X1_forgetMen n0 S = some q) : MetX Y_X1_forgetMen S [z_r 1 (some n0)] none q := by
  refine MetX.of (lo := [(0, z_r 1 (some n0))]) rfl (by decide) (Nat.le_of_ble_eq_true rfl) ?_
  unfold f_X1_forgetMen at h
  refine x_aload_n 0 dX1_forgetMen_0 rfl rfl ?_
  refine x_getR rfl ck_1 1 (by decide) rfl q_155 dX1_forgetMen_1 ?_
  refine x_iconst (v := (0 : Int32)) dX1_forgetMen_4 (by decide) ?_
  refine z_bnd h (fun q1 hq1 h => ?_)
  refine x_callSv (w_J7_fill_53178_14 hq1) cw_J7_fill_53178 q_795 ⟨by decide, by decide⟩ (Nat.le_of_ble_eq_true rfl) dX1_forgetMen_5 rfl ?_
  exact x_vretE rfl dX1_forgetMen_8 h
-- PressedMen$Gangs addMan (I)V
abbrev Y_X1_addMan : ZM := (yX1_addMan, cX1_addMan, 2, none, 2, 43)
theorem cw_X1_addMan : z_CV Y_X1_addMan 1 1 := ⟨⟨_, _, rfl⟩, by decide, q_797, q_798, q_799, q_73, ⟨by decide, by decide⟩, rfl⟩
def f_X1_addMan (n0 : Nat) (x1 : Int32) (S : ZH) : Option (ZH) :=
  ((zR S 1 n0 0)).bind fun a1 =>
  (f_X10_has a1 x1 S).bind fun q2 =>
  if q2 = 0 then (
    some S
  ) else (
    ((zR S 1 n0 1)).bind fun a3 =>
    (zld S 14 a3 x1).bind fun v4 =>
    ((zR S 1 n0 1)).bind fun a5 =>
    (zst S 14 a5 x1 (v4 + (1 : Int32))).bind fun S6 =>
    some S6
  )
set_option maxRecDepth 20000 in
set_option maxHeartbeats 1000000 in
theorem w_X1_addMan {n0 : Nat} {x1 : Int32} {S : ZH} {q : ZH} (h : f_X1_addMan n0 x1 S = some q) : MetX Y_X1_addMan S [z_r 1 (some n0), z_i x1] none q := by
  refine MetX.of (lo := [(0, z_r 1 (some n0)), (1, z_i x1)]) rfl (by decide) (Nat.le_of_ble_eq_true rfl) ?_
  unfold f_X1_addMan at h
  refine x_aload_n 0 dX1_addMan_0 rfl rfl ?_
  refine x_getR rfl ck_1 0 (by decide) rfl q_154 dX1_addMan_1 ?_
  refine x_iload_n 1 dX1_addMan_4 rfl rfl ?_
  refine z_bnd h (fun a1 ha1 h => ?_)
  refine z_bnd h (fun q2 hq2 h => ?_)
  refine x_callV1 ha1 (w_X10_has hq2) cw_X10_has q_800 ⟨by decide, by decide⟩ (Nat.le_of_ble_eq_true rfl) dX1_addMan_5 rfl ?_
  refine x_if_eq (tgt := 21) dX1_addMan_8 (by decide) h (fun h => ?_) (fun h => ?_)
  · exact x_vretE rfl dX1_addMan_21 h
  · refine x_aload_n 0 dX1_addMan_11 rfl rfl ?_
    refine x_getR rfl ck_1 1 (by decide) rfl q_155 dX1_addMan_12 ?_
    refine x_iload_n 1 dX1_addMan_15 rfl rfl ?_
    refine x_dup2 dX1_addMan_16 rfl rfl ?_
    refine z_bnd h (fun a3 ha3 h => ?_)
    refine x_iaload ha3 ak_14 dX1_addMan_17 h (fun v4 hv4 h => ?_)
    refine x_iconst (v := (1 : Int32)) dX1_addMan_18 (by decide) ?_
    refine x_iadd dX1_addMan_19 ?_
    refine z_bnd h (fun a5 ha5 h => ?_)
    refine x_iastore ha5 ak_14 dX1_addMan_20 h (fun S6 hS6 h => ?_)
    exact x_vretE rfl dX1_addMan_21 h
-- PressedMen countTheTakeable ()V
abbrev Y_X11_countTheTakeable : ZM := (yX11_countTheTakeable, cX11_countTheTakeable, 3, none, 6, 133)
theorem cw_X11_countTheTakeable : z_CV Y_X11_countTheTakeable 11 0 := ⟨⟨_, _, rfl⟩, by decide, q_789, q_27, q_790, q_70, ⟨by decide, by decide⟩, rfl⟩
def b_X11_countTheTakeable_22 (n0 : Nat) (x1 : Option Nat) (v : Int32 × ZH) : Option ((Int32 × ZH) ⊕ (ZH)) :=
  if (zI v.2 11 n0 2) ≤ v.1 then (
    some (Sum.inr v.2)
  ) else (
    ((zR v.2 11 n0 1)).bind fun a5 =>
    (zldR v.2 22 a5 v.1).bind fun v6 =>
    (v6).bind fun a7 =>
    (f_X11_isStreet (zI v.2 3 a7 8) v.2).bind fun q8 =>
    if q8 = 0 then (
      some (Sum.inl ((v.1 + 1), v.2))
    ) else (
      (f_X11_holdsInTruth n0 x1 v.1 v.2).bind fun q9 =>
      if q9 = 0 then (
        some (Sum.inl ((v.1 + 1), v.2))
      ) else (
        ((zR v.2 11 n0 1)).bind fun a10 =>
        (zldR v.2 22 a10 v.1).bind fun v11 =>
        (v11).bind fun a12 =>
        ((zR v.2 11 n0 14)).bind fun a13 =>
        (f_X1_addMan a13 (zI v.2 3 a12 8) v.2).bind fun q14 =>
        some (Sum.inl ((v.1 + 1), q14))
      )
    )
  )
def f_X11_countTheTakeable (n0 : Nat) (S : ZH) : Option (ZH) :=
  ((zR S 11 n0 14)).bind fun a1 =>
  (f_X1_forgetMen a1 S).bind fun q2 =>
  (f_X11_actInForce n0 (zI q2 11 n0 16) q2).bind fun q3 =>
  (f_X11_findAct n0 q3 q2).bind fun q4 =>
  (z_iter zFU (b_X11_countTheTakeable_22 n0 q4) ((0 : Int32), q2)).bind fun t15 =>
  some t15
set_option maxRecDepth 20000 in
theorem l_X11_countTheTakeable_22 {S0 : ZH} {F : ZP} {n0 : Nat} {x1 : Option Nat} {v : Int32 × ZH} {t : ZH} (h : z_iter zFU (b_X11_countTheTakeable_22 n0 x1) v = some t) (k : (fun t => Wp Y_X11_countTheTakeable S0 F 76 [] [] t) t) : Wp Y_X11_countTheTakeable S0 F 22 [(0, z_r 11 (some n0)), (1, z_r 0 x1), (2, z_i v.1)] [] v.2 := by
  refine z_iter_P (P := fun v : Int32 × ZH => Wp Y_X11_countTheTakeable S0 F 22 [(0, z_r 11 (some n0)), (1, z_r 0 x1), (2, z_i v.1)] [] v.2) (X := (fun t => Wp Y_X11_countTheTakeable S0 F 76 [] [] t)) ?_ _ _ _ h k
  clear h k v t
  intro v r h k
  unfold b_X11_countTheTakeable_22 at h
  refine x_iload_n 2 dX11_countTheTakeable_22 rfl rfl ?_
  refine x_aload_n 0 dX11_countTheTakeable_23 rfl rfl ?_
  refine x_getI rfl ck_11 2 (by decide) rfl q_192 dX11_countTheTakeable_24 ?_
  refine x_ic_ge (tgt := 76) dX11_countTheTakeable_27 (by decide) h (fun h => ?_) (fun h => ?_)
  · cases h
    exact x_lo [] rfl k
  · refine x_aload_n 0 dX11_countTheTakeable_30 rfl rfl ?_
    refine x_getR rfl ck_11 1 (by decide) rfl q_191 dX11_countTheTakeable_31 ?_
    refine x_iload_n 2 dX11_countTheTakeable_34 rfl rfl ?_
    refine z_bnd h (fun a5 ha5 h => ?_)
    refine x_aaload ha5 ak_22 dX11_countTheTakeable_35 h (fun v6 hv6 h => ?_)
    refine z_bnd h (fun a7 ha7 h => ?_)
    revert h
    subst ha7
    intro h
    refine x_getI rfl ck_3 8 (by decide) rfl q_327 dX11_countTheTakeable_36 ?_
    refine z_bnd h (fun q8 hq8 h => ?_)
    refine x_callS1 (w_X11_isStreet hq8) cw_X11_isStreet q_423 ⟨by decide, by decide⟩ (Nat.le_of_ble_eq_true rfl) dX11_countTheTakeable_39 rfl ?_
    refine x_if_eq (tgt := 70) dX11_countTheTakeable_42 (by decide) h (fun h => ?_) (fun h => ?_)
    · refine x_iinc (v := (v.1 + 1)) (lo' := [(2, z_i (v.1 + 1)), (0, z_r 11 (some n0)), (1, z_r 0 x1)]) 2 dX11_countTheTakeable_70 rfl (congrArg (HAdd.hAdd v.1) (by decide)) (by decide) rfl ?_
      refine x_goto (tgt := 22) dX11_countTheTakeable_73 (by decide) ?_
      cases h
      exact x_lo [1, 2, 0] rfl k
    · refine x_aload_n 0 dX11_countTheTakeable_45 rfl rfl ?_
      refine x_aload_n 1 dX11_countTheTakeable_46 rfl rfl ?_
      refine x_iload_n 2 dX11_countTheTakeable_47 rfl rfl ?_
      refine z_bnd h (fun q9 hq9 h => ?_)
      refine x_callV1 rfl (w_X11_holdsInTruth hq9) cw_X11_holdsInTruth q_675 ⟨by decide, by decide⟩ (Nat.le_of_ble_eq_true rfl) dX11_countTheTakeable_48 rfl ?_
      refine x_if_eq (tgt := 70) dX11_countTheTakeable_51 (by decide) h (fun h => ?_) (fun h => ?_)
      · refine x_iinc (v := (v.1 + 1)) (lo' := [(2, z_i (v.1 + 1)), (0, z_r 11 (some n0)), (1, z_r 0 x1)]) 2 dX11_countTheTakeable_70 rfl (congrArg (HAdd.hAdd v.1) (by decide)) (by decide) rfl ?_
        refine x_goto (tgt := 22) dX11_countTheTakeable_73 (by decide) ?_
        cases h
        exact x_lo [1, 2, 0] rfl k
      · refine x_aload_n 0 dX11_countTheTakeable_54 rfl rfl ?_
        refine x_getR rfl ck_11 14 (by decide) rfl q_204 dX11_countTheTakeable_55 ?_
        refine x_aload_n 0 dX11_countTheTakeable_58 rfl rfl ?_
        refine x_getR rfl ck_11 1 (by decide) rfl q_191 dX11_countTheTakeable_59 ?_
        refine x_iload_n 2 dX11_countTheTakeable_62 rfl rfl ?_
        refine z_bnd h (fun a10 ha10 h => ?_)
        refine x_aaload ha10 ak_22 dX11_countTheTakeable_63 h (fun v11 hv11 h => ?_)
        refine z_bnd h (fun a12 ha12 h => ?_)
        revert h
        subst ha12
        intro h
        refine x_getI rfl ck_3 8 (by decide) rfl q_327 dX11_countTheTakeable_64 ?_
        refine z_bnd h (fun a13 ha13 h => ?_)
        refine z_bnd h (fun q14 hq14 h => ?_)
        refine x_callVv ha13 (w_X1_addMan hq14) cw_X1_addMan q_796 ⟨by decide, by decide⟩ (Nat.le_of_ble_eq_true rfl) dX11_countTheTakeable_67 rfl ?_
        refine x_iinc (v := (v.1 + 1)) (lo' := [(2, z_i (v.1 + 1)), (0, z_r 11 (some n0)), (1, z_r 0 x1)]) 2 dX11_countTheTakeable_70 rfl (congrArg (HAdd.hAdd v.1) (by decide)) (by decide) rfl ?_
        refine x_goto (tgt := 22) dX11_countTheTakeable_73 (by decide) ?_
        cases h
        exact x_lo [1, 2, 0] rfl k
set_option maxRecDepth 20000 in
set_option maxHeartbeats 1000000 in
theorem w_X11_countTheTakeable {n0 : Nat} {S : ZH} {q : ZH} (h : f_X11_countTheTakeable n0 S = some q) : MetX Y_X11_countTheTakeable S [z_r 11 (some n0)] none q := by
  refine MetX.of (lo := [(0, z_r 11 (some n0))]) rfl (by decide) (Nat.le_of_ble_eq_true rfl) ?_
  unfold f_X11_countTheTakeable at h
  refine x_aload_n 0 dX11_countTheTakeable_0 rfl rfl ?_
  refine x_getR rfl ck_11 14 (by decide) rfl q_204 dX11_countTheTakeable_1 ?_
  refine z_bnd h (fun a1 ha1 h => ?_)
  refine z_bnd h (fun q2 hq2 h => ?_)
  refine x_callVv ha1 (w_X1_forgetMen hq2) cw_X1_forgetMen q_791 ⟨by decide, by decide⟩ (Nat.le_of_ble_eq_true rfl) dX11_countTheTakeable_4 rfl ?_
  refine x_aload_n 0 dX11_countTheTakeable_7 rfl rfl ?_
  refine x_aload_n 0 dX11_countTheTakeable_8 rfl rfl ?_
  refine x_aload_n 0 dX11_countTheTakeable_9 rfl rfl ?_
  refine x_getI rfl ck_11 16 (by decide) rfl q_206 dX11_countTheTakeable_10 ?_
  refine z_bnd h (fun q3 hq3 h => ?_)
  refine x_callV1 rfl (w_X11_actInForce hq3) cw_X11_actInForce q_634 ⟨by decide, by decide⟩ (Nat.le_of_ble_eq_true rfl) dX11_countTheTakeable_13 rfl ?_
  refine z_bnd h (fun q4 hq4 h => ?_)
  refine x_callV1 rfl (w_X11_findAct hq4) cw_X11_findAct q_602 ⟨by decide, by decide⟩ (Nat.le_of_ble_eq_true rfl) dX11_countTheTakeable_16 rfl ?_
  refine x_astore_n (lo' := [(1, z_r 0 q4), (0, z_r 11 (some n0))]) dX11_countTheTakeable_19 rfl (by decide) rfl ?_
  refine x_iconst (v := (0 : Int32)) dX11_countTheTakeable_20 (by decide) ?_
  refine x_istore_n (lo' := [(2, z_i (0 : Int32)), (1, z_r 0 q4), (0, z_r 11 (some n0))]) dX11_countTheTakeable_21 rfl (by decide) rfl ?_
  refine z_bnd h (fun t15 ht15 h => ?_)
  refine x_lo [2, 1, 0] rfl ?_
  refine l_X11_countTheTakeable_22 ht15 ?_
  exact x_vretE rfl dX11_countTheTakeable_76 h
-- PressedMen$Gangs mostMet (I)I
abbrev Y_X1_mostMet : ZM := (yX1_mostMet, cX1_mostMet, 5, (some .int), 0, 0)
theorem cw_X1_mostMet : z_CV Y_X1_mostMet 1 1 := ⟨⟨_, _, rfl⟩, by decide, q_802, q_803, q_804, q_73, ⟨by decide, by decide⟩, rfl⟩
def b_X1_mostMet_7 (n0 : Nat) (x1 : Int32) (S : ZH) (v : Int32 × Int32 × Int32) : Option ((Int32 × Int32 × Int32) ⊕ (Int32 × Int32)) :=
  ((zR S 1 n0 0)).bind fun a1 =>
  if (zI S 10 a1 0) ≤ v.2.2 then (
    some (Sum.inr (v.1, v.2.1))
  ) else (
    ((zR S 1 n0 1)).bind fun a2 =>
    (zld S 14 a2 v.2.2).bind fun v3 =>
    if v3 ≤ v.1 then (
      ((zR S 1 n0 1)).bind fun a4 =>
      (zld S 14 a4 v.2.2).bind fun v5 =>
      if v5 ≤ v.2.1 then (
        some (Sum.inl (v.1, v.2.1, (v.2.2 + 1)))
      ) else (
        ((zR S 1 n0 1)).bind fun a6 =>
        (zld S 14 a6 v.2.2).bind fun v7 =>
        some (Sum.inl (v.1, v7, (v.2.2 + 1)))
      )
    ) else (
      ((zR S 1 n0 1)).bind fun a8 =>
      (zld S 14 a8 v.2.2).bind fun v9 =>
      some (Sum.inl (v9, v.1, (v.2.2 + 1)))
    )
  )
def f_X1_mostMet (n0 : Nat) (x1 : Int32) (S : ZH) : Option (Int32) :=
  (z_iter zFU (b_X1_mostMet_7 n0 x1 S) ((0 : Int32), (0 : Int32), (0 : Int32))).bind fun t10 =>
  if ¬ x1 = (1 : Int32) then (
    some (t10.1 + t10.2)
  ) else (
    some t10.1
  )
set_option maxRecDepth 20000 in
theorem l_X1_mostMet_7 {S0 : ZH} {F : ZP} {n0 : Nat} {x1 : Int32} {S : ZH} {v : Int32 × Int32 × Int32} {t : Int32 × Int32} (h : z_iter zFU (b_X1_mostMet_7 n0 x1 S) v = some t) (k : (fun t => Wp Y_X1_mostMet S0 F 68 [(1, z_i x1), (2, z_i t.1), (3, z_i t.2)] [] S) t) : Wp Y_X1_mostMet S0 F 7 [(0, z_r 1 (some n0)), (1, z_i x1), (2, z_i v.1), (3, z_i v.2.1), (4, z_i v.2.2)] [] S := by
  refine z_iter_P (P := fun v : Int32 × Int32 × Int32 => Wp Y_X1_mostMet S0 F 7 [(0, z_r 1 (some n0)), (1, z_i x1), (2, z_i v.1), (3, z_i v.2.1), (4, z_i v.2.2)] [] S) (X := (fun t => Wp Y_X1_mostMet S0 F 68 [(1, z_i x1), (2, z_i t.1), (3, z_i t.2)] [] S)) ?_ _ _ _ h k
  clear h k v t
  intro v r h k
  unfold b_X1_mostMet_7 at h
  refine x_iload 4 dX1_mostMet_7 rfl ?_
  refine x_aload_n 0 dX1_mostMet_9 rfl rfl ?_
  refine x_getR rfl ck_1 0 (by decide) rfl q_154 dX1_mostMet_10 ?_
  refine z_bnd h (fun a1 ha1 h => ?_)
  refine x_getI ha1 ck_10 0 (by decide) rfl q_104 dX1_mostMet_13 ?_
  refine x_ic_ge (tgt := 68) dX1_mostMet_16 (by decide) h (fun h => ?_) (fun h => ?_)
  · cases h
    exact x_lo [1, 2, 3] rfl k
  · refine x_aload_n 0 dX1_mostMet_19 rfl rfl ?_
    refine x_getR rfl ck_1 1 (by decide) rfl q_155 dX1_mostMet_20 ?_
    refine x_iload 4 dX1_mostMet_23 rfl ?_
    refine z_bnd h (fun a2 ha2 h => ?_)
    refine x_iaload ha2 ak_14 dX1_mostMet_25 h (fun v3 hv3 h => ?_)
    refine x_iload_n 2 dX1_mostMet_26 rfl rfl ?_
    refine x_ic_le (tgt := 43) dX1_mostMet_27 (by decide) h (fun h => ?_) (fun h => ?_)
    · refine x_aload_n 0 dX1_mostMet_43 rfl rfl ?_
      refine x_getR rfl ck_1 1 (by decide) rfl q_155 dX1_mostMet_44 ?_
      refine x_iload 4 dX1_mostMet_47 rfl ?_
      refine z_bnd h (fun a4 ha4 h => ?_)
      refine x_iaload ha4 ak_14 dX1_mostMet_49 h (fun v5 hv5 h => ?_)
      refine x_iload_n 3 dX1_mostMet_50 rfl rfl ?_
      refine x_ic_le (tgt := 62) dX1_mostMet_51 (by decide) h (fun h => ?_) (fun h => ?_)
      · refine x_iinc (v := (v.2.2 + 1)) (lo' := [(4, z_i (v.2.2 + 1)), (0, z_r 1 (some n0)), (1, z_i x1), (2, z_i v.1), (3, z_i v.2.1)]) 4 dX1_mostMet_62 rfl (congrArg (HAdd.hAdd v.2.2) (by decide)) (by decide) rfl ?_
        refine x_goto (tgt := 7) dX1_mostMet_65 (by decide) ?_
        cases h
        exact x_lo [1, 2, 3, 4, 0] rfl k
      · refine x_aload_n 0 dX1_mostMet_54 rfl rfl ?_
        refine x_getR rfl ck_1 1 (by decide) rfl q_155 dX1_mostMet_55 ?_
        refine x_iload 4 dX1_mostMet_58 rfl ?_
        refine z_bnd h (fun a6 ha6 h => ?_)
        refine x_iaload ha6 ak_14 dX1_mostMet_60 h (fun v7 hv7 h => ?_)
        refine x_istore_n (lo' := [(3, z_i v7), (0, z_r 1 (some n0)), (1, z_i x1), (2, z_i v.1), (4, z_i v.2.2)]) dX1_mostMet_61 rfl (by decide) rfl ?_
        refine x_iinc (v := (v.2.2 + 1)) (lo' := [(4, z_i (v.2.2 + 1)), (3, z_i v7), (0, z_r 1 (some n0)), (1, z_i x1), (2, z_i v.1)]) 4 dX1_mostMet_62 rfl (congrArg (HAdd.hAdd v.2.2) (by decide)) (by decide) rfl ?_
        refine x_goto (tgt := 7) dX1_mostMet_65 (by decide) ?_
        cases h
        exact x_lo [2, 3, 4, 1, 0] rfl k
    · refine x_iload_n 2 dX1_mostMet_30 rfl rfl ?_
      refine x_istore_n (lo' := [(3, z_i v.1), (0, z_r 1 (some n0)), (1, z_i x1), (2, z_i v.1), (4, z_i v.2.2)]) dX1_mostMet_31 rfl (by decide) rfl ?_
      refine x_aload_n 1 dX1_mostMet_32 rfl rfl ?_
      refine x_getR rfl ck_1 1 (by decide) rfl q_155 dX1_mostMet_33 ?_
      refine x_iload 4 dX1_mostMet_36 rfl ?_
      refine z_bnd h (fun a8 ha8 h => ?_)
      refine x_iaload ha8 ak_14 dX1_mostMet_38 h (fun v9 hv9 h => ?_)
      refine x_istore_n (lo' := [(2, z_i v9), (3, z_i v.1), (0, z_r 1 (some n0)), (1, z_i x1), (4, z_i v.2.2)]) dX1_mostMet_39 rfl (by decide) rfl ?_
      refine x_goto (tgt := 62) dX1_mostMet_40 (by decide) ?_
      refine x_iinc (v := (v.2.2 + 1)) (lo' := [(4, z_i (v.2.2 + 1)), (2, z_i v9), (3, z_i v.1), (0, z_r 1 (some n0)), (1, z_i x1)]) 4 dX1_mostMet_62 rfl (congrArg (HAdd.hAdd v.2.2) (by decide)) (by decide) rfl ?_
      refine x_goto (tgt := 7) dX1_mostMet_65 (by decide) ?_
      cases h
      exact x_lo [3, 4, 1, 2, 0] rfl k
set_option maxRecDepth 20000 in
set_option maxHeartbeats 1000000 in
theorem w_X1_mostMet {n0 : Nat} {x1 : Int32} {S : ZH} {q : Int32} (h : f_X1_mostMet n0 x1 S = some q) : MetX Y_X1_mostMet S [z_r 1 (some n0), z_i x1] (some (z_i q)) S := by
  refine MetX.of (lo := [(0, z_r 1 (some n0)), (1, z_i x1)]) rfl (by decide) (Nat.le_of_ble_eq_true rfl) ?_
  unfold f_X1_mostMet at h
  refine x_iconst (v := (0 : Int32)) dX1_mostMet_0 (by decide) ?_
  refine x_istore_n (lo' := [(2, z_i (0 : Int32)), (0, z_r 1 (some n0)), (1, z_i x1)]) dX1_mostMet_1 rfl (by decide) rfl ?_
  refine x_iconst (v := (0 : Int32)) dX1_mostMet_2 (by decide) ?_
  refine x_istore_n (lo' := [(3, z_i (0 : Int32)), (2, z_i (0 : Int32)), (0, z_r 1 (some n0)), (1, z_i x1)]) dX1_mostMet_3 rfl (by decide) rfl ?_
  refine x_iconst (v := (0 : Int32)) dX1_mostMet_4 (by decide) ?_
  refine x_istore (lo' := [(4, z_i (0 : Int32)), (3, z_i (0 : Int32)), (2, z_i (0 : Int32)), (0, z_r 1 (some n0)), (1, z_i x1)]) dX1_mostMet_5 (by decide) rfl ?_
  refine z_bnd h (fun t10 ht10 h => ?_)
  refine x_lo [3, 4, 2, 1, 0] rfl ?_
  refine l_X1_mostMet_7 ht10 ?_
  refine x_iload_n 0 dX1_mostMet_68 rfl rfl ?_
  refine x_iconst (v := (1 : Int32)) dX1_mostMet_69 (by decide) ?_
  refine x_ic_ne (tgt := 77) dX1_mostMet_70 (by decide) h (fun h => ?_) (fun h => ?_)
  · refine x_iload_n 1 dX1_mostMet_77 rfl rfl ?_
    refine x_iload_n 2 dX1_mostMet_78 rfl rfl ?_
    refine x_iadd dX1_mostMet_79 ?_
    exact x_iret rfl dX1_mostMet_80 h
  · refine x_iload_n 1 dX1_mostMet_73 rfl rfl ?_
    refine x_goto (tgt := 80) dX1_mostMet_74 (by decide) ?_
    exact x_iret rfl dX1_mostMet_80 h
-- PressedMen met (II)I
abbrev Y_X11_met : ZM := (yX11_met, cX11_met, 3, (some .int), 7, 155)
theorem cw_X11_met : z_CV Y_X11_met 11 2 := ⟨⟨_, _, rfl⟩, by decide, q_784, q_785, q_786, q_70, ⟨by decide, by decide⟩, rfl⟩
def f_X11_met (n0 : Nat) (x1 : Int32) (x2 : Int32) (S : ZH) : Option (Int32 × ZH) :=
  (f_X11_within x1 (1 : Int32) (2 : Int32) S).bind fun q1 =>
  if q1 = 0 then (
    some ((-2 : Int32), S)
  ) else (
    (f_X11_within x2 (1 : Int32) (3 : Int32) S).bind fun q2 =>
    if ¬ q2 = 0 then (
      (f_X11_countTheTakeable n0 S).bind fun q3 =>
      ((zR q3 11 n0 14)).bind fun a4 =>
      (f_X1_mostMet a4 x1 q3).bind fun q5 =>
      some (q5, q3)
    ) else (
      some ((-2 : Int32), S)
    )
  )
set_option maxRecDepth 20000 in
set_option maxHeartbeats 1000000 in
theorem w_X11_met {n0 : Nat} {x1 : Int32} {x2 : Int32} {S : ZH} {q : Int32 × ZH} (h : f_X11_met n0 x1 x2 S = some q) : MetX Y_X11_met S [z_r 11 (some n0), z_i x1, z_i x2] (some (z_i q.1)) q.2 := by
  refine MetX.of (lo := [(0, z_r 11 (some n0)), (1, z_i x1), (2, z_i x2)]) rfl (by decide) (Nat.le_of_ble_eq_true rfl) ?_
  unfold f_X11_met at h
  refine x_iload_n 1 dX11_met_0 rfl rfl ?_
  refine x_iconst (v := (1 : Int32)) dX11_met_1 (by decide) ?_
  refine x_iconst (v := (2 : Int32)) dX11_met_2 (by decide) ?_
  refine z_bnd h (fun q1 hq1 h => ?_)
  refine x_callS1 (w_X11_within hq1) cw_X11_within q_252 ⟨by decide, by decide⟩ (Nat.le_of_ble_eq_true rfl) dX11_met_3 rfl ?_
  refine x_if_eq (tgt := 18) dX11_met_6 (by decide) h (fun h => ?_) (fun h => ?_)
  · refine x_bipush (v := (-2 : Int32)) dX11_met_18 (by decide) ?_
    exact x_iretE rfl dX11_met_20 h
  · refine x_iload_n 2 dX11_met_9 rfl rfl ?_
    refine x_iconst (v := (1 : Int32)) dX11_met_10 (by decide) ?_
    refine x_iconst (v := (3 : Int32)) dX11_met_11 (by decide) ?_
    refine z_bnd h (fun q2 hq2 h => ?_)
    refine x_callS1 (w_X11_within hq2) cw_X11_within q_252 ⟨by decide, by decide⟩ (Nat.le_of_ble_eq_true rfl) dX11_met_12 rfl ?_
    refine x_if_ne (tgt := 21) dX11_met_15 (by decide) h (fun h => ?_) (fun h => ?_)
    · refine x_aload_n 0 dX11_met_21 rfl rfl ?_
      refine z_bnd h (fun q3 hq3 h => ?_)
      refine x_callVv rfl (w_X11_countTheTakeable hq3) cw_X11_countTheTakeable q_787 ⟨by decide, by decide⟩ (Nat.le_of_ble_eq_true rfl) dX11_met_22 rfl ?_
      refine x_aload_n 0 dX11_met_25 rfl rfl ?_
      refine x_getR rfl ck_11 14 (by decide) rfl q_204 dX11_met_26 ?_
      refine x_iload_n 1 dX11_met_29 rfl rfl ?_
      refine z_bnd h (fun a4 ha4 h => ?_)
      refine z_bnd h (fun q5 hq5 h => ?_)
      refine x_callV1 ha4 (w_X1_mostMet hq5) cw_X1_mostMet q_801 ⟨by decide, by decide⟩ (Nat.le_of_ble_eq_true rfl) dX11_met_30 rfl ?_
      exact x_iretE rfl dX11_met_33 h
    · refine x_bipush (v := (-2 : Int32)) dX11_met_18 (by decide) ?_
      exact x_iretE rfl dX11_met_20 h
-- PressedMen$Town isStep (II)Z
abbrev Y_X10_isStep : ZM := (yX10_isStep, cX10_isStep, 3, (some .boolean), 1, 21)
theorem cw_X10_isStep : z_CV Y_X10_isStep 10 2 := ⟨⟨_, _, rfl⟩, by decide, q_823, q_824, q_825, q_71, ⟨by decide, by decide⟩, rfl⟩
def f_X10_isStep (n0 : Nat) (x1 : Int32) (x2 : Int32) (S : ZH) : Option (Int32) :=
  if x1 = x2 then (
    some (1 : Int32)
  ) else (
    (f_X10_cell x1 x2 S).bind fun q1 =>
    ((zR S 10 n0 1)).bind fun a2 =>
    (zld S 20 a2 q1).bind fun v3 =>
    if v3 = 0 then (
      some (0 : Int32)
    ) else (
      some (1 : Int32)
    )
  )
set_option maxRecDepth 20000 in
set_option maxHeartbeats 1000000 in
theorem w_X10_isStep {n0 : Nat} {x1 : Int32} {x2 : Int32} {S : ZH} {q : Int32} (h : f_X10_isStep n0 x1 x2 S = some q) : MetX Y_X10_isStep S [z_r 10 (some n0), z_i x1, z_i x2] (some (z_i q)) S := by
  refine MetX.of (lo := [(0, z_r 10 (some n0)), (1, z_i x1), (2, z_i x2)]) rfl (by decide) (Nat.le_of_ble_eq_true rfl) ?_
  unfold f_X10_isStep at h
  refine x_iload_n 1 dX10_isStep_0 rfl rfl ?_
  refine x_iload_n 2 dX10_isStep_1 rfl rfl ?_
  refine x_ic_eq (tgt := 18) dX10_isStep_2 (by decide) h (fun h => ?_) (fun h => ?_)
  · refine x_iconst (v := (1 : Int32)) dX10_isStep_18 (by decide) ?_
    refine x_goto (tgt := 23) dX10_isStep_19 (by decide) ?_
    exact x_zretC rfl (by decide) dX10_isStep_23 h
  · refine x_aload_n 0 dX10_isStep_5 rfl rfl ?_
    refine x_getR rfl ck_10 1 (by decide) rfl q_105 dX10_isStep_6 ?_
    refine x_iload_n 1 dX10_isStep_9 rfl rfl ?_
    refine x_iload_n 2 dX10_isStep_10 rfl rfl ?_
    refine z_bnd h (fun q1 hq1 h => ?_)
    refine x_callS1 (w_X10_cell hq1) cw_X10_cell q_259 ⟨by decide, by decide⟩ (Nat.le_of_ble_eq_true rfl) dX10_isStep_11 rfl ?_
    refine z_bnd h (fun a2 ha2 h => ?_)
    refine x_zaload ha2 ak_20 dX10_isStep_14 h (fun v3 hv3 h => ?_)
    refine x_if_eq (tgt := 22) dX10_isStep_15 (by decide) h (fun h => ?_) (fun h => ?_)
    · refine x_iconst (v := (0 : Int32)) dX10_isStep_22 (by decide) ?_
      exact x_zretC rfl (by decide) dX10_isStep_23 h
    · refine x_iconst (v := (1 : Int32)) dX10_isStep_18 (by decide) ?_
      refine x_goto (tgt := 23) dX10_isStep_19 (by decide) ?_
      exact x_zretC rfl (by decide) dX10_isStep_23 h
