-- PressedMen hideTheShy ()V
abbrev Y_X11_hideTheShy : ZM := (yX11_hideTheShy, cX11_hideTheShy, 3, none, 4, 125)
theorem cw_X11_hideTheShy : z_CV Y_X11_hideTheShy 11 0 := ⟨⟨_, _, rfl⟩, by decide, q_421, q_6, q_422, q_70, ⟨by decide, by decide⟩, rfl⟩
def b_X11_hideTheShy_2 (n0 : Nat) (v : Int32 × ZH) : Option ((Int32 × ZH) ⊕ (ZH)) :=
  if (zI v.2 11 n0 2) ≤ v.1 then (
    some (Sum.inr v.2)
  ) else (
    ((zR v.2 11 n0 1)).bind fun a1 =>
    (zldR v.2 22 a1 v.1).bind fun v2 =>
    (v2).bind fun a3 =>
    if (zI v.2 3 a3 7) = 0 then (
      some (Sum.inl ((v.1 + 1), v.2))
    ) else (
      (f_X11_isStreet (zI v.2 3 a3 8) v.2).bind fun q4 =>
      if q4 = 0 then (
        some (Sum.inl ((v.1 + 1), v.2))
      ) else (
        ((zR v.2 11 n0 13)).bind fun a5 =>
        (zld v.2 28 a5 (zI v.2 3 a3 8)).bind fun v6 =>
        if (zI v.2 11 n0 16) < v6 then (
          some (Sum.inl ((v.1 + 1), v.2))
        ) else (
          (f_X3_goTo a3 (22 : Int32) (zI v.2 11 n0 16) v.2).bind fun q7 =>
          some (Sum.inl ((v.1 + 1), q7.2))
        )
      )
    )
  )
def f_X11_hideTheShy (n0 : Nat) (S : ZH) : Option (ZH) :=
  (z_iter zFU (b_X11_hideTheShy_2 n0) ((0 : Int32), S)).bind fun t8 =>
  some t8
set_option maxRecDepth 20000 in
theorem l_X11_hideTheShy_2 {S0 : ZH} {F : ZP} {n0 : Nat} {v : Int32 × ZH} {t : ZH} (h : z_iter zFU (b_X11_hideTheShy_2 n0) v = some t) (k : (fun t => Wp Y_X11_hideTheShy S0 F 67 [] [] t) t) : Wp Y_X11_hideTheShy S0 F 2 [(0, z_r 11 (some n0)), (1, z_i v.1)] [] v.2 := by
  refine z_iter_P (P := fun v : Int32 × ZH => Wp Y_X11_hideTheShy S0 F 2 [(0, z_r 11 (some n0)), (1, z_i v.1)] [] v.2) (X := (fun t => Wp Y_X11_hideTheShy S0 F 67 [] [] t)) ?_ _ _ _ h k
  clear h k v t
  intro v r h k
  unfold b_X11_hideTheShy_2 at h
  refine x_iload_n 1 dX11_hideTheShy_2 rfl rfl ?_
  refine x_aload_n 0 dX11_hideTheShy_3 rfl rfl ?_
  refine x_getI rfl ck_11 2 (by decide) rfl q_192 dX11_hideTheShy_4 ?_
  refine x_ic_ge (tgt := 67) dX11_hideTheShy_7 (by decide) h (fun h => ?_) (fun h => ?_)
  · cases h
    exact x_lo [] rfl k
  · refine x_aload_n 0 dX11_hideTheShy_10 rfl rfl ?_
    refine x_getR rfl ck_11 1 (by decide) rfl q_191 dX11_hideTheShy_11 ?_
    refine x_iload_n 1 dX11_hideTheShy_14 rfl rfl ?_
    refine z_bnd h (fun a1 ha1 h => ?_)
    refine x_aaload ha1 ak_22 dX11_hideTheShy_15 h (fun v2 hv2 h => ?_)
    refine x_astore_n (lo' := [(2, z_r 3 v2), (0, z_r 11 (some n0)), (1, z_i v.1)]) dX11_hideTheShy_16 rfl (by decide) rfl ?_
    refine x_aload_n 0 dX11_hideTheShy_17 rfl rfl ?_
    refine z_bnd h (fun a3 ha3 h => ?_)
    revert h
    subst ha3
    intro h
    refine x_getI rfl ck_3 7 (by decide) rfl q_324 dX11_hideTheShy_18 ?_
    refine x_if_eq (tgt := 61) dX11_hideTheShy_21 (by decide) h (fun h => ?_) (fun h => ?_)
    · refine x_iinc (v := (v.1 + 1)) (lo' := [(1, z_i (v.1 + 1)), (2, z_r 3 (some a3)), (0, z_r 11 (some n0))]) 2 dX11_hideTheShy_61 rfl (congrArg (HAdd.hAdd v.1) (by decide)) (by decide) rfl ?_
      refine x_goto (tgt := 2) dX11_hideTheShy_64 (by decide) ?_
      cases h
      exact x_lo [2, 0] rfl k
    · refine x_aload_n 0 dX11_hideTheShy_24 rfl rfl ?_
      refine x_getI rfl ck_3 8 (by decide) rfl q_327 dX11_hideTheShy_25 ?_
      refine z_bnd h (fun q4 hq4 h => ?_)
      refine x_callS1 (w_X11_isStreet hq4) cw_X11_isStreet q_423 ⟨by decide, by decide⟩ (Nat.le_of_ble_eq_true rfl) dX11_hideTheShy_28 rfl ?_
      refine x_if_eq (tgt := 61) dX11_hideTheShy_31 (by decide) h (fun h => ?_) (fun h => ?_)
      · refine x_iinc (v := (v.1 + 1)) (lo' := [(1, z_i (v.1 + 1)), (2, z_r 3 (some a3)), (0, z_r 11 (some n0))]) 2 dX11_hideTheShy_61 rfl (congrArg (HAdd.hAdd v.1) (by decide)) (by decide) rfl ?_
        refine x_goto (tgt := 2) dX11_hideTheShy_64 (by decide) ?_
        cases h
        exact x_lo [2, 0] rfl k
      · refine x_aload_n 1 dX11_hideTheShy_34 rfl rfl ?_
        refine x_getR rfl ck_11 13 (by decide) rfl q_203 dX11_hideTheShy_35 ?_
        refine x_aload_n 0 dX11_hideTheShy_38 rfl rfl ?_
        refine x_getI rfl ck_3 8 (by decide) rfl q_327 dX11_hideTheShy_39 ?_
        refine z_bnd h (fun a5 ha5 h => ?_)
        refine x_iaload ha5 ak_28 dX11_hideTheShy_42 h (fun v6 hv6 h => ?_)
        refine x_aload_n 1 dX11_hideTheShy_43 rfl rfl ?_
        refine x_getI rfl ck_11 16 (by decide) rfl q_206 dX11_hideTheShy_44 ?_
        refine x_ic_gt (tgt := 61) dX11_hideTheShy_47 (by decide) h (fun h => ?_) (fun h => ?_)
        · refine x_iinc (v := (v.1 + 1)) (lo' := [(1, z_i (v.1 + 1)), (2, z_r 3 (some a3)), (0, z_r 11 (some n0))]) 2 dX11_hideTheShy_61 rfl (congrArg (HAdd.hAdd v.1) (by decide)) (by decide) rfl ?_
          refine x_goto (tgt := 2) dX11_hideTheShy_64 (by decide) ?_
          cases h
          exact x_lo [2, 0] rfl k
        · refine x_aload_n 0 dX11_hideTheShy_50 rfl rfl ?_
          refine x_bipush (v := (22 : Int32)) dX11_hideTheShy_51 (by decide) ?_
          refine x_aload_n 1 dX11_hideTheShy_53 rfl rfl ?_
          refine x_getI rfl ck_11 16 (by decide) rfl q_206 dX11_hideTheShy_54 ?_
          refine z_bnd h (fun q7 hq7 h => ?_)
          refine x_callV1 rfl (w_X3_goTo hq7) cw_X3_goTo q_424 ⟨by decide, by decide⟩ (Nat.le_of_ble_eq_true rfl) dX11_hideTheShy_57 rfl ?_
          refine x_pop dX11_hideTheShy_60 rfl ?_
          refine x_iinc (v := (v.1 + 1)) (lo' := [(1, z_i (v.1 + 1)), (2, z_r 3 (some a3)), (0, z_r 11 (some n0))]) 2 dX11_hideTheShy_61 rfl (congrArg (HAdd.hAdd v.1) (by decide)) (by decide) rfl ?_
          refine x_goto (tgt := 2) dX11_hideTheShy_64 (by decide) ?_
          cases h
          exact x_lo [2, 0] rfl k
set_option maxRecDepth 20000 in
set_option maxHeartbeats 1000000 in
theorem w_X11_hideTheShy {n0 : Nat} {S : ZH} {q : ZH} (h : f_X11_hideTheShy n0 S = some q) : MetX Y_X11_hideTheShy S [z_r 11 (some n0)] none q := by
  refine MetX.of (lo := [(0, z_r 11 (some n0))]) rfl (by decide) (Nat.le_of_ble_eq_true rfl) ?_
  unfold f_X11_hideTheShy at h
  refine x_iconst (v := (0 : Int32)) dX11_hideTheShy_0 (by decide) ?_
  refine x_istore_n (lo' := [(1, z_i (0 : Int32)), (0, z_r 11 (some n0))]) dX11_hideTheShy_1 rfl (by decide) rfl ?_
  refine z_bnd h (fun t8 ht8 h => ?_)
  refine x_lo [1, 0] rfl ?_
  refine l_X11_hideTheShy_2 ht8 ?_
  exact x_vretE rfl dX11_hideTheShy_67 h
-- java/lang/Math max (II)I
abbrev Y_J9_max_7cf53 : ZM := (yJ9_max_7cf53, cJ9_max_7cf53, 2, (some .int), 0, 0)
theorem cw_J9_max_7cf53 : z_CS Y_J9_max_7cf53 2 := ⟨q_451, q_452, q_77, ⟨by decide, by decide⟩, rfl⟩
def f_J9_max_7cf53 (x0 : Int32) (x1 : Int32) (S : ZH) : Option (Int32) :=
  if x0 < x1 then (
    some x1
  ) else (
    some x0
  )
set_option maxRecDepth 20000 in
set_option maxHeartbeats 1000000 in
theorem w_J9_max_7cf53 {x0 : Int32} {x1 : Int32} {S : ZH} {q : Int32} (h : f_J9_max_7cf53 x0 x1 S = some q) : MetX Y_J9_max_7cf53 S [z_i x0, z_i x1] (some (z_i q)) S := by
  refine MetX.ofF (lo := [(0, z_i x0), (1, z_i x1)]) rfl (by decide +kernel) (Nat.le_of_ble_eq_true rfl) ?_
  unfold f_J9_max_7cf53 at h
  refine x_iload_n 0 dJ9_max_7cf53_0 rfl rfl ?_
  refine x_iload_n 1 dJ9_max_7cf53_1 rfl rfl ?_
  refine x_ic_lt (tgt := 9) dJ9_max_7cf53_2 (by decide) h (fun h => ?_) (fun h => ?_)
  · refine x_iload_n 1 dJ9_max_7cf53_9 rfl rfl ?_
    exact x_iret rfl dJ9_max_7cf53_10 h
  · refine x_iload_n 0 dJ9_max_7cf53_5 rfl rfl ?_
    refine x_goto (tgt := 10) dJ9_max_7cf53_6 (by decide) ?_
    exact x_iret rfl dJ9_max_7cf53_10 h
-- PressedMen sickenTheCrowd ()V
abbrev Y_X11_sickenTheCrowd : ZM := (yX11_sickenTheCrowd, cX11_sickenTheCrowd, 4, none, 4, 125)
theorem cw_X11_sickenTheCrowd : z_CV Y_X11_sickenTheCrowd 11 0 := ⟨⟨_, _, rfl⟩, by decide, q_448, q_8, q_449, q_70, ⟨by decide, by decide⟩, rfl⟩
def b_X11_sickenTheCrowd_28 (n0 : Nat) (v : Int32 × Int32 × ZH) : Option ((Int32 × Int32 × ZH) ⊕ (ZH)) :=
  if (zI v.2.2 11 n0 2) ≤ v.2.1 then (
    some (Sum.inr v.2.2)
  ) else (
    if v.1 ≤ 0 then (
      some (Sum.inr v.2.2)
    ) else (
      ((zR v.2.2 11 n0 1)).bind fun a3 =>
      (zldR v.2.2 22 a3 v.2.1).bind fun v4 =>
      (v4).bind fun a5 =>
      if ¬ (zI v.2.2 3 a5 8) = (20 : Int32) then (
        some (Sum.inl (v.1, (v.2.1 + 1), v.2.2))
      ) else (
        ((zR v.2.2 11 n0 1)).bind fun a6 =>
        (zldR v.2.2 22 a6 v.2.1).bind fun v7 =>
        (v7).bind fun a8 =>
        (f_X3_goTo a8 (21 : Int32) (zI v.2.2 11 n0 16) v.2.2).bind fun q9 =>
        some (Sum.inl ((v.1 + (-1)), (v.2.1 + 1), q9.2))
      )
    )
  )
def f_X11_sickenTheCrowd (n0 : Nat) (S : ZH) : Option (ZH) :=
  (f_X11_menIn n0 (20 : Int32) S).bind fun q1 =>
  (f_J9_max_7cf53 (0 : Int32) (q1 - (zI S 11 n0 17)) S).bind fun q2 =>
  (z_iter zFU (b_X11_sickenTheCrowd_28 n0) (((q2 * (zI S 11 n0 18)) / (100 : Int32)), (0 : Int32), S)).bind fun t10 =>
  some t10
set_option maxRecDepth 20000 in
theorem l_X11_sickenTheCrowd_28 {S0 : ZH} {F : ZP} {n0 : Nat} {v : Int32 × Int32 × ZH} {t : ZH} (h : z_iter zFU (b_X11_sickenTheCrowd_28 n0) v = some t) (k : (fun t => Wp Y_X11_sickenTheCrowd S0 F 79 [] [] t) t) : Wp Y_X11_sickenTheCrowd S0 F 28 [(0, z_r 11 (some n0)), (2, z_i v.1), (3, z_i v.2.1)] [] v.2.2 := by
  refine z_iter_P (P := fun v : Int32 × Int32 × ZH => Wp Y_X11_sickenTheCrowd S0 F 28 [(0, z_r 11 (some n0)), (2, z_i v.1), (3, z_i v.2.1)] [] v.2.2) (X := (fun t => Wp Y_X11_sickenTheCrowd S0 F 79 [] [] t)) ?_ _ _ _ h k
  clear h k v t
  intro v r h k
  unfold b_X11_sickenTheCrowd_28 at h
  refine x_iload_n 2 dX11_sickenTheCrowd_28 rfl rfl ?_
  refine x_aload_n 0 dX11_sickenTheCrowd_29 rfl rfl ?_
  refine x_getI rfl ck_11 2 (by decide) rfl q_192 dX11_sickenTheCrowd_30 ?_
  refine x_ic_ge (tgt := 79) dX11_sickenTheCrowd_33 (by decide) h (fun h => ?_) (fun h => ?_)
  · cases h
    exact x_lo [] rfl k
  · refine x_iload_n 1 dX11_sickenTheCrowd_36 rfl rfl ?_
    refine x_if_le (tgt := 79) dX11_sickenTheCrowd_37 (by decide) h (fun h => ?_) (fun h => ?_)
    · cases h
      exact x_lo [] rfl k
    · refine x_aload_n 0 dX11_sickenTheCrowd_40 rfl rfl ?_
      refine x_getR rfl ck_11 1 (by decide) rfl q_191 dX11_sickenTheCrowd_41 ?_
      refine x_iload_n 2 dX11_sickenTheCrowd_44 rfl rfl ?_
      refine z_bnd h (fun a3 ha3 h => ?_)
      refine x_aaload ha3 ak_22 dX11_sickenTheCrowd_45 h (fun v4 hv4 h => ?_)
      refine z_bnd h (fun a5 ha5 h => ?_)
      revert h
      subst ha5
      intro h
      refine x_getI rfl ck_3 8 (by decide) rfl q_327 dX11_sickenTheCrowd_46 ?_
      refine x_bipush (v := (20 : Int32)) dX11_sickenTheCrowd_49 (by decide) ?_
      refine x_ic_ne (tgt := 73) dX11_sickenTheCrowd_51 (by decide) h (fun h => ?_) (fun h => ?_)
      · refine x_iinc (v := (v.2.1 + 1)) (lo' := [(3, z_i (v.2.1 + 1)), (0, z_r 11 (some n0)), (2, z_i v.1)]) 2 dX11_sickenTheCrowd_73 rfl (congrArg (HAdd.hAdd v.2.1) (by decide)) (by decide) rfl ?_
        refine x_goto (tgt := 28) dX11_sickenTheCrowd_76 (by decide) ?_
        cases h
        exact x_lo [1, 2, 0] rfl k
      · refine x_aload_n 0 dX11_sickenTheCrowd_54 rfl rfl ?_
        refine x_getR rfl ck_11 1 (by decide) rfl q_191 dX11_sickenTheCrowd_55 ?_
        refine x_iload_n 2 dX11_sickenTheCrowd_58 rfl rfl ?_
        refine z_bnd h (fun a6 ha6 h => ?_)
        refine x_aaload ha6 ak_22 dX11_sickenTheCrowd_59 h (fun v7 hv7 h => ?_)
        refine x_bipush (v := (21 : Int32)) dX11_sickenTheCrowd_60 (by decide) ?_
        refine x_aload_n 0 dX11_sickenTheCrowd_62 rfl rfl ?_
        refine x_getI rfl ck_11 16 (by decide) rfl q_206 dX11_sickenTheCrowd_63 ?_
        refine z_bnd h (fun a8 ha8 h => ?_)
        revert h
        subst ha8
        intro h
        refine z_bnd h (fun q9 hq9 h => ?_)
        refine x_callV1 rfl (w_X3_goTo hq9) cw_X3_goTo q_424 ⟨by decide, by decide⟩ (Nat.le_of_ble_eq_true rfl) dX11_sickenTheCrowd_66 rfl ?_
        refine x_pop dX11_sickenTheCrowd_69 rfl ?_
        refine x_iinc (v := (v.1 + (-1))) (lo' := [(2, z_i (v.1 + (-1))), (0, z_r 11 (some n0)), (3, z_i v.2.1)]) 1 dX11_sickenTheCrowd_70 rfl (congrArg (HAdd.hAdd v.1) (by decide)) (by decide) rfl ?_
        refine x_iinc (v := (v.2.1 + 1)) (lo' := [(3, z_i (v.2.1 + 1)), (2, z_i (v.1 + (-1))), (0, z_r 11 (some n0))]) 2 dX11_sickenTheCrowd_73 rfl (congrArg (HAdd.hAdd v.2.1) (by decide)) (by decide) rfl ?_
        refine x_goto (tgt := 28) dX11_sickenTheCrowd_76 (by decide) ?_
        cases h
        exact x_lo [2, 1, 0] rfl k
set_option maxRecDepth 20000 in
set_option maxHeartbeats 1000000 in
theorem w_X11_sickenTheCrowd {n0 : Nat} {S : ZH} {q : ZH} (h : f_X11_sickenTheCrowd n0 S = some q) : MetX Y_X11_sickenTheCrowd S [z_r 11 (some n0)] none q := by
  refine MetX.of (lo := [(0, z_r 11 (some n0))]) rfl (by decide) (Nat.le_of_ble_eq_true rfl) ?_
  unfold f_X11_sickenTheCrowd at h
  refine x_iconst (v := (0 : Int32)) dX11_sickenTheCrowd_0 (by decide) ?_
  refine x_aload_n 0 dX11_sickenTheCrowd_1 rfl rfl ?_
  refine x_bipush (v := (20 : Int32)) dX11_sickenTheCrowd_2 (by decide) ?_
  refine z_bnd h (fun q1 hq1 h => ?_)
  refine x_callV1 rfl (w_X11_menIn hq1) cw_X11_menIn q_398 ⟨by decide, by decide⟩ (Nat.le_of_ble_eq_true rfl) dX11_sickenTheCrowd_4 rfl ?_
  refine x_aload_n 0 dX11_sickenTheCrowd_7 rfl rfl ?_
  refine x_getI rfl ck_11 17 (by decide) rfl q_207 dX11_sickenTheCrowd_8 ?_
  refine x_isub dX11_sickenTheCrowd_11 ?_
  refine z_bnd h (fun q2 hq2 h => ?_)
  refine x_callS1 (w_J9_max_7cf53 hq2) cw_J9_max_7cf53 q_450 ⟨by decide, by decide⟩ (Nat.le_of_ble_eq_true rfl) dX11_sickenTheCrowd_12 rfl ?_
  refine x_istore_n (lo' := [(1, z_i q2), (0, z_r 11 (some n0))]) dX11_sickenTheCrowd_15 rfl (by decide) rfl ?_
  refine x_iload_n 0 dX11_sickenTheCrowd_16 rfl rfl ?_
  refine x_aload_n 1 dX11_sickenTheCrowd_17 rfl rfl ?_
  refine x_getI rfl ck_11 18 (by decide) rfl q_208 dX11_sickenTheCrowd_18 ?_
  refine x_imul dX11_sickenTheCrowd_21 ?_
  refine x_bipush (v := (100 : Int32)) dX11_sickenTheCrowd_22 (by decide) ?_
  refine x_idiv dX11_sickenTheCrowd_24 (by decide) ?_
  refine x_istore_n (lo' := [(2, z_i ((q2 * (zI S 11 n0 18)) / (100 : Int32))), (1, z_i q2), (0, z_r 11 (some n0))]) dX11_sickenTheCrowd_25 rfl (by decide) rfl ?_
  refine x_iconst (v := (0 : Int32)) dX11_sickenTheCrowd_26 (by decide) ?_
  refine x_istore_n (lo' := [(3, z_i (0 : Int32)), (2, z_i ((q2 * (zI S 11 n0 18)) / (100 : Int32))), (1, z_i q2), (0, z_r 11 (some n0))]) dX11_sickenTheCrowd_27 rfl (by decide) rfl ?_
  refine z_bnd h (fun t10 ht10 h => ?_)
  refine x_lo [3, 1, 0] rfl ?_
  refine l_X11_sickenTheCrowd_28 ht10 ?_
  exact x_vretE rfl dX11_sickenTheCrowd_79 h
-- PressedMen$Man lastMoved ()I
abbrev Y_X3_lastMoved : ZM := (yX3_lastMoved, cX3_lastMoved, 1, (some .int), 0, 0)
theorem cw_X3_lastMoved : z_CV Y_X3_lastMoved 3 0 := ⟨⟨_, _, rfl⟩, by decide, q_458, q_459, q_460, q_78, ⟨by decide, by decide⟩, rfl⟩
def f_X3_lastMoved (n0 : Nat) (S : ZH) : Option (Int32) :=
  if ¬ (zI S 3 n0 13) = 0 then (
    ((zR S 3 n0 11)).bind fun a1 =>
    (zld S 17 a1 ((zI S 3 n0 13) - (1 : Int32))).bind fun v2 =>
    some v2
  ) else (
    some (-9 : Int32)
  )
set_option maxRecDepth 20000 in
set_option maxHeartbeats 1000000 in
theorem w_X3_lastMoved {n0 : Nat} {S : ZH} {q : Int32} (h : f_X3_lastMoved n0 S = some q) : MetX Y_X3_lastMoved S [z_r 3 (some n0)] (some (z_i q)) S := by
  refine MetX.of (lo := [(0, z_r 3 (some n0))]) rfl (by decide) (Nat.le_of_ble_eq_true rfl) ?_
  unfold f_X3_lastMoved at h
  refine x_aload_n 0 dX3_lastMoved_0 rfl rfl ?_
  refine x_getI rfl ck_3 13 (by decide) rfl q_332 dX3_lastMoved_1 ?_
  refine x_if_ne (tgt := 12) dX3_lastMoved_4 (by decide) h (fun h => ?_) (fun h => ?_)
  · refine x_aload_n 0 dX3_lastMoved_12 rfl rfl ?_
    refine x_getR rfl ck_3 11 (by decide) rfl q_330 dX3_lastMoved_13 ?_
    refine x_aload_n 0 dX3_lastMoved_16 rfl rfl ?_
    refine x_getI rfl ck_3 13 (by decide) rfl q_332 dX3_lastMoved_17 ?_
    refine x_iconst (v := (1 : Int32)) dX3_lastMoved_20 (by decide) ?_
    refine x_isub dX3_lastMoved_21 ?_
    refine z_bnd h (fun a1 ha1 h => ?_)
    refine x_iaload ha1 ak_17 dX3_lastMoved_22 h (fun v2 hv2 h => ?_)
    exact x_iret rfl dX3_lastMoved_23 h
  · refine x_bipush (v := (-9 : Int32)) dX3_lastMoved_7 (by decide) ?_
    refine x_goto (tgt := 23) dX3_lastMoved_9 (by decide) ?_
    exact x_iret rfl dX3_lastMoved_23 h
-- PressedMen sendTheSickHome ()V
abbrev Y_X11_sendTheSickHome : ZM := (yX11_sendTheSickHome, cX11_sendTheSickHome, 3, none, 4, 125)
theorem cw_X11_sendTheSickHome : z_CV Y_X11_sendTheSickHome 11 0 := ⟨⟨_, _, rfl⟩, by decide, q_455, q_9, q_456, q_70, ⟨by decide, by decide⟩, rfl⟩
def b_X11_sendTheSickHome_2 (n0 : Nat) (v : Int32 × ZH) : Option ((Int32 × ZH) ⊕ (ZH)) :=
  if (zI v.2 11 n0 2) ≤ v.1 then (
    some (Sum.inr v.2)
  ) else (
    ((zR v.2 11 n0 1)).bind fun a1 =>
    (zldR v.2 22 a1 v.1).bind fun v2 =>
    (v2).bind fun a3 =>
    if ¬ (zI v.2 3 a3 8) = (21 : Int32) then (
      some (Sum.inl ((v.1 + 1), v.2))
    ) else (
      (f_X3_lastMoved a3 v.2).bind fun q4 =>
      if ¬ q4 = ((zI v.2 11 n0 16) - (10 : Int32)) then (
        some (Sum.inl ((v.1 + 1), v.2))
      ) else (
        (f_X3_goTo a3 (zI v.2 3 a3 6) (zI v.2 11 n0 16) v.2).bind fun q5 =>
        some (Sum.inl ((v.1 + 1), q5.2))
      )
    )
  )
def f_X11_sendTheSickHome (n0 : Nat) (S : ZH) : Option (ZH) :=
  (z_iter zFU (b_X11_sendTheSickHome_2 n0) ((0 : Int32), S)).bind fun t6 =>
  some t6
set_option maxRecDepth 20000 in
theorem l_X11_sendTheSickHome_2 {S0 : ZH} {F : ZP} {n0 : Nat} {v : Int32 × ZH} {t : ZH} (h : z_iter zFU (b_X11_sendTheSickHome_2 n0) v = some t) (k : (fun t => Wp Y_X11_sendTheSickHome S0 F 59 [] [] t) t) : Wp Y_X11_sendTheSickHome S0 F 2 [(0, z_r 11 (some n0)), (1, z_i v.1)] [] v.2 := by
  refine z_iter_P (P := fun v : Int32 × ZH => Wp Y_X11_sendTheSickHome S0 F 2 [(0, z_r 11 (some n0)), (1, z_i v.1)] [] v.2) (X := (fun t => Wp Y_X11_sendTheSickHome S0 F 59 [] [] t)) ?_ _ _ _ h k
  clear h k v t
  intro v r h k
  unfold b_X11_sendTheSickHome_2 at h
  refine x_iload_n 1 dX11_sendTheSickHome_2 rfl rfl ?_
  refine x_aload_n 0 dX11_sendTheSickHome_3 rfl rfl ?_
  refine x_getI rfl ck_11 2 (by decide) rfl q_192 dX11_sendTheSickHome_4 ?_
  refine x_ic_ge (tgt := 59) dX11_sendTheSickHome_7 (by decide) h (fun h => ?_) (fun h => ?_)
  · cases h
    exact x_lo [] rfl k
  · refine x_aload_n 0 dX11_sendTheSickHome_10 rfl rfl ?_
    refine x_getR rfl ck_11 1 (by decide) rfl q_191 dX11_sendTheSickHome_11 ?_
    refine x_iload_n 1 dX11_sendTheSickHome_14 rfl rfl ?_
    refine z_bnd h (fun a1 ha1 h => ?_)
    refine x_aaload ha1 ak_22 dX11_sendTheSickHome_15 h (fun v2 hv2 h => ?_)
    refine x_astore_n (lo' := [(2, z_r 3 v2), (0, z_r 11 (some n0)), (1, z_i v.1)]) dX11_sendTheSickHome_16 rfl (by decide) rfl ?_
    refine x_aload_n 0 dX11_sendTheSickHome_17 rfl rfl ?_
    refine z_bnd h (fun a3 ha3 h => ?_)
    revert h
    subst ha3
    intro h
    refine x_getI rfl ck_3 8 (by decide) rfl q_327 dX11_sendTheSickHome_18 ?_
    refine x_bipush (v := (21 : Int32)) dX11_sendTheSickHome_21 (by decide) ?_
    refine x_ic_ne (tgt := 53) dX11_sendTheSickHome_23 (by decide) h (fun h => ?_) (fun h => ?_)
    · refine x_iinc (v := (v.1 + 1)) (lo' := [(1, z_i (v.1 + 1)), (2, z_r 3 (some a3)), (0, z_r 11 (some n0))]) 2 dX11_sendTheSickHome_53 rfl (congrArg (HAdd.hAdd v.1) (by decide)) (by decide) rfl ?_
      refine x_goto (tgt := 2) dX11_sendTheSickHome_56 (by decide) ?_
      cases h
      exact x_lo [2, 0] rfl k
    · refine x_aload_n 0 dX11_sendTheSickHome_26 rfl rfl ?_
      refine z_bnd h (fun q4 hq4 h => ?_)
      refine x_callV1 rfl (w_X3_lastMoved hq4) cw_X3_lastMoved q_457 ⟨by decide, by decide⟩ (Nat.le_of_ble_eq_true rfl) dX11_sendTheSickHome_27 rfl ?_
      refine x_aload_n 1 dX11_sendTheSickHome_30 rfl rfl ?_
      refine x_getI rfl ck_11 16 (by decide) rfl q_206 dX11_sendTheSickHome_31 ?_
      refine x_bipush (v := (10 : Int32)) dX11_sendTheSickHome_34 (by decide) ?_
      refine x_isub dX11_sendTheSickHome_36 ?_
      refine x_ic_ne (tgt := 53) dX11_sendTheSickHome_37 (by decide) h (fun h => ?_) (fun h => ?_)
      · refine x_iinc (v := (v.1 + 1)) (lo' := [(1, z_i (v.1 + 1)), (2, z_r 3 (some a3)), (0, z_r 11 (some n0))]) 2 dX11_sendTheSickHome_53 rfl (congrArg (HAdd.hAdd v.1) (by decide)) (by decide) rfl ?_
        refine x_goto (tgt := 2) dX11_sendTheSickHome_56 (by decide) ?_
        cases h
        exact x_lo [2, 0] rfl k
      · refine x_aload_n 0 dX11_sendTheSickHome_40 rfl rfl ?_
        refine x_aload_n 0 dX11_sendTheSickHome_41 rfl rfl ?_
        refine x_getI rfl ck_3 6 (by decide) rfl q_322 dX11_sendTheSickHome_42 ?_
        refine x_aload_n 1 dX11_sendTheSickHome_45 rfl rfl ?_
        refine x_getI rfl ck_11 16 (by decide) rfl q_206 dX11_sendTheSickHome_46 ?_
        refine z_bnd h (fun q5 hq5 h => ?_)
        refine x_callV1 rfl (w_X3_goTo hq5) cw_X3_goTo q_424 ⟨by decide, by decide⟩ (Nat.le_of_ble_eq_true rfl) dX11_sendTheSickHome_49 rfl ?_
        refine x_pop dX11_sendTheSickHome_52 rfl ?_
        refine x_iinc (v := (v.1 + 1)) (lo' := [(1, z_i (v.1 + 1)), (2, z_r 3 (some a3)), (0, z_r 11 (some n0))]) 2 dX11_sendTheSickHome_53 rfl (congrArg (HAdd.hAdd v.1) (by decide)) (by decide) rfl ?_
        refine x_goto (tgt := 2) dX11_sendTheSickHome_56 (by decide) ?_
        cases h
        exact x_lo [2, 0] rfl k
set_option maxRecDepth 20000 in
set_option maxHeartbeats 1000000 in
theorem w_X11_sendTheSickHome {n0 : Nat} {S : ZH} {q : ZH} (h : f_X11_sendTheSickHome n0 S = some q) : MetX Y_X11_sendTheSickHome S [z_r 11 (some n0)] none q := by
  refine MetX.of (lo := [(0, z_r 11 (some n0))]) rfl (by decide) (Nat.le_of_ble_eq_true rfl) ?_
  unfold f_X11_sendTheSickHome at h
  refine x_iconst (v := (0 : Int32)) dX11_sendTheSickHome_0 (by decide) ?_
  refine x_istore_n (lo' := [(1, z_i (0 : Int32)), (0, z_r 11 (some n0))]) dX11_sendTheSickHome_1 rfl (by decide) rfl ?_
  refine z_bnd h (fun t6 ht6 h => ?_)
  refine x_lo [1, 0] rfl ?_
  refine l_X11_sendTheSickHome_2 ht6 ?_
  exact x_vretE rfl dX11_sendTheSickHome_59 h
-- PressedMen pass (I)I
abbrev Y_X11_pass : ZM := (yX11_pass, cX11_pass, 3, (some .int), 5, 148)
theorem cw_X11_pass : z_CV Y_X11_pass 11 1 := ⟨⟨_, _, rfl⟩, by decide, q_407, q_408, q_409, q_70, ⟨by decide, by decide⟩, rfl⟩
def b_X11_pass_30 (n0 : Nat) (x1 : Int32) (v : Int32 × ZH) : Option ((Int32 × ZH) ⊕ (ZH)) :=
  ((zR v.2 11 n0 0)).bind fun a2 =>
  if (zI v.2 10 a2 0) ≤ v.1 then (
    some (Sum.inr v.2)
  ) else (
    ((zR v.2 11 n0 7)).bind fun a3 =>
    (f_X5_firstHeard a3 v.1 (zR v.2 11 n0 0) v.2).bind fun q4 =>
    ((zR v.2 11 n0 13)).bind fun a5 =>
    (zst q4.2 28 a5 v.1 q4.1).bind fun S6 =>
    some (Sum.inl ((v.1 + 1), S6))
  )
def b_X11_pass_67 (n0 : Nat) (x1 : Int32) (v : Int32 × ZH) : Option ((Int32 × ZH) ⊕ (ZH)) :=
  if x1 ≤ v.1 then (
    some (Sum.inr v.2)
  ) else (
    (f_X11_hideTheShy n0 (zsI v.2 11 n0 16 ((zI v.2 11 n0 16) + (1 : Int32)))).bind fun q8 =>
    (f_X11_sickenTheCrowd n0 q8).bind fun q9 =>
    (f_X11_sendTheSickHome n0 q9).bind fun q10 =>
    some (Sum.inl ((v.1 + 1), q10))
  )
def f_X11_pass (n0 : Nat) (x1 : Int32) (S : ZH) : Option (Int32 × ZH) :=
  (f_X11_within x1 (1 : Int32) (60 : Int32) S).bind fun q1 =>
  if ¬ q1 = 0 then (
    if ((zI S 11 n0 16) + x1) ≤ (899 : Int32) then (
      (z_iter zFU (b_X11_pass_30 n0 x1) ((0 : Int32), S)).bind fun t7 =>
      (z_iter zFU (b_X11_pass_67 n0 x1) ((0 : Int32), t7)).bind fun t11 =>
      some ((zI t11 11 n0 16), t11)
    ) else (
      some ((-4 : Int32), S)
    )
  ) else (
    some ((-2 : Int32), S)
  )
set_option maxRecDepth 20000 in
theorem l_X11_pass_30 {S0 : ZH} {F : ZP} {n0 : Nat} {x1 : Int32} {v : Int32 × ZH} {t : ZH} (h : z_iter zFU (b_X11_pass_30 n0 x1) v = some t) (k : (fun t => Wp Y_X11_pass S0 F 65 [(0, z_r 11 (some n0)), (1, z_i x1)] [] t) t) : Wp Y_X11_pass S0 F 30 [(0, z_r 11 (some n0)), (1, z_i x1), (2, z_i v.1)] [] v.2 := by
  refine z_iter_P (P := fun v : Int32 × ZH => Wp Y_X11_pass S0 F 30 [(0, z_r 11 (some n0)), (1, z_i x1), (2, z_i v.1)] [] v.2) (X := (fun t => Wp Y_X11_pass S0 F 65 [(0, z_r 11 (some n0)), (1, z_i x1)] [] t)) ?_ _ _ _ h k
  clear h k v t
  intro v r h k
  unfold b_X11_pass_30 at h
  refine x_iload_n 2 dX11_pass_30 rfl rfl ?_
  refine x_aload_n 0 dX11_pass_31 rfl rfl ?_
  refine x_getR rfl ck_11 0 (by decide) rfl q_190 dX11_pass_32 ?_
  refine z_bnd h (fun a2 ha2 h => ?_)
  refine x_getI ha2 ck_10 0 (by decide) rfl q_103 dX11_pass_35 ?_
  refine x_ic_ge (tgt := 65) dX11_pass_38 (by decide) h (fun h => ?_) (fun h => ?_)
  · cases h
    exact x_lo [0, 1] rfl k
  · refine x_aload_n 0 dX11_pass_41 rfl rfl ?_
    refine x_getR rfl ck_11 13 (by decide) rfl q_203 dX11_pass_42 ?_
    refine x_iload_n 2 dX11_pass_45 rfl rfl ?_
    refine x_aload_n 0 dX11_pass_46 rfl rfl ?_
    refine x_getR rfl ck_11 7 (by decide) rfl q_197 dX11_pass_47 ?_
    refine x_iload_n 2 dX11_pass_50 rfl rfl ?_
    refine x_aload_n 0 dX11_pass_51 rfl rfl ?_
    refine x_getR rfl ck_11 0 (by decide) rfl q_190 dX11_pass_52 ?_
    refine z_bnd h (fun a3 ha3 h => ?_)
    refine z_bnd h (fun q4 hq4 h => ?_)
    refine x_callV1 ha3 (w_X5_firstHeard hq4) cw_X5_firstHeard q_410 ⟨by decide, by decide⟩ (Nat.le_of_ble_eq_true rfl) dX11_pass_55 rfl ?_
    refine z_bnd h (fun a5 ha5 h => ?_)
    refine x_iastore ha5 ak_28 dX11_pass_58 h (fun S6 hS6 h => ?_)
    refine x_iinc (v := (v.1 + 1)) (lo' := [(2, z_i (v.1 + 1)), (0, z_r 11 (some n0)), (1, z_i x1)]) 2 dX11_pass_59 rfl (congrArg (HAdd.hAdd v.1) (by decide)) (by decide) rfl ?_
    refine x_goto (tgt := 30) dX11_pass_62 (by decide) ?_
    cases h
    exact x_lo [1, 2, 0] rfl k
set_option maxRecDepth 20000 in
theorem l_X11_pass_67 {S0 : ZH} {F : ZP} {n0 : Nat} {x1 : Int32} {v : Int32 × ZH} {t : ZH} (h : z_iter zFU (b_X11_pass_67 n0 x1) v = some t) (k : (fun t => Wp Y_X11_pass S0 F 100 [(0, z_r 11 (some n0))] [] t) t) : Wp Y_X11_pass S0 F 67 [(0, z_r 11 (some n0)), (1, z_i x1), (2, z_i v.1)] [] v.2 := by
  refine z_iter_P (P := fun v : Int32 × ZH => Wp Y_X11_pass S0 F 67 [(0, z_r 11 (some n0)), (1, z_i x1), (2, z_i v.1)] [] v.2) (X := (fun t => Wp Y_X11_pass S0 F 100 [(0, z_r 11 (some n0))] [] t)) ?_ _ _ _ h k
  clear h k v t
  intro v r h k
  unfold b_X11_pass_67 at h
  refine x_iload_n 2 dX11_pass_67 rfl rfl ?_
  refine x_iload_n 1 dX11_pass_68 rfl rfl ?_
  refine x_ic_ge (tgt := 100) dX11_pass_69 (by decide) h (fun h => ?_) (fun h => ?_)
  · cases h
    exact x_lo [0] rfl k
  · refine x_aload_n 0 dX11_pass_72 rfl rfl ?_
    refine x_dup dX11_pass_73 rfl ?_
    refine x_getI rfl ck_11 16 (by decide) rfl q_206 dX11_pass_74 ?_
    refine x_iconst (v := (1 : Int32)) dX11_pass_77 (by decide) ?_
    refine x_iadd dX11_pass_78 ?_
    refine x_putI rfl ck_11 16 (by decide) rfl (Or.inl rfl) (by rfl) rfl q_206 dX11_pass_79 ?_
    refine x_aload_n 0 dX11_pass_82 rfl rfl ?_
    refine z_bnd h (fun q8 hq8 h => ?_)
    refine x_callVv rfl (w_X11_hideTheShy hq8) cw_X11_hideTheShy q_419 ⟨by decide, by decide⟩ (Nat.le_of_ble_eq_true rfl) dX11_pass_83 rfl ?_
    refine x_aload_n 0 dX11_pass_86 rfl rfl ?_
    refine z_bnd h (fun q9 hq9 h => ?_)
    refine x_callVv rfl (w_X11_sickenTheCrowd hq9) cw_X11_sickenTheCrowd q_446 ⟨by decide, by decide⟩ (Nat.le_of_ble_eq_true rfl) dX11_pass_87 rfl ?_
    refine x_aload_n 0 dX11_pass_90 rfl rfl ?_
    refine z_bnd h (fun q10 hq10 h => ?_)
    refine x_callVv rfl (w_X11_sendTheSickHome hq10) cw_X11_sendTheSickHome q_453 ⟨by decide, by decide⟩ (Nat.le_of_ble_eq_true rfl) dX11_pass_91 rfl ?_
    refine x_iinc (v := (v.1 + 1)) (lo' := [(2, z_i (v.1 + 1)), (0, z_r 11 (some n0)), (1, z_i x1)]) 2 dX11_pass_94 rfl (congrArg (HAdd.hAdd v.1) (by decide)) (by decide) rfl ?_
    refine x_goto (tgt := 67) dX11_pass_97 (by decide) ?_
    cases h
    exact x_lo [1, 2, 0] rfl k
set_option maxRecDepth 20000 in
set_option maxHeartbeats 1000000 in
theorem w_X11_pass {n0 : Nat} {x1 : Int32} {S : ZH} {q : Int32 × ZH} (h : f_X11_pass n0 x1 S = some q) : MetX Y_X11_pass S [z_r 11 (some n0), z_i x1] (some (z_i q.1)) q.2 := by
  refine MetX.of (lo := [(0, z_r 11 (some n0)), (1, z_i x1)]) rfl (by decide) (Nat.le_of_ble_eq_true rfl) ?_
  unfold f_X11_pass at h
  refine x_iload_n 1 dX11_pass_0 rfl rfl ?_
  refine x_iconst (v := (1 : Int32)) dX11_pass_1 (by decide) ?_
  refine x_bipush (v := (60 : Int32)) dX11_pass_2 (by decide) ?_
  refine z_bnd h (fun q1 hq1 h => ?_)
  refine x_callS1 (w_X11_within hq1) cw_X11_within q_252 ⟨by decide, by decide⟩ (Nat.le_of_ble_eq_true rfl) dX11_pass_4 rfl ?_
  refine x_if_ne (tgt := 13) dX11_pass_7 (by decide) h (fun h => ?_) (fun h => ?_)
  · refine x_aload_n 0 dX11_pass_13 rfl rfl ?_
    refine x_getI rfl ck_11 16 (by decide) rfl q_206 dX11_pass_14 ?_
    refine x_iload_n 1 dX11_pass_17 rfl rfl ?_
    refine x_iadd dX11_pass_18 ?_
    refine x_sipush (v := (899 : Int32)) dX11_pass_19 (by decide) ?_
    refine x_ic_le (tgt := 28) dX11_pass_22 (by decide) h (fun h => ?_) (fun h => ?_)
    · refine x_iconst (v := (0 : Int32)) dX11_pass_28 (by decide) ?_
      refine x_istore_n (lo' := [(2, z_i (0 : Int32)), (0, z_r 11 (some n0)), (1, z_i x1)]) dX11_pass_29 rfl (by decide) rfl ?_
      refine z_bnd h (fun t7 ht7 h => ?_)
      refine x_lo [1, 2, 0] rfl ?_
      refine l_X11_pass_30 ht7 ?_
      refine x_iconst (v := (0 : Int32)) dX11_pass_65 (by decide) ?_
      refine x_istore_n (lo' := [(2, z_i (0 : Int32)), (0, z_r 11 (some n0)), (1, z_i x1)]) dX11_pass_66 rfl (by decide) rfl ?_
      refine z_bnd h (fun t11 ht11 h => ?_)
      refine x_lo [1, 2, 0] rfl ?_
      refine l_X11_pass_67 ht11 ?_
      refine x_aload_n 0 dX11_pass_100 rfl rfl ?_
      refine x_getI rfl ck_11 16 (by decide) rfl q_206 dX11_pass_101 ?_
      exact x_iretE rfl dX11_pass_104 h
    · refine x_bipush (v := (-4 : Int32)) dX11_pass_25 (by decide) ?_
      exact x_iretE rfl dX11_pass_27 h
  · refine x_bipush (v := (-2 : Int32)) dX11_pass_10 (by decide) ?_
    exact x_iretE rfl dX11_pass_12 h
-- PressedMen isAshore (I)Z
abbrev Y_X11_isAshore : ZM := (yX11_isAshore, cX11_isAshore, 1, (some .boolean), 2, 42)
theorem cw_X11_isAshore : z_CS Y_X11_isAshore 1 := ⟨q_466, q_467, q_70, ⟨by decide, by decide⟩, rfl⟩
def f_X11_isAshore (x0 : Int32) (S : ZH) : Option (Int32) :=
  (f_X11_isStreet x0 S).bind fun q1 =>
  if ¬ q1 = 0 then (
    some (1 : Int32)
  ) else (
    if ¬ x0 = (22 : Int32) then (
      some (0 : Int32)
    ) else (
      some (1 : Int32)
    )
  )
set_option maxRecDepth 20000 in
set_option maxHeartbeats 1000000 in
theorem w_X11_isAshore {x0 : Int32} {S : ZH} {q : Int32} (h : f_X11_isAshore x0 S = some q) : MetX Y_X11_isAshore S [z_i x0] (some (z_i q)) S := by
  refine MetX.of (lo := [(0, z_i x0)]) rfl (by decide) (Nat.le_of_ble_eq_true rfl) ?_
  unfold f_X11_isAshore at h
  refine x_iload_n 0 dX11_isAshore_0 rfl rfl ?_
  refine z_bnd h (fun q1 hq1 h => ?_)
  refine x_callS1 (w_X11_isStreet hq1) cw_X11_isStreet q_423 ⟨by decide, by decide⟩ (Nat.le_of_ble_eq_true rfl) dX11_isAshore_1 rfl ?_
  refine x_if_ne (tgt := 13) dX11_isAshore_4 (by decide) h (fun h => ?_) (fun h => ?_)
  · refine x_iconst (v := (1 : Int32)) dX11_isAshore_13 (by decide) ?_
    refine x_goto (tgt := 18) dX11_isAshore_14 (by decide) ?_
    exact x_zretC rfl (by decide) dX11_isAshore_18 h
  · refine x_iload_n 0 dX11_isAshore_7 rfl rfl ?_
    refine x_bipush (v := (22 : Int32)) dX11_isAshore_8 (by decide) ?_
    refine x_ic_ne (tgt := 17) dX11_isAshore_10 (by decide) h (fun h => ?_) (fun h => ?_)
    · refine x_iconst (v := (0 : Int32)) dX11_isAshore_17 (by decide) ?_
      exact x_zretC rfl (by decide) dX11_isAshore_18 h
    · refine x_iconst (v := (1 : Int32)) dX11_isAshore_13 (by decide) ?_
      refine x_goto (tgt := 18) dX11_isAshore_14 (by decide) ?_
      exact x_zretC rfl (by decide) dX11_isAshore_18 h
-- PressedMen walk (II)I
abbrev Y_X11_walk : ZM := (yX11_walk, cX11_walk, 4, (some .int), 4, 125)
theorem cw_X11_walk : z_CV Y_X11_walk 11 2 := ⟨⟨_, _, rfl⟩, by decide, q_462, q_463, q_464, q_70, ⟨by decide, by decide⟩, rfl⟩
def f_X11_walk (n0 : Nat) (x1 : Int32) (x2 : Int32) (S : ZH) : Option (Int32 × ZH) :=
  (f_X11_findMan n0 x1 S).bind fun q1 =>
  if q1 = none then (
    some ((-1 : Int32), S)
  ) else (
    ((zR S 11 n0 0)).bind fun a2 =>
    (f_X10_has a2 x2 S).bind fun q3 =>
    if ¬ q3 = 0 then (
      (q1).bind fun a4 =>
      (f_X11_isAshore (zI S 3 a4 8) S).bind fun q5 =>
      if ¬ q5 = 0 then (
        (f_X3_goTo a4 x2 (zI S 11 n0 16) S).bind fun q6 =>
        some (q6.1, q6.2)
      ) else (
        some ((-3 : Int32), S)
      )
    ) else (
      some ((-1 : Int32), S)
    )
  )
set_option maxRecDepth 20000 in
set_option maxHeartbeats 1000000 in
theorem w_X11_walk {n0 : Nat} {x1 : Int32} {x2 : Int32} {S : ZH} {q : Int32 × ZH} (h : f_X11_walk n0 x1 x2 S = some q) : MetX Y_X11_walk S [z_r 11 (some n0), z_i x1, z_i x2] (some (z_i q.1)) q.2 := by
  refine MetX.of (lo := [(0, z_r 11 (some n0)), (1, z_i x1), (2, z_i x2)]) rfl (by decide) (Nat.le_of_ble_eq_true rfl) ?_
  unfold f_X11_walk at h
  refine x_aload_n 0 dX11_walk_0 rfl rfl ?_
  refine x_iload_n 1 dX11_walk_1 rfl rfl ?_
  refine z_bnd h (fun q1 hq1 h => ?_)
  refine x_callV1 rfl (w_X11_findMan hq1) cw_X11_findMan q_366 ⟨by decide, by decide⟩ (Nat.le_of_ble_eq_true rfl) dX11_walk_2 rfl ?_
  refine x_astore_n (lo' := [(3, z_r 3 q1), (0, z_r 11 (some n0)), (1, z_i x1), (2, z_i x2)]) dX11_walk_5 rfl (by decide) rfl ?_
  refine x_aload_n 0 dX11_walk_6 rfl rfl ?_
  refine x_ifnull (tgt := 21) dX11_walk_7 (by decide) h (fun h => ?_) (fun h => ?_)
  · refine x_iconst (v := (-1 : Int32)) dX11_walk_21 (by decide) ?_
    exact x_iretE rfl dX11_walk_22 h
  · refine x_aload_n 1 dX11_walk_10 rfl rfl ?_
    refine x_getR rfl ck_11 0 (by decide) rfl q_190 dX11_walk_11 ?_
    refine x_iload_n 3 dX11_walk_14 rfl rfl ?_
    refine z_bnd h (fun a2 ha2 h => ?_)
    refine z_bnd h (fun q3 hq3 h => ?_)
    refine x_callV1 ha2 (w_X10_has hq3) cw_X10_has q_266 ⟨by decide, by decide⟩ (Nat.le_of_ble_eq_true rfl) dX11_walk_15 rfl ?_
    refine x_if_ne (tgt := 23) dX11_walk_18 (by decide) h (fun h => ?_) (fun h => ?_)
    · refine x_aload_n 0 dX11_walk_23 rfl rfl ?_
      refine z_bnd h (fun a4 ha4 h => ?_)
      revert h
      subst ha4
      intro h
      refine x_getI rfl ck_3 8 (by decide) rfl q_327 dX11_walk_24 ?_
      refine z_bnd h (fun q5 hq5 h => ?_)
      refine x_callS1 (w_X11_isAshore hq5) cw_X11_isAshore q_465 ⟨by decide, by decide⟩ (Nat.le_of_ble_eq_true rfl) dX11_walk_27 rfl ?_
      refine x_if_ne (tgt := 36) dX11_walk_30 (by decide) h (fun h => ?_) (fun h => ?_)
      · refine x_aload_n 0 dX11_walk_36 rfl rfl ?_
        refine x_iload_n 3 dX11_walk_37 rfl rfl ?_
        refine x_aload_n 1 dX11_walk_38 rfl rfl ?_
        refine x_getI rfl ck_11 16 (by decide) rfl q_206 dX11_walk_39 ?_
        refine z_bnd h (fun q6 hq6 h => ?_)
        refine x_callV1 rfl (w_X3_goTo hq6) cw_X3_goTo q_424 ⟨by decide, by decide⟩ (Nat.le_of_ble_eq_true rfl) dX11_walk_42 rfl ?_
        exact x_iretE rfl dX11_walk_45 h
      · refine x_bipush (v := (-3 : Int32)) dX11_walk_33 (by decide) ?_
        exact x_iretE rfl dX11_walk_35 h
    · refine x_iconst (v := (-1 : Int32)) dX11_walk_21 (by decide) ?_
      exact x_iretE rfl dX11_walk_22 h
-- PressedMen run (I)I
abbrev Y_X11_run : ZM := (yX11_run, cX11_run, 3, (some .int), 4, 125)
theorem cw_X11_run : z_CV Y_X11_run 11 1 := ⟨⟨_, _, rfl⟩, by decide, q_469, q_470, q_471, q_70, ⟨by decide, by decide⟩, rfl⟩
def f_X11_run (n0 : Nat) (x1 : Int32) (S : ZH) : Option (Int32 × ZH) :=
  (f_X11_findMan n0 x1 S).bind fun q1 =>
  if q1 = none then (
    some ((-1 : Int32), S)
  ) else (
    (q1).bind fun a2 =>
    if ¬ (zI S 3 a2 8) = (23 : Int32) then (
      (f_X3_goTo a2 (23 : Int32) (zI S 11 n0 16) S).bind fun q3 =>
      some (q3.1, q3.2)
    ) else (
      some ((-3 : Int32), S)
    )
  )
set_option maxRecDepth 20000 in
set_option maxHeartbeats 1000000 in
theorem w_X11_run {n0 : Nat} {x1 : Int32} {S : ZH} {q : Int32 × ZH} (h : f_X11_run n0 x1 S = some q) : MetX Y_X11_run S [z_r 11 (some n0), z_i x1] (some (z_i q.1)) q.2 := by
  refine MetX.of (lo := [(0, z_r 11 (some n0)), (1, z_i x1)]) rfl (by decide) (Nat.le_of_ble_eq_true rfl) ?_
  unfold f_X11_run at h
  refine x_aload_n 0 dX11_run_0 rfl rfl ?_
  refine x_iload_n 1 dX11_run_1 rfl rfl ?_
  refine z_bnd h (fun q1 hq1 h => ?_)
  refine x_callV1 rfl (w_X11_findMan hq1) cw_X11_findMan q_366 ⟨by decide, by decide⟩ (Nat.le_of_ble_eq_true rfl) dX11_run_2 rfl ?_
  refine x_astore_n (lo' := [(2, z_r 3 q1), (0, z_r 11 (some n0)), (1, z_i x1)]) dX11_run_5 rfl (by decide) rfl ?_
  refine x_aload_n 0 dX11_run_6 rfl rfl ?_
  refine x_ifnonnull (tgt := 12) dX11_run_7 (by decide) h (fun h => ?_) (fun h => ?_)
  · refine x_aload_n 0 dX11_run_12 rfl rfl ?_
    refine z_bnd h (fun a2 ha2 h => ?_)
    revert h
    subst ha2
    intro h
    refine x_getI rfl ck_3 8 (by decide) rfl q_327 dX11_run_13 ?_
    refine x_bipush (v := (23 : Int32)) dX11_run_16 (by decide) ?_
    refine x_ic_ne (tgt := 24) dX11_run_18 (by decide) h (fun h => ?_) (fun h => ?_)
    · refine x_aload_n 0 dX11_run_24 rfl rfl ?_
      refine x_bipush (v := (23 : Int32)) dX11_run_25 (by decide) ?_
      refine x_aload_n 1 dX11_run_27 rfl rfl ?_
      refine x_getI rfl ck_11 16 (by decide) rfl q_206 dX11_run_28 ?_
      refine z_bnd h (fun q3 hq3 h => ?_)
      refine x_callV1 rfl (w_X3_goTo hq3) cw_X3_goTo q_424 ⟨by decide, by decide⟩ (Nat.le_of_ble_eq_true rfl) dX11_run_31 rfl ?_
      exact x_iretE rfl dX11_run_34 h
    · refine x_bipush (v := (-3 : Int32)) dX11_run_21 (by decide) ?_
      exact x_iretE rfl dX11_run_23 h
  · refine x_iconst (v := (-1 : Int32)) dX11_run_10 (by decide) ?_
    exact x_iretE rfl dX11_run_11 h
-- PressedMen isMark (I)Z
abbrev Y_X11_isMark : ZM := (yX11_isMark, cX11_isMark, 1, (some .boolean), 1, 22)
theorem cw_X11_isMark : z_CS Y_X11_isMark 1 := ⟨q_477, q_478, q_70, ⟨by decide, by decide⟩, rfl⟩
def f_X11_isMark (x0 : Int32) (S : ZH) : Option (Int32) :=
  if x0 = (-9 : Int32) then (
    some (1 : Int32)
  ) else (
    (f_X11_within x0 (0 : Int32) (3 : Int32) S).bind fun q1 =>
    if q1 = 0 then (
      some (0 : Int32)
    ) else (
      some (1 : Int32)
    )
  )
set_option maxRecDepth 20000 in
set_option maxHeartbeats 1000000 in
theorem w_X11_isMark {x0 : Int32} {S : ZH} {q : Int32} (h : f_X11_isMark x0 S = some q) : MetX Y_X11_isMark S [z_i x0] (some (z_i q)) S := by
  refine MetX.of (lo := [(0, z_i x0)]) rfl (by decide) (Nat.le_of_ble_eq_true rfl) ?_
  unfold f_X11_isMark at h
  refine x_iload_n 0 dX11_isMark_0 rfl rfl ?_
  refine x_bipush (v := (-9 : Int32)) dX11_isMark_1 (by decide) ?_
  refine x_ic_eq (tgt := 15) dX11_isMark_3 (by decide) h (fun h => ?_) (fun h => ?_)
  · refine x_iconst (v := (1 : Int32)) dX11_isMark_15 (by decide) ?_
    refine x_goto (tgt := 20) dX11_isMark_16 (by decide) ?_
    exact x_zretC rfl (by decide) dX11_isMark_20 h
  · refine x_iload_n 0 dX11_isMark_6 rfl rfl ?_
    refine x_iconst (v := (0 : Int32)) dX11_isMark_7 (by decide) ?_
    refine x_iconst (v := (3 : Int32)) dX11_isMark_8 (by decide) ?_
    refine z_bnd h (fun q1 hq1 h => ?_)
    refine x_callS1 (w_X11_within hq1) cw_X11_within q_252 ⟨by decide, by decide⟩ (Nat.le_of_ble_eq_true rfl) dX11_isMark_9 rfl ?_
    refine x_if_eq (tgt := 19) dX11_isMark_12 (by decide) h (fun h => ?_) (fun h => ?_)
    · refine x_iconst (v := (0 : Int32)) dX11_isMark_19 (by decide) ?_
      exact x_zretC rfl (by decide) dX11_isMark_20 h
    · refine x_iconst (v := (1 : Int32)) dX11_isMark_15 (by decide) ?_
      refine x_goto (tgt := 20) dX11_isMark_16 (by decide) ?_
      exact x_zretC rfl (by decide) dX11_isMark_20 h
-- PressedMen isSpan (III)Z
abbrev Y_X11_isSpan : ZM := (yX11_isSpan, cX11_isSpan, 3, (some .boolean), 0, 0)
theorem cw_X11_isSpan : z_CS Y_X11_isSpan 3 := ⟨q_480, q_481, q_70, ⟨by decide, by decide⟩, rfl⟩
def f_X11_isSpan (x0 : Int32) (x1 : Int32) (x2 : Int32) (S : ZH) : Option (Int32) :=
  if x0 < 0 then (
    some (0 : Int32)
  ) else (
    if x1 < x0 then (
      some (0 : Int32)
    ) else (
      if x2 < x1 then (
        some (0 : Int32)
      ) else (
        some (1 : Int32)
      )
    )
  )
set_option maxRecDepth 20000 in
set_option maxHeartbeats 1000000 in
theorem w_X11_isSpan {x0 : Int32} {x1 : Int32} {x2 : Int32} {S : ZH} {q : Int32} (h : f_X11_isSpan x0 x1 x2 S = some q) : MetX Y_X11_isSpan S [z_i x0, z_i x1, z_i x2] (some (z_i q)) S := by
  refine MetX.of (lo := [(0, z_i x0), (1, z_i x1), (2, z_i x2)]) rfl (by decide) (Nat.le_of_ble_eq_true rfl) ?_
  unfold f_X11_isSpan at h
  refine x_iload_n 0 dX11_isSpan_0 rfl rfl ?_
  refine x_if_lt (tgt := 18) dX11_isSpan_1 (by decide) h (fun h => ?_) (fun h => ?_)
  · refine x_iconst (v := (0 : Int32)) dX11_isSpan_18 (by decide) ?_
    exact x_zretC rfl (by decide) dX11_isSpan_19 h
  · refine x_iload_n 0 dX11_isSpan_4 rfl rfl ?_
    refine x_iload_n 1 dX11_isSpan_5 rfl rfl ?_
    refine x_ic_gt (tgt := 18) dX11_isSpan_6 (by decide) h (fun h => ?_) (fun h => ?_)
    · refine x_iconst (v := (0 : Int32)) dX11_isSpan_18 (by decide) ?_
      exact x_zretC rfl (by decide) dX11_isSpan_19 h
    · refine x_iload_n 1 dX11_isSpan_9 rfl rfl ?_
      refine x_iload_n 2 dX11_isSpan_10 rfl rfl ?_
      refine x_ic_gt (tgt := 18) dX11_isSpan_11 (by decide) h (fun h => ?_) (fun h => ?_)
      · refine x_iconst (v := (0 : Int32)) dX11_isSpan_18 (by decide) ?_
        exact x_zretC rfl (by decide) dX11_isSpan_19 h
      · refine x_iconst (v := (1 : Int32)) dX11_isSpan_14 (by decide) ?_
        refine x_goto (tgt := 19) dX11_isSpan_15 (by decide) ?_
        exact x_zretC rfl (by decide) dX11_isSpan_19 h
-- PressedMen$Span <init> (II)V
abbrev Y_X7_init : ZM := (yX7_init, cX7_init, 3, none, 1, 20)
theorem cw_X7_init : z_CI Y_X7_init 2 := ⟨rfl, rfl, q_486, q_487, q_81, ⟨by decide, by decide⟩, rfl⟩
def f_X7_init (n0 : Nat) (x1 : Int32) (x2 : Int32) (S : ZH) : Option (ZH) :=
  some (zsI (zsI S 7 n0 0 x1) 7 n0 1 x2)
set_option maxRecDepth 20000 in
set_option maxHeartbeats 1000000 in
theorem w_X7_init {n0 : Nat} {x1 : Int32} {x2 : Int32} {S : ZH} {q : ZH} (h : f_X7_init n0 x1 x2 S = some q) : MetX Y_X7_init S [z_r 7 (some n0), z_i x1, z_i x2] none q := by
  refine MetX.of (lo := [(0, z_r 7 (some n0)), (1, z_i x1), (2, z_i x2)]) rfl (by decide) (Nat.le_of_ble_eq_true rfl) ?_
  unfold f_X7_init at h
  refine x_aload_n 0 dX7_init_0 rfl rfl ?_
  refine x_objInit rfl q_488 q_94 q_95 ⟨by decide, by decide⟩ (Nat.le_of_ble_eq_true rfl) dX7_init_1 ?_
  refine x_aload_n 0 dX7_init_4 rfl rfl ?_
  refine x_iload_n 1 dX7_init_5 rfl rfl ?_
  refine x_putI rfl ck_7 0 (by decide) rfl (Or.inr ⟨rfl, rfl, rfl⟩) (by rfl) rfl q_489 dX7_init_6 ?_
  refine x_aload_n 0 dX7_init_9 rfl rfl ?_
  refine x_iload_n 2 dX7_init_10 rfl rfl ?_
  refine x_putI rfl ck_7 1 (by decide) rfl (Or.inr ⟨rfl, rfl, rfl⟩) (by rfl) rfl q_490 dX7_init_11 ?_
  exact x_vretE rfl dX7_init_14 h
-- PressedMen$Paper <init> (IIILPressedMen$Span;LPressedMen$Span;LPressedMen$Span;)V
abbrev Y_X4_init : ZM := (yX4_init, cX4_init, 7, none, 1, 20)
theorem cw_X4_init : z_CI Y_X4_init 6 := ⟨rfl, rfl, q_497, q_498, q_80, ⟨by decide, by decide⟩, rfl⟩
def f_X4_init (n0 : Nat) (x1 : Int32) (x2 : Int32) (x3 : Int32) (x4 : Option Nat) (x5 : Option Nat) (x6 : Option Nat) (S : ZH) : Option (ZH) :=
  some (zsR (zsR (zsR (zsI (zsI (zsI S 4 n0 0 x1) 4 n0 1 x2) 4 n0 2 x3) 4 n0 3 x4) 4 n0 4 x5) 4 n0 5 x6)
set_option maxRecDepth 20000 in
set_option maxHeartbeats 1000000 in
theorem w_X4_init {n0 : Nat} {x1 : Int32} {x2 : Int32} {x3 : Int32} {x4 : Option Nat} {x5 : Option Nat} {x6 : Option Nat} {S : ZH} {q : ZH} (h : f_X4_init n0 x1 x2 x3 x4 x5 x6 S = some q) : MetX Y_X4_init S [z_r 4 (some n0), z_i x1, z_i x2, z_i x3, z_r 7 x4, z_r 7 x5, z_r 7 x6] none q := by
  refine MetX.of (lo := [(0, z_r 4 (some n0)), (1, z_i x1), (2, z_i x2), (3, z_i x3), (4, z_r 7 x4), (5, z_r 7 x5), (6, z_r 7 x6)]) rfl (by decide) (Nat.le_of_ble_eq_true rfl) ?_
  unfold f_X4_init at h
  refine x_aload_n 0 dX4_init_0 rfl rfl ?_
  refine x_objInit rfl q_499 q_94 q_95 ⟨by decide, by decide⟩ (Nat.le_of_ble_eq_true rfl) dX4_init_1 ?_
  refine x_aload_n 0 dX4_init_4 rfl rfl ?_
  refine x_iload_n 1 dX4_init_5 rfl rfl ?_
  refine x_putI rfl ck_4 0 (by decide) rfl (Or.inr ⟨rfl, rfl, rfl⟩) (by rfl) rfl q_500 dX4_init_6 ?_
  refine x_aload_n 0 dX4_init_9 rfl rfl ?_
  refine x_iload_n 2 dX4_init_10 rfl rfl ?_
  refine x_putI rfl ck_4 1 (by decide) rfl (Or.inr ⟨rfl, rfl, rfl⟩) (by rfl) rfl q_502 dX4_init_11 ?_
  refine x_aload_n 0 dX4_init_14 rfl rfl ?_
  refine x_iload_n 3 dX4_init_15 rfl rfl ?_
  refine x_putI rfl ck_4 2 (by decide) rfl (Or.inr ⟨rfl, rfl, rfl⟩) (by rfl) rfl q_503 dX4_init_16 ?_
  refine x_aload_n 0 dX4_init_19 rfl rfl ?_
  refine x_aload 4 dX4_init_20 rfl ?_
  refine x_putR rfl ck_4 3 (by decide) rfl (Or.inr ⟨rfl, rfl, rfl⟩) (Or.inl ⟨_, rfl⟩) q_504 dX4_init_22 ?_
  refine x_aload_n 0 dX4_init_25 rfl rfl ?_
  refine x_aload 5 dX4_init_26 rfl ?_
  refine x_putR rfl ck_4 4 (by decide) rfl (Or.inr ⟨rfl, rfl, rfl⟩) (Or.inl ⟨_, rfl⟩) q_505 dX4_init_28 ?_
  refine x_aload_n 0 dX4_init_31 rfl rfl ?_
  refine x_aload 6 dX4_init_32 rfl ?_
  refine x_putR rfl ck_4 5 (by decide) rfl (Or.inr ⟨rfl, rfl, rfl⟩) (Or.inl ⟨_, rfl⟩) q_506 dX4_init_34 ?_
  exact x_vretE rfl dX4_init_37 h
-- PressedMen paper (IIIIIIIII)I
abbrev Y_X11_paper : ZM := (yX11_paper, cX11_paper, 10, (some .int), 2, 50)
theorem cw_X11_paper : z_CV Y_X11_paper 11 9 := ⟨⟨_, _, rfl⟩, by decide, q_473, q_474, q_475, q_70, ⟨by decide, by decide⟩, rfl⟩
def f_X11_paper (n0 : Nat) (x1 : Int32) (x2 : Int32) (x3 : Int32) (x4 : Int32) (x5 : Int32) (x6 : Int32) (x7 : Int32) (x8 : Int32) (x9 : Int32) (S : ZH) : Option (Int32 × ZH) :=
  (f_X11_findMan n0 x1 S).bind fun q1 =>
  if q1 = none then (
    some ((-1 : Int32), S)
  ) else (
    (f_X11_isMark x2 S).bind fun q2 =>
    if q2 = 0 then (
      some ((-2 : Int32), S)
    ) else (
      (f_X11_isMark x3 S).bind fun q3 =>
      if q3 = 0 then (
        some ((-2 : Int32), S)
      ) else (
        (f_X11_isSpan x4 x5 (99 : Int32) S).bind fun q4 =>
        if q4 = 0 then (
          some ((-2 : Int32), S)
        ) else (
          (f_X11_isSpan x6 x7 (99 : Int32) S).bind fun q5 =>
          if q5 = 0 then (
            some ((-2 : Int32), S)
          ) else (
            (f_X11_isSpan x8 x9 (899 : Int32) S).bind fun q6 =>
            if ¬ q6 = 0 then (
              if (zI S 11 n0 4) < (60 : Int32) then (
                (zal S 4 6).bind fun S7 =>
                (zal S7 7 2).bind fun S8 =>
                (f_X7_init (zN S7 7) x4 x5 S8).bind fun q9 =>
                (zal q9 7 2).bind fun S10 =>
                (f_X7_init (zN q9 7) x6 x7 S10).bind fun q11 =>
                (zal q11 7 2).bind fun S12 =>
                (f_X7_init (zN q11 7) x8 x9 S12).bind fun q13 =>
                (f_X4_init (zN S 4) x1 x2 x3 (some (zN S7 7)) (some (zN q9 7)) (some (zN q11 7)) q13).bind fun q14 =>
                ((zR S 11 n0 3)).bind fun a15 =>
                (zstR q14 23 a15 (zI S 11 n0 4) (some (zN S 4))).bind fun S16 =>
                some (((zI (zsI S16 11 n0 4 ((zI S16 11 n0 4) + (1 : Int32))) 11 n0 4) - (1 : Int32)), (zsI S16 11 n0 4 ((zI S16 11 n0 4) + (1 : Int32))))
              ) else (
                some ((-4 : Int32), S)
              )
            ) else (
              some ((-2 : Int32), S)
            )
          )
        )
      )
    )
  )
set_option maxRecDepth 20000 in
set_option maxHeartbeats 1000000 in
theorem w_X11_paper {n0 : Nat} {x1 : Int32} {x2 : Int32} {x3 : Int32} {x4 : Int32} {x5 : Int32} {x6 : Int32} {x7 : Int32} {x8 : Int32} {x9 : Int32} {S : ZH} {q : Int32 × ZH} (h : f_X11_paper n0 x1 x2 x3 x4 x5 x6 x7 x8 x9 S = some q) : MetX Y_X11_paper S [z_r 11 (some n0), z_i x1, z_i x2, z_i x3, z_i x4, z_i x5, z_i x6, z_i x7, z_i x8, z_i x9] (some (z_i q.1)) q.2 := by
  refine MetX.of (lo := [(0, z_r 11 (some n0)), (1, z_i x1), (2, z_i x2), (3, z_i x3), (4, z_i x4), (5, z_i x5), (6, z_i x6), (7, z_i x7), (8, z_i x8), (9, z_i x9)]) rfl (by decide) (Nat.le_of_ble_eq_true rfl) ?_
  unfold f_X11_paper at h
  refine x_aload_n 0 dX11_paper_0 rfl rfl ?_
  refine x_iload_n 1 dX11_paper_1 rfl rfl ?_
  refine z_bnd h (fun q1 hq1 h => ?_)
  refine x_callV1 rfl (w_X11_findMan hq1) cw_X11_findMan q_366 ⟨by decide, by decide⟩ (Nat.le_of_ble_eq_true rfl) dX11_paper_2 rfl ?_
  refine x_ifnonnull (tgt := 10) dX11_paper_5 (by decide) h (fun h => ?_) (fun h => ?_)
  · refine x_iload_n 2 dX11_paper_10 rfl rfl ?_
    refine z_bnd h (fun q2 hq2 h => ?_)
    refine x_callS1 (w_X11_isMark hq2) cw_X11_isMark q_476 ⟨by decide, by decide⟩ (Nat.le_of_ble_eq_true rfl) dX11_paper_11 rfl ?_
    refine x_if_eq (tgt := 61) dX11_paper_14 (by decide) h (fun h => ?_) (fun h => ?_)
    · refine x_bipush (v := (-2 : Int32)) dX11_paper_61 (by decide) ?_
      exact x_iretE rfl dX11_paper_63 h
    · refine x_iload_n 3 dX11_paper_17 rfl rfl ?_
      refine z_bnd h (fun q3 hq3 h => ?_)
      refine x_callS1 (w_X11_isMark hq3) cw_X11_isMark q_476 ⟨by decide, by decide⟩ (Nat.le_of_ble_eq_true rfl) dX11_paper_18 rfl ?_
      refine x_if_eq (tgt := 61) dX11_paper_21 (by decide) h (fun h => ?_) (fun h => ?_)
      · refine x_bipush (v := (-2 : Int32)) dX11_paper_61 (by decide) ?_
        exact x_iretE rfl dX11_paper_63 h
      · refine x_iload 4 dX11_paper_24 rfl ?_
        refine x_iload 5 dX11_paper_26 rfl ?_
        refine x_bipush (v := (99 : Int32)) dX11_paper_28 (by decide) ?_
        refine z_bnd h (fun q4 hq4 h => ?_)
        refine x_callS1 (w_X11_isSpan hq4) cw_X11_isSpan q_479 ⟨by decide, by decide⟩ (Nat.le_of_ble_eq_true rfl) dX11_paper_30 rfl ?_
        refine x_if_eq (tgt := 61) dX11_paper_33 (by decide) h (fun h => ?_) (fun h => ?_)
        · refine x_bipush (v := (-2 : Int32)) dX11_paper_61 (by decide) ?_
          exact x_iretE rfl dX11_paper_63 h
        · refine x_iload 6 dX11_paper_36 rfl ?_
          refine x_iload 7 dX11_paper_38 rfl ?_
          refine x_bipush (v := (99 : Int32)) dX11_paper_40 (by decide) ?_
          refine z_bnd h (fun q5 hq5 h => ?_)
          refine x_callS1 (w_X11_isSpan hq5) cw_X11_isSpan q_479 ⟨by decide, by decide⟩ (Nat.le_of_ble_eq_true rfl) dX11_paper_42 rfl ?_
          refine x_if_eq (tgt := 61) dX11_paper_45 (by decide) h (fun h => ?_) (fun h => ?_)
          · refine x_bipush (v := (-2 : Int32)) dX11_paper_61 (by decide) ?_
            exact x_iretE rfl dX11_paper_63 h
          · refine x_iload 8 dX11_paper_48 rfl ?_
            refine x_iload 9 dX11_paper_50 rfl ?_
            refine x_sipush (v := (899 : Int32)) dX11_paper_52 (by decide) ?_
            refine z_bnd h (fun q6 hq6 h => ?_)
            refine x_callS1 (w_X11_isSpan hq6) cw_X11_isSpan q_479 ⟨by decide, by decide⟩ (Nat.le_of_ble_eq_true rfl) dX11_paper_55 rfl ?_
            refine x_if_ne (tgt := 64) dX11_paper_58 (by decide) h (fun h => ?_) (fun h => ?_)
            · refine x_aload_n 0 dX11_paper_64 rfl rfl ?_
              refine x_getI rfl ck_11 4 (by decide) rfl q_194 dX11_paper_65 ?_
              refine x_bipush (v := (60 : Int32)) dX11_paper_68 (by decide) ?_
              refine x_ic_lt (tgt := 76) dX11_paper_70 (by decide) h (fun h => ?_) (fun h => ?_)
              · refine x_aload_n 0 dX11_paper_76 rfl rfl ?_
                refine x_getR rfl ck_11 3 (by decide) rfl q_193 dX11_paper_77 ?_
                refine x_aload_n 0 dX11_paper_80 rfl rfl ?_
                refine x_getI rfl ck_11 4 (by decide) rfl q_194 dX11_paper_81 ?_
                refine x_new ck_4 q_121 dX11_paper_84 h (fun S7 hS7 h => ?_)
                refine x_dup dX11_paper_87 rfl ?_
                refine x_iload_n 1 dX11_paper_88 rfl rfl ?_
                refine x_iload_n 2 dX11_paper_89 rfl rfl ?_
                refine x_iload_n 3 dX11_paper_90 rfl rfl ?_
                refine x_new ck_7 q_483 dX11_paper_91 h (fun S8 hS8 h => ?_)
                refine x_dup dX11_paper_94 rfl ?_
                refine x_iload 4 dX11_paper_95 rfl ?_
                refine x_iload 5 dX11_paper_97 rfl ?_
                refine z_bnd h (fun q9 hq9 h => ?_)
                refine x_callIWv 16 rfl (w_X7_init hq9) cw_X7_init q_485 ⟨by decide, by decide⟩ (Nat.le_of_ble_eq_true rfl) dX11_paper_99 rfl ?_
                refine x_new ck_7 q_483 dX11_paper_102 h (fun S10 hS10 h => ?_)
                refine x_dup dX11_paper_105 rfl ?_
                refine x_iload 6 dX11_paper_106 rfl ?_
                refine x_iload 7 dX11_paper_108 rfl ?_
                refine z_bnd h (fun q11 hq11 h => ?_)
                refine x_callIWv 16 rfl (w_X7_init hq11) cw_X7_init q_485 ⟨by decide, by decide⟩ (Nat.le_of_ble_eq_true rfl) dX11_paper_110 rfl ?_
                refine x_new ck_7 q_483 dX11_paper_113 h (fun S12 hS12 h => ?_)
                refine x_dup dX11_paper_116 rfl ?_
                refine x_iload 8 dX11_paper_117 rfl ?_
                refine x_iload 9 dX11_paper_119 rfl ?_
                refine z_bnd h (fun q13 hq13 h => ?_)
                refine x_callIWv 16 rfl (w_X7_init hq13) cw_X7_init q_485 ⟨by decide, by decide⟩ (Nat.le_of_ble_eq_true rfl) dX11_paper_121 rfl ?_
                refine z_bnd h (fun q14 hq14 h => ?_)
                refine x_callIv rfl (w_X4_init hq14) cw_X4_init q_496 ⟨by decide, by decide⟩ (Nat.le_of_ble_eq_true rfl) dX11_paper_124 rfl ?_
                refine z_bnd h (fun a15 ha15 h => ?_)
                refine x_aastore ha15 ak_23 dX11_paper_127 h (fun S16 hS16 h => ?_)
                refine x_aload_n 0 dX11_paper_128 rfl rfl ?_
                refine x_dup dX11_paper_129 rfl ?_
                refine x_getI rfl ck_11 4 (by decide) rfl q_194 dX11_paper_130 ?_
                refine x_iconst (v := (1 : Int32)) dX11_paper_133 (by decide) ?_
                refine x_iadd dX11_paper_134 ?_
                refine x_putI rfl ck_11 4 (by decide) rfl (Or.inl rfl) (by rfl) rfl q_194 dX11_paper_135 ?_
                refine x_aload_n 0 dX11_paper_138 rfl rfl ?_
                refine x_getI rfl ck_11 4 (by decide) rfl q_194 dX11_paper_139 ?_
                refine x_iconst (v := (1 : Int32)) dX11_paper_142 (by decide) ?_
                refine x_isub dX11_paper_143 ?_
                exact x_iretE rfl dX11_paper_144 h
              · refine x_bipush (v := (-4 : Int32)) dX11_paper_73 (by decide) ?_
                exact x_iretE rfl dX11_paper_75 h
            · refine x_bipush (v := (-2 : Int32)) dX11_paper_61 (by decide) ?_
              exact x_iretE rfl dX11_paper_63 h
  · refine x_iconst (v := (-1 : Int32)) dX11_paper_8 (by decide) ?_
    exact x_iretE rfl dX11_paper_9 h
-- PressedMen findPaper (I)LPressedMen$Paper;
abbrev Y_X11_findPaper : ZM := (yX11_findPaper, cX11_findPaper, 2, (some (.object "PressedMen$Paper")), 1, 22)
theorem cw_X11_findPaper : z_CV Y_X11_findPaper 11 1 := ⟨⟨_, _, rfl⟩, by decide, q_526, q_10, q_527, q_70, ⟨by decide, by decide⟩, rfl⟩
def f_X11_findPaper (n0 : Nat) (x1 : Int32) (S : ZH) : Option (Option Nat) :=
  (f_X11_within x1 (0 : Int32) ((zI S 11 n0 4) - (1 : Int32)) S).bind fun q1 =>
  if q1 = 0 then (
    some none
  ) else (
    ((zR S 11 n0 3)).bind fun a2 =>
    (zldR S 23 a2 x1).bind fun v3 =>
    some v3
  )
set_option maxRecDepth 20000 in
set_option maxHeartbeats 1000000 in
theorem w_X11_findPaper {n0 : Nat} {x1 : Int32} {S : ZH} {q : Option Nat} (h : f_X11_findPaper n0 x1 S = some q) : MetX Y_X11_findPaper S [z_r 11 (some n0), z_i x1] (some (z_r 4 q)) S := by
  refine MetX.of (lo := [(0, z_r 11 (some n0)), (1, z_i x1)]) rfl (by decide) (Nat.le_of_ble_eq_true rfl) ?_
  unfold f_X11_findPaper at h
  refine x_iload_n 1 dX11_findPaper_0 rfl rfl ?_
  refine x_iconst (v := (0 : Int32)) dX11_findPaper_1 (by decide) ?_
  refine x_aload_n 0 dX11_findPaper_2 rfl rfl ?_
  refine x_getI rfl ck_11 4 (by decide) rfl q_194 dX11_findPaper_3 ?_
  refine x_iconst (v := (1 : Int32)) dX11_findPaper_6 (by decide) ?_
  refine x_isub dX11_findPaper_7 ?_
  refine z_bnd h (fun q1 hq1 h => ?_)
  refine x_callS1 (w_X11_within hq1) cw_X11_within q_252 ⟨by decide, by decide⟩ (Nat.le_of_ble_eq_true rfl) dX11_findPaper_8 rfl ?_
  refine x_if_eq (tgt := 23) dX11_findPaper_11 (by decide) h (fun h => ?_) (fun h => ?_)
  · refine x_null 4 dX11_findPaper_23 ?_
    exact x_aret rfl (Or.inl ⟨_, rfl⟩) dX11_findPaper_24 h
  · refine x_aload_n 0 dX11_findPaper_14 rfl rfl ?_
    refine x_getR rfl ck_11 3 (by decide) rfl q_193 dX11_findPaper_15 ?_
    refine x_iload_n 1 dX11_findPaper_18 rfl rfl ?_
    refine z_bnd h (fun a2 ha2 h => ?_)
    refine x_aaload ha2 ak_23 dX11_findPaper_19 h (fun v3 hv3 h => ?_)
    refine x_goto (tgt := 24) dX11_findPaper_20 (by decide) ?_
    exact x_aret rfl (Or.inl ⟨_, rfl⟩) dX11_findPaper_24 h
-- PressedMen isTide (I)Z
abbrev Y_X11_isTide : ZM := (yX11_isTide, cX11_isTide, 1, (some .boolean), 1, 22)
theorem cw_X11_isTide : z_CS Y_X11_isTide 1 := ⟨q_529, q_530, q_70, ⟨by decide, by decide⟩, rfl⟩
def f_X11_isTide (x0 : Int32) (S : ZH) : Option (Int32) :=
  (f_X11_within x0 (0 : Int32) (899 : Int32) S).bind fun q1 =>
  if z_b q1 = q1 then some q1 else none
set_option maxRecDepth 20000 in
set_option maxHeartbeats 1000000 in
theorem w_X11_isTide {x0 : Int32} {S : ZH} {q : Int32} (h : f_X11_isTide x0 S = some q) : MetX Y_X11_isTide S [z_i x0] (some (z_i q)) S := by
  refine MetX.of (lo := [(0, z_i x0)]) rfl (by decide) (Nat.le_of_ble_eq_true rfl) ?_
  unfold f_X11_isTide at h
  refine x_iload_n 0 dX11_isTide_0 rfl rfl ?_
  refine x_iconst (v := (0 : Int32)) dX11_isTide_1 (by decide) ?_
  refine x_sipush (v := (899 : Int32)) dX11_isTide_2 (by decide) ?_
  refine z_bnd h (fun q1 hq1 h => ?_)
  refine x_callS1 (w_X11_within hq1) cw_X11_within q_252 ⟨by decide, by decide⟩ (Nat.le_of_ble_eq_true rfl) dX11_isTide_5 rfl ?_
  exact x_zret rfl dX11_isTide_8 h
-- PressedMen$Span holds (I)Z
abbrev Y_X7_holds : ZM := (yX7_holds, cX7_holds, 2, (some .boolean), 1, 22)
theorem cw_X7_holds : z_CV Y_X7_holds 7 1 := ⟨⟨_, _, rfl⟩, by decide, q_536, q_537, q_538, q_81, ⟨by decide, by decide⟩, rfl⟩
def f_X7_holds (n0 : Nat) (x1 : Int32) (S : ZH) : Option (Int32) :=
  (f_X11_within x1 (zI S 7 n0 0) (zI S 7 n0 1) S).bind fun q1 =>
  if z_b q1 = q1 then some q1 else none
set_option maxRecDepth 20000 in
set_option maxHeartbeats 1000000 in
theorem w_X7_holds {n0 : Nat} {x1 : Int32} {S : ZH} {q : Int32} (h : f_X7_holds n0 x1 S = some q) : MetX Y_X7_holds S [z_r 7 (some n0), z_i x1] (some (z_i q)) S := by
  refine MetX.of (lo := [(0, z_r 7 (some n0)), (1, z_i x1)]) rfl (by decide) (Nat.le_of_ble_eq_true rfl) ?_
  unfold f_X7_holds at h
  refine x_iload_n 1 dX7_holds_0 rfl rfl ?_
  refine x_aload_n 0 dX7_holds_1 rfl rfl ?_
  refine x_getI rfl ck_7 0 (by decide) rfl q_489 dX7_holds_2 ?_
  refine x_aload_n 0 dX7_holds_5 rfl rfl ?_
  refine x_getI rfl ck_7 1 (by decide) rfl q_490 dX7_holds_6 ?_
  refine z_bnd h (fun q1 hq1 h => ?_)
  refine x_callSN1 (w_X11_within hq1) cw_X11_within q_539 ⟨by decide, by decide⟩ (Nat.le_of_ble_eq_true rfl) dX7_holds_9 rfl ?_
  exact x_zret rfl dX7_holds_12 h
-- PressedMen$Paper describes (LPressedMen$Man;)Z
abbrev Y_X4_describes : ZM := (yX4_describes, cX4_describes, 2, (some .boolean), 2, 43)
theorem cw_X4_describes : z_CV Y_X4_describes 4 1 := ⟨⟨_, _, rfl⟩, by decide, q_542, q_11, q_543, q_80, ⟨by decide, by decide⟩, rfl⟩
def j_X4_describes_40 (n0 : Nat) (x1 : Option Nat)  (S : ZH) : Option (Int32) :=
  (x1).bind fun a1 =>
  ((zR S 4 n0 3)).bind fun a2 =>
  (f_X7_holds a2 (zI S 3 a1 0) S).bind fun q3 =>
  if q3 = 0 then (
    some (0 : Int32)
  ) else (
    ((zR S 4 n0 4)).bind fun a4 =>
    (f_X7_holds a4 (zI S 3 a1 3) S).bind fun q5 =>
    if q5 = 0 then (
      some (0 : Int32)
    ) else (
      some (1 : Int32)
    )
  )
def j_X4_describes_20 (n0 : Nat) (x1 : Option Nat)  (S : ZH) : Option (Int32) :=
  if (zI S 4 n0 2) = (-9 : Int32) then (
    j_X4_describes_40 n0 x1 S
  ) else (
    (x1).bind fun a6 =>
    if ¬ (zI S 4 n0 2) = (zI S 3 a6 2) then (
      some (0 : Int32)
    ) else (
      j_X4_describes_40 n0 (some a6) S
    )
  )
def f_X4_describes (n0 : Nat) (x1 : Option Nat) (S : ZH) : Option (Int32) :=
  if (zI S 4 n0 1) = (-9 : Int32) then (
    j_X4_describes_20 n0 x1 S
  ) else (
    (x1).bind fun a7 =>
    if ¬ (zI S 4 n0 1) = (zI S 3 a7 1) then (
      some (0 : Int32)
    ) else (
      j_X4_describes_20 n0 (some a7) S
    )
  )
set_option maxRecDepth 20000 in
theorem k_X4_describes_40 {S0 : ZH} {n0 : Nat} {x1 : Option Nat}  {S : ZH} {z : Int32} (h : j_X4_describes_40 n0 x1 S = some z) : Wp Y_X4_describes S0 (zF S0 (some (z_i z)) S) 40 [(0, z_r 4 (some n0)), (1, z_r 3 x1)] [] S := by
  unfold j_X4_describes_40 at h
  refine x_aload_n 0 dX4_describes_40 rfl rfl ?_
  refine x_getR rfl ck_4 3 (by decide) rfl q_504 dX4_describes_41 ?_
  refine x_aload_n 1 dX4_describes_44 rfl rfl ?_
  refine z_bnd h (fun a1 ha1 h => ?_)
  revert h
  subst ha1
  intro h
  refine x_getI rfl ck_3 0 (by decide) rfl q_303 dX4_describes_45 ?_
  refine z_bnd h (fun a2 ha2 h => ?_)
  refine z_bnd h (fun q3 hq3 h => ?_)
  refine x_callV1 ha2 (w_X7_holds hq3) cw_X7_holds q_535 ⟨by decide, by decide⟩ (Nat.le_of_ble_eq_true rfl) dX4_describes_48 rfl ?_
  refine x_if_eq (tgt := 72) dX4_describes_51 (by decide) h (fun h => ?_) (fun h => ?_)
  · refine x_iconst (v := (0 : Int32)) dX4_describes_72 (by decide) ?_
    exact x_zretC rfl (by decide) dX4_describes_73 h
  · refine x_aload_n 0 dX4_describes_54 rfl rfl ?_
    refine x_getR rfl ck_4 4 (by decide) rfl q_505 dX4_describes_55 ?_
    refine x_aload_n 1 dX4_describes_58 rfl rfl ?_
    refine x_getI rfl ck_3 3 (by decide) rfl q_313 dX4_describes_59 ?_
    refine z_bnd h (fun a4 ha4 h => ?_)
    refine z_bnd h (fun q5 hq5 h => ?_)
    refine x_callV1 ha4 (w_X7_holds hq5) cw_X7_holds q_535 ⟨by decide, by decide⟩ (Nat.le_of_ble_eq_true rfl) dX4_describes_62 rfl ?_
    refine x_if_eq (tgt := 72) dX4_describes_65 (by decide) h (fun h => ?_) (fun h => ?_)
    · refine x_iconst (v := (0 : Int32)) dX4_describes_72 (by decide) ?_
      exact x_zretC rfl (by decide) dX4_describes_73 h
    · refine x_iconst (v := (1 : Int32)) dX4_describes_68 (by decide) ?_
      refine x_goto (tgt := 73) dX4_describes_69 (by decide) ?_
      exact x_zretC rfl (by decide) dX4_describes_73 h
set_option maxRecDepth 20000 in
theorem k_X4_describes_20 {S0 : ZH} {n0 : Nat} {x1 : Option Nat}  {S : ZH} {z : Int32} (h : j_X4_describes_20 n0 x1 S = some z) : Wp Y_X4_describes S0 (zF S0 (some (z_i z)) S) 20 [(0, z_r 4 (some n0)), (1, z_r 3 x1)] [] S := by
  unfold j_X4_describes_20 at h
  refine x_aload_n 0 dX4_describes_20 rfl rfl ?_
  refine x_getI rfl ck_4 2 (by decide) rfl q_503 dX4_describes_21 ?_
  refine x_bipush (v := (-9 : Int32)) dX4_describes_24 (by decide) ?_
  refine x_ic_eq (tgt := 40) dX4_describes_26 (by decide) h (fun h => ?_) (fun h => ?_)
  · exact x_lo [0, 1] rfl (k_X4_describes_40 h)
  · refine x_aload_n 0 dX4_describes_29 rfl rfl ?_
    refine x_getI rfl ck_4 2 (by decide) rfl q_503 dX4_describes_30 ?_
    refine x_aload_n 1 dX4_describes_33 rfl rfl ?_
    refine z_bnd h (fun a6 ha6 h => ?_)
    revert h
    subst ha6
    intro h
    refine x_getI rfl ck_3 2 (by decide) rfl q_310 dX4_describes_34 ?_
    refine x_ic_ne (tgt := 72) dX4_describes_37 (by decide) h (fun h => ?_) (fun h => ?_)
    · refine x_iconst (v := (0 : Int32)) dX4_describes_72 (by decide) ?_
      exact x_zretC rfl (by decide) dX4_describes_73 h
    · exact x_lo [0, 1] rfl (k_X4_describes_40 h)
set_option maxRecDepth 20000 in
set_option maxHeartbeats 1000000 in
theorem w_X4_describes {n0 : Nat} {x1 : Option Nat} {S : ZH} {q : Int32} (h : f_X4_describes n0 x1 S = some q) : MetX Y_X4_describes S [z_r 4 (some n0), z_r 3 x1] (some (z_i q)) S := by
  refine MetX.of (lo := [(0, z_r 4 (some n0)), (1, z_r 3 x1)]) rfl (by decide) (Nat.le_of_ble_eq_true rfl) ?_
  unfold f_X4_describes at h
  refine x_aload_n 0 dX4_describes_0 rfl rfl ?_
  refine x_getI rfl ck_4 1 (by decide) rfl q_502 dX4_describes_1 ?_
  refine x_bipush (v := (-9 : Int32)) dX4_describes_4 (by decide) ?_
  refine x_ic_eq (tgt := 20) dX4_describes_6 (by decide) h (fun h => ?_) (fun h => ?_)
  · exact x_lo [0, 1] rfl (k_X4_describes_20 h)
  · refine x_aload_n 0 dX4_describes_9 rfl rfl ?_
    refine x_getI rfl ck_4 1 (by decide) rfl q_502 dX4_describes_10 ?_
    refine x_aload_n 1 dX4_describes_13 rfl rfl ?_
    refine z_bnd h (fun a7 ha7 h => ?_)
    revert h
    subst ha7
    intro h
    refine x_getI rfl ck_3 1 (by decide) rfl q_307 dX4_describes_14 ?_
    refine x_ic_ne (tgt := 72) dX4_describes_17 (by decide) h (fun h => ?_) (fun h => ?_)
    · refine x_iconst (v := (0 : Int32)) dX4_describes_72 (by decide) ?_
      exact x_zretC rfl (by decide) dX4_describes_73 h
    · exact x_lo [0, 1] rfl (k_X4_describes_20 h)
-- PressedMen$Span width ()I
abbrev Y_X7_width : ZM := (yX7_width, cX7_width, 1, (some .int), 0, 0)
theorem cw_X7_width : z_CV Y_X7_width 7 0 := ⟨⟨_, _, rfl⟩, by decide, q_545, q_546, q_547, q_81, ⟨by decide, by decide⟩, rfl⟩
def f_X7_width (n0 : Nat) (S : ZH) : Option (Int32) :=
  some ((zI S 7 n0 1) - (zI S 7 n0 0))
set_option maxRecDepth 20000 in
set_option maxHeartbeats 1000000 in
theorem w_X7_width {n0 : Nat} {S : ZH} {q : Int32} (h : f_X7_width n0 S = some q) : MetX Y_X7_width S [z_r 7 (some n0)] (some (z_i q)) S := by
  refine MetX.of (lo := [(0, z_r 7 (some n0))]) rfl (by decide) (Nat.le_of_ble_eq_true rfl) ?_
  unfold f_X7_width at h
  refine x_aload_n 0 dX7_width_0 rfl rfl ?_
  refine x_getI rfl ck_7 1 (by decide) rfl q_490 dX7_width_1 ?_
  refine x_aload_n 0 dX7_width_4 rfl rfl ?_
  refine x_getI rfl ck_7 0 (by decide) rfl q_489 dX7_width_5 ?_
  refine x_isub dX7_width_8 ?_
  exact x_iret rfl dX7_width_9 h
-- PressedMen$Paper coverage (LPressedMen$Man;I)I
abbrev Y_X4_coverage : ZM := (yX4_coverage, cX4_coverage, 4, (some .int), 3, 64)
theorem cw_X4_coverage : z_CV Y_X4_coverage 4 2 := ⟨⟨_, _, rfl⟩, by decide, q_532, q_533, q_534, q_80, ⟨by decide, by decide⟩, rfl⟩
def j_X4_coverage_65   (S : ZH) : Option (Int32) :=
  if (0 : Int32) = 0 then (
    some (1 : Int32)
  ) else (
    some (2 : Int32)
  )
def f_X4_coverage (n0 : Nat) (x1 : Option Nat) (x2 : Int32) (S : ZH) : Option (Int32) :=
  ((zR S 4 n0 5)).bind fun a1 =>
  (f_X7_holds a1 x2 S).bind fun q2 =>
  if q2 = 0 then (
    some (0 : Int32)
  ) else (
    (f_X4_describes n0 x1 S).bind fun q3 =>
    if ¬ q3 = 0 then (
      if (zI S 4 n0 1) = (-9 : Int32) then (
        j_X4_coverage_65 S
      ) else (
        if (zI S 4 n0 2) = (-9 : Int32) then (
          j_X4_coverage_65 S
        ) else (
          ((zR S 4 n0 3)).bind fun a4 =>
          (f_X7_width a4 S).bind fun q5 =>
          if (5 : Int32) < q5 then (
            j_X4_coverage_65 S
          ) else (
            ((zR S 4 n0 4)).bind fun a6 =>
            (f_X7_width a6 S).bind fun q7 =>
            if (2 : Int32) < q7 then (
              j_X4_coverage_65 S
            ) else (
              if (1 : Int32) = 0 then (
                some (1 : Int32)
              ) else (
                some (2 : Int32)
              )
            )
          )
        )
      )
    ) else (
      some (0 : Int32)
    )
  )
set_option maxRecDepth 20000 in
theorem k_X4_coverage_65 {S0 : ZH}   {S : ZH} {z : Int32} (h : j_X4_coverage_65 S = some z) : Wp Y_X4_coverage S0 (zF S0 (some (z_i z)) S) 65 [] [] S := by
  unfold j_X4_coverage_65 at h
  refine x_iconst (v := (0 : Int32)) dX4_coverage_65 (by decide) ?_
  refine x_istore_n (lo' := [(3, z_i (0 : Int32))]) dX4_coverage_66 rfl (by decide) rfl ?_
  refine x_iload_n 0 dX4_coverage_67 rfl rfl ?_
  refine x_if_eq (tgt := 75) dX4_coverage_68 (by decide) h (fun h => ?_) (fun h => ?_)
  · refine x_iconst (v := (1 : Int32)) dX4_coverage_75 (by decide) ?_
    exact x_iret rfl dX4_coverage_76 h
  · refine x_iconst (v := (2 : Int32)) dX4_coverage_71 (by decide) ?_
    refine x_goto (tgt := 76) dX4_coverage_72 (by decide) ?_
    exact x_iret rfl dX4_coverage_76 h
set_option maxRecDepth 20000 in
set_option maxHeartbeats 1000000 in
theorem w_X4_coverage {n0 : Nat} {x1 : Option Nat} {x2 : Int32} {S : ZH} {q : Int32} (h : f_X4_coverage n0 x1 x2 S = some q) : MetX Y_X4_coverage S [z_r 4 (some n0), z_r 3 x1, z_i x2] (some (z_i q)) S := by
  refine MetX.of (lo := [(0, z_r 4 (some n0)), (1, z_r 3 x1), (2, z_i x2)]) rfl (by decide) (Nat.le_of_ble_eq_true rfl) ?_
  unfold f_X4_coverage at h
  refine x_aload_n 0 dX4_coverage_0 rfl rfl ?_
  refine x_getR rfl ck_4 5 (by decide) rfl q_506 dX4_coverage_1 ?_
  refine x_iload_n 2 dX4_coverage_4 rfl rfl ?_
  refine z_bnd h (fun a1 ha1 h => ?_)
  refine z_bnd h (fun q2 hq2 h => ?_)
  refine x_callV1 ha1 (w_X7_holds hq2) cw_X7_holds q_535 ⟨by decide, by decide⟩ (Nat.le_of_ble_eq_true rfl) dX4_coverage_5 rfl ?_
  refine x_if_eq (tgt := 19) dX4_coverage_8 (by decide) h (fun h => ?_) (fun h => ?_)
  · refine x_iconst (v := (0 : Int32)) dX4_coverage_19 (by decide) ?_
    exact x_iret rfl dX4_coverage_20 h
  · refine x_aload_n 0 dX4_coverage_11 rfl rfl ?_
    refine x_aload_n 1 dX4_coverage_12 rfl rfl ?_
    refine z_bnd h (fun q3 hq3 h => ?_)
    refine x_callV1 rfl (w_X4_describes hq3) cw_X4_describes q_540 ⟨by decide, by decide⟩ (Nat.le_of_ble_eq_true rfl) dX4_coverage_13 rfl ?_
    refine x_if_ne (tgt := 21) dX4_coverage_16 (by decide) h (fun h => ?_) (fun h => ?_)
    · refine x_aload_n 0 dX4_coverage_21 rfl rfl ?_
      refine x_getI rfl ck_4 1 (by decide) rfl q_502 dX4_coverage_22 ?_
      refine x_bipush (v := (-9 : Int32)) dX4_coverage_25 (by decide) ?_
      refine x_ic_eq (tgt := 65) dX4_coverage_27 (by decide) h (fun h => ?_) (fun h => ?_)
      · exact x_lo [] rfl (k_X4_coverage_65 h)
      · refine x_aload_n 0 dX4_coverage_30 rfl rfl ?_
        refine x_getI rfl ck_4 2 (by decide) rfl q_503 dX4_coverage_31 ?_
        refine x_bipush (v := (-9 : Int32)) dX4_coverage_34 (by decide) ?_
        refine x_ic_eq (tgt := 65) dX4_coverage_36 (by decide) h (fun h => ?_) (fun h => ?_)
        · exact x_lo [] rfl (k_X4_coverage_65 h)
        · refine x_aload_n 0 dX4_coverage_39 rfl rfl ?_
          refine x_getR rfl ck_4 3 (by decide) rfl q_504 dX4_coverage_40 ?_
          refine z_bnd h (fun a4 ha4 h => ?_)
          refine z_bnd h (fun q5 hq5 h => ?_)
          refine x_callV1 ha4 (w_X7_width hq5) cw_X7_width q_544 ⟨by decide, by decide⟩ (Nat.le_of_ble_eq_true rfl) dX4_coverage_43 rfl ?_
          refine x_iconst (v := (5 : Int32)) dX4_coverage_46 (by decide) ?_
          refine x_ic_gt (tgt := 65) dX4_coverage_47 (by decide) h (fun h => ?_) (fun h => ?_)
          · exact x_lo [] rfl (k_X4_coverage_65 h)
          · refine x_aload_n 0 dX4_coverage_50 rfl rfl ?_
            refine x_getR rfl ck_4 4 (by decide) rfl q_505 dX4_coverage_51 ?_
            refine z_bnd h (fun a6 ha6 h => ?_)
            refine z_bnd h (fun q7 hq7 h => ?_)
            refine x_callV1 ha6 (w_X7_width hq7) cw_X7_width q_544 ⟨by decide, by decide⟩ (Nat.le_of_ble_eq_true rfl) dX4_coverage_54 rfl ?_
            refine x_iconst (v := (2 : Int32)) dX4_coverage_57 (by decide) ?_
            refine x_ic_gt (tgt := 65) dX4_coverage_58 (by decide) h (fun h => ?_) (fun h => ?_)
            · exact x_lo [] rfl (k_X4_coverage_65 h)
            · refine x_iconst (v := (1 : Int32)) dX4_coverage_61 (by decide) ?_
              refine x_goto (tgt := 66) dX4_coverage_62 (by decide) ?_
              refine x_istore_n (lo' := [(3, z_i (1 : Int32)), (0, z_r 4 (some n0)), (1, z_r 3 x1), (2, z_i x2)]) dX4_coverage_66 rfl (by decide) rfl ?_
              refine x_iload_n 0 dX4_coverage_67 rfl rfl ?_
              refine x_if_eq (tgt := 75) dX4_coverage_68 (by decide) h (fun h => ?_) (fun h => ?_)
              · refine x_iconst (v := (1 : Int32)) dX4_coverage_75 (by decide) ?_
                exact x_iret rfl dX4_coverage_76 h
              · refine x_iconst (v := (2 : Int32)) dX4_coverage_71 (by decide) ?_
                refine x_goto (tgt := 76) dX4_coverage_72 (by decide) ?_
                exact x_iret rfl dX4_coverage_76 h
    · refine x_iconst (v := (0 : Int32)) dX4_coverage_19 (by decide) ?_
      exact x_iret rfl dX4_coverage_20 h
-- PressedMen cover (III)I
abbrev Y_X11_cover : ZM := (yX11_cover, cX11_cover, 6, (some .int), 4, 87)
theorem cw_X11_cover : z_CV Y_X11_cover 11 3 := ⟨⟨_, _, rfl⟩, by decide, q_521, q_522, q_523, q_70, ⟨by decide, by decide⟩, rfl⟩
def f_X11_cover (n0 : Nat) (x1 : Int32) (x2 : Int32) (x3 : Int32) (S : ZH) : Option (Int32) :=
  (f_X11_findPaper n0 x1 S).bind fun q1 =>
  (f_X11_findMan n0 x2 S).bind fun q2 =>
  if q1 = none then (
    some (-1 : Int32)
  ) else (
    if q2 = none then (
      some (-1 : Int32)
    ) else (
      (f_X11_isTide x3 S).bind fun q3 =>
      if ¬ q3 = 0 then (
        (q1).bind fun a4 =>
        (f_X4_coverage a4 q2 x3 S).bind fun q5 =>
        some q5
      ) else (
        some (-2 : Int32)
      )
    )
  )
set_option maxRecDepth 20000 in
set_option maxHeartbeats 1000000 in
theorem w_X11_cover {n0 : Nat} {x1 : Int32} {x2 : Int32} {x3 : Int32} {S : ZH} {q : Int32} (h : f_X11_cover n0 x1 x2 x3 S = some q) : MetX Y_X11_cover S [z_r 11 (some n0), z_i x1, z_i x2, z_i x3] (some (z_i q)) S := by
  refine MetX.of (lo := [(0, z_r 11 (some n0)), (1, z_i x1), (2, z_i x2), (3, z_i x3)]) rfl (by decide) (Nat.le_of_ble_eq_true rfl) ?_
  unfold f_X11_cover at h
  refine x_aload_n 0 dX11_cover_0 rfl rfl ?_
  refine x_iload_n 1 dX11_cover_1 rfl rfl ?_
  refine z_bnd h (fun q1 hq1 h => ?_)
  refine x_callV1 rfl (w_X11_findPaper hq1) cw_X11_findPaper q_524 ⟨by decide, by decide⟩ (Nat.le_of_ble_eq_true rfl) dX11_cover_2 rfl ?_
  refine x_astore (lo' := [(4, z_r 4 q1), (0, z_r 11 (some n0)), (1, z_i x1), (2, z_i x2), (3, z_i x3)]) dX11_cover_5 (by decide) rfl ?_
  refine x_aload_n 1 dX11_cover_7 rfl rfl ?_
  refine x_iload_n 3 dX11_cover_8 rfl rfl ?_
  refine z_bnd h (fun q2 hq2 h => ?_)
  refine x_callV1 rfl (w_X11_findMan hq2) cw_X11_findMan q_366 ⟨by decide, by decide⟩ (Nat.le_of_ble_eq_true rfl) dX11_cover_9 rfl ?_
  refine x_astore (lo' := [(5, z_r 3 q2), (4, z_r 4 q1), (0, z_r 11 (some n0)), (1, z_i x1), (2, z_i x2), (3, z_i x3)]) dX11_cover_12 (by decide) rfl ?_
  refine x_aload 1 dX11_cover_14 rfl ?_
  refine x_ifnull (tgt := 24) dX11_cover_16 (by decide) h (fun h => ?_) (fun h => ?_)
  · refine x_iconst (v := (-1 : Int32)) dX11_cover_24 (by decide) ?_
    exact x_iret rfl dX11_cover_25 h
  · refine x_aload 0 dX11_cover_19 rfl ?_
    refine x_ifnonnull (tgt := 26) dX11_cover_21 (by decide) h (fun h => ?_) (fun h => ?_)
    · refine x_iload_n 5 dX11_cover_26 rfl rfl ?_
      refine z_bnd h (fun q3 hq3 h => ?_)
      refine x_callS1 (w_X11_isTide hq3) cw_X11_isTide q_528 ⟨by decide, by decide⟩ (Nat.le_of_ble_eq_true rfl) dX11_cover_27 rfl ?_
      refine x_if_ne (tgt := 36) dX11_cover_30 (by decide) h (fun h => ?_) (fun h => ?_)
      · refine x_aload 1 dX11_cover_36 rfl ?_
        refine x_aload 0 dX11_cover_38 rfl ?_
        refine x_iload_n 5 dX11_cover_40 rfl rfl ?_
        refine z_bnd h (fun a4 ha4 h => ?_)
        revert h
        subst ha4
        intro h
        refine z_bnd h (fun q5 hq5 h => ?_)
        refine x_callV1 rfl (w_X4_coverage hq5) cw_X4_coverage q_531 ⟨by decide, by decide⟩ (Nat.le_of_ble_eq_true rfl) dX11_cover_41 rfl ?_
        exact x_iret rfl dX11_cover_44 h
      · refine x_bipush (v := (-2 : Int32)) dX11_cover_33 (by decide) ?_
        exact x_iret rfl dX11_cover_35 h
    · refine x_iconst (v := (-1 : Int32)) dX11_cover_24 (by decide) ?_
      exact x_iret rfl dX11_cover_25 h
-- PressedMen same (II)I
abbrev Y_X11_same : ZM := (yX11_same, cX11_same, 6, (some .int), 4, 87)
theorem cw_X11_same : z_CV Y_X11_same 11 2 := ⟨⟨_, _, rfl⟩, by decide, q_549, q_550, q_551, q_70, ⟨by decide, by decide⟩, rfl⟩
def b_X11_same_28 (n0 : Nat) (x2 : Int32) (x3 : Option Nat) (S : ZH) (v : Int32 × Int32) : Option ((Int32 × Int32) ⊕ (Int32)) :=
  if (zI S 11 n0 2) ≤ v.2 then (
    some (Sum.inr v.1)
  ) else (
    ((zR S 11 n0 1)).bind fun a3 =>
    (zldR S 22 a3 v.2).bind fun v4 =>
    (x3).bind fun a5 =>
    (f_X4_coverage a5 v4 x2 S).bind fun q6 =>
    if q6 ≤ 0 then (
      some (Sum.inl (v.1, (v.2 + 1)))
    ) else (
      some (Sum.inl ((v.1 + 1), (v.2 + 1)))
    )
  )
def f_X11_same (n0 : Nat) (x1 : Int32) (x2 : Int32) (S : ZH) : Option (Int32) :=
  (f_X11_findPaper n0 x1 S).bind fun q1 =>
  if q1 = none then (
    some (-1 : Int32)
  ) else (
    (f_X11_isTide x2 S).bind fun q2 =>
    if ¬ q2 = 0 then (
      (z_iter zFU (b_X11_same_28 n0 x2 q1 S) ((0 : Int32), (0 : Int32))).bind fun t7 =>
      some t7
    ) else (
      some (-2 : Int32)
    )
  )
set_option maxRecDepth 20000 in
theorem l_X11_same_28 {S0 : ZH} {F : ZP} {n0 : Nat} {x2 : Int32} {x3 : Option Nat} {S : ZH} {v : Int32 × Int32} {t : Int32} (h : z_iter zFU (b_X11_same_28 n0 x2 x3 S) v = some t) (k : (fun t => Wp Y_X11_same S0 F 61 [(4, z_i t)] [] S) t) : Wp Y_X11_same S0 F 28 [(0, z_r 11 (some n0)), (2, z_i x2), (3, z_r 4 x3), (4, z_i v.1), (5, z_i v.2)] [] S := by
  refine z_iter_P (P := fun v : Int32 × Int32 => Wp Y_X11_same S0 F 28 [(0, z_r 11 (some n0)), (2, z_i x2), (3, z_r 4 x3), (4, z_i v.1), (5, z_i v.2)] [] S) (X := (fun t => Wp Y_X11_same S0 F 61 [(4, z_i t)] [] S)) ?_ _ _ _ h k
  clear h k v t
  intro v r h k
  unfold b_X11_same_28 at h
  refine x_iload 4 dX11_same_28 rfl ?_
  refine x_aload_n 0 dX11_same_30 rfl rfl ?_
  refine x_getI rfl ck_11 2 (by decide) rfl q_192 dX11_same_31 ?_
  refine x_ic_ge (tgt := 61) dX11_same_34 (by decide) h (fun h => ?_) (fun h => ?_)
  · cases h
    exact x_lo [3] rfl k
  · refine x_aload_n 2 dX11_same_37 rfl rfl ?_
    refine x_aload_n 0 dX11_same_38 rfl rfl ?_
    refine x_getR rfl ck_11 1 (by decide) rfl q_191 dX11_same_39 ?_
    refine x_iload 4 dX11_same_42 rfl ?_
    refine z_bnd h (fun a3 ha3 h => ?_)
    refine x_aaload ha3 ak_22 dX11_same_44 h (fun v4 hv4 h => ?_)
    refine x_iload_n 1 dX11_same_45 rfl rfl ?_
    refine z_bnd h (fun a5 ha5 h => ?_)
    revert h
    subst ha5
    intro h
    refine z_bnd h (fun q6 hq6 h => ?_)
    refine x_callV1 rfl (w_X4_coverage hq6) cw_X4_coverage q_531 ⟨by decide, by decide⟩ (Nat.le_of_ble_eq_true rfl) dX11_same_46 rfl ?_
    refine x_if_le (tgt := 55) dX11_same_49 (by decide) h (fun h => ?_) (fun h => ?_)
    · refine x_iinc (v := (v.2 + 1)) (lo' := [(5, z_i (v.2 + 1)), (0, z_r 11 (some n0)), (2, z_i x2), (3, z_r 4 (some a5)), (4, z_i v.1)]) 4 dX11_same_55 rfl (congrArg (HAdd.hAdd v.2) (by decide)) (by decide) rfl ?_
      refine x_goto (tgt := 28) dX11_same_58 (by decide) ?_
      cases h
      exact x_lo [1, 2, 3, 4, 0] rfl k
    · refine x_iinc (v := (v.1 + 1)) (lo' := [(4, z_i (v.1 + 1)), (0, z_r 11 (some n0)), (2, z_i x2), (3, z_r 4 (some a5)), (5, z_i v.2)]) 3 dX11_same_52 rfl (congrArg (HAdd.hAdd v.1) (by decide)) (by decide) rfl ?_
      refine x_iinc (v := (v.2 + 1)) (lo' := [(5, z_i (v.2 + 1)), (4, z_i (v.1 + 1)), (0, z_r 11 (some n0)), (2, z_i x2), (3, z_r 4 (some a5))]) 4 dX11_same_55 rfl (congrArg (HAdd.hAdd v.2) (by decide)) (by decide) rfl ?_
      refine x_goto (tgt := 28) dX11_same_58 (by decide) ?_
      cases h
      exact x_lo [2, 3, 4, 1, 0] rfl k
set_option maxRecDepth 20000 in
set_option maxHeartbeats 1000000 in
theorem w_X11_same {n0 : Nat} {x1 : Int32} {x2 : Int32} {S : ZH} {q : Int32} (h : f_X11_same n0 x1 x2 S = some q) : MetX Y_X11_same S [z_r 11 (some n0), z_i x1, z_i x2] (some (z_i q)) S := by
  refine MetX.of (lo := [(0, z_r 11 (some n0)), (1, z_i x1), (2, z_i x2)]) rfl (by decide) (Nat.le_of_ble_eq_true rfl) ?_
  unfold f_X11_same at h
  refine x_aload_n 0 dX11_same_0 rfl rfl ?_
  refine x_iload_n 1 dX11_same_1 rfl rfl ?_
  refine z_bnd h (fun q1 hq1 h => ?_)
  refine x_callV1 rfl (w_X11_findPaper hq1) cw_X11_findPaper q_524 ⟨by decide, by decide⟩ (Nat.le_of_ble_eq_true rfl) dX11_same_2 rfl ?_
  refine x_astore_n (lo' := [(3, z_r 4 q1), (0, z_r 11 (some n0)), (1, z_i x1), (2, z_i x2)]) dX11_same_5 rfl (by decide) rfl ?_
  refine x_aload_n 0 dX11_same_6 rfl rfl ?_
  refine x_ifnonnull (tgt := 12) dX11_same_7 (by decide) h (fun h => ?_) (fun h => ?_)
  · refine x_iload_n 3 dX11_same_12 rfl rfl ?_
    refine z_bnd h (fun q2 hq2 h => ?_)
    refine x_callS1 (w_X11_isTide hq2) cw_X11_isTide q_528 ⟨by decide, by decide⟩ (Nat.le_of_ble_eq_true rfl) dX11_same_13 rfl ?_
    refine x_if_ne (tgt := 22) dX11_same_16 (by decide) h (fun h => ?_) (fun h => ?_)
    · refine x_iconst (v := (0 : Int32)) dX11_same_22 (by decide) ?_
      refine x_istore (lo' := [(4, z_i (0 : Int32)), (3, z_r 4 q1), (0, z_r 11 (some n0)), (1, z_i x1), (2, z_i x2)]) dX11_same_23 (by decide) rfl ?_
      refine x_iconst (v := (0 : Int32)) dX11_same_25 (by decide) ?_
      refine x_istore (lo' := [(5, z_i (0 : Int32)), (4, z_i (0 : Int32)), (3, z_r 4 q1), (0, z_r 11 (some n0)), (1, z_i x1), (2, z_i x2)]) dX11_same_26 (by decide) rfl ?_
      refine z_bnd h (fun t7 ht7 h => ?_)
      refine x_lo [3, 5, 2, 1, 0] rfl ?_
      refine l_X11_same_28 ht7 ?_
      refine x_iload 0 dX11_same_61 rfl ?_
      exact x_iret rfl dX11_same_63 h
    · refine x_bipush (v := (-2 : Int32)) dX11_same_19 (by decide) ?_
      exact x_iret rfl dX11_same_21 h
  · refine x_iconst (v := (-1 : Int32)) dX11_same_10 (by decide) ?_
    exact x_iret rfl dX11_same_11 h
-- java/lang/Long bitCount (J)I
abbrev Y_J13_bitCount_95d88 : ZM := (yJ13_bitCount_95d88, cJ13_bitCount_95d88, 2, (some .int), 0, 0)
theorem cw_J13_bitCount_95d88 : z_CS Y_J13_bitCount_95d88 1 := ⟨q_562, q_563, q_82, ⟨by decide, by decide⟩, rfl⟩
def f_J13_bitCount_95d88 (x0 : Int64) (S : ZH) : Option (Int32) :=
  some (((((((((x0 - (((x0).toUInt64 >>> (((1 : Int32)).toInt64.toUInt64 &&& Int64.toUInt64 63)).toInt64 &&& (6148914691236517205 : Int64))) &&& (3689348814741910323 : Int64)) + ((((x0 - (((x0).toUInt64 >>> (((1 : Int32)).toInt64.toUInt64 &&& Int64.toUInt64 63)).toInt64 &&& (6148914691236517205 : Int64)))).toUInt64 >>> (((2 : Int32)).toInt64.toUInt64 &&& Int64.toUInt64 63)).toInt64 &&& (3689348814741910323 : Int64))) + (((((x0 - (((x0).toUInt64 >>> (((1 : Int32)).toInt64.toUInt64 &&& Int64.toUInt64 63)).toInt64 &&& (6148914691236517205 : Int64))) &&& (3689348814741910323 : Int64)) + ((((x0 - (((x0).toUInt64 >>> (((1 : Int32)).toInt64.toUInt64 &&& Int64.toUInt64 63)).toInt64 &&& (6148914691236517205 : Int64)))).toUInt64 >>> (((2 : Int32)).toInt64.toUInt64 &&& Int64.toUInt64 63)).toInt64 &&& (3689348814741910323 : Int64)))).toUInt64 >>> (((4 : Int32)).toInt64.toUInt64 &&& Int64.toUInt64 63)).toInt64) &&& (1085102592571150095 : Int64)) + (((((((x0 - (((x0).toUInt64 >>> (((1 : Int32)).toInt64.toUInt64 &&& Int64.toUInt64 63)).toInt64 &&& (6148914691236517205 : Int64))) &&& (3689348814741910323 : Int64)) + ((((x0 - (((x0).toUInt64 >>> (((1 : Int32)).toInt64.toUInt64 &&& Int64.toUInt64 63)).toInt64 &&& (6148914691236517205 : Int64)))).toUInt64 >>> (((2 : Int32)).toInt64.toUInt64 &&& Int64.toUInt64 63)).toInt64 &&& (3689348814741910323 : Int64))) + (((((x0 - (((x0).toUInt64 >>> (((1 : Int32)).toInt64.toUInt64 &&& Int64.toUInt64 63)).toInt64 &&& (6148914691236517205 : Int64))) &&& (3689348814741910323 : Int64)) + ((((x0 - (((x0).toUInt64 >>> (((1 : Int32)).toInt64.toUInt64 &&& Int64.toUInt64 63)).toInt64 &&& (6148914691236517205 : Int64)))).toUInt64 >>> (((2 : Int32)).toInt64.toUInt64 &&& Int64.toUInt64 63)).toInt64 &&& (3689348814741910323 : Int64)))).toUInt64 >>> (((4 : Int32)).toInt64.toUInt64 &&& Int64.toUInt64 63)).toInt64) &&& (1085102592571150095 : Int64))).toUInt64 >>> (((8 : Int32)).toInt64.toUInt64 &&& Int64.toUInt64 63)).toInt64) + ((((((((x0 - (((x0).toUInt64 >>> (((1 : Int32)).toInt64.toUInt64 &&& Int64.toUInt64 63)).toInt64 &&& (6148914691236517205 : Int64))) &&& (3689348814741910323 : Int64)) + ((((x0 - (((x0).toUInt64 >>> (((1 : Int32)).toInt64.toUInt64 &&& Int64.toUInt64 63)).toInt64 &&& (6148914691236517205 : Int64)))).toUInt64 >>> (((2 : Int32)).toInt64.toUInt64 &&& Int64.toUInt64 63)).toInt64 &&& (3689348814741910323 : Int64))) + (((((x0 - (((x0).toUInt64 >>> (((1 : Int32)).toInt64.toUInt64 &&& Int64.toUInt64 63)).toInt64 &&& (6148914691236517205 : Int64))) &&& (3689348814741910323 : Int64)) + ((((x0 - (((x0).toUInt64 >>> (((1 : Int32)).toInt64.toUInt64 &&& Int64.toUInt64 63)).toInt64 &&& (6148914691236517205 : Int64)))).toUInt64 >>> (((2 : Int32)).toInt64.toUInt64 &&& Int64.toUInt64 63)).toInt64 &&& (3689348814741910323 : Int64)))).toUInt64 >>> (((4 : Int32)).toInt64.toUInt64 &&& Int64.toUInt64 63)).toInt64) &&& (1085102592571150095 : Int64)) + (((((((x0 - (((x0).toUInt64 >>> (((1 : Int32)).toInt64.toUInt64 &&& Int64.toUInt64 63)).toInt64 &&& (6148914691236517205 : Int64))) &&& (3689348814741910323 : Int64)) + ((((x0 - (((x0).toUInt64 >>> (((1 : Int32)).toInt64.toUInt64 &&& Int64.toUInt64 63)).toInt64 &&& (6148914691236517205 : Int64)))).toUInt64 >>> (((2 : Int32)).toInt64.toUInt64 &&& Int64.toUInt64 63)).toInt64 &&& (3689348814741910323 : Int64))) + (((((x0 - (((x0).toUInt64 >>> (((1 : Int32)).toInt64.toUInt64 &&& Int64.toUInt64 63)).toInt64 &&& (6148914691236517205 : Int64))) &&& (3689348814741910323 : Int64)) + ((((x0 - (((x0).toUInt64 >>> (((1 : Int32)).toInt64.toUInt64 &&& Int64.toUInt64 63)).toInt64 &&& (6148914691236517205 : Int64)))).toUInt64 >>> (((2 : Int32)).toInt64.toUInt64 &&& Int64.toUInt64 63)).toInt64 &&& (3689348814741910323 : Int64)))).toUInt64 >>> (((4 : Int32)).toInt64.toUInt64 &&& Int64.toUInt64 63)).toInt64) &&& (1085102592571150095 : Int64))).toUInt64 >>> (((8 : Int32)).toInt64.toUInt64 &&& Int64.toUInt64 63)).toInt64)).toUInt64 >>> (((16 : Int32)).toInt64.toUInt64 &&& Int64.toUInt64 63)).toInt64) + (((((((((x0 - (((x0).toUInt64 >>> (((1 : Int32)).toInt64.toUInt64 &&& Int64.toUInt64 63)).toInt64 &&& (6148914691236517205 : Int64))) &&& (3689348814741910323 : Int64)) + ((((x0 - (((x0).toUInt64 >>> (((1 : Int32)).toInt64.toUInt64 &&& Int64.toUInt64 63)).toInt64 &&& (6148914691236517205 : Int64)))).toUInt64 >>> (((2 : Int32)).toInt64.toUInt64 &&& Int64.toUInt64 63)).toInt64 &&& (3689348814741910323 : Int64))) + (((((x0 - (((x0).toUInt64 >>> (((1 : Int32)).toInt64.toUInt64 &&& Int64.toUInt64 63)).toInt64 &&& (6148914691236517205 : Int64))) &&& (3689348814741910323 : Int64)) + ((((x0 - (((x0).toUInt64 >>> (((1 : Int32)).toInt64.toUInt64 &&& Int64.toUInt64 63)).toInt64 &&& (6148914691236517205 : Int64)))).toUInt64 >>> (((2 : Int32)).toInt64.toUInt64 &&& Int64.toUInt64 63)).toInt64 &&& (3689348814741910323 : Int64)))).toUInt64 >>> (((4 : Int32)).toInt64.toUInt64 &&& Int64.toUInt64 63)).toInt64) &&& (1085102592571150095 : Int64)) + (((((((x0 - (((x0).toUInt64 >>> (((1 : Int32)).toInt64.toUInt64 &&& Int64.toUInt64 63)).toInt64 &&& (6148914691236517205 : Int64))) &&& (3689348814741910323 : Int64)) + ((((x0 - (((x0).toUInt64 >>> (((1 : Int32)).toInt64.toUInt64 &&& Int64.toUInt64 63)).toInt64 &&& (6148914691236517205 : Int64)))).toUInt64 >>> (((2 : Int32)).toInt64.toUInt64 &&& Int64.toUInt64 63)).toInt64 &&& (3689348814741910323 : Int64))) + (((((x0 - (((x0).toUInt64 >>> (((1 : Int32)).toInt64.toUInt64 &&& Int64.toUInt64 63)).toInt64 &&& (6148914691236517205 : Int64))) &&& (3689348814741910323 : Int64)) + ((((x0 - (((x0).toUInt64 >>> (((1 : Int32)).toInt64.toUInt64 &&& Int64.toUInt64 63)).toInt64 &&& (6148914691236517205 : Int64)))).toUInt64 >>> (((2 : Int32)).toInt64.toUInt64 &&& Int64.toUInt64 63)).toInt64 &&& (3689348814741910323 : Int64)))).toUInt64 >>> (((4 : Int32)).toInt64.toUInt64 &&& Int64.toUInt64 63)).toInt64) &&& (1085102592571150095 : Int64))).toUInt64 >>> (((8 : Int32)).toInt64.toUInt64 &&& Int64.toUInt64 63)).toInt64) + ((((((((x0 - (((x0).toUInt64 >>> (((1 : Int32)).toInt64.toUInt64 &&& Int64.toUInt64 63)).toInt64 &&& (6148914691236517205 : Int64))) &&& (3689348814741910323 : Int64)) + ((((x0 - (((x0).toUInt64 >>> (((1 : Int32)).toInt64.toUInt64 &&& Int64.toUInt64 63)).toInt64 &&& (6148914691236517205 : Int64)))).toUInt64 >>> (((2 : Int32)).toInt64.toUInt64 &&& Int64.toUInt64 63)).toInt64 &&& (3689348814741910323 : Int64))) + (((((x0 - (((x0).toUInt64 >>> (((1 : Int32)).toInt64.toUInt64 &&& Int64.toUInt64 63)).toInt64 &&& (6148914691236517205 : Int64))) &&& (3689348814741910323 : Int64)) + ((((x0 - (((x0).toUInt64 >>> (((1 : Int32)).toInt64.toUInt64 &&& Int64.toUInt64 63)).toInt64 &&& (6148914691236517205 : Int64)))).toUInt64 >>> (((2 : Int32)).toInt64.toUInt64 &&& Int64.toUInt64 63)).toInt64 &&& (3689348814741910323 : Int64)))).toUInt64 >>> (((4 : Int32)).toInt64.toUInt64 &&& Int64.toUInt64 63)).toInt64) &&& (1085102592571150095 : Int64)) + (((((((x0 - (((x0).toUInt64 >>> (((1 : Int32)).toInt64.toUInt64 &&& Int64.toUInt64 63)).toInt64 &&& (6148914691236517205 : Int64))) &&& (3689348814741910323 : Int64)) + ((((x0 - (((x0).toUInt64 >>> (((1 : Int32)).toInt64.toUInt64 &&& Int64.toUInt64 63)).toInt64 &&& (6148914691236517205 : Int64)))).toUInt64 >>> (((2 : Int32)).toInt64.toUInt64 &&& Int64.toUInt64 63)).toInt64 &&& (3689348814741910323 : Int64))) + (((((x0 - (((x0).toUInt64 >>> (((1 : Int32)).toInt64.toUInt64 &&& Int64.toUInt64 63)).toInt64 &&& (6148914691236517205 : Int64))) &&& (3689348814741910323 : Int64)) + ((((x0 - (((x0).toUInt64 >>> (((1 : Int32)).toInt64.toUInt64 &&& Int64.toUInt64 63)).toInt64 &&& (6148914691236517205 : Int64)))).toUInt64 >>> (((2 : Int32)).toInt64.toUInt64 &&& Int64.toUInt64 63)).toInt64 &&& (3689348814741910323 : Int64)))).toUInt64 >>> (((4 : Int32)).toInt64.toUInt64 &&& Int64.toUInt64 63)).toInt64) &&& (1085102592571150095 : Int64))).toUInt64 >>> (((8 : Int32)).toInt64.toUInt64 &&& Int64.toUInt64 63)).toInt64)).toUInt64 >>> (((16 : Int32)).toInt64.toUInt64 &&& Int64.toUInt64 63)).toInt64)).toUInt64 >>> (((32 : Int32)).toInt64.toUInt64 &&& Int64.toUInt64 63)).toInt64).toInt32 &&& (127 : Int32))
set_option maxRecDepth 20000 in
set_option maxHeartbeats 1000000 in
theorem w_J13_bitCount_95d88 {x0 : Int64} {S : ZH} {q : Int32} (h : f_J13_bitCount_95d88 x0 S = some q) : MetX Y_J13_bitCount_95d88 S [z_l x0] (some (z_i q)) S := by
  refine MetX.ofF (lo := [(0, z_l x0)]) rfl (by decide +kernel) (Nat.le_of_ble_eq_true rfl) ?_
  unfold f_J13_bitCount_95d88 at h
  refine x_lload_n 0 dJ13_bitCount_95d88_0 rfl rfl ?_
  refine x_lload_n 0 dJ13_bitCount_95d88_1 rfl rfl ?_
  refine x_iconst (v := (1 : Int32)) dJ13_bitCount_95d88_2 (by decide) ?_
  refine x_lushr dJ13_bitCount_95d88_3 ?_
  refine x_ldc2 dJ13_bitCount_95d88_4 q_564.1 ?_
  refine x_land dJ13_bitCount_95d88_7 ?_
  refine x_lsub dJ13_bitCount_95d88_8 ?_
  refine x_lstore_n (lo' := [(0, z_l (x0 - (((x0).toUInt64 >>> (((1 : Int32)).toInt64.toUInt64 &&& Int64.toUInt64 63)).toInt64 &&& (6148914691236517205 : Int64))))]) dJ13_bitCount_95d88_9 rfl (by decide) rfl ?_
  refine x_lload_n 0 dJ13_bitCount_95d88_10 rfl rfl ?_
  refine x_ldc2 dJ13_bitCount_95d88_11 q_565.1 ?_
  refine x_land dJ13_bitCount_95d88_14 ?_
  refine x_lload_n 0 dJ13_bitCount_95d88_15 rfl rfl ?_
  refine x_iconst (v := (2 : Int32)) dJ13_bitCount_95d88_16 (by decide) ?_
  refine x_lushr dJ13_bitCount_95d88_17 ?_
  refine x_ldc2 dJ13_bitCount_95d88_18 q_565.1 ?_
  refine x_land dJ13_bitCount_95d88_21 ?_
  refine x_ladd dJ13_bitCount_95d88_22 ?_
  refine x_lstore_n (lo' := [(0, z_l (((x0 - (((x0).toUInt64 >>> (((1 : Int32)).toInt64.toUInt64 &&& Int64.toUInt64 63)).toInt64 &&& (6148914691236517205 : Int64))) &&& (3689348814741910323 : Int64)) + ((((x0 - (((x0).toUInt64 >>> (((1 : Int32)).toInt64.toUInt64 &&& Int64.toUInt64 63)).toInt64 &&& (6148914691236517205 : Int64)))).toUInt64 >>> (((2 : Int32)).toInt64.toUInt64 &&& Int64.toUInt64 63)).toInt64 &&& (3689348814741910323 : Int64))))]) dJ13_bitCount_95d88_23 rfl (by decide) rfl ?_
  refine x_lload_n 0 dJ13_bitCount_95d88_24 rfl rfl ?_
  refine x_lload_n 0 dJ13_bitCount_95d88_25 rfl rfl ?_
  refine x_iconst (v := (4 : Int32)) dJ13_bitCount_95d88_26 (by decide) ?_
  refine x_lushr dJ13_bitCount_95d88_27 ?_
  refine x_ladd dJ13_bitCount_95d88_28 ?_
  refine x_ldc2 dJ13_bitCount_95d88_29 q_566.1 ?_
  refine x_land dJ13_bitCount_95d88_32 ?_
  refine x_lstore_n (lo' := [(0, z_l (((((x0 - (((x0).toUInt64 >>> (((1 : Int32)).toInt64.toUInt64 &&& Int64.toUInt64 63)).toInt64 &&& (6148914691236517205 : Int64))) &&& (3689348814741910323 : Int64)) + ((((x0 - (((x0).toUInt64 >>> (((1 : Int32)).toInt64.toUInt64 &&& Int64.toUInt64 63)).toInt64 &&& (6148914691236517205 : Int64)))).toUInt64 >>> (((2 : Int32)).toInt64.toUInt64 &&& Int64.toUInt64 63)).toInt64 &&& (3689348814741910323 : Int64))) + (((((x0 - (((x0).toUInt64 >>> (((1 : Int32)).toInt64.toUInt64 &&& Int64.toUInt64 63)).toInt64 &&& (6148914691236517205 : Int64))) &&& (3689348814741910323 : Int64)) + ((((x0 - (((x0).toUInt64 >>> (((1 : Int32)).toInt64.toUInt64 &&& Int64.toUInt64 63)).toInt64 &&& (6148914691236517205 : Int64)))).toUInt64 >>> (((2 : Int32)).toInt64.toUInt64 &&& Int64.toUInt64 63)).toInt64 &&& (3689348814741910323 : Int64)))).toUInt64 >>> (((4 : Int32)).toInt64.toUInt64 &&& Int64.toUInt64 63)).toInt64) &&& (1085102592571150095 : Int64)))]) dJ13_bitCount_95d88_33 rfl (by decide) rfl ?_
  refine x_lload_n 0 dJ13_bitCount_95d88_34 rfl rfl ?_
  refine x_lload_n 0 dJ13_bitCount_95d88_35 rfl rfl ?_
  refine x_bipush (v := (8 : Int32)) dJ13_bitCount_95d88_36 (by decide) ?_
  refine x_lushr dJ13_bitCount_95d88_38 ?_
  refine x_ladd dJ13_bitCount_95d88_39 ?_
  refine x_lstore_n (lo' := [(0, z_l ((((((x0 - (((x0).toUInt64 >>> (((1 : Int32)).toInt64.toUInt64 &&& Int64.toUInt64 63)).toInt64 &&& (6148914691236517205 : Int64))) &&& (3689348814741910323 : Int64)) + ((((x0 - (((x0).toUInt64 >>> (((1 : Int32)).toInt64.toUInt64 &&& Int64.toUInt64 63)).toInt64 &&& (6148914691236517205 : Int64)))).toUInt64 >>> (((2 : Int32)).toInt64.toUInt64 &&& Int64.toUInt64 63)).toInt64 &&& (3689348814741910323 : Int64))) + (((((x0 - (((x0).toUInt64 >>> (((1 : Int32)).toInt64.toUInt64 &&& Int64.toUInt64 63)).toInt64 &&& (6148914691236517205 : Int64))) &&& (3689348814741910323 : Int64)) + ((((x0 - (((x0).toUInt64 >>> (((1 : Int32)).toInt64.toUInt64 &&& Int64.toUInt64 63)).toInt64 &&& (6148914691236517205 : Int64)))).toUInt64 >>> (((2 : Int32)).toInt64.toUInt64 &&& Int64.toUInt64 63)).toInt64 &&& (3689348814741910323 : Int64)))).toUInt64 >>> (((4 : Int32)).toInt64.toUInt64 &&& Int64.toUInt64 63)).toInt64) &&& (1085102592571150095 : Int64)) + (((((((x0 - (((x0).toUInt64 >>> (((1 : Int32)).toInt64.toUInt64 &&& Int64.toUInt64 63)).toInt64 &&& (6148914691236517205 : Int64))) &&& (3689348814741910323 : Int64)) + ((((x0 - (((x0).toUInt64 >>> (((1 : Int32)).toInt64.toUInt64 &&& Int64.toUInt64 63)).toInt64 &&& (6148914691236517205 : Int64)))).toUInt64 >>> (((2 : Int32)).toInt64.toUInt64 &&& Int64.toUInt64 63)).toInt64 &&& (3689348814741910323 : Int64))) + (((((x0 - (((x0).toUInt64 >>> (((1 : Int32)).toInt64.toUInt64 &&& Int64.toUInt64 63)).toInt64 &&& (6148914691236517205 : Int64))) &&& (3689348814741910323 : Int64)) + ((((x0 - (((x0).toUInt64 >>> (((1 : Int32)).toInt64.toUInt64 &&& Int64.toUInt64 63)).toInt64 &&& (6148914691236517205 : Int64)))).toUInt64 >>> (((2 : Int32)).toInt64.toUInt64 &&& Int64.toUInt64 63)).toInt64 &&& (3689348814741910323 : Int64)))).toUInt64 >>> (((4 : Int32)).toInt64.toUInt64 &&& Int64.toUInt64 63)).toInt64) &&& (1085102592571150095 : Int64))).toUInt64 >>> (((8 : Int32)).toInt64.toUInt64 &&& Int64.toUInt64 63)).toInt64))]) dJ13_bitCount_95d88_40 rfl (by decide) rfl ?_
  refine x_lload_n 0 dJ13_bitCount_95d88_41 rfl rfl ?_
  refine x_lload_n 0 dJ13_bitCount_95d88_42 rfl rfl ?_
  refine x_bipush (v := (16 : Int32)) dJ13_bitCount_95d88_43 (by decide) ?_
  refine x_lushr dJ13_bitCount_95d88_45 ?_
  refine x_ladd dJ13_bitCount_95d88_46 ?_
  refine x_lstore_n (lo' := [(0, z_l (((((((x0 - (((x0).toUInt64 >>> (((1 : Int32)).toInt64.toUInt64 &&& Int64.toUInt64 63)).toInt64 &&& (6148914691236517205 : Int64))) &&& (3689348814741910323 : Int64)) + ((((x0 - (((x0).toUInt64 >>> (((1 : Int32)).toInt64.toUInt64 &&& Int64.toUInt64 63)).toInt64 &&& (6148914691236517205 : Int64)))).toUInt64 >>> (((2 : Int32)).toInt64.toUInt64 &&& Int64.toUInt64 63)).toInt64 &&& (3689348814741910323 : Int64))) + (((((x0 - (((x0).toUInt64 >>> (((1 : Int32)).toInt64.toUInt64 &&& Int64.toUInt64 63)).toInt64 &&& (6148914691236517205 : Int64))) &&& (3689348814741910323 : Int64)) + ((((x0 - (((x0).toUInt64 >>> (((1 : Int32)).toInt64.toUInt64 &&& Int64.toUInt64 63)).toInt64 &&& (6148914691236517205 : Int64)))).toUInt64 >>> (((2 : Int32)).toInt64.toUInt64 &&& Int64.toUInt64 63)).toInt64 &&& (3689348814741910323 : Int64)))).toUInt64 >>> (((4 : Int32)).toInt64.toUInt64 &&& Int64.toUInt64 63)).toInt64) &&& (1085102592571150095 : Int64)) + (((((((x0 - (((x0).toUInt64 >>> (((1 : Int32)).toInt64.toUInt64 &&& Int64.toUInt64 63)).toInt64 &&& (6148914691236517205 : Int64))) &&& (3689348814741910323 : Int64)) + ((((x0 - (((x0).toUInt64 >>> (((1 : Int32)).toInt64.toUInt64 &&& Int64.toUInt64 63)).toInt64 &&& (6148914691236517205 : Int64)))).toUInt64 >>> (((2 : Int32)).toInt64.toUInt64 &&& Int64.toUInt64 63)).toInt64 &&& (3689348814741910323 : Int64))) + (((((x0 - (((x0).toUInt64 >>> (((1 : Int32)).toInt64.toUInt64 &&& Int64.toUInt64 63)).toInt64 &&& (6148914691236517205 : Int64))) &&& (3689348814741910323 : Int64)) + ((((x0 - (((x0).toUInt64 >>> (((1 : Int32)).toInt64.toUInt64 &&& Int64.toUInt64 63)).toInt64 &&& (6148914691236517205 : Int64)))).toUInt64 >>> (((2 : Int32)).toInt64.toUInt64 &&& Int64.toUInt64 63)).toInt64 &&& (3689348814741910323 : Int64)))).toUInt64 >>> (((4 : Int32)).toInt64.toUInt64 &&& Int64.toUInt64 63)).toInt64) &&& (1085102592571150095 : Int64))).toUInt64 >>> (((8 : Int32)).toInt64.toUInt64 &&& Int64.toUInt64 63)).toInt64) + ((((((((x0 - (((x0).toUInt64 >>> (((1 : Int32)).toInt64.toUInt64 &&& Int64.toUInt64 63)).toInt64 &&& (6148914691236517205 : Int64))) &&& (3689348814741910323 : Int64)) + ((((x0 - (((x0).toUInt64 >>> (((1 : Int32)).toInt64.toUInt64 &&& Int64.toUInt64 63)).toInt64 &&& (6148914691236517205 : Int64)))).toUInt64 >>> (((2 : Int32)).toInt64.toUInt64 &&& Int64.toUInt64 63)).toInt64 &&& (3689348814741910323 : Int64))) + (((((x0 - (((x0).toUInt64 >>> (((1 : Int32)).toInt64.toUInt64 &&& Int64.toUInt64 63)).toInt64 &&& (6148914691236517205 : Int64))) &&& (3689348814741910323 : Int64)) + ((((x0 - (((x0).toUInt64 >>> (((1 : Int32)).toInt64.toUInt64 &&& Int64.toUInt64 63)).toInt64 &&& (6148914691236517205 : Int64)))).toUInt64 >>> (((2 : Int32)).toInt64.toUInt64 &&& Int64.toUInt64 63)).toInt64 &&& (3689348814741910323 : Int64)))).toUInt64 >>> (((4 : Int32)).toInt64.toUInt64 &&& Int64.toUInt64 63)).toInt64) &&& (1085102592571150095 : Int64)) + (((((((x0 - (((x0).toUInt64 >>> (((1 : Int32)).toInt64.toUInt64 &&& Int64.toUInt64 63)).toInt64 &&& (6148914691236517205 : Int64))) &&& (3689348814741910323 : Int64)) + ((((x0 - (((x0).toUInt64 >>> (((1 : Int32)).toInt64.toUInt64 &&& Int64.toUInt64 63)).toInt64 &&& (6148914691236517205 : Int64)))).toUInt64 >>> (((2 : Int32)).toInt64.toUInt64 &&& Int64.toUInt64 63)).toInt64 &&& (3689348814741910323 : Int64))) + (((((x0 - (((x0).toUInt64 >>> (((1 : Int32)).toInt64.toUInt64 &&& Int64.toUInt64 63)).toInt64 &&& (6148914691236517205 : Int64))) &&& (3689348814741910323 : Int64)) + ((((x0 - (((x0).toUInt64 >>> (((1 : Int32)).toInt64.toUInt64 &&& Int64.toUInt64 63)).toInt64 &&& (6148914691236517205 : Int64)))).toUInt64 >>> (((2 : Int32)).toInt64.toUInt64 &&& Int64.toUInt64 63)).toInt64 &&& (3689348814741910323 : Int64)))).toUInt64 >>> (((4 : Int32)).toInt64.toUInt64 &&& Int64.toUInt64 63)).toInt64) &&& (1085102592571150095 : Int64))).toUInt64 >>> (((8 : Int32)).toInt64.toUInt64 &&& Int64.toUInt64 63)).toInt64)).toUInt64 >>> (((16 : Int32)).toInt64.toUInt64 &&& Int64.toUInt64 63)).toInt64))]) dJ13_bitCount_95d88_47 rfl (by decide) rfl ?_
  refine x_lload_n 0 dJ13_bitCount_95d88_48 rfl rfl ?_
  refine x_lload_n 0 dJ13_bitCount_95d88_49 rfl rfl ?_
  refine x_bipush (v := (32 : Int32)) dJ13_bitCount_95d88_50 (by decide) ?_
  refine x_lushr dJ13_bitCount_95d88_52 ?_
  refine x_ladd dJ13_bitCount_95d88_53 ?_
  refine x_lstore_n (lo' := [(0, z_l ((((((((x0 - (((x0).toUInt64 >>> (((1 : Int32)).toInt64.toUInt64 &&& Int64.toUInt64 63)).toInt64 &&& (6148914691236517205 : Int64))) &&& (3689348814741910323 : Int64)) + ((((x0 - (((x0).toUInt64 >>> (((1 : Int32)).toInt64.toUInt64 &&& Int64.toUInt64 63)).toInt64 &&& (6148914691236517205 : Int64)))).toUInt64 >>> (((2 : Int32)).toInt64.toUInt64 &&& Int64.toUInt64 63)).toInt64 &&& (3689348814741910323 : Int64))) + (((((x0 - (((x0).toUInt64 >>> (((1 : Int32)).toInt64.toUInt64 &&& Int64.toUInt64 63)).toInt64 &&& (6148914691236517205 : Int64))) &&& (3689348814741910323 : Int64)) + ((((x0 - (((x0).toUInt64 >>> (((1 : Int32)).toInt64.toUInt64 &&& Int64.toUInt64 63)).toInt64 &&& (6148914691236517205 : Int64)))).toUInt64 >>> (((2 : Int32)).toInt64.toUInt64 &&& Int64.toUInt64 63)).toInt64 &&& (3689348814741910323 : Int64)))).toUInt64 >>> (((4 : Int32)).toInt64.toUInt64 &&& Int64.toUInt64 63)).toInt64) &&& (1085102592571150095 : Int64)) + (((((((x0 - (((x0).toUInt64 >>> (((1 : Int32)).toInt64.toUInt64 &&& Int64.toUInt64 63)).toInt64 &&& (6148914691236517205 : Int64))) &&& (3689348814741910323 : Int64)) + ((((x0 - (((x0).toUInt64 >>> (((1 : Int32)).toInt64.toUInt64 &&& Int64.toUInt64 63)).toInt64 &&& (6148914691236517205 : Int64)))).toUInt64 >>> (((2 : Int32)).toInt64.toUInt64 &&& Int64.toUInt64 63)).toInt64 &&& (3689348814741910323 : Int64))) + (((((x0 - (((x0).toUInt64 >>> (((1 : Int32)).toInt64.toUInt64 &&& Int64.toUInt64 63)).toInt64 &&& (6148914691236517205 : Int64))) &&& (3689348814741910323 : Int64)) + ((((x0 - (((x0).toUInt64 >>> (((1 : Int32)).toInt64.toUInt64 &&& Int64.toUInt64 63)).toInt64 &&& (6148914691236517205 : Int64)))).toUInt64 >>> (((2 : Int32)).toInt64.toUInt64 &&& Int64.toUInt64 63)).toInt64 &&& (3689348814741910323 : Int64)))).toUInt64 >>> (((4 : Int32)).toInt64.toUInt64 &&& Int64.toUInt64 63)).toInt64) &&& (1085102592571150095 : Int64))).toUInt64 >>> (((8 : Int32)).toInt64.toUInt64 &&& Int64.toUInt64 63)).toInt64) + ((((((((x0 - (((x0).toUInt64 >>> (((1 : Int32)).toInt64.toUInt64 &&& Int64.toUInt64 63)).toInt64 &&& (6148914691236517205 : Int64))) &&& (3689348814741910323 : Int64)) + ((((x0 - (((x0).toUInt64 >>> (((1 : Int32)).toInt64.toUInt64 &&& Int64.toUInt64 63)).toInt64 &&& (6148914691236517205 : Int64)))).toUInt64 >>> (((2 : Int32)).toInt64.toUInt64 &&& Int64.toUInt64 63)).toInt64 &&& (3689348814741910323 : Int64))) + (((((x0 - (((x0).toUInt64 >>> (((1 : Int32)).toInt64.toUInt64 &&& Int64.toUInt64 63)).toInt64 &&& (6148914691236517205 : Int64))) &&& (3689348814741910323 : Int64)) + ((((x0 - (((x0).toUInt64 >>> (((1 : Int32)).toInt64.toUInt64 &&& Int64.toUInt64 63)).toInt64 &&& (6148914691236517205 : Int64)))).toUInt64 >>> (((2 : Int32)).toInt64.toUInt64 &&& Int64.toUInt64 63)).toInt64 &&& (3689348814741910323 : Int64)))).toUInt64 >>> (((4 : Int32)).toInt64.toUInt64 &&& Int64.toUInt64 63)).toInt64) &&& (1085102592571150095 : Int64)) + (((((((x0 - (((x0).toUInt64 >>> (((1 : Int32)).toInt64.toUInt64 &&& Int64.toUInt64 63)).toInt64 &&& (6148914691236517205 : Int64))) &&& (3689348814741910323 : Int64)) + ((((x0 - (((x0).toUInt64 >>> (((1 : Int32)).toInt64.toUInt64 &&& Int64.toUInt64 63)).toInt64 &&& (6148914691236517205 : Int64)))).toUInt64 >>> (((2 : Int32)).toInt64.toUInt64 &&& Int64.toUInt64 63)).toInt64 &&& (3689348814741910323 : Int64))) + (((((x0 - (((x0).toUInt64 >>> (((1 : Int32)).toInt64.toUInt64 &&& Int64.toUInt64 63)).toInt64 &&& (6148914691236517205 : Int64))) &&& (3689348814741910323 : Int64)) + ((((x0 - (((x0).toUInt64 >>> (((1 : Int32)).toInt64.toUInt64 &&& Int64.toUInt64 63)).toInt64 &&& (6148914691236517205 : Int64)))).toUInt64 >>> (((2 : Int32)).toInt64.toUInt64 &&& Int64.toUInt64 63)).toInt64 &&& (3689348814741910323 : Int64)))).toUInt64 >>> (((4 : Int32)).toInt64.toUInt64 &&& Int64.toUInt64 63)).toInt64) &&& (1085102592571150095 : Int64))).toUInt64 >>> (((8 : Int32)).toInt64.toUInt64 &&& Int64.toUInt64 63)).toInt64)).toUInt64 >>> (((16 : Int32)).toInt64.toUInt64 &&& Int64.toUInt64 63)).toInt64) + (((((((((x0 - (((x0).toUInt64 >>> (((1 : Int32)).toInt64.toUInt64 &&& Int64.toUInt64 63)).toInt64 &&& (6148914691236517205 : Int64))) &&& (3689348814741910323 : Int64)) + ((((x0 - (((x0).toUInt64 >>> (((1 : Int32)).toInt64.toUInt64 &&& Int64.toUInt64 63)).toInt64 &&& (6148914691236517205 : Int64)))).toUInt64 >>> (((2 : Int32)).toInt64.toUInt64 &&& Int64.toUInt64 63)).toInt64 &&& (3689348814741910323 : Int64))) + (((((x0 - (((x0).toUInt64 >>> (((1 : Int32)).toInt64.toUInt64 &&& Int64.toUInt64 63)).toInt64 &&& (6148914691236517205 : Int64))) &&& (3689348814741910323 : Int64)) + ((((x0 - (((x0).toUInt64 >>> (((1 : Int32)).toInt64.toUInt64 &&& Int64.toUInt64 63)).toInt64 &&& (6148914691236517205 : Int64)))).toUInt64 >>> (((2 : Int32)).toInt64.toUInt64 &&& Int64.toUInt64 63)).toInt64 &&& (3689348814741910323 : Int64)))).toUInt64 >>> (((4 : Int32)).toInt64.toUInt64 &&& Int64.toUInt64 63)).toInt64) &&& (1085102592571150095 : Int64)) + (((((((x0 - (((x0).toUInt64 >>> (((1 : Int32)).toInt64.toUInt64 &&& Int64.toUInt64 63)).toInt64 &&& (6148914691236517205 : Int64))) &&& (3689348814741910323 : Int64)) + ((((x0 - (((x0).toUInt64 >>> (((1 : Int32)).toInt64.toUInt64 &&& Int64.toUInt64 63)).toInt64 &&& (6148914691236517205 : Int64)))).toUInt64 >>> (((2 : Int32)).toInt64.toUInt64 &&& Int64.toUInt64 63)).toInt64 &&& (3689348814741910323 : Int64))) + (((((x0 - (((x0).toUInt64 >>> (((1 : Int32)).toInt64.toUInt64 &&& Int64.toUInt64 63)).toInt64 &&& (6148914691236517205 : Int64))) &&& (3689348814741910323 : Int64)) + ((((x0 - (((x0).toUInt64 >>> (((1 : Int32)).toInt64.toUInt64 &&& Int64.toUInt64 63)).toInt64 &&& (6148914691236517205 : Int64)))).toUInt64 >>> (((2 : Int32)).toInt64.toUInt64 &&& Int64.toUInt64 63)).toInt64 &&& (3689348814741910323 : Int64)))).toUInt64 >>> (((4 : Int32)).toInt64.toUInt64 &&& Int64.toUInt64 63)).toInt64) &&& (1085102592571150095 : Int64))).toUInt64 >>> (((8 : Int32)).toInt64.toUInt64 &&& Int64.toUInt64 63)).toInt64) + ((((((((x0 - (((x0).toUInt64 >>> (((1 : Int32)).toInt64.toUInt64 &&& Int64.toUInt64 63)).toInt64 &&& (6148914691236517205 : Int64))) &&& (3689348814741910323 : Int64)) + ((((x0 - (((x0).toUInt64 >>> (((1 : Int32)).toInt64.toUInt64 &&& Int64.toUInt64 63)).toInt64 &&& (6148914691236517205 : Int64)))).toUInt64 >>> (((2 : Int32)).toInt64.toUInt64 &&& Int64.toUInt64 63)).toInt64 &&& (3689348814741910323 : Int64))) + (((((x0 - (((x0).toUInt64 >>> (((1 : Int32)).toInt64.toUInt64 &&& Int64.toUInt64 63)).toInt64 &&& (6148914691236517205 : Int64))) &&& (3689348814741910323 : Int64)) + ((((x0 - (((x0).toUInt64 >>> (((1 : Int32)).toInt64.toUInt64 &&& Int64.toUInt64 63)).toInt64 &&& (6148914691236517205 : Int64)))).toUInt64 >>> (((2 : Int32)).toInt64.toUInt64 &&& Int64.toUInt64 63)).toInt64 &&& (3689348814741910323 : Int64)))).toUInt64 >>> (((4 : Int32)).toInt64.toUInt64 &&& Int64.toUInt64 63)).toInt64) &&& (1085102592571150095 : Int64)) + (((((((x0 - (((x0).toUInt64 >>> (((1 : Int32)).toInt64.toUInt64 &&& Int64.toUInt64 63)).toInt64 &&& (6148914691236517205 : Int64))) &&& (3689348814741910323 : Int64)) + ((((x0 - (((x0).toUInt64 >>> (((1 : Int32)).toInt64.toUInt64 &&& Int64.toUInt64 63)).toInt64 &&& (6148914691236517205 : Int64)))).toUInt64 >>> (((2 : Int32)).toInt64.toUInt64 &&& Int64.toUInt64 63)).toInt64 &&& (3689348814741910323 : Int64))) + (((((x0 - (((x0).toUInt64 >>> (((1 : Int32)).toInt64.toUInt64 &&& Int64.toUInt64 63)).toInt64 &&& (6148914691236517205 : Int64))) &&& (3689348814741910323 : Int64)) + ((((x0 - (((x0).toUInt64 >>> (((1 : Int32)).toInt64.toUInt64 &&& Int64.toUInt64 63)).toInt64 &&& (6148914691236517205 : Int64)))).toUInt64 >>> (((2 : Int32)).toInt64.toUInt64 &&& Int64.toUInt64 63)).toInt64 &&& (3689348814741910323 : Int64)))).toUInt64 >>> (((4 : Int32)).toInt64.toUInt64 &&& Int64.toUInt64 63)).toInt64) &&& (1085102592571150095 : Int64))).toUInt64 >>> (((8 : Int32)).toInt64.toUInt64 &&& Int64.toUInt64 63)).toInt64)).toUInt64 >>> (((16 : Int32)).toInt64.toUInt64 &&& Int64.toUInt64 63)).toInt64)).toUInt64 >>> (((32 : Int32)).toInt64.toUInt64 &&& Int64.toUInt64 63)).toInt64))]) dJ13_bitCount_95d88_54 rfl (by decide) rfl ?_
  refine x_lload_n 0 dJ13_bitCount_95d88_55 rfl rfl ?_
  refine x_l2i dJ13_bitCount_95d88_56 ?_
  refine x_bipush (v := (127 : Int32)) dJ13_bitCount_95d88_57 (by decide) ?_
  refine x_iand dJ13_bitCount_95d88_59 ?_
  exact x_iret rfl dJ13_bitCount_95d88_60 h
-- PressedMen$Register menWhoShowed (III)I
abbrev Y_X5_menWhoShowed : ZM := (yX5_menWhoShowed, cX5_menWhoShowed, 8, (some .int), 1, 22)
theorem cw_X5_menWhoShowed : z_CV Y_X5_menWhoShowed 5 3 := ⟨⟨_, _, rfl⟩, by decide, q_557, q_558, q_559, q_72, ⟨by decide, by decide⟩, rfl⟩
def b_X5_menWhoShowed_6 (n0 : Nat) (x1 : Int32) (x2 : Int32) (x3 : Int32) (S : ZH) (v : Int64 × Int32) : Option ((Int64 × Int32) ⊕ (Int64)) :=
  if (zI S 5 n0 0) ≤ v.2 then (
    some (Sum.inr v.1)
  ) else (
    ((zR S 5 n0 1)).bind fun a1 =>
    (zldR S 19 a1 v.2).bind fun v2 =>
    (v2).bind fun a3 =>
    if ¬ (zI S 8 a3 2) = x1 then (
      some (Sum.inl (v.1, (v.2 + 1)))
    ) else (
      (f_X11_within (zI S 8 a3 0) x2 x3 S).bind fun q4 =>
      if q4 = 0 then (
        some (Sum.inl (v.1, (v.2 + 1)))
      ) else (
        some (Sum.inl ((v.1 ||| ((1 : Int64) <<< (((zI S 8 a3 1)).toInt64 &&& 63))), (v.2 + 1)))
      )
    )
  )
def f_X5_menWhoShowed (n0 : Nat) (x1 : Int32) (x2 : Int32) (x3 : Int32) (S : ZH) : Option (Int32) :=
  (z_iter zFU (b_X5_menWhoShowed_6 n0 x1 x2 x3 S) ((0 : Int64), (0 : Int32))).bind fun t5 =>
  (f_J13_bitCount_95d88 t5 S).bind fun q6 =>
  some q6
set_option maxRecDepth 20000 in
theorem l_X5_menWhoShowed_6 {S0 : ZH} {F : ZP} {n0 : Nat} {x1 : Int32} {x2 : Int32} {x3 : Int32} {S : ZH} {v : Int64 × Int32} {t : Int64} (h : z_iter zFU (b_X5_menWhoShowed_6 n0 x1 x2 x3 S) v = some t) (k : (fun t => Wp Y_X5_menWhoShowed S0 F 64 [(4, z_l t)] [] S) t) : Wp Y_X5_menWhoShowed S0 F 6 [(0, z_r 5 (some n0)), (1, z_i x1), (2, z_i x2), (3, z_i x3), (4, z_l v.1), (6, z_i v.2)] [] S := by
  refine z_iter_P (P := fun v : Int64 × Int32 => Wp Y_X5_menWhoShowed S0 F 6 [(0, z_r 5 (some n0)), (1, z_i x1), (2, z_i x2), (3, z_i x3), (4, z_l v.1), (6, z_i v.2)] [] S) (X := (fun t => Wp Y_X5_menWhoShowed S0 F 64 [(4, z_l t)] [] S)) ?_ _ _ _ h k
  clear h k v t
  intro v r h k
  unfold b_X5_menWhoShowed_6 at h
  refine x_iload 5 dX5_menWhoShowed_6 rfl ?_
  refine x_aload_n 0 dX5_menWhoShowed_8 rfl rfl ?_
  refine x_getI rfl ck_5 0 (by decide) rfl q_133 dX5_menWhoShowed_9 ?_
  refine x_ic_ge (tgt := 64) dX5_menWhoShowed_12 (by decide) h (fun h => ?_) (fun h => ?_)
  · cases h
    exact x_lo [4] rfl k
  · refine x_aload_n 0 dX5_menWhoShowed_15 rfl rfl ?_
    refine x_getR rfl ck_5 1 (by decide) rfl q_135 dX5_menWhoShowed_16 ?_
    refine x_iload 5 dX5_menWhoShowed_19 rfl ?_
    refine z_bnd h (fun a1 ha1 h => ?_)
    refine x_aaload ha1 ak_19 dX5_menWhoShowed_21 h (fun v2 hv2 h => ?_)
    refine x_astore (lo' := [(7, z_r 8 v2), (0, z_r 5 (some n0)), (1, z_i x1), (2, z_i x2), (3, z_i x3), (4, z_l v.1), (6, z_i v.2)]) dX5_menWhoShowed_22 (by decide) rfl ?_
    refine x_aload 0 dX5_menWhoShowed_24 rfl ?_
    refine z_bnd h (fun a3 ha3 h => ?_)
    revert h
    subst ha3
    intro h
    refine x_getI rfl ck_8 2 (by decide) rfl q_713 dX5_menWhoShowed_26 ?_
    refine x_iload_n 2 dX5_menWhoShowed_29 rfl rfl ?_
    refine x_ic_ne (tgt := 58) dX5_menWhoShowed_30 (by decide) h (fun h => ?_) (fun h => ?_)
    · refine x_iinc (v := (v.2 + 1)) (lo' := [(6, z_i (v.2 + 1)), (7, z_r 8 (some a3)), (0, z_r 5 (some n0)), (1, z_i x1), (2, z_i x2), (3, z_i x3), (4, z_l v.1)]) 6 dX5_menWhoShowed_58 rfl (congrArg (HAdd.hAdd v.2) (by decide)) (by decide) rfl ?_
      refine x_goto (tgt := 6) dX5_menWhoShowed_61 (by decide) ?_
      cases h
      exact x_lo [2, 3, 4, 5, 6, 0] rfl k
    · refine x_aload 0 dX5_menWhoShowed_33 rfl ?_
      refine x_getI rfl ck_8 0 (by decide) rfl q_707 dX5_menWhoShowed_35 ?_
      refine x_iload_n 3 dX5_menWhoShowed_38 rfl rfl ?_
      refine x_iload_n 4 dX5_menWhoShowed_39 rfl rfl ?_
      refine z_bnd h (fun q4 hq4 h => ?_)
      refine x_callSN1 (w_X11_within hq4) cw_X11_within q_560 ⟨by decide, by decide⟩ (Nat.le_of_ble_eq_true rfl) dX5_menWhoShowed_40 rfl ?_
      refine x_if_eq (tgt := 58) dX5_menWhoShowed_43 (by decide) h (fun h => ?_) (fun h => ?_)
      · refine x_iinc (v := (v.2 + 1)) (lo' := [(6, z_i (v.2 + 1)), (7, z_r 8 (some a3)), (0, z_r 5 (some n0)), (1, z_i x1), (2, z_i x2), (3, z_i x3), (4, z_l v.1)]) 6 dX5_menWhoShowed_58 rfl (congrArg (HAdd.hAdd v.2) (by decide)) (by decide) rfl ?_
        refine x_goto (tgt := 6) dX5_menWhoShowed_61 (by decide) ?_
        cases h
        exact x_lo [2, 3, 4, 5, 6, 0] rfl k
      · refine x_lload 5 dX5_menWhoShowed_46 rfl ?_
        refine x_lconst (v := (1 : Int64)) dX5_menWhoShowed_48 (by decide) ?_
        refine x_aload 0 dX5_menWhoShowed_49 rfl ?_
        refine x_getI rfl ck_8 1 (by decide) rfl q_710 dX5_menWhoShowed_51 ?_
        refine x_lshl dX5_menWhoShowed_54 ?_
        refine x_lor dX5_menWhoShowed_55 ?_
        refine x_lstore (lo' := [(4, z_l (v.1 ||| ((1 : Int64) <<< (((zI S 8 a3 1)).toInt64 &&& 63)))), (7, z_r 8 (some a3)), (0, z_r 5 (some n0)), (1, z_i x1), (2, z_i x2), (3, z_i x3), (6, z_i v.2)]) dX5_menWhoShowed_56 (by decide) rfl ?_
        refine x_iinc (v := (v.2 + 1)) (lo' := [(6, z_i (v.2 + 1)), (4, z_l (v.1 ||| ((1 : Int64) <<< (((zI S 8 a3 1)).toInt64 &&& 63)))), (7, z_r 8 (some a3)), (0, z_r 5 (some n0)), (1, z_i x1), (2, z_i x2), (3, z_i x3)]) 6 dX5_menWhoShowed_58 rfl (congrArg (HAdd.hAdd v.2) (by decide)) (by decide) rfl ?_
        refine x_goto (tgt := 6) dX5_menWhoShowed_61 (by decide) ?_
        cases h
        exact x_lo [3, 4, 5, 6, 1, 0] rfl k
set_option maxRecDepth 20000 in
set_option maxHeartbeats 1000000 in
theorem w_X5_menWhoShowed {n0 : Nat} {x1 : Int32} {x2 : Int32} {x3 : Int32} {S : ZH} {q : Int32} (h : f_X5_menWhoShowed n0 x1 x2 x3 S = some q) : MetX Y_X5_menWhoShowed S [z_r 5 (some n0), z_i x1, z_i x2, z_i x3] (some (z_i q)) S := by
  refine MetX.of (lo := [(0, z_r 5 (some n0)), (1, z_i x1), (2, z_i x2), (3, z_i x3)]) rfl (by decide) (Nat.le_of_ble_eq_true rfl) ?_
  unfold f_X5_menWhoShowed at h
  refine x_lconst (v := (0 : Int64)) dX5_menWhoShowed_0 (by decide) ?_
  refine x_lstore (lo' := [(4, z_l (0 : Int64)), (0, z_r 5 (some n0)), (1, z_i x1), (2, z_i x2), (3, z_i x3)]) dX5_menWhoShowed_1 (by decide) rfl ?_
  refine x_iconst (v := (0 : Int32)) dX5_menWhoShowed_3 (by decide) ?_
  refine x_istore (lo' := [(6, z_i (0 : Int32)), (4, z_l (0 : Int64)), (0, z_r 5 (some n0)), (1, z_i x1), (2, z_i x2), (3, z_i x3)]) dX5_menWhoShowed_4 (by decide) rfl ?_
  refine z_bnd h (fun t5 ht5 h => ?_)
  refine x_lo [2, 3, 4, 5, 1, 0] rfl ?_
  refine l_X5_menWhoShowed_6 ht5 ?_
  refine x_lload 0 dX5_menWhoShowed_64 rfl ?_
  refine z_bnd h (fun q6 hq6 h => ?_)
  refine x_callS1 (w_J13_bitCount_95d88 hq6) cw_J13_bitCount_95d88 q_561 ⟨by decide, by decide⟩ (Nat.le_of_ble_eq_true rfl) dX5_menWhoShowed_66 rfl ?_
  exact x_iret rfl dX5_menWhoShowed_69 h
-- PressedMen shown (II)I
abbrev Y_X11_shown : ZM := (yX11_shown, cX11_shown, 3, (some .int), 2, 49)
theorem cw_X11_shown : z_CV Y_X11_shown 11 2 := ⟨⟨_, _, rfl⟩, by decide, q_553, q_554, q_555, q_70, ⟨by decide, by decide⟩, rfl⟩
def f_X11_shown (n0 : Nat) (x1 : Int32) (x2 : Int32) (S : ZH) : Option (Int32) :=
  (f_X11_findPaper n0 x1 S).bind fun q1 =>
  if q1 = none then (
    some (-1 : Int32)
  ) else (
    (f_X11_isTide x2 S).bind fun q2 =>
    if ¬ q2 = 0 then (
      ((zR S 11 n0 7)).bind fun a3 =>
      (f_X5_menWhoShowed a3 x1 ((x2 - (14 : Int32)) + (1 : Int32)) x2 S).bind fun q4 =>
      some q4
    ) else (
      some (-2 : Int32)
    )
  )
set_option maxRecDepth 20000 in
set_option maxHeartbeats 1000000 in
theorem w_X11_shown {n0 : Nat} {x1 : Int32} {x2 : Int32} {S : ZH} {q : Int32} (h : f_X11_shown n0 x1 x2 S = some q) : MetX Y_X11_shown S [z_r 11 (some n0), z_i x1, z_i x2] (some (z_i q)) S := by
  refine MetX.of (lo := [(0, z_r 11 (some n0)), (1, z_i x1), (2, z_i x2)]) rfl (by decide) (Nat.le_of_ble_eq_true rfl) ?_
  unfold f_X11_shown at h
  refine x_aload_n 0 dX11_shown_0 rfl rfl ?_
  refine x_iload_n 1 dX11_shown_1 rfl rfl ?_
  refine z_bnd h (fun q1 hq1 h => ?_)
  refine x_callV1 rfl (w_X11_findPaper hq1) cw_X11_findPaper q_524 ⟨by decide, by decide⟩ (Nat.le_of_ble_eq_true rfl) dX11_shown_2 rfl ?_
  refine x_ifnonnull (tgt := 10) dX11_shown_5 (by decide) h (fun h => ?_) (fun h => ?_)
  · refine x_iload_n 2 dX11_shown_10 rfl rfl ?_
    refine z_bnd h (fun q2 hq2 h => ?_)
    refine x_callS1 (w_X11_isTide hq2) cw_X11_isTide q_528 ⟨by decide, by decide⟩ (Nat.le_of_ble_eq_true rfl) dX11_shown_11 rfl ?_
    refine x_if_ne (tgt := 20) dX11_shown_14 (by decide) h (fun h => ?_) (fun h => ?_)
    · refine x_aload_n 0 dX11_shown_20 rfl rfl ?_
      refine x_getR rfl ck_11 7 (by decide) rfl q_197 dX11_shown_21 ?_
      refine x_iload_n 1 dX11_shown_24 rfl rfl ?_
      refine x_iload_n 2 dX11_shown_25 rfl rfl ?_
      refine x_bipush (v := (14 : Int32)) dX11_shown_26 (by decide) ?_
      refine x_isub dX11_shown_28 ?_
      refine x_iconst (v := (1 : Int32)) dX11_shown_29 (by decide) ?_
      refine x_iadd dX11_shown_30 ?_
      refine x_iload_n 2 dX11_shown_31 rfl rfl ?_
      refine z_bnd h (fun a3 ha3 h => ?_)
      refine z_bnd h (fun q4 hq4 h => ?_)
      refine x_callV1 ha3 (w_X5_menWhoShowed hq4) cw_X5_menWhoShowed q_556 ⟨by decide, by decide⟩ (Nat.le_of_ble_eq_true rfl) dX11_shown_32 rfl ?_
      exact x_iret rfl dX11_shown_35 h
    · refine x_bipush (v := (-2 : Int32)) dX11_shown_17 (by decide) ?_
      exact x_iret rfl dX11_shown_19 h
  · refine x_iconst (v := (-1 : Int32)) dX11_shown_8 (by decide) ?_
    exact x_iret rfl dX11_shown_9 h
-- PressedMen$Act <init> (I)V
abbrev Y_X0_init : ZM := (yX0_init, cX0_init, 2, none, 1, 20)
theorem cw_X0_init : z_CI Y_X0_init 1 := ⟨rfl, rfl, q_573, q_574, q_83, ⟨by decide, by decide⟩, rfl⟩
def f_X0_init (n0 : Nat) (x1 : Int32) (S : ZH) : Option (ZH) :=
  (znw S 13 (60 : Int32)).bind fun S1 =>
  some (zsI (zsI (zsI (zsR S1 0 n0 2 (some (zN S 13))) 0 n0 3 (1 : Int32)) 0 n0 5 (-9 : Int32)) 0 n0 0 x1)
set_option maxRecDepth 20000 in
set_option maxHeartbeats 1000000 in
theorem w_X0_init {n0 : Nat} {x1 : Int32} {S : ZH} {q : ZH} (h : f_X0_init n0 x1 S = some q) : MetX Y_X0_init S [z_r 0 (some n0), z_i x1] none q := by
  refine MetX.of (lo := [(0, z_r 0 (some n0)), (1, z_i x1)]) rfl (by decide) (Nat.le_of_ble_eq_true rfl) ?_
  unfold f_X0_init at h
  refine x_aload_n 0 dX0_init_0 rfl rfl ?_
  refine x_objInit rfl q_575 q_94 q_95 ⟨by decide, by decide⟩ (Nat.le_of_ble_eq_true rfl) dX0_init_1 ?_
  refine x_aload_n 0 dX0_init_4 rfl rfl ?_
  refine x_bipush (v := (60 : Int32)) dX0_init_5 (by decide) ?_
  refine x_newa ak_13 at_byte dX0_init_7 h (fun S1 hS1 h => ?_)
  refine x_putR rfl ck_0 2 (by decide) rfl (Or.inr ⟨rfl, rfl, rfl⟩) (Or.inr ⟨_, rfl⟩) q_580 dX0_init_9 ?_
  refine x_aload_n 0 dX0_init_12 rfl rfl ?_
  refine x_iconst (v := (1 : Int32)) dX0_init_13 (by decide) ?_
  refine x_putI rfl ck_0 3 (by decide) rfl (Or.inl rfl) (by rfl) rfl q_581 dX0_init_14 ?_
  refine x_aload_n 0 dX0_init_17 rfl rfl ?_
  refine x_bipush (v := (-9 : Int32)) dX0_init_18 (by decide) ?_
  refine x_putI rfl ck_0 5 (by decide) rfl (Or.inl rfl) (by rfl) rfl q_583 dX0_init_20 ?_
  refine x_aload_n 0 dX0_init_23 rfl rfl ?_
  refine x_iload_n 1 dX0_init_24 rfl rfl ?_
  refine x_putI rfl ck_0 0 (by decide) rfl (Or.inr ⟨rfl, rfl, rfl⟩) (by rfl) rfl q_576 dX0_init_25 ?_
  exact x_vretE rfl dX0_init_28 h
-- PressedMen act (I)I
abbrev Y_X11_act : ZM := (yX11_act, cX11_act, 2, (some .int), 2, 42)
theorem cw_X11_act : z_CV Y_X11_act 11 1 := ⟨⟨_, _, rfl⟩, by decide, q_568, q_569, q_570, q_70, ⟨by decide, by decide⟩, rfl⟩
def f_X11_act (n0 : Nat) (x1 : Int32) (S : ZH) : Option (Int32 × ZH) :=
  (f_X11_isTide x1 S).bind fun q1 =>
  if ¬ q1 = 0 then (
    if (zI S 11 n0 6) < (8 : Int32) then (
      (zal S 0 6).bind fun S2 =>
      (f_X0_init (zN S 0) x1 S2).bind fun q3 =>
      ((zR S 11 n0 5)).bind fun a4 =>
      (zstR q3 24 a4 (zI S 11 n0 6) (some (zN S 0))).bind fun S5 =>
      some (((zI (zsI S5 11 n0 6 ((zI S5 11 n0 6) + (1 : Int32))) 11 n0 6) - (1 : Int32)), (zsI S5 11 n0 6 ((zI S5 11 n0 6) + (1 : Int32))))
    ) else (
      some ((-4 : Int32), S)
    )
  ) else (
    some ((-2 : Int32), S)
  )
set_option maxRecDepth 20000 in
set_option maxHeartbeats 1000000 in
theorem w_X11_act {n0 : Nat} {x1 : Int32} {S : ZH} {q : Int32 × ZH} (h : f_X11_act n0 x1 S = some q) : MetX Y_X11_act S [z_r 11 (some n0), z_i x1] (some (z_i q.1)) q.2 := by
  refine MetX.of (lo := [(0, z_r 11 (some n0)), (1, z_i x1)]) rfl (by decide) (Nat.le_of_ble_eq_true rfl) ?_
  unfold f_X11_act at h
  refine x_iload_n 1 dX11_act_0 rfl rfl ?_
  refine z_bnd h (fun q1 hq1 h => ?_)
  refine x_callS1 (w_X11_isTide hq1) cw_X11_isTide q_528 ⟨by decide, by decide⟩ (Nat.le_of_ble_eq_true rfl) dX11_act_1 rfl ?_
  refine x_if_ne (tgt := 10) dX11_act_4 (by decide) h (fun h => ?_) (fun h => ?_)
  · refine x_aload_n 0 dX11_act_10 rfl rfl ?_
    refine x_getI rfl ck_11 6 (by decide) rfl q_196 dX11_act_11 ?_
    refine x_bipush (v := (8 : Int32)) dX11_act_14 (by decide) ?_
    refine x_ic_lt (tgt := 22) dX11_act_16 (by decide) h (fun h => ?_) (fun h => ?_)
    · refine x_aload_n 0 dX11_act_22 rfl rfl ?_
      refine x_getR rfl ck_11 5 (by decide) rfl q_195 dX11_act_23 ?_
      refine x_aload_n 0 dX11_act_26 rfl rfl ?_
      refine x_getI rfl ck_11 6 (by decide) rfl q_196 dX11_act_27 ?_
      refine x_new ck_0 q_123 dX11_act_30 h (fun S2 hS2 h => ?_)
      refine x_dup dX11_act_33 rfl ?_
      refine x_iload_n 1 dX11_act_34 rfl rfl ?_
      refine z_bnd h (fun q3 hq3 h => ?_)
      refine x_callIv rfl (w_X0_init hq3) cw_X0_init q_572 ⟨by decide, by decide⟩ (Nat.le_of_ble_eq_true rfl) dX11_act_35 rfl ?_
      refine z_bnd h (fun a4 ha4 h => ?_)
      refine x_aastore ha4 ak_24 dX11_act_38 h (fun S5 hS5 h => ?_)
      refine x_aload_n 0 dX11_act_39 rfl rfl ?_
      refine x_dup dX11_act_40 rfl ?_
      refine x_getI rfl ck_11 6 (by decide) rfl q_196 dX11_act_41 ?_
      refine x_iconst (v := (1 : Int32)) dX11_act_44 (by decide) ?_
      refine x_iadd dX11_act_45 ?_
      refine x_putI rfl ck_11 6 (by decide) rfl (Or.inl rfl) (by rfl) rfl q_196 dX11_act_46 ?_
      refine x_aload_n 0 dX11_act_49 rfl rfl ?_
      refine x_getI rfl ck_11 6 (by decide) rfl q_196 dX11_act_50 ?_
      refine x_iconst (v := (1 : Int32)) dX11_act_53 (by decide) ?_
      refine x_isub dX11_act_54 ?_
      exact x_iretE rfl dX11_act_55 h
    · refine x_bipush (v := (-4 : Int32)) dX11_act_19 (by decide) ?_
      exact x_iretE rfl dX11_act_21 h
  · refine x_bipush (v := (-2 : Int32)) dX11_act_7 (by decide) ?_
    exact x_iretE rfl dX11_act_9 h
-- PressedMen findAct (I)LPressedMen$Act;
abbrev Y_X11_findAct : ZM := (yX11_findAct, cX11_findAct, 2, (some (.object "PressedMen$Act")), 1, 22)
theorem cw_X11_findAct : z_CV Y_X11_findAct 11 1 := ⟨⟨_, _, rfl⟩, by decide, q_604, q_12, q_605, q_70, ⟨by decide, by decide⟩, rfl⟩
def f_X11_findAct (n0 : Nat) (x1 : Int32) (S : ZH) : Option (Option Nat) :=
  (f_X11_within x1 (0 : Int32) ((zI S 11 n0 6) - (1 : Int32)) S).bind fun q1 =>
  if q1 = 0 then (
    some none
  ) else (
    ((zR S 11 n0 5)).bind fun a2 =>
    (zldR S 24 a2 x1).bind fun v3 =>
    some v3
  )
set_option maxRecDepth 20000 in
set_option maxHeartbeats 1000000 in
theorem w_X11_findAct {n0 : Nat} {x1 : Int32} {S : ZH} {q : Option Nat} (h : f_X11_findAct n0 x1 S = some q) : MetX Y_X11_findAct S [z_r 11 (some n0), z_i x1] (some (z_r 0 q)) S := by
  refine MetX.of (lo := [(0, z_r 11 (some n0)), (1, z_i x1)]) rfl (by decide) (Nat.le_of_ble_eq_true rfl) ?_
  unfold f_X11_findAct at h
  refine x_iload_n 1 dX11_findAct_0 rfl rfl ?_
  refine x_iconst (v := (0 : Int32)) dX11_findAct_1 (by decide) ?_
  refine x_aload_n 0 dX11_findAct_2 rfl rfl ?_
  refine x_getI rfl ck_11 6 (by decide) rfl q_196 dX11_findAct_3 ?_
  refine x_iconst (v := (1 : Int32)) dX11_findAct_6 (by decide) ?_
  refine x_isub dX11_findAct_7 ?_
  refine z_bnd h (fun q1 hq1 h => ?_)
  refine x_callS1 (w_X11_within hq1) cw_X11_within q_252 ⟨by decide, by decide⟩ (Nat.le_of_ble_eq_true rfl) dX11_findAct_8 rfl ?_
  refine x_if_eq (tgt := 23) dX11_findAct_11 (by decide) h (fun h => ?_) (fun h => ?_)
  · refine x_null 0 dX11_findAct_23 ?_
    exact x_aret rfl (Or.inl ⟨_, rfl⟩) dX11_findAct_24 h
  · refine x_aload_n 0 dX11_findAct_14 rfl rfl ?_
    refine x_getR rfl ck_11 5 (by decide) rfl q_195 dX11_findAct_15 ?_
    refine x_iload_n 1 dX11_findAct_18 rfl rfl ?_
    refine z_bnd h (fun a2 ha2 h => ?_)
    refine x_aaload ha2 ak_24 dX11_findAct_19 h (fun v3 hv3 h => ?_)
    refine x_goto (tgt := 24) dX11_findAct_20 (by decide) ?_
    exact x_aret rfl (Or.inl ⟨_, rfl⟩) dX11_findAct_24 h
-- PressedMen$Act isDigit (I)Z
abbrev Y_X0_isDigit : ZM := (yX0_isDigit, cX0_isDigit, 1, (some .boolean), 1, 22)
theorem cw_X0_isDigit : z_CS Y_X0_isDigit 1 := ⟨q_619, q_620, q_83, ⟨by decide, by decide⟩, rfl⟩
def f_X0_isDigit (x0 : Int32) (S : ZH) : Option (Int32) :=
  (f_X11_within x0 (48 : Int32) (57 : Int32) S).bind fun q1 =>
  if z_b q1 = q1 then some q1 else none
set_option maxRecDepth 20000 in
set_option maxHeartbeats 1000000 in
theorem w_X0_isDigit {x0 : Int32} {S : ZH} {q : Int32} (h : f_X0_isDigit x0 S = some q) : MetX Y_X0_isDigit S [z_i x0] (some (z_i q)) S := by
  refine MetX.of (lo := [(0, z_i x0)]) rfl (by decide) (Nat.le_of_ble_eq_true rfl) ?_
  unfold f_X0_isDigit at h
  refine x_iload_n 0 dX0_isDigit_0 rfl rfl ?_
  refine x_bipush (v := (48 : Int32)) dX0_isDigit_1 (by decide) ?_
  refine x_bipush (v := (57 : Int32)) dX0_isDigit_3 (by decide) ?_
  refine z_bnd h (fun q1 hq1 h => ?_)
  refine x_callSN1 (w_X11_within hq1) cw_X11_within q_621 ⟨by decide, by decide⟩ (Nat.le_of_ble_eq_true rfl) dX0_isDigit_5 rfl ?_
  exact x_zret rfl dX0_isDigit_8 h
-- PressedMen$Act takesDigit (I)Z
abbrev Y_X0_takesDigit : ZM := (yX0_takesDigit, cX0_takesDigit, 2, (some .boolean), 2, 42)
theorem cw_X0_takesDigit : z_CV Y_X0_takesDigit 0 1 := ⟨⟨_, _, rfl⟩, by decide, q_616, q_14, q_617, q_83, ⟨by decide, by decide⟩, rfl⟩
def f_X0_takesDigit (n0 : Nat) (x1 : Int32) (S : ZH) : Option (Int32 × ZH) :=
  (f_X0_isDigit x1 S).bind fun q1 =>
  if ¬ q1 = 0 then (
    if ¬ (zI (zsI S 0 n0 4 ((zI S 0 n0 4) - (1 : Int32))) 0 n0 4) = 0 then (
      some ((1 : Int32), (zsI S 0 n0 4 ((zI S 0 n0 4) - (1 : Int32))))
    ) else (
      some ((1 : Int32), (zsI (zsI S 0 n0 4 ((zI S 0 n0 4) - (1 : Int32))) 0 n0 3 ((zI (zsI S 0 n0 4 ((zI S 0 n0 4) - (1 : Int32))) 0 n0 3) - (1 : Int32))))
    )
  ) else (
    some ((0 : Int32), S)
  )
set_option maxRecDepth 20000 in
set_option maxHeartbeats 1000000 in
theorem w_X0_takesDigit {n0 : Nat} {x1 : Int32} {S : ZH} {q : Int32 × ZH} (h : f_X0_takesDigit n0 x1 S = some q) : MetX Y_X0_takesDigit S [z_r 0 (some n0), z_i x1] (some (z_i q.1)) q.2 := by
  refine MetX.of (lo := [(0, z_r 0 (some n0)), (1, z_i x1)]) rfl (by decide) (Nat.le_of_ble_eq_true rfl) ?_
  unfold f_X0_takesDigit at h
  refine x_iload_n 1 dX0_takesDigit_0 rfl rfl ?_
  refine z_bnd h (fun q1 hq1 h => ?_)
  refine x_callS1 (w_X0_isDigit hq1) cw_X0_isDigit q_618 ⟨by decide, by decide⟩ (Nat.le_of_ble_eq_true rfl) dX0_takesDigit_1 rfl ?_
  refine x_if_ne (tgt := 9) dX0_takesDigit_4 (by decide) h (fun h => ?_) (fun h => ?_)
  · refine x_aload_n 0 dX0_takesDigit_9 rfl rfl ?_
    refine x_dup dX0_takesDigit_10 rfl ?_
    refine x_getI rfl ck_0 4 (by decide) rfl q_582 dX0_takesDigit_11 ?_
    refine x_iconst (v := (1 : Int32)) dX0_takesDigit_14 (by decide) ?_
    refine x_isub dX0_takesDigit_15 ?_
    refine x_putI rfl ck_0 4 (by decide) rfl (Or.inl rfl) (by rfl) rfl q_582 dX0_takesDigit_16 ?_
    refine x_aload_n 0 dX0_takesDigit_19 rfl rfl ?_
    refine x_getI rfl ck_0 4 (by decide) rfl q_582 dX0_takesDigit_20 ?_
    refine x_if_ne (tgt := 36) dX0_takesDigit_23 (by decide) h (fun h => ?_) (fun h => ?_)
    · refine x_iconst (v := (1 : Int32)) dX0_takesDigit_36 (by decide) ?_
      exact x_zretCE rfl (by decide) dX0_takesDigit_37 h
    · refine x_aload_n 0 dX0_takesDigit_26 rfl rfl ?_
      refine x_dup dX0_takesDigit_27 rfl ?_
      refine x_getI rfl ck_0 3 (by decide) rfl q_581 dX0_takesDigit_28 ?_
      refine x_iconst (v := (1 : Int32)) dX0_takesDigit_31 (by decide) ?_
      refine x_isub dX0_takesDigit_32 ?_
      refine x_putI rfl ck_0 3 (by decide) rfl (Or.inl rfl) (by rfl) rfl q_581 dX0_takesDigit_33 ?_
      refine x_iconst (v := (1 : Int32)) dX0_takesDigit_36 (by decide) ?_
      exact x_zretCE rfl (by decide) dX0_takesDigit_37 h
  · refine x_iconst (v := (0 : Int32)) dX0_takesDigit_7 (by decide) ?_
    exact x_zretCE rfl (by decide) dX0_takesDigit_8 h
-- PressedMen$Act goesOnWith (I)Z
abbrev Y_X0_goesOnWith : ZM := (yX0_goesOnWith, cX0_goesOnWith, 2, (some .boolean), 3, 63)
theorem cw_X0_goesOnWith : z_CV Y_X0_goesOnWith 0 1 := ⟨⟨_, _, rfl⟩, by decide, q_612, q_13, q_613, q_83, ⟨by decide, by decide⟩, rfl⟩
def f_X0_goesOnWith (n0 : Nat) (x1 : Int32) (S : ZH) : Option (Int32 × ZH) :=
  if (zI S 0 n0 4) ≤ 0 then (
    if ¬ (zI S 0 n0 3) = 0 then (
      if x1 = (33 : Int32) then (
        some ((1 : Int32), S)
      ) else (
        if x1 = (38 : Int32) then (
          some ((1 : Int32), (zsI S 0 n0 3 ((zI S 0 n0 3) + (1 : Int32))))
        ) else (
          if x1 = (65 : Int32) then (
            some ((1 : Int32), (zsI S 0 n0 4 (2 : Int32)))
          ) else (
            if x1 = (89 : Int32) then (
              some ((1 : Int32), (zsI S 0 n0 4 (2 : Int32)))
            ) else (
              if x1 = (97 : Int32) then (
                some ((1 : Int32), (zsI S 0 n0 4 (2 : Int32)))
              ) else (
                if x1 = (104 : Int32) then (
                  some ((1 : Int32), (zsI S 0 n0 3 ((zI S 0 n0 3) - (1 : Int32))))
                ) else (
                  if x1 = (112 : Int32) then (
                    some ((1 : Int32), (zsI S 0 n0 3 ((zI S 0 n0 3) - (1 : Int32))))
                  ) else (
                    if x1 = (115 : Int32) then (
                      some ((1 : Int32), (zsI S 0 n0 3 ((zI S 0 n0 3) - (1 : Int32))))
                    ) else (
                      if x1 = (116 : Int32) then (
                        some ((1 : Int32), (zsI S 0 n0 4 (2 : Int32)))
                      ) else (
                        if x1 = (121 : Int32) then (
                          some ((1 : Int32), (zsI S 0 n0 4 (2 : Int32)))
                        ) else (
                          if x1 = (124 : Int32) then (
                            some ((1 : Int32), (zsI S 0 n0 3 ((zI S 0 n0 3) + (1 : Int32))))
                          ) else (
                            some ((0 : Int32), S)
                          )
                        )
                      )
                    )
                  )
                )
              )
            )
          )
        )
      )
    ) else (
      some ((0 : Int32), S)
    )
  ) else (
    (f_X0_takesDigit n0 x1 S).bind fun q12 =>
    if z_b q12.1 = q12.1 then some (q12.1, q12.2) else none
  )
set_option maxRecDepth 20000 in
set_option maxHeartbeats 1000000 in
theorem w_X0_goesOnWith {n0 : Nat} {x1 : Int32} {S : ZH} {q : Int32 × ZH} (h : f_X0_goesOnWith n0 x1 S = some q) : MetX Y_X0_goesOnWith S [z_r 0 (some n0), z_i x1] (some (z_i q.1)) q.2 := by
  refine MetX.of (lo := [(0, z_r 0 (some n0)), (1, z_i x1)]) rfl (by decide) (Nat.le_of_ble_eq_true rfl) ?_
  unfold f_X0_goesOnWith at h
  refine x_aload_n 0 dX0_goesOnWith_0 rfl rfl ?_
  refine x_getI rfl ck_0 4 (by decide) rfl q_582 dX0_goesOnWith_1 ?_
  refine x_if_le (tgt := 13) dX0_goesOnWith_4 (by decide) h (fun h => ?_) (fun h => ?_)
  · refine x_aload_n 0 dX0_goesOnWith_13 rfl rfl ?_
    refine x_getI rfl ck_0 3 (by decide) rfl q_581 dX0_goesOnWith_14 ?_
    refine x_if_ne (tgt := 22) dX0_goesOnWith_17 (by decide) h (fun h => ?_) (fun h => ?_)
    · refine x_iload_n 1 dX0_goesOnWith_22 rfl rfl ?_
      refine z_ite h (fun hx1 h => ?_) (fun hx1 h => ?_)
      · refine x_look (off := 109) (tgt := 132) dX0_goesOnWith_23 (by decide) (by rw [hx1] <;> rfl) (by decide) ?_
        refine x_iconst (v := (1 : Int32)) dX0_goesOnWith_132 (by decide) ?_
        exact x_zretCE rfl (by decide) dX0_goesOnWith_133 h
      · refine z_ite h (fun hx2 h => ?_) (fun hx2 h => ?_)
        · refine x_look (off := 97) (tgt := 120) dX0_goesOnWith_23 (by decide) (by rw [hx2] <;> rfl) (by decide) ?_
          refine x_aload_n 0 dX0_goesOnWith_120 rfl rfl ?_
          refine x_dup dX0_goesOnWith_121 rfl ?_
          refine x_getI rfl ck_0 3 (by decide) rfl q_581 dX0_goesOnWith_122 ?_
          refine x_iconst (v := (1 : Int32)) dX0_goesOnWith_125 (by decide) ?_
          refine x_iadd dX0_goesOnWith_126 ?_
          refine x_putI rfl ck_0 3 (by decide) rfl (Or.inl rfl) (by rfl) rfl q_581 dX0_goesOnWith_127 ?_
          refine x_iconst (v := (1 : Int32)) dX0_goesOnWith_130 (by decide) ?_
          exact x_zretCE rfl (by decide) dX0_goesOnWith_131 h
        · refine z_ite h (fun hx3 h => ?_) (fun hx3 h => ?_)
          · refine x_look (off := 123) (tgt := 146) dX0_goesOnWith_23 (by decide) (by rw [hx3] <;> rfl) (by decide) ?_
            refine x_aload_n 0 dX0_goesOnWith_146 rfl rfl ?_
            refine x_iconst (v := (2 : Int32)) dX0_goesOnWith_147 (by decide) ?_
            refine x_putI rfl ck_0 4 (by decide) rfl (Or.inl rfl) (by rfl) rfl q_582 dX0_goesOnWith_148 ?_
            refine x_iconst (v := (1 : Int32)) dX0_goesOnWith_151 (by decide) ?_
            exact x_zretCE rfl (by decide) dX0_goesOnWith_152 h
          · refine z_ite h (fun hx4 h => ?_) (fun hx4 h => ?_)
            · refine x_look (off := 123) (tgt := 146) dX0_goesOnWith_23 (by decide) (by rw [hx4] <;> rfl) (by decide) ?_
              refine x_aload_n 0 dX0_goesOnWith_146 rfl rfl ?_
              refine x_iconst (v := (2 : Int32)) dX0_goesOnWith_147 (by decide) ?_
              refine x_putI rfl ck_0 4 (by decide) rfl (Or.inl rfl) (by rfl) rfl q_582 dX0_goesOnWith_148 ?_
              refine x_iconst (v := (1 : Int32)) dX0_goesOnWith_151 (by decide) ?_
              exact x_zretCE rfl (by decide) dX0_goesOnWith_152 h
            · refine z_ite h (fun hx5 h => ?_) (fun hx5 h => ?_)
              · refine x_look (off := 123) (tgt := 146) dX0_goesOnWith_23 (by decide) (by rw [hx5] <;> rfl) (by decide) ?_
                refine x_aload_n 0 dX0_goesOnWith_146 rfl rfl ?_
                refine x_iconst (v := (2 : Int32)) dX0_goesOnWith_147 (by decide) ?_
                refine x_putI rfl ck_0 4 (by decide) rfl (Or.inl rfl) (by rfl) rfl q_582 dX0_goesOnWith_148 ?_
                refine x_iconst (v := (1 : Int32)) dX0_goesOnWith_151 (by decide) ?_
                exact x_zretCE rfl (by decide) dX0_goesOnWith_152 h
              · refine z_ite h (fun hx6 h => ?_) (fun hx6 h => ?_)
                · refine x_look (off := 111) (tgt := 134) dX0_goesOnWith_23 (by decide) (by rw [hx6] <;> rfl) (by decide) ?_
                  refine x_aload_n 0 dX0_goesOnWith_134 rfl rfl ?_
                  refine x_dup dX0_goesOnWith_135 rfl ?_
                  refine x_getI rfl ck_0 3 (by decide) rfl q_581 dX0_goesOnWith_136 ?_
                  refine x_iconst (v := (1 : Int32)) dX0_goesOnWith_139 (by decide) ?_
                  refine x_isub dX0_goesOnWith_140 ?_
                  refine x_putI rfl ck_0 3 (by decide) rfl (Or.inl rfl) (by rfl) rfl q_581 dX0_goesOnWith_141 ?_
                  refine x_iconst (v := (1 : Int32)) dX0_goesOnWith_144 (by decide) ?_
                  exact x_zretCE rfl (by decide) dX0_goesOnWith_145 h
                · refine z_ite h (fun hx7 h => ?_) (fun hx7 h => ?_)
                  · refine x_look (off := 111) (tgt := 134) dX0_goesOnWith_23 (by decide) (by rw [hx7] <;> rfl) (by decide) ?_
                    refine x_aload_n 0 dX0_goesOnWith_134 rfl rfl ?_
                    refine x_dup dX0_goesOnWith_135 rfl ?_
                    refine x_getI rfl ck_0 3 (by decide) rfl q_581 dX0_goesOnWith_136 ?_
                    refine x_iconst (v := (1 : Int32)) dX0_goesOnWith_139 (by decide) ?_
                    refine x_isub dX0_goesOnWith_140 ?_
                    refine x_putI rfl ck_0 3 (by decide) rfl (Or.inl rfl) (by rfl) rfl q_581 dX0_goesOnWith_141 ?_
                    refine x_iconst (v := (1 : Int32)) dX0_goesOnWith_144 (by decide) ?_
                    exact x_zretCE rfl (by decide) dX0_goesOnWith_145 h
                  · refine z_ite h (fun hx8 h => ?_) (fun hx8 h => ?_)
                    · refine x_look (off := 111) (tgt := 134) dX0_goesOnWith_23 (by decide) (by rw [hx8] <;> rfl) (by decide) ?_
                      refine x_aload_n 0 dX0_goesOnWith_134 rfl rfl ?_
                      refine x_dup dX0_goesOnWith_135 rfl ?_
                      refine x_getI rfl ck_0 3 (by decide) rfl q_581 dX0_goesOnWith_136 ?_
                      refine x_iconst (v := (1 : Int32)) dX0_goesOnWith_139 (by decide) ?_
                      refine x_isub dX0_goesOnWith_140 ?_
                      refine x_putI rfl ck_0 3 (by decide) rfl (Or.inl rfl) (by rfl) rfl q_581 dX0_goesOnWith_141 ?_
                      refine x_iconst (v := (1 : Int32)) dX0_goesOnWith_144 (by decide) ?_
                      exact x_zretCE rfl (by decide) dX0_goesOnWith_145 h
                    · refine z_ite h (fun hx9 h => ?_) (fun hx9 h => ?_)
                      · refine x_look (off := 123) (tgt := 146) dX0_goesOnWith_23 (by decide) (by rw [hx9] <;> rfl) (by decide) ?_
                        refine x_aload_n 0 dX0_goesOnWith_146 rfl rfl ?_
                        refine x_iconst (v := (2 : Int32)) dX0_goesOnWith_147 (by decide) ?_
                        refine x_putI rfl ck_0 4 (by decide) rfl (Or.inl rfl) (by rfl) rfl q_582 dX0_goesOnWith_148 ?_
                        refine x_iconst (v := (1 : Int32)) dX0_goesOnWith_151 (by decide) ?_
                        exact x_zretCE rfl (by decide) dX0_goesOnWith_152 h
                      · refine z_ite h (fun hx10 h => ?_) (fun hx10 h => ?_)
                        · refine x_look (off := 123) (tgt := 146) dX0_goesOnWith_23 (by decide) (by rw [hx10] <;> rfl) (by decide) ?_
                          refine x_aload_n 0 dX0_goesOnWith_146 rfl rfl ?_
                          refine x_iconst (v := (2 : Int32)) dX0_goesOnWith_147 (by decide) ?_
                          refine x_putI rfl ck_0 4 (by decide) rfl (Or.inl rfl) (by rfl) rfl q_582 dX0_goesOnWith_148 ?_
                          refine x_iconst (v := (1 : Int32)) dX0_goesOnWith_151 (by decide) ?_
                          exact x_zretCE rfl (by decide) dX0_goesOnWith_152 h
                        · refine z_ite h (fun hx11 h => ?_) (fun hx11 h => ?_)
                          · refine x_look (off := 97) (tgt := 120) dX0_goesOnWith_23 (by decide) (by rw [hx11] <;> rfl) (by decide) ?_
                            refine x_aload_n 0 dX0_goesOnWith_120 rfl rfl ?_
                            refine x_dup dX0_goesOnWith_121 rfl ?_
                            refine x_getI rfl ck_0 3 (by decide) rfl q_581 dX0_goesOnWith_122 ?_
                            refine x_iconst (v := (1 : Int32)) dX0_goesOnWith_125 (by decide) ?_
                            refine x_iadd dX0_goesOnWith_126 ?_
                            refine x_putI rfl ck_0 3 (by decide) rfl (Or.inl rfl) (by rfl) rfl q_581 dX0_goesOnWith_127 ?_
                            refine x_iconst (v := (1 : Int32)) dX0_goesOnWith_130 (by decide) ?_
                            exact x_zretCE rfl (by decide) dX0_goesOnWith_131 h
                          · refine x_look (off := 130) (tgt := 153) dX0_goesOnWith_23 (by decide) (by rw [lv_osw hx1 (by decide), lv_osw hx2 (by decide), lv_osw hx3 (by decide), lv_osw hx4 (by decide), lv_osw hx5 (by decide), lv_osw hx6 (by decide), lv_osw hx7 (by decide), lv_osw hx8 (by decide), lv_osw hx9 (by decide), lv_osw hx10 (by decide), lv_osw hx11 (by decide)] <;> rfl) (by decide) ?_
                            refine x_iconst (v := (0 : Int32)) dX0_goesOnWith_153 (by decide) ?_
                            exact x_zretCE rfl (by decide) dX0_goesOnWith_154 h
    · refine x_iconst (v := (0 : Int32)) dX0_goesOnWith_20 (by decide) ?_
      exact x_zretCE rfl (by decide) dX0_goesOnWith_21 h
  · refine x_aload_n 0 dX0_goesOnWith_7 rfl rfl ?_
    refine x_iload_n 1 dX0_goesOnWith_8 rfl rfl ?_
    refine z_bnd h (fun q12 hq12 h => ?_)
    refine x_callV1 rfl (w_X0_takesDigit hq12) cw_X0_takesDigit q_614 ⟨by decide, by decide⟩ (Nat.le_of_ble_eq_true rfl) dX0_goesOnWith_9 rfl ?_
    exact x_zretE rfl dX0_goesOnWith_12 h
-- PressedMen$Act add (I)V
abbrev Y_X0_add : ZM := (yX0_add, cX0_add, 2, none, 4, 84)
theorem cw_X0_add : z_CV Y_X0_add 0 1 := ⟨⟨_, _, rfl⟩, by decide, q_607, q_608, q_609, q_83, ⟨by decide, by decide⟩, rfl⟩
def j_X0_add_38 (n0 : Nat) (x1 : Int32)  (S : ZH) : Option (ZH) :=
  ((zR S 0 n0 2)).bind fun a2 =>
  (zst S 13 a2 (zI S 0 n0 1) (z_y x1.toInt8.toInt32)).bind fun S3 =>
  some (zsI S3 0 n0 1 ((zI S3 0 n0 1) + (1 : Int32)))
def f_X0_add (n0 : Nat) (x1 : Int32) (S : ZH) : Option (ZH) :=
  ((zR S 0 n0 2)).bind fun a1 =>
  if (zI S 0 n0 1) < (nI (zL S 13 a1)) then (
    if ¬ (zI S 0 n0 5) = (-9 : Int32) then (
      j_X0_add_38 n0 x1 S
    ) else (
      (f_X0_goesOnWith n0 x1 S).bind fun q4 =>
      if ¬ q4.1 = 0 then (
        j_X0_add_38 n0 x1 q4.2
      ) else (
        j_X0_add_38 n0 x1 (zsI q4.2 0 n0 5 (zI q4.2 0 n0 1))
      )
    )
  ) else (
    some S
  )
set_option maxRecDepth 20000 in
theorem k_X0_add_38 {S0 : ZH} {n0 : Nat} {x1 : Int32}  {S : ZH} {z : ZH} (h : j_X0_add_38 n0 x1 S = some z) : Wp Y_X0_add S0 (zF S0 none z) 38 [(0, z_r 0 (some n0)), (1, z_i x1)] [] S := by
  unfold j_X0_add_38 at h
  refine x_aload_n 0 dX0_add_38 rfl rfl ?_
  refine x_getR rfl ck_0 2 (by decide) rfl q_580 dX0_add_39 ?_
  refine x_aload_n 0 dX0_add_42 rfl rfl ?_
  refine x_getI rfl ck_0 1 (by decide) rfl q_578 dX0_add_43 ?_
  refine x_iload_n 1 dX0_add_46 rfl rfl ?_
  refine x_i2b dX0_add_47 ?_
  refine z_bnd h (fun a2 ha2 h => ?_)
  refine x_bastore ha2 ak_13 dX0_add_48 h (fun S3 hS3 h => ?_)
  refine x_aload_n 0 dX0_add_49 rfl rfl ?_
  refine x_dup dX0_add_50 rfl ?_
  refine x_getI rfl ck_0 1 (by decide) rfl q_578 dX0_add_51 ?_
  refine x_iconst (v := (1 : Int32)) dX0_add_54 (by decide) ?_
  refine x_iadd dX0_add_55 ?_
  refine x_putI rfl ck_0 1 (by decide) rfl (Or.inl rfl) (by rfl) rfl q_578 dX0_add_56 ?_
  exact x_vretE rfl dX0_add_59 h
set_option maxRecDepth 20000 in
set_option maxHeartbeats 1000000 in
theorem w_X0_add {n0 : Nat} {x1 : Int32} {S : ZH} {q : ZH} (h : f_X0_add n0 x1 S = some q) : MetX Y_X0_add S [z_r 0 (some n0), z_i x1] none q := by
  refine MetX.of (lo := [(0, z_r 0 (some n0)), (1, z_i x1)]) rfl (by decide) (Nat.le_of_ble_eq_true rfl) ?_
  unfold f_X0_add at h
  refine x_aload_n 0 dX0_add_0 rfl rfl ?_
  refine x_getI rfl ck_0 1 (by decide) rfl q_578 dX0_add_1 ?_
  refine x_aload_n 0 dX0_add_4 rfl rfl ?_
  refine x_getR rfl ck_0 2 (by decide) rfl q_580 dX0_add_5 ?_
  refine z_bnd h (fun a1 ha1 h => ?_)
  refine x_alen ha1 (by decide) (by decide) dX0_add_8 ?_
  refine x_ic_lt (tgt := 13) dX0_add_9 (by decide) h (fun h => ?_) (fun h => ?_)
  · refine x_aload_n 0 dX0_add_13 rfl rfl ?_
    refine x_getI rfl ck_0 5 (by decide) rfl q_583 dX0_add_14 ?_
    refine x_bipush (v := (-9 : Int32)) dX0_add_17 (by decide) ?_
    refine x_ic_ne (tgt := 38) dX0_add_19 (by decide) h (fun h => ?_) (fun h => ?_)
    · exact x_lo [0, 1] rfl (k_X0_add_38 h)
    · refine x_aload_n 0 dX0_add_22 rfl rfl ?_
      refine x_iload_n 1 dX0_add_23 rfl rfl ?_
      refine z_bnd h (fun q4 hq4 h => ?_)
      refine x_callV1 rfl (w_X0_goesOnWith hq4) cw_X0_goesOnWith q_610 ⟨by decide, by decide⟩ (Nat.le_of_ble_eq_true rfl) dX0_add_24 rfl ?_
      refine x_if_ne (tgt := 38) dX0_add_27 (by decide) h (fun h => ?_) (fun h => ?_)
      · exact x_lo [0, 1] rfl (k_X0_add_38 h)
      · refine x_aload_n 0 dX0_add_30 rfl rfl ?_
        refine x_aload_n 0 dX0_add_31 rfl rfl ?_
        refine x_getI rfl ck_0 1 (by decide) rfl q_578 dX0_add_32 ?_
        refine x_putI rfl ck_0 5 (by decide) rfl (Or.inl rfl) (by rfl) rfl q_583 dX0_add_35 ?_
        exact x_lo [0, 1] rfl (k_X0_add_38 h)
  · exact x_vretE rfl dX0_add_12 h
-- PressedMen sign (II)I
abbrev Y_X11_sign : ZM := (yX11_sign, cX11_sign, 4, (some .int), 5, 105)
theorem cw_X11_sign : z_CV Y_X11_sign 11 2 := ⟨⟨_, _, rfl⟩, by decide, q_599, q_600, q_601, q_70, ⟨by decide, by decide⟩, rfl⟩
def f_X11_sign (n0 : Nat) (x1 : Int32) (x2 : Int32) (S : ZH) : Option (Int32 × ZH) :=
  (f_X11_findAct n0 x1 S).bind fun q1 =>
  if q1 = none then (
    some ((-1 : Int32), S)
  ) else (
    (f_X11_within x2 (33 : Int32) (126 : Int32) S).bind fun q2 =>
    if ¬ q2 = 0 then (
      (q1).bind fun a3 =>
      if (zI S 0 a3 1) < (60 : Int32) then (
        (f_X0_add a3 x2 S).bind fun q4 =>
        some ((zI q4 0 a3 1), q4)
      ) else (
        some ((-4 : Int32), S)
      )
    ) else (
      some ((-2 : Int32), S)
    )
  )
set_option maxRecDepth 20000 in
set_option maxHeartbeats 1000000 in
theorem w_X11_sign {n0 : Nat} {x1 : Int32} {x2 : Int32} {S : ZH} {q : Int32 × ZH} (h : f_X11_sign n0 x1 x2 S = some q) : MetX Y_X11_sign S [z_r 11 (some n0), z_i x1, z_i x2] (some (z_i q.1)) q.2 := by
  refine MetX.of (lo := [(0, z_r 11 (some n0)), (1, z_i x1), (2, z_i x2)]) rfl (by decide) (Nat.le_of_ble_eq_true rfl) ?_
  unfold f_X11_sign at h
  refine x_aload_n 0 dX11_sign_0 rfl rfl ?_
  refine x_iload_n 1 dX11_sign_1 rfl rfl ?_
  refine z_bnd h (fun q1 hq1 h => ?_)
  refine x_callV1 rfl (w_X11_findAct hq1) cw_X11_findAct q_602 ⟨by decide, by decide⟩ (Nat.le_of_ble_eq_true rfl) dX11_sign_2 rfl ?_
  refine x_astore_n (lo' := [(3, z_r 0 q1), (0, z_r 11 (some n0)), (1, z_i x1), (2, z_i x2)]) dX11_sign_5 rfl (by decide) rfl ?_
  refine x_aload_n 0 dX11_sign_6 rfl rfl ?_
  refine x_ifnonnull (tgt := 12) dX11_sign_7 (by decide) h (fun h => ?_) (fun h => ?_)
  · refine x_iload_n 3 dX11_sign_12 rfl rfl ?_
    refine x_bipush (v := (33 : Int32)) dX11_sign_13 (by decide) ?_
    refine x_bipush (v := (126 : Int32)) dX11_sign_15 (by decide) ?_
    refine z_bnd h (fun q2 hq2 h => ?_)
    refine x_callS1 (w_X11_within hq2) cw_X11_within q_252 ⟨by decide, by decide⟩ (Nat.le_of_ble_eq_true rfl) dX11_sign_17 rfl ?_
    refine x_if_ne (tgt := 26) dX11_sign_20 (by decide) h (fun h => ?_) (fun h => ?_)
    · refine x_aload_n 0 dX11_sign_26 rfl rfl ?_
      refine z_bnd h (fun a3 ha3 h => ?_)
      revert h
      subst ha3
      intro h
      refine x_getI rfl ck_0 1 (by decide) rfl q_579 dX11_sign_27 ?_
      refine x_bipush (v := (60 : Int32)) dX11_sign_30 (by decide) ?_
      refine x_ic_lt (tgt := 38) dX11_sign_32 (by decide) h (fun h => ?_) (fun h => ?_)
      · refine x_aload_n 0 dX11_sign_38 rfl rfl ?_
        refine x_iload_n 3 dX11_sign_39 rfl rfl ?_
        refine z_bnd h (fun q4 hq4 h => ?_)
        refine x_callVv rfl (w_X0_add hq4) cw_X0_add q_606 ⟨by decide, by decide⟩ (Nat.le_of_ble_eq_true rfl) dX11_sign_40 rfl ?_
        refine x_aload_n 0 dX11_sign_43 rfl rfl ?_
        refine x_getI rfl ck_0 1 (by decide) rfl q_579 dX11_sign_44 ?_
        exact x_iretE rfl dX11_sign_47 h
      · refine x_bipush (v := (-4 : Int32)) dX11_sign_35 (by decide) ?_
        exact x_iretE rfl dX11_sign_37 h
    · refine x_bipush (v := (-2 : Int32)) dX11_sign_23 (by decide) ?_
      exact x_iretE rfl dX11_sign_25 h
  · refine x_iconst (v := (-1 : Int32)) dX11_sign_10 (by decide) ?_
    exact x_iretE rfl dX11_sign_11 h
-- PressedMen$Act faultAt ()I
abbrev Y_X0_faultAt : ZM := (yX0_faultAt, cX0_faultAt, 1, (some .int), 0, 0)
theorem cw_X0_faultAt : z_CV Y_X0_faultAt 0 0 := ⟨⟨_, _, rfl⟩, by decide, q_627, q_628, q_629, q_83, ⟨by decide, by decide⟩, rfl⟩
def f_X0_faultAt (n0 : Nat) (S : ZH) : Option (Int32) :=
  if (zI S 0 n0 5) = (-9 : Int32) then (
    if (zI S 0 n0 3) ≤ 0 then (
      some (-9 : Int32)
    ) else (
      some (zI S 0 n0 1)
    )
  ) else (
    some (zI S 0 n0 5)
  )
set_option maxRecDepth 20000 in
set_option maxHeartbeats 1000000 in
theorem w_X0_faultAt {n0 : Nat} {S : ZH} {q : Int32} (h : f_X0_faultAt n0 S = some q) : MetX Y_X0_faultAt S [z_r 0 (some n0)] (some (z_i q)) S := by
  refine MetX.of (lo := [(0, z_r 0 (some n0))]) rfl (by decide) (Nat.le_of_ble_eq_true rfl) ?_
  unfold f_X0_faultAt at h
  refine x_aload_n 0 dX0_faultAt_0 rfl rfl ?_
  refine x_getI rfl ck_0 5 (by decide) rfl q_583 dX0_faultAt_1 ?_
  refine x_bipush (v := (-9 : Int32)) dX0_faultAt_4 (by decide) ?_
  refine x_ic_eq (tgt := 14) dX0_faultAt_6 (by decide) h (fun h => ?_) (fun h => ?_)
  · refine x_aload_n 0 dX0_faultAt_14 rfl rfl ?_
    refine x_getI rfl ck_0 3 (by decide) rfl q_581 dX0_faultAt_15 ?_
    refine x_if_le (tgt := 28) dX0_faultAt_18 (by decide) h (fun h => ?_) (fun h => ?_)
    · refine x_bipush (v := (-9 : Int32)) dX0_faultAt_28 (by decide) ?_
      exact x_iret rfl dX0_faultAt_30 h
    · refine x_aload_n 0 dX0_faultAt_21 rfl rfl ?_
      refine x_getI rfl ck_0 1 (by decide) rfl q_578 dX0_faultAt_22 ?_
      refine x_goto (tgt := 30) dX0_faultAt_25 (by decide) ?_
      exact x_iret rfl dX0_faultAt_30 h
  · refine x_aload_n 0 dX0_faultAt_9 rfl rfl ?_
    refine x_getI rfl ck_0 5 (by decide) rfl q_583 dX0_faultAt_10 ?_
    exact x_iret rfl dX0_faultAt_13 h
-- PressedMen fault (I)I
abbrev Y_X11_fault : ZM := (yX11_fault, cX11_fault, 3, (some .int), 2, 43)
theorem cw_X11_fault : z_CV Y_X11_fault 11 1 := ⟨⟨_, _, rfl⟩, by decide, q_623, q_624, q_625, q_70, ⟨by decide, by decide⟩, rfl⟩
def f_X11_fault (n0 : Nat) (x1 : Int32) (S : ZH) : Option (Int32) :=
  (f_X11_findAct n0 x1 S).bind fun q1 =>
  if q1 = none then (
    some (-1 : Int32)
  ) else (
    (q1).bind fun a2 =>
    (f_X0_faultAt a2 S).bind fun q3 =>
    some q3
  )
set_option maxRecDepth 20000 in
set_option maxHeartbeats 1000000 in
theorem w_X11_fault {n0 : Nat} {x1 : Int32} {S : ZH} {q : Int32} (h : f_X11_fault n0 x1 S = some q) : MetX Y_X11_fault S [z_r 11 (some n0), z_i x1] (some (z_i q)) S := by
  refine MetX.of (lo := [(0, z_r 11 (some n0)), (1, z_i x1)]) rfl (by decide) (Nat.le_of_ble_eq_true rfl) ?_
  unfold f_X11_fault at h
  refine x_aload_n 0 dX11_fault_0 rfl rfl ?_
  refine x_iload_n 1 dX11_fault_1 rfl rfl ?_
  refine z_bnd h (fun q1 hq1 h => ?_)
  refine x_callV1 rfl (w_X11_findAct hq1) cw_X11_findAct q_602 ⟨by decide, by decide⟩ (Nat.le_of_ble_eq_true rfl) dX11_fault_2 rfl ?_
  refine x_astore_n (lo' := [(2, z_r 0 q1), (0, z_r 11 (some n0)), (1, z_i x1)]) dX11_fault_5 rfl (by decide) rfl ?_
  refine x_aload_n 0 dX11_fault_6 rfl rfl ?_
  refine x_ifnonnull (tgt := 14) dX11_fault_7 (by decide) h (fun h => ?_) (fun h => ?_)
  · refine x_aload_n 0 dX11_fault_14 rfl rfl ?_
    refine z_bnd h (fun a2 ha2 h => ?_)
    revert h
    subst ha2
    intro h
    refine z_bnd h (fun q3 hq3 h => ?_)
    refine x_callV1 rfl (w_X0_faultAt hq3) cw_X0_faultAt q_626 ⟨by decide, by decide⟩ (Nat.le_of_ble_eq_true rfl) dX11_fault_15 rfl ?_
    exact x_iret rfl dX11_fault_18 h
  · refine x_iconst (v := (-1 : Int32)) dX11_fault_10 (by decide) ?_
    refine x_goto (tgt := 18) dX11_fault_11 (by decide) ?_
    exact x_iret rfl dX11_fault_18 h
-- PressedMen actInForce (I)I
abbrev Y_X11_actInForce : ZM := (yX11_actInForce, cX11_actInForce, 6, (some .int), 1, 20)
theorem cw_X11_actInForce : z_CV Y_X11_actInForce 11 1 := ⟨⟨_, _, rfl⟩, by decide, q_636, q_15, q_637, q_70, ⟨by decide, by decide⟩, rfl⟩
def b_X11_actInForce_8 (n0 : Nat) (x1 : Int32) (S : ZH) (v : Int32 × Int32 × Int32) : Option ((Int32 × Int32 × Int32) ⊕ (Int32)) :=
  if (zI S 11 n0 6) ≤ v.2.2 then (
    some (Sum.inr v.1)
  ) else (
    ((zR S 11 n0 5)).bind fun a1 =>
    (zldR S 24 a1 v.2.2).bind fun v2 =>
    (v2).bind fun a3 =>
    if x1 < (zI S 0 a3 0) then (
      some (Sum.inl (v.1, v.2.1, (v.2.2 + 1)))
    ) else (
      if (zI S 0 a3 0) < v.2.1 then (
        some (Sum.inl (v.1, v.2.1, (v.2.2 + 1)))
      ) else (
        (f_X0_faultAt a3 S).bind fun q4 =>
        if ¬ q4 = (-9 : Int32) then (
          some (Sum.inl (v.1, v.2.1, (v.2.2 + 1)))
        ) else (
          some (Sum.inl (v.2.2, (zI S 0 a3 0), (v.2.2 + 1)))
        )
      )
    )
  )
def f_X11_actInForce (n0 : Nat) (x1 : Int32) (S : ZH) : Option (Int32) :=
  (z_iter zFU (b_X11_actInForce_8 n0 x1 S) ((-9 : Int32), (0 : Int32), (0 : Int32))).bind fun t5 =>
  some t5
set_option maxRecDepth 20000 in
theorem l_X11_actInForce_8 {S0 : ZH} {F : ZP} {n0 : Nat} {x1 : Int32} {S : ZH} {v : Int32 × Int32 × Int32} {t : Int32} (h : z_iter zFU (b_X11_actInForce_8 n0 x1 S) v = some t) (k : (fun t => Wp Y_X11_actInForce S0 F 69 [(2, z_i t)] [] S) t) : Wp Y_X11_actInForce S0 F 8 [(0, z_r 11 (some n0)), (1, z_i x1), (2, z_i v.1), (3, z_i v.2.1), (4, z_i v.2.2)] [] S := by
  refine z_iter_P (P := fun v : Int32 × Int32 × Int32 => Wp Y_X11_actInForce S0 F 8 [(0, z_r 11 (some n0)), (1, z_i x1), (2, z_i v.1), (3, z_i v.2.1), (4, z_i v.2.2)] [] S) (X := (fun t => Wp Y_X11_actInForce S0 F 69 [(2, z_i t)] [] S)) ?_ _ _ _ h k
  clear h k v t
  intro v r h k
  unfold b_X11_actInForce_8 at h
  refine x_iload 4 dX11_actInForce_8 rfl ?_
  refine x_aload_n 0 dX11_actInForce_10 rfl rfl ?_
  refine x_getI rfl ck_11 6 (by decide) rfl q_196 dX11_actInForce_11 ?_
  refine x_ic_ge (tgt := 69) dX11_actInForce_14 (by decide) h (fun h => ?_) (fun h => ?_)
  · cases h
    exact x_lo [2] rfl k
  · refine x_aload_n 0 dX11_actInForce_17 rfl rfl ?_
    refine x_getR rfl ck_11 5 (by decide) rfl q_195 dX11_actInForce_18 ?_
    refine x_iload 4 dX11_actInForce_21 rfl ?_
    refine z_bnd h (fun a1 ha1 h => ?_)
    refine x_aaload ha1 ak_24 dX11_actInForce_23 h (fun v2 hv2 h => ?_)
    refine x_astore (lo' := [(5, z_r 0 v2), (0, z_r 11 (some n0)), (1, z_i x1), (2, z_i v.1), (3, z_i v.2.1), (4, z_i v.2.2)]) dX11_actInForce_24 (by decide) rfl ?_
    refine x_aload 0 dX11_actInForce_26 rfl ?_
    refine z_bnd h (fun a3 ha3 h => ?_)
    revert h
    subst ha3
    intro h
    refine x_getI rfl ck_0 0 (by decide) rfl q_577 dX11_actInForce_28 ?_
    refine x_iload_n 2 dX11_actInForce_31 rfl rfl ?_
    refine x_ic_gt (tgt := 63) dX11_actInForce_32 (by decide) h (fun h => ?_) (fun h => ?_)
    · refine x_iinc (v := (v.2.2 + 1)) (lo' := [(4, z_i (v.2.2 + 1)), (5, z_r 0 (some a3)), (0, z_r 11 (some n0)), (1, z_i x1), (2, z_i v.1), (3, z_i v.2.1)]) 5 dX11_actInForce_63 rfl (congrArg (HAdd.hAdd v.2.2) (by decide)) (by decide) rfl ?_
      refine x_goto (tgt := 8) dX11_actInForce_66 (by decide) ?_
      cases h
      exact x_lo [2, 3, 4, 5, 0] rfl k
    · refine x_aload 0 dX11_actInForce_35 rfl ?_
      refine x_getI rfl ck_0 0 (by decide) rfl q_577 dX11_actInForce_37 ?_
      refine x_iload_n 4 dX11_actInForce_40 rfl rfl ?_
      refine x_ic_lt (tgt := 63) dX11_actInForce_41 (by decide) h (fun h => ?_) (fun h => ?_)
      · refine x_iinc (v := (v.2.2 + 1)) (lo' := [(4, z_i (v.2.2 + 1)), (5, z_r 0 (some a3)), (0, z_r 11 (some n0)), (1, z_i x1), (2, z_i v.1), (3, z_i v.2.1)]) 5 dX11_actInForce_63 rfl (congrArg (HAdd.hAdd v.2.2) (by decide)) (by decide) rfl ?_
        refine x_goto (tgt := 8) dX11_actInForce_66 (by decide) ?_
        cases h
        exact x_lo [2, 3, 4, 5, 0] rfl k
      · refine x_aload 0 dX11_actInForce_44 rfl ?_
        refine z_bnd h (fun q4 hq4 h => ?_)
        refine x_callV1 rfl (w_X0_faultAt hq4) cw_X0_faultAt q_626 ⟨by decide, by decide⟩ (Nat.le_of_ble_eq_true rfl) dX11_actInForce_46 rfl ?_
        refine x_bipush (v := (-9 : Int32)) dX11_actInForce_49 (by decide) ?_
        refine x_ic_ne (tgt := 63) dX11_actInForce_51 (by decide) h (fun h => ?_) (fun h => ?_)
        · refine x_iinc (v := (v.2.2 + 1)) (lo' := [(4, z_i (v.2.2 + 1)), (5, z_r 0 (some a3)), (0, z_r 11 (some n0)), (1, z_i x1), (2, z_i v.1), (3, z_i v.2.1)]) 5 dX11_actInForce_63 rfl (congrArg (HAdd.hAdd v.2.2) (by decide)) (by decide) rfl ?_
          refine x_goto (tgt := 8) dX11_actInForce_66 (by decide) ?_
          cases h
          exact x_lo [2, 3, 4, 5, 0] rfl k
        · refine x_iload 5 dX11_actInForce_54 rfl ?_
          refine x_istore_n (lo' := [(2, z_i v.2.2), (5, z_r 0 (some a3)), (0, z_r 11 (some n0)), (1, z_i x1), (3, z_i v.2.1), (4, z_i v.2.2)]) dX11_actInForce_56 rfl (by decide) rfl ?_
          refine x_aload 1 dX11_actInForce_57 rfl ?_
          refine x_getI rfl ck_0 0 (by decide) rfl q_577 dX11_actInForce_59 ?_
          refine x_istore_n (lo' := [(3, z_i (zI S 0 a3 0)), (2, z_i v.2.2), (5, z_r 0 (some a3)), (0, z_r 11 (some n0)), (1, z_i x1), (4, z_i v.2.2)]) dX11_actInForce_62 rfl (by decide) rfl ?_
          refine x_iinc (v := (v.2.2 + 1)) (lo' := [(4, z_i (v.2.2 + 1)), (3, z_i (zI S 0 a3 0)), (2, z_i v.2.2), (5, z_r 0 (some a3)), (0, z_r 11 (some n0)), (1, z_i x1)]) 5 dX11_actInForce_63 rfl (congrArg (HAdd.hAdd v.2.2) (by decide)) (by decide) rfl ?_
          refine x_goto (tgt := 8) dX11_actInForce_66 (by decide) ?_
          cases h
          exact x_lo [4, 5, 2, 1, 0] rfl k
set_option maxRecDepth 20000 in
set_option maxHeartbeats 1000000 in
theorem w_X11_actInForce {n0 : Nat} {x1 : Int32} {S : ZH} {q : Int32} (h : f_X11_actInForce n0 x1 S = some q) : MetX Y_X11_actInForce S [z_r 11 (some n0), z_i x1] (some (z_i q)) S := by
  refine MetX.of (lo := [(0, z_r 11 (some n0)), (1, z_i x1)]) rfl (by decide) (Nat.le_of_ble_eq_true rfl) ?_
  unfold f_X11_actInForce at h
  refine x_bipush (v := (-9 : Int32)) dX11_actInForce_0 (by decide) ?_
  refine x_istore_n (lo' := [(2, z_i (-9 : Int32)), (0, z_r 11 (some n0)), (1, z_i x1)]) dX11_actInForce_2 rfl (by decide) rfl ?_
  refine x_iconst (v := (0 : Int32)) dX11_actInForce_3 (by decide) ?_
  refine x_istore_n (lo' := [(3, z_i (0 : Int32)), (2, z_i (-9 : Int32)), (0, z_r 11 (some n0)), (1, z_i x1)]) dX11_actInForce_4 rfl (by decide) rfl ?_
  refine x_iconst (v := (0 : Int32)) dX11_actInForce_5 (by decide) ?_
  refine x_istore (lo' := [(4, z_i (0 : Int32)), (3, z_i (0 : Int32)), (2, z_i (-9 : Int32)), (0, z_r 11 (some n0)), (1, z_i x1)]) dX11_actInForce_6 (by decide) rfl ?_
  refine z_bnd h (fun t5 ht5 h => ?_)
  refine x_lo [3, 4, 2, 1, 0] rfl ?_
  refine l_X11_actInForce_8 ht5 ?_
  refine x_iload_n 0 dX11_actInForce_69 rfl rfl ?_
  exact x_iret rfl dX11_actInForce_70 h
-- PressedMen force (I)I
abbrev Y_X11_force : ZM := (yX11_force, cX11_force, 2, (some .int), 2, 45)
theorem cw_X11_force : z_CV Y_X11_force 11 1 := ⟨⟨_, _, rfl⟩, by decide, q_631, q_632, q_633, q_70, ⟨by decide, by decide⟩, rfl⟩
def f_X11_force (n0 : Nat) (x1 : Int32) (S : ZH) : Option (Int32) :=
  (f_X11_isTide x1 S).bind fun q1 =>
  if q1 = 0 then (
    some (-2 : Int32)
  ) else (
    (f_X11_actInForce n0 x1 S).bind fun q2 =>
    some q2
  )
set_option maxRecDepth 20000 in
set_option maxHeartbeats 1000000 in
theorem w_X11_force {n0 : Nat} {x1 : Int32} {S : ZH} {q : Int32} (h : f_X11_force n0 x1 S = some q) : MetX Y_X11_force S [z_r 11 (some n0), z_i x1] (some (z_i q)) S := by
  refine MetX.of (lo := [(0, z_r 11 (some n0)), (1, z_i x1)]) rfl (by decide) (Nat.le_of_ble_eq_true rfl) ?_
  unfold f_X11_force at h
  refine x_iload_n 1 dX11_force_0 rfl rfl ?_
  refine z_bnd h (fun q1 hq1 h => ?_)
  refine x_callS1 (w_X11_isTide hq1) cw_X11_isTide q_528 ⟨by decide, by decide⟩ (Nat.le_of_ble_eq_true rfl) dX11_force_1 rfl ?_
  refine x_if_eq (tgt := 15) dX11_force_4 (by decide) h (fun h => ?_) (fun h => ?_)
  · refine x_bipush (v := (-2 : Int32)) dX11_force_15 (by decide) ?_
    exact x_iret rfl dX11_force_17 h
  · refine x_aload_n 0 dX11_force_7 rfl rfl ?_
    refine x_iload_n 1 dX11_force_8 rfl rfl ?_
    refine z_bnd h (fun q2 hq2 h => ?_)
    refine x_callV1 rfl (w_X11_actInForce hq2) cw_X11_actInForce q_634 ⟨by decide, by decide⟩ (Nat.le_of_ble_eq_true rfl) dX11_force_9 rfl ?_
    refine x_goto (tgt := 17) dX11_force_12 (by decide) ?_
    exact x_iret rfl dX11_force_17 h
