-- PressedMen$Town <init> ()V
abbrev Y_X10_init : ZM := (yX10_init, cX10_init, 1, none, 1, 20)
theorem cw_X10_init : z_CI Y_X10_init 0 := ⟨rfl, rfl, q_99, q_100, q_71, ⟨by decide, by decide⟩, rfl⟩
def f_X10_init (n0 : Nat) (S : ZH) : Option (ZH) :=
  (znw (zsI S 10 n0 0 (4 : Int32)) 20 (64 : Int32)).bind fun S1 =>
  (znw (zsR S1 10 n0 1 (some (zN (zsI S 10 n0 0 (4 : Int32)) 20))) 21 (64 : Int32)).bind fun S2 =>
  some (zsR S2 10 n0 2 (some (zN (zsR S1 10 n0 1 (some (zN (zsI S 10 n0 0 (4 : Int32)) 20))) 21)))
set_option maxRecDepth 20000 in
set_option maxHeartbeats 1000000 in
theorem w_X10_init {n0 : Nat} {S : ZH} {q : ZH} (h : f_X10_init n0 S = some q) : MetX Y_X10_init S [z_r 10 (some n0)] none q := by
  refine MetX.of (lo := [(0, z_r 10 (some n0))]) rfl (by decide) (Nat.le_of_ble_eq_true rfl) ?_
  unfold f_X10_init at h
  refine x_aload_n 0 dX10_init_0 rfl rfl ?_
  refine x_objInit rfl q_101 q_94 q_95 ⟨by decide, by decide⟩ (Nat.le_of_ble_eq_true rfl) dX10_init_1 ?_
  refine x_aload_n 0 dX10_init_4 rfl rfl ?_
  refine x_iconst (v := (4 : Int32)) dX10_init_5 (by decide) ?_
  refine x_putI rfl ck_10 0 (by decide) rfl (Or.inl rfl) (by rfl) rfl q_102 dX10_init_6 ?_
  refine x_aload_n 0 dX10_init_9 rfl rfl ?_
  refine x_bipush (v := (64 : Int32)) dX10_init_10 (by decide) ?_
  refine x_newa ak_20 at_boolean dX10_init_12 h (fun S1 hS1 h => ?_)
  refine x_putR rfl ck_10 1 (by decide) rfl (Or.inr ⟨rfl, rfl, rfl⟩) (Or.inr ⟨_, rfl⟩) q_105 dX10_init_14 ?_
  refine x_aload_n 0 dX10_init_17 rfl rfl ?_
  refine x_bipush (v := (64 : Int32)) dX10_init_18 (by decide) ?_
  refine x_newa ak_21 at_int dX10_init_20 h (fun S2 hS2 h => ?_)
  refine x_putR rfl ck_10 2 (by decide) rfl (Or.inr ⟨rfl, rfl, rfl⟩) (Or.inr ⟨_, rfl⟩) q_106 dX10_init_22 ?_
  exact x_vretE rfl dX10_init_25 h
-- PressedMen$Register <init> ()V
abbrev Y_X5_init : ZM := (yX5_init, cX5_init, 1, none, 1, 20)
theorem cw_X5_init : z_CI Y_X5_init 0 := ⟨rfl, rfl, q_128, q_129, q_72, ⟨by decide, by decide⟩, rfl⟩
def f_X5_init (n0 : Nat) (S : ZH) : Option (ZH) :=
  (znw S 19 (60 : Int32)).bind fun S1 =>
  some (zsR S1 5 n0 1 (some (zN S 19)))
set_option maxRecDepth 20000 in
set_option maxHeartbeats 1000000 in
theorem w_X5_init {n0 : Nat} {S : ZH} {q : ZH} (h : f_X5_init n0 S = some q) : MetX Y_X5_init S [z_r 5 (some n0)] none q := by
  refine MetX.of (lo := [(0, z_r 5 (some n0))]) rfl (by decide) (Nat.le_of_ble_eq_true rfl) ?_
  unfold f_X5_init at h
  refine x_aload_n 0 dX5_init_0 rfl rfl ?_
  refine x_objInit rfl q_130 q_94 q_95 ⟨by decide, by decide⟩ (Nat.le_of_ble_eq_true rfl) dX5_init_1 ?_
  refine x_aload_n 0 dX5_init_4 rfl rfl ?_
  refine x_bipush (v := (60 : Int32)) dX5_init_5 (by decide) ?_
  refine x_newq ak_19 q_131 q_132 dX5_init_7 h (fun S1 hS1 h => ?_)
  refine x_putR rfl ck_5 1 (by decide) rfl (Or.inr ⟨rfl, rfl, rfl⟩) (Or.inr ⟨_, rfl⟩) q_135 dX5_init_10 ?_
  exact x_vretE rfl dX5_init_13 h
-- PressedMen$Gangs <init> (LPressedMen$Town;)V
abbrev Y_X1_init : ZM := (yX1_init, cX1_init, 2, none, 1, 20)
theorem cw_X1_init : z_CI Y_X1_init 1 := ⟨rfl, rfl, q_151, q_152, q_73, ⟨by decide, by decide⟩, rfl⟩
def f_X1_init (n0 : Nat) (x1 : Option Nat) (S : ZH) : Option (ZH) :=
  (znw S 14 (8 : Int32)).bind fun S1 =>
  (znw (zsR S1 1 n0 1 (some (zN S 14))) 15 (25 : Int32)).bind fun S2 =>
  (znw (zsR S2 1 n0 2 (some (zN (zsR S1 1 n0 1 (some (zN S 14))) 15))) 16 (6 : Int32)).bind fun S3 =>
  some (zsR (zsR S3 1 n0 3 (some (zN (zsR S2 1 n0 2 (some (zN (zsR S1 1 n0 1 (some (zN S 14))) 15))) 16))) 1 n0 0 x1)
set_option maxRecDepth 20000 in
set_option maxHeartbeats 1000000 in
theorem w_X1_init {n0 : Nat} {x1 : Option Nat} {S : ZH} {q : ZH} (h : f_X1_init n0 x1 S = some q) : MetX Y_X1_init S [z_r 1 (some n0), z_r 10 x1] none q := by
  refine MetX.of (lo := [(0, z_r 1 (some n0)), (1, z_r 10 x1)]) rfl (by decide) (Nat.le_of_ble_eq_true rfl) ?_
  unfold f_X1_init at h
  refine x_aload_n 0 dX1_init_0 rfl rfl ?_
  refine x_objInit rfl q_153 q_94 q_95 ⟨by decide, by decide⟩ (Nat.le_of_ble_eq_true rfl) dX1_init_1 ?_
  refine x_aload_n 0 dX1_init_4 rfl rfl ?_
  refine x_bipush (v := (8 : Int32)) dX1_init_5 (by decide) ?_
  refine x_newa ak_14 at_int dX1_init_7 h (fun S1 hS1 h => ?_)
  refine x_putR rfl ck_1 1 (by decide) rfl (Or.inr ⟨rfl, rfl, rfl⟩) (Or.inr ⟨_, rfl⟩) q_155 dX1_init_9 ?_
  refine x_aload_n 0 dX1_init_12 rfl rfl ?_
  refine x_bipush (v := (25 : Int32)) dX1_init_13 (by decide) ?_
  refine x_newa ak_15 at_int dX1_init_15 h (fun S2 hS2 h => ?_)
  refine x_putR rfl ck_1 2 (by decide) rfl (Or.inr ⟨rfl, rfl, rfl⟩) (Or.inr ⟨_, rfl⟩) q_156 dX1_init_17 ?_
  refine x_aload_n 0 dX1_init_20 rfl rfl ?_
  refine x_bipush (v := (6 : Int32)) dX1_init_21 (by decide) ?_
  refine x_newa ak_16 at_int dX1_init_23 h (fun S3 hS3 h => ?_)
  refine x_putR rfl ck_1 3 (by decide) rfl (Or.inr ⟨rfl, rfl, rfl⟩) (Or.inr ⟨_, rfl⟩) q_157 dX1_init_25 ?_
  refine x_aload_n 0 dX1_init_28 rfl rfl ?_
  refine x_aload_n 1 dX1_init_29 rfl rfl ?_
  refine x_putR rfl ck_1 0 (by decide) rfl (Or.inr ⟨rfl, rfl, rfl⟩) (Or.inl ⟨_, rfl⟩) q_154 dX1_init_30 ?_
  exact x_vretE rfl dX1_init_33 h
-- PressedMen$Levy <init> ()V
abbrev Y_X2_init : ZM := (yX2_init, cX2_init, 1, none, 1, 20)
theorem cw_X2_init : z_CI Y_X2_init 0 := ⟨rfl, rfl, q_170, q_171, q_74, ⟨by decide, by decide⟩, rfl⟩
def f_X2_init (n0 : Nat) (S : ZH) : Option (ZH) :=
  some S
set_option maxRecDepth 20000 in
set_option maxHeartbeats 1000000 in
theorem w_X2_init {n0 : Nat} {S : ZH} {q : ZH} (h : f_X2_init n0 S = some q) : MetX Y_X2_init S [z_r 2 (some n0)] none q := by
  refine MetX.of (lo := [(0, z_r 2 (some n0))]) rfl (by decide) (Nat.le_of_ble_eq_true rfl) ?_
  unfold f_X2_init at h
  refine x_aload_n 0 dX2_init_0 rfl rfl ?_
  refine x_objInit rfl q_172 q_94 q_95 ⟨by decide, by decide⟩ (Nat.le_of_ble_eq_true rfl) dX2_init_1 ?_
  exact x_vretE rfl dX2_init_4 h
-- java/util/Arrays fill ([II)V
abbrev Y_J7_fill_53178 : ZM := (yJ7_fill_53178, cJ7_fill_53178, 4, none, 0, 0)
theorem cw_J7_fill_53178 : z_CS Y_J7_fill_53178 2 := ⟨q_188, q_189, q_75, ⟨by decide, by decide⟩, rfl⟩
def b_J7_fill_53178_14_5 (n0 : Nat) (x1 : Int32) (x3 : Int32) (v : Int32 × ZH) : Option ((Int32 × ZH) ⊕ (ZH)) :=
  if x3 ≤ v.1 then (
    some (Sum.inr v.2)
  ) else (
    (zst v.2 14 n0 v.1 x1).bind fun S2 =>
    some (Sum.inl ((v.1 + 1), S2))
  )
def f_J7_fill_53178_14 (x0 : Option Nat) (x1 : Int32) (S : ZH) : Option (ZH) :=
  (x0).bind fun a1 =>
  (z_iter zFU (b_J7_fill_53178_14_5 a1 x1 (nI (zL S 14 a1))) ((0 : Int32), S)).bind fun t3 =>
  some t3
set_option maxRecDepth 20000 in
theorem l_J7_fill_53178_14_5 {S0 : ZH} {F : ZP} {n0 : Nat} {x1 : Int32} {x3 : Int32} {v : Int32 × ZH} {t : ZH} (h : z_iter zFU (b_J7_fill_53178_14_5 n0 x1 x3) v = some t) (k : (fun t => Wp Y_J7_fill_53178 S0 F 20 [] [] t) t) : Wp Y_J7_fill_53178 S0 F 5 [(0, z_r 14 (some n0)), (1, z_i x1), (2, z_i v.1), (3, z_i x3)] [] v.2 := by
  refine z_iter_P (P := fun v : Int32 × ZH => Wp Y_J7_fill_53178 S0 F 5 [(0, z_r 14 (some n0)), (1, z_i x1), (2, z_i v.1), (3, z_i x3)] [] v.2) (X := (fun t => Wp Y_J7_fill_53178 S0 F 20 [] [] t)) ?_ _ _ _ h k
  clear h k v t
  intro v r h k
  unfold b_J7_fill_53178_14_5 at h
  refine x_iload_n 2 dJ7_fill_53178_5 rfl rfl ?_
  refine x_iload_n 3 dJ7_fill_53178_6 rfl rfl ?_
  refine x_ic_ge (tgt := 20) dJ7_fill_53178_7 (by decide) h (fun h => ?_) (fun h => ?_)
  · cases h
    exact x_lo [] rfl k
  · refine x_aload_n 0 dJ7_fill_53178_10 rfl rfl ?_
    refine x_iload_n 2 dJ7_fill_53178_11 rfl rfl ?_
    refine x_iload_n 1 dJ7_fill_53178_12 rfl rfl ?_
    refine x_iastore rfl ak_14 dJ7_fill_53178_13 h (fun S2 hS2 h => ?_)
    refine x_iinc (v := (v.1 + 1)) (lo' := [(2, z_i (v.1 + 1)), (0, z_r 14 (some n0)), (1, z_i x1), (3, z_i x3)]) 2 dJ7_fill_53178_14 rfl (congrArg (HAdd.hAdd v.1) (by decide)) (by decide) rfl ?_
    refine x_goto (tgt := 5) dJ7_fill_53178_17 (by decide) ?_
    cases h
    exact x_lo [1, 2, 0, 3] rfl k
set_option maxRecDepth 20000 in
set_option maxHeartbeats 1000000 in
theorem w_J7_fill_53178_14 {x0 : Option Nat} {x1 : Int32} {S : ZH} {q : ZH} (h : f_J7_fill_53178_14 x0 x1 S = some q) : MetX Y_J7_fill_53178 S [z_r 14 x0, z_i x1] none q := by
  refine MetX.ofF (lo := [(0, z_r 14 x0), (1, z_i x1)]) rfl (by decide +kernel) (Nat.le_of_ble_eq_true rfl) ?_
  unfold f_J7_fill_53178_14 at h
  refine x_iconst (v := (0 : Int32)) dJ7_fill_53178_0 (by decide) ?_
  refine x_istore_n (lo' := [(2, z_i (0 : Int32)), (0, z_r 14 x0), (1, z_i x1)]) dJ7_fill_53178_1 rfl (by decide) rfl ?_
  refine x_aload_n 1 dJ7_fill_53178_2 rfl rfl ?_
  refine z_bnd h (fun a1 ha1 h => ?_)
  revert h
  subst ha1
  intro h
  refine x_alen rfl (by decide) (by decide) dJ7_fill_53178_3 ?_
  refine x_istore_n (lo' := [(3, z_i (nI (zL S 14 a1))), (2, z_i (0 : Int32)), (0, z_r 14 (some a1)), (1, z_i x1)]) dJ7_fill_53178_4 rfl (by decide) rfl ?_
  refine z_bnd h (fun t3 ht3 h => ?_)
  refine x_lo [2, 3, 1, 0] rfl ?_
  refine l_J7_fill_53178_14_5 ht3 ?_
  exact x_vretE rfl dJ7_fill_53178_20 h
-- java/util/Arrays fill ([II)V
def b_J7_fill_53178_15_5 (n0 : Nat) (x1 : Int32) (x3 : Int32) (v : Int32 × ZH) : Option ((Int32 × ZH) ⊕ (ZH)) :=
  if x3 ≤ v.1 then (
    some (Sum.inr v.2)
  ) else (
    (zst v.2 15 n0 v.1 x1).bind fun S2 =>
    some (Sum.inl ((v.1 + 1), S2))
  )
def f_J7_fill_53178_15 (x0 : Option Nat) (x1 : Int32) (S : ZH) : Option (ZH) :=
  (x0).bind fun a1 =>
  (z_iter zFU (b_J7_fill_53178_15_5 a1 x1 (nI (zL S 15 a1))) ((0 : Int32), S)).bind fun t3 =>
  some t3
set_option maxRecDepth 20000 in
theorem l_J7_fill_53178_15_5 {S0 : ZH} {F : ZP} {n0 : Nat} {x1 : Int32} {x3 : Int32} {v : Int32 × ZH} {t : ZH} (h : z_iter zFU (b_J7_fill_53178_15_5 n0 x1 x3) v = some t) (k : (fun t => Wp Y_J7_fill_53178 S0 F 20 [] [] t) t) : Wp Y_J7_fill_53178 S0 F 5 [(0, z_r 15 (some n0)), (1, z_i x1), (2, z_i v.1), (3, z_i x3)] [] v.2 := by
  refine z_iter_P (P := fun v : Int32 × ZH => Wp Y_J7_fill_53178 S0 F 5 [(0, z_r 15 (some n0)), (1, z_i x1), (2, z_i v.1), (3, z_i x3)] [] v.2) (X := (fun t => Wp Y_J7_fill_53178 S0 F 20 [] [] t)) ?_ _ _ _ h k
  clear h k v t
  intro v r h k
  unfold b_J7_fill_53178_15_5 at h
  refine x_iload_n 2 dJ7_fill_53178_5 rfl rfl ?_
  refine x_iload_n 3 dJ7_fill_53178_6 rfl rfl ?_
  refine x_ic_ge (tgt := 20) dJ7_fill_53178_7 (by decide) h (fun h => ?_) (fun h => ?_)
  · cases h
    exact x_lo [] rfl k
  · refine x_aload_n 0 dJ7_fill_53178_10 rfl rfl ?_
    refine x_iload_n 2 dJ7_fill_53178_11 rfl rfl ?_
    refine x_iload_n 1 dJ7_fill_53178_12 rfl rfl ?_
    refine x_iastore rfl ak_15 dJ7_fill_53178_13 h (fun S2 hS2 h => ?_)
    refine x_iinc (v := (v.1 + 1)) (lo' := [(2, z_i (v.1 + 1)), (0, z_r 15 (some n0)), (1, z_i x1), (3, z_i x3)]) 2 dJ7_fill_53178_14 rfl (congrArg (HAdd.hAdd v.1) (by decide)) (by decide) rfl ?_
    refine x_goto (tgt := 5) dJ7_fill_53178_17 (by decide) ?_
    cases h
    exact x_lo [1, 2, 0, 3] rfl k
set_option maxRecDepth 20000 in
set_option maxHeartbeats 1000000 in
theorem w_J7_fill_53178_15 {x0 : Option Nat} {x1 : Int32} {S : ZH} {q : ZH} (h : f_J7_fill_53178_15 x0 x1 S = some q) : MetX Y_J7_fill_53178 S [z_r 15 x0, z_i x1] none q := by
  refine MetX.ofF (lo := [(0, z_r 15 x0), (1, z_i x1)]) rfl (by decide +kernel) (Nat.le_of_ble_eq_true rfl) ?_
  unfold f_J7_fill_53178_15 at h
  refine x_iconst (v := (0 : Int32)) dJ7_fill_53178_0 (by decide) ?_
  refine x_istore_n (lo' := [(2, z_i (0 : Int32)), (0, z_r 15 x0), (1, z_i x1)]) dJ7_fill_53178_1 rfl (by decide) rfl ?_
  refine x_aload_n 1 dJ7_fill_53178_2 rfl rfl ?_
  refine z_bnd h (fun a1 ha1 h => ?_)
  revert h
  subst ha1
  intro h
  refine x_alen rfl (by decide) (by decide) dJ7_fill_53178_3 ?_
  refine x_istore_n (lo' := [(3, z_i (nI (zL S 15 a1))), (2, z_i (0 : Int32)), (0, z_r 15 (some a1)), (1, z_i x1)]) dJ7_fill_53178_4 rfl (by decide) rfl ?_
  refine z_bnd h (fun t3 ht3 h => ?_)
  refine x_lo [2, 3, 1, 0] rfl ?_
  refine l_J7_fill_53178_15_5 ht3 ?_
  exact x_vretE rfl dJ7_fill_53178_20 h
-- java/util/Arrays fill ([II)V
def b_J7_fill_53178_27_5 (n0 : Nat) (x1 : Int32) (x3 : Int32) (v : Int32 × ZH) : Option ((Int32 × ZH) ⊕ (ZH)) :=
  if x3 ≤ v.1 then (
    some (Sum.inr v.2)
  ) else (
    (zst v.2 27 n0 v.1 x1).bind fun S2 =>
    some (Sum.inl ((v.1 + 1), S2))
  )
def f_J7_fill_53178_27 (x0 : Option Nat) (x1 : Int32) (S : ZH) : Option (ZH) :=
  (x0).bind fun a1 =>
  (z_iter zFU (b_J7_fill_53178_27_5 a1 x1 (nI (zL S 27 a1))) ((0 : Int32), S)).bind fun t3 =>
  some t3
set_option maxRecDepth 20000 in
theorem l_J7_fill_53178_27_5 {S0 : ZH} {F : ZP} {n0 : Nat} {x1 : Int32} {x3 : Int32} {v : Int32 × ZH} {t : ZH} (h : z_iter zFU (b_J7_fill_53178_27_5 n0 x1 x3) v = some t) (k : (fun t => Wp Y_J7_fill_53178 S0 F 20 [] [] t) t) : Wp Y_J7_fill_53178 S0 F 5 [(0, z_r 27 (some n0)), (1, z_i x1), (2, z_i v.1), (3, z_i x3)] [] v.2 := by
  refine z_iter_P (P := fun v : Int32 × ZH => Wp Y_J7_fill_53178 S0 F 5 [(0, z_r 27 (some n0)), (1, z_i x1), (2, z_i v.1), (3, z_i x3)] [] v.2) (X := (fun t => Wp Y_J7_fill_53178 S0 F 20 [] [] t)) ?_ _ _ _ h k
  clear h k v t
  intro v r h k
  unfold b_J7_fill_53178_27_5 at h
  refine x_iload_n 2 dJ7_fill_53178_5 rfl rfl ?_
  refine x_iload_n 3 dJ7_fill_53178_6 rfl rfl ?_
  refine x_ic_ge (tgt := 20) dJ7_fill_53178_7 (by decide) h (fun h => ?_) (fun h => ?_)
  · cases h
    exact x_lo [] rfl k
  · refine x_aload_n 0 dJ7_fill_53178_10 rfl rfl ?_
    refine x_iload_n 2 dJ7_fill_53178_11 rfl rfl ?_
    refine x_iload_n 1 dJ7_fill_53178_12 rfl rfl ?_
    refine x_iastore rfl ak_27 dJ7_fill_53178_13 h (fun S2 hS2 h => ?_)
    refine x_iinc (v := (v.1 + 1)) (lo' := [(2, z_i (v.1 + 1)), (0, z_r 27 (some n0)), (1, z_i x1), (3, z_i x3)]) 2 dJ7_fill_53178_14 rfl (congrArg (HAdd.hAdd v.1) (by decide)) (by decide) rfl ?_
    refine x_goto (tgt := 5) dJ7_fill_53178_17 (by decide) ?_
    cases h
    exact x_lo [1, 2, 0, 3] rfl k
set_option maxRecDepth 20000 in
set_option maxHeartbeats 1000000 in
theorem w_J7_fill_53178_27 {x0 : Option Nat} {x1 : Int32} {S : ZH} {q : ZH} (h : f_J7_fill_53178_27 x0 x1 S = some q) : MetX Y_J7_fill_53178 S [z_r 27 x0, z_i x1] none q := by
  refine MetX.ofF (lo := [(0, z_r 27 x0), (1, z_i x1)]) rfl (by decide +kernel) (Nat.le_of_ble_eq_true rfl) ?_
  unfold f_J7_fill_53178_27 at h
  refine x_iconst (v := (0 : Int32)) dJ7_fill_53178_0 (by decide) ?_
  refine x_istore_n (lo' := [(2, z_i (0 : Int32)), (0, z_r 27 x0), (1, z_i x1)]) dJ7_fill_53178_1 rfl (by decide) rfl ?_
  refine x_aload_n 1 dJ7_fill_53178_2 rfl rfl ?_
  refine z_bnd h (fun a1 ha1 h => ?_)
  revert h
  subst ha1
  intro h
  refine x_alen rfl (by decide) (by decide) dJ7_fill_53178_3 ?_
  refine x_istore_n (lo' := [(3, z_i (nI (zL S 27 a1))), (2, z_i (0 : Int32)), (0, z_r 27 (some a1)), (1, z_i x1)]) dJ7_fill_53178_4 rfl (by decide) rfl ?_
  refine z_bnd h (fun t3 ht3 h => ?_)
  refine x_lo [2, 3, 1, 0] rfl ?_
  refine l_J7_fill_53178_27_5 ht3 ?_
  exact x_vretE rfl dJ7_fill_53178_20 h
-- PressedMen <init> ()V
abbrev Y_X11_init : ZM := (yX11_init, cX11_init, 1, none, 2, 41)
theorem cw_X11_init : z_CI Y_X11_init 0 := ⟨rfl, rfl, q_91, q_92, q_70, ⟨by decide, by decide⟩, rfl⟩
def f_X11_init (n0 : Nat) (S : ZH) : Option (ZH) :=
  (zal S 10 4).bind fun S1 =>
  (f_X10_init (zN S 10) S1).bind fun q2 =>
  (znw (zsR q2 11 n0 0 (some (zN S 10))) 22 (40 : Int32)).bind fun S3 =>
  (znw (zsR S3 11 n0 1 (some (zN (zsR q2 11 n0 0 (some (zN S 10))) 22))) 23 (60 : Int32)).bind fun S4 =>
  (znw (zsR S4 11 n0 3 (some (zN (zsR S3 11 n0 1 (some (zN (zsR q2 11 n0 0 (some (zN S 10))) 22))) 23))) 24 (8 : Int32)).bind fun S5 =>
  (zal (zsR S5 11 n0 5 (some (zN (zsR S4 11 n0 3 (some (zN (zsR S3 11 n0 1 (some (zN (zsR q2 11 n0 0 (some (zN S 10))) 22))) 23))) 24))) 5 3).bind fun S6 =>
  (f_X5_init (zN (zsR S5 11 n0 5 (some (zN (zsR S4 11 n0 3 (some (zN (zsR S3 11 n0 1 (some (zN (zsR q2 11 n0 0 (some (zN S 10))) 22))) 23))) 24))) 5) S6).bind fun q7 =>
  (znw (zsR q7 11 n0 7 (some (zN (zsR S5 11 n0 5 (some (zN (zsR S4 11 n0 3 (some (zN (zsR S3 11 n0 1 (some (zN (zsR q2 11 n0 0 (some (zN S 10))) 22))) 23))) 24))) 5))) 25 (10 : Int32)).bind fun S8 =>
  (znw (zsR S8 11 n0 8 (some (zN (zsR q7 11 n0 7 (some (zN (zsR S5 11 n0 5 (some (zN (zsR S4 11 n0 3 (some (zN (zsR S3 11 n0 1 (some (zN (zsR q2 11 n0 0 (some (zN S 10))) 22))) 23))) 24))) 5))) 25))) 26 (40 : Int32)).bind fun S9 =>
  (znw (zsR S9 11 n0 10 (some (zN (zsR S8 11 n0 8 (some (zN (zsR q7 11 n0 7 (some (zN (zsR S5 11 n0 5 (some (zN (zsR S4 11 n0 3 (some (zN (zsR S3 11 n0 1 (some (zN (zsR q2 11 n0 0 (some (zN S 10))) 22))) 23))) 24))) 5))) 25))) 26))) 27 (10 : Int32)).bind fun S10 =>
  (znw (zsR S10 11 n0 12 (some (zN (zsR S9 11 n0 10 (some (zN (zsR S8 11 n0 8 (some (zN (zsR q7 11 n0 7 (some (zN (zsR S5 11 n0 5 (some (zN (zsR S4 11 n0 3 (some (zN (zsR S3 11 n0 1 (some (zN (zsR q2 11 n0 0 (some (zN S 10))) 22))) 23))) 24))) 5))) 25))) 26))) 27))) 28 (8 : Int32)).bind fun S11 =>
  (zal (zsR S11 11 n0 13 (some (zN (zsR S10 11 n0 12 (some (zN (zsR S9 11 n0 10 (some (zN (zsR S8 11 n0 8 (some (zN (zsR q7 11 n0 7 (some (zN (zsR S5 11 n0 5 (some (zN (zsR S4 11 n0 3 (some (zN (zsR S3 11 n0 1 (some (zN (zsR q2 11 n0 0 (some (zN S 10))) 22))) 23))) 24))) 5))) 25))) 26))) 27))) 28))) 1 4).bind fun S12 =>
  (f_X1_init (zN (zsR S11 11 n0 13 (some (zN (zsR S10 11 n0 12 (some (zN (zsR S9 11 n0 10 (some (zN (zsR S8 11 n0 8 (some (zN (zsR q7 11 n0 7 (some (zN (zsR S5 11 n0 5 (some (zN (zsR S4 11 n0 3 (some (zN (zsR S3 11 n0 1 (some (zN (zsR q2 11 n0 0 (some (zN S 10))) 22))) 23))) 24))) 5))) 25))) 26))) 27))) 28))) 1) (zR S12 11 n0 0) S12).bind fun q13 =>
  (zal (zsR q13 11 n0 14 (some (zN (zsR S11 11 n0 13 (some (zN (zsR S10 11 n0 12 (some (zN (zsR S9 11 n0 10 (some (zN (zsR S8 11 n0 8 (some (zN (zsR q7 11 n0 7 (some (zN (zsR S5 11 n0 5 (some (zN (zsR S4 11 n0 3 (some (zN (zsR S3 11 n0 1 (some (zN (zsR q2 11 n0 0 (some (zN S 10))) 22))) 23))) 24))) 5))) 25))) 26))) 27))) 28))) 1))) 2 4).bind fun S14 =>
  (f_X2_init (zN (zsR q13 11 n0 14 (some (zN (zsR S11 11 n0 13 (some (zN (zsR S10 11 n0 12 (some (zN (zsR S9 11 n0 10 (some (zN (zsR S8 11 n0 8 (some (zN (zsR q7 11 n0 7 (some (zN (zsR S5 11 n0 5 (some (zN (zsR S4 11 n0 3 (some (zN (zsR S3 11 n0 1 (some (zN (zsR q2 11 n0 0 (some (zN S 10))) 22))) 23))) 24))) 5))) 25))) 26))) 27))) 28))) 1))) 2) S14).bind fun q15 =>
  (f_J7_fill_53178_27 (zR (zsI (zsI (zsR q15 11 n0 15 (some (zN (zsR q13 11 n0 14 (some (zN (zsR S11 11 n0 13 (some (zN (zsR S10 11 n0 12 (some (zN (zsR S9 11 n0 10 (some (zN (zsR S8 11 n0 8 (some (zN (zsR q7 11 n0 7 (some (zN (zsR S5 11 n0 5 (some (zN (zsR S4 11 n0 3 (some (zN (zsR S3 11 n0 1 (some (zN (zsR q2 11 n0 0 (some (zN S 10))) 22))) 23))) 24))) 5))) 25))) 26))) 27))) 28))) 1))) 2))) 11 n0 17 (10 : Int32)) 11 n0 18 (50 : Int32)) 11 n0 12) (10000000 : Int32) (zsI (zsI (zsR q15 11 n0 15 (some (zN (zsR q13 11 n0 14 (some (zN (zsR S11 11 n0 13 (some (zN (zsR S10 11 n0 12 (some (zN (zsR S9 11 n0 10 (some (zN (zsR S8 11 n0 8 (some (zN (zsR q7 11 n0 7 (some (zN (zsR S5 11 n0 5 (some (zN (zsR S4 11 n0 3 (some (zN (zsR S3 11 n0 1 (some (zN (zsR q2 11 n0 0 (some (zN S 10))) 22))) 23))) 24))) 5))) 25))) 26))) 27))) 28))) 1))) 2))) 11 n0 17 (10 : Int32)) 11 n0 18 (50 : Int32))).bind fun q16 =>
  some q16
set_option maxRecDepth 20000 in
set_option maxHeartbeats 1000000 in
theorem w_X11_init {n0 : Nat} {S : ZH} {q : ZH} (h : f_X11_init n0 S = some q) : MetX Y_X11_init S [z_r 11 (some n0)] none q := by
  refine MetX.of (lo := [(0, z_r 11 (some n0))]) rfl (by decide) (Nat.le_of_ble_eq_true rfl) ?_
  unfold f_X11_init at h
  refine x_aload_n 0 dX11_init_0 rfl rfl ?_
  refine x_objInit rfl q_93 q_94 q_95 ⟨by decide, by decide⟩ (Nat.le_of_ble_eq_true rfl) dX11_init_1 ?_
  refine x_aload_n 0 dX11_init_4 rfl rfl ?_
  refine x_new ck_10 q_96 dX11_init_5 h (fun S1 hS1 h => ?_)
  refine x_dup dX11_init_8 rfl ?_
  refine z_bnd h (fun q2 hq2 h => ?_)
  refine x_callINv rfl (w_X10_init hq2) cw_X10_init q_98 ⟨by decide, by decide⟩ (Nat.le_of_ble_eq_true rfl) dX11_init_9 rfl ?_
  refine x_putR rfl ck_11 0 (by decide) rfl (Or.inr ⟨rfl, rfl, rfl⟩) (Or.inl ⟨_, rfl⟩) q_190 dX11_init_12 ?_
  refine x_aload_n 0 dX11_init_15 rfl rfl ?_
  refine x_bipush (v := (40 : Int32)) dX11_init_16 (by decide) ?_
  refine x_newq ak_22 q_119 q_120 dX11_init_18 h (fun S3 hS3 h => ?_)
  refine x_putR rfl ck_11 1 (by decide) rfl (Or.inr ⟨rfl, rfl, rfl⟩) (Or.inr ⟨_, rfl⟩) q_191 dX11_init_21 ?_
  refine x_aload_n 0 dX11_init_24 rfl rfl ?_
  refine x_bipush (v := (60 : Int32)) dX11_init_25 (by decide) ?_
  refine x_newq ak_23 q_121 q_122 dX11_init_27 h (fun S4 hS4 h => ?_)
  refine x_putR rfl ck_11 3 (by decide) rfl (Or.inr ⟨rfl, rfl, rfl⟩) (Or.inr ⟨_, rfl⟩) q_193 dX11_init_30 ?_
  refine x_aload_n 0 dX11_init_33 rfl rfl ?_
  refine x_bipush (v := (8 : Int32)) dX11_init_34 (by decide) ?_
  refine x_newq ak_24 q_123 q_124 dX11_init_36 h (fun S5 hS5 h => ?_)
  refine x_putR rfl ck_11 5 (by decide) rfl (Or.inr ⟨rfl, rfl, rfl⟩) (Or.inr ⟨_, rfl⟩) q_195 dX11_init_39 ?_
  refine x_aload_n 0 dX11_init_42 rfl rfl ?_
  refine x_new ck_5 q_125 dX11_init_43 h (fun S6 hS6 h => ?_)
  refine x_dup dX11_init_46 rfl ?_
  refine z_bnd h (fun q7 hq7 h => ?_)
  refine x_callINv rfl (w_X5_init hq7) cw_X5_init q_127 ⟨by decide, by decide⟩ (Nat.le_of_ble_eq_true rfl) dX11_init_47 rfl ?_
  refine x_putR rfl ck_11 7 (by decide) rfl (Or.inr ⟨rfl, rfl, rfl⟩) (Or.inl ⟨_, rfl⟩) q_197 dX11_init_50 ?_
  refine x_aload_n 0 dX11_init_53 rfl rfl ?_
  refine x_bipush (v := (10 : Int32)) dX11_init_54 (by decide) ?_
  refine x_newq ak_25 q_144 q_145 dX11_init_56 h (fun S8 hS8 h => ?_)
  refine x_putR rfl ck_11 8 (by decide) rfl (Or.inr ⟨rfl, rfl, rfl⟩) (Or.inr ⟨_, rfl⟩) q_198 dX11_init_59 ?_
  refine x_aload_n 0 dX11_init_62 rfl rfl ?_
  refine x_bipush (v := (40 : Int32)) dX11_init_63 (by decide) ?_
  refine x_newq ak_26 q_146 q_147 dX11_init_65 h (fun S9 hS9 h => ?_)
  refine x_putR rfl ck_11 10 (by decide) rfl (Or.inr ⟨rfl, rfl, rfl⟩) (Or.inr ⟨_, rfl⟩) q_200 dX11_init_68 ?_
  refine x_aload_n 0 dX11_init_71 rfl rfl ?_
  refine x_bipush (v := (10 : Int32)) dX11_init_72 (by decide) ?_
  refine x_newa ak_27 at_int dX11_init_74 h (fun S10 hS10 h => ?_)
  refine x_putR rfl ck_11 12 (by decide) rfl (Or.inr ⟨rfl, rfl, rfl⟩) (Or.inr ⟨_, rfl⟩) q_202 dX11_init_76 ?_
  refine x_aload_n 0 dX11_init_79 rfl rfl ?_
  refine x_bipush (v := (8 : Int32)) dX11_init_80 (by decide) ?_
  refine x_newa ak_28 at_int dX11_init_82 h (fun S11 hS11 h => ?_)
  refine x_putR rfl ck_11 13 (by decide) rfl (Or.inr ⟨rfl, rfl, rfl⟩) (Or.inr ⟨_, rfl⟩) q_203 dX11_init_84 ?_
  refine x_aload_n 0 dX11_init_87 rfl rfl ?_
  refine x_new ck_1 q_148 dX11_init_88 h (fun S12 hS12 h => ?_)
  refine x_dup dX11_init_91 rfl ?_
  refine x_aload_n 0 dX11_init_92 rfl rfl ?_
  refine x_getR rfl ck_11 0 (by decide) rfl q_190 dX11_init_93 ?_
  refine z_bnd h (fun q13 hq13 h => ?_)
  refine x_callIv rfl (w_X1_init hq13) cw_X1_init q_150 ⟨by decide, by decide⟩ (Nat.le_of_ble_eq_true rfl) dX11_init_96 rfl ?_
  refine x_putR rfl ck_11 14 (by decide) rfl (Or.inr ⟨rfl, rfl, rfl⟩) (Or.inl ⟨_, rfl⟩) q_204 dX11_init_99 ?_
  refine x_aload_n 0 dX11_init_102 rfl rfl ?_
  refine x_new ck_2 q_167 dX11_init_103 h (fun S14 hS14 h => ?_)
  refine x_dup dX11_init_106 rfl ?_
  refine z_bnd h (fun q15 hq15 h => ?_)
  refine x_callINv rfl (w_X2_init hq15) cw_X2_init q_169 ⟨by decide, by decide⟩ (Nat.le_of_ble_eq_true rfl) dX11_init_107 rfl ?_
  refine x_putR rfl ck_11 15 (by decide) rfl (Or.inr ⟨rfl, rfl, rfl⟩) (Or.inl ⟨_, rfl⟩) q_205 dX11_init_110 ?_
  refine x_aload_n 0 dX11_init_113 rfl rfl ?_
  refine x_bipush (v := (10 : Int32)) dX11_init_114 (by decide) ?_
  refine x_putI rfl ck_11 17 (by decide) rfl (Or.inl rfl) (by rfl) rfl q_207 dX11_init_116 ?_
  refine x_aload_n 0 dX11_init_119 rfl rfl ?_
  refine x_bipush (v := (50 : Int32)) dX11_init_120 (by decide) ?_
  refine x_putI rfl ck_11 18 (by decide) rfl (Or.inl rfl) (by rfl) rfl q_208 dX11_init_122 ?_
  refine x_aload_n 0 dX11_init_125 rfl rfl ?_
  refine x_getR rfl ck_11 12 (by decide) rfl q_202 dX11_init_126 ?_
  refine x_ldc dX11_init_129 q_186.1 ?_
  refine z_bnd h (fun q16 hq16 h => ?_)
  refine x_callSv (w_J7_fill_53178_27 hq16) cw_J7_fill_53178 q_187 ⟨by decide, by decide⟩ (Nat.le_of_ble_eq_true rfl) dX11_init_131 rfl ?_
  exact x_vretE rfl dX11_init_134 h
-- PressedMen within (III)Z
abbrev Y_X11_within : ZM := (yX11_within, cX11_within, 3, (some .boolean), 0, 0)
theorem cw_X11_within : z_CS Y_X11_within 3 := ⟨q_253, q_254, q_70, ⟨by decide, by decide⟩, rfl⟩
def f_X11_within (x0 : Int32) (x1 : Int32) (x2 : Int32) (S : ZH) : Option (Int32) :=
  if x0 < x1 then (
    some (0 : Int32)
  ) else (
    if x2 < x0 then (
      some (0 : Int32)
    ) else (
      some (1 : Int32)
    )
  )
set_option maxRecDepth 20000 in
set_option maxHeartbeats 1000000 in
theorem w_X11_within {x0 : Int32} {x1 : Int32} {x2 : Int32} {S : ZH} {q : Int32} (h : f_X11_within x0 x1 x2 S = some q) : MetX Y_X11_within S [z_i x0, z_i x1, z_i x2] (some (z_i q)) S := by
  refine MetX.of (lo := [(0, z_i x0), (1, z_i x1), (2, z_i x2)]) rfl (by decide) (Nat.le_of_ble_eq_true rfl) ?_
  unfold f_X11_within at h
  refine x_iload_n 0 dX11_within_0 rfl rfl ?_
  refine x_iload_n 1 dX11_within_1 rfl rfl ?_
  refine x_ic_lt (tgt := 14) dX11_within_2 (by decide) h (fun h => ?_) (fun h => ?_)
  · refine x_iconst (v := (0 : Int32)) dX11_within_14 (by decide) ?_
    exact x_zretC rfl (by decide) dX11_within_15 h
  · refine x_iload_n 0 dX11_within_5 rfl rfl ?_
    refine x_iload_n 2 dX11_within_6 rfl rfl ?_
    refine x_ic_gt (tgt := 14) dX11_within_7 (by decide) h (fun h => ?_) (fun h => ?_)
    · refine x_iconst (v := (0 : Int32)) dX11_within_14 (by decide) ?_
      exact x_zretC rfl (by decide) dX11_within_15 h
    · refine x_iconst (v := (1 : Int32)) dX11_within_10 (by decide) ?_
      refine x_goto (tgt := 15) dX11_within_11 (by decide) ?_
      exact x_zretC rfl (by decide) dX11_within_15 h
-- PressedMen$Town cell (II)I
abbrev Y_X10_cell : ZM := (yX10_cell, cX10_cell, 2, (some .int), 0, 0)
theorem cw_X10_cell : z_CS Y_X10_cell 2 := ⟨q_260, q_261, q_71, ⟨by decide, by decide⟩, rfl⟩
def f_X10_cell (x0 : Int32) (x1 : Int32) (S : ZH) : Option (Int32) :=
  some ((x0 * (8 : Int32)) + x1)
set_option maxRecDepth 20000 in
set_option maxHeartbeats 1000000 in
theorem w_X10_cell {x0 : Int32} {x1 : Int32} {S : ZH} {q : Int32} (h : f_X10_cell x0 x1 S = some q) : MetX Y_X10_cell S [z_i x0, z_i x1] (some (z_i q)) S := by
  refine MetX.of (lo := [(0, z_i x0), (1, z_i x1)]) rfl (by decide) (Nat.le_of_ble_eq_true rfl) ?_
  unfold f_X10_cell at h
  refine x_iload_n 0 dX10_cell_0 rfl rfl ?_
  refine x_bipush (v := (8 : Int32)) dX10_cell_1 (by decide) ?_
  refine x_imul dX10_cell_3 ?_
  refine x_iload_n 1 dX10_cell_4 rfl rfl ?_
  refine x_iadd dX10_cell_5 ?_
  exact x_iret rfl dX10_cell_6 h
-- PressedMen$Town resize (I)V
abbrev Y_X10_resize : ZM := (yX10_resize, cX10_resize, 4, none, 1, 21)
theorem cw_X10_resize : z_CV Y_X10_resize 10 1 := ⟨⟨_, _, rfl⟩, by decide, q_256, q_257, q_258, q_71, ⟨by decide, by decide⟩, rfl⟩
def b_X10_resize_20 (n0 : Nat) (x2 : Int32) (v : Int32 × ZH) : Option ((Int32 × ZH) ⊕ (ZH)) :=
  if (8 : Int32) ≤ v.1 then (
    some (Sum.inr v.2)
  ) else (
    (f_X10_cell x2 v.1 v.2).bind fun q1 =>
    ((zR v.2 10 n0 1)).bind fun a2 =>
    (zst v.2 20 a2 q1 (z_b (0 : Int32))).bind fun S3 =>
    (f_X10_cell v.1 x2 S3).bind fun q4 =>
    ((zR S3 10 n0 1)).bind fun a5 =>
    (zst S3 20 a5 q4 (z_b (0 : Int32))).bind fun S6 =>
    some (Sum.inl ((v.1 + 1), S6))
  )
def b_X10_resize_12 (n0 : Nat) (v : Int32 × ZH) : Option ((Int32 × ZH) ⊕ (ZH)) :=
  if (8 : Int32) ≤ v.1 then (
    some (Sum.inr v.2)
  ) else (
    (z_iter zFU (b_X10_resize_20 n0 v.1) ((0 : Int32), v.2)).bind fun t7 =>
    some (Sum.inl ((v.1 + 1), t7))
  )
def f_X10_resize (n0 : Nat) (x1 : Int32) (S : ZH) : Option (ZH) :=
  (z_iter zFU (b_X10_resize_12 n0) (x1, (zsI (zsI S 10 n0 0 x1) 10 n0 3 (0 : Int32)))).bind fun t8 =>
  some t8
set_option maxRecDepth 20000 in
theorem l_X10_resize_20 {S0 : ZH} {F : ZP} {n0 : Nat} {x2 : Int32} {v : Int32 × ZH} {t : ZH} (h : z_iter zFU (b_X10_resize_20 n0 x2) v = some t) (k : (fun t => Wp Y_X10_resize S0 F 54 [(0, z_r 10 (some n0)), (2, z_i x2)] [] t) t) : Wp Y_X10_resize S0 F 20 [(0, z_r 10 (some n0)), (2, z_i x2), (3, z_i v.1)] [] v.2 := by
  refine z_iter_P (P := fun v : Int32 × ZH => Wp Y_X10_resize S0 F 20 [(0, z_r 10 (some n0)), (2, z_i x2), (3, z_i v.1)] [] v.2) (X := (fun t => Wp Y_X10_resize S0 F 54 [(0, z_r 10 (some n0)), (2, z_i x2)] [] t)) ?_ _ _ _ h k
  clear h k v t
  intro v r h k
  unfold b_X10_resize_20 at h
  refine x_iload_n 2 dX10_resize_20 rfl rfl ?_
  refine x_bipush (v := (8 : Int32)) dX10_resize_21 (by decide) ?_
  refine x_ic_ge (tgt := 54) dX10_resize_23 (by decide) h (fun h => ?_) (fun h => ?_)
  · cases h
    exact x_lo [0, 1] rfl k
  · refine x_aload_n 0 dX10_resize_26 rfl rfl ?_
    refine x_getR rfl ck_10 1 (by decide) rfl q_105 dX10_resize_27 ?_
    refine x_iload_n 1 dX10_resize_30 rfl rfl ?_
    refine x_iload_n 2 dX10_resize_31 rfl rfl ?_
    refine z_bnd h (fun q1 hq1 h => ?_)
    refine x_callS1 (w_X10_cell hq1) cw_X10_cell q_259 ⟨by decide, by decide⟩ (Nat.le_of_ble_eq_true rfl) dX10_resize_32 rfl ?_
    refine x_iconst (v := (0 : Int32)) dX10_resize_35 (by decide) ?_
    refine z_bnd h (fun a2 ha2 h => ?_)
    refine x_zastore ha2 ak_20 dX10_resize_36 h (fun S3 hS3 h => ?_)
    refine x_aload_n 0 dX10_resize_37 rfl rfl ?_
    refine x_getR rfl ck_10 1 (by decide) rfl q_105 dX10_resize_38 ?_
    refine x_iload_n 2 dX10_resize_41 rfl rfl ?_
    refine x_iload_n 1 dX10_resize_42 rfl rfl ?_
    refine z_bnd h (fun q4 hq4 h => ?_)
    refine x_callS1 (w_X10_cell hq4) cw_X10_cell q_259 ⟨by decide, by decide⟩ (Nat.le_of_ble_eq_true rfl) dX10_resize_43 rfl ?_
    refine x_iconst (v := (0 : Int32)) dX10_resize_46 (by decide) ?_
    refine z_bnd h (fun a5 ha5 h => ?_)
    refine x_zastore ha5 ak_20 dX10_resize_47 h (fun S6 hS6 h => ?_)
    refine x_iinc (v := (v.1 + 1)) (lo' := [(3, z_i (v.1 + 1)), (0, z_r 10 (some n0)), (2, z_i x2)]) 2 dX10_resize_48 rfl (congrArg (HAdd.hAdd v.1) (by decide)) (by decide) rfl ?_
    refine x_goto (tgt := 20) dX10_resize_51 (by decide) ?_
    cases h
    exact x_lo [1, 2, 0] rfl k
set_option maxRecDepth 20000 in
theorem l_X10_resize_12 {S0 : ZH} {F : ZP} {n0 : Nat} {v : Int32 × ZH} {t : ZH} (h : z_iter zFU (b_X10_resize_12 n0) v = some t) (k : (fun t => Wp Y_X10_resize S0 F 60 [] [] t) t) : Wp Y_X10_resize S0 F 12 [(0, z_r 10 (some n0)), (2, z_i v.1)] [] v.2 := by
  refine z_iter_P (P := fun v : Int32 × ZH => Wp Y_X10_resize S0 F 12 [(0, z_r 10 (some n0)), (2, z_i v.1)] [] v.2) (X := (fun t => Wp Y_X10_resize S0 F 60 [] [] t)) ?_ _ _ _ h k
  clear h k v t
  intro v r h k
  unfold b_X10_resize_12 at h
  refine x_iload_n 1 dX10_resize_12 rfl rfl ?_
  refine x_bipush (v := (8 : Int32)) dX10_resize_13 (by decide) ?_
  refine x_ic_ge (tgt := 60) dX10_resize_15 (by decide) h (fun h => ?_) (fun h => ?_)
  · cases h
    exact x_lo [] rfl k
  · refine x_iconst (v := (0 : Int32)) dX10_resize_18 (by decide) ?_
    refine x_istore_n (lo' := [(3, z_i (0 : Int32)), (0, z_r 10 (some n0)), (2, z_i v.1)]) dX10_resize_19 rfl (by decide) rfl ?_
    refine z_bnd h (fun t7 ht7 h => ?_)
    refine x_lo [1, 2, 0] rfl ?_
    refine l_X10_resize_20 ht7 ?_
    refine x_iinc (v := (v.1 + 1)) (lo' := [(2, z_i (v.1 + 1)), (0, z_r 10 (some n0))]) 1 dX10_resize_54 rfl (congrArg (HAdd.hAdd v.1) (by decide)) (by decide) rfl ?_
    refine x_goto (tgt := 12) dX10_resize_57 (by decide) ?_
    cases h
    exact x_lo [1, 0] rfl k
set_option maxRecDepth 20000 in
set_option maxHeartbeats 1000000 in
theorem w_X10_resize {n0 : Nat} {x1 : Int32} {S : ZH} {q : ZH} (h : f_X10_resize n0 x1 S = some q) : MetX Y_X10_resize S [z_r 10 (some n0), z_i x1] none q := by
  refine MetX.of (lo := [(0, z_r 10 (some n0)), (1, z_i x1)]) rfl (by decide) (Nat.le_of_ble_eq_true rfl) ?_
  unfold f_X10_resize at h
  refine x_aload_n 0 dX10_resize_0 rfl rfl ?_
  refine x_iload_n 1 dX10_resize_1 rfl rfl ?_
  refine x_putI rfl ck_10 0 (by decide) rfl (Or.inl rfl) (by rfl) rfl q_102 dX10_resize_2 ?_
  refine x_aload_n 0 dX10_resize_5 rfl rfl ?_
  refine x_iconst (v := (0 : Int32)) dX10_resize_6 (by decide) ?_
  refine x_putI rfl ck_10 3 (by decide) rfl (Or.inl rfl) (by decide) rfl q_107 dX10_resize_7 ?_
  refine x_iload_n 1 dX10_resize_10 rfl rfl ?_
  refine x_istore_n (lo' := [(2, z_i x1), (0, z_r 10 (some n0)), (1, z_i x1)]) dX10_resize_11 rfl (by decide) rfl ?_
  refine z_bnd h (fun t8 ht8 h => ?_)
  refine x_lo [1, 0] rfl ?_
  refine l_X10_resize_12 ht8 ?_
  exact x_vretE rfl dX10_resize_60 h
-- PressedMen streets (I)I
abbrev Y_X11_streets : ZM := (yX11_streets, cX11_streets, 3, (some .int), 2, 44)
theorem cw_X11_streets : z_CV Y_X11_streets 11 1 := ⟨⟨_, _, rfl⟩, by decide, q_249, q_250, q_251, q_70, ⟨by decide, by decide⟩, rfl⟩
def f_X11_streets (n0 : Nat) (x1 : Int32) (S : ZH) : Option (Int32 × ZH) :=
  (f_X11_within x1 (1 : Int32) (8 : Int32) S).bind fun q1 =>
  if ¬ q1 = 0 then (
    if (zI S 11 n0 2) ≤ 0 then (
      ((zR S 11 n0 0)).bind fun a2 =>
      ((zR S 11 n0 0)).bind fun a3 =>
      (f_X10_resize a3 x1 S).bind fun q4 =>
      some ((zI S 10 a2 0), q4)
    ) else (
      some ((-3 : Int32), S)
    )
  ) else (
    some ((-2 : Int32), S)
  )
set_option maxRecDepth 20000 in
set_option maxHeartbeats 1000000 in
theorem w_X11_streets {n0 : Nat} {x1 : Int32} {S : ZH} {q : Int32 × ZH} (h : f_X11_streets n0 x1 S = some q) : MetX Y_X11_streets S [z_r 11 (some n0), z_i x1] (some (z_i q.1)) q.2 := by
  refine MetX.of (lo := [(0, z_r 11 (some n0)), (1, z_i x1)]) rfl (by decide) (Nat.le_of_ble_eq_true rfl) ?_
  unfold f_X11_streets at h
  refine x_iload_n 1 dX11_streets_0 rfl rfl ?_
  refine x_iconst (v := (1 : Int32)) dX11_streets_1 (by decide) ?_
  refine x_bipush (v := (8 : Int32)) dX11_streets_2 (by decide) ?_
  refine z_bnd h (fun q1 hq1 h => ?_)
  refine x_callS1 (w_X11_within hq1) cw_X11_within q_252 ⟨by decide, by decide⟩ (Nat.le_of_ble_eq_true rfl) dX11_streets_4 rfl ?_
  refine x_if_ne (tgt := 13) dX11_streets_7 (by decide) h (fun h => ?_) (fun h => ?_)
  · refine x_aload_n 0 dX11_streets_13 rfl rfl ?_
    refine x_getI rfl ck_11 2 (by decide) rfl q_192 dX11_streets_14 ?_
    refine x_if_le (tgt := 23) dX11_streets_17 (by decide) h (fun h => ?_) (fun h => ?_)
    · refine x_aload_n 0 dX11_streets_23 rfl rfl ?_
      refine x_getR rfl ck_11 0 (by decide) rfl q_190 dX11_streets_24 ?_
      refine z_bnd h (fun a2 ha2 h => ?_)
      refine x_getI ha2 ck_10 0 (by decide) rfl q_103 dX11_streets_27 ?_
      refine x_istore_n (lo' := [(2, z_i (zI S 10 a2 0)), (0, z_r 11 (some n0)), (1, z_i x1)]) dX11_streets_30 rfl (by decide) rfl ?_
      refine x_aload_n 1 dX11_streets_31 rfl rfl ?_
      refine x_getR rfl ck_11 0 (by decide) rfl q_190 dX11_streets_32 ?_
      refine x_iload_n 2 dX11_streets_35 rfl rfl ?_
      refine z_bnd h (fun a3 ha3 h => ?_)
      refine z_bnd h (fun q4 hq4 h => ?_)
      refine x_callVv ha3 (w_X10_resize hq4) cw_X10_resize q_255 ⟨by decide, by decide⟩ (Nat.le_of_ble_eq_true rfl) dX11_streets_36 rfl ?_
      refine x_iload_n 0 dX11_streets_39 rfl rfl ?_
      exact x_iretE rfl dX11_streets_40 h
    · refine x_bipush (v := (-3 : Int32)) dX11_streets_20 (by decide) ?_
      exact x_iretE rfl dX11_streets_22 h
  · refine x_bipush (v := (-2 : Int32)) dX11_streets_10 (by decide) ?_
    exact x_iretE rfl dX11_streets_12 h
-- PressedMen$Town has (I)Z
abbrev Y_X10_has : ZM := (yX10_has, cX10_has, 2, (some .boolean), 1, 22)
theorem cw_X10_has : z_CV Y_X10_has 10 1 := ⟨⟨_, _, rfl⟩, by decide, q_267, q_268, q_269, q_71, ⟨by decide, by decide⟩, rfl⟩
def f_X10_has (n0 : Nat) (x1 : Int32) (S : ZH) : Option (Int32) :=
  (f_X11_within x1 (0 : Int32) ((zI S 10 n0 0) - (1 : Int32)) S).bind fun q1 =>
  if z_b q1 = q1 then some q1 else none
set_option maxRecDepth 20000 in
set_option maxHeartbeats 1000000 in
theorem w_X10_has {n0 : Nat} {x1 : Int32} {S : ZH} {q : Int32} (h : f_X10_has n0 x1 S = some q) : MetX Y_X10_has S [z_r 10 (some n0), z_i x1] (some (z_i q)) S := by
  refine MetX.of (lo := [(0, z_r 10 (some n0)), (1, z_i x1)]) rfl (by decide) (Nat.le_of_ble_eq_true rfl) ?_
  unfold f_X10_has at h
  refine x_iload_n 1 dX10_has_0 rfl rfl ?_
  refine x_iconst (v := (0 : Int32)) dX10_has_1 (by decide) ?_
  refine x_aload_n 0 dX10_has_2 rfl rfl ?_
  refine x_getI rfl ck_10 0 (by decide) rfl q_102 dX10_has_3 ?_
  refine x_iconst (v := (1 : Int32)) dX10_has_6 (by decide) ?_
  refine x_isub dX10_has_7 ?_
  refine z_bnd h (fun q1 hq1 h => ?_)
  refine x_callSN1 (w_X11_within hq1) cw_X11_within q_270 ⟨by decide, by decide⟩ (Nat.le_of_ble_eq_true rfl) dX10_has_8 rfl ?_
  exact x_zret rfl dX10_has_11 h
-- PressedMen$Town setWay (IIZ)Z
abbrev Y_X10_setWay : ZM := (yX10_setWay, cX10_setWay, 5, (some .boolean), 1, 21)
theorem cw_X10_setWay : z_CV Y_X10_setWay 10 3 := ⟨⟨_, _, rfl⟩, by decide, q_272, q_273, q_274, q_71, ⟨by decide, by decide⟩, rfl⟩
def f_X10_setWay (n0 : Nat) (x1 : Int32) (x2 : Int32) (x3 : Int32) (S : ZH) : Option (Int32 × ZH) :=
  (f_X10_cell x1 x2 S).bind fun q1 =>
  ((zR S 10 n0 1)).bind fun a2 =>
  (zld S 20 a2 q1).bind fun v3 =>
  (f_X10_cell x1 x2 S).bind fun q4 =>
  ((zR S 10 n0 1)).bind fun a5 =>
  (zst S 20 a5 q4 (z_b x3)).bind fun S6 =>
  (f_X10_cell x2 x1 S6).bind fun q7 =>
  ((zR S6 10 n0 1)).bind fun a8 =>
  (zst S6 20 a8 q7 (z_b x3)).bind fun S9 =>
  if v3 = x3 then (
    if z_b v3 = v3 then some (v3, S9) else none
  ) else (
    if z_b v3 = v3 then some (v3, (zsI S9 10 n0 3 (0 : Int32))) else none
  )
set_option maxRecDepth 20000 in
set_option maxHeartbeats 1000000 in
theorem w_X10_setWay {n0 : Nat} {x1 : Int32} {x2 : Int32} {x3 : Int32} {S : ZH} {q : Int32 × ZH} (h : f_X10_setWay n0 x1 x2 x3 S = some q) : MetX Y_X10_setWay S [z_r 10 (some n0), z_i x1, z_i x2, z_i x3] (some (z_i q.1)) q.2 := by
  refine MetX.of (lo := [(0, z_r 10 (some n0)), (1, z_i x1), (2, z_i x2), (3, z_i x3)]) rfl (by decide) (Nat.le_of_ble_eq_true rfl) ?_
  unfold f_X10_setWay at h
  refine x_aload_n 0 dX10_setWay_0 rfl rfl ?_
  refine x_getR rfl ck_10 1 (by decide) rfl q_105 dX10_setWay_1 ?_
  refine x_iload_n 1 dX10_setWay_4 rfl rfl ?_
  refine x_iload_n 2 dX10_setWay_5 rfl rfl ?_
  refine z_bnd h (fun q1 hq1 h => ?_)
  refine x_callS1 (w_X10_cell hq1) cw_X10_cell q_259 ⟨by decide, by decide⟩ (Nat.le_of_ble_eq_true rfl) dX10_setWay_6 rfl ?_
  refine z_bnd h (fun a2 ha2 h => ?_)
  refine x_zaload ha2 ak_20 dX10_setWay_9 h (fun v3 hv3 h => ?_)
  refine x_istore (lo' := [(4, z_i v3), (0, z_r 10 (some n0)), (1, z_i x1), (2, z_i x2), (3, z_i x3)]) dX10_setWay_10 (by decide) rfl ?_
  refine x_aload_n 1 dX10_setWay_12 rfl rfl ?_
  refine x_getR rfl ck_10 1 (by decide) rfl q_105 dX10_setWay_13 ?_
  refine x_iload_n 2 dX10_setWay_16 rfl rfl ?_
  refine x_iload_n 3 dX10_setWay_17 rfl rfl ?_
  refine z_bnd h (fun q4 hq4 h => ?_)
  refine x_callS1 (w_X10_cell hq4) cw_X10_cell q_259 ⟨by decide, by decide⟩ (Nat.le_of_ble_eq_true rfl) dX10_setWay_18 rfl ?_
  refine x_iload_n 4 dX10_setWay_21 rfl rfl ?_
  refine z_bnd h (fun a5 ha5 h => ?_)
  refine x_zastore ha5 ak_20 dX10_setWay_22 h (fun S6 hS6 h => ?_)
  refine x_aload_n 1 dX10_setWay_23 rfl rfl ?_
  refine x_getR rfl ck_10 1 (by decide) rfl q_105 dX10_setWay_24 ?_
  refine x_iload_n 3 dX10_setWay_27 rfl rfl ?_
  refine x_iload_n 2 dX10_setWay_28 rfl rfl ?_
  refine z_bnd h (fun q7 hq7 h => ?_)
  refine x_callS1 (w_X10_cell hq7) cw_X10_cell q_259 ⟨by decide, by decide⟩ (Nat.le_of_ble_eq_true rfl) dX10_setWay_29 rfl ?_
  refine x_iload_n 4 dX10_setWay_32 rfl rfl ?_
  refine z_bnd h (fun a8 ha8 h => ?_)
  refine x_zastore ha8 ak_20 dX10_setWay_33 h (fun S9 hS9 h => ?_)
  refine x_iload 0 dX10_setWay_34 rfl ?_
  refine x_iload_n 4 dX10_setWay_36 rfl rfl ?_
  refine x_ic_eq (tgt := 45) dX10_setWay_37 (by decide) h (fun h => ?_) (fun h => ?_)
  · refine x_iload 0 dX10_setWay_45 rfl ?_
    exact x_zretE rfl dX10_setWay_47 h
  · refine x_aload_n 1 dX10_setWay_40 rfl rfl ?_
    refine x_iconst (v := (0 : Int32)) dX10_setWay_41 (by decide) ?_
    refine x_putI rfl ck_10 3 (by decide) rfl (Or.inl rfl) (by decide) rfl q_107 dX10_setWay_42 ?_
    refine x_iload 0 dX10_setWay_45 rfl ?_
    exact x_zretE rfl dX10_setWay_47 h
-- PressedMen asNumber (Z)I
abbrev Y_X11_asNumber : ZM := (yX11_asNumber, cX11_asNumber, 1, (some .int), 0, 0)
theorem cw_X11_asNumber : z_CS Y_X11_asNumber 1 := ⟨q_276, q_277, q_70, ⟨by decide, by decide⟩, rfl⟩
def f_X11_asNumber (x0 : Int32) (S : ZH) : Option (Int32) :=
  if x0 = 0 then (
    some (0 : Int32)
  ) else (
    some (1 : Int32)
  )
set_option maxRecDepth 20000 in
set_option maxHeartbeats 1000000 in
theorem w_X11_asNumber {x0 : Int32} {S : ZH} {q : Int32} (h : f_X11_asNumber x0 S = some q) : MetX Y_X11_asNumber S [z_i x0] (some (z_i q)) S := by
  refine MetX.of (lo := [(0, z_i x0)]) rfl (by decide) (Nat.le_of_ble_eq_true rfl) ?_
  unfold f_X11_asNumber at h
  refine x_iload_n 0 dX11_asNumber_0 rfl rfl ?_
  refine x_if_eq (tgt := 8) dX11_asNumber_1 (by decide) h (fun h => ?_) (fun h => ?_)
  · refine x_iconst (v := (0 : Int32)) dX11_asNumber_8 (by decide) ?_
    exact x_iret rfl dX11_asNumber_9 h
  · refine x_iconst (v := (1 : Int32)) dX11_asNumber_4 (by decide) ?_
    refine x_goto (tgt := 9) dX11_asNumber_5 (by decide) ?_
    exact x_iret rfl dX11_asNumber_9 h
-- PressedMen way (IIZ)I
abbrev Y_X11_way : ZM := (yX11_way, cX11_way, 4, (some .int), 2, 45)
theorem cw_X11_way : z_CV Y_X11_way 11 3 := ⟨⟨_, _, rfl⟩, by decide, q_263, q_264, q_265, q_70, ⟨by decide, by decide⟩, rfl⟩
def f_X11_way (n0 : Nat) (x1 : Int32) (x2 : Int32) (x3 : Int32) (S : ZH) : Option (Int32 × ZH) :=
  ((zR S 11 n0 0)).bind fun a1 =>
  (f_X10_has a1 x1 S).bind fun q2 =>
  if q2 = 0 then (
    some ((-1 : Int32), S)
  ) else (
    ((zR S 11 n0 0)).bind fun a3 =>
    (f_X10_has a3 x2 S).bind fun q4 =>
    if ¬ q4 = 0 then (
      if ¬ x1 = x2 then (
        ((zR S 11 n0 0)).bind fun a5 =>
        (f_X10_setWay a5 x1 x2 x3 S).bind fun q6 =>
        (f_X11_asNumber q6.1 q6.2).bind fun q7 =>
        some (q7, q6.2)
      ) else (
        some ((-2 : Int32), S)
      )
    ) else (
      some ((-1 : Int32), S)
    )
  )
set_option maxRecDepth 20000 in
set_option maxHeartbeats 1000000 in
theorem w_X11_way {n0 : Nat} {x1 : Int32} {x2 : Int32} {x3 : Int32} {S : ZH} {q : Int32 × ZH} (h : f_X11_way n0 x1 x2 x3 S = some q) : MetX Y_X11_way S [z_r 11 (some n0), z_i x1, z_i x2, z_i x3] (some (z_i q.1)) q.2 := by
  refine MetX.of (lo := [(0, z_r 11 (some n0)), (1, z_i x1), (2, z_i x2), (3, z_i x3)]) rfl (by decide) (Nat.le_of_ble_eq_true rfl) ?_
  unfold f_X11_way at h
  refine x_aload_n 0 dX11_way_0 rfl rfl ?_
  refine x_getR rfl ck_11 0 (by decide) rfl q_190 dX11_way_1 ?_
  refine x_iload_n 1 dX11_way_4 rfl rfl ?_
  refine z_bnd h (fun a1 ha1 h => ?_)
  refine z_bnd h (fun q2 hq2 h => ?_)
  refine x_callV1 ha1 (w_X10_has hq2) cw_X10_has q_266 ⟨by decide, by decide⟩ (Nat.le_of_ble_eq_true rfl) dX11_way_5 rfl ?_
  refine x_if_eq (tgt := 22) dX11_way_8 (by decide) h (fun h => ?_) (fun h => ?_)
  · refine x_iconst (v := (-1 : Int32)) dX11_way_22 (by decide) ?_
    exact x_iretE rfl dX11_way_23 h
  · refine x_aload_n 0 dX11_way_11 rfl rfl ?_
    refine x_getR rfl ck_11 0 (by decide) rfl q_190 dX11_way_12 ?_
    refine x_iload_n 2 dX11_way_15 rfl rfl ?_
    refine z_bnd h (fun a3 ha3 h => ?_)
    refine z_bnd h (fun q4 hq4 h => ?_)
    refine x_callV1 ha3 (w_X10_has hq4) cw_X10_has q_266 ⟨by decide, by decide⟩ (Nat.le_of_ble_eq_true rfl) dX11_way_16 rfl ?_
    refine x_if_ne (tgt := 24) dX11_way_19 (by decide) h (fun h => ?_) (fun h => ?_)
    · refine x_iload_n 1 dX11_way_24 rfl rfl ?_
      refine x_iload_n 2 dX11_way_25 rfl rfl ?_
      refine x_ic_ne (tgt := 32) dX11_way_26 (by decide) h (fun h => ?_) (fun h => ?_)
      · refine x_aload_n 0 dX11_way_32 rfl rfl ?_
        refine x_getR rfl ck_11 0 (by decide) rfl q_190 dX11_way_33 ?_
        refine x_iload_n 1 dX11_way_36 rfl rfl ?_
        refine x_iload_n 2 dX11_way_37 rfl rfl ?_
        refine x_iload_n 3 dX11_way_38 rfl rfl ?_
        refine z_bnd h (fun a5 ha5 h => ?_)
        refine z_bnd h (fun q6 hq6 h => ?_)
        refine x_callV1 ha5 (w_X10_setWay hq6) cw_X10_setWay q_271 ⟨by decide, by decide⟩ (Nat.le_of_ble_eq_true rfl) dX11_way_39 rfl ?_
        refine z_bnd h (fun q7 hq7 h => ?_)
        refine x_callS1 (w_X11_asNumber hq7) cw_X11_asNumber q_275 ⟨by decide, by decide⟩ (Nat.le_of_ble_eq_true rfl) dX11_way_42 rfl ?_
        exact x_iretE rfl dX11_way_45 h
      · refine x_bipush (v := (-2 : Int32)) dX11_way_29 (by decide) ?_
        exact x_iretE rfl dX11_way_31 h
    · refine x_iconst (v := (-1 : Int32)) dX11_way_22 (by decide) ?_
      exact x_iretE rfl dX11_way_23 h
-- java/lang/Math min (II)I
abbrev Y_J9_min_7cf53 : ZM := (yJ9_min_7cf53, cJ9_min_7cf53, 2, (some .int), 0, 0)
theorem cw_J9_min_7cf53 : z_CS Y_J9_min_7cf53 2 := ⟨q_291, q_292, q_77, ⟨by decide, by decide⟩, rfl⟩
def f_J9_min_7cf53 (x0 : Int32) (x1 : Int32) (S : ZH) : Option (Int32) :=
  if x1 < x0 then (
    some x1
  ) else (
    some x0
  )
set_option maxRecDepth 20000 in
set_option maxHeartbeats 1000000 in
theorem w_J9_min_7cf53 {x0 : Int32} {x1 : Int32} {S : ZH} {q : Int32} (h : f_J9_min_7cf53 x0 x1 S = some q) : MetX Y_J9_min_7cf53 S [z_i x0, z_i x1] (some (z_i q)) S := by
  refine MetX.ofF (lo := [(0, z_i x0), (1, z_i x1)]) rfl (by decide +kernel) (Nat.le_of_ble_eq_true rfl) ?_
  unfold f_J9_min_7cf53 at h
  refine x_iload_n 0 dJ9_min_7cf53_0 rfl rfl ?_
  refine x_iload_n 1 dJ9_min_7cf53_1 rfl rfl ?_
  refine x_ic_gt (tgt := 9) dJ9_min_7cf53_2 (by decide) h (fun h => ?_) (fun h => ?_)
  · refine x_iload_n 1 dJ9_min_7cf53_9 rfl rfl ?_
    exact x_iret rfl dJ9_min_7cf53_10 h
  · refine x_iload_n 0 dJ9_min_7cf53_5 rfl rfl ?_
    refine x_goto (tgt := 10) dJ9_min_7cf53_6 (by decide) ?_
    exact x_iret rfl dJ9_min_7cf53_10 h
-- PressedMen$Town measure ()V
abbrev Y_X10_measure : ZM := (yX10_measure, cX10_measure, 5, none, 1, 21)
theorem cw_X10_measure : z_CV Y_X10_measure 10 0 := ⟨⟨_, _, rfl⟩, by decide, q_288, q_0, q_289, q_71, ⟨by decide, by decide⟩, rfl⟩
def b_X10_measure_17 (n0 : Nat) (x1 : Int32) (v : Int32 × ZH) : Option ((Int32 × ZH) ⊕ (ZH)) :=
  if (zI v.2 10 n0 0) ≤ v.1 then (
    some (Sum.inr v.2)
  ) else (
    (f_X10_cell x1 v.1 v.2).bind fun q1 =>
    if ¬ x1 = v.1 then (
      (f_X10_cell x1 v.1 v.2).bind fun q2 =>
      ((zR v.2 10 n0 1)).bind fun a3 =>
      (zld v.2 20 a3 q2).bind fun v4 =>
      if v4 = 0 then (
        ((zR v.2 10 n0 2)).bind fun a5 =>
        (zst v.2 21 a5 q1 (999 : Int32)).bind fun S6 =>
        some (Sum.inl ((v.1 + 1), S6))
      ) else (
        ((zR v.2 10 n0 2)).bind fun a7 =>
        (zst v.2 21 a7 q1 (1 : Int32)).bind fun S8 =>
        some (Sum.inl ((v.1 + 1), S8))
      )
    ) else (
      ((zR v.2 10 n0 2)).bind fun a9 =>
      (zst v.2 21 a9 q1 (0 : Int32)).bind fun S10 =>
      some (Sum.inl ((v.1 + 1), S10))
    )
  )
def b_X10_measure_7 (n0 : Nat) (v : Int32 × ZH) : Option ((Int32 × ZH) ⊕ (ZH)) :=
  if (zI v.2 10 n0 0) ≤ v.1 then (
    some (Sum.inr v.2)
  ) else (
    (z_iter zFU (b_X10_measure_17 n0 v.1) ((0 : Int32), v.2)).bind fun t11 =>
    some (Sum.inl ((v.1 + 1), t11))
  )
def b_X10_measure_98 (n0 : Nat) (x1 : Int32) (x2 : Int32) (v : Int32 × ZH) : Option ((Int32 × ZH) ⊕ (ZH)) :=
  if (zI v.2 10 n0 0) ≤ v.1 then (
    some (Sum.inr v.2)
  ) else (
    (f_X10_cell x2 x1 v.2).bind fun q13 =>
    ((zR v.2 10 n0 2)).bind fun a14 =>
    (zld v.2 21 a14 q13).bind fun v15 =>
    (f_X10_cell x1 v.1 v.2).bind fun q16 =>
    ((zR v.2 10 n0 2)).bind fun a17 =>
    (zld v.2 21 a17 q16).bind fun v18 =>
    (f_X10_cell x2 v.1 v.2).bind fun q19 =>
    (f_X10_cell x2 v.1 v.2).bind fun q20 =>
    ((zR v.2 10 n0 2)).bind fun a21 =>
    (zld v.2 21 a21 q20).bind fun v22 =>
    (f_J9_min_7cf53 v22 (v15 + v18) v.2).bind fun q23 =>
    ((zR v.2 10 n0 2)).bind fun a24 =>
    (zst v.2 21 a24 q19 q23).bind fun S25 =>
    some (Sum.inl ((v.1 + 1), S25))
  )
def b_X10_measure_88 (n0 : Nat) (x1 : Int32) (v : Int32 × ZH) : Option ((Int32 × ZH) ⊕ (ZH)) :=
  if (zI v.2 10 n0 0) ≤ v.1 then (
    some (Sum.inr v.2)
  ) else (
    (z_iter zFU (b_X10_measure_98 n0 x1 v.1) ((0 : Int32), v.2)).bind fun t26 =>
    some (Sum.inl ((v.1 + 1), t26))
  )
def b_X10_measure_78 (n0 : Nat) (v : Int32 × ZH) : Option ((Int32 × ZH) ⊕ (ZH)) :=
  if (zI v.2 10 n0 0) ≤ v.1 then (
    some (Sum.inr v.2)
  ) else (
    (z_iter zFU (b_X10_measure_88 n0 v.1) ((0 : Int32), v.2)).bind fun t27 =>
    some (Sum.inl ((v.1 + 1), t27))
  )
def f_X10_measure (n0 : Nat) (S : ZH) : Option (ZH) :=
  (z_iter zFU (b_X10_measure_7 n0) ((0 : Int32), (zsI S 10 n0 3 (1 : Int32)))).bind fun t12 =>
  (z_iter zFU (b_X10_measure_78 n0) ((0 : Int32), t12)).bind fun t28 =>
  some t28
set_option maxRecDepth 20000 in
theorem l_X10_measure_17 {S0 : ZH} {F : ZP} {n0 : Nat} {x1 : Int32} {v : Int32 × ZH} {t : ZH} (h : z_iter zFU (b_X10_measure_17 n0 x1) v = some t) (k : (fun t => Wp Y_X10_measure S0 F 70 [(0, z_r 10 (some n0)), (1, z_i x1)] [] t) t) : Wp Y_X10_measure S0 F 17 [(0, z_r 10 (some n0)), (1, z_i x1), (2, z_i v.1)] [] v.2 := by
  refine z_iter_P (P := fun v : Int32 × ZH => Wp Y_X10_measure S0 F 17 [(0, z_r 10 (some n0)), (1, z_i x1), (2, z_i v.1)] [] v.2) (X := (fun t => Wp Y_X10_measure S0 F 70 [(0, z_r 10 (some n0)), (1, z_i x1)] [] t)) ?_ _ _ _ h k
  clear h k v t
  intro v r h k
  unfold b_X10_measure_17 at h
  refine x_iload_n 2 dX10_measure_17 rfl rfl ?_
  refine x_aload_n 0 dX10_measure_18 rfl rfl ?_
  refine x_getI rfl ck_10 0 (by decide) rfl q_102 dX10_measure_19 ?_
  refine x_ic_ge (tgt := 70) dX10_measure_22 (by decide) h (fun h => ?_) (fun h => ?_)
  · cases h
    exact x_lo [0, 1] rfl k
  · refine x_aload_n 0 dX10_measure_25 rfl rfl ?_
    refine x_getR rfl ck_10 2 (by decide) rfl q_106 dX10_measure_26 ?_
    refine x_iload_n 1 dX10_measure_29 rfl rfl ?_
    refine x_iload_n 2 dX10_measure_30 rfl rfl ?_
    refine z_bnd h (fun q1 hq1 h => ?_)
    refine x_callS1 (w_X10_cell hq1) cw_X10_cell q_259 ⟨by decide, by decide⟩ (Nat.le_of_ble_eq_true rfl) dX10_measure_31 rfl ?_
    refine x_iload_n 1 dX10_measure_34 rfl rfl ?_
    refine x_iload_n 2 dX10_measure_35 rfl rfl ?_
    refine x_ic_ne (tgt := 43) dX10_measure_36 (by decide) h (fun h => ?_) (fun h => ?_)
    · refine x_aload_n 0 dX10_measure_43 rfl rfl ?_
      refine x_getR rfl ck_10 1 (by decide) rfl q_105 dX10_measure_44 ?_
      refine x_iload_n 1 dX10_measure_47 rfl rfl ?_
      refine x_iload_n 2 dX10_measure_48 rfl rfl ?_
      refine z_bnd h (fun q2 hq2 h => ?_)
      refine x_callS1 (w_X10_cell hq2) cw_X10_cell q_259 ⟨by decide, by decide⟩ (Nat.le_of_ble_eq_true rfl) dX10_measure_49 rfl ?_
      refine z_bnd h (fun a3 ha3 h => ?_)
      refine x_zaload ha3 ak_20 dX10_measure_52 h (fun v4 hv4 h => ?_)
      refine x_if_eq (tgt := 60) dX10_measure_53 (by decide) h (fun h => ?_) (fun h => ?_)
      · refine x_sipush (v := (999 : Int32)) dX10_measure_60 (by decide) ?_
        refine z_bnd h (fun a5 ha5 h => ?_)
        refine x_iastore ha5 ak_21 dX10_measure_63 h (fun S6 hS6 h => ?_)
        refine x_iinc (v := (v.1 + 1)) (lo' := [(2, z_i (v.1 + 1)), (0, z_r 10 (some n0)), (1, z_i x1)]) 2 dX10_measure_64 rfl (congrArg (HAdd.hAdd v.1) (by decide)) (by decide) rfl ?_
        refine x_goto (tgt := 17) dX10_measure_67 (by decide) ?_
        cases h
        exact x_lo [1, 2, 0] rfl k
      · refine x_iconst (v := (1 : Int32)) dX10_measure_56 (by decide) ?_
        refine x_goto (tgt := 63) dX10_measure_57 (by decide) ?_
        refine z_bnd h (fun a7 ha7 h => ?_)
        refine x_iastore ha7 ak_21 dX10_measure_63 h (fun S8 hS8 h => ?_)
        refine x_iinc (v := (v.1 + 1)) (lo' := [(2, z_i (v.1 + 1)), (0, z_r 10 (some n0)), (1, z_i x1)]) 2 dX10_measure_64 rfl (congrArg (HAdd.hAdd v.1) (by decide)) (by decide) rfl ?_
        refine x_goto (tgt := 17) dX10_measure_67 (by decide) ?_
        cases h
        exact x_lo [1, 2, 0] rfl k
    · refine x_iconst (v := (0 : Int32)) dX10_measure_39 (by decide) ?_
      refine x_goto (tgt := 63) dX10_measure_40 (by decide) ?_
      refine z_bnd h (fun a9 ha9 h => ?_)
      refine x_iastore ha9 ak_21 dX10_measure_63 h (fun S10 hS10 h => ?_)
      refine x_iinc (v := (v.1 + 1)) (lo' := [(2, z_i (v.1 + 1)), (0, z_r 10 (some n0)), (1, z_i x1)]) 2 dX10_measure_64 rfl (congrArg (HAdd.hAdd v.1) (by decide)) (by decide) rfl ?_
      refine x_goto (tgt := 17) dX10_measure_67 (by decide) ?_
      cases h
      exact x_lo [1, 2, 0] rfl k
set_option maxRecDepth 20000 in
theorem l_X10_measure_7 {S0 : ZH} {F : ZP} {n0 : Nat} {v : Int32 × ZH} {t : ZH} (h : z_iter zFU (b_X10_measure_7 n0) v = some t) (k : (fun t => Wp Y_X10_measure S0 F 76 [(0, z_r 10 (some n0))] [] t) t) : Wp Y_X10_measure S0 F 7 [(0, z_r 10 (some n0)), (1, z_i v.1)] [] v.2 := by
  refine z_iter_P (P := fun v : Int32 × ZH => Wp Y_X10_measure S0 F 7 [(0, z_r 10 (some n0)), (1, z_i v.1)] [] v.2) (X := (fun t => Wp Y_X10_measure S0 F 76 [(0, z_r 10 (some n0))] [] t)) ?_ _ _ _ h k
  clear h k v t
  intro v r h k
  unfold b_X10_measure_7 at h
  refine x_iload_n 1 dX10_measure_7 rfl rfl ?_
  refine x_aload_n 0 dX10_measure_8 rfl rfl ?_
  refine x_getI rfl ck_10 0 (by decide) rfl q_102 dX10_measure_9 ?_
  refine x_ic_ge (tgt := 76) dX10_measure_12 (by decide) h (fun h => ?_) (fun h => ?_)
  · cases h
    exact x_lo [0] rfl k
  · refine x_iconst (v := (0 : Int32)) dX10_measure_15 (by decide) ?_
    refine x_istore_n (lo' := [(2, z_i (0 : Int32)), (0, z_r 10 (some n0)), (1, z_i v.1)]) dX10_measure_16 rfl (by decide) rfl ?_
    refine z_bnd h (fun t11 ht11 h => ?_)
    refine x_lo [1, 2, 0] rfl ?_
    refine l_X10_measure_17 ht11 ?_
    refine x_iinc (v := (v.1 + 1)) (lo' := [(1, z_i (v.1 + 1)), (0, z_r 10 (some n0))]) 1 dX10_measure_70 rfl (congrArg (HAdd.hAdd v.1) (by decide)) (by decide) rfl ?_
    refine x_goto (tgt := 7) dX10_measure_73 (by decide) ?_
    cases h
    exact x_lo [1, 0] rfl k
set_option maxRecDepth 20000 in
theorem l_X10_measure_98 {S0 : ZH} {F : ZP} {n0 : Nat} {x1 : Int32} {x2 : Int32} {v : Int32 × ZH} {t : ZH} (h : z_iter zFU (b_X10_measure_98 n0 x1 x2) v = some t) (k : (fun t => Wp Y_X10_measure S0 F 160 [(0, z_r 10 (some n0)), (1, z_i x1), (2, z_i x2)] [] t) t) : Wp Y_X10_measure S0 F 98 [(0, z_r 10 (some n0)), (1, z_i x1), (2, z_i x2), (3, z_i v.1)] [] v.2 := by
  refine z_iter_P (P := fun v : Int32 × ZH => Wp Y_X10_measure S0 F 98 [(0, z_r 10 (some n0)), (1, z_i x1), (2, z_i x2), (3, z_i v.1)] [] v.2) (X := (fun t => Wp Y_X10_measure S0 F 160 [(0, z_r 10 (some n0)), (1, z_i x1), (2, z_i x2)] [] t)) ?_ _ _ _ h k
  clear h k v t
  intro v r h k
  unfold b_X10_measure_98 at h
  refine x_iload_n 3 dX10_measure_98 rfl rfl ?_
  refine x_aload_n 0 dX10_measure_99 rfl rfl ?_
  refine x_getI rfl ck_10 0 (by decide) rfl q_102 dX10_measure_100 ?_
  refine x_ic_ge (tgt := 160) dX10_measure_103 (by decide) h (fun h => ?_) (fun h => ?_)
  · cases h
    exact x_lo [0, 1, 2] rfl k
  · refine x_aload_n 0 dX10_measure_106 rfl rfl ?_
    refine x_getR rfl ck_10 2 (by decide) rfl q_106 dX10_measure_107 ?_
    refine x_iload_n 2 dX10_measure_110 rfl rfl ?_
    refine x_iload_n 1 dX10_measure_111 rfl rfl ?_
    refine z_bnd h (fun q13 hq13 h => ?_)
    refine x_callS1 (w_X10_cell hq13) cw_X10_cell q_259 ⟨by decide, by decide⟩ (Nat.le_of_ble_eq_true rfl) dX10_measure_112 rfl ?_
    refine z_bnd h (fun a14 ha14 h => ?_)
    refine x_iaload ha14 ak_21 dX10_measure_115 h (fun v15 hv15 h => ?_)
    refine x_aload_n 0 dX10_measure_116 rfl rfl ?_
    refine x_getR rfl ck_10 2 (by decide) rfl q_106 dX10_measure_117 ?_
    refine x_iload_n 1 dX10_measure_120 rfl rfl ?_
    refine x_iload_n 3 dX10_measure_121 rfl rfl ?_
    refine z_bnd h (fun q16 hq16 h => ?_)
    refine x_callS1 (w_X10_cell hq16) cw_X10_cell q_259 ⟨by decide, by decide⟩ (Nat.le_of_ble_eq_true rfl) dX10_measure_122 rfl ?_
    refine z_bnd h (fun a17 ha17 h => ?_)
    refine x_iaload ha17 ak_21 dX10_measure_125 h (fun v18 hv18 h => ?_)
    refine x_iadd dX10_measure_126 ?_
    refine x_istore (lo' := [(4, z_i (v15 + v18)), (0, z_r 10 (some n0)), (1, z_i x1), (2, z_i x2), (3, z_i v.1)]) dX10_measure_127 (by decide) rfl ?_
    refine x_aload_n 1 dX10_measure_129 rfl rfl ?_
    refine x_getR rfl ck_10 2 (by decide) rfl q_106 dX10_measure_130 ?_
    refine x_iload_n 3 dX10_measure_133 rfl rfl ?_
    refine x_iload_n 4 dX10_measure_134 rfl rfl ?_
    refine z_bnd h (fun q19 hq19 h => ?_)
    refine x_callS1 (w_X10_cell hq19) cw_X10_cell q_259 ⟨by decide, by decide⟩ (Nat.le_of_ble_eq_true rfl) dX10_measure_135 rfl ?_
    refine x_aload_n 1 dX10_measure_138 rfl rfl ?_
    refine x_getR rfl ck_10 2 (by decide) rfl q_106 dX10_measure_139 ?_
    refine x_iload_n 3 dX10_measure_142 rfl rfl ?_
    refine x_iload_n 4 dX10_measure_143 rfl rfl ?_
    refine z_bnd h (fun q20 hq20 h => ?_)
    refine x_callS1 (w_X10_cell hq20) cw_X10_cell q_259 ⟨by decide, by decide⟩ (Nat.le_of_ble_eq_true rfl) dX10_measure_144 rfl ?_
    refine z_bnd h (fun a21 ha21 h => ?_)
    refine x_iaload ha21 ak_21 dX10_measure_147 h (fun v22 hv22 h => ?_)
    refine x_iload 0 dX10_measure_148 rfl ?_
    refine z_bnd h (fun q23 hq23 h => ?_)
    refine x_callS1 (w_J9_min_7cf53 hq23) cw_J9_min_7cf53 q_290 ⟨by decide, by decide⟩ (Nat.le_of_ble_eq_true rfl) dX10_measure_150 rfl ?_
    refine z_bnd h (fun a24 ha24 h => ?_)
    refine x_iastore ha24 ak_21 dX10_measure_153 h (fun S25 hS25 h => ?_)
    refine x_iinc (v := (v.1 + 1)) (lo' := [(3, z_i (v.1 + 1)), (4, z_i (v15 + v18)), (0, z_r 10 (some n0)), (1, z_i x1), (2, z_i x2)]) 4 dX10_measure_154 rfl (congrArg (HAdd.hAdd v.1) (by decide)) (by decide) rfl ?_
    refine x_goto (tgt := 98) dX10_measure_157 (by decide) ?_
    cases h
    exact x_lo [2, 3, 4, 0] rfl k
set_option maxRecDepth 20000 in
theorem l_X10_measure_88 {S0 : ZH} {F : ZP} {n0 : Nat} {x1 : Int32} {v : Int32 × ZH} {t : ZH} (h : z_iter zFU (b_X10_measure_88 n0 x1) v = some t) (k : (fun t => Wp Y_X10_measure S0 F 166 [(0, z_r 10 (some n0)), (1, z_i x1)] [] t) t) : Wp Y_X10_measure S0 F 88 [(0, z_r 10 (some n0)), (1, z_i x1), (2, z_i v.1)] [] v.2 := by
  refine z_iter_P (P := fun v : Int32 × ZH => Wp Y_X10_measure S0 F 88 [(0, z_r 10 (some n0)), (1, z_i x1), (2, z_i v.1)] [] v.2) (X := (fun t => Wp Y_X10_measure S0 F 166 [(0, z_r 10 (some n0)), (1, z_i x1)] [] t)) ?_ _ _ _ h k
  clear h k v t
  intro v r h k
  unfold b_X10_measure_88 at h
  refine x_iload_n 2 dX10_measure_88 rfl rfl ?_
  refine x_aload_n 0 dX10_measure_89 rfl rfl ?_
  refine x_getI rfl ck_10 0 (by decide) rfl q_102 dX10_measure_90 ?_
  refine x_ic_ge (tgt := 166) dX10_measure_93 (by decide) h (fun h => ?_) (fun h => ?_)
  · cases h
    exact x_lo [0, 1] rfl k
  · refine x_iconst (v := (0 : Int32)) dX10_measure_96 (by decide) ?_
    refine x_istore_n (lo' := [(3, z_i (0 : Int32)), (0, z_r 10 (some n0)), (1, z_i x1), (2, z_i v.1)]) dX10_measure_97 rfl (by decide) rfl ?_
    refine z_bnd h (fun t26 ht26 h => ?_)
    refine x_lo [1, 2, 3, 0] rfl ?_
    refine l_X10_measure_98 ht26 ?_
    refine x_iinc (v := (v.1 + 1)) (lo' := [(2, z_i (v.1 + 1)), (0, z_r 10 (some n0)), (1, z_i x1)]) 2 dX10_measure_160 rfl (congrArg (HAdd.hAdd v.1) (by decide)) (by decide) rfl ?_
    refine x_goto (tgt := 88) dX10_measure_163 (by decide) ?_
    cases h
    exact x_lo [1, 2, 0] rfl k
set_option maxRecDepth 20000 in
theorem l_X10_measure_78 {S0 : ZH} {F : ZP} {n0 : Nat} {v : Int32 × ZH} {t : ZH} (h : z_iter zFU (b_X10_measure_78 n0) v = some t) (k : (fun t => Wp Y_X10_measure S0 F 172 [] [] t) t) : Wp Y_X10_measure S0 F 78 [(0, z_r 10 (some n0)), (1, z_i v.1)] [] v.2 := by
  refine z_iter_P (P := fun v : Int32 × ZH => Wp Y_X10_measure S0 F 78 [(0, z_r 10 (some n0)), (1, z_i v.1)] [] v.2) (X := (fun t => Wp Y_X10_measure S0 F 172 [] [] t)) ?_ _ _ _ h k
  clear h k v t
  intro v r h k
  unfold b_X10_measure_78 at h
  refine x_iload_n 1 dX10_measure_78 rfl rfl ?_
  refine x_aload_n 0 dX10_measure_79 rfl rfl ?_
  refine x_getI rfl ck_10 0 (by decide) rfl q_102 dX10_measure_80 ?_
  refine x_ic_ge (tgt := 172) dX10_measure_83 (by decide) h (fun h => ?_) (fun h => ?_)
  · cases h
    exact x_lo [] rfl k
  · refine x_iconst (v := (0 : Int32)) dX10_measure_86 (by decide) ?_
    refine x_istore_n (lo' := [(2, z_i (0 : Int32)), (0, z_r 10 (some n0)), (1, z_i v.1)]) dX10_measure_87 rfl (by decide) rfl ?_
    refine z_bnd h (fun t27 ht27 h => ?_)
    refine x_lo [1, 2, 0] rfl ?_
    refine l_X10_measure_88 ht27 ?_
    refine x_iinc (v := (v.1 + 1)) (lo' := [(1, z_i (v.1 + 1)), (0, z_r 10 (some n0))]) 1 dX10_measure_166 rfl (congrArg (HAdd.hAdd v.1) (by decide)) (by decide) rfl ?_
    refine x_goto (tgt := 78) dX10_measure_169 (by decide) ?_
    cases h
    exact x_lo [1, 0] rfl k
set_option maxRecDepth 20000 in
set_option maxHeartbeats 1000000 in
theorem w_X10_measure {n0 : Nat} {S : ZH} {q : ZH} (h : f_X10_measure n0 S = some q) : MetX Y_X10_measure S [z_r 10 (some n0)] none q := by
  refine MetX.of (lo := [(0, z_r 10 (some n0))]) rfl (by decide) (Nat.le_of_ble_eq_true rfl) ?_
  unfold f_X10_measure at h
  refine x_aload_n 0 dX10_measure_0 rfl rfl ?_
  refine x_iconst (v := (1 : Int32)) dX10_measure_1 (by decide) ?_
  refine x_putI rfl ck_10 3 (by decide) rfl (Or.inl rfl) (by decide) rfl q_107 dX10_measure_2 ?_
  refine x_iconst (v := (0 : Int32)) dX10_measure_5 (by decide) ?_
  refine x_istore_n (lo' := [(1, z_i (0 : Int32)), (0, z_r 10 (some n0))]) dX10_measure_6 rfl (by decide) rfl ?_
  refine z_bnd h (fun t12 ht12 h => ?_)
  refine x_lo [1, 0] rfl ?_
  refine l_X10_measure_7 ht12 ?_
  refine x_iconst (v := (0 : Int32)) dX10_measure_76 (by decide) ?_
  refine x_istore_n (lo' := [(1, z_i (0 : Int32)), (0, z_r 10 (some n0))]) dX10_measure_77 rfl (by decide) rfl ?_
  refine z_bnd h (fun t28 ht28 h => ?_)
  refine x_lo [1, 0] rfl ?_
  refine l_X10_measure_78 ht28 ?_
  exact x_vretE rfl dX10_measure_172 h
-- PressedMen$Town hops (II)I
abbrev Y_X10_hops : ZM := (yX10_hops, cX10_hops, 3, (some .int), 2, 45)
theorem cw_X10_hops : z_CV Y_X10_hops 10 2 := ⟨⟨_, _, rfl⟩, by decide, q_283, q_284, q_285, q_71, ⟨by decide, by decide⟩, rfl⟩
def j_X10_hops_11 (n0 : Nat) (x1 : Int32) (x2 : Int32)  (S : ZH) : Option (Int32 × ZH) :=
  (f_X10_cell x1 x2 S).bind fun q1 =>
  ((zR S 10 n0 2)).bind fun a2 =>
  (zld S 21 a2 q1).bind fun v3 =>
  some (v3, S)
def f_X10_hops (n0 : Nat) (x1 : Int32) (x2 : Int32) (S : ZH) : Option (Int32 × ZH) :=
  if ¬ (zI S 10 n0 3) = 0 then (
    j_X10_hops_11 n0 x1 x2 S
  ) else (
    (f_X10_measure n0 S).bind fun q4 =>
    j_X10_hops_11 n0 x1 x2 q4
  )
set_option maxRecDepth 20000 in
theorem k_X10_hops_11 {S0 : ZH} {n0 : Nat} {x1 : Int32} {x2 : Int32}  {S : ZH} {z : Int32 × ZH} (h : j_X10_hops_11 n0 x1 x2 S = some z) : Wp Y_X10_hops S0 (zF S0 (some (z_i z.1)) z.2) 11 [(0, z_r 10 (some n0)), (1, z_i x1), (2, z_i x2)] [] S := by
  unfold j_X10_hops_11 at h
  refine x_aload_n 0 dX10_hops_11 rfl rfl ?_
  refine x_getR rfl ck_10 2 (by decide) rfl q_106 dX10_hops_12 ?_
  refine x_iload_n 1 dX10_hops_15 rfl rfl ?_
  refine x_iload_n 2 dX10_hops_16 rfl rfl ?_
  refine z_bnd h (fun q1 hq1 h => ?_)
  refine x_callS1 (w_X10_cell hq1) cw_X10_cell q_259 ⟨by decide, by decide⟩ (Nat.le_of_ble_eq_true rfl) dX10_hops_17 rfl ?_
  refine z_bnd h (fun a2 ha2 h => ?_)
  refine x_iaload ha2 ak_21 dX10_hops_20 h (fun v3 hv3 h => ?_)
  exact x_iretE rfl dX10_hops_21 h
set_option maxRecDepth 20000 in
set_option maxHeartbeats 1000000 in
theorem w_X10_hops {n0 : Nat} {x1 : Int32} {x2 : Int32} {S : ZH} {q : Int32 × ZH} (h : f_X10_hops n0 x1 x2 S = some q) : MetX Y_X10_hops S [z_r 10 (some n0), z_i x1, z_i x2] (some (z_i q.1)) q.2 := by
  refine MetX.of (lo := [(0, z_r 10 (some n0)), (1, z_i x1), (2, z_i x2)]) rfl (by decide) (Nat.le_of_ble_eq_true rfl) ?_
  unfold f_X10_hops at h
  refine x_aload_n 0 dX10_hops_0 rfl rfl ?_
  refine x_getI rfl ck_10 3 (by decide) rfl q_107 dX10_hops_1 ?_
  refine x_if_ne (tgt := 11) dX10_hops_4 (by decide) h (fun h => ?_) (fun h => ?_)
  · exact x_lo [0, 1, 2] rfl (k_X10_hops_11 h)
  · refine x_aload_n 0 dX10_hops_7 rfl rfl ?_
    refine z_bnd h (fun q4 hq4 h => ?_)
    refine x_callVv rfl (w_X10_measure hq4) cw_X10_measure q_286 ⟨by decide, by decide⟩ (Nat.le_of_ble_eq_true rfl) dX10_hops_8 rfl ?_
    exact x_lo [0, 1, 2] rfl (k_X10_hops_11 h)
-- PressedMen far (II)I
abbrev Y_X11_far : ZM := (yX11_far, cX11_far, 4, (some .int), 3, 67)
theorem cw_X11_far : z_CV Y_X11_far 11 2 := ⟨⟨_, _, rfl⟩, by decide, q_279, q_280, q_281, q_70, ⟨by decide, by decide⟩, rfl⟩
def f_X11_far (n0 : Nat) (x1 : Int32) (x2 : Int32) (S : ZH) : Option (Int32 × ZH) :=
  ((zR S 11 n0 0)).bind fun a1 =>
  (f_X10_has a1 x1 S).bind fun q2 =>
  if q2 = 0 then (
    some ((-1 : Int32), S)
  ) else (
    ((zR S 11 n0 0)).bind fun a3 =>
    (f_X10_has a3 x2 S).bind fun q4 =>
    if ¬ q4 = 0 then (
      ((zR S 11 n0 0)).bind fun a5 =>
      (f_X10_hops a5 x1 x2 S).bind fun q6 =>
      if ¬ q6.1 = (999 : Int32) then (
        some (q6.1, q6.2)
      ) else (
        some ((-9 : Int32), q6.2)
      )
    ) else (
      some ((-1 : Int32), S)
    )
  )
set_option maxRecDepth 20000 in
set_option maxHeartbeats 1000000 in
theorem w_X11_far {n0 : Nat} {x1 : Int32} {x2 : Int32} {S : ZH} {q : Int32 × ZH} (h : f_X11_far n0 x1 x2 S = some q) : MetX Y_X11_far S [z_r 11 (some n0), z_i x1, z_i x2] (some (z_i q.1)) q.2 := by
  refine MetX.of (lo := [(0, z_r 11 (some n0)), (1, z_i x1), (2, z_i x2)]) rfl (by decide) (Nat.le_of_ble_eq_true rfl) ?_
  unfold f_X11_far at h
  refine x_aload_n 0 dX11_far_0 rfl rfl ?_
  refine x_getR rfl ck_11 0 (by decide) rfl q_190 dX11_far_1 ?_
  refine x_iload_n 1 dX11_far_4 rfl rfl ?_
  refine z_bnd h (fun a1 ha1 h => ?_)
  refine z_bnd h (fun q2 hq2 h => ?_)
  refine x_callV1 ha1 (w_X10_has hq2) cw_X10_has q_266 ⟨by decide, by decide⟩ (Nat.le_of_ble_eq_true rfl) dX11_far_5 rfl ?_
  refine x_if_eq (tgt := 22) dX11_far_8 (by decide) h (fun h => ?_) (fun h => ?_)
  · refine x_iconst (v := (-1 : Int32)) dX11_far_22 (by decide) ?_
    exact x_iretE rfl dX11_far_23 h
  · refine x_aload_n 0 dX11_far_11 rfl rfl ?_
    refine x_getR rfl ck_11 0 (by decide) rfl q_190 dX11_far_12 ?_
    refine x_iload_n 2 dX11_far_15 rfl rfl ?_
    refine z_bnd h (fun a3 ha3 h => ?_)
    refine z_bnd h (fun q4 hq4 h => ?_)
    refine x_callV1 ha3 (w_X10_has hq4) cw_X10_has q_266 ⟨by decide, by decide⟩ (Nat.le_of_ble_eq_true rfl) dX11_far_16 rfl ?_
    refine x_if_ne (tgt := 24) dX11_far_19 (by decide) h (fun h => ?_) (fun h => ?_)
    · refine x_aload_n 0 dX11_far_24 rfl rfl ?_
      refine x_getR rfl ck_11 0 (by decide) rfl q_190 dX11_far_25 ?_
      refine x_iload_n 1 dX11_far_28 rfl rfl ?_
      refine x_iload_n 2 dX11_far_29 rfl rfl ?_
      refine z_bnd h (fun a5 ha5 h => ?_)
      refine z_bnd h (fun q6 hq6 h => ?_)
      refine x_callV1 ha5 (w_X10_hops hq6) cw_X10_hops q_282 ⟨by decide, by decide⟩ (Nat.le_of_ble_eq_true rfl) dX11_far_30 rfl ?_
      refine x_istore_n (lo' := [(3, z_i q6.1), (0, z_r 11 (some n0)), (1, z_i x1), (2, z_i x2)]) dX11_far_33 rfl (by decide) rfl ?_
      refine x_iload_n 0 dX11_far_34 rfl rfl ?_
      refine x_sipush (v := (999 : Int32)) dX11_far_35 (by decide) ?_
      refine x_ic_ne (tgt := 46) dX11_far_38 (by decide) h (fun h => ?_) (fun h => ?_)
      · refine x_iload_n 0 dX11_far_46 rfl rfl ?_
        exact x_iretE rfl dX11_far_47 h
      · refine x_bipush (v := (-9 : Int32)) dX11_far_41 (by decide) ?_
        refine x_goto (tgt := 47) dX11_far_43 (by decide) ?_
        exact x_iretE rfl dX11_far_47 h
    · refine x_iconst (v := (-1 : Int32)) dX11_far_22 (by decide) ?_
      exact x_iretE rfl dX11_far_23 h
-- PressedMen$Man <init> (IIIIIII)V
abbrev Y_X3_init : ZM := (yX3_init, cX3_init, 8, none, 1, 20)
theorem cw_X3_init : z_CI Y_X3_init 7 := ⟨rfl, rfl, q_299, q_300, q_78, ⟨by decide, by decide⟩, rfl⟩
def f_X3_init (n0 : Nat) (x1 : Int32) (x2 : Int32) (x3 : Int32) (x4 : Int32) (x5 : Int32) (x6 : Int32) (x7 : Int32) (S : ZH) : Option (ZH) :=
  (znw S 17 (4 : Int32)).bind fun S1 =>
  (znw (zsR S1 3 n0 11 (some (zN S 17))) 18 (4 : Int32)).bind fun S2 =>
  some (zsI (zsI (zsI (zsI (zsI (zsI (zsI (zsI (zsR S2 3 n0 12 (some (zN (zsR S1 3 n0 11 (some (zN S 17))) 18))) 3 n0 0 x1) 3 n0 1 x2) 3 n0 2 x3) 3 n0 3 x4) 3 n0 4 x5) 3 n0 5 x6) 3 n0 6 x7) 3 n0 8 x7)
set_option maxRecDepth 20000 in
set_option maxHeartbeats 1000000 in
theorem w_X3_init {n0 : Nat} {x1 : Int32} {x2 : Int32} {x3 : Int32} {x4 : Int32} {x5 : Int32} {x6 : Int32} {x7 : Int32} {S : ZH} {q : ZH} (h : f_X3_init n0 x1 x2 x3 x4 x5 x6 x7 S = some q) : MetX Y_X3_init S [z_r 3 (some n0), z_i x1, z_i x2, z_i x3, z_i x4, z_i x5, z_i x6, z_i x7] none q := by
  refine MetX.of (lo := [(0, z_r 3 (some n0)), (1, z_i x1), (2, z_i x2), (3, z_i x3), (4, z_i x4), (5, z_i x5), (6, z_i x6), (7, z_i x7)]) rfl (by decide) (Nat.le_of_ble_eq_true rfl) ?_
  unfold f_X3_init at h
  refine x_aload_n 0 dX3_init_0 rfl rfl ?_
  refine x_objInit rfl q_301 q_94 q_95 ⟨by decide, by decide⟩ (Nat.le_of_ble_eq_true rfl) dX3_init_1 ?_
  refine x_aload_n 0 dX3_init_4 rfl rfl ?_
  refine x_iconst (v := (4 : Int32)) dX3_init_5 (by decide) ?_
  refine x_newa ak_17 at_int dX3_init_6 h (fun S1 hS1 h => ?_)
  refine x_putR rfl ck_3 11 (by decide) rfl (Or.inl rfl) (Or.inr ⟨_, rfl⟩) q_330 dX3_init_8 ?_
  refine x_aload_n 0 dX3_init_11 rfl rfl ?_
  refine x_iconst (v := (4 : Int32)) dX3_init_12 (by decide) ?_
  refine x_newa ak_18 at_int dX3_init_13 h (fun S2 hS2 h => ?_)
  refine x_putR rfl ck_3 12 (by decide) rfl (Or.inl rfl) (Or.inr ⟨_, rfl⟩) q_331 dX3_init_15 ?_
  refine x_aload_n 0 dX3_init_18 rfl rfl ?_
  refine x_iload_n 1 dX3_init_19 rfl rfl ?_
  refine x_putI rfl ck_3 0 (by decide) rfl (Or.inr ⟨rfl, rfl, rfl⟩) (by rfl) rfl q_302 dX3_init_20 ?_
  refine x_aload_n 0 dX3_init_23 rfl rfl ?_
  refine x_iload_n 2 dX3_init_24 rfl rfl ?_
  refine x_putI rfl ck_3 1 (by decide) rfl (Or.inr ⟨rfl, rfl, rfl⟩) (by rfl) rfl q_306 dX3_init_25 ?_
  refine x_aload_n 0 dX3_init_28 rfl rfl ?_
  refine x_iload_n 3 dX3_init_29 rfl rfl ?_
  refine x_putI rfl ck_3 2 (by decide) rfl (Or.inr ⟨rfl, rfl, rfl⟩) (by rfl) rfl q_309 dX3_init_30 ?_
  refine x_aload_n 0 dX3_init_33 rfl rfl ?_
  refine x_iload 4 dX3_init_34 rfl ?_
  refine x_putI rfl ck_3 3 (by decide) rfl (Or.inr ⟨rfl, rfl, rfl⟩) (by rfl) rfl q_312 dX3_init_36 ?_
  refine x_aload_n 0 dX3_init_39 rfl rfl ?_
  refine x_iload 5 dX3_init_40 rfl ?_
  refine x_putI rfl ck_3 4 (by decide) rfl (Or.inr ⟨rfl, rfl, rfl⟩) (by rfl) rfl q_315 dX3_init_42 ?_
  refine x_aload_n 0 dX3_init_45 rfl rfl ?_
  refine x_iload 6 dX3_init_46 rfl ?_
  refine x_putI rfl ck_3 5 (by decide) rfl (Or.inr ⟨rfl, rfl, rfl⟩) (by rfl) rfl q_318 dX3_init_48 ?_
  refine x_aload_n 0 dX3_init_51 rfl rfl ?_
  refine x_iload 7 dX3_init_52 rfl ?_
  refine x_putI rfl ck_3 6 (by decide) rfl (Or.inr ⟨rfl, rfl, rfl⟩) (by rfl) rfl q_321 dX3_init_54 ?_
  refine x_aload_n 0 dX3_init_57 rfl rfl ?_
  refine x_iload 7 dX3_init_58 rfl ?_
  refine x_putI rfl ck_3 8 (by decide) rfl (Or.inl rfl) (by rfl) rfl q_325 dX3_init_60 ?_
  exact x_vretE rfl dX3_init_63 h
-- PressedMen man (IIIIIII)I
abbrev Y_X11_man : ZM := (yX11_man, cX11_man, 8, (some .int), 2, 47)
theorem cw_X11_man : z_CV Y_X11_man 11 7 := ⟨⟨_, _, rfl⟩, by decide, q_294, q_295, q_296, q_70, ⟨by decide, by decide⟩, rfl⟩
def f_X11_man (n0 : Nat) (x1 : Int32) (x2 : Int32) (x3 : Int32) (x4 : Int32) (x5 : Int32) (x6 : Int32) (x7 : Int32) (S : ZH) : Option (Int32 × ZH) :=
  ((zR S 11 n0 0)).bind fun a1 =>
  (f_X10_has a1 x7 S).bind fun q2 =>
  if ¬ q2 = 0 then (
    (f_X11_within x1 (10 : Int32) (60 : Int32) S).bind fun q3 =>
    if q3 = 0 then (
      some ((-2 : Int32), S)
    ) else (
      (f_X11_within x2 (0 : Int32) (3 : Int32) S).bind fun q4 =>
      if q4 = 0 then (
        some ((-2 : Int32), S)
      ) else (
        (f_X11_within x3 (0 : Int32) (3 : Int32) S).bind fun q5 =>
        if q5 = 0 then (
          some ((-2 : Int32), S)
        ) else (
          (f_X11_within x4 (50 : Int32) (80 : Int32) S).bind fun q6 =>
          if q6 = 0 then (
            some ((-2 : Int32), S)
          ) else (
            (f_X11_within x5 (0 : Int32) (5 : Int32) S).bind fun q7 =>
            if q7 = 0 then (
              some ((-2 : Int32), S)
            ) else (
              (f_X11_within x6 (0 : Int32) (40 : Int32) S).bind fun q8 =>
              if ¬ q8 = 0 then (
                if (zI S 11 n0 2) < (40 : Int32) then (
                  (zal S 3 14).bind fun S9 =>
                  (f_X3_init (zN S 3) x1 x2 x3 x4 x5 x6 x7 S9).bind fun q10 =>
                  ((zR S 11 n0 1)).bind fun a11 =>
                  (zstR q10 22 a11 (zI S 11 n0 2) (some (zN S 3))).bind fun S12 =>
                  some (((zI (zsI S12 11 n0 2 ((zI S12 11 n0 2) + (1 : Int32))) 11 n0 2) - (1 : Int32)), (zsI S12 11 n0 2 ((zI S12 11 n0 2) + (1 : Int32))))
                ) else (
                  some ((-4 : Int32), S)
                )
              ) else (
                some ((-2 : Int32), S)
              )
            )
          )
        )
      )
    )
  ) else (
    some ((-1 : Int32), S)
  )
set_option maxRecDepth 20000 in
set_option maxHeartbeats 1000000 in
theorem w_X11_man {n0 : Nat} {x1 : Int32} {x2 : Int32} {x3 : Int32} {x4 : Int32} {x5 : Int32} {x6 : Int32} {x7 : Int32} {S : ZH} {q : Int32 × ZH} (h : f_X11_man n0 x1 x2 x3 x4 x5 x6 x7 S = some q) : MetX Y_X11_man S [z_r 11 (some n0), z_i x1, z_i x2, z_i x3, z_i x4, z_i x5, z_i x6, z_i x7] (some (z_i q.1)) q.2 := by
  refine MetX.of (lo := [(0, z_r 11 (some n0)), (1, z_i x1), (2, z_i x2), (3, z_i x3), (4, z_i x4), (5, z_i x5), (6, z_i x6), (7, z_i x7)]) rfl (by decide) (Nat.le_of_ble_eq_true rfl) ?_
  unfold f_X11_man at h
  refine x_aload_n 0 dX11_man_0 rfl rfl ?_
  refine x_getR rfl ck_11 0 (by decide) rfl q_190 dX11_man_1 ?_
  refine x_iload 7 dX11_man_4 rfl ?_
  refine z_bnd h (fun a1 ha1 h => ?_)
  refine z_bnd h (fun q2 hq2 h => ?_)
  refine x_callV1 ha1 (w_X10_has hq2) cw_X10_has q_266 ⟨by decide, by decide⟩ (Nat.le_of_ble_eq_true rfl) dX11_man_6 rfl ?_
  refine x_if_ne (tgt := 14) dX11_man_9 (by decide) h (fun h => ?_) (fun h => ?_)
  · refine x_iload_n 1 dX11_man_14 rfl rfl ?_
    refine x_bipush (v := (10 : Int32)) dX11_man_15 (by decide) ?_
    refine x_bipush (v := (60 : Int32)) dX11_man_17 (by decide) ?_
    refine z_bnd h (fun q3 hq3 h => ?_)
    refine x_callS1 (w_X11_within hq3) cw_X11_within q_252 ⟨by decide, by decide⟩ (Nat.le_of_ble_eq_true rfl) dX11_man_19 rfl ?_
    refine x_if_eq (tgt := 76) dX11_man_22 (by decide) h (fun h => ?_) (fun h => ?_)
    · refine x_bipush (v := (-2 : Int32)) dX11_man_76 (by decide) ?_
      exact x_iretE rfl dX11_man_78 h
    · refine x_iload_n 2 dX11_man_25 rfl rfl ?_
      refine x_iconst (v := (0 : Int32)) dX11_man_26 (by decide) ?_
      refine x_iconst (v := (3 : Int32)) dX11_man_27 (by decide) ?_
      refine z_bnd h (fun q4 hq4 h => ?_)
      refine x_callS1 (w_X11_within hq4) cw_X11_within q_252 ⟨by decide, by decide⟩ (Nat.le_of_ble_eq_true rfl) dX11_man_28 rfl ?_
      refine x_if_eq (tgt := 76) dX11_man_31 (by decide) h (fun h => ?_) (fun h => ?_)
      · refine x_bipush (v := (-2 : Int32)) dX11_man_76 (by decide) ?_
        exact x_iretE rfl dX11_man_78 h
      · refine x_iload_n 3 dX11_man_34 rfl rfl ?_
        refine x_iconst (v := (0 : Int32)) dX11_man_35 (by decide) ?_
        refine x_iconst (v := (3 : Int32)) dX11_man_36 (by decide) ?_
        refine z_bnd h (fun q5 hq5 h => ?_)
        refine x_callS1 (w_X11_within hq5) cw_X11_within q_252 ⟨by decide, by decide⟩ (Nat.le_of_ble_eq_true rfl) dX11_man_37 rfl ?_
        refine x_if_eq (tgt := 76) dX11_man_40 (by decide) h (fun h => ?_) (fun h => ?_)
        · refine x_bipush (v := (-2 : Int32)) dX11_man_76 (by decide) ?_
          exact x_iretE rfl dX11_man_78 h
        · refine x_iload 4 dX11_man_43 rfl ?_
          refine x_bipush (v := (50 : Int32)) dX11_man_45 (by decide) ?_
          refine x_bipush (v := (80 : Int32)) dX11_man_47 (by decide) ?_
          refine z_bnd h (fun q6 hq6 h => ?_)
          refine x_callS1 (w_X11_within hq6) cw_X11_within q_252 ⟨by decide, by decide⟩ (Nat.le_of_ble_eq_true rfl) dX11_man_49 rfl ?_
          refine x_if_eq (tgt := 76) dX11_man_52 (by decide) h (fun h => ?_) (fun h => ?_)
          · refine x_bipush (v := (-2 : Int32)) dX11_man_76 (by decide) ?_
            exact x_iretE rfl dX11_man_78 h
          · refine x_iload 5 dX11_man_55 rfl ?_
            refine x_iconst (v := (0 : Int32)) dX11_man_57 (by decide) ?_
            refine x_iconst (v := (5 : Int32)) dX11_man_58 (by decide) ?_
            refine z_bnd h (fun q7 hq7 h => ?_)
            refine x_callS1 (w_X11_within hq7) cw_X11_within q_252 ⟨by decide, by decide⟩ (Nat.le_of_ble_eq_true rfl) dX11_man_59 rfl ?_
            refine x_if_eq (tgt := 76) dX11_man_62 (by decide) h (fun h => ?_) (fun h => ?_)
            · refine x_bipush (v := (-2 : Int32)) dX11_man_76 (by decide) ?_
              exact x_iretE rfl dX11_man_78 h
            · refine x_iload 6 dX11_man_65 rfl ?_
              refine x_iconst (v := (0 : Int32)) dX11_man_67 (by decide) ?_
              refine x_bipush (v := (40 : Int32)) dX11_man_68 (by decide) ?_
              refine z_bnd h (fun q8 hq8 h => ?_)
              refine x_callS1 (w_X11_within hq8) cw_X11_within q_252 ⟨by decide, by decide⟩ (Nat.le_of_ble_eq_true rfl) dX11_man_70 rfl ?_
              refine x_if_ne (tgt := 79) dX11_man_73 (by decide) h (fun h => ?_) (fun h => ?_)
              · refine x_aload_n 0 dX11_man_79 rfl rfl ?_
                refine x_getI rfl ck_11 2 (by decide) rfl q_192 dX11_man_80 ?_
                refine x_bipush (v := (40 : Int32)) dX11_man_83 (by decide) ?_
                refine x_ic_lt (tgt := 91) dX11_man_85 (by decide) h (fun h => ?_) (fun h => ?_)
                · refine x_aload_n 0 dX11_man_91 rfl rfl ?_
                  refine x_getR rfl ck_11 1 (by decide) rfl q_191 dX11_man_92 ?_
                  refine x_aload_n 0 dX11_man_95 rfl rfl ?_
                  refine x_getI rfl ck_11 2 (by decide) rfl q_192 dX11_man_96 ?_
                  refine x_new ck_3 q_119 dX11_man_99 h (fun S9 hS9 h => ?_)
                  refine x_dup dX11_man_102 rfl ?_
                  refine x_iload_n 1 dX11_man_103 rfl rfl ?_
                  refine x_iload_n 2 dX11_man_104 rfl rfl ?_
                  refine x_iload_n 3 dX11_man_105 rfl rfl ?_
                  refine x_iload 4 dX11_man_106 rfl ?_
                  refine x_iload 5 dX11_man_108 rfl ?_
                  refine x_iload 6 dX11_man_110 rfl ?_
                  refine x_iload 7 dX11_man_112 rfl ?_
                  refine z_bnd h (fun q10 hq10 h => ?_)
                  refine x_callIv rfl (w_X3_init hq10) cw_X3_init q_298 ⟨by decide, by decide⟩ (Nat.le_of_ble_eq_true rfl) dX11_man_114 rfl ?_
                  refine z_bnd h (fun a11 ha11 h => ?_)
                  refine x_aastore ha11 ak_22 dX11_man_117 h (fun S12 hS12 h => ?_)
                  refine x_aload_n 0 dX11_man_118 rfl rfl ?_
                  refine x_dup dX11_man_119 rfl ?_
                  refine x_getI rfl ck_11 2 (by decide) rfl q_192 dX11_man_120 ?_
                  refine x_iconst (v := (1 : Int32)) dX11_man_123 (by decide) ?_
                  refine x_iadd dX11_man_124 ?_
                  refine x_putI rfl ck_11 2 (by decide) rfl (Or.inl rfl) (by rfl) rfl q_192 dX11_man_125 ?_
                  refine x_aload_n 0 dX11_man_128 rfl rfl ?_
                  refine x_getI rfl ck_11 2 (by decide) rfl q_192 dX11_man_129 ?_
                  refine x_iconst (v := (1 : Int32)) dX11_man_132 (by decide) ?_
                  refine x_isub dX11_man_133 ?_
                  exact x_iretE rfl dX11_man_134 h
                · refine x_bipush (v := (-4 : Int32)) dX11_man_88 (by decide) ?_
                  exact x_iretE rfl dX11_man_90 h
              · refine x_bipush (v := (-2 : Int32)) dX11_man_76 (by decide) ?_
                exact x_iretE rfl dX11_man_78 h
  · refine x_iconst (v := (-1 : Int32)) dX11_man_12 (by decide) ?_
    exact x_iretE rfl dX11_man_13 h
-- PressedMen findMan (I)LPressedMen$Man;
abbrev Y_X11_findMan : ZM := (yX11_findMan, cX11_findMan, 2, (some (.object "PressedMen$Man")), 1, 22)
theorem cw_X11_findMan : z_CV Y_X11_findMan 11 1 := ⟨⟨_, _, rfl⟩, by decide, q_368, q_1, q_369, q_70, ⟨by decide, by decide⟩, rfl⟩
def f_X11_findMan (n0 : Nat) (x1 : Int32) (S : ZH) : Option (Option Nat) :=
  (f_X11_within x1 (0 : Int32) ((zI S 11 n0 2) - (1 : Int32)) S).bind fun q1 =>
  if q1 = 0 then (
    some none
  ) else (
    ((zR S 11 n0 1)).bind fun a2 =>
    (zldR S 22 a2 x1).bind fun v3 =>
    some v3
  )
set_option maxRecDepth 20000 in
set_option maxHeartbeats 1000000 in
theorem w_X11_findMan {n0 : Nat} {x1 : Int32} {S : ZH} {q : Option Nat} (h : f_X11_findMan n0 x1 S = some q) : MetX Y_X11_findMan S [z_r 11 (some n0), z_i x1] (some (z_r 3 q)) S := by
  refine MetX.of (lo := [(0, z_r 11 (some n0)), (1, z_i x1)]) rfl (by decide) (Nat.le_of_ble_eq_true rfl) ?_
  unfold f_X11_findMan at h
  refine x_iload_n 1 dX11_findMan_0 rfl rfl ?_
  refine x_iconst (v := (0 : Int32)) dX11_findMan_1 (by decide) ?_
  refine x_aload_n 0 dX11_findMan_2 rfl rfl ?_
  refine x_getI rfl ck_11 2 (by decide) rfl q_192 dX11_findMan_3 ?_
  refine x_iconst (v := (1 : Int32)) dX11_findMan_6 (by decide) ?_
  refine x_isub dX11_findMan_7 ?_
  refine z_bnd h (fun q1 hq1 h => ?_)
  refine x_callS1 (w_X11_within hq1) cw_X11_within q_252 ⟨by decide, by decide⟩ (Nat.le_of_ble_eq_true rfl) dX11_findMan_8 rfl ?_
  refine x_if_eq (tgt := 23) dX11_findMan_11 (by decide) h (fun h => ?_) (fun h => ?_)
  · refine x_null 3 dX11_findMan_23 ?_
    exact x_aret rfl (Or.inl ⟨_, rfl⟩) dX11_findMan_24 h
  · refine x_aload_n 0 dX11_findMan_14 rfl rfl ?_
    refine x_getR rfl ck_11 1 (by decide) rfl q_191 dX11_findMan_15 ?_
    refine x_iload_n 1 dX11_findMan_18 rfl rfl ?_
    refine z_bnd h (fun a2 ha2 h => ?_)
    refine x_aaload ha2 ak_22 dX11_findMan_19 h (fun v3 hv3 h => ?_)
    refine x_goto (tgt := 24) dX11_findMan_20 (by decide) ?_
    exact x_aret rfl (Or.inl ⟨_, rfl⟩) dX11_findMan_24 h
-- PressedMen about (II)I
abbrev Y_X11_about : ZM := (yX11_about, cX11_about, 4, (some .int), 2, 43)
theorem cw_X11_about : z_CV Y_X11_about 11 2 := ⟨⟨_, _, rfl⟩, by decide, q_363, q_364, q_365, q_70, ⟨by decide, by decide⟩, rfl⟩
def f_X11_about (n0 : Nat) (x1 : Int32) (x2 : Int32) (S : ZH) : Option (Int32) :=
  (f_X11_findMan n0 x1 S).bind fun q1 =>
  if q1 = none then (
    some (-1 : Int32)
  ) else (
    if x2 = (0 : Int32) then (
      (q1).bind fun a2 =>
      some (zI S 3 a2 0)
    ) else (
      if x2 = (1 : Int32) then (
        (q1).bind fun a4 =>
        some (zI S 3 a4 1)
      ) else (
        if x2 = (2 : Int32) then (
          (q1).bind fun a6 =>
          some (zI S 3 a6 2)
        ) else (
          if x2 = (3 : Int32) then (
            (q1).bind fun a8 =>
            some (zI S 3 a8 3)
          ) else (
            if x2 = (4 : Int32) then (
              (q1).bind fun a10 =>
              some (zI S 3 a10 4)
            ) else (
              if x2 = (5 : Int32) then (
                (q1).bind fun a12 =>
                some (zI S 3 a12 5)
              ) else (
                if x2 = (6 : Int32) then (
                  (q1).bind fun a14 =>
                  some (zI S 3 a14 6)
                ) else (
                  if x2 = (7 : Int32) then (
                    (q1).bind fun a16 =>
                    (f_X11_asNumber (zI S 3 a16 7) S).bind fun q17 =>
                    some q17
                  ) else (
                    some (-2 : Int32)
                  )
                )
              )
            )
          )
        )
      )
    )
  )
set_option maxRecDepth 20000 in
set_option maxHeartbeats 1000000 in
theorem w_X11_about {n0 : Nat} {x1 : Int32} {x2 : Int32} {S : ZH} {q : Int32} (h : f_X11_about n0 x1 x2 S = some q) : MetX Y_X11_about S [z_r 11 (some n0), z_i x1, z_i x2] (some (z_i q)) S := by
  refine MetX.of (lo := [(0, z_r 11 (some n0)), (1, z_i x1), (2, z_i x2)]) rfl (by decide) (Nat.le_of_ble_eq_true rfl) ?_
  unfold f_X11_about at h
  refine x_aload_n 0 dX11_about_0 rfl rfl ?_
  refine x_iload_n 1 dX11_about_1 rfl rfl ?_
  refine z_bnd h (fun q1 hq1 h => ?_)
  refine x_callV1 rfl (w_X11_findMan hq1) cw_X11_findMan q_366 ⟨by decide, by decide⟩ (Nat.le_of_ble_eq_true rfl) dX11_about_2 rfl ?_
  refine x_astore_n (lo' := [(3, z_r 3 q1), (0, z_r 11 (some n0)), (1, z_i x1), (2, z_i x2)]) dX11_about_5 rfl (by decide) rfl ?_
  refine x_aload_n 0 dX11_about_6 rfl rfl ?_
  refine x_ifnonnull (tgt := 12) dX11_about_7 (by decide) h (fun h => ?_) (fun h => ?_)
  · refine x_iload_n 3 dX11_about_12 rfl rfl ?_
    refine z_ite h (fun hx3 h => ?_) (fun hx3 h => ?_)
    · refine x_tabIn (tgt := 60) dX11_about_13 hx3 (by decide) (by decide) rfl (by decide) ?_
      refine x_aload_n 0 dX11_about_60 rfl rfl ?_
      refine z_bnd h (fun a2 ha2 h => ?_)
      revert h
      subst ha2
      intro h
      refine x_getI rfl ck_3 0 (by decide) rfl q_304 dX11_about_61 ?_
      exact x_iret rfl dX11_about_64 h
    · refine z_ite h (fun hx5 h => ?_) (fun hx5 h => ?_)
      · refine x_tabIn (tgt := 65) dX11_about_13 hx5 (by decide) (by decide) rfl (by decide) ?_
        refine x_aload_n 0 dX11_about_65 rfl rfl ?_
        refine z_bnd h (fun a4 ha4 h => ?_)
        revert h
        subst ha4
        intro h
        refine x_getI rfl ck_3 1 (by decide) rfl q_308 dX11_about_66 ?_
        exact x_iret rfl dX11_about_69 h
      · refine z_ite h (fun hx7 h => ?_) (fun hx7 h => ?_)
        · refine x_tabIn (tgt := 70) dX11_about_13 hx7 (by decide) (by decide) rfl (by decide) ?_
          refine x_aload_n 0 dX11_about_70 rfl rfl ?_
          refine z_bnd h (fun a6 ha6 h => ?_)
          revert h
          subst ha6
          intro h
          refine x_getI rfl ck_3 2 (by decide) rfl q_311 dX11_about_71 ?_
          exact x_iret rfl dX11_about_74 h
        · refine z_ite h (fun hx9 h => ?_) (fun hx9 h => ?_)
          · refine x_tabIn (tgt := 75) dX11_about_13 hx9 (by decide) (by decide) rfl (by decide) ?_
            refine x_aload_n 0 dX11_about_75 rfl rfl ?_
            refine z_bnd h (fun a8 ha8 h => ?_)
            revert h
            subst ha8
            intro h
            refine x_getI rfl ck_3 3 (by decide) rfl q_314 dX11_about_76 ?_
            exact x_iret rfl dX11_about_79 h
          · refine z_ite h (fun hx11 h => ?_) (fun hx11 h => ?_)
            · refine x_tabIn (tgt := 80) dX11_about_13 hx11 (by decide) (by decide) rfl (by decide) ?_
              refine x_aload_n 0 dX11_about_80 rfl rfl ?_
              refine z_bnd h (fun a10 ha10 h => ?_)
              revert h
              subst ha10
              intro h
              refine x_getI rfl ck_3 4 (by decide) rfl q_316 dX11_about_81 ?_
              exact x_iret rfl dX11_about_84 h
            · refine z_ite h (fun hx13 h => ?_) (fun hx13 h => ?_)
              · refine x_tabIn (tgt := 85) dX11_about_13 hx13 (by decide) (by decide) rfl (by decide) ?_
                refine x_aload_n 0 dX11_about_85 rfl rfl ?_
                refine z_bnd h (fun a12 ha12 h => ?_)
                revert h
                subst ha12
                intro h
                refine x_getI rfl ck_3 5 (by decide) rfl q_319 dX11_about_86 ?_
                exact x_iret rfl dX11_about_89 h
              · refine z_ite h (fun hx15 h => ?_) (fun hx15 h => ?_)
                · refine x_tabIn (tgt := 90) dX11_about_13 hx15 (by decide) (by decide) rfl (by decide) ?_
                  refine x_aload_n 0 dX11_about_90 rfl rfl ?_
                  refine z_bnd h (fun a14 ha14 h => ?_)
                  revert h
                  subst ha14
                  intro h
                  refine x_getI rfl ck_3 6 (by decide) rfl q_322 dX11_about_91 ?_
                  exact x_iret rfl dX11_about_94 h
                · refine z_ite h (fun hx18 h => ?_) (fun hx18 h => ?_)
                  · refine x_tabIn (tgt := 95) dX11_about_13 hx18 (by decide) (by decide) rfl (by decide) ?_
                    refine x_aload_n 0 dX11_about_95 rfl rfl ?_
                    refine z_bnd h (fun a16 ha16 h => ?_)
                    revert h
                    subst ha16
                    intro h
                    refine x_getI rfl ck_3 7 (by decide) rfl q_324 dX11_about_96 ?_
                    refine z_bnd h (fun q17 hq17 h => ?_)
                    refine x_callS1 (w_X11_asNumber hq17) cw_X11_asNumber q_275 ⟨by decide, by decide⟩ (Nat.le_of_ble_eq_true rfl) dX11_about_99 rfl ?_
                    exact x_iret rfl dX11_about_102 h
                  · refine x_tabOut (tgt := 103) dX11_about_13 (by
                        have hx3 := z_neI hx3 (n := 0) (by decide)
                        have hx5 := z_neI hx5 (n := 1) (by decide)
                        have hx7 := z_neI hx7 (n := 2) (by decide)
                        have hx9 := z_neI hx9 (n := 3) (by decide)
                        have hx11 := z_neI hx11 (n := 4) (by decide)
                        have hx13 := z_neI hx13 (n := 5) (by decide)
                        have hx15 := z_neI hx15 (n := 6) (by decide)
                        have hx18 := z_neI hx18 (n := 7) (by decide)
                        omega) (by decide) ?_
                    refine x_bipush (v := (-2 : Int32)) dX11_about_103 (by decide) ?_
                    exact x_iret rfl dX11_about_105 h
  · refine x_iconst (v := (-1 : Int32)) dX11_about_10 (by decide) ?_
    exact x_iret rfl dX11_about_11 h
-- PressedMen shy (IZ)I
abbrev Y_X11_shy : ZM := (yX11_shy, cX11_shy, 5, (some .int), 2, 43)
theorem cw_X11_shy : z_CV Y_X11_shy 11 2 := ⟨⟨_, _, rfl⟩, by decide, q_371, q_372, q_373, q_70, ⟨by decide, by decide⟩, rfl⟩
def f_X11_shy (n0 : Nat) (x1 : Int32) (x2 : Int32) (S : ZH) : Option (Int32 × ZH) :=
  (f_X11_findMan n0 x1 S).bind fun q1 =>
  if q1 = none then (
    some ((-1 : Int32), S)
  ) else (
    (q1).bind fun a2 =>
    if z_b x2 = x2 then (
      (f_X11_asNumber (zI S 3 a2 7) (zsI S 3 a2 7 x2)).bind fun q4 =>
      some (q4, (zsI S 3 a2 7 x2))
    ) else none
  )
set_option maxRecDepth 20000 in
set_option maxHeartbeats 1000000 in
theorem w_X11_shy {n0 : Nat} {x1 : Int32} {x2 : Int32} {S : ZH} {q : Int32 × ZH} (h : f_X11_shy n0 x1 x2 S = some q) : MetX Y_X11_shy S [z_r 11 (some n0), z_i x1, z_i x2] (some (z_i q.1)) q.2 := by
  refine MetX.of (lo := [(0, z_r 11 (some n0)), (1, z_i x1), (2, z_i x2)]) rfl (by decide) (Nat.le_of_ble_eq_true rfl) ?_
  unfold f_X11_shy at h
  refine x_aload_n 0 dX11_shy_0 rfl rfl ?_
  refine x_iload_n 1 dX11_shy_1 rfl rfl ?_
  refine z_bnd h (fun q1 hq1 h => ?_)
  refine x_callV1 rfl (w_X11_findMan hq1) cw_X11_findMan q_366 ⟨by decide, by decide⟩ (Nat.le_of_ble_eq_true rfl) dX11_shy_2 rfl ?_
  refine x_astore_n (lo' := [(3, z_r 3 q1), (0, z_r 11 (some n0)), (1, z_i x1), (2, z_i x2)]) dX11_shy_5 rfl (by decide) rfl ?_
  refine x_aload_n 0 dX11_shy_6 rfl rfl ?_
  refine x_ifnonnull (tgt := 12) dX11_shy_7 (by decide) h (fun h => ?_) (fun h => ?_)
  · refine x_aload_n 0 dX11_shy_12 rfl rfl ?_
    refine z_bnd h (fun a2 ha2 h => ?_)
    revert h
    subst ha2
    intro h
    refine x_getI rfl ck_3 7 (by decide) rfl q_324 dX11_shy_13 ?_
    refine x_istore (lo' := [(4, z_i (zI S 3 a2 7)), (3, z_r 3 (some a2)), (0, z_r 11 (some n0)), (1, z_i x1), (2, z_i x2)]) dX11_shy_16 (by decide) rfl ?_
    refine x_aload_n 1 dX11_shy_18 rfl rfl ?_
    refine x_iload_n 4 dX11_shy_19 rfl rfl ?_
    refine z_ite h (fun hz3 h => ?_) (fun _ h => by cases h)
    refine x_putI rfl ck_3 7 (by decide) rfl (Or.inl rfl) ((z_nar_b _).trans (congrArg Value.int hz3)) (z_fit_b hz3) q_324 dX11_shy_20 ?_
    refine x_iload 0 dX11_shy_23 rfl ?_
    refine z_bnd h (fun q4 hq4 h => ?_)
    refine x_callS1 (w_X11_asNumber hq4) cw_X11_asNumber q_275 ⟨by decide, by decide⟩ (Nat.le_of_ble_eq_true rfl) dX11_shy_25 rfl ?_
    exact x_iretE rfl dX11_shy_28 h
  · refine x_iconst (v := (-1 : Int32)) dX11_shy_10 (by decide) ?_
    exact x_iretE rfl dX11_shy_11 h
-- PressedMen$Man moveAsOf (I)I
abbrev Y_X3_moveAsOf : ZM := (yX3_moveAsOf, cX3_moveAsOf, 3, (some .int), 0, 0)
theorem cw_X3_moveAsOf : z_CV Y_X3_moveAsOf 3 1 := ⟨⟨_, _, rfl⟩, by decide, q_384, q_2, q_385, q_78, ⟨by decide, by decide⟩, rfl⟩
def b_X3_moveAsOf_7 (n0 : Nat) (x1 : Int32) (S : ZH) (v : Int32) : Option ((Int32) ⊕ (Int32)) :=
  if v < 0 then (
    some (Sum.inr v)
  ) else (
    ((zR S 3 n0 11)).bind fun a1 =>
    (zld S 17 a1 v).bind fun v2 =>
    if v2 ≤ x1 then (
      some (Sum.inr v)
    ) else (
      some (Sum.inl ((v + (-1))))
    )
  )
def f_X3_moveAsOf (n0 : Nat) (x1 : Int32) (S : ZH) : Option (Int32) :=
  (z_iter zFU (b_X3_moveAsOf_7 n0 x1 S) (((zI S 3 n0 13) - (1 : Int32)))).bind fun t3 =>
  some t3
set_option maxRecDepth 20000 in
theorem l_X3_moveAsOf_7 {S0 : ZH} {F : ZP} {n0 : Nat} {x1 : Int32} {S : ZH} {v : Int32} {t : Int32} (h : z_iter zFU (b_X3_moveAsOf_7 n0 x1 S) v = some t) (k : (fun t => Wp Y_X3_moveAsOf S0 F 27 [(2, z_i t)] [] S) t) : Wp Y_X3_moveAsOf S0 F 7 [(0, z_r 3 (some n0)), (1, z_i x1), (2, z_i v)] [] S := by
  refine z_iter_P (P := fun v : Int32 => Wp Y_X3_moveAsOf S0 F 7 [(0, z_r 3 (some n0)), (1, z_i x1), (2, z_i v)] [] S) (X := (fun t => Wp Y_X3_moveAsOf S0 F 27 [(2, z_i t)] [] S)) ?_ _ _ _ h k
  clear h k v t
  intro v r h k
  unfold b_X3_moveAsOf_7 at h
  refine x_iload_n 2 dX3_moveAsOf_7 rfl rfl ?_
  refine x_if_lt (tgt := 27) dX3_moveAsOf_8 (by decide) h (fun h => ?_) (fun h => ?_)
  · cases h
    exact x_lo [2] rfl k
  · refine x_aload_n 0 dX3_moveAsOf_11 rfl rfl ?_
    refine x_getR rfl ck_3 11 (by decide) rfl q_330 dX3_moveAsOf_12 ?_
    refine x_iload_n 2 dX3_moveAsOf_15 rfl rfl ?_
    refine z_bnd h (fun a1 ha1 h => ?_)
    refine x_iaload ha1 ak_17 dX3_moveAsOf_16 h (fun v2 hv2 h => ?_)
    refine x_iload_n 1 dX3_moveAsOf_17 rfl rfl ?_
    refine x_ic_le (tgt := 27) dX3_moveAsOf_18 (by decide) h (fun h => ?_) (fun h => ?_)
    · cases h
      exact x_lo [2] rfl k
    · refine x_iinc (v := (v + (-1))) (lo' := [(2, z_i (v + (-1))), (0, z_r 3 (some n0)), (1, z_i x1)]) 2 dX3_moveAsOf_21 rfl (congrArg (HAdd.hAdd v) (by decide)) (by decide) rfl ?_
      refine x_goto (tgt := 7) dX3_moveAsOf_24 (by decide) ?_
      cases h
      exact x_lo [1, 2, 0] rfl k
set_option maxRecDepth 20000 in
set_option maxHeartbeats 1000000 in
theorem w_X3_moveAsOf {n0 : Nat} {x1 : Int32} {S : ZH} {q : Int32} (h : f_X3_moveAsOf n0 x1 S = some q) : MetX Y_X3_moveAsOf S [z_r 3 (some n0), z_i x1] (some (z_i q)) S := by
  refine MetX.of (lo := [(0, z_r 3 (some n0)), (1, z_i x1)]) rfl (by decide) (Nat.le_of_ble_eq_true rfl) ?_
  unfold f_X3_moveAsOf at h
  refine x_aload_n 0 dX3_moveAsOf_0 rfl rfl ?_
  refine x_getI rfl ck_3 13 (by decide) rfl q_332 dX3_moveAsOf_1 ?_
  refine x_iconst (v := (1 : Int32)) dX3_moveAsOf_4 (by decide) ?_
  refine x_isub dX3_moveAsOf_5 ?_
  refine x_istore_n (lo' := [(2, z_i ((zI S 3 n0 13) - (1 : Int32))), (0, z_r 3 (some n0)), (1, z_i x1)]) dX3_moveAsOf_6 rfl (by decide) rfl ?_
  refine z_bnd h (fun t3 ht3 h => ?_)
  refine x_lo [1, 2, 0] rfl ?_
  refine l_X3_moveAsOf_7 ht3 ?_
  refine x_iload_n 0 dX3_moveAsOf_27 rfl rfl ?_
  exact x_iret rfl dX3_moveAsOf_28 h
-- PressedMen$Man placeAsOf (I)I
abbrev Y_X3_placeAsOf : ZM := (yX3_placeAsOf, cX3_placeAsOf, 3, (some .int), 1, 22)
theorem cw_X3_placeAsOf : z_CV Y_X3_placeAsOf 3 1 := ⟨⟨_, _, rfl⟩, by decide, q_379, q_380, q_381, q_78, ⟨by decide, by decide⟩, rfl⟩
def f_X3_placeAsOf (n0 : Nat) (x1 : Int32) (S : ZH) : Option (Int32) :=
  (f_X3_moveAsOf n0 x1 S).bind fun q1 =>
  if 0 ≤ q1 then (
    ((zR S 3 n0 12)).bind fun a2 =>
    (zld S 18 a2 q1).bind fun v3 =>
    some v3
  ) else (
    some (zI S 3 n0 6)
  )
set_option maxRecDepth 20000 in
set_option maxHeartbeats 1000000 in
theorem w_X3_placeAsOf {n0 : Nat} {x1 : Int32} {S : ZH} {q : Int32} (h : f_X3_placeAsOf n0 x1 S = some q) : MetX Y_X3_placeAsOf S [z_r 3 (some n0), z_i x1] (some (z_i q)) S := by
  refine MetX.of (lo := [(0, z_r 3 (some n0)), (1, z_i x1)]) rfl (by decide) (Nat.le_of_ble_eq_true rfl) ?_
  unfold f_X3_placeAsOf at h
  refine x_aload_n 0 dX3_placeAsOf_0 rfl rfl ?_
  refine x_iload_n 1 dX3_placeAsOf_1 rfl rfl ?_
  refine z_bnd h (fun q1 hq1 h => ?_)
  refine x_callV1 rfl (w_X3_moveAsOf hq1) cw_X3_moveAsOf q_382 ⟨by decide, by decide⟩ (Nat.le_of_ble_eq_true rfl) dX3_placeAsOf_2 rfl ?_
  refine x_istore_n (lo' := [(2, z_i q1), (0, z_r 3 (some n0)), (1, z_i x1)]) dX3_placeAsOf_5 rfl (by decide) rfl ?_
  refine x_iload_n 0 dX3_placeAsOf_6 rfl rfl ?_
  refine x_if_ge (tgt := 17) dX3_placeAsOf_7 (by decide) h (fun h => ?_) (fun h => ?_)
  · refine x_aload_n 1 dX3_placeAsOf_17 rfl rfl ?_
    refine x_getR rfl ck_3 12 (by decide) rfl q_331 dX3_placeAsOf_18 ?_
    refine x_iload_n 0 dX3_placeAsOf_21 rfl rfl ?_
    refine z_bnd h (fun a2 ha2 h => ?_)
    refine x_iaload ha2 ak_18 dX3_placeAsOf_22 h (fun v3 hv3 h => ?_)
    exact x_iret rfl dX3_placeAsOf_23 h
  · refine x_aload_n 1 dX3_placeAsOf_10 rfl rfl ?_
    refine x_getI rfl ck_3 6 (by decide) rfl q_321 dX3_placeAsOf_11 ?_
    refine x_goto (tgt := 23) dX3_placeAsOf_14 (by decide) ?_
    exact x_iret rfl dX3_placeAsOf_23 h
-- PressedMen where (II)I
abbrev Y_X11_where : ZM := (yX11_where, cX11_where, 4, (some .int), 2, 44)
theorem cw_X11_where : z_CV Y_X11_where 11 2 := ⟨⟨_, _, rfl⟩, by decide, q_375, q_376, q_377, q_70, ⟨by decide, by decide⟩, rfl⟩
def f_X11_where (n0 : Nat) (x1 : Int32) (x2 : Int32) (S : ZH) : Option (Int32) :=
  (f_X11_findMan n0 x1 S).bind fun q1 =>
  if q1 = none then (
    some (-1 : Int32)
  ) else (
    (f_X11_within x2 (0 : Int32) (zI S 11 n0 16) S).bind fun q2 =>
    if ¬ q2 = 0 then (
      (q1).bind fun a3 =>
      (f_X3_placeAsOf a3 x2 S).bind fun q4 =>
      some q4
    ) else (
      some (-2 : Int32)
    )
  )
set_option maxRecDepth 20000 in
set_option maxHeartbeats 1000000 in
theorem w_X11_where {n0 : Nat} {x1 : Int32} {x2 : Int32} {S : ZH} {q : Int32} (h : f_X11_where n0 x1 x2 S = some q) : MetX Y_X11_where S [z_r 11 (some n0), z_i x1, z_i x2] (some (z_i q)) S := by
  refine MetX.of (lo := [(0, z_r 11 (some n0)), (1, z_i x1), (2, z_i x2)]) rfl (by decide) (Nat.le_of_ble_eq_true rfl) ?_
  unfold f_X11_where at h
  refine x_aload_n 0 dX11_where_0 rfl rfl ?_
  refine x_iload_n 1 dX11_where_1 rfl rfl ?_
  refine z_bnd h (fun q1 hq1 h => ?_)
  refine x_callV1 rfl (w_X11_findMan hq1) cw_X11_findMan q_366 ⟨by decide, by decide⟩ (Nat.le_of_ble_eq_true rfl) dX11_where_2 rfl ?_
  refine x_astore_n (lo' := [(3, z_r 3 q1), (0, z_r 11 (some n0)), (1, z_i x1), (2, z_i x2)]) dX11_where_5 rfl (by decide) rfl ?_
  refine x_aload_n 0 dX11_where_6 rfl rfl ?_
  refine x_ifnonnull (tgt := 12) dX11_where_7 (by decide) h (fun h => ?_) (fun h => ?_)
  · refine x_iload_n 3 dX11_where_12 rfl rfl ?_
    refine x_iconst (v := (0 : Int32)) dX11_where_13 (by decide) ?_
    refine x_aload_n 1 dX11_where_14 rfl rfl ?_
    refine x_getI rfl ck_11 16 (by decide) rfl q_206 dX11_where_15 ?_
    refine z_bnd h (fun q2 hq2 h => ?_)
    refine x_callS1 (w_X11_within hq2) cw_X11_within q_252 ⟨by decide, by decide⟩ (Nat.le_of_ble_eq_true rfl) dX11_where_18 rfl ?_
    refine x_if_ne (tgt := 27) dX11_where_21 (by decide) h (fun h => ?_) (fun h => ?_)
    · refine x_aload_n 0 dX11_where_27 rfl rfl ?_
      refine x_iload_n 3 dX11_where_28 rfl rfl ?_
      refine z_bnd h (fun a3 ha3 h => ?_)
      revert h
      subst ha3
      intro h
      refine z_bnd h (fun q4 hq4 h => ?_)
      refine x_callV1 rfl (w_X3_placeAsOf hq4) cw_X3_placeAsOf q_378 ⟨by decide, by decide⟩ (Nat.le_of_ble_eq_true rfl) dX11_where_29 rfl ?_
      exact x_iret rfl dX11_where_32 h
    · refine x_bipush (v := (-2 : Int32)) dX11_where_24 (by decide) ?_
      exact x_iret rfl dX11_where_26 h
  · refine x_iconst (v := (-1 : Int32)) dX11_where_10 (by decide) ?_
    exact x_iret rfl dX11_where_11 h
-- PressedMen findShip (I)LPressedMen$Ship;
abbrev Y_X11_findShip : ZM := (yX11_findShip, cX11_findShip, 2, (some (.object "PressedMen$Ship")), 1, 22)
theorem cw_X11_findShip : z_CV Y_X11_findShip 11 1 := ⟨⟨_, _, rfl⟩, by decide, q_396, q_4, q_397, q_70, ⟨by decide, by decide⟩, rfl⟩
def f_X11_findShip (n0 : Nat) (x1 : Int32) (S : ZH) : Option (Option Nat) :=
  (f_X11_within x1 (0 : Int32) ((zI S 11 n0 9) - (1 : Int32)) S).bind fun q1 =>
  if q1 = 0 then (
    some none
  ) else (
    ((zR S 11 n0 8)).bind fun a2 =>
    (zldR S 25 a2 x1).bind fun v3 =>
    some v3
  )
set_option maxRecDepth 20000 in
set_option maxHeartbeats 1000000 in
theorem w_X11_findShip {n0 : Nat} {x1 : Int32} {S : ZH} {q : Option Nat} (h : f_X11_findShip n0 x1 S = some q) : MetX Y_X11_findShip S [z_r 11 (some n0), z_i x1] (some (z_r 6 q)) S := by
  refine MetX.of (lo := [(0, z_r 11 (some n0)), (1, z_i x1)]) rfl (by decide) (Nat.le_of_ble_eq_true rfl) ?_
  unfold f_X11_findShip at h
  refine x_iload_n 1 dX11_findShip_0 rfl rfl ?_
  refine x_iconst (v := (0 : Int32)) dX11_findShip_1 (by decide) ?_
  refine x_aload_n 0 dX11_findShip_2 rfl rfl ?_
  refine x_getI rfl ck_11 9 (by decide) rfl q_199 dX11_findShip_3 ?_
  refine x_iconst (v := (1 : Int32)) dX11_findShip_6 (by decide) ?_
  refine x_isub dX11_findShip_7 ?_
  refine z_bnd h (fun q1 hq1 h => ?_)
  refine x_callS1 (w_X11_within hq1) cw_X11_within q_252 ⟨by decide, by decide⟩ (Nat.le_of_ble_eq_true rfl) dX11_findShip_8 rfl ?_
  refine x_if_eq (tgt := 23) dX11_findShip_11 (by decide) h (fun h => ?_) (fun h => ?_)
  · refine x_null 6 dX11_findShip_23 ?_
    exact x_aret rfl (Or.inl ⟨_, rfl⟩) dX11_findShip_24 h
  · refine x_aload_n 0 dX11_findShip_14 rfl rfl ?_
    refine x_getR rfl ck_11 8 (by decide) rfl q_198 dX11_findShip_15 ?_
    refine x_iload_n 1 dX11_findShip_18 rfl rfl ?_
    refine z_bnd h (fun a2 ha2 h => ?_)
    refine x_aaload ha2 ak_25 dX11_findShip_19 h (fun v3 hv3 h => ?_)
    refine x_goto (tgt := 24) dX11_findShip_20 (by decide) ?_
    exact x_aret rfl (Or.inl ⟨_, rfl⟩) dX11_findShip_24 h
-- PressedMen isPlace (I)Z
abbrev Y_X11_isPlace : ZM := (yX11_isPlace, cX11_isPlace, 2, (some .boolean), 2, 43)
theorem cw_X11_isPlace : z_CV Y_X11_isPlace 11 1 := ⟨⟨_, _, rfl⟩, by decide, q_392, q_3, q_393, q_70, ⟨by decide, by decide⟩, rfl⟩
def f_X11_isPlace (n0 : Nat) (x1 : Int32) (S : ZH) : Option (Int32) :=
  ((zR S 11 n0 0)).bind fun a1 =>
  (f_X10_has a1 x1 S).bind fun q2 =>
  if ¬ q2 = 0 then (
    some (1 : Int32)
  ) else (
    (f_X11_findShip n0 (x1 - (10 : Int32)) S).bind fun q3 =>
    if q3 = none then (
      (f_X11_within x1 (20 : Int32) (23 : Int32) S).bind fun q4 =>
      if q4 = 0 then (
        some (0 : Int32)
      ) else (
        some (1 : Int32)
      )
    ) else (
      some (1 : Int32)
    )
  )
set_option maxRecDepth 20000 in
set_option maxHeartbeats 1000000 in
theorem w_X11_isPlace {n0 : Nat} {x1 : Int32} {S : ZH} {q : Int32} (h : f_X11_isPlace n0 x1 S = some q) : MetX Y_X11_isPlace S [z_r 11 (some n0), z_i x1] (some (z_i q)) S := by
  refine MetX.of (lo := [(0, z_r 11 (some n0)), (1, z_i x1)]) rfl (by decide) (Nat.le_of_ble_eq_true rfl) ?_
  unfold f_X11_isPlace at h
  refine x_aload_n 0 dX11_isPlace_0 rfl rfl ?_
  refine x_getR rfl ck_11 0 (by decide) rfl q_190 dX11_isPlace_1 ?_
  refine x_iload_n 1 dX11_isPlace_4 rfl rfl ?_
  refine z_bnd h (fun a1 ha1 h => ?_)
  refine z_bnd h (fun q2 hq2 h => ?_)
  refine x_callV1 ha1 (w_X10_has hq2) cw_X10_has q_266 ⟨by decide, by decide⟩ (Nat.le_of_ble_eq_true rfl) dX11_isPlace_5 rfl ?_
  refine x_if_ne (tgt := 33) dX11_isPlace_8 (by decide) h (fun h => ?_) (fun h => ?_)
  · refine x_iconst (v := (1 : Int32)) dX11_isPlace_33 (by decide) ?_
    refine x_goto (tgt := 38) dX11_isPlace_34 (by decide) ?_
    exact x_zretC rfl (by decide) dX11_isPlace_38 h
  · refine x_aload_n 0 dX11_isPlace_11 rfl rfl ?_
    refine x_iload_n 1 dX11_isPlace_12 rfl rfl ?_
    refine x_bipush (v := (10 : Int32)) dX11_isPlace_13 (by decide) ?_
    refine x_isub dX11_isPlace_15 ?_
    refine z_bnd h (fun q3 hq3 h => ?_)
    refine x_callV1 rfl (w_X11_findShip hq3) cw_X11_findShip q_394 ⟨by decide, by decide⟩ (Nat.le_of_ble_eq_true rfl) dX11_isPlace_16 rfl ?_
    refine x_ifnonnull (tgt := 33) dX11_isPlace_19 (by decide) h (fun h => ?_) (fun h => ?_)
    · refine x_iconst (v := (1 : Int32)) dX11_isPlace_33 (by decide) ?_
      refine x_goto (tgt := 38) dX11_isPlace_34 (by decide) ?_
      exact x_zretC rfl (by decide) dX11_isPlace_38 h
    · refine x_iload_n 1 dX11_isPlace_22 rfl rfl ?_
      refine x_bipush (v := (20 : Int32)) dX11_isPlace_23 (by decide) ?_
      refine x_bipush (v := (23 : Int32)) dX11_isPlace_25 (by decide) ?_
      refine z_bnd h (fun q4 hq4 h => ?_)
      refine x_callS1 (w_X11_within hq4) cw_X11_within q_252 ⟨by decide, by decide⟩ (Nat.le_of_ble_eq_true rfl) dX11_isPlace_27 rfl ?_
      refine x_if_eq (tgt := 37) dX11_isPlace_30 (by decide) h (fun h => ?_) (fun h => ?_)
      · refine x_iconst (v := (0 : Int32)) dX11_isPlace_37 (by decide) ?_
        exact x_zretC rfl (by decide) dX11_isPlace_38 h
      · refine x_iconst (v := (1 : Int32)) dX11_isPlace_33 (by decide) ?_
        refine x_goto (tgt := 38) dX11_isPlace_34 (by decide) ?_
        exact x_zretC rfl (by decide) dX11_isPlace_38 h
-- PressedMen menIn (I)I
abbrev Y_X11_menIn : ZM := (yX11_menIn, cX11_menIn, 4, (some .int), 0, 0)
theorem cw_X11_menIn : z_CV Y_X11_menIn 11 1 := ⟨⟨_, _, rfl⟩, by decide, q_400, q_5, q_401, q_70, ⟨by decide, by decide⟩, rfl⟩
def b_X11_menIn_4 (n0 : Nat) (x1 : Int32) (S : ZH) (v : Int32 × Int32) : Option ((Int32 × Int32) ⊕ (Int32)) :=
  if (zI S 11 n0 2) ≤ v.2 then (
    some (Sum.inr v.1)
  ) else (
    ((zR S 11 n0 1)).bind fun a1 =>
    (zldR S 22 a1 v.2).bind fun v2 =>
    (v2).bind fun a3 =>
    if ¬ (zI S 3 a3 8) = x1 then (
      some (Sum.inl (v.1, (v.2 + 1)))
    ) else (
      some (Sum.inl ((v.1 + 1), (v.2 + 1)))
    )
  )
def f_X11_menIn (n0 : Nat) (x1 : Int32) (S : ZH) : Option (Int32) :=
  (z_iter zFU (b_X11_menIn_4 n0 x1 S) ((0 : Int32), (0 : Int32))).bind fun t4 =>
  some t4
set_option maxRecDepth 20000 in
theorem l_X11_menIn_4 {S0 : ZH} {F : ZP} {n0 : Nat} {x1 : Int32} {S : ZH} {v : Int32 × Int32} {t : Int32} (h : z_iter zFU (b_X11_menIn_4 n0 x1 S) v = some t) (k : (fun t => Wp Y_X11_menIn S0 F 34 [(2, z_i t)] [] S) t) : Wp Y_X11_menIn S0 F 4 [(0, z_r 11 (some n0)), (1, z_i x1), (2, z_i v.1), (3, z_i v.2)] [] S := by
  refine z_iter_P (P := fun v : Int32 × Int32 => Wp Y_X11_menIn S0 F 4 [(0, z_r 11 (some n0)), (1, z_i x1), (2, z_i v.1), (3, z_i v.2)] [] S) (X := (fun t => Wp Y_X11_menIn S0 F 34 [(2, z_i t)] [] S)) ?_ _ _ _ h k
  clear h k v t
  intro v r h k
  unfold b_X11_menIn_4 at h
  refine x_iload_n 3 dX11_menIn_4 rfl rfl ?_
  refine x_aload_n 0 dX11_menIn_5 rfl rfl ?_
  refine x_getI rfl ck_11 2 (by decide) rfl q_192 dX11_menIn_6 ?_
  refine x_ic_ge (tgt := 34) dX11_menIn_9 (by decide) h (fun h => ?_) (fun h => ?_)
  · cases h
    exact x_lo [2] rfl k
  · refine x_aload_n 0 dX11_menIn_12 rfl rfl ?_
    refine x_getR rfl ck_11 1 (by decide) rfl q_191 dX11_menIn_13 ?_
    refine x_iload_n 3 dX11_menIn_16 rfl rfl ?_
    refine z_bnd h (fun a1 ha1 h => ?_)
    refine x_aaload ha1 ak_22 dX11_menIn_17 h (fun v2 hv2 h => ?_)
    refine z_bnd h (fun a3 ha3 h => ?_)
    revert h
    subst ha3
    intro h
    refine x_getI rfl ck_3 8 (by decide) rfl q_327 dX11_menIn_18 ?_
    refine x_iload_n 1 dX11_menIn_21 rfl rfl ?_
    refine x_ic_ne (tgt := 28) dX11_menIn_22 (by decide) h (fun h => ?_) (fun h => ?_)
    · refine x_iinc (v := (v.2 + 1)) (lo' := [(3, z_i (v.2 + 1)), (0, z_r 11 (some n0)), (1, z_i x1), (2, z_i v.1)]) 3 dX11_menIn_28 rfl (congrArg (HAdd.hAdd v.2) (by decide)) (by decide) rfl ?_
      refine x_goto (tgt := 4) dX11_menIn_31 (by decide) ?_
      cases h
      exact x_lo [1, 2, 3, 0] rfl k
    · refine x_iinc (v := (v.1 + 1)) (lo' := [(2, z_i (v.1 + 1)), (0, z_r 11 (some n0)), (1, z_i x1), (3, z_i v.2)]) 2 dX11_menIn_25 rfl (congrArg (HAdd.hAdd v.1) (by decide)) (by decide) rfl ?_
      refine x_iinc (v := (v.2 + 1)) (lo' := [(3, z_i (v.2 + 1)), (2, z_i (v.1 + 1)), (0, z_r 11 (some n0)), (1, z_i x1)]) 3 dX11_menIn_28 rfl (congrArg (HAdd.hAdd v.2) (by decide)) (by decide) rfl ?_
      refine x_goto (tgt := 4) dX11_menIn_31 (by decide) ?_
      cases h
      exact x_lo [2, 3, 1, 0] rfl k
set_option maxRecDepth 20000 in
set_option maxHeartbeats 1000000 in
theorem w_X11_menIn {n0 : Nat} {x1 : Int32} {S : ZH} {q : Int32} (h : f_X11_menIn n0 x1 S = some q) : MetX Y_X11_menIn S [z_r 11 (some n0), z_i x1] (some (z_i q)) S := by
  refine MetX.of (lo := [(0, z_r 11 (some n0)), (1, z_i x1)]) rfl (by decide) (Nat.le_of_ble_eq_true rfl) ?_
  unfold f_X11_menIn at h
  refine x_iconst (v := (0 : Int32)) dX11_menIn_0 (by decide) ?_
  refine x_istore_n (lo' := [(2, z_i (0 : Int32)), (0, z_r 11 (some n0)), (1, z_i x1)]) dX11_menIn_1 rfl (by decide) rfl ?_
  refine x_iconst (v := (0 : Int32)) dX11_menIn_2 (by decide) ?_
  refine x_istore_n (lo' := [(3, z_i (0 : Int32)), (2, z_i (0 : Int32)), (0, z_r 11 (some n0)), (1, z_i x1)]) dX11_menIn_3 rfl (by decide) rfl ?_
  refine z_bnd h (fun t4 ht4 h => ?_)
  refine x_lo [2, 3, 1, 0] rfl ?_
  refine l_X11_menIn_4 ht4 ?_
  refine x_iload_n 0 dX11_menIn_34 rfl rfl ?_
  exact x_iret rfl dX11_menIn_35 h
-- PressedMen at (I)I
abbrev Y_X11_at : ZM := (yX11_at, cX11_at, 2, (some .int), 3, 64)
theorem cw_X11_at : z_CV Y_X11_at 11 1 := ⟨⟨_, _, rfl⟩, by decide, q_387, q_388, q_389, q_70, ⟨by decide, by decide⟩, rfl⟩
def f_X11_at (n0 : Nat) (x1 : Int32) (S : ZH) : Option (Int32) :=
  (f_X11_isPlace n0 x1 S).bind fun q1 =>
  if ¬ q1 = 0 then (
    (f_X11_menIn n0 x1 S).bind fun q2 =>
    some q2
  ) else (
    some (-2 : Int32)
  )
set_option maxRecDepth 20000 in
set_option maxHeartbeats 1000000 in
theorem w_X11_at {n0 : Nat} {x1 : Int32} {S : ZH} {q : Int32} (h : f_X11_at n0 x1 S = some q) : MetX Y_X11_at S [z_r 11 (some n0), z_i x1] (some (z_i q)) S := by
  refine MetX.of (lo := [(0, z_r 11 (some n0)), (1, z_i x1)]) rfl (by decide) (Nat.le_of_ble_eq_true rfl) ?_
  unfold f_X11_at at h
  refine x_aload_n 0 dX11_at_0 rfl rfl ?_
  refine x_iload_n 1 dX11_at_1 rfl rfl ?_
  refine z_bnd h (fun q1 hq1 h => ?_)
  refine x_callV1 rfl (w_X11_isPlace hq1) cw_X11_isPlace q_390 ⟨by decide, by decide⟩ (Nat.le_of_ble_eq_true rfl) dX11_at_2 rfl ?_
  refine x_if_ne (tgt := 11) dX11_at_5 (by decide) h (fun h => ?_) (fun h => ?_)
  · refine x_aload_n 0 dX11_at_11 rfl rfl ?_
    refine x_iload_n 1 dX11_at_12 rfl rfl ?_
    refine z_bnd h (fun q2 hq2 h => ?_)
    refine x_callV1 rfl (w_X11_menIn hq2) cw_X11_menIn q_398 ⟨by decide, by decide⟩ (Nat.le_of_ble_eq_true rfl) dX11_at_13 rfl ?_
    exact x_iret rfl dX11_at_16 h
  · refine x_bipush (v := (-2 : Int32)) dX11_at_8 (by decide) ?_
    exact x_iret rfl dX11_at_10 h
-- PressedMen tide ()I
abbrev Y_X11_tide : ZM := (yX11_tide, cX11_tide, 1, (some .int), 0, 0)
theorem cw_X11_tide : z_CV Y_X11_tide 11 0 := ⟨⟨_, _, rfl⟩, by decide, q_403, q_404, q_405, q_70, ⟨by decide, by decide⟩, rfl⟩
def f_X11_tide (n0 : Nat) (S : ZH) : Option (Int32) :=
  some (zI S 11 n0 16)
set_option maxRecDepth 20000 in
set_option maxHeartbeats 1000000 in
theorem w_X11_tide {n0 : Nat} {S : ZH} {q : Int32} (h : f_X11_tide n0 S = some q) : MetX Y_X11_tide S [z_r 11 (some n0)] (some (z_i q)) S := by
  refine MetX.of (lo := [(0, z_r 11 (some n0))]) rfl (by decide) (Nat.le_of_ble_eq_true rfl) ?_
  unfold f_X11_tide at h
  refine x_aload_n 0 dX11_tide_0 rfl rfl ?_
  refine x_getI rfl ck_11 16 (by decide) rfl q_206 dX11_tide_1 ?_
  exact x_iret rfl dX11_tide_4 h
-- PressedMen isStreet (I)Z
abbrev Y_X11_isStreet : ZM := (yX11_isStreet, cX11_isStreet, 1, (some .boolean), 1, 22)
theorem cw_X11_isStreet : z_CS Y_X11_isStreet 1 := ⟨q_415, q_416, q_70, ⟨by decide, by decide⟩, rfl⟩
def f_X11_isStreet (x0 : Int32) (S : ZH) : Option (Int32) :=
  (f_X11_within x0 (0 : Int32) (7 : Int32) S).bind fun q1 =>
  if z_b q1 = q1 then some q1 else none
set_option maxRecDepth 20000 in
set_option maxHeartbeats 1000000 in
theorem w_X11_isStreet {x0 : Int32} {S : ZH} {q : Int32} (h : f_X11_isStreet x0 S = some q) : MetX Y_X11_isStreet S [z_i x0] (some (z_i q)) S := by
  refine MetX.of (lo := [(0, z_i x0)]) rfl (by decide) (Nat.le_of_ble_eq_true rfl) ?_
  unfold f_X11_isStreet at h
  refine x_iload_n 0 dX11_isStreet_0 rfl rfl ?_
  refine x_iconst (v := (0 : Int32)) dX11_isStreet_1 (by decide) ?_
  refine x_bipush (v := (7 : Int32)) dX11_isStreet_2 (by decide) ?_
  refine z_bnd h (fun q1 hq1 h => ?_)
  refine x_callS1 (w_X11_within hq1) cw_X11_within q_252 ⟨by decide, by decide⟩ (Nat.le_of_ble_eq_true rfl) dX11_isStreet_4 rfl ?_
  exact x_zret rfl dX11_isStreet_7 h
-- PressedMen$Register firstHeard (ILPressedMen$Town;)I
abbrev Y_X5_firstHeard : ZM := (yX5_firstHeard, cX5_firstHeard, 7, (some .int), 3, 67)
theorem cw_X5_firstHeard : z_CV Y_X5_firstHeard 5 2 := ⟨⟨_, _, rfl⟩, by decide, q_411, q_412, q_413, q_72, ⟨by decide, by decide⟩, rfl⟩
def j_X5_firstHeard_55 (n0 : Nat) (x1 : Int32) (x2 : Option Nat) (x3 : Int32) (x4 : Int32) (n5 : Nat) (s0 : Int32) (S : ZH) : Option ((Int32 × Int32 × ZH) ⊕ (Int32 × ZH)) :=
  if (999 : Int32) ≤ s0 then (
    some (Sum.inl (x3, (x4 + 1), S))
  ) else (
    (f_J9_min_7cf53 x3 ((zI S 8 n5 0) + s0) S).bind fun q5 =>
    some (Sum.inl (q5, (x4 + 1), S))
  )
def b_X5_firstHeard_10 (n0 : Nat) (x1 : Int32) (x2 : Option Nat) (v : Int32 × Int32 × ZH) : Option ((Int32 × Int32 × ZH) ⊕ (Int32 × ZH)) :=
  if (zI v.2.2 5 n0 0) ≤ v.2.1 then (
    some (Sum.inr (v.1, v.2.2))
  ) else (
    ((zR v.2.2 5 n0 1)).bind fun a1 =>
    (zldR v.2.2 19 a1 v.2.1).bind fun v2 =>
    (v2).bind fun a3 =>
    (f_X11_isStreet (zI v.2.2 8 a3 3) v.2.2).bind fun q4 =>
    if q4 = 0 then (
      j_X5_firstHeard_55 n0 x1 x2 v.1 v.2.1 a3 (999 : Int32) v.2.2
    ) else (
      (x2).bind fun a6 =>
      (f_X10_hops a6 (zI v.2.2 8 a3 3) x1 v.2.2).bind fun q7 =>
      j_X5_firstHeard_55 n0 x1 (some a6) v.1 v.2.1 a3 q7.1 q7.2
    )
  )
def f_X5_firstHeard (n0 : Nat) (x1 : Int32) (x2 : Option Nat) (S : ZH) : Option (Int32 × ZH) :=
  (z_iter zFU (b_X5_firstHeard_10 n0 x1 x2) ((999 : Int32), (zI S 5 n0 2), S)).bind fun t8 =>
  some (t8.1, t8.2)
set_option maxRecDepth 20000 in
theorem k_X5_firstHeard_55 {S0 : ZH} {F : ZP} {n0 : Nat} {x1 : Int32} {x2 : Option Nat} {x3 : Int32} {x4 : Int32} {n5 : Nat} {s0 : Int32}  {S : ZH} {z : (Int32 × Int32 × ZH) ⊕ (Int32 × ZH)} (h : j_X5_firstHeard_55 n0 x1 x2 x3 x4 n5 s0 S = some z) (k : Sum.elim (fun v : Int32 × Int32 × ZH => Wp Y_X5_firstHeard S0 F 10 [(0, z_r 5 (some n0)), (1, z_i x1), (2, z_r 10 x2), (3, z_i v.1), (4, z_i v.2.1)] [] v.2.2) (fun t => Wp Y_X5_firstHeard S0 F 84 [(3, z_i t.1)] [] t.2) z) : Wp Y_X5_firstHeard S0 (F) 55 [(0, z_r 5 (some n0)), (1, z_i x1), (2, z_r 10 x2), (3, z_i x3), (4, z_i x4), (5, z_r 8 (some n5))] [z_i s0] S := by
  unfold j_X5_firstHeard_55 at h
  refine x_istore (lo' := [(6, z_i s0), (0, z_r 5 (some n0)), (1, z_i x1), (2, z_r 10 x2), (3, z_i x3), (4, z_i x4), (5, z_r 8 (some n5))]) dX5_firstHeard_55 (by decide) rfl ?_
  refine x_iload 0 dX5_firstHeard_57 rfl ?_
  refine x_sipush (v := (999 : Int32)) dX5_firstHeard_59 (by decide) ?_
  refine x_ic_ge (tgt := 78) dX5_firstHeard_62 (by decide) h (fun h => ?_) (fun h => ?_)
  · refine x_iinc (v := (x4 + 1)) (lo' := [(4, z_i (x4 + 1)), (6, z_i s0), (0, z_r 5 (some n0)), (1, z_i x1), (2, z_r 10 x2), (3, z_i x3), (5, z_r 8 (some n5))]) 5 dX5_firstHeard_78 rfl (congrArg (HAdd.hAdd x4) (by decide)) (by decide) rfl ?_
    refine x_goto (tgt := 10) dX5_firstHeard_81 (by decide) ?_
    cases h
    exact x_lo [2, 3, 4, 5, 0] rfl k
  · refine x_iload_n 4 dX5_firstHeard_65 rfl rfl ?_
    refine x_aload 6 dX5_firstHeard_66 rfl ?_
    refine x_getI rfl ck_8 0 (by decide) rfl q_707 dX5_firstHeard_68 ?_
    refine x_iload 0 dX5_firstHeard_71 rfl ?_
    refine x_iadd dX5_firstHeard_73 ?_
    refine z_bnd h (fun q5 hq5 h => ?_)
    refine x_callS1 (w_J9_min_7cf53 hq5) cw_J9_min_7cf53 q_418 ⟨by decide, by decide⟩ (Nat.le_of_ble_eq_true rfl) dX5_firstHeard_74 rfl ?_
    refine x_istore_n (lo' := [(3, z_i q5), (6, z_i s0), (0, z_r 5 (some n0)), (1, z_i x1), (2, z_r 10 x2), (4, z_i x4), (5, z_r 8 (some n5))]) dX5_firstHeard_77 rfl (by decide) rfl ?_
    refine x_iinc (v := (x4 + 1)) (lo' := [(4, z_i (x4 + 1)), (3, z_i q5), (6, z_i s0), (0, z_r 5 (some n0)), (1, z_i x1), (2, z_r 10 x2), (5, z_r 8 (some n5))]) 5 dX5_firstHeard_78 rfl (congrArg (HAdd.hAdd x4) (by decide)) (by decide) rfl ?_
    refine x_goto (tgt := 10) dX5_firstHeard_81 (by decide) ?_
    cases h
    exact x_lo [3, 4, 5, 1, 0] rfl k
set_option maxRecDepth 20000 in
theorem l_X5_firstHeard_10 {S0 : ZH} {F : ZP} {n0 : Nat} {x1 : Int32} {x2 : Option Nat} {v : Int32 × Int32 × ZH} {t : Int32 × ZH} (h : z_iter zFU (b_X5_firstHeard_10 n0 x1 x2) v = some t) (k : (fun t => Wp Y_X5_firstHeard S0 F 84 [(3, z_i t.1)] [] t.2) t) : Wp Y_X5_firstHeard S0 F 10 [(0, z_r 5 (some n0)), (1, z_i x1), (2, z_r 10 x2), (3, z_i v.1), (4, z_i v.2.1)] [] v.2.2 := by
  refine z_iter_P (P := fun v : Int32 × Int32 × ZH => Wp Y_X5_firstHeard S0 F 10 [(0, z_r 5 (some n0)), (1, z_i x1), (2, z_r 10 x2), (3, z_i v.1), (4, z_i v.2.1)] [] v.2.2) (X := (fun t => Wp Y_X5_firstHeard S0 F 84 [(3, z_i t.1)] [] t.2)) ?_ _ _ _ h k
  clear h k v t
  intro v r h k
  unfold b_X5_firstHeard_10 at h
  refine x_iload 4 dX5_firstHeard_10 rfl ?_
  refine x_aload_n 0 dX5_firstHeard_12 rfl rfl ?_
  refine x_getI rfl ck_5 0 (by decide) rfl q_133 dX5_firstHeard_13 ?_
  refine x_ic_ge (tgt := 84) dX5_firstHeard_16 (by decide) h (fun h => ?_) (fun h => ?_)
  · cases h
    exact x_lo [3] rfl k
  · refine x_aload_n 0 dX5_firstHeard_19 rfl rfl ?_
    refine x_getR rfl ck_5 1 (by decide) rfl q_135 dX5_firstHeard_20 ?_
    refine x_iload 4 dX5_firstHeard_23 rfl ?_
    refine z_bnd h (fun a1 ha1 h => ?_)
    refine x_aaload ha1 ak_19 dX5_firstHeard_25 h (fun v2 hv2 h => ?_)
    refine x_astore (lo' := [(5, z_r 8 v2), (0, z_r 5 (some n0)), (1, z_i x1), (2, z_r 10 x2), (3, z_i v.1), (4, z_i v.2.1)]) dX5_firstHeard_26 (by decide) rfl ?_
    refine x_aload 0 dX5_firstHeard_28 rfl ?_
    refine z_bnd h (fun a3 ha3 h => ?_)
    revert h
    subst ha3
    intro h
    refine x_getI rfl ck_8 3 (by decide) rfl q_716 dX5_firstHeard_30 ?_
    refine z_bnd h (fun q4 hq4 h => ?_)
    refine x_callSN1 (w_X11_isStreet hq4) cw_X11_isStreet q_414 ⟨by decide, by decide⟩ (Nat.le_of_ble_eq_true rfl) dX5_firstHeard_33 rfl ?_
    refine x_if_eq (tgt := 52) dX5_firstHeard_36 (by decide) h (fun h => ?_) (fun h => ?_)
    · refine x_sipush (v := (999 : Int32)) dX5_firstHeard_52 (by decide) ?_
      exact x_lo [1, 2, 3, 4, 5, 0] rfl (k_X5_firstHeard_55 h k)
    · refine x_aload_n 3 dX5_firstHeard_39 rfl rfl ?_
      refine x_aload 0 dX5_firstHeard_40 rfl ?_
      refine x_getI rfl ck_8 3 (by decide) rfl q_716 dX5_firstHeard_42 ?_
      refine x_iload_n 2 dX5_firstHeard_45 rfl rfl ?_
      refine z_bnd h (fun a6 ha6 h => ?_)
      revert h
      subst ha6
      intro h
      refine z_bnd h (fun q7 hq7 h => ?_)
      refine x_callV1 rfl (w_X10_hops hq7) cw_X10_hops q_417 ⟨by decide, by decide⟩ (Nat.le_of_ble_eq_true rfl) dX5_firstHeard_46 rfl ?_
      refine x_goto (tgt := 55) dX5_firstHeard_49 (by decide) ?_
      exact x_lo [1, 2, 3, 4, 5, 0] rfl (k_X5_firstHeard_55 h k)
set_option maxRecDepth 20000 in
set_option maxHeartbeats 1000000 in
theorem w_X5_firstHeard {n0 : Nat} {x1 : Int32} {x2 : Option Nat} {S : ZH} {q : Int32 × ZH} (h : f_X5_firstHeard n0 x1 x2 S = some q) : MetX Y_X5_firstHeard S [z_r 5 (some n0), z_i x1, z_r 10 x2] (some (z_i q.1)) q.2 := by
  refine MetX.of (lo := [(0, z_r 5 (some n0)), (1, z_i x1), (2, z_r 10 x2)]) rfl (by decide) (Nat.le_of_ble_eq_true rfl) ?_
  unfold f_X5_firstHeard at h
  refine x_sipush (v := (999 : Int32)) dX5_firstHeard_0 (by decide) ?_
  refine x_istore_n (lo' := [(3, z_i (999 : Int32)), (0, z_r 5 (some n0)), (1, z_i x1), (2, z_r 10 x2)]) dX5_firstHeard_3 rfl (by decide) rfl ?_
  refine x_aload_n 1 dX5_firstHeard_4 rfl rfl ?_
  refine x_getI rfl ck_5 2 (by decide) rfl q_136 dX5_firstHeard_5 ?_
  refine x_istore (lo' := [(4, z_i (zI S 5 n0 2)), (3, z_i (999 : Int32)), (0, z_r 5 (some n0)), (1, z_i x1), (2, z_r 10 x2)]) dX5_firstHeard_8 (by decide) rfl ?_
  refine z_bnd h (fun t8 ht8 h => ?_)
  refine x_lo [2, 3, 4, 1, 0] rfl ?_
  refine l_X5_firstHeard_10 ht8 ?_
  refine x_iload_n 0 dX5_firstHeard_84 rfl rfl ?_
  exact x_iretE rfl dX5_firstHeard_85 h
-- java/util/Arrays copyOf ([II)[I
abbrev Y_J7_copyOf_59c91 : ZM := (yJ7_copyOf_59c91, cJ7_copyOf_59c91, 3, (some (.array .int)), 1, 60)
theorem cw_J7_copyOf_59c91 : z_CS Y_J7_copyOf_59c91 2 := ⟨q_433, q_434, q_75, ⟨by decide, by decide⟩, rfl⟩
def f_J7_copyOf_59c91_17 (x0 : Option Nat) (x1 : Int32) (S : ZH) : Option (Option Nat × ZH) :=
  (x0).bind fun a1 =>
  if ¬ x1 = (nI (zL S 17 a1)) then (
    (znw S 17 x1).bind fun S2 =>
    (f_J9_min_7cf53 (nI (zL S2 17 a1)) x1 S2).bind fun q3 =>
    (zacp S2 17 a1 (0 : Int32) (zN S 17) (0 : Int32) q3).bind fun S4 =>
    some (some (zN S 17), S4)
  ) else (
    none
  )
set_option maxRecDepth 20000 in
set_option maxHeartbeats 1000000 in
theorem w_J7_copyOf_59c91_17 {x0 : Option Nat} {x1 : Int32} {S : ZH} {q : Option Nat × ZH} (h : f_J7_copyOf_59c91_17 x0 x1 S = some q) : MetX Y_J7_copyOf_59c91 S [z_r 17 x0, z_i x1] (some (z_r 17 q.1)) q.2 := by
  refine MetX.ofF (lo := [(0, z_r 17 x0), (1, z_i x1)]) rfl (by decide +kernel) (Nat.le_of_ble_eq_true rfl) ?_
  unfold f_J7_copyOf_59c91_17 at h
  refine x_iload_n 1 dJ7_copyOf_59c91_0 rfl rfl ?_
  refine x_aload_n 0 dJ7_copyOf_59c91_1 rfl rfl ?_
  refine z_bnd h (fun a1 ha1 h => ?_)
  revert h
  subst ha1
  intro h
  refine x_alen rfl (by decide) (by decide) dJ7_copyOf_59c91_2 ?_
  refine x_ic_ne (tgt := 14) dJ7_copyOf_59c91_3 (by decide) h (fun h => ?_) (fun h => ?_)
  · refine x_iload_n 1 dJ7_copyOf_59c91_14 rfl rfl ?_
    refine x_newa ak_17 at_int dJ7_copyOf_59c91_15 h (fun S2 hS2 h => ?_)
    refine x_astore_n (lo' := [(2, z_r 17 (some (zN S 17))), (0, z_r 17 (some a1)), (1, z_i x1)]) dJ7_copyOf_59c91_17 rfl (by decide) rfl ?_
    refine x_aload_n 1 dJ7_copyOf_59c91_18 rfl rfl ?_
    refine x_iconst (v := (0 : Int32)) dJ7_copyOf_59c91_19 (by decide) ?_
    refine x_aload_n 0 dJ7_copyOf_59c91_20 rfl rfl ?_
    refine x_iconst (v := (0 : Int32)) dJ7_copyOf_59c91_21 (by decide) ?_
    refine x_aload_n 1 dJ7_copyOf_59c91_22 rfl rfl ?_
    refine x_alen rfl (by decide) (by decide) dJ7_copyOf_59c91_23 ?_
    refine x_iload_n 2 dJ7_copyOf_59c91_24 rfl rfl ?_
    refine z_bnd h (fun q3 hq3 h => ?_)
    refine x_callS1 (w_J9_min_7cf53 hq3) cw_J9_min_7cf53 q_442 ⟨by decide, by decide⟩ (Nat.le_of_ble_eq_true rfl) dJ7_copyOf_59c91_25 rfl ?_
    refine x_acopy rfl rfl ak_17 q_443 q_445 q_444 q_79 ⟨by decide, by decide⟩ dJ7_copyOf_59c91_28 h (fun S4 hS4 h => ?_)
    refine x_aload_n 0 dJ7_copyOf_59c91_31 rfl rfl ?_
    exact x_aretE rfl (Or.inr ⟨_, rfl⟩) dJ7_copyOf_59c91_32 h
  · cases h
-- java/util/Arrays copyOf ([II)[I
def f_J7_copyOf_59c91_18 (x0 : Option Nat) (x1 : Int32) (S : ZH) : Option (Option Nat × ZH) :=
  (x0).bind fun a1 =>
  if ¬ x1 = (nI (zL S 18 a1)) then (
    (znw S 18 x1).bind fun S2 =>
    (f_J9_min_7cf53 (nI (zL S2 18 a1)) x1 S2).bind fun q3 =>
    (zacp S2 18 a1 (0 : Int32) (zN S 18) (0 : Int32) q3).bind fun S4 =>
    some (some (zN S 18), S4)
  ) else (
    none
  )
set_option maxRecDepth 20000 in
set_option maxHeartbeats 1000000 in
theorem w_J7_copyOf_59c91_18 {x0 : Option Nat} {x1 : Int32} {S : ZH} {q : Option Nat × ZH} (h : f_J7_copyOf_59c91_18 x0 x1 S = some q) : MetX Y_J7_copyOf_59c91 S [z_r 18 x0, z_i x1] (some (z_r 18 q.1)) q.2 := by
  refine MetX.ofF (lo := [(0, z_r 18 x0), (1, z_i x1)]) rfl (by decide +kernel) (Nat.le_of_ble_eq_true rfl) ?_
  unfold f_J7_copyOf_59c91_18 at h
  refine x_iload_n 1 dJ7_copyOf_59c91_0 rfl rfl ?_
  refine x_aload_n 0 dJ7_copyOf_59c91_1 rfl rfl ?_
  refine z_bnd h (fun a1 ha1 h => ?_)
  revert h
  subst ha1
  intro h
  refine x_alen rfl (by decide) (by decide) dJ7_copyOf_59c91_2 ?_
  refine x_ic_ne (tgt := 14) dJ7_copyOf_59c91_3 (by decide) h (fun h => ?_) (fun h => ?_)
  · refine x_iload_n 1 dJ7_copyOf_59c91_14 rfl rfl ?_
    refine x_newa ak_18 at_int dJ7_copyOf_59c91_15 h (fun S2 hS2 h => ?_)
    refine x_astore_n (lo' := [(2, z_r 18 (some (zN S 18))), (0, z_r 18 (some a1)), (1, z_i x1)]) dJ7_copyOf_59c91_17 rfl (by decide) rfl ?_
    refine x_aload_n 1 dJ7_copyOf_59c91_18 rfl rfl ?_
    refine x_iconst (v := (0 : Int32)) dJ7_copyOf_59c91_19 (by decide) ?_
    refine x_aload_n 0 dJ7_copyOf_59c91_20 rfl rfl ?_
    refine x_iconst (v := (0 : Int32)) dJ7_copyOf_59c91_21 (by decide) ?_
    refine x_aload_n 1 dJ7_copyOf_59c91_22 rfl rfl ?_
    refine x_alen rfl (by decide) (by decide) dJ7_copyOf_59c91_23 ?_
    refine x_iload_n 2 dJ7_copyOf_59c91_24 rfl rfl ?_
    refine z_bnd h (fun q3 hq3 h => ?_)
    refine x_callS1 (w_J9_min_7cf53 hq3) cw_J9_min_7cf53 q_442 ⟨by decide, by decide⟩ (Nat.le_of_ble_eq_true rfl) dJ7_copyOf_59c91_25 rfl ?_
    refine x_acopy rfl rfl ak_18 q_443 q_445 q_444 q_79 ⟨by decide, by decide⟩ dJ7_copyOf_59c91_28 h (fun S4 hS4 h => ?_)
    refine x_aload_n 0 dJ7_copyOf_59c91_31 rfl rfl ?_
    exact x_aretE rfl (Or.inr ⟨_, rfl⟩) dJ7_copyOf_59c91_32 h
  · cases h
-- PressedMen$Man makeRoom ()V
abbrev Y_X3_makeRoom : ZM := (yX3_makeRoom, cX3_makeRoom, 1, none, 2, 82)
theorem cw_X3_makeRoom : z_CV Y_X3_makeRoom 3 0 := ⟨⟨_, _, rfl⟩, by decide, q_430, q_7, q_431, q_78, ⟨by decide, by decide⟩, rfl⟩
def f_X3_makeRoom (n0 : Nat) (S : ZH) : Option (ZH) :=
  ((zR S 3 n0 11)).bind fun a1 =>
  if (zI S 3 n0 13) < (nI (zL S 17 a1)) then (
    some S
  ) else (
    (f_J7_copyOf_59c91_17 (zR S 3 n0 11) ((zI S 3 n0 13) * (2 : Int32)) S).bind fun q2 =>
    (f_J7_copyOf_59c91_18 (zR (zsR q2.2 3 n0 11 q2.1) 3 n0 12) ((zI (zsR q2.2 3 n0 11 q2.1) 3 n0 13) * (2 : Int32)) (zsR q2.2 3 n0 11 q2.1)).bind fun q3 =>
    some (zsR q3.2 3 n0 12 q3.1)
  )
set_option maxRecDepth 20000 in
set_option maxHeartbeats 1000000 in
theorem w_X3_makeRoom {n0 : Nat} {S : ZH} {q : ZH} (h : f_X3_makeRoom n0 S = some q) : MetX Y_X3_makeRoom S [z_r 3 (some n0)] none q := by
  refine MetX.of (lo := [(0, z_r 3 (some n0))]) rfl (by decide) (Nat.le_of_ble_eq_true rfl) ?_
  unfold f_X3_makeRoom at h
  refine x_aload_n 0 dX3_makeRoom_0 rfl rfl ?_
  refine x_getI rfl ck_3 13 (by decide) rfl q_332 dX3_makeRoom_1 ?_
  refine x_aload_n 0 dX3_makeRoom_4 rfl rfl ?_
  refine x_getR rfl ck_3 11 (by decide) rfl q_330 dX3_makeRoom_5 ?_
  refine z_bnd h (fun a1 ha1 h => ?_)
  refine x_alen ha1 (by decide) (by decide) dX3_makeRoom_8 ?_
  refine x_ic_lt (tgt := 46) dX3_makeRoom_9 (by decide) h (fun h => ?_) (fun h => ?_)
  · exact x_vretE rfl dX3_makeRoom_46 h
  · refine x_aload_n 0 dX3_makeRoom_12 rfl rfl ?_
    refine x_aload_n 0 dX3_makeRoom_13 rfl rfl ?_
    refine x_getR rfl ck_3 11 (by decide) rfl q_330 dX3_makeRoom_14 ?_
    refine x_aload_n 0 dX3_makeRoom_17 rfl rfl ?_
    refine x_getI rfl ck_3 13 (by decide) rfl q_332 dX3_makeRoom_18 ?_
    refine x_iconst (v := (2 : Int32)) dX3_makeRoom_21 (by decide) ?_
    refine x_imul dX3_makeRoom_22 ?_
    refine z_bnd h (fun q2 hq2 h => ?_)
    refine x_callS1 (w_J7_copyOf_59c91_17 hq2) cw_J7_copyOf_59c91 q_432 ⟨by decide, by decide⟩ (Nat.le_of_ble_eq_true rfl) dX3_makeRoom_23 rfl ?_
    refine x_putR rfl ck_3 11 (by decide) rfl (Or.inl rfl) (Or.inr ⟨_, rfl⟩) q_330 dX3_makeRoom_26 ?_
    refine x_aload_n 0 dX3_makeRoom_29 rfl rfl ?_
    refine x_aload_n 0 dX3_makeRoom_30 rfl rfl ?_
    refine x_getR rfl ck_3 12 (by decide) rfl q_331 dX3_makeRoom_31 ?_
    refine x_aload_n 0 dX3_makeRoom_34 rfl rfl ?_
    refine x_getI rfl ck_3 13 (by decide) rfl q_332 dX3_makeRoom_35 ?_
    refine x_iconst (v := (2 : Int32)) dX3_makeRoom_38 (by decide) ?_
    refine x_imul dX3_makeRoom_39 ?_
    refine z_bnd h (fun q3 hq3 h => ?_)
    refine x_callS1 (w_J7_copyOf_59c91_18 hq3) cw_J7_copyOf_59c91 q_432 ⟨by decide, by decide⟩ (Nat.le_of_ble_eq_true rfl) dX3_makeRoom_40 rfl ?_
    refine x_putR rfl ck_3 12 (by decide) rfl (Or.inl rfl) (Or.inr ⟨_, rfl⟩) q_331 dX3_makeRoom_43 ?_
    exact x_vretE rfl dX3_makeRoom_46 h
-- PressedMen$Man goTo (II)I
abbrev Y_X3_goTo : ZM := (yX3_goTo, cX3_goTo, 4, (some .int), 3, 102)
theorem cw_X3_goTo : z_CV Y_X3_goTo 3 2 := ⟨⟨_, _, rfl⟩, by decide, q_425, q_426, q_427, q_78, ⟨by decide, by decide⟩, rfl⟩
def j_X3_goTo_56 (n0 : Nat) (x1 : Int32) (x3 : Int32)  (S : ZH) : Option (Int32 × ZH) :=
  ((zR S 3 n0 12)).bind fun a4 =>
  (zst S 18 a4 ((zI S 3 n0 13) - (1 : Int32)) x1).bind fun S5 =>
  some (x3, S5)
def j_X3_goTo_32 (n0 : Nat) (x1 : Int32) (x2 : Int32) (x3 : Int32)  (S : ZH) : Option (Int32 × ZH) :=
  (f_X3_makeRoom n0 S).bind fun q1 =>
  ((zR q1 3 n0 11)).bind fun a2 =>
  (zst q1 17 a2 (zI q1 3 n0 13) x2).bind fun S3 =>
  j_X3_goTo_56 n0 x1 x3 (zsI S3 3 n0 13 ((zI S3 3 n0 13) + (1 : Int32)))
def f_X3_goTo (n0 : Nat) (x1 : Int32) (x2 : Int32) (S : ZH) : Option (Int32 × ZH) :=
  if (zI (zsI S 3 n0 8 x1) 3 n0 13) = 0 then (
    j_X3_goTo_32 n0 x1 x2 (zI S 3 n0 8) (zsI S 3 n0 8 x1)
  ) else (
    ((zR (zsI S 3 n0 8 x1) 3 n0 11)).bind fun a6 =>
    (zld (zsI S 3 n0 8 x1) 17 a6 ((zI (zsI S 3 n0 8 x1) 3 n0 13) - (1 : Int32))).bind fun v7 =>
    if v7 = x2 then (
      j_X3_goTo_56 n0 x1 (zI S 3 n0 8) (zsI S 3 n0 8 x1)
    ) else (
      j_X3_goTo_32 n0 x1 x2 (zI S 3 n0 8) (zsI S 3 n0 8 x1)
    )
  )
set_option maxRecDepth 20000 in
theorem k_X3_goTo_56 {S0 : ZH} {n0 : Nat} {x1 : Int32} {x3 : Int32}  {S : ZH} {z : Int32 × ZH} (h : j_X3_goTo_56 n0 x1 x3 S = some z) : Wp Y_X3_goTo S0 (zF S0 (some (z_i z.1)) z.2) 56 [(0, z_r 3 (some n0)), (1, z_i x1), (3, z_i x3)] [] S := by
  unfold j_X3_goTo_56 at h
  refine x_aload_n 0 dX3_goTo_56 rfl rfl ?_
  refine x_getR rfl ck_3 12 (by decide) rfl q_331 dX3_goTo_57 ?_
  refine x_aload_n 0 dX3_goTo_60 rfl rfl ?_
  refine x_getI rfl ck_3 13 (by decide) rfl q_332 dX3_goTo_61 ?_
  refine x_iconst (v := (1 : Int32)) dX3_goTo_64 (by decide) ?_
  refine x_isub dX3_goTo_65 ?_
  refine x_iload_n 1 dX3_goTo_66 rfl rfl ?_
  refine z_bnd h (fun a4 ha4 h => ?_)
  refine x_iastore ha4 ak_18 dX3_goTo_67 h (fun S5 hS5 h => ?_)
  refine x_iload_n 2 dX3_goTo_68 rfl rfl ?_
  exact x_iretE rfl dX3_goTo_69 h
set_option maxRecDepth 20000 in
theorem k_X3_goTo_32 {S0 : ZH} {n0 : Nat} {x1 : Int32} {x2 : Int32} {x3 : Int32}  {S : ZH} {z : Int32 × ZH} (h : j_X3_goTo_32 n0 x1 x2 x3 S = some z) : Wp Y_X3_goTo S0 (zF S0 (some (z_i z.1)) z.2) 32 [(0, z_r 3 (some n0)), (1, z_i x1), (2, z_i x2), (3, z_i x3)] [] S := by
  unfold j_X3_goTo_32 at h
  refine x_aload_n 0 dX3_goTo_32 rfl rfl ?_
  refine z_bnd h (fun q1 hq1 h => ?_)
  refine x_callVv rfl (w_X3_makeRoom hq1) cw_X3_makeRoom q_428 ⟨by decide, by decide⟩ (Nat.le_of_ble_eq_true rfl) dX3_goTo_33 rfl ?_
  refine x_aload_n 0 dX3_goTo_36 rfl rfl ?_
  refine x_getR rfl ck_3 11 (by decide) rfl q_330 dX3_goTo_37 ?_
  refine x_aload_n 0 dX3_goTo_40 rfl rfl ?_
  refine x_getI rfl ck_3 13 (by decide) rfl q_332 dX3_goTo_41 ?_
  refine x_iload_n 2 dX3_goTo_44 rfl rfl ?_
  refine z_bnd h (fun a2 ha2 h => ?_)
  refine x_iastore ha2 ak_17 dX3_goTo_45 h (fun S3 hS3 h => ?_)
  refine x_aload_n 0 dX3_goTo_46 rfl rfl ?_
  refine x_dup dX3_goTo_47 rfl ?_
  refine x_getI rfl ck_3 13 (by decide) rfl q_332 dX3_goTo_48 ?_
  refine x_iconst (v := (1 : Int32)) dX3_goTo_51 (by decide) ?_
  refine x_iadd dX3_goTo_52 ?_
  refine x_putI rfl ck_3 13 (by decide) rfl (Or.inl rfl) (by rfl) rfl q_332 dX3_goTo_53 ?_
  exact x_lo [0, 1, 3] rfl (k_X3_goTo_56 h)
set_option maxRecDepth 20000 in
set_option maxHeartbeats 1000000 in
theorem w_X3_goTo {n0 : Nat} {x1 : Int32} {x2 : Int32} {S : ZH} {q : Int32 × ZH} (h : f_X3_goTo n0 x1 x2 S = some q) : MetX Y_X3_goTo S [z_r 3 (some n0), z_i x1, z_i x2] (some (z_i q.1)) q.2 := by
  refine MetX.of (lo := [(0, z_r 3 (some n0)), (1, z_i x1), (2, z_i x2)]) rfl (by decide) (Nat.le_of_ble_eq_true rfl) ?_
  unfold f_X3_goTo at h
  refine x_aload_n 0 dX3_goTo_0 rfl rfl ?_
  refine x_getI rfl ck_3 8 (by decide) rfl q_325 dX3_goTo_1 ?_
  refine x_istore_n (lo' := [(3, z_i (zI S 3 n0 8)), (0, z_r 3 (some n0)), (1, z_i x1), (2, z_i x2)]) dX3_goTo_4 rfl (by decide) rfl ?_
  refine x_aload_n 1 dX3_goTo_5 rfl rfl ?_
  refine x_iload_n 2 dX3_goTo_6 rfl rfl ?_
  refine x_putI rfl ck_3 8 (by decide) rfl (Or.inl rfl) (by rfl) rfl q_325 dX3_goTo_7 ?_
  refine x_aload_n 1 dX3_goTo_10 rfl rfl ?_
  refine x_getI rfl ck_3 13 (by decide) rfl q_332 dX3_goTo_11 ?_
  refine x_if_eq (tgt := 32) dX3_goTo_14 (by decide) h (fun h => ?_) (fun h => ?_)
  · exact x_lo [1, 2, 3, 0] rfl (k_X3_goTo_32 h)
  · refine x_aload_n 1 dX3_goTo_17 rfl rfl ?_
    refine x_getR rfl ck_3 11 (by decide) rfl q_330 dX3_goTo_18 ?_
    refine x_aload_n 1 dX3_goTo_21 rfl rfl ?_
    refine x_getI rfl ck_3 13 (by decide) rfl q_332 dX3_goTo_22 ?_
    refine x_iconst (v := (1 : Int32)) dX3_goTo_25 (by decide) ?_
    refine x_isub dX3_goTo_26 ?_
    refine z_bnd h (fun a6 ha6 h => ?_)
    refine x_iaload ha6 ak_17 dX3_goTo_27 h (fun v7 hv7 h => ?_)
    refine x_iload_n 3 dX3_goTo_28 rfl rfl ?_
    refine x_ic_eq (tgt := 56) dX3_goTo_29 (by decide) h (fun h => ?_) (fun h => ?_)
    · exact x_lo [1, 2, 0] rfl (k_X3_goTo_56 h)
    · exact x_lo [1, 2, 3, 0] rfl (k_X3_goTo_32 h)
