-- PressedMen$Town <init> ()V
abbrev Y_X10_init : ZM := (yX10_init, cX10_init, 1, none, 1, 20)
theorem cw_X10_init : z_CI Y_X10_init 0 := ⟨rfl, rfl, q_99, q_100, q_71, ⟨by decide, by decide⟩, rfl⟩
def f_X10_init (n0 : Nat) (S : ZH) : Option (ZH) :=
  (znw (zsI S 10 n0 0 (4 : Int32)) 20 (64 : Int32)).bind fun S1 =>
  (znw (zsR S1 10 n0 1 (some (zN (zsI S 10 n0 0 (4 : Int32)) 20))) 21 (64 : Int32)).bind fun S2 =>
  some (zsR S2 10 n0 2 (some (zN (zsR S1 10 n0 1 (some (zN (zsI S 10 n0 0 (4 : Int32)) 20))) 21)))
set_option maxRecDepth 20000 in
set_option maxHeartbeats 1000000 in
theorem w_X10_init {n0 : Nat} {S : ZH} {q : ZH} (h : f_X10_init n0 S = some q) : MetX Y_X10_init S [z_r 10 (some n0)] none q := by
  refine MetX.of (lo := [(0, z_r 10 (some n0))]) rfl (by decide) (Nat.le_of_ble_eq_true rfl) ?_
  unfold f_X10_init at h
  refine x_aload_n 0 dX10_init_0 rfl rfl ?_
  refine x_objInit rfl q_101 q_94 q_95 ⟨by decide, by decide⟩ (Nat.le_of_ble_eq_true rfl) dX10_init_1 ?_
  refine x_aload_n 0 dX10_init_4 rfl rfl ?_
  refine x_iconst (v := (4 : Int32)) dX10_init_5 (by decide) ?_
  refine x_putI rfl ck_10 0 (by decide) rfl (Or.inl rfl) (by rfl) rfl q_102 dX10_init_6 ?_
  refine x_aload_n 0 dX10_init_9 rfl rfl ?_
  refine x_bipush (v := (64 : Int32)) dX10_init_10 (by decide) ?_
  refine x_newa ak_20 at_boolean dX10_init_12 h (fun S1 hS1 h => ?_)
  refine x_putR rfl ck_10 1 (by decide) rfl (Or.inr ⟨rfl, rfl, rfl⟩) (Or.inr ⟨_, rfl⟩) q_105 dX10_init_14 ?_
  refine x_aload_n 0 dX10_init_17 rfl rfl ?_
  refine x_bipush (v := (64 : Int32)) dX10_init_18 (by decide) ?_
  refine x_newa ak_21 at_int dX10_init_20 h (fun S2 hS2 h => ?_)
  refine x_putR rfl ck_10 2 (by decide) rfl (Or.inr ⟨rfl, rfl, rfl⟩) (Or.inr ⟨_, rfl⟩) q_106 dX10_init_22 ?_
  exact x_vretE rfl dX10_init_25 h
-- PressedMen$Register <init> ()V
abbrev Y_X5_init : ZM := (yX5_init, cX5_init, 1, none, 1, 20)
theorem cw_X5_init : z_CI Y_X5_init 0 := ⟨rfl, rfl, q_128, q_129, q_72, ⟨by decide, by decide⟩, rfl⟩
def f_X5_init (n0 : Nat) (S : ZH) : Option (ZH) :=
  (znw S 19 (60 : Int32)).bind fun S1 =>
  some (zsR S1 5 n0 1 (some (zN S 19)))
set_option maxRecDepth 20000 in
set_option maxHeartbeats 1000000 in
theorem w_X5_init {n0 : Nat} {S : ZH} {q : ZH} (h : f_X5_init n0 S = some q) : MetX Y_X5_init S [z_r 5 (some n0)] none q := by
  refine MetX.of (lo := [(0, z_r 5 (some n0))]) rfl (by decide) (Nat.le_of_ble_eq_true rfl) ?_
  unfold f_X5_init at h
  refine x_aload_n 0 dX5_init_0 rfl rfl ?_
  refine x_objInit rfl q_130 q_94 q_95 ⟨by decide, by decide⟩ (Nat.le_of_ble_eq_true rfl) dX5_init_1 ?_
  refine x_aload_n 0 dX5_init_4 rfl rfl ?_
  refine x_bipush (v := (60 : Int32)) dX5_init_5 (by decide) ?_
  refine x_newq ak_19 q_131 q_132 dX5_init_7 h (fun S1 hS1 h => ?_)
  refine x_putR rfl ck_5 1 (by decide) rfl (Or.inr ⟨rfl, rfl, rfl⟩) (Or.inr ⟨_, rfl⟩) q_135 dX5_init_10 ?_
  exact x_vretE rfl dX5_init_13 h
-- PressedMen$Gangs <init> (LPressedMen$Town;)V
abbrev Y_X1_init : ZM := (yX1_init, cX1_init, 2, none, 1, 20)
theorem cw_X1_init : z_CI Y_X1_init 1 := ⟨rfl, rfl, q_151, q_152, q_73, ⟨by decide, by decide⟩, rfl⟩
def f_X1_init (n0 : Nat) (x1 : Option Nat) (S : ZH) : Option (ZH) :=
  (znw S 14 (8 : Int32)).bind fun S1 =>
  (znw (zsR S1 1 n0 1 (some (zN S 14))) 15 (25 : Int32)).bind fun S2 =>
  (znw (zsR S2 1 n0 2 (some (zN (zsR S1 1 n0 1 (some (zN S 14))) 15))) 16 (6 : Int32)).bind fun S3 =>
  some (zsR (zsR S3 1 n0 3 (some (zN (zsR S2 1 n0 2 (some (zN (zsR S1 1 n0 1 (some (zN S 14))) 15))) 16))) 1 n0 0 x1)
set_option maxRecDepth 20000 in
set_option maxHeartbeats 1000000 in
theorem w_X1_init {n0 : Nat} {x1 : Option Nat} {S : ZH} {q : ZH} (h : f_X1_init n0 x1 S = some q) : MetX Y_X1_init S [z_r 1 (some n0), z_r 10 x1] none q := by
  refine MetX.of (lo := [(0, z_r 1 (some n0)), (1, z_r 10 x1)]) rfl (by decide) (Nat.le_of_ble_eq_true rfl) ?_
  unfold f_X1_init at h
  refine x_aload_n 0 dX1_init_0 rfl rfl ?_
  refine x_objInit rfl q_153 q_94 q_95 ⟨by decide, by decide⟩ (Nat.le_of_ble_eq_true rfl) dX1_init_1 ?_
  refine x_aload_n 0 dX1_init_4 rfl rfl ?_
  refine x_bipush (v := (8 : Int32)) dX1_init_5 (by decide) ?_
  refine x_newa ak_14 at_int dX1_init_7 h (fun S1 hS1 h => ?_)
  refine x_putR rfl ck_1 1 (by decide) rfl (Or.inr ⟨rfl, rfl, rfl⟩) (Or.inr ⟨_, rfl⟩) q_155 dX1_init_9 ?_
  refine x_aload_n 0 dX1_init_12 rfl rfl ?_
  refine x_bipush (v := (25 : Int32)) dX1_init_13 (by decide) ?_
  refine x_newa ak_15 at_int dX1_init_15 h (fun S2 hS2 h => ?_)
  refine x_putR rfl ck_1 2 (by decide) rfl (Or.inr ⟨rfl, rfl, rfl⟩) (Or.inr ⟨_, rfl⟩) q_156 dX1_init_17 ?_
  refine x_aload_n 0 dX1_init_20 rfl rfl ?_
  refine x_bipush (v := (6 : Int32)) dX1_init_21 (by decide) ?_
  refine x_newa ak_16 at_int dX1_init_23 h (fun S3 hS3 h => ?_)
  refine x_putR rfl ck_1 3 (by decide) rfl (Or.inr ⟨rfl, rfl, rfl⟩) (Or.inr ⟨_, rfl⟩) q_157 dX1_init_25 ?_
  refine x_aload_n 0 dX1_init_28 rfl rfl ?_
  refine x_aload_n 1 dX1_init_29 rfl rfl ?_
  refine x_putR rfl ck_1 0 (by decide) rfl (Or.inr ⟨rfl, rfl, rfl⟩) (Or.inl ⟨_, rfl⟩) q_154 dX1_init_30 ?_
  exact x_vretE rfl dX1_init_33 h
-- PressedMen$Levy <init> ()V
abbrev Y_X2_init : ZM := (yX2_init, cX2_init, 1, none, 1, 20)
theorem cw_X2_init : z_CI Y_X2_init 0 := ⟨rfl, rfl, q_170, q_171, q_74, ⟨by decide, by decide⟩, rfl⟩
def f_X2_init (n0 : Nat) (S : ZH) : Option (ZH) :=
  some S
set_option maxRecDepth 20000 in
set_option maxHeartbeats 1000000 in
theorem w_X2_init {n0 : Nat} {S : ZH} {q : ZH} (h : f_X2_init n0 S = some q) : MetX Y_X2_init S [z_r 2 (some n0)] none q := by
  refine MetX.of (lo := [(0, z_r 2 (some n0))]) rfl (by decide) (Nat.le_of_ble_eq_true rfl) ?_
  unfold f_X2_init at h
  refine x_aload_n 0 dX2_init_0 rfl rfl ?_
  refine x_objInit rfl q_172 q_94 q_95 ⟨by decide, by decide⟩ (Nat.le_of_ble_eq_true rfl) dX2_init_1 ?_
  exact x_vretE rfl dX2_init_4 h
-- java/util/Arrays fill ([II)V
abbrev Y_J7_fill_53178 : ZM := (yJ7_fill_53178, cJ7_fill_53178, 4, none, 0, 0)
theorem cw_J7_fill_53178 : z_CS Y_J7_fill_53178 2 := ⟨q_188, q_189, q_75, ⟨by decide, by decide⟩, rfl⟩
def b_J7_fill_53178_14_5 (n0 : Nat) (x1 : Int32) (x3 : Int32) (v : Int32 × ZH) : Option ((Int32 × ZH) ⊕ (ZH)) :=
  if x3 ≤ v.1 then (
    some (Sum.inr v.2)
  ) else (
    (zst v.2 14 n0 v.1 x1).bind fun S2 =>
    some (Sum.inl ((v.1 + 1), S2))
  )
def f_J7_fill_53178_14 (x0 : Option Nat) (x1 : Int32) (S : ZH) : Option (ZH) :=
  (x0).bind fun a1 =>
  (z_iter zFU (b_J7_fill_53178_14_5 a1 x1 (nI (zL S 14 a1))) ((0 : Int32), S)).bind fun t3 =>
  some t3
set_option maxRecDepth 20000 in
theorem l_J7_fill_53178_14_5 {S0 : ZH} {F : ZP} {n0 : Nat} {x1 : Int32} {x3 : Int32} {v : Int32 × ZH} {t : ZH} (h : z_iter zFU (b_J7_fill_53178_14_5 n0 x1 x3) v = some t) (k : (fun t => Wp Y_J7_fill_53178 S0 F 20 [] [] t) t) : Wp Y_J7_fill_53178 S0 F 5 [(0, z_r 14 (some n0)), (1, z_i x1), (2, z_i v.1), (3, z_i x3)] [] v.2 := by
  refine z_iter_P (P := fun v : Int32 × ZH => Wp Y_J7_fill_53178 S0 F 5 [(0, z_r 14 (some n0)), (1, z_i x1), (2, z_i v.1), (3, z_i x3)] [] v.2) (X := (fun t => Wp Y_J7_fill_53178 S0 F 20 [] [] t)) ?_ _ _ _ h k
  clear h k v t
  intro v r h k
  unfold b_J7_fill_53178_14_5 at h
  refine x_iload_n 2 dJ7_fill_53178_5 rfl rfl ?_
  refine x_iload_n 3 dJ7_fill_53178_6 rfl rfl ?_
  refine x_ic_ge (tgt := 20) dJ7_fill_53178_7 (by decide) h (fun h => ?_) (fun h => ?_)
  · cases h
    exact x_lo [] rfl k
  · refine x_aload_n 0 dJ7_fill_53178_10 rfl rfl ?_
    refine x_iload_n 2 dJ7_fill_53178_11 rfl rfl ?_
    refine x_iload_n 1 dJ7_fill_53178_12 rfl rfl ?_
    refine x_iastore rfl ak_14 dJ7_fill_53178_13 h (fun S2 hS2 h => ?_)
    refine x_iinc (v := (v.1 + 1)) (lo' := [(2, z_i (v.1 + 1)), (0, z_r 14 (some n0)), (1, z_i x1), (3, z_i x3)]) 2 dJ7_fill_53178_14 rfl (by rfl) (by decide) rfl ?_
    refine x_goto (tgt := 5) dJ7_fill_53178_17 (by decide) ?_
    cases h
    exact x_lo [1, 2, 0, 3] rfl k
set_option maxRecDepth 20000 in
set_option maxHeartbeats 1000000 in
theorem w_J7_fill_53178_14 {x0 : Option Nat} {x1 : Int32} {S : ZH} {q : ZH} (h : f_J7_fill_53178_14 x0 x1 S = some q) : MetX Y_J7_fill_53178 S [z_r 14 x0, z_i x1] none q := by
  refine MetX.of (lo := [(0, z_r 14 x0), (1, z_i x1)]) rfl (by decide) (Nat.le_of_ble_eq_true rfl) ?_
  unfold f_J7_fill_53178_14 at h
  refine x_iconst (v := (0 : Int32)) dJ7_fill_53178_0 (by decide) ?_
  refine x_istore_n (lo' := [(2, z_i (0 : Int32)), (0, z_r 14 x0), (1, z_i x1)]) dJ7_fill_53178_1 rfl (by decide) rfl ?_
  refine x_aload_n 1 dJ7_fill_53178_2 rfl rfl ?_
  refine z_bnd h (fun a1 ha1 h => ?_)
  revert h
  subst ha1
  intro h
  refine x_alen rfl (by decide) (by decide) dJ7_fill_53178_3 ?_
  refine x_istore_n (lo' := [(3, z_i (nI (zL S 14 a1))), (2, z_i (0 : Int32)), (0, z_r 14 (some a1)), (1, z_i x1)]) dJ7_fill_53178_4 rfl (by decide) rfl ?_
  refine z_bnd h (fun t3 ht3 h => ?_)
  refine x_lo [2, 3, 1, 0] rfl ?_
  refine l_J7_fill_53178_14_5 ht3 ?_
  exact x_vretE rfl dJ7_fill_53178_20 h
-- java/util/Arrays fill ([II)V
def b_J7_fill_53178_15_5 (n0 : Nat) (x1 : Int32) (x3 : Int32) (v : Int32 × ZH) : Option ((Int32 × ZH) ⊕ (ZH)) :=
  if x3 ≤ v.1 then (
    some (Sum.inr v.2)
  ) else (
    (zst v.2 15 n0 v.1 x1).bind fun S2 =>
    some (Sum.inl ((v.1 + 1), S2))
  )
def f_J7_fill_53178_15 (x0 : Option Nat) (x1 : Int32) (S : ZH) : Option (ZH) :=
  (x0).bind fun a1 =>
  (z_iter zFU (b_J7_fill_53178_15_5 a1 x1 (nI (zL S 15 a1))) ((0 : Int32), S)).bind fun t3 =>
  some t3
set_option maxRecDepth 20000 in
theorem l_J7_fill_53178_15_5 {S0 : ZH} {F : ZP} {n0 : Nat} {x1 : Int32} {x3 : Int32} {v : Int32 × ZH} {t : ZH} (h : z_iter zFU (b_J7_fill_53178_15_5 n0 x1 x3) v = some t) (k : (fun t => Wp Y_J7_fill_53178 S0 F 20 [] [] t) t) : Wp Y_J7_fill_53178 S0 F 5 [(0, z_r 15 (some n0)), (1, z_i x1), (2, z_i v.1), (3, z_i x3)] [] v.2 := by
  refine z_iter_P (P := fun v : Int32 × ZH => Wp Y_J7_fill_53178 S0 F 5 [(0, z_r 15 (some n0)), (1, z_i x1), (2, z_i v.1), (3, z_i x3)] [] v.2) (X := (fun t => Wp Y_J7_fill_53178 S0 F 20 [] [] t)) ?_ _ _ _ h k
  clear h k v t
  intro v r h k
  unfold b_J7_fill_53178_15_5 at h
  refine x_iload_n 2 dJ7_fill_53178_5 rfl rfl ?_
  refine x_iload_n 3 dJ7_fill_53178_6 rfl rfl ?_
  refine x_ic_ge (tgt := 20) dJ7_fill_53178_7 (by decide) h (fun h => ?_) (fun h => ?_)
  · cases h
    exact x_lo [] rfl k
  · refine x_aload_n 0 dJ7_fill_53178_10 rfl rfl ?_
    refine x_iload_n 2 dJ7_fill_53178_11 rfl rfl ?_
    refine x_iload_n 1 dJ7_fill_53178_12 rfl rfl ?_
    refine x_iastore rfl ak_15 dJ7_fill_53178_13 h (fun S2 hS2 h => ?_)
    refine x_iinc (v := (v.1 + 1)) (lo' := [(2, z_i (v.1 + 1)), (0, z_r 15 (some n0)), (1, z_i x1), (3, z_i x3)]) 2 dJ7_fill_53178_14 rfl (by rfl) (by decide) rfl ?_
    refine x_goto (tgt := 5) dJ7_fill_53178_17 (by decide) ?_
    cases h
    exact x_lo [1, 2, 0, 3] rfl k
set_option maxRecDepth 20000 in
set_option maxHeartbeats 1000000 in
theorem w_J7_fill_53178_15 {x0 : Option Nat} {x1 : Int32} {S : ZH} {q : ZH} (h : f_J7_fill_53178_15 x0 x1 S = some q) : MetX Y_J7_fill_53178 S [z_r 15 x0, z_i x1] none q := by
  refine MetX.of (lo := [(0, z_r 15 x0), (1, z_i x1)]) rfl (by decide) (Nat.le_of_ble_eq_true rfl) ?_
  unfold f_J7_fill_53178_15 at h
  refine x_iconst (v := (0 : Int32)) dJ7_fill_53178_0 (by decide) ?_
  refine x_istore_n (lo' := [(2, z_i (0 : Int32)), (0, z_r 15 x0), (1, z_i x1)]) dJ7_fill_53178_1 rfl (by decide) rfl ?_
  refine x_aload_n 1 dJ7_fill_53178_2 rfl rfl ?_
  refine z_bnd h (fun a1 ha1 h => ?_)
  revert h
  subst ha1
  intro h
  refine x_alen rfl (by decide) (by decide) dJ7_fill_53178_3 ?_
  refine x_istore_n (lo' := [(3, z_i (nI (zL S 15 a1))), (2, z_i (0 : Int32)), (0, z_r 15 (some a1)), (1, z_i x1)]) dJ7_fill_53178_4 rfl (by decide) rfl ?_
  refine z_bnd h (fun t3 ht3 h => ?_)
  refine x_lo [2, 3, 1, 0] rfl ?_
  refine l_J7_fill_53178_15_5 ht3 ?_
  exact x_vretE rfl dJ7_fill_53178_20 h
-- java/util/Arrays fill ([II)V
def b_J7_fill_53178_27_5 (n0 : Nat) (x1 : Int32) (x3 : Int32) (v : Int32 × ZH) : Option ((Int32 × ZH) ⊕ (ZH)) :=
  if x3 ≤ v.1 then (
    some (Sum.inr v.2)
  ) else (
    (zst v.2 27 n0 v.1 x1).bind fun S2 =>
    some (Sum.inl ((v.1 + 1), S2))
  )
def f_J7_fill_53178_27 (x0 : Option Nat) (x1 : Int32) (S : ZH) : Option (ZH) :=
  (x0).bind fun a1 =>
  (z_iter zFU (b_J7_fill_53178_27_5 a1 x1 (nI (zL S 27 a1))) ((0 : Int32), S)).bind fun t3 =>
  some t3
set_option maxRecDepth 20000 in
theorem l_J7_fill_53178_27_5 {S0 : ZH} {F : ZP} {n0 : Nat} {x1 : Int32} {x3 : Int32} {v : Int32 × ZH} {t : ZH} (h : z_iter zFU (b_J7_fill_53178_27_5 n0 x1 x3) v = some t) (k : (fun t => Wp Y_J7_fill_53178 S0 F 20 [] [] t) t) : Wp Y_J7_fill_53178 S0 F 5 [(0, z_r 27 (some n0)), (1, z_i x1), (2, z_i v.1), (3, z_i x3)] [] v.2 := by
  refine z_iter_P (P := fun v : Int32 × ZH => Wp Y_J7_fill_53178 S0 F 5 [(0, z_r 27 (some n0)), (1, z_i x1), (2, z_i v.1), (3, z_i x3)] [] v.2) (X := (fun t => Wp Y_J7_fill_53178 S0 F 20 [] [] t)) ?_ _ _ _ h k
  clear h k v t
  intro v r h k
  unfold b_J7_fill_53178_27_5 at h
  refine x_iload_n 2 dJ7_fill_53178_5 rfl rfl ?_
  refine x_iload_n 3 dJ7_fill_53178_6 rfl rfl ?_
  refine x_ic_ge (tgt := 20) dJ7_fill_53178_7 (by decide) h (fun h => ?_) (fun h => ?_)
  · cases h
    exact x_lo [] rfl k
  · refine x_aload_n 0 dJ7_fill_53178_10 rfl rfl ?_
    refine x_iload_n 2 dJ7_fill_53178_11 rfl rfl ?_
    refine x_iload_n 1 dJ7_fill_53178_12 rfl rfl ?_
    refine x_iastore rfl ak_27 dJ7_fill_53178_13 h (fun S2 hS2 h => ?_)
    refine x_iinc (v := (v.1 + 1)) (lo' := [(2, z_i (v.1 + 1)), (0, z_r 27 (some n0)), (1, z_i x1), (3, z_i x3)]) 2 dJ7_fill_53178_14 rfl (by rfl) (by decide) rfl ?_
    refine x_goto (tgt := 5) dJ7_fill_53178_17 (by decide) ?_
    cases h
    exact x_lo [1, 2, 0, 3] rfl k
set_option maxRecDepth 20000 in
set_option maxHeartbeats 1000000 in
theorem w_J7_fill_53178_27 {x0 : Option Nat} {x1 : Int32} {S : ZH} {q : ZH} (h : f_J7_fill_53178_27 x0 x1 S = some q) : MetX Y_J7_fill_53178 S [z_r 27 x0, z_i x1] none q := by
  refine MetX.of (lo := [(0, z_r 27 x0), (1, z_i x1)]) rfl (by decide) (Nat.le_of_ble_eq_true rfl) ?_
  unfold f_J7_fill_53178_27 at h
  refine x_iconst (v := (0 : Int32)) dJ7_fill_53178_0 (by decide) ?_
  refine x_istore_n (lo' := [(2, z_i (0 : Int32)), (0, z_r 27 x0), (1, z_i x1)]) dJ7_fill_53178_1 rfl (by decide) rfl ?_
  refine x_aload_n 1 dJ7_fill_53178_2 rfl rfl ?_
  refine z_bnd h (fun a1 ha1 h => ?_)
  revert h
  subst ha1
  intro h
  refine x_alen rfl (by decide) (by decide) dJ7_fill_53178_3 ?_
  refine x_istore_n (lo' := [(3, z_i (nI (zL S 27 a1))), (2, z_i (0 : Int32)), (0, z_r 27 (some a1)), (1, z_i x1)]) dJ7_fill_53178_4 rfl (by decide) rfl ?_
  refine z_bnd h (fun t3 ht3 h => ?_)
  refine x_lo [2, 3, 1, 0] rfl ?_
  refine l_J7_fill_53178_27_5 ht3 ?_
  exact x_vretE rfl dJ7_fill_53178_20 h
-- PressedMen <init> ()V
abbrev Y_X11_init : ZM := (yX11_init, cX11_init, 1, none, 2, 41)
theorem cw_X11_init : z_CI Y_X11_init 0 := ⟨rfl, rfl, q_91, q_92, q_70, ⟨by decide, by decide⟩, rfl⟩
def f_X11_init (n0 : Nat) (S : ZH) : Option (ZH) :=
  (zal S 10 4).bind fun S1 =>
  (f_X10_init (zN S 10) S1).bind fun q2 =>
  (znw (zsR q2 11 n0 0 (some (zN S 10))) 22 (40 : Int32)).bind fun S3 =>
  (znw (zsR S3 11 n0 1 (some (zN (zsR q2 11 n0 0 (some (zN S 10))) 22))) 23 (60 : Int32)).bind fun S4 =>
  (znw (zsR S4 11 n0 3 (some (zN (zsR S3 11 n0 1 (some (zN (zsR q2 11 n0 0 (some (zN S 10))) 22))) 23))) 24 (8 : Int32)).bind fun S5 =>
  (zal (zsR S5 11 n0 5 (some (zN (zsR S4 11 n0 3 (some (zN (zsR S3 11 n0 1 (some (zN (zsR q2 11 n0 0 (some (zN S 10))) 22))) 23))) 24))) 5 3).bind fun S6 =>
  (f_X5_init (zN (zsR S5 11 n0 5 (some (zN (zsR S4 11 n0 3 (some (zN (zsR S3 11 n0 1 (some (zN (zsR q2 11 n0 0 (some (zN S 10))) 22))) 23))) 24))) 5) S6).bind fun q7 =>
  (znw (zsR q7 11 n0 7 (some (zN (zsR S5 11 n0 5 (some (zN (zsR S4 11 n0 3 (some (zN (zsR S3 11 n0 1 (some (zN (zsR q2 11 n0 0 (some (zN S 10))) 22))) 23))) 24))) 5))) 25 (10 : Int32)).bind fun S8 =>
  (znw (zsR S8 11 n0 8 (some (zN (zsR q7 11 n0 7 (some (zN (zsR S5 11 n0 5 (some (zN (zsR S4 11 n0 3 (some (zN (zsR S3 11 n0 1 (some (zN (zsR q2 11 n0 0 (some (zN S 10))) 22))) 23))) 24))) 5))) 25))) 26 (40 : Int32)).bind fun S9 =>
  (znw (zsR S9 11 n0 10 (some (zN (zsR S8 11 n0 8 (some (zN (zsR q7 11 n0 7 (some (zN (zsR S5 11 n0 5 (some (zN (zsR S4 11 n0 3 (some (zN (zsR S3 11 n0 1 (some (zN (zsR q2 11 n0 0 (some (zN S 10))) 22))) 23))) 24))) 5))) 25))) 26))) 27 (10 : Int32)).bind fun S10 =>
  (znw (zsR S10 11 n0 12 (some (zN (zsR S9 11 n0 10 (some (zN (zsR S8 11 n0 8 (some (zN (zsR q7 11 n0 7 (some (zN (zsR S5 11 n0 5 (some (zN (zsR S4 11 n0 3 (some (zN (zsR S3 11 n0 1 (some (zN (zsR q2 11 n0 0 (some (zN S 10))) 22))) 23))) 24))) 5))) 25))) 26))) 27))) 28 (8 : Int32)).bind fun S11 =>
  (zal (zsR S11 11 n0 13 (some (zN (zsR S10 11 n0 12 (some (zN (zsR S9 11 n0 10 (some (zN (zsR S8 11 n0 8 (some (zN (zsR q7 11 n0 7 (some (zN (zsR S5 11 n0 5 (some (zN (zsR S4 11 n0 3 (some (zN (zsR S3 11 n0 1 (some (zN (zsR q2 11 n0 0 (some (zN S 10))) 22))) 23))) 24))) 5))) 25))) 26))) 27))) 28))) 1 4).bind fun S12 =>
  (f_X1_init (zN (zsR S11 11 n0 13 (some (zN (zsR S10 11 n0 12 (some (zN (zsR S9 11 n0 10 (some (zN (zsR S8 11 n0 8 (some (zN (zsR q7 11 n0 7 (some (zN (zsR S5 11 n0 5 (some (zN (zsR S4 11 n0 3 (some (zN (zsR S3 11 n0 1 (some (zN (zsR q2 11 n0 0 (some (zN S 10))) 22))) 23))) 24))) 5))) 25))) 26))) 27))) 28))) 1) (zR S12 11 n0 0) S12).bind fun q13 =>
  (zal (zsR q13 11 n0 14 (some (zN (zsR S11 11 n0 13 (some (zN (zsR S10 11 n0 12 (some (zN (zsR S9 11 n0 10 (some (zN (zsR S8 11 n0 8 (some (zN (zsR q7 11 n0 7 (some (zN (zsR S5 11 n0 5 (some (zN (zsR S4 11 n0 3 (some (zN (zsR S3 11 n0 1 (some (zN (zsR q2 11 n0 0 (some (zN S 10))) 22))) 23))) 24))) 5))) 25))) 26))) 27))) 28))) 1))) 2 4).bind fun S14 =>
  (f_X2_init (zN (zsR q13 11 n0 14 (some (zN (zsR S11 11 n0 13 (some (zN (zsR S10 11 n0 12 (some (zN (zsR S9 11 n0 10 (some (zN (zsR S8 11 n0 8 (some (zN (zsR q7 11 n0 7 (some (zN (zsR S5 11 n0 5 (some (zN (zsR S4 11 n0 3 (some (zN (zsR S3 11 n0 1 (some (zN (zsR q2 11 n0 0 (some (zN S 10))) 22))) 23))) 24))) 5))) 25))) 26))) 27))) 28))) 1))) 2) S14).bind fun q15 =>
  (f_J7_fill_53178_27 (zR (zsI (zsI (zsR q15 11 n0 15 (some (zN (zsR q13 11 n0 14 (some (zN (zsR S11 11 n0 13 (some (zN (zsR S10 11 n0 12 (some (zN (zsR S9 11 n0 10 (some (zN (zsR S8 11 n0 8 (some (zN (zsR q7 11 n0 7 (some (zN (zsR S5 11 n0 5 (some (zN (zsR S4 11 n0 3 (some (zN (zsR S3 11 n0 1 (some (zN (zsR q2 11 n0 0 (some (zN S 10))) 22))) 23))) 24))) 5))) 25))) 26))) 27))) 28))) 1))) 2))) 11 n0 17 (10 : Int32)) 11 n0 18 (50 : Int32)) 11 n0 12) (10000000 : Int32) (zsI (zsI (zsR q15 11 n0 15 (some (zN (zsR q13 11 n0 14 (some (zN (zsR S11 11 n0 13 (some (zN (zsR S10 11 n0 12 (some (zN (zsR S9 11 n0 10 (some (zN (zsR S8 11 n0 8 (some (zN (zsR q7 11 n0 7 (some (zN (zsR S5 11 n0 5 (some (zN (zsR S4 11 n0 3 (some (zN (zsR S3 11 n0 1 (some (zN (zsR q2 11 n0 0 (some (zN S 10))) 22))) 23))) 24))) 5))) 25))) 26))) 27))) 28))) 1))) 2))) 11 n0 17 (10 : Int32)) 11 n0 18 (50 : Int32))).bind fun q16 =>
  some q16
set_option maxRecDepth 20000 in
set_option maxHeartbeats 1000000 in
theorem w_X11_init {n0 : Nat} {S : ZH} {q : ZH} (h : f_X11_init n0 S = some q) : MetX Y_X11_init S [z_r 11 (some n0)] none q := by
  refine MetX.of (lo := [(0, z_r 11 (some n0))]) rfl (by decide) (Nat.le_of_ble_eq_true rfl) ?_
  unfold f_X11_init at h
  refine x_aload_n 0 dX11_init_0 rfl rfl ?_
  refine x_objInit rfl q_93 q_94 q_95 ⟨by decide, by decide⟩ (Nat.le_of_ble_eq_true rfl) dX11_init_1 ?_
  refine x_aload_n 0 dX11_init_4 rfl rfl ?_
  refine x_new ck_10 q_96 dX11_init_5 h (fun S1 hS1 h => ?_)
  refine x_dup dX11_init_8 rfl ?_
  refine z_bnd h (fun q2 hq2 h => ?_)
  refine x_callINv rfl (w_X10_init hq2) cw_X10_init q_98 ⟨by decide, by decide⟩ (Nat.le_of_ble_eq_true rfl) dX11_init_9 rfl ?_
  refine x_putR rfl ck_11 0 (by decide) rfl (Or.inr ⟨rfl, rfl, rfl⟩) (Or.inl ⟨_, rfl⟩) q_190 dX11_init_12 ?_
  refine x_aload_n 0 dX11_init_15 rfl rfl ?_
  refine x_bipush (v := (40 : Int32)) dX11_init_16 (by decide) ?_
  refine x_newq ak_22 q_119 q_120 dX11_init_18 h (fun S3 hS3 h => ?_)
  refine x_putR rfl ck_11 1 (by decide) rfl (Or.inr ⟨rfl, rfl, rfl⟩) (Or.inr ⟨_, rfl⟩) q_191 dX11_init_21 ?_
  refine x_aload_n 0 dX11_init_24 rfl rfl ?_
  refine x_bipush (v := (60 : Int32)) dX11_init_25 (by decide) ?_
  refine x_newq ak_23 q_121 q_122 dX11_init_27 h (fun S4 hS4 h => ?_)
  refine x_putR rfl ck_11 3 (by decide) rfl (Or.inr ⟨rfl, rfl, rfl⟩) (Or.inr ⟨_, rfl⟩) q_193 dX11_init_30 ?_
  refine x_aload_n 0 dX11_init_33 rfl rfl ?_
  refine x_bipush (v := (8 : Int32)) dX11_init_34 (by decide) ?_
  refine x_newq ak_24 q_123 q_124 dX11_init_36 h (fun S5 hS5 h => ?_)
  refine x_putR rfl ck_11 5 (by decide) rfl (Or.inr ⟨rfl, rfl, rfl⟩) (Or.inr ⟨_, rfl⟩) q_195 dX11_init_39 ?_
  refine x_aload_n 0 dX11_init_42 rfl rfl ?_
  refine x_new ck_5 q_125 dX11_init_43 h (fun S6 hS6 h => ?_)
  refine x_dup dX11_init_46 rfl ?_
  refine z_bnd h (fun q7 hq7 h => ?_)
  refine x_callINv rfl (w_X5_init hq7) cw_X5_init q_127 ⟨by decide, by decide⟩ (Nat.le_of_ble_eq_true rfl) dX11_init_47 rfl ?_
  refine x_putR rfl ck_11 7 (by decide) rfl (Or.inr ⟨rfl, rfl, rfl⟩) (Or.inl ⟨_, rfl⟩) q_197 dX11_init_50 ?_
  refine x_aload_n 0 dX11_init_53 rfl rfl ?_
  refine x_bipush (v := (10 : Int32)) dX11_init_54 (by decide) ?_
  refine x_newq ak_25 q_144 q_145 dX11_init_56 h (fun S8 hS8 h => ?_)
  refine x_putR rfl ck_11 8 (by decide) rfl (Or.inr ⟨rfl, rfl, rfl⟩) (Or.inr ⟨_, rfl⟩) q_198 dX11_init_59 ?_
  refine x_aload_n 0 dX11_init_62 rfl rfl ?_
  refine x_bipush (v := (40 : Int32)) dX11_init_63 (by decide) ?_
  refine x_newq ak_26 q_146 q_147 dX11_init_65 h (fun S9 hS9 h => ?_)
  refine x_putR rfl ck_11 10 (by decide) rfl (Or.inr ⟨rfl, rfl, rfl⟩) (Or.inr ⟨_, rfl⟩) q_200 dX11_init_68 ?_
  refine x_aload_n 0 dX11_init_71 rfl rfl ?_
  refine x_bipush (v := (10 : Int32)) dX11_init_72 (by decide) ?_
  refine x_newa ak_27 at_int dX11_init_74 h (fun S10 hS10 h => ?_)
  refine x_putR rfl ck_11 12 (by decide) rfl (Or.inr ⟨rfl, rfl, rfl⟩) (Or.inr ⟨_, rfl⟩) q_202 dX11_init_76 ?_
  refine x_aload_n 0 dX11_init_79 rfl rfl ?_
  refine x_bipush (v := (8 : Int32)) dX11_init_80 (by decide) ?_
  refine x_newa ak_28 at_int dX11_init_82 h (fun S11 hS11 h => ?_)
  refine x_putR rfl ck_11 13 (by decide) rfl (Or.inr ⟨rfl, rfl, rfl⟩) (Or.inr ⟨_, rfl⟩) q_203 dX11_init_84 ?_
  refine x_aload_n 0 dX11_init_87 rfl rfl ?_
  refine x_new ck_1 q_148 dX11_init_88 h (fun S12 hS12 h => ?_)
  refine x_dup dX11_init_91 rfl ?_
  refine x_aload_n 0 dX11_init_92 rfl rfl ?_
  refine x_getR rfl ck_11 0 (by decide) rfl q_190 dX11_init_93 ?_
  refine z_bnd h (fun q13 hq13 h => ?_)
  refine x_callIv rfl (w_X1_init hq13) cw_X1_init q_150 ⟨by decide, by decide⟩ (Nat.le_of_ble_eq_true rfl) dX11_init_96 rfl ?_
  refine x_putR rfl ck_11 14 (by decide) rfl (Or.inr ⟨rfl, rfl, rfl⟩) (Or.inl ⟨_, rfl⟩) q_204 dX11_init_99 ?_
  refine x_aload_n 0 dX11_init_102 rfl rfl ?_
  refine x_new ck_2 q_167 dX11_init_103 h (fun S14 hS14 h => ?_)
  refine x_dup dX11_init_106 rfl ?_
  refine z_bnd h (fun q15 hq15 h => ?_)
  refine x_callINv rfl (w_X2_init hq15) cw_X2_init q_169 ⟨by decide, by decide⟩ (Nat.le_of_ble_eq_true rfl) dX11_init_107 rfl ?_
  refine x_putR rfl ck_11 15 (by decide) rfl (Or.inr ⟨rfl, rfl, rfl⟩) (Or.inl ⟨_, rfl⟩) q_205 dX11_init_110 ?_
  refine x_aload_n 0 dX11_init_113 rfl rfl ?_
  refine x_bipush (v := (10 : Int32)) dX11_init_114 (by decide) ?_
  refine x_putI rfl ck_11 17 (by decide) rfl (Or.inl rfl) (by rfl) rfl q_207 dX11_init_116 ?_
  refine x_aload_n 0 dX11_init_119 rfl rfl ?_
  refine x_bipush (v := (50 : Int32)) dX11_init_120 (by decide) ?_
  refine x_putI rfl ck_11 18 (by decide) rfl (Or.inl rfl) (by rfl) rfl q_208 dX11_init_122 ?_
  refine x_aload_n 0 dX11_init_125 rfl rfl ?_
  refine x_getR rfl ck_11 12 (by decide) rfl q_202 dX11_init_126 ?_
  refine x_ldc dX11_init_129 q_186.1 ?_
  refine z_bnd h (fun q16 hq16 h => ?_)
  refine x_callSv (w_J7_fill_53178_27 hq16) cw_J7_fill_53178 q_187 ⟨by decide, by decide⟩ (Nat.le_of_ble_eq_true rfl) dX11_init_131 rfl ?_
  exact x_vretE rfl dX11_init_134 h
-- PressedMen within (III)Z
abbrev Y_X11_within : ZM := (yX11_within, cX11_within, 3, (some .boolean), 0, 0)
theorem cw_X11_within : z_CS Y_X11_within 3 := ⟨q_253, q_254, q_70, ⟨by decide, by decide⟩, rfl⟩
def f_X11_within (x0 : Int32) (x1 : Int32) (x2 : Int32) (S : ZH) : Option (Int32) :=
  if x0 < x1 then (
    some (0 : Int32)
  ) else (
    if x2 < x0 then (
      some (0 : Int32)
    ) else (
      some (1 : Int32)
    )
  )
set_option maxRecDepth 20000 in
set_option maxHeartbeats 1000000 in
theorem w_X11_within {x0 : Int32} {x1 : Int32} {x2 : Int32} {S : ZH} {q : Int32} (h : f_X11_within x0 x1 x2 S = some q) : MetX Y_X11_within S [z_i x0, z_i x1, z_i x2] (some (z_i q)) S := by
  refine MetX.of (lo := [(0, z_i x0), (1, z_i x1), (2, z_i x2)]) rfl (by decide) (Nat.le_of_ble_eq_true rfl) ?_
  unfold f_X11_within at h
  refine x_iload_n 0 dX11_within_0 rfl rfl ?_
  refine x_iload_n 1 dX11_within_1 rfl rfl ?_
  refine x_ic_lt (tgt := 14) dX11_within_2 (by decide) h (fun h => ?_) (fun h => ?_)
  · refine x_iconst (v := (0 : Int32)) dX11_within_14 (by decide) ?_
    exact x_zretC rfl (by decide) dX11_within_15 h
  · refine x_iload_n 0 dX11_within_5 rfl rfl ?_
    refine x_iload_n 2 dX11_within_6 rfl rfl ?_
    refine x_ic_gt (tgt := 14) dX11_within_7 (by decide) h (fun h => ?_) (fun h => ?_)
    · refine x_iconst (v := (0 : Int32)) dX11_within_14 (by decide) ?_
      exact x_zretC rfl (by decide) dX11_within_15 h
    · refine x_iconst (v := (1 : Int32)) dX11_within_10 (by decide) ?_
      refine x_goto (tgt := 15) dX11_within_11 (by decide) ?_
      exact x_zretC rfl (by decide) dX11_within_15 h
-- PressedMen$Town cell (II)I
abbrev Y_X10_cell : ZM := (yX10_cell, cX10_cell, 2, (some .int), 0, 0)
theorem cw_X10_cell : z_CS Y_X10_cell 2 := ⟨q_260, q_261, q_71, ⟨by decide, by decide⟩, rfl⟩
def f_X10_cell (x0 : Int32) (x1 : Int32) (S : ZH) : Option (Int32) :=
  some ((x0 * (8 : Int32)) + x1)
set_option maxRecDepth 20000 in
set_option maxHeartbeats 1000000 in
theorem w_X10_cell {x0 : Int32} {x1 : Int32} {S : ZH} {q : Int32} (h : f_X10_cell x0 x1 S = some q) : MetX Y_X10_cell S [z_i x0, z_i x1] (some (z_i q)) S := by
  refine MetX.of (lo := [(0, z_i x0), (1, z_i x1)]) rfl (by decide) (Nat.le_of_ble_eq_true rfl) ?_
  unfold f_X10_cell at h
  refine x_iload_n 0 dX10_cell_0 rfl rfl ?_
  refine x_bipush (v := (8 : Int32)) dX10_cell_1 (by decide) ?_
  refine x_imul dX10_cell_3 ?_
  refine x_iload_n 1 dX10_cell_4 rfl rfl ?_
  refine x_iadd dX10_cell_5 ?_
  exact x_iret rfl dX10_cell_6 h
-- PressedMen$Town resize (I)V
abbrev Y_X10_resize : ZM := (yX10_resize, cX10_resize, 4, none, 1, 21)
theorem cw_X10_resize : z_CV Y_X10_resize 10 1 := ⟨⟨_, _, rfl⟩, by decide, q_256, q_257, q_258, q_71, ⟨by decide, by decide⟩, rfl⟩
def b_X10_resize_20 (n0 : Nat) (x2 : Int32) (v : Int32 × ZH) : Option ((Int32 × ZH) ⊕ (ZH)) :=
  if (8 : Int32) ≤ v.1 then (
    some (Sum.inr v.2)
  ) else (
    (f_X10_cell x2 v.1 v.2).bind fun q1 =>
    ((zR v.2 10 n0 1)).bind fun a2 =>
    (zst v.2 20 a2 q1 (z_b (0 : Int32))).bind fun S3 =>
    (f_X10_cell v.1 x2 S3).bind fun q4 =>
    ((zR S3 10 n0 1)).bind fun a5 =>
    (zst S3 20 a5 q4 (z_b (0 : Int32))).bind fun S6 =>
    some (Sum.inl ((v.1 + 1), S6))
  )
def b_X10_resize_12 (n0 : Nat) (v : Int32 × ZH) : Option ((Int32 × ZH) ⊕ (ZH)) :=
  if (8 : Int32) ≤ v.1 then (
    some (Sum.inr v.2)
  ) else (
    (z_iter zFU (b_X10_resize_20 n0 v.1) ((0 : Int32), v.2)).bind fun t7 =>
    some (Sum.inl ((v.1 + 1), t7))
  )
def f_X10_resize (n0 : Nat) (x1 : Int32) (S : ZH) : Option (ZH) :=
  (z_iter zFU (b_X10_resize_12 n0) (x1, (zsI (zsI S 10 n0 0 x1) 10 n0 3 (0 : Int32)))).bind fun t8 =>
  some t8
set_option maxRecDepth 20000 in
theorem l_X10_resize_20 {S0 : ZH} {F : ZP} {n0 : Nat} {x2 : Int32} {v : Int32 × ZH} {t : ZH} (h : z_iter zFU (b_X10_resize_20 n0 x2) v = some t) (k : (fun t => Wp Y_X10_resize S0 F 54 [(0, z_r 10 (some n0)), (2, z_i x2)] [] t) t) : Wp Y_X10_resize S0 F 20 [(0, z_r 10 (some n0)), (2, z_i x2), (3, z_i v.1)] [] v.2 := by
  refine z_iter_P (P := fun v : Int32 × ZH => Wp Y_X10_resize S0 F 20 [(0, z_r 10 (some n0)), (2, z_i x2), (3, z_i v.1)] [] v.2) (X := (fun t => Wp Y_X10_resize S0 F 54 [(0, z_r 10 (some n0)), (2, z_i x2)] [] t)) ?_ _ _ _ h k
  clear h k v t
  intro v r h k
  unfold b_X10_resize_20 at h
  refine x_iload_n 2 dX10_resize_20 rfl rfl ?_
  refine x_bipush (v := (8 : Int32)) dX10_resize_21 (by decide) ?_
  refine x_ic_ge (tgt := 54) dX10_resize_23 (by decide) h (fun h => ?_) (fun h => ?_)
  · cases h
    exact x_lo [0, 1] rfl k
  · refine x_aload_n 0 dX10_resize_26 rfl rfl ?_
    refine x_getR rfl ck_10 1 (by decide) rfl q_105 dX10_resize_27 ?_
    refine x_iload_n 1 dX10_resize_30 rfl rfl ?_
    refine x_iload_n 2 dX10_resize_31 rfl rfl ?_
    refine z_bnd h (fun q1 hq1 h => ?_)
    refine x_callS1 (w_X10_cell hq1) cw_X10_cell q_259 ⟨by decide, by decide⟩ (Nat.le_of_ble_eq_true rfl) dX10_resize_32 rfl ?_
    refine x_iconst (v := (0 : Int32)) dX10_resize_35 (by decide) ?_
    refine z_bnd h (fun a2 ha2 h => ?_)
    refine x_zastore ha2 ak_20 dX10_resize_36 h (fun S3 hS3 h => ?_)
    refine x_aload_n 0 dX10_resize_37 rfl rfl ?_
    refine x_getR rfl ck_10 1 (by decide) rfl q_105 dX10_resize_38 ?_
    refine x_iload_n 2 dX10_resize_41 rfl rfl ?_
    refine x_iload_n 1 dX10_resize_42 rfl rfl ?_
    refine z_bnd h (fun q4 hq4 h => ?_)
    refine x_callS1 (w_X10_cell hq4) cw_X10_cell q_259 ⟨by decide, by decide⟩ (Nat.le_of_ble_eq_true rfl) dX10_resize_43 rfl ?_
    refine x_iconst (v := (0 : Int32)) dX10_resize_46 (by decide) ?_
    refine z_bnd h (fun a5 ha5 h => ?_)
    refine x_zastore ha5 ak_20 dX10_resize_47 h (fun S6 hS6 h => ?_)
    refine x_iinc (v := (v.1 + 1)) (lo' := [(3, z_i (v.1 + 1)), (0, z_r 10 (some n0)), (2, z_i x2)]) 2 dX10_resize_48 rfl (by rfl) (by decide) rfl ?_
    refine x_goto (tgt := 20) dX10_resize_51 (by decide) ?_
    cases h
    exact x_lo [1, 2, 0] rfl k
set_option maxRecDepth 20000 in
theorem l_X10_resize_12 {S0 : ZH} {F : ZP} {n0 : Nat} {v : Int32 × ZH} {t : ZH} (h : z_iter zFU (b_X10_resize_12 n0) v = some t) (k : (fun t => Wp Y_X10_resize S0 F 60 [] [] t) t) : Wp Y_X10_resize S0 F 12 [(0, z_r 10 (some n0)), (2, z_i v.1)] [] v.2 := by
  refine z_iter_P (P := fun v : Int32 × ZH => Wp Y_X10_resize S0 F 12 [(0, z_r 10 (some n0)), (2, z_i v.1)] [] v.2) (X := (fun t => Wp Y_X10_resize S0 F 60 [] [] t)) ?_ _ _ _ h k
  clear h k v t
  intro v r h k
  unfold b_X10_resize_12 at h
  refine x_iload_n 1 dX10_resize_12 rfl rfl ?_
  refine x_bipush (v := (8 : Int32)) dX10_resize_13 (by decide) ?_
  refine x_ic_ge (tgt := 60) dX10_resize_15 (by decide) h (fun h => ?_) (fun h => ?_)
  · cases h
    exact x_lo [] rfl k
  · refine x_iconst (v := (0 : Int32)) dX10_resize_18 (by decide) ?_
    refine x_istore_n (lo' := [(3, z_i (0 : Int32)), (0, z_r 10 (some n0)), (2, z_i v.1)]) dX10_resize_19 rfl (by decide) rfl ?_
    refine z_bnd h (fun t7 ht7 h => ?_)
    refine x_lo [1, 2, 0] rfl ?_
    refine l_X10_resize_20 ht7 ?_
    refine x_iinc (v := (v.1 + 1)) (lo' := [(2, z_i (v.1 + 1)), (0, z_r 10 (some n0))]) 1 dX10_resize_54 rfl (by rfl) (by decide) rfl ?_
    refine x_goto (tgt := 12) dX10_resize_57 (by decide) ?_
    cases h
    exact x_lo [1, 0] rfl k
set_option maxRecDepth 20000 in
set_option maxHeartbeats 1000000 in
theorem w_X10_resize {n0 : Nat} {x1 : Int32} {S : ZH} {q : ZH} (h : f_X10_resize n0 x1 S = some q) : MetX Y_X10_resize S [z_r 10 (some n0), z_i x1] none q := by
  refine MetX.of (lo := [(0, z_r 10 (some n0)), (1, z_i x1)]) rfl (by decide) (Nat.le_of_ble_eq_true rfl) ?_
  unfold f_X10_resize at h
  refine x_aload_n 0 dX10_resize_0 rfl rfl ?_
  refine x_iload_n 1 dX10_resize_1 rfl rfl ?_
  refine x_putI rfl ck_10 0 (by decide) rfl (Or.inl rfl) (by rfl) rfl q_102 dX10_resize_2 ?_
  refine x_aload_n 0 dX10_resize_5 rfl rfl ?_
  refine x_iconst (v := (0 : Int32)) dX10_resize_6 (by decide) ?_
  refine x_putI rfl ck_10 3 (by decide) rfl (Or.inl rfl) (by decide) rfl q_107 dX10_resize_7 ?_
  refine x_iload_n 1 dX10_resize_10 rfl rfl ?_
  refine x_istore_n (lo' := [(2, z_i x1), (0, z_r 10 (some n0)), (1, z_i x1)]) dX10_resize_11 rfl (by decide) rfl ?_
  refine z_bnd h (fun t8 ht8 h => ?_)
  refine x_lo [1, 0] rfl ?_
  refine l_X10_resize_12 ht8 ?_
  exact x_vretE rfl dX10_resize_60 h
-- PressedMen streets (I)I
abbrev Y_X11_streets : ZM := (yX11_streets, cX11_streets, 3, (some .int), 2, 44)
theorem cw_X11_streets : z_CV Y_X11_streets 11 1 := ⟨⟨_, _, rfl⟩, by decide, q_249, q_250, q_251, q_70, ⟨by decide, by decide⟩, rfl⟩
def f_X11_streets (n0 : Nat) (x1 : Int32) (S : ZH) : Option (Int32 × ZH) :=
  (f_X11_within x1 (1 : Int32) (8 : Int32) S).bind fun q1 =>
  if ¬ q1 = 0 then (
    if (zI S 11 n0 2) ≤ 0 then (
      ((zR S 11 n0 0)).bind fun a2 =>
      ((zR S 11 n0 0)).bind fun a3 =>
      (f_X10_resize a3 x1 S).bind fun q4 =>
      some ((zI S 10 a2 0), q4)
    ) else (
      some ((-3 : Int32), S)
    )
  ) else (
    some ((-2 : Int32), S)
  )
set_option maxRecDepth 20000 in
set_option maxHeartbeats 1000000 in
theorem w_X11_streets {n0 : Nat} {x1 : Int32} {S : ZH} {q : Int32 × ZH} (h : f_X11_streets n0 x1 S = some q) : MetX Y_X11_streets S [z_r 11 (some n0), z_i x1] (some (z_i q.1)) q.2 := by
  refine MetX.of (lo := [(0, z_r 11 (some n0)), (1, z_i x1)]) rfl (by decide) (Nat.le_of_ble_eq_true rfl) ?_
  unfold f_X11_streets at h
  refine x_iload_n 1 dX11_streets_0 rfl rfl ?_
  refine x_iconst (v := (1 : Int32)) dX11_streets_1 (by decide) ?_
  refine x_bipush (v := (8 : Int32)) dX11_streets_2 (by decide) ?_
  refine z_bnd h (fun q1 hq1 h => ?_)
  refine x_callS1 (w_X11_within hq1) cw_X11_within q_252 ⟨by decide, by decide⟩ (Nat.le_of_ble_eq_true rfl) dX11_streets_4 rfl ?_
  refine x_if_ne (tgt := 13) dX11_streets_7 (by decide) h (fun h => ?_) (fun h => ?_)
  · refine x_aload_n 0 dX11_streets_13 rfl rfl ?_
    refine x_getI rfl ck_11 2 (by decide) rfl q_192 dX11_streets_14 ?_
    refine x_if_le (tgt := 23) dX11_streets_17 (by decide) h (fun h => ?_) (fun h => ?_)
    · refine x_aload_n 0 dX11_streets_23 rfl rfl ?_
      refine x_getR rfl ck_11 0 (by decide) rfl q_190 dX11_streets_24 ?_
      refine z_bnd h (fun a2 ha2 h => ?_)
      refine x_getI ha2 ck_10 0 (by decide) rfl q_103 dX11_streets_27 ?_
      refine x_istore_n (lo' := [(2, z_i (zI S 10 a2 0)), (0, z_r 11 (some n0)), (1, z_i x1)]) dX11_streets_30 rfl (by decide) rfl ?_
      refine x_aload_n 1 dX11_streets_31 rfl rfl ?_
      refine x_getR rfl ck_11 0 (by decide) rfl q_190 dX11_streets_32 ?_
      refine x_iload_n 2 dX11_streets_35 rfl rfl ?_
      refine z_bnd h (fun a3 ha3 h => ?_)
      refine z_bnd h (fun q4 hq4 h => ?_)
      refine x_callVv ha3 (w_X10_resize hq4) cw_X10_resize q_255 ⟨by decide, by decide⟩ (Nat.le_of_ble_eq_true rfl) dX11_streets_36 rfl ?_
      refine x_iload_n 0 dX11_streets_39 rfl rfl ?_
      exact x_iretE rfl dX11_streets_40 h
    · refine x_bipush (v := (-3 : Int32)) dX11_streets_20 (by decide) ?_
      exact x_iretE rfl dX11_streets_22 h
  · refine x_bipush (v := (-2 : Int32)) dX11_streets_10 (by decide) ?_
    exact x_iretE rfl dX11_streets_12 h
-- PressedMen$Town has (I)Z
abbrev Y_X10_has : ZM := (yX10_has, cX10_has, 2, (some .boolean), 1, 22)
theorem cw_X10_has : z_CV Y_X10_has 10 1 := ⟨⟨_, _, rfl⟩, by decide, q_267, q_268, q_269, q_71, ⟨by decide, by decide⟩, rfl⟩
def f_X10_has (n0 : Nat) (x1 : Int32) (S : ZH) : Option (Int32) :=
  (f_X11_within x1 (0 : Int32) ((zI S 10 n0 0) - (1 : Int32)) S).bind fun q1 =>
  if z_b q1 = q1 then some q1 else none
set_option maxRecDepth 20000 in
set_option maxHeartbeats 1000000 in
theorem w_X10_has {n0 : Nat} {x1 : Int32} {S : ZH} {q : Int32} (h : f_X10_has n0 x1 S = some q) : MetX Y_X10_has S [z_r 10 (some n0), z_i x1] (some (z_i q)) S := by
  refine MetX.of (lo := [(0, z_r 10 (some n0)), (1, z_i x1)]) rfl (by decide) (Nat.le_of_ble_eq_true rfl) ?_
  unfold f_X10_has at h
  refine x_iload_n 1 dX10_has_0 rfl rfl ?_
  refine x_iconst (v := (0 : Int32)) dX10_has_1 (by decide) ?_
  refine x_aload_n 0 dX10_has_2 rfl rfl ?_
  refine x_getI rfl ck_10 0 (by decide) rfl q_102 dX10_has_3 ?_
  refine x_iconst (v := (1 : Int32)) dX10_has_6 (by decide) ?_
  refine x_isub dX10_has_7 ?_
  refine z_bnd h (fun q1 hq1 h => ?_)
  refine x_callSN1 (w_X11_within hq1) cw_X11_within q_270 ⟨by decide, by decide⟩ (Nat.le_of_ble_eq_true rfl) dX10_has_8 rfl ?_
  exact x_zret rfl dX10_has_11 h
